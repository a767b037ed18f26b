theorem u_1080 : Cond.fieldLink "KeyDriveModel" 1 "KeyDriveModel" "thrown" "I" ∈ U0 := um 1080 (by decide +kernel) (by decide +kernel)
theorem u_1172 : Cond.constantLong "KeyDriveModel" 174 40 ∈ U0 := um 1172 (by decide +kernel) (by decide +kernel)
theorem u_1300 : Cond.code yX9_isAt prog_11_method_43_code 1 (some .boolean) ∈ U0 := um 1300 (by decide +kernel) (by decide +kernel)
theorem u_1298 : Cond.methodLink "KeyDriveModel" 200 yX9_isAt ∈ U0 := um 1298 (by decide +kernel) (by decide +kernel)
theorem u_1299 : Cond.static yX9_isAt ∈ U0 := um 1299 (by decide +kernel) (by decide +kernel)
theorem u_1306 : Cond.code yX9_isKey prog_11_method_9_code 2 (some .boolean) ∈ U0 := um 1306 (by decide +kernel) (by decide +kernel)
theorem u_1303 : Cond.methodLink "KeyDriveModel" 203 yX9_isKey ∈ U0 := um 1303 (by decide +kernel) (by decide +kernel)
theorem u_1305 : Cond.instanceMethod yX9_isKey ∈ U0 := um 1305 (by decide +kernel) (by decide +kernel)
theorem u_39 : Cond.selects "KeyDriveModel" yX9_isKey yX9_isKey ∈ U0 := um 39 (by decide +kernel) (by decide +kernel)
theorem u_1091 : Cond.fieldLink "KeyDriveModel" 87 "KeyDriveModel" "answerLong" "I" ∈ U0 := um 1091 (by decide +kernel) (by decide +kernel)
theorem u_1099 : Cond.fieldLink "KeyDriveModel" 224 "KeyDriveModel" "wrong" "I" ∈ U0 := um 1099 (by decide +kernel) (by decide +kernel)
theorem u_1101 : Cond.fieldLink "KeyDriveModel" 244 "KeyDriveModel" "doneMany" "I" ∈ U0 := um 1101 (by decide +kernel) (by decide +kernel)
theorem u_1347 : Cond.constantLong "KeyDriveModel" 230 2 ∈ U0 := um 1347 (by decide +kernel) (by decide +kernel)
theorem u_1310 : Cond.code yX9_momentAt prog_11_method_42_code 2 (some .int) ∈ U0 := um 1310 (by decide +kernel) (by decide +kernel)
theorem u_1307 : Cond.methodLink "KeyDriveModel" 206 yX9_momentAt ∈ U0 := um 1307 (by decide +kernel) (by decide +kernel)
theorem u_1309 : Cond.instanceMethod yX9_momentAt ∈ U0 := um 1309 (by decide +kernel) (by decide +kernel)
theorem u_40 : Cond.selects "KeyDriveModel" yX9_momentAt yX9_momentAt ∈ U0 := um 40 (by decide +kernel) (by decide +kernel)
theorem dX9_feed_0 : decode cX9_feed 0 = .ok (.aload_n 0, 1) := by decide +kernel
theorem dX9_feed_1 : decode cX9_feed 1 = .ok (.iconst 0, 1) := by decide +kernel
theorem dX9_feed_2 : decode cX9_feed 2 = .ok (.putfield 1, 3) := by decide +kernel
theorem dX9_feed_5 : decode cX9_feed 5 = .ok (.aload_n 0, 1) := by decide +kernel
theorem dX9_feed_6 : decode cX9_feed 6 = .ok (.getfield 75, 3) := by decide +kernel
theorem dX9_feed_9 : decode cX9_feed 9 = .ok (.bipush 20, 2) := by decide +kernel
theorem dX9_feed_11 : decode cX9_feed 11 = .ok (.iadd, 1) := by decide +kernel
theorem dX9_feed_12 : decode cX9_feed 12 = .ok (.bipush 60, 2) := by decide +kernel
theorem dX9_feed_14 : decode cX9_feed 14 = .ok (.if_icmp .le 6, 3) := by decide +kernel
theorem dX9_feed_20 : decode cX9_feed 20 = .ok (.iconst 0, 1) := by decide +kernel
theorem dX9_feed_21 : decode cX9_feed 21 = .ok (.istore 6, 2) := by decide +kernel
theorem dX9_feed_23 : decode cX9_feed 23 = .ok (.iload 6, 2) := by decide +kernel
theorem dX9_feed_25 : decode cX9_feed 25 = .ok (.bipush 20, 2) := by decide +kernel
theorem dX9_feed_27 : decode cX9_feed 27 = .ok (.if_icmp .ge 93, 3) := by decide +kernel
theorem dX9_feed_30 : decode cX9_feed 30 = .ok (.iload 6, 2) := by decide +kernel
theorem dX9_feed_32 : decode cX9_feed 32 = .ok (.iconst 4, 1) := by decide +kernel
theorem dX9_feed_33 : decode cX9_feed 33 = .ok (.if_icmp .ge 7, 3) := by decide +kernel
theorem dX9_feed_36 : decode cX9_feed 36 = .ok (.iload_n 1, 1) := by decide +kernel
theorem dX9_feed_37 : decode cX9_feed 37 = .ok (.goto 39, 3) := by decide +kernel
theorem dX9_feed_40 : decode cX9_feed 40 = .ok (.iload 6, 2) := by decide +kernel
theorem dX9_feed_42 : decode cX9_feed 42 = .ok (.bipush 8, 2) := by decide +kernel
theorem dX9_feed_44 : decode cX9_feed 44 = .ok (.if_icmp .ge 7, 3) := by decide +kernel
theorem dX9_feed_47 : decode cX9_feed 47 = .ok (.iload_n 2, 1) := by decide +kernel
theorem dX9_feed_48 : decode cX9_feed 48 = .ok (.goto 28, 3) := by decide +kernel
theorem dX9_feed_51 : decode cX9_feed 51 = .ok (.iload 6, 2) := by decide +kernel
theorem dX9_feed_53 : decode cX9_feed 53 = .ok (.bipush 12, 2) := by decide +kernel
theorem dX9_feed_55 : decode cX9_feed 55 = .ok (.if_icmp .ge 7, 3) := by decide +kernel
theorem dX9_feed_58 : decode cX9_feed 58 = .ok (.iload_n 3, 1) := by decide +kernel
theorem dX9_feed_59 : decode cX9_feed 59 = .ok (.goto 17, 3) := by decide +kernel
theorem dX9_feed_62 : decode cX9_feed 62 = .ok (.iload 6, 2) := by decide +kernel
theorem dX9_feed_64 : decode cX9_feed 64 = .ok (.bipush 16, 2) := by decide +kernel
theorem dX9_feed_66 : decode cX9_feed 66 = .ok (.if_icmp .ge 8, 3) := by decide +kernel
theorem dX9_feed_69 : decode cX9_feed 69 = .ok (.iload 4, 2) := by decide +kernel
theorem dX9_feed_71 : decode cX9_feed 71 = .ok (.goto 5, 3) := by decide +kernel
theorem dX9_feed_74 : decode cX9_feed 74 = .ok (.iload 5, 2) := by decide +kernel
theorem dX9_feed_76 : decode cX9_feed 76 = .ok (.istore 7, 2) := by decide +kernel
theorem dX9_feed_78 : decode cX9_feed 78 = .ok (.aload_n 0, 1) := by decide +kernel
theorem dX9_feed_79 : decode cX9_feed 79 = .ok (.getfield 29, 3) := by decide +kernel
theorem dX9_feed_82 : decode cX9_feed 82 = .ok (.aload_n 0, 1) := by decide +kernel
theorem dX9_feed_83 : decode cX9_feed 83 = .ok (.getfield 75, 3) := by decide +kernel
theorem dX9_feed_86 : decode cX9_feed 86 = .ok (.iload 7, 2) := by decide +kernel
theorem dX9_feed_88 : decode cX9_feed 88 = .ok (.bipush 24, 2) := by decide +kernel
theorem dX9_feed_90 : decode cX9_feed 90 = .ok (.bipush 8, 2) := by decide +kernel
theorem dX9_feed_92 : decode cX9_feed 92 = .ok (.iload 6, 2) := by decide +kernel
theorem dX9_feed_94 : decode cX9_feed 94 = .ok (.iconst 4, 1) := by decide +kernel
theorem dX9_feed_95 : decode cX9_feed 95 = .ok (.irem, 1) := by decide +kernel
theorem dX9_feed_96 : decode cX9_feed 96 = .ok (.imul, 1) := by decide +kernel
theorem dX9_feed_97 : decode cX9_feed 97 = .ok (.isub, 1) := by decide +kernel
theorem dX9_feed_98 : decode cX9_feed 98 = .ok (.ishr, 1) := by decide +kernel
theorem dX9_feed_99 : decode cX9_feed 99 = .ok (.sipush 255, 3) := by decide +kernel
theorem dX9_feed_102 : decode cX9_feed 102 = .ok (.iand, 1) := by decide +kernel
theorem dX9_feed_103 : decode cX9_feed 103 = .ok (.iastore, 1) := by decide +kernel
theorem dX9_feed_104 : decode cX9_feed 104 = .ok (.aload_n 0, 1) := by decide +kernel
theorem dX9_feed_105 : decode cX9_feed 105 = .ok (.dup, 1) := by decide +kernel
theorem dX9_feed_106 : decode cX9_feed 106 = .ok (.getfield 75, 3) := by decide +kernel
theorem dX9_feed_109 : decode cX9_feed 109 = .ok (.iconst 1, 1) := by decide +kernel
theorem dX9_feed_110 : decode cX9_feed 110 = .ok (.iadd, 1) := by decide +kernel
theorem dX9_feed_111 : decode cX9_feed 111 = .ok (.putfield 75, 3) := by decide +kernel
theorem dX9_feed_114 : decode cX9_feed 114 = .ok (.iinc 6 1, 3) := by decide +kernel
theorem dX9_feed_117 : decode cX9_feed 117 = .ok (.goto (-94), 3) := by decide +kernel
theorem dX9_feed_120 : decode cX9_feed 120 = .ok (.aload_n 0, 1) := by decide +kernel
theorem dX9_feed_121 : decode cX9_feed 121 = .ok (.getfield 75, 3) := by decide +kernel
theorem dX9_feed_124 : decode cX9_feed 124 = .ok (.ireturn, 1) := by decide +kernel
theorem dX9_put_0 : decode cX9_put 0 = .ok (.aload_n 0, 1) := by decide +kernel
theorem dX9_put_1 : decode cX9_put 1 = .ok (.iconst 0, 1) := by decide +kernel
theorem dX9_put_2 : decode cX9_put 2 = .ok (.putfield 1, 3) := by decide +kernel
theorem dX9_put_5 : decode cX9_put 5 = .ok (.iload_n 1, 1) := by decide +kernel
theorem dX9_put_6 : decode cX9_put 6 = .ok (.i2l, 1) := by decide +kernel
theorem dX9_put_7 : decode cX9_put 7 = .ok (.lconst 1, 1) := by decide +kernel
theorem dX9_put_8 : decode cX9_put 8 = .ok (.ldc2_w 78, 3) := by decide +kernel
theorem dX9_put_11 : decode cX9_put 11 = .ok (.invokestatic 80, 3) := by decide +kernel
theorem dX9_put_14 : decode cX9_put 14 = .ok (.ifCond .eq 25, 3) := by decide +kernel
theorem dX9_put_17 : decode cX9_put 17 = .ok (.iload_n 2, 1) := by decide +kernel
theorem dX9_put_18 : decode cX9_put 18 = .ok (.i2l, 1) := by decide +kernel
theorem dX9_put_19 : decode cX9_put 19 = .ok (.lconst 0, 1) := by decide +kernel
theorem dX9_put_20 : decode cX9_put 20 = .ok (.ldc2_w 174, 3) := by decide +kernel
theorem dX9_put_23 : decode cX9_put 23 = .ok (.invokestatic 80, 3) := by decide +kernel
theorem dX9_put_26 : decode cX9_put 26 = .ok (.ifCond .eq 13, 3) := by decide +kernel
theorem dX9_put_29 : decode cX9_put 29 = .ok (.iload_n 1, 1) := by decide +kernel
theorem dX9_put_30 : decode cX9_put 30 = .ok (.iload_n 2, 1) := by decide +kernel
theorem dX9_put_31 : decode cX9_put 31 = .ok (.iadd, 1) := by decide +kernel
theorem dX9_put_32 : decode cX9_put 32 = .ok (.aload_n 0, 1) := by decide +kernel
theorem dX9_put_33 : decode cX9_put 33 = .ok (.getfield 75, 3) := by decide +kernel
theorem dX9_put_36 : decode cX9_put 36 = .ok (.if_icmp .le 6, 3) := by decide +kernel
theorem dX9_put_39 : decode cX9_put 39 = .ok (.bipush (-3), 2) := by decide +kernel
theorem dX9_put_41 : decode cX9_put 41 = .ok (.ireturn, 1) := by decide +kernel
theorem dX9_get_0 : decode cX9_get 0 = .ok (.aload_n 0, 1) := by decide +kernel
theorem dX9_get_1 : decode cX9_get 1 = .ok (.iconst 0, 1) := by decide +kernel
theorem dX9_get_2 : decode cX9_get 2 = .ok (.putfield 1, 3) := by decide +kernel
theorem dX9_get_5 : decode cX9_get 5 = .ok (.iload_n 2, 1) := by decide +kernel
theorem dX9_get_6 : decode cX9_get 6 = .ok (.invokestatic 200, 3) := by decide +kernel
theorem dX9_get_9 : decode cX9_get 9 = .ok (.ifCond .ne 6, 3) := by decide +kernel
theorem dX9_get_12 : decode cX9_get 12 = .ok (.bipush (-2), 2) := by decide +kernel
theorem dX9_get_14 : decode cX9_get 14 = .ok (.ireturn, 1) := by decide +kernel
theorem dX9_get_15 : decode cX9_get 15 = .ok (.aload_n 0, 1) := by decide +kernel
theorem dX9_get_16 : decode cX9_get 16 = .ok (.iload_n 1, 1) := by decide +kernel
theorem dX9_get_17 : decode cX9_get 17 = .ok (.invokevirtual 203, 3) := by decide +kernel
theorem dX9_get_20 : decode cX9_get 20 = .ok (.ifCond .ne 6, 3) := by decide +kernel
theorem dX9_get_23 : decode cX9_get 23 = .ok (.bipush (-3), 2) := by decide +kernel
theorem dX9_get_25 : decode cX9_get 25 = .ok (.ireturn, 1) := by decide +kernel
theorem dX9_answer_0 : decode cX9_answer 0 = .ok (.aload_n 0, 1) := by decide +kernel
theorem dX9_answer_1 : decode cX9_answer 1 = .ok (.iconst 0, 1) := by decide +kernel
theorem dX9_answer_2 : decode cX9_answer 2 = .ok (.putfield 1, 3) := by decide +kernel
theorem dX9_answer_5 : decode cX9_answer 5 = .ok (.iload_n 1, 1) := by decide +kernel
theorem dX9_answer_6 : decode cX9_answer 6 = .ok (.i2l, 1) := by decide +kernel
theorem dX9_answer_7 : decode cX9_answer 7 = .ok (.lconst 0, 1) := by decide +kernel
theorem dX9_answer_8 : decode cX9_answer 8 = .ok (.aload_n 0, 1) := by decide +kernel
theorem dX9_answer_9 : decode cX9_answer 9 = .ok (.getfield 87, 3) := by decide +kernel
theorem dX9_answer_12 : decode cX9_answer 12 = .ok (.iconst 1, 1) := by decide +kernel
theorem dX9_answer_13 : decode cX9_answer 13 = .ok (.isub, 1) := by decide +kernel
theorem dX9_answer_14 : decode cX9_answer 14 = .ok (.i2l, 1) := by decide +kernel
theorem dX9_answer_15 : decode cX9_answer 15 = .ok (.invokestatic 80, 3) := by decide +kernel
theorem dX9_answer_18 : decode cX9_answer 18 = .ok (.ifCond .eq 12, 3) := by decide +kernel
theorem dX9_answer_30 : decode cX9_answer 30 = .ok (.iconst (-1), 1) := by decide +kernel
theorem dX9_answer_31 : decode cX9_answer 31 = .ok (.ireturn, 1) := by decide +kernel
theorem dX9_remove_0 : decode cX9_remove 0 = .ok (.aload_n 0, 1) := by decide +kernel
theorem dX9_remove_1 : decode cX9_remove 1 = .ok (.iconst 0, 1) := by decide +kernel
theorem dX9_remove_2 : decode cX9_remove 2 = .ok (.putfield 1, 3) := by decide +kernel
theorem dX9_remove_5 : decode cX9_remove 5 = .ok (.aload_n 0, 1) := by decide +kernel
theorem dX9_remove_6 : decode cX9_remove 6 = .ok (.iload_n 1, 1) := by decide +kernel
theorem dX9_remove_7 : decode cX9_remove 7 = .ok (.invokevirtual 203, 3) := by decide +kernel
theorem dX9_remove_10 : decode cX9_remove 10 = .ok (.ifCond .ne 6, 3) := by decide +kernel
theorem dX9_remove_13 : decode cX9_remove 13 = .ok (.bipush (-3), 2) := by decide +kernel
theorem dX9_remove_15 : decode cX9_remove 15 = .ok (.ireturn, 1) := by decide +kernel
theorem dX9_versions_0 : decode cX9_versions 0 = .ok (.aload_n 0, 1) := by decide +kernel
theorem dX9_versions_1 : decode cX9_versions 1 = .ok (.iconst 0, 1) := by decide +kernel
theorem dX9_versions_2 : decode cX9_versions 2 = .ok (.putfield 1, 3) := by decide +kernel
theorem dX9_versions_5 : decode cX9_versions 5 = .ok (.aload_n 0, 1) := by decide +kernel
theorem dX9_versions_6 : decode cX9_versions 6 = .ok (.iload_n 1, 1) := by decide +kernel
theorem dX9_versions_7 : decode cX9_versions 7 = .ok (.invokevirtual 203, 3) := by decide +kernel
theorem dX9_versions_10 : decode cX9_versions 10 = .ok (.ifCond .ne 6, 3) := by decide +kernel
theorem dX9_versions_13 : decode cX9_versions 13 = .ok (.bipush (-3), 2) := by decide +kernel
theorem dX9_versions_15 : decode cX9_versions 15 = .ok (.ireturn, 1) := by decide +kernel
theorem dX9_version_0 : decode cX9_version 0 = .ok (.aload_n 0, 1) := by decide +kernel
theorem dX9_version_1 : decode cX9_version 1 = .ok (.iconst 0, 1) := by decide +kernel
theorem dX9_version_2 : decode cX9_version 2 = .ok (.putfield 1, 3) := by decide +kernel
theorem dX9_version_5 : decode cX9_version 5 = .ok (.iload_n 3, 1) := by decide +kernel
theorem dX9_version_6 : decode cX9_version 6 = .ok (.i2l, 1) := by decide +kernel
theorem dX9_version_7 : decode cX9_version 7 = .ok (.lconst 0, 1) := by decide +kernel
theorem dX9_version_8 : decode cX9_version 8 = .ok (.ldc2_w 198, 3) := by decide +kernel
theorem dX9_version_11 : decode cX9_version 11 = .ok (.invokestatic 80, 3) := by decide +kernel
theorem dX9_version_14 : decode cX9_version 14 = .ok (.ifCond .ne 6, 3) := by decide +kernel
theorem dX9_version_17 : decode cX9_version 17 = .ok (.bipush (-2), 2) := by decide +kernel
theorem dX9_version_19 : decode cX9_version 19 = .ok (.ireturn, 1) := by decide +kernel
theorem dX9_version_20 : decode cX9_version 20 = .ok (.aload_n 0, 1) := by decide +kernel
theorem dX9_version_21 : decode cX9_version 21 = .ok (.iload_n 1, 1) := by decide +kernel
theorem dX9_version_22 : decode cX9_version 22 = .ok (.invokevirtual 203, 3) := by decide +kernel
theorem dX9_version_25 : decode cX9_version 25 = .ok (.ifCond .ne 6, 3) := by decide +kernel
theorem dX9_version_28 : decode cX9_version 28 = .ok (.bipush (-3), 2) := by decide +kernel
theorem dX9_version_30 : decode cX9_version 30 = .ok (.ireturn, 1) := by decide +kernel
theorem dX9_hash_0 : decode cX9_hash 0 = .ok (.aload_n 0, 1) := by decide +kernel
theorem dX9_hash_1 : decode cX9_hash 1 = .ok (.iconst 0, 1) := by decide +kernel
theorem dX9_hash_2 : decode cX9_hash 2 = .ok (.putfield 1, 3) := by decide +kernel
theorem dX9_hash_5 : decode cX9_hash 5 = .ok (.aload_n 0, 1) := by decide +kernel
theorem dX9_hash_6 : decode cX9_hash 6 = .ok (.iload_n 1, 1) := by decide +kernel
theorem dX9_hash_7 : decode cX9_hash 7 = .ok (.invokevirtual 203, 3) := by decide +kernel
theorem dX9_hash_10 : decode cX9_hash 10 = .ok (.ifCond .ne 6, 3) := by decide +kernel
theorem dX9_hash_13 : decode cX9_hash 13 = .ok (.bipush (-3), 2) := by decide +kernel
theorem dX9_hash_15 : decode cX9_hash 15 = .ok (.ireturn, 1) := by decide +kernel
theorem dX9_batch_0 : decode cX9_batch 0 = .ok (.aload_n 0, 1) := by decide +kernel
theorem dX9_batch_1 : decode cX9_batch 1 = .ok (.iconst 0, 1) := by decide +kernel
theorem dX9_batch_2 : decode cX9_batch 2 = .ok (.putfield 1, 3) := by decide +kernel
theorem dX9_batch_5 : decode cX9_batch 5 = .ok (.iload_n 1, 1) := by decide +kernel
theorem dX9_batch_6 : decode cX9_batch 6 = .ok (.i2l, 1) := by decide +kernel
theorem dX9_batch_7 : decode cX9_batch 7 = .ok (.lconst 0, 1) := by decide +kernel
theorem dX9_batch_8 : decode cX9_batch 8 = .ok (.aload_n 0, 1) := by decide +kernel
theorem dX9_batch_9 : decode cX9_batch 9 = .ok (.getfield 75, 3) := by decide +kernel
theorem dX9_batch_12 : decode cX9_batch 12 = .ok (.i2l, 1) := by decide +kernel
theorem dX9_batch_13 : decode cX9_batch 13 = .ok (.invokestatic 80, 3) := by decide +kernel
theorem dX9_batch_16 : decode cX9_batch 16 = .ok (.ifCond .ne 6, 3) := by decide +kernel
theorem dX9_batch_19 : decode cX9_batch 19 = .ok (.bipush (-3), 2) := by decide +kernel
theorem dX9_batch_21 : decode cX9_batch 21 = .ok (.ireturn, 1) := by decide +kernel
theorem dX9_batch_22 : decode cX9_batch 22 = .ok (.aload_n 0, 1) := by decide +kernel
theorem dX9_batch_23 : decode cX9_batch 23 = .ok (.iconst 0, 1) := by decide +kernel
theorem dX9_batch_24 : decode cX9_batch 24 = .ok (.putfield 75, 3) := by decide +kernel
theorem dX9_batch_27 : decode cX9_batch 27 = .ok (.aload_n 0, 1) := by decide +kernel
theorem dX9_batch_28 : decode cX9_batch 28 = .ok (.iconst 0, 1) := by decide +kernel
theorem dX9_batch_29 : decode cX9_batch 29 = .ok (.putfield 224, 3) := by decide +kernel
theorem dX9_batch_32 : decode cX9_batch 32 = .ok (.aload_n 0, 1) := by decide +kernel
theorem dX9_batch_33 : decode cX9_batch 33 = .ok (.iconst (-1), 1) := by decide +kernel
theorem dX9_batch_34 : decode cX9_batch 34 = .ok (.putfield 53, 3) := by decide +kernel
theorem dX9_batch_37 : decode cX9_batch 37 = .ok (.iconst 0, 1) := by decide +kernel
theorem dX9_batch_38 : decode cX9_batch 38 = .ok (.istore_n 2, 1) := by decide +kernel
theorem dX9_batch_39 : decode cX9_batch 39 = .ok (.iload_n 2, 1) := by decide +kernel
theorem dX9_batch_40 : decode cX9_batch 40 = .ok (.iload_n 1, 1) := by decide +kernel
theorem dX9_batch_41 : decode cX9_batch 41 = .ok (.if_icmp .ge 20, 3) := by decide +kernel
theorem dX9_batch_61 : decode cX9_batch 61 = .ok (.aload_n 0, 1) := by decide +kernel
theorem dX9_batch_62 : decode cX9_batch 62 = .ok (.getfield 224, 3) := by decide +kernel
theorem dX9_batch_65 : decode cX9_batch 65 = .ok (.ifCond .eq 11, 3) := by decide +kernel
theorem dX9_batch_76 : decode cX9_batch 76 = .ok (.aload_n 0, 1) := by decide +kernel
theorem dX9_batch_77 : decode cX9_batch 77 = .ok (.invokevirtual 65, 3) := by decide +kernel
theorem dX9_batch_80 : decode cX9_batch 80 = .ok (.aload_n 0, 1) := by decide +kernel
theorem dX9_batch_81 : decode cX9_batch 81 = .ok (.iconst 0, 1) := by decide +kernel
theorem dX9_batch_82 : decode cX9_batch 82 = .ok (.putfield 244, 3) := by decide +kernel
theorem dX9_batch_85 : decode cX9_batch 85 = .ok (.iconst 0, 1) := by decide +kernel
theorem dX9_batch_86 : decode cX9_batch 86 = .ok (.istore_n 3, 1) := by decide +kernel
theorem dX9_batch_87 : decode cX9_batch 87 = .ok (.iload_n 3, 1) := by decide +kernel
theorem dX9_batch_88 : decode cX9_batch 88 = .ok (.iload_n 1, 1) := by decide +kernel
theorem dX9_batch_89 : decode cX9_batch 89 = .ok (.if_icmp .ge 31, 3) := by decide +kernel
theorem dX9_batch_120 : decode cX9_batch 120 = .ok (.aload_n 0, 1) := by decide +kernel
theorem dX9_batch_121 : decode cX9_batch 121 = .ok (.invokevirtual 68, 3) := by decide +kernel
theorem dX9_batch_124 : decode cX9_batch 124 = .ok (.iconst 0, 1) := by decide +kernel
theorem dX9_batch_125 : decode cX9_batch 125 = .ok (.istore_n 3, 1) := by decide +kernel
theorem dX9_batch_126 : decode cX9_batch 126 = .ok (.iconst 0, 1) := by decide +kernel
theorem dX9_batch_127 : decode cX9_batch 127 = .ok (.istore 4, 2) := by decide +kernel
theorem dX9_batch_129 : decode cX9_batch 129 = .ok (.iconst 0, 1) := by decide +kernel
theorem dX9_batch_130 : decode cX9_batch 130 = .ok (.istore 5, 2) := by decide +kernel
theorem dX9_batch_132 : decode cX9_batch 132 = .ok (.iload 5, 2) := by decide +kernel
theorem dX9_batch_134 : decode cX9_batch 134 = .ok (.iload_n 1, 1) := by decide +kernel
theorem dX9_batch_135 : decode cX9_batch 135 = .ok (.if_icmp .ge 75, 3) := by decide +kernel
theorem dX9_batch_210 : decode cX9_batch 210 = .ok (.iload_n 3, 1) := by decide +kernel
theorem dX9_batch_211 : decode cX9_batch 211 = .ok (.ireturn, 1) := by decide +kernel
theorem dX9_fault_0 : decode cX9_fault 0 = .ok (.aload_n 0, 1) := by decide +kernel
theorem dX9_fault_1 : decode cX9_fault 1 = .ok (.iconst 0, 1) := by decide +kernel
theorem dX9_fault_2 : decode cX9_fault 2 = .ok (.putfield 1, 3) := by decide +kernel
theorem dX9_fault_5 : decode cX9_fault 5 = .ok (.iload_n 1, 1) := by decide +kernel
theorem dX9_fault_6 : decode cX9_fault 6 = .ok (.ifCond .ne 10, 3) := by decide +kernel
theorem dX9_fault_9 : decode cX9_fault 9 = .ok (.aload_n 0, 1) := by decide +kernel
theorem dX9_fault_10 : decode cX9_fault 10 = .ok (.getfield 224, 3) := by decide +kernel
theorem dX9_fault_13 : decode cX9_fault 13 = .ok (.goto 16, 3) := by decide +kernel
theorem dX9_fault_16 : decode cX9_fault 16 = .ok (.iload_n 1, 1) := by decide +kernel
theorem dX9_fault_17 : decode cX9_fault 17 = .ok (.iconst 1, 1) := by decide +kernel
theorem dX9_fault_18 : decode cX9_fault 18 = .ok (.if_icmp .ne 10, 3) := by decide +kernel
theorem dX9_fault_21 : decode cX9_fault 21 = .ok (.aload_n 0, 1) := by decide +kernel
theorem dX9_fault_22 : decode cX9_fault 22 = .ok (.getfield 53, 3) := by decide +kernel
theorem dX9_fault_25 : decode cX9_fault 25 = .ok (.goto 4, 3) := by decide +kernel
theorem dX9_fault_28 : decode cX9_fault 28 = .ok (.iconst (-1), 1) := by decide +kernel
theorem dX9_fault_29 : decode cX9_fault 29 = .ok (.ireturn, 1) := by decide +kernel
theorem dX9_seek_0 : decode cX9_seek 0 = .ok (.aload_n 0, 1) := by decide +kernel
theorem dX9_seek_1 : decode cX9_seek 1 = .ok (.iconst 0, 1) := by decide +kernel
theorem dX9_seek_2 : decode cX9_seek 2 = .ok (.putfield 1, 3) := by decide +kernel
theorem dX9_seek_5 : decode cX9_seek 5 = .ok (.aload_n 0, 1) := by decide +kernel
theorem dX9_seek_6 : decode cX9_seek 6 = .ok (.iload_n 1, 1) := by decide +kernel
theorem dX9_seek_7 : decode cX9_seek 7 = .ok (.invokevirtual 203, 3) := by decide +kernel
theorem dX9_seek_10 : decode cX9_seek 10 = .ok (.ifCond .ne 6, 3) := by decide +kernel
theorem dX9_seek_13 : decode cX9_seek 13 = .ok (.bipush (-3), 2) := by decide +kernel
theorem dX9_seek_15 : decode cX9_seek 15 = .ok (.ireturn, 1) := by decide +kernel
theorem dX9_between_0 : decode cX9_between 0 = .ok (.aload_n 0, 1) := by decide +kernel
theorem dX9_between_1 : decode cX9_between 1 = .ok (.iconst 0, 1) := by decide +kernel
theorem dX9_between_2 : decode cX9_between 2 = .ok (.putfield 1, 3) := by decide +kernel
theorem dX9_between_5 : decode cX9_between 5 = .ok (.iload_n 1, 1) := by decide +kernel
theorem dX9_between_6 : decode cX9_between 6 = .ok (.i2l, 1) := by decide +kernel
theorem dX9_between_7 : decode cX9_between 7 = .ok (.lconst 1, 1) := by decide +kernel
theorem dX9_between_8 : decode cX9_between 8 = .ok (.ldc2_w 78, 3) := by decide +kernel
theorem dX9_between_11 : decode cX9_between 11 = .ok (.invokestatic 80, 3) := by decide +kernel
theorem dX9_between_14 : decode cX9_between 14 = .ok (.ifCond .eq 25, 3) := by decide +kernel
theorem dX9_between_17 : decode cX9_between 17 = .ok (.iload_n 2, 1) := by decide +kernel
theorem dX9_between_18 : decode cX9_between 18 = .ok (.i2l, 1) := by decide +kernel
theorem dX9_between_19 : decode cX9_between 19 = .ok (.lconst 1, 1) := by decide +kernel
theorem dX9_between_20 : decode cX9_between 20 = .ok (.ldc2_w 78, 3) := by decide +kernel
theorem dX9_between_23 : decode cX9_between 23 = .ok (.invokestatic 80, 3) := by decide +kernel
theorem dX9_between_26 : decode cX9_between 26 = .ok (.ifCond .eq 13, 3) := by decide +kernel
theorem dX9_between_29 : decode cX9_between 29 = .ok (.iload_n 1, 1) := by decide +kernel
theorem dX9_between_30 : decode cX9_between 30 = .ok (.iload_n 2, 1) := by decide +kernel
theorem dX9_between_31 : decode cX9_between 31 = .ok (.iadd, 1) := by decide +kernel
theorem dX9_between_32 : decode cX9_between 32 = .ok (.aload_n 0, 1) := by decide +kernel
theorem dX9_between_33 : decode cX9_between 33 = .ok (.getfield 75, 3) := by decide +kernel
theorem dX9_between_36 : decode cX9_between 36 = .ok (.if_icmp .le 6, 3) := by decide +kernel
theorem dX9_between_39 : decode cX9_between 39 = .ok (.bipush (-3), 2) := by decide +kernel
theorem dX9_between_41 : decode cX9_between 41 = .ok (.ireturn, 1) := by decide +kernel
theorem dX9_diff_0 : decode cX9_diff 0 = .ok (.aload_n 0, 1) := by decide +kernel
theorem dX9_diff_1 : decode cX9_diff 1 = .ok (.iconst 0, 1) := by decide +kernel
theorem dX9_diff_2 : decode cX9_diff 2 = .ok (.putfield 1, 3) := by decide +kernel
theorem dX9_diff_5 : decode cX9_diff 5 = .ok (.iload_n 1, 1) := by decide +kernel
theorem dX9_diff_6 : decode cX9_diff 6 = .ok (.i2l, 1) := by decide +kernel
theorem dX9_diff_7 : decode cX9_diff 7 = .ok (.lconst 0, 1) := by decide +kernel
theorem dX9_diff_8 : decode cX9_diff 8 = .ok (.ldc2_w 198, 3) := by decide +kernel
theorem dX9_diff_11 : decode cX9_diff 11 = .ok (.invokestatic 80, 3) := by decide +kernel
theorem dX9_diff_14 : decode cX9_diff 14 = .ok (.ifCond .eq 15, 3) := by decide +kernel
theorem dX9_diff_17 : decode cX9_diff 17 = .ok (.iload_n 2, 1) := by decide +kernel
theorem dX9_diff_18 : decode cX9_diff 18 = .ok (.i2l, 1) := by decide +kernel
theorem dX9_diff_19 : decode cX9_diff 19 = .ok (.lconst 0, 1) := by decide +kernel
theorem dX9_diff_20 : decode cX9_diff 20 = .ok (.ldc2_w 230, 3) := by decide +kernel
theorem dX9_diff_23 : decode cX9_diff 23 = .ok (.invokestatic 80, 3) := by decide +kernel
theorem dX9_diff_26 : decode cX9_diff 26 = .ok (.ifCond .ne 6, 3) := by decide +kernel
theorem dX9_diff_29 : decode cX9_diff 29 = .ok (.bipush (-2), 2) := by decide +kernel
theorem dX9_diff_31 : decode cX9_diff 31 = .ok (.ireturn, 1) := by decide +kernel
theorem dX9_diff_32 : decode cX9_diff 32 = .ok (.aload_n 0, 1) := by decide +kernel
theorem dX9_diff_33 : decode cX9_diff 33 = .ok (.getfield 14, 3) := by decide +kernel
theorem dX9_diff_36 : decode cX9_diff 36 = .ok (.bipush 55, 2) := by decide +kernel
theorem dX9_diff_38 : decode cX9_diff 38 = .ok (.iload_n 1, 1) := by decide +kernel
theorem dX9_diff_39 : decode cX9_diff 39 = .ok (.iadd, 1) := by decide +kernel
theorem dX9_diff_40 : decode cX9_diff 40 = .ok (.iaload, 1) := by decide +kernel
theorem dX9_diff_41 : decode cX9_diff 41 = .ok (.istore_n 3, 1) := by decide +kernel
theorem dX9_diff_42 : decode cX9_diff 42 = .ok (.iload_n 3, 1) := by decide +kernel
theorem dX9_diff_43 : decode cX9_diff 43 = .ok (.iconst (-1), 1) := by decide +kernel
theorem dX9_diff_44 : decode cX9_diff 44 = .ok (.if_icmp .ne 6, 3) := by decide +kernel
theorem dX9_diff_47 : decode cX9_diff 47 = .ok (.bipush (-6), 2) := by decide +kernel
theorem dX9_diff_49 : decode cX9_diff 49 = .ok (.ireturn, 1) := by decide +kernel
theorem dX9_roll_0 : decode cX9_roll 0 = .ok (.aload_n 0, 1) := by decide +kernel
theorem dX9_roll_1 : decode cX9_roll 1 = .ok (.iconst 0, 1) := by decide +kernel
theorem dX9_roll_2 : decode cX9_roll 2 = .ok (.putfield 1, 3) := by decide +kernel
theorem dX9_roll_5 : decode cX9_roll 5 = .ok (.iload_n 1, 1) := by decide +kernel
theorem dX9_roll_6 : decode cX9_roll 6 = .ok (.i2l, 1) := by decide +kernel
theorem dX9_roll_7 : decode cX9_roll 7 = .ok (.lconst 0, 1) := by decide +kernel
theorem dX9_roll_8 : decode cX9_roll 8 = .ok (.ldc2_w 198, 3) := by decide +kernel
theorem dX9_roll_11 : decode cX9_roll 11 = .ok (.invokestatic 80, 3) := by decide +kernel
theorem dX9_roll_14 : decode cX9_roll 14 = .ok (.ifCond .ne 6, 3) := by decide +kernel
theorem dX9_roll_17 : decode cX9_roll 17 = .ok (.bipush (-2), 2) := by decide +kernel
theorem dX9_roll_19 : decode cX9_roll 19 = .ok (.ireturn, 1) := by decide +kernel
theorem dX9_roll_20 : decode cX9_roll 20 = .ok (.aload_n 0, 1) := by decide +kernel
theorem dX9_roll_21 : decode cX9_roll 21 = .ok (.getfield 14, 3) := by decide +kernel
theorem dX9_roll_24 : decode cX9_roll 24 = .ok (.bipush 55, 2) := by decide +kernel
theorem dX9_roll_26 : decode cX9_roll 26 = .ok (.iload_n 1, 1) := by decide +kernel
theorem dX9_roll_27 : decode cX9_roll 27 = .ok (.iadd, 1) := by decide +kernel
theorem dX9_roll_28 : decode cX9_roll 28 = .ok (.iaload, 1) := by decide +kernel
theorem dX9_roll_29 : decode cX9_roll 29 = .ok (.iconst (-1), 1) := by decide +kernel
theorem dX9_roll_30 : decode cX9_roll 30 = .ok (.if_icmp .ne 6, 3) := by decide +kernel
theorem dX9_roll_33 : decode cX9_roll 33 = .ok (.bipush (-6), 2) := by decide +kernel
theorem dX9_roll_35 : decode cX9_roll 35 = .ok (.ireturn, 1) := by decide +kernel
theorem dX9_keys_0 : decode cX9_keys 0 = .ok (.aload_n 0, 1) := by decide +kernel
theorem dX9_keys_1 : decode cX9_keys 1 = .ok (.iconst 0, 1) := by decide +kernel
theorem dX9_keys_2 : decode cX9_keys 2 = .ok (.putfield 1, 3) := by decide +kernel
theorem dX9_keys_5 : decode cX9_keys 5 = .ok (.iload_n 1, 1) := by decide +kernel
theorem dX9_keys_6 : decode cX9_keys 6 = .ok (.invokestatic 200, 3) := by decide +kernel
theorem dX9_keys_9 : decode cX9_keys 9 = .ok (.ifCond .ne 6, 3) := by decide +kernel
theorem dX9_keys_12 : decode cX9_keys 12 = .ok (.bipush (-2), 2) := by decide +kernel
theorem dX9_keys_14 : decode cX9_keys 14 = .ok (.ireturn, 1) := by decide +kernel
theorem dX9_keys_15 : decode cX9_keys 15 = .ok (.aload_n 0, 1) := by decide +kernel
theorem dX9_keys_16 : decode cX9_keys 16 = .ok (.iload_n 1, 1) := by decide +kernel
theorem dX9_keys_17 : decode cX9_keys 17 = .ok (.invokevirtual 206, 3) := by decide +kernel
theorem dX9_keys_20 : decode cX9_keys 20 = .ok (.istore_n 2, 1) := by decide +kernel
theorem dX9_keys_21 : decode cX9_keys 21 = .ok (.iload_n 2, 1) := by decide +kernel
theorem dX9_keys_22 : decode cX9_keys 22 = .ok (.bipush (-6), 2) := by decide +kernel
theorem dX9_keys_24 : decode cX9_keys 24 = .ok (.if_icmp .ne 6, 3) := by decide +kernel
theorem dX9_keys_27 : decode cX9_keys 27 = .ok (.bipush (-6), 2) := by decide +kernel
theorem dX9_keys_29 : decode cX9_keys 29 = .ok (.ireturn, 1) := by decide +kernel
theorem dX9_keys_30 : decode cX9_keys 30 = .ok (.iconst 0, 1) := by decide +kernel
theorem dX9_keys_31 : decode cX9_keys 31 = .ok (.istore_n 3, 1) := by decide +kernel
theorem dX9_keys_32 : decode cX9_keys 32 = .ok (.iconst 0, 1) := by decide +kernel
theorem dX9_keys_33 : decode cX9_keys 33 = .ok (.istore 4, 2) := by decide +kernel
theorem dX9_keys_35 : decode cX9_keys 35 = .ok (.iload 4, 2) := by decide +kernel
theorem dX9_keys_37 : decode cX9_keys 37 = .ok (.aload_n 0, 1) := by decide +kernel
theorem dX9_keys_38 : decode cX9_keys 38 = .ok (.getfield 14, 3) := by decide +kernel
theorem dX9_keys_41 : decode cX9_keys 41 = .ok (.sipush 1628, 3) := by decide +kernel
theorem dX9_keys_44 : decode cX9_keys 44 = .ok (.iaload, 1) := by decide +kernel
theorem dX9_keys_45 : decode cX9_keys 45 = .ok (.if_icmp .ge 27, 3) := by decide +kernel
theorem dX9_keys_72 : decode cX9_keys 72 = .ok (.iload_n 3, 1) := by decide +kernel
theorem dX9_keys_73 : decode cX9_keys 73 = .ok (.ireturn, 1) := by decide +kernel
theorem dX9_groups_0 : decode cX9_groups 0 = .ok (.aload_n 0, 1) := by decide +kernel
theorem dX9_groups_1 : decode cX9_groups 1 = .ok (.iconst 0, 1) := by decide +kernel
theorem dX9_groups_2 : decode cX9_groups 2 = .ok (.putfield 1, 3) := by decide +kernel
theorem dX9_groups_5 : decode cX9_groups 5 = .ok (.iload_n 2, 1) := by decide +kernel
theorem dX9_groups_6 : decode cX9_groups 6 = .ok (.i2l, 1) := by decide +kernel
theorem dX9_groups_7 : decode cX9_groups 7 = .ok (.lconst 0, 1) := by decide +kernel
theorem dX9_groups_8 : decode cX9_groups 8 = .ok (.lconst 1, 1) := by decide +kernel
theorem dX9_groups_9 : decode cX9_groups 9 = .ok (.invokestatic 80, 3) := by decide +kernel
theorem dX9_groups_12 : decode cX9_groups 12 = .ok (.ifCond .ne 6, 3) := by decide +kernel
theorem dX9_groups_15 : decode cX9_groups 15 = .ok (.bipush (-2), 2) := by decide +kernel
theorem dX9_groups_17 : decode cX9_groups 17 = .ok (.ireturn, 1) := by decide +kernel
theorem dX9_groups_18 : decode cX9_groups 18 = .ok (.iload_n 1, 1) := by decide +kernel
theorem dX9_groups_19 : decode cX9_groups 19 = .ok (.i2l, 1) := by decide +kernel
theorem dX9_groups_20 : decode cX9_groups 20 = .ok (.lconst 1, 1) := by decide +kernel
theorem dX9_groups_21 : decode cX9_groups 21 = .ok (.ldc2_w 78, 3) := by decide +kernel
theorem dX9_groups_24 : decode cX9_groups 24 = .ok (.invokestatic 80, 3) := by decide +kernel
theorem dX9_groups_27 : decode cX9_groups 27 = .ok (.ifCond .ne 6, 3) := by decide +kernel
theorem dX9_groups_30 : decode cX9_groups 30 = .ok (.bipush (-3), 2) := by decide +kernel
theorem dX9_groups_32 : decode cX9_groups 32 = .ok (.ireturn, 1) := by decide +kernel
theorem dX9_groups_33 : decode cX9_groups 33 = .ok (.iconst 0, 1) := by decide +kernel
theorem dX9_groups_34 : decode cX9_groups 34 = .ok (.istore_n 3, 1) := by decide +kernel
theorem dX9_groups_35 : decode cX9_groups 35 = .ok (.iconst 0, 1) := by decide +kernel
theorem dX9_groups_36 : decode cX9_groups 36 = .ok (.istore 4, 2) := by decide +kernel
theorem dX9_groups_38 : decode cX9_groups 38 = .ok (.iconst 0, 1) := by decide +kernel
theorem dX9_groups_39 : decode cX9_groups 39 = .ok (.istore 5, 2) := by decide +kernel
theorem dX9_groups_41 : decode cX9_groups 41 = .ok (.iconst (-1), 1) := by decide +kernel
theorem dX9_groups_42 : decode cX9_groups 42 = .ok (.istore 6, 2) := by decide +kernel
theorem dX9_groups_44 : decode cX9_groups 44 = .ok (.iconst 0, 1) := by decide +kernel
theorem dX9_groups_45 : decode cX9_groups 45 = .ok (.istore 7, 2) := by decide +kernel
theorem dX9_groups_47 : decode cX9_groups 47 = .ok (.iload 7, 2) := by decide +kernel
theorem dX9_groups_49 : decode cX9_groups 49 = .ok (.aload_n 0, 1) := by decide +kernel
theorem dX9_groups_50 : decode cX9_groups 50 = .ok (.getfield 14, 3) := by decide +kernel
theorem dX9_groups_53 : decode cX9_groups 53 = .ok (.sipush 1628, 3) := by decide +kernel
theorem dX9_groups_56 : decode cX9_groups 56 = .ok (.iaload, 1) := by decide +kernel
theorem dX9_groups_57 : decode cX9_groups 57 = .ok (.if_icmp .ge 139, 3) := by decide +kernel
theorem dX9_groups_196 : decode cX9_groups 196 = .ok (.iload_n 2, 1) := by decide +kernel
theorem dX9_groups_197 : decode cX9_groups 197 = .ok (.ifCond .ne 7, 3) := by decide +kernel
theorem dX9_groups_200 : decode cX9_groups 200 = .ok (.iload_n 3, 1) := by decide +kernel
theorem dX9_groups_201 : decode cX9_groups 201 = .ok (.goto 5, 3) := by decide +kernel
theorem dX9_groups_204 : decode cX9_groups 204 = .ok (.iload 4, 2) := by decide +kernel
theorem dX9_groups_206 : decode cX9_groups 206 = .ok (.ireturn, 1) := by decide +kernel
theorem dX9_alike_0 : decode cX9_alike 0 = .ok (.aload_n 0, 1) := by decide +kernel
theorem dX9_alike_1 : decode cX9_alike 1 = .ok (.iconst 0, 1) := by decide +kernel
theorem dX9_alike_2 : decode cX9_alike 2 = .ok (.putfield 1, 3) := by decide +kernel
theorem dX9_alike_5 : decode cX9_alike 5 = .ok (.iload_n 1, 1) := by decide +kernel
theorem dX9_alike_6 : decode cX9_alike 6 = .ok (.i2l, 1) := by decide +kernel
theorem dX9_alike_7 : decode cX9_alike 7 = .ok (.lconst 0, 1) := by decide +kernel
theorem dX9_alike_8 : decode cX9_alike 8 = .ok (.lconst 1, 1) := by decide +kernel
theorem dX9_alike_9 : decode cX9_alike 9 = .ok (.invokestatic 80, 3) := by decide +kernel
theorem dX9_alike_12 : decode cX9_alike 12 = .ok (.ifCond .ne 6, 3) := by decide +kernel
theorem dX9_alike_15 : decode cX9_alike 15 = .ok (.bipush (-2), 2) := by decide +kernel
theorem dX9_alike_17 : decode cX9_alike 17 = .ok (.ireturn, 1) := by decide +kernel
theorem dX9_alike_18 : decode cX9_alike 18 = .ok (.iconst 0, 1) := by decide +kernel
theorem dX9_alike_19 : decode cX9_alike 19 = .ok (.istore_n 2, 1) := by decide +kernel
theorem dX9_alike_20 : decode cX9_alike 20 = .ok (.iconst 0, 1) := by decide +kernel
theorem dX9_alike_21 : decode cX9_alike 21 = .ok (.istore_n 3, 1) := by decide +kernel
theorem dX9_alike_22 : decode cX9_alike 22 = .ok (.iconst (-1), 1) := by decide +kernel
theorem dX9_alike_23 : decode cX9_alike 23 = .ok (.istore 4, 2) := by decide +kernel
theorem dX9_alike_25 : decode cX9_alike 25 = .ok (.iconst 0, 1) := by decide +kernel
theorem dX9_alike_26 : decode cX9_alike 26 = .ok (.istore 5, 2) := by decide +kernel
theorem dX9_alike_28 : decode cX9_alike 28 = .ok (.iload 5, 2) := by decide +kernel
theorem dX9_alike_30 : decode cX9_alike 30 = .ok (.aload_n 0, 1) := by decide +kernel
theorem dX9_alike_31 : decode cX9_alike 31 = .ok (.getfield 14, 3) := by decide +kernel
theorem dX9_alike_34 : decode cX9_alike 34 = .ok (.sipush 1628, 3) := by decide +kernel
theorem dX9_alike_37 : decode cX9_alike 37 = .ok (.iaload, 1) := by decide +kernel
theorem dX9_alike_38 : decode cX9_alike 38 = .ok (.if_icmp .ge 78, 3) := by decide +kernel
theorem dX9_alike_116 : decode cX9_alike 116 = .ok (.iload_n 1, 1) := by decide +kernel
theorem dX9_alike_117 : decode cX9_alike 117 = .ok (.ifCond .ne 7, 3) := by decide +kernel
theorem dX9_alike_120 : decode cX9_alike 120 = .ok (.iload_n 2, 1) := by decide +kernel
theorem dX9_alike_121 : decode cX9_alike 121 = .ok (.goto 4, 3) := by decide +kernel
theorem dX9_alike_124 : decode cX9_alike 124 = .ok (.iload_n 3, 1) := by decide +kernel
theorem dX9_alike_125 : decode cX9_alike 125 = .ok (.ireturn, 1) := by decide +kernel
theorem hd_X9_isAt : yX9_isAt.cls = RX9 ∧ yX9_isAt.cls ≠ "java/lang/invoke/MethodHandle" ∧ yX9_isAt.cls ≠ "java/lang/invoke/VarHandle" ∧ (parseMethodDescriptor yX9_isAt.desc).map (fun d => d.parameters.length) = some 1 := by decide +kernel
theorem hd_X9_isKey : yX9_isKey.cls = RX9 ∧ yX9_isKey.cls ≠ "java/lang/invoke/MethodHandle" ∧ yX9_isKey.cls ≠ "java/lang/invoke/VarHandle" ∧ (parseMethodDescriptor yX9_isKey.desc).map (fun d => d.parameters.length) = some 1 := by decide +kernel
theorem hd_X9_momentAt : yX9_momentAt.cls = RX9 ∧ yX9_momentAt.cls ≠ "java/lang/invoke/MethodHandle" ∧ yX9_momentAt.cls ≠ "java/lang/invoke/VarHandle" ∧ (parseMethodDescriptor yX9_momentAt.desc).map (fun d => d.parameters.length) = some 1 := by decide +kernel
abbrev rm_c_X9_feed : Room := { frames := 0, cells := 0, slots := 0, locals := 0 }
set_option maxHeartbeats 4000000 in
set_option maxRecDepth 100000 in
theorem c_X9_feed (l : Launch) (D : va_G) (cs : Nat → ClassId) (sz : Nat) (x : Int32) (y : Int32) (z : Int32) (x4 : Int32) (x5 : Int32) (md : Nat) (m_all : Nat) (m_deeds : Nat) (m_trial : Nat) (m_hasImage : Nat) (m_tape : Nat) (f_m_tape : Nat → Int32) (m_key : Nat) (m_answered : Nat) (m_goes : Nat) (m_hotOnes : Nat) (m_indexed : Nat) (m_isChanged : Nat) (m_valueNow : Nat) (m_didSome : Nat) (m_sizes : Nat) (m_ends : Nat)  : cMi l yX9_feed (Cond.code yX9_feed cX9_feed 8 (some .int)) (rm_c_X9_feed) D cs [.ref md, .int x, .int y, .int z, .int x4, .int x5] sz [(md, .inr (9, [.int 0, .ref m_all, .ref m_deeds, .ref m_trial, .int 0, .ref m_hasImage, .ref m_tape, .ref m_key, .ref m_answered, .int 0, .int 0, .int 0, .ref m_goes, .int 0, .ref m_hotOnes, .ref m_indexed, .ref m_isChanged, .int 0, .ref m_valueNow, .int 0, .int (-1), .int 0, .ref m_didSome, .ref m_sizes, .ref m_ends])), (m_tape, aI cs 60 f_m_tape)] (fun (r : Int32) (u : Unit) => (r = 20)) (fun (u : Unit) => []) := by
  refine kMet_i RX9 (by decide) rfl (Nat.le_of_ble_eq_true rfl) ?_
  intro p e s m below meth c ls A Qz H locs hx hb hml hown hin hu hK hsz hA hP hD hS hl hz
  subst hsz
  have hl : lv_has ls 8 [(0, .ref md), (1, .int x), (2, .int y), (3, .int z), (4, .int x4), (5, .int x5)] := hl
  refine lv_aload_n hx hb dX9_feed_0 rfl (lv_at hl 0 rfl) ?_
  refine lv_iconst (v := 0) hx hb dX9_feed_1 (by decide) ?_
  refine va_put (D := D) (ci := 9) (v := .int 0) (ty := tyX9 0) (C := RX9) (T := TX9) (N := 25) hx hb hu in_X9 tyX9 tyX9_ok nmX9 hown hK.1 hP hD hS 0 rfl rfl 0 (by decide) (hu _ u_1080) (fun _ h9 => h9) rfl (tyX9_ok 0 (by decide)) rfl rfl (Nat.le_of_ble_eq_true rfl) dX9_feed_2 (fun H locs hP hD hS => ?_)
  have hP : va_P D vwCl [(md, .inr (9, [.int 0, .ref m_all, .ref m_deeds, .ref m_trial, .int 0, .ref m_hasImage, .ref m_tape, .ref m_key, .ref m_answered, .int 0, .int 0, .int 0, .ref m_goes, .int 0, .ref m_hotOnes, .ref m_indexed, .ref m_isChanged, .int 0, .ref m_valueNow, .int 0, .int (-1), .int 0, .ref m_didSome, .ref m_sizes, .ref m_ends])), (m_tape, aI cs 60 f_m_tape)] H := hP
  have hD : va_D A [(md, .inr (9, [.int 0, .ref m_all, .ref m_deeds, .ref m_trial, .int 0, .ref m_hasImage, .ref m_tape, .ref m_key, .ref m_answered, .int 0, .int 0, .int 0, .ref m_goes, .int 0, .ref m_hotOnes, .ref m_indexed, .ref m_isChanged, .int 0, .ref m_valueNow, .int 0, .int (-1), .int 0, .ref m_didSome, .ref m_sizes, .ref m_ends])), (m_tape, aI cs 60 f_m_tape)] := hD
  refine lv_aload_n hx hb dX9_feed_5 rfl (lv_at hl 0 rfl) ?_
  refine va_get (D := D) (ci := 9) (v := .int 0) (C := RX9) (T := TX9) (N := 25) hx hb hu in_X9 hown hK.1 hP 0 rfl rfl 9 (by decide) (hu _ u_1089) (fun _ h9 => h9) rfl dX9_feed_6 ?_
  refine lv_bipush (v := 20) hx hb dX9_feed_9 (by decide) ?_
  refine lv_iadd hx hb dX9_feed_11 ?_
  refine tpi (y := 20) (by decide) ?_
  refine lv_bipush (v := 60) hx hb dX9_feed_12 (by decide) ?_
  refine lv_icmp_le (tgt := 20) hx hb dX9_feed_14 (by decide) (fun c_1 => ?_) (fun c_1 => absurd (by decide) c_1)
  refine lv_iconst (v := 0) hx hb dX9_feed_20 (by decide) ?_
  refine lv_istore (lv' := [(6, .int 0), (0, .ref md), (1, .int x), (2, .int y), (3, .int z), (4, .int x4), (5, .int x5)]) hx hb dX9_feed_21 hl (by decide) rfl (fun ls hl => ?_)
  refine lv_iload hx hb dX9_feed_23 (lv_at hl 0 rfl) ?_
  refine lv_bipush (v := 20) hx hb dX9_feed_25 (by decide) ?_
  refine lv_icmp_ge (tgt := 120) hx hb dX9_feed_27 (by decide) (fun c_2 => absurd c_2 (by decide)) (fun c_2 => ?_)
  refine lv_iload hx hb dX9_feed_30 (lv_at hl 0 rfl) ?_
  refine lv_iconst (v := 4) hx hb dX9_feed_32 (by decide) ?_
  refine lv_icmp_ge (tgt := 40) hx hb dX9_feed_33 (by decide) (fun c_3 => absurd c_3 (by decide)) (fun c_3 => ?_)
  refine lv_iload_n hx hb dX9_feed_36 rfl (lv_at hl 2 rfl) ?_
  refine lv_goto (tgt := 76) hx hb dX9_feed_37 (by decide) ?_
  refine lv_istore (lv' := [(7, .int x), (6, .int 0), (0, .ref md), (1, .int x), (2, .int y), (3, .int z), (4, .int x4), (5, .int x5)]) hx hb dX9_feed_76 hl (by decide) rfl (fun ls hl => ?_)
  refine lv_aload_n hx hb dX9_feed_78 rfl (lv_at hl 2 rfl) ?_
  refine va_get (D := D) (ci := 9) (v := .ref m_tape) (C := RX9) (T := TX9) (N := 25) hx hb hu in_X9 hown hK.1 hP 0 rfl rfl 6 (by decide) (hu _ u_1086) (fun _ h9 => h9) rfl dX9_feed_79 ?_
  refine lv_aload_n hx hb dX9_feed_82 rfl (lv_at hl 2 rfl) ?_
  refine va_get (D := D) (ci := 9) (v := .int 0) (C := RX9) (T := TX9) (N := 25) hx hb hu in_X9 hown hK.1 hP 0 rfl rfl 9 (by decide) (hu _ u_1089) (fun _ h9 => h9) rfl dX9_feed_83 ?_
  refine lv_iload hx hb dX9_feed_86 (lv_at hl 0 rfl) ?_
  refine lv_bipush (v := 24) hx hb dX9_feed_88 (by decide) ?_
  refine lv_bipush (v := 8) hx hb dX9_feed_90 (by decide) ?_
  refine lv_iload hx hb dX9_feed_92 (lv_at hl 1 rfl) ?_
  refine lv_iconst (v := 4) hx hb dX9_feed_94 (by decide) ?_
  refine lv_irem hx hb dX9_feed_95 (by decide) ?_
  refine tpi (y := 0) (by decide) ?_
  refine lv_imul hx hb dX9_feed_96 ?_
  refine tpi (y := 0) (by decide) ?_
  refine lv_isub hx hb dX9_feed_97 ?_
  refine tpi (y := 24) (by decide) ?_
  refine lv_ishr hx hb dX9_feed_98 ?_
  refine lv_sipush (v := 255) hx hb dX9_feed_99 (by decide) ?_
  refine lv_iand hx hb dX9_feed_102 ?_
  refine va_iast hx hb hK.1 hP hD hS 1 0 rfl rfl (vin_c _ _ rfl) dX9_feed_103 (fun H locs hP hD hS => ?_)
  have hP : va_P D vwCl [(md, .inr (9, [.int 0, .ref m_all, .ref m_deeds, .ref m_trial, .int 0, .ref m_hasImage, .ref m_tape, .ref m_key, .ref m_answered, .int 0, .int 0, .int 0, .ref m_goes, .int 0, .ref m_hotOnes, .ref m_indexed, .ref m_isChanged, .int 0, .ref m_valueNow, .int 0, .int (-1), .int 0, .ref m_didSome, .ref m_sizes, .ref m_ends])), (m_tape, aI cs 60 (upd f_m_tape (0 : Int32).toNatClampNeg ((x >>> (24 &&& 31)) &&& 255)))] H := hP
  have hD : va_D A [(md, .inr (9, [.int 0, .ref m_all, .ref m_deeds, .ref m_trial, .int 0, .ref m_hasImage, .ref m_tape, .ref m_key, .ref m_answered, .int 0, .int 0, .int 0, .ref m_goes, .int 0, .ref m_hotOnes, .ref m_indexed, .ref m_isChanged, .int 0, .ref m_valueNow, .int 0, .int (-1), .int 0, .ref m_didSome, .ref m_sizes, .ref m_ends])), (m_tape, aI cs 60 (upd f_m_tape (0 : Int32).toNatClampNeg ((x >>> (24 &&& 31)) &&& 255)))] := hD
  obtain ⟨g_4, eg_5⟩ : ∃ g9 : Nat → Int32, upd f_m_tape (0 : Int32).toNatClampNeg ((x >>> (24 &&& 31)) &&& 255) = g9 := ⟨_, rfl⟩
  rw [eg_5] at hP hD
  clear eg_5
  refine lv_aload_n hx hb dX9_feed_104 rfl (lv_at hl 2 rfl) ?_
  refine lv_dup hx hb dX9_feed_105 rfl ?_
  refine va_get (D := D) (ci := 9) (v := .int 0) (C := RX9) (T := TX9) (N := 25) hx hb hu in_X9 hown hK.1 hP 0 rfl rfl 9 (by decide) (hu _ u_1089) (fun _ h9 => h9) rfl dX9_feed_106 ?_
  refine lv_iconst (v := 1) hx hb dX9_feed_109 (by decide) ?_
  refine lv_iadd hx hb dX9_feed_110 ?_
  refine tpi (y := 1) (by decide) ?_
  refine va_put (D := D) (ci := 9) (v := .int 1) (ty := tyX9 9) (C := RX9) (T := TX9) (N := 25) hx hb hu in_X9 tyX9 tyX9_ok nmX9 hown hK.1 hP hD hS 0 rfl rfl 9 (by decide) (hu _ u_1089) (fun _ h9 => h9) rfl (tyX9_ok 9 (by decide)) rfl rfl (Nat.le_of_ble_eq_true rfl) dX9_feed_111 (fun H locs hP hD hS => ?_)
  have hP : va_P D vwCl [(md, .inr (9, [.int 0, .ref m_all, .ref m_deeds, .ref m_trial, .int 0, .ref m_hasImage, .ref m_tape, .ref m_key, .ref m_answered, .int 1, .int 0, .int 0, .ref m_goes, .int 0, .ref m_hotOnes, .ref m_indexed, .ref m_isChanged, .int 0, .ref m_valueNow, .int 0, .int (-1), .int 0, .ref m_didSome, .ref m_sizes, .ref m_ends])), (m_tape, aI cs 60 g_4)] H := hP
  have hD : va_D A [(md, .inr (9, [.int 0, .ref m_all, .ref m_deeds, .ref m_trial, .int 0, .ref m_hasImage, .ref m_tape, .ref m_key, .ref m_answered, .int 1, .int 0, .int 0, .ref m_goes, .int 0, .ref m_hotOnes, .ref m_indexed, .ref m_isChanged, .int 0, .ref m_valueNow, .int 0, .int (-1), .int 0, .ref m_didSome, .ref m_sizes, .ref m_ends])), (m_tape, aI cs 60 g_4)] := hD
  refine lv_iinc (v := 1) (lv' := [(6, .int 1), (7, .int x), (0, .ref md), (1, .int x), (2, .int y), (3, .int z), (4, .int x4), (5, .int x5)]) hx hb dX9_feed_114 hl (k := 1) rfl (by decide) (by decide) rfl (fun ls hl => ?_)
  refine lv_goto (tgt := 23) hx hb dX9_feed_117 (by decide) ?_
  refine lv_iload hx hb dX9_feed_23 (lv_at hl 0 rfl) ?_
  refine lv_bipush (v := 20) hx hb dX9_feed_25 (by decide) ?_
  refine lv_icmp_ge (tgt := 120) hx hb dX9_feed_27 (by decide) (fun c_6 => absurd c_6 (by decide)) (fun c_6 => ?_)
  refine lv_iload hx hb dX9_feed_30 (lv_at hl 0 rfl) ?_
  refine lv_iconst (v := 4) hx hb dX9_feed_32 (by decide) ?_
  refine lv_icmp_ge (tgt := 40) hx hb dX9_feed_33 (by decide) (fun c_7 => absurd c_7 (by decide)) (fun c_7 => ?_)
  refine lv_iload_n hx hb dX9_feed_36 rfl (lv_at hl 3 rfl) ?_
  refine lv_goto (tgt := 76) hx hb dX9_feed_37 (by decide) ?_
  refine lv_istore (lv' := [(7, .int x), (6, .int 1), (0, .ref md), (1, .int x), (2, .int y), (3, .int z), (4, .int x4), (5, .int x5)]) hx hb dX9_feed_76 hl (by decide) rfl (fun ls hl => ?_)
  refine lv_aload_n hx hb dX9_feed_78 rfl (lv_at hl 2 rfl) ?_
  refine va_get (D := D) (ci := 9) (v := .ref m_tape) (C := RX9) (T := TX9) (N := 25) hx hb hu in_X9 hown hK.1 hP 0 rfl rfl 6 (by decide) (hu _ u_1086) (fun _ h9 => h9) rfl dX9_feed_79 ?_
  refine lv_aload_n hx hb dX9_feed_82 rfl (lv_at hl 2 rfl) ?_
  refine va_get (D := D) (ci := 9) (v := .int 1) (C := RX9) (T := TX9) (N := 25) hx hb hu in_X9 hown hK.1 hP 0 rfl rfl 9 (by decide) (hu _ u_1089) (fun _ h9 => h9) rfl dX9_feed_83 ?_
  refine lv_iload hx hb dX9_feed_86 (lv_at hl 0 rfl) ?_
  refine lv_bipush (v := 24) hx hb dX9_feed_88 (by decide) ?_
  refine lv_bipush (v := 8) hx hb dX9_feed_90 (by decide) ?_
  refine lv_iload hx hb dX9_feed_92 (lv_at hl 1 rfl) ?_
  refine lv_iconst (v := 4) hx hb dX9_feed_94 (by decide) ?_
  refine lv_irem hx hb dX9_feed_95 (by decide) ?_
  refine tpi (y := 1) (by decide) ?_
  refine lv_imul hx hb dX9_feed_96 ?_
  refine tpi (y := 8) (by decide) ?_
  refine lv_isub hx hb dX9_feed_97 ?_
  refine tpi (y := 16) (by decide) ?_
  refine lv_ishr hx hb dX9_feed_98 ?_
  refine lv_sipush (v := 255) hx hb dX9_feed_99 (by decide) ?_
  refine lv_iand hx hb dX9_feed_102 ?_
  refine va_iast hx hb hK.1 hP hD hS 1 0 rfl rfl (vin_c _ _ rfl) dX9_feed_103 (fun H locs hP hD hS => ?_)
  have hP : va_P D vwCl [(md, .inr (9, [.int 0, .ref m_all, .ref m_deeds, .ref m_trial, .int 0, .ref m_hasImage, .ref m_tape, .ref m_key, .ref m_answered, .int 1, .int 0, .int 0, .ref m_goes, .int 0, .ref m_hotOnes, .ref m_indexed, .ref m_isChanged, .int 0, .ref m_valueNow, .int 0, .int (-1), .int 0, .ref m_didSome, .ref m_sizes, .ref m_ends])), (m_tape, aI cs 60 (upd g_4 (1 : Int32).toNatClampNeg ((x >>> (16 &&& 31)) &&& 255)))] H := hP
  have hD : va_D A [(md, .inr (9, [.int 0, .ref m_all, .ref m_deeds, .ref m_trial, .int 0, .ref m_hasImage, .ref m_tape, .ref m_key, .ref m_answered, .int 1, .int 0, .int 0, .ref m_goes, .int 0, .ref m_hotOnes, .ref m_indexed, .ref m_isChanged, .int 0, .ref m_valueNow, .int 0, .int (-1), .int 0, .ref m_didSome, .ref m_sizes, .ref m_ends])), (m_tape, aI cs 60 (upd g_4 (1 : Int32).toNatClampNeg ((x >>> (16 &&& 31)) &&& 255)))] := hD
  obtain ⟨g_8, eg_9⟩ : ∃ g9 : Nat → Int32, upd g_4 (1 : Int32).toNatClampNeg ((x >>> (16 &&& 31)) &&& 255) = g9 := ⟨_, rfl⟩
  rw [eg_9] at hP hD
  clear eg_9
  refine lv_aload_n hx hb dX9_feed_104 rfl (lv_at hl 2 rfl) ?_
  refine lv_dup hx hb dX9_feed_105 rfl ?_
  refine va_get (D := D) (ci := 9) (v := .int 1) (C := RX9) (T := TX9) (N := 25) hx hb hu in_X9 hown hK.1 hP 0 rfl rfl 9 (by decide) (hu _ u_1089) (fun _ h9 => h9) rfl dX9_feed_106 ?_
  refine lv_iconst (v := 1) hx hb dX9_feed_109 (by decide) ?_
  refine lv_iadd hx hb dX9_feed_110 ?_
  refine tpi (y := 2) (by decide) ?_
  refine va_put (D := D) (ci := 9) (v := .int 2) (ty := tyX9 9) (C := RX9) (T := TX9) (N := 25) hx hb hu in_X9 tyX9 tyX9_ok nmX9 hown hK.1 hP hD hS 0 rfl rfl 9 (by decide) (hu _ u_1089) (fun _ h9 => h9) rfl (tyX9_ok 9 (by decide)) rfl rfl (Nat.le_of_ble_eq_true rfl) dX9_feed_111 (fun H locs hP hD hS => ?_)
  have hP : va_P D vwCl [(md, .inr (9, [.int 0, .ref m_all, .ref m_deeds, .ref m_trial, .int 0, .ref m_hasImage, .ref m_tape, .ref m_key, .ref m_answered, .int 2, .int 0, .int 0, .ref m_goes, .int 0, .ref m_hotOnes, .ref m_indexed, .ref m_isChanged, .int 0, .ref m_valueNow, .int 0, .int (-1), .int 0, .ref m_didSome, .ref m_sizes, .ref m_ends])), (m_tape, aI cs 60 g_8)] H := hP
  have hD : va_D A [(md, .inr (9, [.int 0, .ref m_all, .ref m_deeds, .ref m_trial, .int 0, .ref m_hasImage, .ref m_tape, .ref m_key, .ref m_answered, .int 2, .int 0, .int 0, .ref m_goes, .int 0, .ref m_hotOnes, .ref m_indexed, .ref m_isChanged, .int 0, .ref m_valueNow, .int 0, .int (-1), .int 0, .ref m_didSome, .ref m_sizes, .ref m_ends])), (m_tape, aI cs 60 g_8)] := hD
  refine lv_iinc (v := 2) (lv' := [(6, .int 2), (7, .int x), (0, .ref md), (1, .int x), (2, .int y), (3, .int z), (4, .int x4), (5, .int x5)]) hx hb dX9_feed_114 hl (k := 1) rfl (by decide) (by decide) rfl (fun ls hl => ?_)
  refine lv_goto (tgt := 23) hx hb dX9_feed_117 (by decide) ?_
  refine lv_iload hx hb dX9_feed_23 (lv_at hl 0 rfl) ?_
  refine lv_bipush (v := 20) hx hb dX9_feed_25 (by decide) ?_
  refine lv_icmp_ge (tgt := 120) hx hb dX9_feed_27 (by decide) (fun c_10 => absurd c_10 (by decide)) (fun c_10 => ?_)
  refine lv_iload hx hb dX9_feed_30 (lv_at hl 0 rfl) ?_
  refine lv_iconst (v := 4) hx hb dX9_feed_32 (by decide) ?_
  refine lv_icmp_ge (tgt := 40) hx hb dX9_feed_33 (by decide) (fun c_11 => absurd c_11 (by decide)) (fun c_11 => ?_)
  refine lv_iload_n hx hb dX9_feed_36 rfl (lv_at hl 3 rfl) ?_
  refine lv_goto (tgt := 76) hx hb dX9_feed_37 (by decide) ?_
  refine lv_istore (lv' := [(7, .int x), (6, .int 2), (0, .ref md), (1, .int x), (2, .int y), (3, .int z), (4, .int x4), (5, .int x5)]) hx hb dX9_feed_76 hl (by decide) rfl (fun ls hl => ?_)
  refine lv_aload_n hx hb dX9_feed_78 rfl (lv_at hl 2 rfl) ?_
  refine va_get (D := D) (ci := 9) (v := .ref m_tape) (C := RX9) (T := TX9) (N := 25) hx hb hu in_X9 hown hK.1 hP 0 rfl rfl 6 (by decide) (hu _ u_1086) (fun _ h9 => h9) rfl dX9_feed_79 ?_
  refine lv_aload_n hx hb dX9_feed_82 rfl (lv_at hl 2 rfl) ?_
  refine va_get (D := D) (ci := 9) (v := .int 2) (C := RX9) (T := TX9) (N := 25) hx hb hu in_X9 hown hK.1 hP 0 rfl rfl 9 (by decide) (hu _ u_1089) (fun _ h9 => h9) rfl dX9_feed_83 ?_
  refine lv_iload hx hb dX9_feed_86 (lv_at hl 0 rfl) ?_
  refine lv_bipush (v := 24) hx hb dX9_feed_88 (by decide) ?_
  refine lv_bipush (v := 8) hx hb dX9_feed_90 (by decide) ?_
  refine lv_iload hx hb dX9_feed_92 (lv_at hl 1 rfl) ?_
  refine lv_iconst (v := 4) hx hb dX9_feed_94 (by decide) ?_
  refine lv_irem hx hb dX9_feed_95 (by decide) ?_
  refine tpi (y := 2) (by decide) ?_
  refine lv_imul hx hb dX9_feed_96 ?_
  refine tpi (y := 16) (by decide) ?_
  refine lv_isub hx hb dX9_feed_97 ?_
  refine tpi (y := 8) (by decide) ?_
  refine lv_ishr hx hb dX9_feed_98 ?_
  refine lv_sipush (v := 255) hx hb dX9_feed_99 (by decide) ?_
  refine lv_iand hx hb dX9_feed_102 ?_
  refine va_iast hx hb hK.1 hP hD hS 1 0 rfl rfl (vin_c _ _ rfl) dX9_feed_103 (fun H locs hP hD hS => ?_)
  have hP : va_P D vwCl [(md, .inr (9, [.int 0, .ref m_all, .ref m_deeds, .ref m_trial, .int 0, .ref m_hasImage, .ref m_tape, .ref m_key, .ref m_answered, .int 2, .int 0, .int 0, .ref m_goes, .int 0, .ref m_hotOnes, .ref m_indexed, .ref m_isChanged, .int 0, .ref m_valueNow, .int 0, .int (-1), .int 0, .ref m_didSome, .ref m_sizes, .ref m_ends])), (m_tape, aI cs 60 (upd g_8 (2 : Int32).toNatClampNeg ((x >>> (8 &&& 31)) &&& 255)))] H := hP
  have hD : va_D A [(md, .inr (9, [.int 0, .ref m_all, .ref m_deeds, .ref m_trial, .int 0, .ref m_hasImage, .ref m_tape, .ref m_key, .ref m_answered, .int 2, .int 0, .int 0, .ref m_goes, .int 0, .ref m_hotOnes, .ref m_indexed, .ref m_isChanged, .int 0, .ref m_valueNow, .int 0, .int (-1), .int 0, .ref m_didSome, .ref m_sizes, .ref m_ends])), (m_tape, aI cs 60 (upd g_8 (2 : Int32).toNatClampNeg ((x >>> (8 &&& 31)) &&& 255)))] := hD
  obtain ⟨g_12, eg_13⟩ : ∃ g9 : Nat → Int32, upd g_8 (2 : Int32).toNatClampNeg ((x >>> (8 &&& 31)) &&& 255) = g9 := ⟨_, rfl⟩
  rw [eg_13] at hP hD
  clear eg_13
  refine lv_aload_n hx hb dX9_feed_104 rfl (lv_at hl 2 rfl) ?_
  refine lv_dup hx hb dX9_feed_105 rfl ?_
  refine va_get (D := D) (ci := 9) (v := .int 2) (C := RX9) (T := TX9) (N := 25) hx hb hu in_X9 hown hK.1 hP 0 rfl rfl 9 (by decide) (hu _ u_1089) (fun _ h9 => h9) rfl dX9_feed_106 ?_
  refine lv_iconst (v := 1) hx hb dX9_feed_109 (by decide) ?_
  refine lv_iadd hx hb dX9_feed_110 ?_
  refine tpi (y := 3) (by decide) ?_
  refine va_put (D := D) (ci := 9) (v := .int 3) (ty := tyX9 9) (C := RX9) (T := TX9) (N := 25) hx hb hu in_X9 tyX9 tyX9_ok nmX9 hown hK.1 hP hD hS 0 rfl rfl 9 (by decide) (hu _ u_1089) (fun _ h9 => h9) rfl (tyX9_ok 9 (by decide)) rfl rfl (Nat.le_of_ble_eq_true rfl) dX9_feed_111 (fun H locs hP hD hS => ?_)
  have hP : va_P D vwCl [(md, .inr (9, [.int 0, .ref m_all, .ref m_deeds, .ref m_trial, .int 0, .ref m_hasImage, .ref m_tape, .ref m_key, .ref m_answered, .int 3, .int 0, .int 0, .ref m_goes, .int 0, .ref m_hotOnes, .ref m_indexed, .ref m_isChanged, .int 0, .ref m_valueNow, .int 0, .int (-1), .int 0, .ref m_didSome, .ref m_sizes, .ref m_ends])), (m_tape, aI cs 60 g_12)] H := hP
  have hD : va_D A [(md, .inr (9, [.int 0, .ref m_all, .ref m_deeds, .ref m_trial, .int 0, .ref m_hasImage, .ref m_tape, .ref m_key, .ref m_answered, .int 3, .int 0, .int 0, .ref m_goes, .int 0, .ref m_hotOnes, .ref m_indexed, .ref m_isChanged, .int 0, .ref m_valueNow, .int 0, .int (-1), .int 0, .ref m_didSome, .ref m_sizes, .ref m_ends])), (m_tape, aI cs 60 g_12)] := hD
  refine lv_iinc (v := 3) (lv' := [(6, .int 3), (7, .int x), (0, .ref md), (1, .int x), (2, .int y), (3, .int z), (4, .int x4), (5, .int x5)]) hx hb dX9_feed_114 hl (k := 1) rfl (by decide) (by decide) rfl (fun ls hl => ?_)
  refine lv_goto (tgt := 23) hx hb dX9_feed_117 (by decide) ?_
  refine lv_iload hx hb dX9_feed_23 (lv_at hl 0 rfl) ?_
  refine lv_bipush (v := 20) hx hb dX9_feed_25 (by decide) ?_
  refine lv_icmp_ge (tgt := 120) hx hb dX9_feed_27 (by decide) (fun c_14 => absurd c_14 (by decide)) (fun c_14 => ?_)
  refine lv_iload hx hb dX9_feed_30 (lv_at hl 0 rfl) ?_
  refine lv_iconst (v := 4) hx hb dX9_feed_32 (by decide) ?_
  refine lv_icmp_ge (tgt := 40) hx hb dX9_feed_33 (by decide) (fun c_15 => absurd c_15 (by decide)) (fun c_15 => ?_)
  refine lv_iload_n hx hb dX9_feed_36 rfl (lv_at hl 3 rfl) ?_
  refine lv_goto (tgt := 76) hx hb dX9_feed_37 (by decide) ?_
  refine lv_istore (lv' := [(7, .int x), (6, .int 3), (0, .ref md), (1, .int x), (2, .int y), (3, .int z), (4, .int x4), (5, .int x5)]) hx hb dX9_feed_76 hl (by decide) rfl (fun ls hl => ?_)
  refine lv_aload_n hx hb dX9_feed_78 rfl (lv_at hl 2 rfl) ?_
  refine va_get (D := D) (ci := 9) (v := .ref m_tape) (C := RX9) (T := TX9) (N := 25) hx hb hu in_X9 hown hK.1 hP 0 rfl rfl 6 (by decide) (hu _ u_1086) (fun _ h9 => h9) rfl dX9_feed_79 ?_
  refine lv_aload_n hx hb dX9_feed_82 rfl (lv_at hl 2 rfl) ?_
  refine va_get (D := D) (ci := 9) (v := .int 3) (C := RX9) (T := TX9) (N := 25) hx hb hu in_X9 hown hK.1 hP 0 rfl rfl 9 (by decide) (hu _ u_1089) (fun _ h9 => h9) rfl dX9_feed_83 ?_
  refine lv_iload hx hb dX9_feed_86 (lv_at hl 0 rfl) ?_
  refine lv_bipush (v := 24) hx hb dX9_feed_88 (by decide) ?_
  refine lv_bipush (v := 8) hx hb dX9_feed_90 (by decide) ?_
  refine lv_iload hx hb dX9_feed_92 (lv_at hl 1 rfl) ?_
  refine lv_iconst (v := 4) hx hb dX9_feed_94 (by decide) ?_
  refine lv_irem hx hb dX9_feed_95 (by decide) ?_
  refine tpi (y := 3) (by decide) ?_
  refine lv_imul hx hb dX9_feed_96 ?_
  refine tpi (y := 24) (by decide) ?_
  refine lv_isub hx hb dX9_feed_97 ?_
  refine tpi (y := 0) (by decide) ?_
  refine lv_ishr hx hb dX9_feed_98 ?_
  refine lv_sipush (v := 255) hx hb dX9_feed_99 (by decide) ?_
  refine lv_iand hx hb dX9_feed_102 ?_
  refine va_iast hx hb hK.1 hP hD hS 1 0 rfl rfl (vin_c _ _ rfl) dX9_feed_103 (fun H locs hP hD hS => ?_)
  have hP : va_P D vwCl [(md, .inr (9, [.int 0, .ref m_all, .ref m_deeds, .ref m_trial, .int 0, .ref m_hasImage, .ref m_tape, .ref m_key, .ref m_answered, .int 3, .int 0, .int 0, .ref m_goes, .int 0, .ref m_hotOnes, .ref m_indexed, .ref m_isChanged, .int 0, .ref m_valueNow, .int 0, .int (-1), .int 0, .ref m_didSome, .ref m_sizes, .ref m_ends])), (m_tape, aI cs 60 (upd g_12 (3 : Int32).toNatClampNeg ((x >>> (0 &&& 31)) &&& 255)))] H := hP
  have hD : va_D A [(md, .inr (9, [.int 0, .ref m_all, .ref m_deeds, .ref m_trial, .int 0, .ref m_hasImage, .ref m_tape, .ref m_key, .ref m_answered, .int 3, .int 0, .int 0, .ref m_goes, .int 0, .ref m_hotOnes, .ref m_indexed, .ref m_isChanged, .int 0, .ref m_valueNow, .int 0, .int (-1), .int 0, .ref m_didSome, .ref m_sizes, .ref m_ends])), (m_tape, aI cs 60 (upd g_12 (3 : Int32).toNatClampNeg ((x >>> (0 &&& 31)) &&& 255)))] := hD
  obtain ⟨g_16, eg_17⟩ : ∃ g9 : Nat → Int32, upd g_12 (3 : Int32).toNatClampNeg ((x >>> (0 &&& 31)) &&& 255) = g9 := ⟨_, rfl⟩
  rw [eg_17] at hP hD
  clear eg_17
  refine lv_aload_n hx hb dX9_feed_104 rfl (lv_at hl 2 rfl) ?_
  refine lv_dup hx hb dX9_feed_105 rfl ?_
  refine va_get (D := D) (ci := 9) (v := .int 3) (C := RX9) (T := TX9) (N := 25) hx hb hu in_X9 hown hK.1 hP 0 rfl rfl 9 (by decide) (hu _ u_1089) (fun _ h9 => h9) rfl dX9_feed_106 ?_
  refine lv_iconst (v := 1) hx hb dX9_feed_109 (by decide) ?_
  refine lv_iadd hx hb dX9_feed_110 ?_
  refine tpi (y := 4) (by decide) ?_
  refine va_put (D := D) (ci := 9) (v := .int 4) (ty := tyX9 9) (C := RX9) (T := TX9) (N := 25) hx hb hu in_X9 tyX9 tyX9_ok nmX9 hown hK.1 hP hD hS 0 rfl rfl 9 (by decide) (hu _ u_1089) (fun _ h9 => h9) rfl (tyX9_ok 9 (by decide)) rfl rfl (Nat.le_of_ble_eq_true rfl) dX9_feed_111 (fun H locs hP hD hS => ?_)
  have hP : va_P D vwCl [(md, .inr (9, [.int 0, .ref m_all, .ref m_deeds, .ref m_trial, .int 0, .ref m_hasImage, .ref m_tape, .ref m_key, .ref m_answered, .int 4, .int 0, .int 0, .ref m_goes, .int 0, .ref m_hotOnes, .ref m_indexed, .ref m_isChanged, .int 0, .ref m_valueNow, .int 0, .int (-1), .int 0, .ref m_didSome, .ref m_sizes, .ref m_ends])), (m_tape, aI cs 60 g_16)] H := hP
  have hD : va_D A [(md, .inr (9, [.int 0, .ref m_all, .ref m_deeds, .ref m_trial, .int 0, .ref m_hasImage, .ref m_tape, .ref m_key, .ref m_answered, .int 4, .int 0, .int 0, .ref m_goes, .int 0, .ref m_hotOnes, .ref m_indexed, .ref m_isChanged, .int 0, .ref m_valueNow, .int 0, .int (-1), .int 0, .ref m_didSome, .ref m_sizes, .ref m_ends])), (m_tape, aI cs 60 g_16)] := hD
  refine lv_iinc (v := 4) (lv' := [(6, .int 4), (7, .int x), (0, .ref md), (1, .int x), (2, .int y), (3, .int z), (4, .int x4), (5, .int x5)]) hx hb dX9_feed_114 hl (k := 1) rfl (by decide) (by decide) rfl (fun ls hl => ?_)
  refine lv_goto (tgt := 23) hx hb dX9_feed_117 (by decide) ?_
  refine lv_iload hx hb dX9_feed_23 (lv_at hl 0 rfl) ?_
  refine lv_bipush (v := 20) hx hb dX9_feed_25 (by decide) ?_
  refine lv_icmp_ge (tgt := 120) hx hb dX9_feed_27 (by decide) (fun c_18 => absurd c_18 (by decide)) (fun c_18 => ?_)
  refine lv_iload hx hb dX9_feed_30 (lv_at hl 0 rfl) ?_
  refine lv_iconst (v := 4) hx hb dX9_feed_32 (by decide) ?_
  refine lv_icmp_ge (tgt := 40) hx hb dX9_feed_33 (by decide) (fun c_19 => ?_) (fun c_19 => absurd (by decide) c_19)
  refine lv_iload hx hb dX9_feed_40 (lv_at hl 0 rfl) ?_
  refine lv_bipush (v := 8) hx hb dX9_feed_42 (by decide) ?_
  refine lv_icmp_ge (tgt := 51) hx hb dX9_feed_44 (by decide) (fun c_20 => absurd c_20 (by decide)) (fun c_20 => ?_)
  refine lv_iload_n hx hb dX9_feed_47 rfl (lv_at hl 4 rfl) ?_
  refine lv_goto (tgt := 76) hx hb dX9_feed_48 (by decide) ?_
  refine lv_istore (lv' := [(7, .int y), (6, .int 4), (0, .ref md), (1, .int x), (2, .int y), (3, .int z), (4, .int x4), (5, .int x5)]) hx hb dX9_feed_76 hl (by decide) rfl (fun ls hl => ?_)
  refine lv_aload_n hx hb dX9_feed_78 rfl (lv_at hl 2 rfl) ?_
  refine va_get (D := D) (ci := 9) (v := .ref m_tape) (C := RX9) (T := TX9) (N := 25) hx hb hu in_X9 hown hK.1 hP 0 rfl rfl 6 (by decide) (hu _ u_1086) (fun _ h9 => h9) rfl dX9_feed_79 ?_
  refine lv_aload_n hx hb dX9_feed_82 rfl (lv_at hl 2 rfl) ?_
  refine va_get (D := D) (ci := 9) (v := .int 4) (C := RX9) (T := TX9) (N := 25) hx hb hu in_X9 hown hK.1 hP 0 rfl rfl 9 (by decide) (hu _ u_1089) (fun _ h9 => h9) rfl dX9_feed_83 ?_
  refine lv_iload hx hb dX9_feed_86 (lv_at hl 0 rfl) ?_
  refine lv_bipush (v := 24) hx hb dX9_feed_88 (by decide) ?_
  refine lv_bipush (v := 8) hx hb dX9_feed_90 (by decide) ?_
  refine lv_iload hx hb dX9_feed_92 (lv_at hl 1 rfl) ?_
  refine lv_iconst (v := 4) hx hb dX9_feed_94 (by decide) ?_
  refine lv_irem hx hb dX9_feed_95 (by decide) ?_
  refine tpi (y := 0) (by decide) ?_
  refine lv_imul hx hb dX9_feed_96 ?_
  refine tpi (y := 0) (by decide) ?_
  refine lv_isub hx hb dX9_feed_97 ?_
  refine tpi (y := 24) (by decide) ?_
  refine lv_ishr hx hb dX9_feed_98 ?_
  refine lv_sipush (v := 255) hx hb dX9_feed_99 (by decide) ?_
  refine lv_iand hx hb dX9_feed_102 ?_
  refine va_iast hx hb hK.1 hP hD hS 1 0 rfl rfl (vin_c _ _ rfl) dX9_feed_103 (fun H locs hP hD hS => ?_)
  have hP : va_P D vwCl [(md, .inr (9, [.int 0, .ref m_all, .ref m_deeds, .ref m_trial, .int 0, .ref m_hasImage, .ref m_tape, .ref m_key, .ref m_answered, .int 4, .int 0, .int 0, .ref m_goes, .int 0, .ref m_hotOnes, .ref m_indexed, .ref m_isChanged, .int 0, .ref m_valueNow, .int 0, .int (-1), .int 0, .ref m_didSome, .ref m_sizes, .ref m_ends])), (m_tape, aI cs 60 (upd g_16 (4 : Int32).toNatClampNeg ((y >>> (24 &&& 31)) &&& 255)))] H := hP
  have hD : va_D A [(md, .inr (9, [.int 0, .ref m_all, .ref m_deeds, .ref m_trial, .int 0, .ref m_hasImage, .ref m_tape, .ref m_key, .ref m_answered, .int 4, .int 0, .int 0, .ref m_goes, .int 0, .ref m_hotOnes, .ref m_indexed, .ref m_isChanged, .int 0, .ref m_valueNow, .int 0, .int (-1), .int 0, .ref m_didSome, .ref m_sizes, .ref m_ends])), (m_tape, aI cs 60 (upd g_16 (4 : Int32).toNatClampNeg ((y >>> (24 &&& 31)) &&& 255)))] := hD
  obtain ⟨g_21, eg_22⟩ : ∃ g9 : Nat → Int32, upd g_16 (4 : Int32).toNatClampNeg ((y >>> (24 &&& 31)) &&& 255) = g9 := ⟨_, rfl⟩
  rw [eg_22] at hP hD
  clear eg_22
  refine lv_aload_n hx hb dX9_feed_104 rfl (lv_at hl 2 rfl) ?_
  refine lv_dup hx hb dX9_feed_105 rfl ?_
  refine va_get (D := D) (ci := 9) (v := .int 4) (C := RX9) (T := TX9) (N := 25) hx hb hu in_X9 hown hK.1 hP 0 rfl rfl 9 (by decide) (hu _ u_1089) (fun _ h9 => h9) rfl dX9_feed_106 ?_
  refine lv_iconst (v := 1) hx hb dX9_feed_109 (by decide) ?_
  refine lv_iadd hx hb dX9_feed_110 ?_
  refine tpi (y := 5) (by decide) ?_
  refine va_put (D := D) (ci := 9) (v := .int 5) (ty := tyX9 9) (C := RX9) (T := TX9) (N := 25) hx hb hu in_X9 tyX9 tyX9_ok nmX9 hown hK.1 hP hD hS 0 rfl rfl 9 (by decide) (hu _ u_1089) (fun _ h9 => h9) rfl (tyX9_ok 9 (by decide)) rfl rfl (Nat.le_of_ble_eq_true rfl) dX9_feed_111 (fun H locs hP hD hS => ?_)
  have hP : va_P D vwCl [(md, .inr (9, [.int 0, .ref m_all, .ref m_deeds, .ref m_trial, .int 0, .ref m_hasImage, .ref m_tape, .ref m_key, .ref m_answered, .int 5, .int 0, .int 0, .ref m_goes, .int 0, .ref m_hotOnes, .ref m_indexed, .ref m_isChanged, .int 0, .ref m_valueNow, .int 0, .int (-1), .int 0, .ref m_didSome, .ref m_sizes, .ref m_ends])), (m_tape, aI cs 60 g_21)] H := hP
  have hD : va_D A [(md, .inr (9, [.int 0, .ref m_all, .ref m_deeds, .ref m_trial, .int 0, .ref m_hasImage, .ref m_tape, .ref m_key, .ref m_answered, .int 5, .int 0, .int 0, .ref m_goes, .int 0, .ref m_hotOnes, .ref m_indexed, .ref m_isChanged, .int 0, .ref m_valueNow, .int 0, .int (-1), .int 0, .ref m_didSome, .ref m_sizes, .ref m_ends])), (m_tape, aI cs 60 g_21)] := hD
  refine lv_iinc (v := 5) (lv' := [(6, .int 5), (7, .int y), (0, .ref md), (1, .int x), (2, .int y), (3, .int z), (4, .int x4), (5, .int x5)]) hx hb dX9_feed_114 hl (k := 1) rfl (by decide) (by decide) rfl (fun ls hl => ?_)
  refine lv_goto (tgt := 23) hx hb dX9_feed_117 (by decide) ?_
  refine lv_iload hx hb dX9_feed_23 (lv_at hl 0 rfl) ?_
  refine lv_bipush (v := 20) hx hb dX9_feed_25 (by decide) ?_
  refine lv_icmp_ge (tgt := 120) hx hb dX9_feed_27 (by decide) (fun c_23 => absurd c_23 (by decide)) (fun c_23 => ?_)
  refine lv_iload hx hb dX9_feed_30 (lv_at hl 0 rfl) ?_
  refine lv_iconst (v := 4) hx hb dX9_feed_32 (by decide) ?_
  refine lv_icmp_ge (tgt := 40) hx hb dX9_feed_33 (by decide) (fun c_24 => ?_) (fun c_24 => absurd (by decide) c_24)
  refine lv_iload hx hb dX9_feed_40 (lv_at hl 0 rfl) ?_
  refine lv_bipush (v := 8) hx hb dX9_feed_42 (by decide) ?_
  refine lv_icmp_ge (tgt := 51) hx hb dX9_feed_44 (by decide) (fun c_25 => absurd c_25 (by decide)) (fun c_25 => ?_)
  refine lv_iload_n hx hb dX9_feed_47 rfl (lv_at hl 4 rfl) ?_
  refine lv_goto (tgt := 76) hx hb dX9_feed_48 (by decide) ?_
  refine lv_istore (lv' := [(7, .int y), (6, .int 5), (0, .ref md), (1, .int x), (2, .int y), (3, .int z), (4, .int x4), (5, .int x5)]) hx hb dX9_feed_76 hl (by decide) rfl (fun ls hl => ?_)
  refine lv_aload_n hx hb dX9_feed_78 rfl (lv_at hl 2 rfl) ?_
  refine va_get (D := D) (ci := 9) (v := .ref m_tape) (C := RX9) (T := TX9) (N := 25) hx hb hu in_X9 hown hK.1 hP 0 rfl rfl 6 (by decide) (hu _ u_1086) (fun _ h9 => h9) rfl dX9_feed_79 ?_
  refine lv_aload_n hx hb dX9_feed_82 rfl (lv_at hl 2 rfl) ?_
  refine va_get (D := D) (ci := 9) (v := .int 5) (C := RX9) (T := TX9) (N := 25) hx hb hu in_X9 hown hK.1 hP 0 rfl rfl 9 (by decide) (hu _ u_1089) (fun _ h9 => h9) rfl dX9_feed_83 ?_
  refine lv_iload hx hb dX9_feed_86 (lv_at hl 0 rfl) ?_
  refine lv_bipush (v := 24) hx hb dX9_feed_88 (by decide) ?_
  refine lv_bipush (v := 8) hx hb dX9_feed_90 (by decide) ?_
  refine lv_iload hx hb dX9_feed_92 (lv_at hl 1 rfl) ?_
  refine lv_iconst (v := 4) hx hb dX9_feed_94 (by decide) ?_
  refine lv_irem hx hb dX9_feed_95 (by decide) ?_
  refine tpi (y := 1) (by decide) ?_
  refine lv_imul hx hb dX9_feed_96 ?_
  refine tpi (y := 8) (by decide) ?_
  refine lv_isub hx hb dX9_feed_97 ?_
  refine tpi (y := 16) (by decide) ?_
  refine lv_ishr hx hb dX9_feed_98 ?_
  refine lv_sipush (v := 255) hx hb dX9_feed_99 (by decide) ?_
  refine lv_iand hx hb dX9_feed_102 ?_
  refine va_iast hx hb hK.1 hP hD hS 1 0 rfl rfl (vin_c _ _ rfl) dX9_feed_103 (fun H locs hP hD hS => ?_)
  have hP : va_P D vwCl [(md, .inr (9, [.int 0, .ref m_all, .ref m_deeds, .ref m_trial, .int 0, .ref m_hasImage, .ref m_tape, .ref m_key, .ref m_answered, .int 5, .int 0, .int 0, .ref m_goes, .int 0, .ref m_hotOnes, .ref m_indexed, .ref m_isChanged, .int 0, .ref m_valueNow, .int 0, .int (-1), .int 0, .ref m_didSome, .ref m_sizes, .ref m_ends])), (m_tape, aI cs 60 (upd g_21 (5 : Int32).toNatClampNeg ((y >>> (16 &&& 31)) &&& 255)))] H := hP
  have hD : va_D A [(md, .inr (9, [.int 0, .ref m_all, .ref m_deeds, .ref m_trial, .int 0, .ref m_hasImage, .ref m_tape, .ref m_key, .ref m_answered, .int 5, .int 0, .int 0, .ref m_goes, .int 0, .ref m_hotOnes, .ref m_indexed, .ref m_isChanged, .int 0, .ref m_valueNow, .int 0, .int (-1), .int 0, .ref m_didSome, .ref m_sizes, .ref m_ends])), (m_tape, aI cs 60 (upd g_21 (5 : Int32).toNatClampNeg ((y >>> (16 &&& 31)) &&& 255)))] := hD
  obtain ⟨g_26, eg_27⟩ : ∃ g9 : Nat → Int32, upd g_21 (5 : Int32).toNatClampNeg ((y >>> (16 &&& 31)) &&& 255) = g9 := ⟨_, rfl⟩
  rw [eg_27] at hP hD
  clear eg_27
  refine lv_aload_n hx hb dX9_feed_104 rfl (lv_at hl 2 rfl) ?_
  refine lv_dup hx hb dX9_feed_105 rfl ?_
  refine va_get (D := D) (ci := 9) (v := .int 5) (C := RX9) (T := TX9) (N := 25) hx hb hu in_X9 hown hK.1 hP 0 rfl rfl 9 (by decide) (hu _ u_1089) (fun _ h9 => h9) rfl dX9_feed_106 ?_
  refine lv_iconst (v := 1) hx hb dX9_feed_109 (by decide) ?_
  refine lv_iadd hx hb dX9_feed_110 ?_
  refine tpi (y := 6) (by decide) ?_
  refine va_put (D := D) (ci := 9) (v := .int 6) (ty := tyX9 9) (C := RX9) (T := TX9) (N := 25) hx hb hu in_X9 tyX9 tyX9_ok nmX9 hown hK.1 hP hD hS 0 rfl rfl 9 (by decide) (hu _ u_1089) (fun _ h9 => h9) rfl (tyX9_ok 9 (by decide)) rfl rfl (Nat.le_of_ble_eq_true rfl) dX9_feed_111 (fun H locs hP hD hS => ?_)
  have hP : va_P D vwCl [(md, .inr (9, [.int 0, .ref m_all, .ref m_deeds, .ref m_trial, .int 0, .ref m_hasImage, .ref m_tape, .ref m_key, .ref m_answered, .int 6, .int 0, .int 0, .ref m_goes, .int 0, .ref m_hotOnes, .ref m_indexed, .ref m_isChanged, .int 0, .ref m_valueNow, .int 0, .int (-1), .int 0, .ref m_didSome, .ref m_sizes, .ref m_ends])), (m_tape, aI cs 60 g_26)] H := hP
  have hD : va_D A [(md, .inr (9, [.int 0, .ref m_all, .ref m_deeds, .ref m_trial, .int 0, .ref m_hasImage, .ref m_tape, .ref m_key, .ref m_answered, .int 6, .int 0, .int 0, .ref m_goes, .int 0, .ref m_hotOnes, .ref m_indexed, .ref m_isChanged, .int 0, .ref m_valueNow, .int 0, .int (-1), .int 0, .ref m_didSome, .ref m_sizes, .ref m_ends])), (m_tape, aI cs 60 g_26)] := hD
  refine lv_iinc (v := 6) (lv' := [(6, .int 6), (7, .int y), (0, .ref md), (1, .int x), (2, .int y), (3, .int z), (4, .int x4), (5, .int x5)]) hx hb dX9_feed_114 hl (k := 1) rfl (by decide) (by decide) rfl (fun ls hl => ?_)
  refine lv_goto (tgt := 23) hx hb dX9_feed_117 (by decide) ?_
  refine lv_iload hx hb dX9_feed_23 (lv_at hl 0 rfl) ?_
  refine lv_bipush (v := 20) hx hb dX9_feed_25 (by decide) ?_
  refine lv_icmp_ge (tgt := 120) hx hb dX9_feed_27 (by decide) (fun c_28 => absurd c_28 (by decide)) (fun c_28 => ?_)
  refine lv_iload hx hb dX9_feed_30 (lv_at hl 0 rfl) ?_
  refine lv_iconst (v := 4) hx hb dX9_feed_32 (by decide) ?_
  refine lv_icmp_ge (tgt := 40) hx hb dX9_feed_33 (by decide) (fun c_29 => ?_) (fun c_29 => absurd (by decide) c_29)
  refine lv_iload hx hb dX9_feed_40 (lv_at hl 0 rfl) ?_
  refine lv_bipush (v := 8) hx hb dX9_feed_42 (by decide) ?_
  refine lv_icmp_ge (tgt := 51) hx hb dX9_feed_44 (by decide) (fun c_30 => absurd c_30 (by decide)) (fun c_30 => ?_)
  refine lv_iload_n hx hb dX9_feed_47 rfl (lv_at hl 4 rfl) ?_
  refine lv_goto (tgt := 76) hx hb dX9_feed_48 (by decide) ?_
  refine lv_istore (lv' := [(7, .int y), (6, .int 6), (0, .ref md), (1, .int x), (2, .int y), (3, .int z), (4, .int x4), (5, .int x5)]) hx hb dX9_feed_76 hl (by decide) rfl (fun ls hl => ?_)
  refine lv_aload_n hx hb dX9_feed_78 rfl (lv_at hl 2 rfl) ?_
  refine va_get (D := D) (ci := 9) (v := .ref m_tape) (C := RX9) (T := TX9) (N := 25) hx hb hu in_X9 hown hK.1 hP 0 rfl rfl 6 (by decide) (hu _ u_1086) (fun _ h9 => h9) rfl dX9_feed_79 ?_
  refine lv_aload_n hx hb dX9_feed_82 rfl (lv_at hl 2 rfl) ?_
  refine va_get (D := D) (ci := 9) (v := .int 6) (C := RX9) (T := TX9) (N := 25) hx hb hu in_X9 hown hK.1 hP 0 rfl rfl 9 (by decide) (hu _ u_1089) (fun _ h9 => h9) rfl dX9_feed_83 ?_
  refine lv_iload hx hb dX9_feed_86 (lv_at hl 0 rfl) ?_
  refine lv_bipush (v := 24) hx hb dX9_feed_88 (by decide) ?_
  refine lv_bipush (v := 8) hx hb dX9_feed_90 (by decide) ?_
  refine lv_iload hx hb dX9_feed_92 (lv_at hl 1 rfl) ?_
  refine lv_iconst (v := 4) hx hb dX9_feed_94 (by decide) ?_
  refine lv_irem hx hb dX9_feed_95 (by decide) ?_
  refine tpi (y := 2) (by decide) ?_
  refine lv_imul hx hb dX9_feed_96 ?_
  refine tpi (y := 16) (by decide) ?_
  refine lv_isub hx hb dX9_feed_97 ?_
  refine tpi (y := 8) (by decide) ?_
  refine lv_ishr hx hb dX9_feed_98 ?_
  refine lv_sipush (v := 255) hx hb dX9_feed_99 (by decide) ?_
  refine lv_iand hx hb dX9_feed_102 ?_
  refine va_iast hx hb hK.1 hP hD hS 1 0 rfl rfl (vin_c _ _ rfl) dX9_feed_103 (fun H locs hP hD hS => ?_)
  have hP : va_P D vwCl [(md, .inr (9, [.int 0, .ref m_all, .ref m_deeds, .ref m_trial, .int 0, .ref m_hasImage, .ref m_tape, .ref m_key, .ref m_answered, .int 6, .int 0, .int 0, .ref m_goes, .int 0, .ref m_hotOnes, .ref m_indexed, .ref m_isChanged, .int 0, .ref m_valueNow, .int 0, .int (-1), .int 0, .ref m_didSome, .ref m_sizes, .ref m_ends])), (m_tape, aI cs 60 (upd g_26 (6 : Int32).toNatClampNeg ((y >>> (8 &&& 31)) &&& 255)))] H := hP
  have hD : va_D A [(md, .inr (9, [.int 0, .ref m_all, .ref m_deeds, .ref m_trial, .int 0, .ref m_hasImage, .ref m_tape, .ref m_key, .ref m_answered, .int 6, .int 0, .int 0, .ref m_goes, .int 0, .ref m_hotOnes, .ref m_indexed, .ref m_isChanged, .int 0, .ref m_valueNow, .int 0, .int (-1), .int 0, .ref m_didSome, .ref m_sizes, .ref m_ends])), (m_tape, aI cs 60 (upd g_26 (6 : Int32).toNatClampNeg ((y >>> (8 &&& 31)) &&& 255)))] := hD
  obtain ⟨g_31, eg_32⟩ : ∃ g9 : Nat → Int32, upd g_26 (6 : Int32).toNatClampNeg ((y >>> (8 &&& 31)) &&& 255) = g9 := ⟨_, rfl⟩
  rw [eg_32] at hP hD
  clear eg_32
  refine lv_aload_n hx hb dX9_feed_104 rfl (lv_at hl 2 rfl) ?_
  refine lv_dup hx hb dX9_feed_105 rfl ?_
  refine va_get (D := D) (ci := 9) (v := .int 6) (C := RX9) (T := TX9) (N := 25) hx hb hu in_X9 hown hK.1 hP 0 rfl rfl 9 (by decide) (hu _ u_1089) (fun _ h9 => h9) rfl dX9_feed_106 ?_
  refine lv_iconst (v := 1) hx hb dX9_feed_109 (by decide) ?_
  refine lv_iadd hx hb dX9_feed_110 ?_
  refine tpi (y := 7) (by decide) ?_
  refine va_put (D := D) (ci := 9) (v := .int 7) (ty := tyX9 9) (C := RX9) (T := TX9) (N := 25) hx hb hu in_X9 tyX9 tyX9_ok nmX9 hown hK.1 hP hD hS 0 rfl rfl 9 (by decide) (hu _ u_1089) (fun _ h9 => h9) rfl (tyX9_ok 9 (by decide)) rfl rfl (Nat.le_of_ble_eq_true rfl) dX9_feed_111 (fun H locs hP hD hS => ?_)
  have hP : va_P D vwCl [(md, .inr (9, [.int 0, .ref m_all, .ref m_deeds, .ref m_trial, .int 0, .ref m_hasImage, .ref m_tape, .ref m_key, .ref m_answered, .int 7, .int 0, .int 0, .ref m_goes, .int 0, .ref m_hotOnes, .ref m_indexed, .ref m_isChanged, .int 0, .ref m_valueNow, .int 0, .int (-1), .int 0, .ref m_didSome, .ref m_sizes, .ref m_ends])), (m_tape, aI cs 60 g_31)] H := hP
  have hD : va_D A [(md, .inr (9, [.int 0, .ref m_all, .ref m_deeds, .ref m_trial, .int 0, .ref m_hasImage, .ref m_tape, .ref m_key, .ref m_answered, .int 7, .int 0, .int 0, .ref m_goes, .int 0, .ref m_hotOnes, .ref m_indexed, .ref m_isChanged, .int 0, .ref m_valueNow, .int 0, .int (-1), .int 0, .ref m_didSome, .ref m_sizes, .ref m_ends])), (m_tape, aI cs 60 g_31)] := hD
  refine lv_iinc (v := 7) (lv' := [(6, .int 7), (7, .int y), (0, .ref md), (1, .int x), (2, .int y), (3, .int z), (4, .int x4), (5, .int x5)]) hx hb dX9_feed_114 hl (k := 1) rfl (by decide) (by decide) rfl (fun ls hl => ?_)
  refine lv_goto (tgt := 23) hx hb dX9_feed_117 (by decide) ?_
  refine lv_iload hx hb dX9_feed_23 (lv_at hl 0 rfl) ?_
  refine lv_bipush (v := 20) hx hb dX9_feed_25 (by decide) ?_
  refine lv_icmp_ge (tgt := 120) hx hb dX9_feed_27 (by decide) (fun c_33 => absurd c_33 (by decide)) (fun c_33 => ?_)
  refine lv_iload hx hb dX9_feed_30 (lv_at hl 0 rfl) ?_
  refine lv_iconst (v := 4) hx hb dX9_feed_32 (by decide) ?_
  refine lv_icmp_ge (tgt := 40) hx hb dX9_feed_33 (by decide) (fun c_34 => ?_) (fun c_34 => absurd (by decide) c_34)
  refine lv_iload hx hb dX9_feed_40 (lv_at hl 0 rfl) ?_
  refine lv_bipush (v := 8) hx hb dX9_feed_42 (by decide) ?_
  refine lv_icmp_ge (tgt := 51) hx hb dX9_feed_44 (by decide) (fun c_35 => absurd c_35 (by decide)) (fun c_35 => ?_)
  refine lv_iload_n hx hb dX9_feed_47 rfl (lv_at hl 4 rfl) ?_
  refine lv_goto (tgt := 76) hx hb dX9_feed_48 (by decide) ?_
  refine lv_istore (lv' := [(7, .int y), (6, .int 7), (0, .ref md), (1, .int x), (2, .int y), (3, .int z), (4, .int x4), (5, .int x5)]) hx hb dX9_feed_76 hl (by decide) rfl (fun ls hl => ?_)
  refine lv_aload_n hx hb dX9_feed_78 rfl (lv_at hl 2 rfl) ?_
  refine va_get (D := D) (ci := 9) (v := .ref m_tape) (C := RX9) (T := TX9) (N := 25) hx hb hu in_X9 hown hK.1 hP 0 rfl rfl 6 (by decide) (hu _ u_1086) (fun _ h9 => h9) rfl dX9_feed_79 ?_
  refine lv_aload_n hx hb dX9_feed_82 rfl (lv_at hl 2 rfl) ?_
  refine va_get (D := D) (ci := 9) (v := .int 7) (C := RX9) (T := TX9) (N := 25) hx hb hu in_X9 hown hK.1 hP 0 rfl rfl 9 (by decide) (hu _ u_1089) (fun _ h9 => h9) rfl dX9_feed_83 ?_
  refine lv_iload hx hb dX9_feed_86 (lv_at hl 0 rfl) ?_
  refine lv_bipush (v := 24) hx hb dX9_feed_88 (by decide) ?_
  refine lv_bipush (v := 8) hx hb dX9_feed_90 (by decide) ?_
  refine lv_iload hx hb dX9_feed_92 (lv_at hl 1 rfl) ?_
  refine lv_iconst (v := 4) hx hb dX9_feed_94 (by decide) ?_
  refine lv_irem hx hb dX9_feed_95 (by decide) ?_
  refine tpi (y := 3) (by decide) ?_
  refine lv_imul hx hb dX9_feed_96 ?_
  refine tpi (y := 24) (by decide) ?_
  refine lv_isub hx hb dX9_feed_97 ?_
  refine tpi (y := 0) (by decide) ?_
  refine lv_ishr hx hb dX9_feed_98 ?_
  refine lv_sipush (v := 255) hx hb dX9_feed_99 (by decide) ?_
  refine lv_iand hx hb dX9_feed_102 ?_
  refine va_iast hx hb hK.1 hP hD hS 1 0 rfl rfl (vin_c _ _ rfl) dX9_feed_103 (fun H locs hP hD hS => ?_)
  have hP : va_P D vwCl [(md, .inr (9, [.int 0, .ref m_all, .ref m_deeds, .ref m_trial, .int 0, .ref m_hasImage, .ref m_tape, .ref m_key, .ref m_answered, .int 7, .int 0, .int 0, .ref m_goes, .int 0, .ref m_hotOnes, .ref m_indexed, .ref m_isChanged, .int 0, .ref m_valueNow, .int 0, .int (-1), .int 0, .ref m_didSome, .ref m_sizes, .ref m_ends])), (m_tape, aI cs 60 (upd g_31 (7 : Int32).toNatClampNeg ((y >>> (0 &&& 31)) &&& 255)))] H := hP
  have hD : va_D A [(md, .inr (9, [.int 0, .ref m_all, .ref m_deeds, .ref m_trial, .int 0, .ref m_hasImage, .ref m_tape, .ref m_key, .ref m_answered, .int 7, .int 0, .int 0, .ref m_goes, .int 0, .ref m_hotOnes, .ref m_indexed, .ref m_isChanged, .int 0, .ref m_valueNow, .int 0, .int (-1), .int 0, .ref m_didSome, .ref m_sizes, .ref m_ends])), (m_tape, aI cs 60 (upd g_31 (7 : Int32).toNatClampNeg ((y >>> (0 &&& 31)) &&& 255)))] := hD
  obtain ⟨g_36, eg_37⟩ : ∃ g9 : Nat → Int32, upd g_31 (7 : Int32).toNatClampNeg ((y >>> (0 &&& 31)) &&& 255) = g9 := ⟨_, rfl⟩
  rw [eg_37] at hP hD
  clear eg_37
  refine lv_aload_n hx hb dX9_feed_104 rfl (lv_at hl 2 rfl) ?_
  refine lv_dup hx hb dX9_feed_105 rfl ?_
  refine va_get (D := D) (ci := 9) (v := .int 7) (C := RX9) (T := TX9) (N := 25) hx hb hu in_X9 hown hK.1 hP 0 rfl rfl 9 (by decide) (hu _ u_1089) (fun _ h9 => h9) rfl dX9_feed_106 ?_
  refine lv_iconst (v := 1) hx hb dX9_feed_109 (by decide) ?_
  refine lv_iadd hx hb dX9_feed_110 ?_
  refine tpi (y := 8) (by decide) ?_
  refine va_put (D := D) (ci := 9) (v := .int 8) (ty := tyX9 9) (C := RX9) (T := TX9) (N := 25) hx hb hu in_X9 tyX9 tyX9_ok nmX9 hown hK.1 hP hD hS 0 rfl rfl 9 (by decide) (hu _ u_1089) (fun _ h9 => h9) rfl (tyX9_ok 9 (by decide)) rfl rfl (Nat.le_of_ble_eq_true rfl) dX9_feed_111 (fun H locs hP hD hS => ?_)
  have hP : va_P D vwCl [(md, .inr (9, [.int 0, .ref m_all, .ref m_deeds, .ref m_trial, .int 0, .ref m_hasImage, .ref m_tape, .ref m_key, .ref m_answered, .int 8, .int 0, .int 0, .ref m_goes, .int 0, .ref m_hotOnes, .ref m_indexed, .ref m_isChanged, .int 0, .ref m_valueNow, .int 0, .int (-1), .int 0, .ref m_didSome, .ref m_sizes, .ref m_ends])), (m_tape, aI cs 60 g_36)] H := hP
  have hD : va_D A [(md, .inr (9, [.int 0, .ref m_all, .ref m_deeds, .ref m_trial, .int 0, .ref m_hasImage, .ref m_tape, .ref m_key, .ref m_answered, .int 8, .int 0, .int 0, .ref m_goes, .int 0, .ref m_hotOnes, .ref m_indexed, .ref m_isChanged, .int 0, .ref m_valueNow, .int 0, .int (-1), .int 0, .ref m_didSome, .ref m_sizes, .ref m_ends])), (m_tape, aI cs 60 g_36)] := hD
  refine lv_iinc (v := 8) (lv' := [(6, .int 8), (7, .int y), (0, .ref md), (1, .int x), (2, .int y), (3, .int z), (4, .int x4), (5, .int x5)]) hx hb dX9_feed_114 hl (k := 1) rfl (by decide) (by decide) rfl (fun ls hl => ?_)
  refine lv_goto (tgt := 23) hx hb dX9_feed_117 (by decide) ?_
  refine lv_iload hx hb dX9_feed_23 (lv_at hl 0 rfl) ?_
  refine lv_bipush (v := 20) hx hb dX9_feed_25 (by decide) ?_
  refine lv_icmp_ge (tgt := 120) hx hb dX9_feed_27 (by decide) (fun c_38 => absurd c_38 (by decide)) (fun c_38 => ?_)
  refine lv_iload hx hb dX9_feed_30 (lv_at hl 0 rfl) ?_
  refine lv_iconst (v := 4) hx hb dX9_feed_32 (by decide) ?_
  refine lv_icmp_ge (tgt := 40) hx hb dX9_feed_33 (by decide) (fun c_39 => ?_) (fun c_39 => absurd (by decide) c_39)
  refine lv_iload hx hb dX9_feed_40 (lv_at hl 0 rfl) ?_
  refine lv_bipush (v := 8) hx hb dX9_feed_42 (by decide) ?_
  refine lv_icmp_ge (tgt := 51) hx hb dX9_feed_44 (by decide) (fun c_40 => ?_) (fun c_40 => absurd (by decide) c_40)
  refine lv_iload hx hb dX9_feed_51 (lv_at hl 0 rfl) ?_
  refine lv_bipush (v := 12) hx hb dX9_feed_53 (by decide) ?_
  refine lv_icmp_ge (tgt := 62) hx hb dX9_feed_55 (by decide) (fun c_41 => absurd c_41 (by decide)) (fun c_41 => ?_)
  refine lv_iload_n hx hb dX9_feed_58 rfl (lv_at hl 5 rfl) ?_
  refine lv_goto (tgt := 76) hx hb dX9_feed_59 (by decide) ?_
  refine lv_istore (lv' := [(7, .int z), (6, .int 8), (0, .ref md), (1, .int x), (2, .int y), (3, .int z), (4, .int x4), (5, .int x5)]) hx hb dX9_feed_76 hl (by decide) rfl (fun ls hl => ?_)
  refine lv_aload_n hx hb dX9_feed_78 rfl (lv_at hl 2 rfl) ?_
  refine va_get (D := D) (ci := 9) (v := .ref m_tape) (C := RX9) (T := TX9) (N := 25) hx hb hu in_X9 hown hK.1 hP 0 rfl rfl 6 (by decide) (hu _ u_1086) (fun _ h9 => h9) rfl dX9_feed_79 ?_
  refine lv_aload_n hx hb dX9_feed_82 rfl (lv_at hl 2 rfl) ?_
  refine va_get (D := D) (ci := 9) (v := .int 8) (C := RX9) (T := TX9) (N := 25) hx hb hu in_X9 hown hK.1 hP 0 rfl rfl 9 (by decide) (hu _ u_1089) (fun _ h9 => h9) rfl dX9_feed_83 ?_
  refine lv_iload hx hb dX9_feed_86 (lv_at hl 0 rfl) ?_
  refine lv_bipush (v := 24) hx hb dX9_feed_88 (by decide) ?_
  refine lv_bipush (v := 8) hx hb dX9_feed_90 (by decide) ?_
  refine lv_iload hx hb dX9_feed_92 (lv_at hl 1 rfl) ?_
  refine lv_iconst (v := 4) hx hb dX9_feed_94 (by decide) ?_
  refine lv_irem hx hb dX9_feed_95 (by decide) ?_
  refine tpi (y := 0) (by decide) ?_
  refine lv_imul hx hb dX9_feed_96 ?_
  refine tpi (y := 0) (by decide) ?_
  refine lv_isub hx hb dX9_feed_97 ?_
  refine tpi (y := 24) (by decide) ?_
  refine lv_ishr hx hb dX9_feed_98 ?_
  refine lv_sipush (v := 255) hx hb dX9_feed_99 (by decide) ?_
  refine lv_iand hx hb dX9_feed_102 ?_
  refine va_iast hx hb hK.1 hP hD hS 1 0 rfl rfl (vin_c _ _ rfl) dX9_feed_103 (fun H locs hP hD hS => ?_)
  have hP : va_P D vwCl [(md, .inr (9, [.int 0, .ref m_all, .ref m_deeds, .ref m_trial, .int 0, .ref m_hasImage, .ref m_tape, .ref m_key, .ref m_answered, .int 8, .int 0, .int 0, .ref m_goes, .int 0, .ref m_hotOnes, .ref m_indexed, .ref m_isChanged, .int 0, .ref m_valueNow, .int 0, .int (-1), .int 0, .ref m_didSome, .ref m_sizes, .ref m_ends])), (m_tape, aI cs 60 (upd g_36 (8 : Int32).toNatClampNeg ((z >>> (24 &&& 31)) &&& 255)))] H := hP
  have hD : va_D A [(md, .inr (9, [.int 0, .ref m_all, .ref m_deeds, .ref m_trial, .int 0, .ref m_hasImage, .ref m_tape, .ref m_key, .ref m_answered, .int 8, .int 0, .int 0, .ref m_goes, .int 0, .ref m_hotOnes, .ref m_indexed, .ref m_isChanged, .int 0, .ref m_valueNow, .int 0, .int (-1), .int 0, .ref m_didSome, .ref m_sizes, .ref m_ends])), (m_tape, aI cs 60 (upd g_36 (8 : Int32).toNatClampNeg ((z >>> (24 &&& 31)) &&& 255)))] := hD
  obtain ⟨g_42, eg_43⟩ : ∃ g9 : Nat → Int32, upd g_36 (8 : Int32).toNatClampNeg ((z >>> (24 &&& 31)) &&& 255) = g9 := ⟨_, rfl⟩
  rw [eg_43] at hP hD
  clear eg_43
  refine lv_aload_n hx hb dX9_feed_104 rfl (lv_at hl 2 rfl) ?_
  refine lv_dup hx hb dX9_feed_105 rfl ?_
  refine va_get (D := D) (ci := 9) (v := .int 8) (C := RX9) (T := TX9) (N := 25) hx hb hu in_X9 hown hK.1 hP 0 rfl rfl 9 (by decide) (hu _ u_1089) (fun _ h9 => h9) rfl dX9_feed_106 ?_
  refine lv_iconst (v := 1) hx hb dX9_feed_109 (by decide) ?_
  refine lv_iadd hx hb dX9_feed_110 ?_
  refine tpi (y := 9) (by decide) ?_
  refine va_put (D := D) (ci := 9) (v := .int 9) (ty := tyX9 9) (C := RX9) (T := TX9) (N := 25) hx hb hu in_X9 tyX9 tyX9_ok nmX9 hown hK.1 hP hD hS 0 rfl rfl 9 (by decide) (hu _ u_1089) (fun _ h9 => h9) rfl (tyX9_ok 9 (by decide)) rfl rfl (Nat.le_of_ble_eq_true rfl) dX9_feed_111 (fun H locs hP hD hS => ?_)
  have hP : va_P D vwCl [(md, .inr (9, [.int 0, .ref m_all, .ref m_deeds, .ref m_trial, .int 0, .ref m_hasImage, .ref m_tape, .ref m_key, .ref m_answered, .int 9, .int 0, .int 0, .ref m_goes, .int 0, .ref m_hotOnes, .ref m_indexed, .ref m_isChanged, .int 0, .ref m_valueNow, .int 0, .int (-1), .int 0, .ref m_didSome, .ref m_sizes, .ref m_ends])), (m_tape, aI cs 60 g_42)] H := hP
  have hD : va_D A [(md, .inr (9, [.int 0, .ref m_all, .ref m_deeds, .ref m_trial, .int 0, .ref m_hasImage, .ref m_tape, .ref m_key, .ref m_answered, .int 9, .int 0, .int 0, .ref m_goes, .int 0, .ref m_hotOnes, .ref m_indexed, .ref m_isChanged, .int 0, .ref m_valueNow, .int 0, .int (-1), .int 0, .ref m_didSome, .ref m_sizes, .ref m_ends])), (m_tape, aI cs 60 g_42)] := hD
  refine lv_iinc (v := 9) (lv' := [(6, .int 9), (7, .int z), (0, .ref md), (1, .int x), (2, .int y), (3, .int z), (4, .int x4), (5, .int x5)]) hx hb dX9_feed_114 hl (k := 1) rfl (by decide) (by decide) rfl (fun ls hl => ?_)
  refine lv_goto (tgt := 23) hx hb dX9_feed_117 (by decide) ?_
  refine lv_iload hx hb dX9_feed_23 (lv_at hl 0 rfl) ?_
  refine lv_bipush (v := 20) hx hb dX9_feed_25 (by decide) ?_
  refine lv_icmp_ge (tgt := 120) hx hb dX9_feed_27 (by decide) (fun c_44 => absurd c_44 (by decide)) (fun c_44 => ?_)
  refine lv_iload hx hb dX9_feed_30 (lv_at hl 0 rfl) ?_
  refine lv_iconst (v := 4) hx hb dX9_feed_32 (by decide) ?_
  refine lv_icmp_ge (tgt := 40) hx hb dX9_feed_33 (by decide) (fun c_45 => ?_) (fun c_45 => absurd (by decide) c_45)
  refine lv_iload hx hb dX9_feed_40 (lv_at hl 0 rfl) ?_
  refine lv_bipush (v := 8) hx hb dX9_feed_42 (by decide) ?_
  refine lv_icmp_ge (tgt := 51) hx hb dX9_feed_44 (by decide) (fun c_46 => ?_) (fun c_46 => absurd (by decide) c_46)
  refine lv_iload hx hb dX9_feed_51 (lv_at hl 0 rfl) ?_
  refine lv_bipush (v := 12) hx hb dX9_feed_53 (by decide) ?_
  refine lv_icmp_ge (tgt := 62) hx hb dX9_feed_55 (by decide) (fun c_47 => absurd c_47 (by decide)) (fun c_47 => ?_)
  refine lv_iload_n hx hb dX9_feed_58 rfl (lv_at hl 5 rfl) ?_
  refine lv_goto (tgt := 76) hx hb dX9_feed_59 (by decide) ?_
  refine lv_istore (lv' := [(7, .int z), (6, .int 9), (0, .ref md), (1, .int x), (2, .int y), (3, .int z), (4, .int x4), (5, .int x5)]) hx hb dX9_feed_76 hl (by decide) rfl (fun ls hl => ?_)
  refine lv_aload_n hx hb dX9_feed_78 rfl (lv_at hl 2 rfl) ?_
  refine va_get (D := D) (ci := 9) (v := .ref m_tape) (C := RX9) (T := TX9) (N := 25) hx hb hu in_X9 hown hK.1 hP 0 rfl rfl 6 (by decide) (hu _ u_1086) (fun _ h9 => h9) rfl dX9_feed_79 ?_
  refine lv_aload_n hx hb dX9_feed_82 rfl (lv_at hl 2 rfl) ?_
  refine va_get (D := D) (ci := 9) (v := .int 9) (C := RX9) (T := TX9) (N := 25) hx hb hu in_X9 hown hK.1 hP 0 rfl rfl 9 (by decide) (hu _ u_1089) (fun _ h9 => h9) rfl dX9_feed_83 ?_
  refine lv_iload hx hb dX9_feed_86 (lv_at hl 0 rfl) ?_
  refine lv_bipush (v := 24) hx hb dX9_feed_88 (by decide) ?_
  refine lv_bipush (v := 8) hx hb dX9_feed_90 (by decide) ?_
  refine lv_iload hx hb dX9_feed_92 (lv_at hl 1 rfl) ?_
  refine lv_iconst (v := 4) hx hb dX9_feed_94 (by decide) ?_
  refine lv_irem hx hb dX9_feed_95 (by decide) ?_
  refine tpi (y := 1) (by decide) ?_
  refine lv_imul hx hb dX9_feed_96 ?_
  refine tpi (y := 8) (by decide) ?_
  refine lv_isub hx hb dX9_feed_97 ?_
  refine tpi (y := 16) (by decide) ?_
  refine lv_ishr hx hb dX9_feed_98 ?_
  refine lv_sipush (v := 255) hx hb dX9_feed_99 (by decide) ?_
  refine lv_iand hx hb dX9_feed_102 ?_
  refine va_iast hx hb hK.1 hP hD hS 1 0 rfl rfl (vin_c _ _ rfl) dX9_feed_103 (fun H locs hP hD hS => ?_)
  have hP : va_P D vwCl [(md, .inr (9, [.int 0, .ref m_all, .ref m_deeds, .ref m_trial, .int 0, .ref m_hasImage, .ref m_tape, .ref m_key, .ref m_answered, .int 9, .int 0, .int 0, .ref m_goes, .int 0, .ref m_hotOnes, .ref m_indexed, .ref m_isChanged, .int 0, .ref m_valueNow, .int 0, .int (-1), .int 0, .ref m_didSome, .ref m_sizes, .ref m_ends])), (m_tape, aI cs 60 (upd g_42 (9 : Int32).toNatClampNeg ((z >>> (16 &&& 31)) &&& 255)))] H := hP
  have hD : va_D A [(md, .inr (9, [.int 0, .ref m_all, .ref m_deeds, .ref m_trial, .int 0, .ref m_hasImage, .ref m_tape, .ref m_key, .ref m_answered, .int 9, .int 0, .int 0, .ref m_goes, .int 0, .ref m_hotOnes, .ref m_indexed, .ref m_isChanged, .int 0, .ref m_valueNow, .int 0, .int (-1), .int 0, .ref m_didSome, .ref m_sizes, .ref m_ends])), (m_tape, aI cs 60 (upd g_42 (9 : Int32).toNatClampNeg ((z >>> (16 &&& 31)) &&& 255)))] := hD
  obtain ⟨g_48, eg_49⟩ : ∃ g9 : Nat → Int32, upd g_42 (9 : Int32).toNatClampNeg ((z >>> (16 &&& 31)) &&& 255) = g9 := ⟨_, rfl⟩
  rw [eg_49] at hP hD
  clear eg_49
  refine lv_aload_n hx hb dX9_feed_104 rfl (lv_at hl 2 rfl) ?_
  refine lv_dup hx hb dX9_feed_105 rfl ?_
  refine va_get (D := D) (ci := 9) (v := .int 9) (C := RX9) (T := TX9) (N := 25) hx hb hu in_X9 hown hK.1 hP 0 rfl rfl 9 (by decide) (hu _ u_1089) (fun _ h9 => h9) rfl dX9_feed_106 ?_
  refine lv_iconst (v := 1) hx hb dX9_feed_109 (by decide) ?_
  refine lv_iadd hx hb dX9_feed_110 ?_
  refine tpi (y := 10) (by decide) ?_
  refine va_put (D := D) (ci := 9) (v := .int 10) (ty := tyX9 9) (C := RX9) (T := TX9) (N := 25) hx hb hu in_X9 tyX9 tyX9_ok nmX9 hown hK.1 hP hD hS 0 rfl rfl 9 (by decide) (hu _ u_1089) (fun _ h9 => h9) rfl (tyX9_ok 9 (by decide)) rfl rfl (Nat.le_of_ble_eq_true rfl) dX9_feed_111 (fun H locs hP hD hS => ?_)
  have hP : va_P D vwCl [(md, .inr (9, [.int 0, .ref m_all, .ref m_deeds, .ref m_trial, .int 0, .ref m_hasImage, .ref m_tape, .ref m_key, .ref m_answered, .int 10, .int 0, .int 0, .ref m_goes, .int 0, .ref m_hotOnes, .ref m_indexed, .ref m_isChanged, .int 0, .ref m_valueNow, .int 0, .int (-1), .int 0, .ref m_didSome, .ref m_sizes, .ref m_ends])), (m_tape, aI cs 60 g_48)] H := hP
  have hD : va_D A [(md, .inr (9, [.int 0, .ref m_all, .ref m_deeds, .ref m_trial, .int 0, .ref m_hasImage, .ref m_tape, .ref m_key, .ref m_answered, .int 10, .int 0, .int 0, .ref m_goes, .int 0, .ref m_hotOnes, .ref m_indexed, .ref m_isChanged, .int 0, .ref m_valueNow, .int 0, .int (-1), .int 0, .ref m_didSome, .ref m_sizes, .ref m_ends])), (m_tape, aI cs 60 g_48)] := hD
  refine lv_iinc (v := 10) (lv' := [(6, .int 10), (7, .int z), (0, .ref md), (1, .int x), (2, .int y), (3, .int z), (4, .int x4), (5, .int x5)]) hx hb dX9_feed_114 hl (k := 1) rfl (by decide) (by decide) rfl (fun ls hl => ?_)
  refine lv_goto (tgt := 23) hx hb dX9_feed_117 (by decide) ?_
  refine lv_iload hx hb dX9_feed_23 (lv_at hl 0 rfl) ?_
  refine lv_bipush (v := 20) hx hb dX9_feed_25 (by decide) ?_
  refine lv_icmp_ge (tgt := 120) hx hb dX9_feed_27 (by decide) (fun c_50 => absurd c_50 (by decide)) (fun c_50 => ?_)
  refine lv_iload hx hb dX9_feed_30 (lv_at hl 0 rfl) ?_
  refine lv_iconst (v := 4) hx hb dX9_feed_32 (by decide) ?_
  refine lv_icmp_ge (tgt := 40) hx hb dX9_feed_33 (by decide) (fun c_51 => ?_) (fun c_51 => absurd (by decide) c_51)
  refine lv_iload hx hb dX9_feed_40 (lv_at hl 0 rfl) ?_
  refine lv_bipush (v := 8) hx hb dX9_feed_42 (by decide) ?_
  refine lv_icmp_ge (tgt := 51) hx hb dX9_feed_44 (by decide) (fun c_52 => ?_) (fun c_52 => absurd (by decide) c_52)
  refine lv_iload hx hb dX9_feed_51 (lv_at hl 0 rfl) ?_
  refine lv_bipush (v := 12) hx hb dX9_feed_53 (by decide) ?_
  refine lv_icmp_ge (tgt := 62) hx hb dX9_feed_55 (by decide) (fun c_53 => absurd c_53 (by decide)) (fun c_53 => ?_)
  refine lv_iload_n hx hb dX9_feed_58 rfl (lv_at hl 5 rfl) ?_
  refine lv_goto (tgt := 76) hx hb dX9_feed_59 (by decide) ?_
  refine lv_istore (lv' := [(7, .int z), (6, .int 10), (0, .ref md), (1, .int x), (2, .int y), (3, .int z), (4, .int x4), (5, .int x5)]) hx hb dX9_feed_76 hl (by decide) rfl (fun ls hl => ?_)
  refine lv_aload_n hx hb dX9_feed_78 rfl (lv_at hl 2 rfl) ?_
  refine va_get (D := D) (ci := 9) (v := .ref m_tape) (C := RX9) (T := TX9) (N := 25) hx hb hu in_X9 hown hK.1 hP 0 rfl rfl 6 (by decide) (hu _ u_1086) (fun _ h9 => h9) rfl dX9_feed_79 ?_
  refine lv_aload_n hx hb dX9_feed_82 rfl (lv_at hl 2 rfl) ?_
  refine va_get (D := D) (ci := 9) (v := .int 10) (C := RX9) (T := TX9) (N := 25) hx hb hu in_X9 hown hK.1 hP 0 rfl rfl 9 (by decide) (hu _ u_1089) (fun _ h9 => h9) rfl dX9_feed_83 ?_
  refine lv_iload hx hb dX9_feed_86 (lv_at hl 0 rfl) ?_
  refine lv_bipush (v := 24) hx hb dX9_feed_88 (by decide) ?_
  refine lv_bipush (v := 8) hx hb dX9_feed_90 (by decide) ?_
  refine lv_iload hx hb dX9_feed_92 (lv_at hl 1 rfl) ?_
  refine lv_iconst (v := 4) hx hb dX9_feed_94 (by decide) ?_
  refine lv_irem hx hb dX9_feed_95 (by decide) ?_
  refine tpi (y := 2) (by decide) ?_
  refine lv_imul hx hb dX9_feed_96 ?_
  refine tpi (y := 16) (by decide) ?_
  refine lv_isub hx hb dX9_feed_97 ?_
  refine tpi (y := 8) (by decide) ?_
  refine lv_ishr hx hb dX9_feed_98 ?_
  refine lv_sipush (v := 255) hx hb dX9_feed_99 (by decide) ?_
  refine lv_iand hx hb dX9_feed_102 ?_
  refine va_iast hx hb hK.1 hP hD hS 1 0 rfl rfl (vin_c _ _ rfl) dX9_feed_103 (fun H locs hP hD hS => ?_)
  have hP : va_P D vwCl [(md, .inr (9, [.int 0, .ref m_all, .ref m_deeds, .ref m_trial, .int 0, .ref m_hasImage, .ref m_tape, .ref m_key, .ref m_answered, .int 10, .int 0, .int 0, .ref m_goes, .int 0, .ref m_hotOnes, .ref m_indexed, .ref m_isChanged, .int 0, .ref m_valueNow, .int 0, .int (-1), .int 0, .ref m_didSome, .ref m_sizes, .ref m_ends])), (m_tape, aI cs 60 (upd g_48 (10 : Int32).toNatClampNeg ((z >>> (8 &&& 31)) &&& 255)))] H := hP
  have hD : va_D A [(md, .inr (9, [.int 0, .ref m_all, .ref m_deeds, .ref m_trial, .int 0, .ref m_hasImage, .ref m_tape, .ref m_key, .ref m_answered, .int 10, .int 0, .int 0, .ref m_goes, .int 0, .ref m_hotOnes, .ref m_indexed, .ref m_isChanged, .int 0, .ref m_valueNow, .int 0, .int (-1), .int 0, .ref m_didSome, .ref m_sizes, .ref m_ends])), (m_tape, aI cs 60 (upd g_48 (10 : Int32).toNatClampNeg ((z >>> (8 &&& 31)) &&& 255)))] := hD
  obtain ⟨g_54, eg_55⟩ : ∃ g9 : Nat → Int32, upd g_48 (10 : Int32).toNatClampNeg ((z >>> (8 &&& 31)) &&& 255) = g9 := ⟨_, rfl⟩
  rw [eg_55] at hP hD
  clear eg_55
  refine lv_aload_n hx hb dX9_feed_104 rfl (lv_at hl 2 rfl) ?_
  refine lv_dup hx hb dX9_feed_105 rfl ?_
  refine va_get (D := D) (ci := 9) (v := .int 10) (C := RX9) (T := TX9) (N := 25) hx hb hu in_X9 hown hK.1 hP 0 rfl rfl 9 (by decide) (hu _ u_1089) (fun _ h9 => h9) rfl dX9_feed_106 ?_
  refine lv_iconst (v := 1) hx hb dX9_feed_109 (by decide) ?_
  refine lv_iadd hx hb dX9_feed_110 ?_
  refine tpi (y := 11) (by decide) ?_
  refine va_put (D := D) (ci := 9) (v := .int 11) (ty := tyX9 9) (C := RX9) (T := TX9) (N := 25) hx hb hu in_X9 tyX9 tyX9_ok nmX9 hown hK.1 hP hD hS 0 rfl rfl 9 (by decide) (hu _ u_1089) (fun _ h9 => h9) rfl (tyX9_ok 9 (by decide)) rfl rfl (Nat.le_of_ble_eq_true rfl) dX9_feed_111 (fun H locs hP hD hS => ?_)
  have hP : va_P D vwCl [(md, .inr (9, [.int 0, .ref m_all, .ref m_deeds, .ref m_trial, .int 0, .ref m_hasImage, .ref m_tape, .ref m_key, .ref m_answered, .int 11, .int 0, .int 0, .ref m_goes, .int 0, .ref m_hotOnes, .ref m_indexed, .ref m_isChanged, .int 0, .ref m_valueNow, .int 0, .int (-1), .int 0, .ref m_didSome, .ref m_sizes, .ref m_ends])), (m_tape, aI cs 60 g_54)] H := hP
  have hD : va_D A [(md, .inr (9, [.int 0, .ref m_all, .ref m_deeds, .ref m_trial, .int 0, .ref m_hasImage, .ref m_tape, .ref m_key, .ref m_answered, .int 11, .int 0, .int 0, .ref m_goes, .int 0, .ref m_hotOnes, .ref m_indexed, .ref m_isChanged, .int 0, .ref m_valueNow, .int 0, .int (-1), .int 0, .ref m_didSome, .ref m_sizes, .ref m_ends])), (m_tape, aI cs 60 g_54)] := hD
  refine lv_iinc (v := 11) (lv' := [(6, .int 11), (7, .int z), (0, .ref md), (1, .int x), (2, .int y), (3, .int z), (4, .int x4), (5, .int x5)]) hx hb dX9_feed_114 hl (k := 1) rfl (by decide) (by decide) rfl (fun ls hl => ?_)
  refine lv_goto (tgt := 23) hx hb dX9_feed_117 (by decide) ?_
  refine lv_iload hx hb dX9_feed_23 (lv_at hl 0 rfl) ?_
  refine lv_bipush (v := 20) hx hb dX9_feed_25 (by decide) ?_
  refine lv_icmp_ge (tgt := 120) hx hb dX9_feed_27 (by decide) (fun c_56 => absurd c_56 (by decide)) (fun c_56 => ?_)
  refine lv_iload hx hb dX9_feed_30 (lv_at hl 0 rfl) ?_
  refine lv_iconst (v := 4) hx hb dX9_feed_32 (by decide) ?_
  refine lv_icmp_ge (tgt := 40) hx hb dX9_feed_33 (by decide) (fun c_57 => ?_) (fun c_57 => absurd (by decide) c_57)
  refine lv_iload hx hb dX9_feed_40 (lv_at hl 0 rfl) ?_
  refine lv_bipush (v := 8) hx hb dX9_feed_42 (by decide) ?_
  refine lv_icmp_ge (tgt := 51) hx hb dX9_feed_44 (by decide) (fun c_58 => ?_) (fun c_58 => absurd (by decide) c_58)
  refine lv_iload hx hb dX9_feed_51 (lv_at hl 0 rfl) ?_
  refine lv_bipush (v := 12) hx hb dX9_feed_53 (by decide) ?_
  refine lv_icmp_ge (tgt := 62) hx hb dX9_feed_55 (by decide) (fun c_59 => absurd c_59 (by decide)) (fun c_59 => ?_)
  refine lv_iload_n hx hb dX9_feed_58 rfl (lv_at hl 5 rfl) ?_
  refine lv_goto (tgt := 76) hx hb dX9_feed_59 (by decide) ?_
  refine lv_istore (lv' := [(7, .int z), (6, .int 11), (0, .ref md), (1, .int x), (2, .int y), (3, .int z), (4, .int x4), (5, .int x5)]) hx hb dX9_feed_76 hl (by decide) rfl (fun ls hl => ?_)
  refine lv_aload_n hx hb dX9_feed_78 rfl (lv_at hl 2 rfl) ?_
  refine va_get (D := D) (ci := 9) (v := .ref m_tape) (C := RX9) (T := TX9) (N := 25) hx hb hu in_X9 hown hK.1 hP 0 rfl rfl 6 (by decide) (hu _ u_1086) (fun _ h9 => h9) rfl dX9_feed_79 ?_
  refine lv_aload_n hx hb dX9_feed_82 rfl (lv_at hl 2 rfl) ?_
  refine va_get (D := D) (ci := 9) (v := .int 11) (C := RX9) (T := TX9) (N := 25) hx hb hu in_X9 hown hK.1 hP 0 rfl rfl 9 (by decide) (hu _ u_1089) (fun _ h9 => h9) rfl dX9_feed_83 ?_
  refine lv_iload hx hb dX9_feed_86 (lv_at hl 0 rfl) ?_
  refine lv_bipush (v := 24) hx hb dX9_feed_88 (by decide) ?_
  refine lv_bipush (v := 8) hx hb dX9_feed_90 (by decide) ?_
  refine lv_iload hx hb dX9_feed_92 (lv_at hl 1 rfl) ?_
  refine lv_iconst (v := 4) hx hb dX9_feed_94 (by decide) ?_
  refine lv_irem hx hb dX9_feed_95 (by decide) ?_
  refine tpi (y := 3) (by decide) ?_
  refine lv_imul hx hb dX9_feed_96 ?_
  refine tpi (y := 24) (by decide) ?_
  refine lv_isub hx hb dX9_feed_97 ?_
  refine tpi (y := 0) (by decide) ?_
  refine lv_ishr hx hb dX9_feed_98 ?_
  refine lv_sipush (v := 255) hx hb dX9_feed_99 (by decide) ?_
  refine lv_iand hx hb dX9_feed_102 ?_
  refine va_iast hx hb hK.1 hP hD hS 1 0 rfl rfl (vin_c _ _ rfl) dX9_feed_103 (fun H locs hP hD hS => ?_)
  have hP : va_P D vwCl [(md, .inr (9, [.int 0, .ref m_all, .ref m_deeds, .ref m_trial, .int 0, .ref m_hasImage, .ref m_tape, .ref m_key, .ref m_answered, .int 11, .int 0, .int 0, .ref m_goes, .int 0, .ref m_hotOnes, .ref m_indexed, .ref m_isChanged, .int 0, .ref m_valueNow, .int 0, .int (-1), .int 0, .ref m_didSome, .ref m_sizes, .ref m_ends])), (m_tape, aI cs 60 (upd g_54 (11 : Int32).toNatClampNeg ((z >>> (0 &&& 31)) &&& 255)))] H := hP
  have hD : va_D A [(md, .inr (9, [.int 0, .ref m_all, .ref m_deeds, .ref m_trial, .int 0, .ref m_hasImage, .ref m_tape, .ref m_key, .ref m_answered, .int 11, .int 0, .int 0, .ref m_goes, .int 0, .ref m_hotOnes, .ref m_indexed, .ref m_isChanged, .int 0, .ref m_valueNow, .int 0, .int (-1), .int 0, .ref m_didSome, .ref m_sizes, .ref m_ends])), (m_tape, aI cs 60 (upd g_54 (11 : Int32).toNatClampNeg ((z >>> (0 &&& 31)) &&& 255)))] := hD
  obtain ⟨g_60, eg_61⟩ : ∃ g9 : Nat → Int32, upd g_54 (11 : Int32).toNatClampNeg ((z >>> (0 &&& 31)) &&& 255) = g9 := ⟨_, rfl⟩
  rw [eg_61] at hP hD
  clear eg_61
  refine lv_aload_n hx hb dX9_feed_104 rfl (lv_at hl 2 rfl) ?_
  refine lv_dup hx hb dX9_feed_105 rfl ?_
  refine va_get (D := D) (ci := 9) (v := .int 11) (C := RX9) (T := TX9) (N := 25) hx hb hu in_X9 hown hK.1 hP 0 rfl rfl 9 (by decide) (hu _ u_1089) (fun _ h9 => h9) rfl dX9_feed_106 ?_
  refine lv_iconst (v := 1) hx hb dX9_feed_109 (by decide) ?_
  refine lv_iadd hx hb dX9_feed_110 ?_
  refine tpi (y := 12) (by decide) ?_
  refine va_put (D := D) (ci := 9) (v := .int 12) (ty := tyX9 9) (C := RX9) (T := TX9) (N := 25) hx hb hu in_X9 tyX9 tyX9_ok nmX9 hown hK.1 hP hD hS 0 rfl rfl 9 (by decide) (hu _ u_1089) (fun _ h9 => h9) rfl (tyX9_ok 9 (by decide)) rfl rfl (Nat.le_of_ble_eq_true rfl) dX9_feed_111 (fun H locs hP hD hS => ?_)
  have hP : va_P D vwCl [(md, .inr (9, [.int 0, .ref m_all, .ref m_deeds, .ref m_trial, .int 0, .ref m_hasImage, .ref m_tape, .ref m_key, .ref m_answered, .int 12, .int 0, .int 0, .ref m_goes, .int 0, .ref m_hotOnes, .ref m_indexed, .ref m_isChanged, .int 0, .ref m_valueNow, .int 0, .int (-1), .int 0, .ref m_didSome, .ref m_sizes, .ref m_ends])), (m_tape, aI cs 60 g_60)] H := hP
  have hD : va_D A [(md, .inr (9, [.int 0, .ref m_all, .ref m_deeds, .ref m_trial, .int 0, .ref m_hasImage, .ref m_tape, .ref m_key, .ref m_answered, .int 12, .int 0, .int 0, .ref m_goes, .int 0, .ref m_hotOnes, .ref m_indexed, .ref m_isChanged, .int 0, .ref m_valueNow, .int 0, .int (-1), .int 0, .ref m_didSome, .ref m_sizes, .ref m_ends])), (m_tape, aI cs 60 g_60)] := hD
  refine lv_iinc (v := 12) (lv' := [(6, .int 12), (7, .int z), (0, .ref md), (1, .int x), (2, .int y), (3, .int z), (4, .int x4), (5, .int x5)]) hx hb dX9_feed_114 hl (k := 1) rfl (by decide) (by decide) rfl (fun ls hl => ?_)
  refine lv_goto (tgt := 23) hx hb dX9_feed_117 (by decide) ?_
  refine lv_iload hx hb dX9_feed_23 (lv_at hl 0 rfl) ?_
  refine lv_bipush (v := 20) hx hb dX9_feed_25 (by decide) ?_
  refine lv_icmp_ge (tgt := 120) hx hb dX9_feed_27 (by decide) (fun c_62 => absurd c_62 (by decide)) (fun c_62 => ?_)
  refine lv_iload hx hb dX9_feed_30 (lv_at hl 0 rfl) ?_
  refine lv_iconst (v := 4) hx hb dX9_feed_32 (by decide) ?_
  refine lv_icmp_ge (tgt := 40) hx hb dX9_feed_33 (by decide) (fun c_63 => ?_) (fun c_63 => absurd (by decide) c_63)
  refine lv_iload hx hb dX9_feed_40 (lv_at hl 0 rfl) ?_
  refine lv_bipush (v := 8) hx hb dX9_feed_42 (by decide) ?_
  refine lv_icmp_ge (tgt := 51) hx hb dX9_feed_44 (by decide) (fun c_64 => ?_) (fun c_64 => absurd (by decide) c_64)
  refine lv_iload hx hb dX9_feed_51 (lv_at hl 0 rfl) ?_
  refine lv_bipush (v := 12) hx hb dX9_feed_53 (by decide) ?_
  refine lv_icmp_ge (tgt := 62) hx hb dX9_feed_55 (by decide) (fun c_65 => ?_) (fun c_65 => absurd (by decide) c_65)
  refine lv_iload hx hb dX9_feed_62 (lv_at hl 0 rfl) ?_
  refine lv_bipush (v := 16) hx hb dX9_feed_64 (by decide) ?_
  refine lv_icmp_ge (tgt := 74) hx hb dX9_feed_66 (by decide) (fun c_66 => absurd c_66 (by decide)) (fun c_66 => ?_)
  refine lv_iload hx hb dX9_feed_69 (lv_at hl 6 rfl) ?_
  refine lv_goto (tgt := 76) hx hb dX9_feed_71 (by decide) ?_
  refine lv_istore (lv' := [(7, .int x4), (6, .int 12), (0, .ref md), (1, .int x), (2, .int y), (3, .int z), (4, .int x4), (5, .int x5)]) hx hb dX9_feed_76 hl (by decide) rfl (fun ls hl => ?_)
  refine lv_aload_n hx hb dX9_feed_78 rfl (lv_at hl 2 rfl) ?_
  refine va_get (D := D) (ci := 9) (v := .ref m_tape) (C := RX9) (T := TX9) (N := 25) hx hb hu in_X9 hown hK.1 hP 0 rfl rfl 6 (by decide) (hu _ u_1086) (fun _ h9 => h9) rfl dX9_feed_79 ?_
  refine lv_aload_n hx hb dX9_feed_82 rfl (lv_at hl 2 rfl) ?_
  refine va_get (D := D) (ci := 9) (v := .int 12) (C := RX9) (T := TX9) (N := 25) hx hb hu in_X9 hown hK.1 hP 0 rfl rfl 9 (by decide) (hu _ u_1089) (fun _ h9 => h9) rfl dX9_feed_83 ?_
  refine lv_iload hx hb dX9_feed_86 (lv_at hl 0 rfl) ?_
  refine lv_bipush (v := 24) hx hb dX9_feed_88 (by decide) ?_
  refine lv_bipush (v := 8) hx hb dX9_feed_90 (by decide) ?_
  refine lv_iload hx hb dX9_feed_92 (lv_at hl 1 rfl) ?_
  refine lv_iconst (v := 4) hx hb dX9_feed_94 (by decide) ?_
  refine lv_irem hx hb dX9_feed_95 (by decide) ?_
  refine tpi (y := 0) (by decide) ?_
  refine lv_imul hx hb dX9_feed_96 ?_
  refine tpi (y := 0) (by decide) ?_
  refine lv_isub hx hb dX9_feed_97 ?_
  refine tpi (y := 24) (by decide) ?_
  refine lv_ishr hx hb dX9_feed_98 ?_
  refine lv_sipush (v := 255) hx hb dX9_feed_99 (by decide) ?_
  refine lv_iand hx hb dX9_feed_102 ?_
  refine va_iast hx hb hK.1 hP hD hS 1 0 rfl rfl (vin_c _ _ rfl) dX9_feed_103 (fun H locs hP hD hS => ?_)
  have hP : va_P D vwCl [(md, .inr (9, [.int 0, .ref m_all, .ref m_deeds, .ref m_trial, .int 0, .ref m_hasImage, .ref m_tape, .ref m_key, .ref m_answered, .int 12, .int 0, .int 0, .ref m_goes, .int 0, .ref m_hotOnes, .ref m_indexed, .ref m_isChanged, .int 0, .ref m_valueNow, .int 0, .int (-1), .int 0, .ref m_didSome, .ref m_sizes, .ref m_ends])), (m_tape, aI cs 60 (upd g_60 (12 : Int32).toNatClampNeg ((x4 >>> (24 &&& 31)) &&& 255)))] H := hP
  have hD : va_D A [(md, .inr (9, [.int 0, .ref m_all, .ref m_deeds, .ref m_trial, .int 0, .ref m_hasImage, .ref m_tape, .ref m_key, .ref m_answered, .int 12, .int 0, .int 0, .ref m_goes, .int 0, .ref m_hotOnes, .ref m_indexed, .ref m_isChanged, .int 0, .ref m_valueNow, .int 0, .int (-1), .int 0, .ref m_didSome, .ref m_sizes, .ref m_ends])), (m_tape, aI cs 60 (upd g_60 (12 : Int32).toNatClampNeg ((x4 >>> (24 &&& 31)) &&& 255)))] := hD
  obtain ⟨g_67, eg_68⟩ : ∃ g9 : Nat → Int32, upd g_60 (12 : Int32).toNatClampNeg ((x4 >>> (24 &&& 31)) &&& 255) = g9 := ⟨_, rfl⟩
  rw [eg_68] at hP hD
  clear eg_68
  refine lv_aload_n hx hb dX9_feed_104 rfl (lv_at hl 2 rfl) ?_
  refine lv_dup hx hb dX9_feed_105 rfl ?_
  refine va_get (D := D) (ci := 9) (v := .int 12) (C := RX9) (T := TX9) (N := 25) hx hb hu in_X9 hown hK.1 hP 0 rfl rfl 9 (by decide) (hu _ u_1089) (fun _ h9 => h9) rfl dX9_feed_106 ?_
  refine lv_iconst (v := 1) hx hb dX9_feed_109 (by decide) ?_
  refine lv_iadd hx hb dX9_feed_110 ?_
  refine tpi (y := 13) (by decide) ?_
  refine va_put (D := D) (ci := 9) (v := .int 13) (ty := tyX9 9) (C := RX9) (T := TX9) (N := 25) hx hb hu in_X9 tyX9 tyX9_ok nmX9 hown hK.1 hP hD hS 0 rfl rfl 9 (by decide) (hu _ u_1089) (fun _ h9 => h9) rfl (tyX9_ok 9 (by decide)) rfl rfl (Nat.le_of_ble_eq_true rfl) dX9_feed_111 (fun H locs hP hD hS => ?_)
  have hP : va_P D vwCl [(md, .inr (9, [.int 0, .ref m_all, .ref m_deeds, .ref m_trial, .int 0, .ref m_hasImage, .ref m_tape, .ref m_key, .ref m_answered, .int 13, .int 0, .int 0, .ref m_goes, .int 0, .ref m_hotOnes, .ref m_indexed, .ref m_isChanged, .int 0, .ref m_valueNow, .int 0, .int (-1), .int 0, .ref m_didSome, .ref m_sizes, .ref m_ends])), (m_tape, aI cs 60 g_67)] H := hP
  have hD : va_D A [(md, .inr (9, [.int 0, .ref m_all, .ref m_deeds, .ref m_trial, .int 0, .ref m_hasImage, .ref m_tape, .ref m_key, .ref m_answered, .int 13, .int 0, .int 0, .ref m_goes, .int 0, .ref m_hotOnes, .ref m_indexed, .ref m_isChanged, .int 0, .ref m_valueNow, .int 0, .int (-1), .int 0, .ref m_didSome, .ref m_sizes, .ref m_ends])), (m_tape, aI cs 60 g_67)] := hD
  refine lv_iinc (v := 13) (lv' := [(6, .int 13), (7, .int x4), (0, .ref md), (1, .int x), (2, .int y), (3, .int z), (4, .int x4), (5, .int x5)]) hx hb dX9_feed_114 hl (k := 1) rfl (by decide) (by decide) rfl (fun ls hl => ?_)
  refine lv_goto (tgt := 23) hx hb dX9_feed_117 (by decide) ?_
  refine lv_iload hx hb dX9_feed_23 (lv_at hl 0 rfl) ?_
  refine lv_bipush (v := 20) hx hb dX9_feed_25 (by decide) ?_
  refine lv_icmp_ge (tgt := 120) hx hb dX9_feed_27 (by decide) (fun c_69 => absurd c_69 (by decide)) (fun c_69 => ?_)
  refine lv_iload hx hb dX9_feed_30 (lv_at hl 0 rfl) ?_
  refine lv_iconst (v := 4) hx hb dX9_feed_32 (by decide) ?_
  refine lv_icmp_ge (tgt := 40) hx hb dX9_feed_33 (by decide) (fun c_70 => ?_) (fun c_70 => absurd (by decide) c_70)
  refine lv_iload hx hb dX9_feed_40 (lv_at hl 0 rfl) ?_
  refine lv_bipush (v := 8) hx hb dX9_feed_42 (by decide) ?_
  refine lv_icmp_ge (tgt := 51) hx hb dX9_feed_44 (by decide) (fun c_71 => ?_) (fun c_71 => absurd (by decide) c_71)
  refine lv_iload hx hb dX9_feed_51 (lv_at hl 0 rfl) ?_
  refine lv_bipush (v := 12) hx hb dX9_feed_53 (by decide) ?_
  refine lv_icmp_ge (tgt := 62) hx hb dX9_feed_55 (by decide) (fun c_72 => ?_) (fun c_72 => absurd (by decide) c_72)
  refine lv_iload hx hb dX9_feed_62 (lv_at hl 0 rfl) ?_
  refine lv_bipush (v := 16) hx hb dX9_feed_64 (by decide) ?_
  refine lv_icmp_ge (tgt := 74) hx hb dX9_feed_66 (by decide) (fun c_73 => absurd c_73 (by decide)) (fun c_73 => ?_)
  refine lv_iload hx hb dX9_feed_69 (lv_at hl 6 rfl) ?_
  refine lv_goto (tgt := 76) hx hb dX9_feed_71 (by decide) ?_
  refine lv_istore (lv' := [(7, .int x4), (6, .int 13), (0, .ref md), (1, .int x), (2, .int y), (3, .int z), (4, .int x4), (5, .int x5)]) hx hb dX9_feed_76 hl (by decide) rfl (fun ls hl => ?_)
  refine lv_aload_n hx hb dX9_feed_78 rfl (lv_at hl 2 rfl) ?_
  refine va_get (D := D) (ci := 9) (v := .ref m_tape) (C := RX9) (T := TX9) (N := 25) hx hb hu in_X9 hown hK.1 hP 0 rfl rfl 6 (by decide) (hu _ u_1086) (fun _ h9 => h9) rfl dX9_feed_79 ?_
  refine lv_aload_n hx hb dX9_feed_82 rfl (lv_at hl 2 rfl) ?_
  refine va_get (D := D) (ci := 9) (v := .int 13) (C := RX9) (T := TX9) (N := 25) hx hb hu in_X9 hown hK.1 hP 0 rfl rfl 9 (by decide) (hu _ u_1089) (fun _ h9 => h9) rfl dX9_feed_83 ?_
  refine lv_iload hx hb dX9_feed_86 (lv_at hl 0 rfl) ?_
  refine lv_bipush (v := 24) hx hb dX9_feed_88 (by decide) ?_
  refine lv_bipush (v := 8) hx hb dX9_feed_90 (by decide) ?_
  refine lv_iload hx hb dX9_feed_92 (lv_at hl 1 rfl) ?_
  refine lv_iconst (v := 4) hx hb dX9_feed_94 (by decide) ?_
  refine lv_irem hx hb dX9_feed_95 (by decide) ?_
  refine tpi (y := 1) (by decide) ?_
  refine lv_imul hx hb dX9_feed_96 ?_
  refine tpi (y := 8) (by decide) ?_
  refine lv_isub hx hb dX9_feed_97 ?_
  refine tpi (y := 16) (by decide) ?_
  refine lv_ishr hx hb dX9_feed_98 ?_
  refine lv_sipush (v := 255) hx hb dX9_feed_99 (by decide) ?_
  refine lv_iand hx hb dX9_feed_102 ?_
  refine va_iast hx hb hK.1 hP hD hS 1 0 rfl rfl (vin_c _ _ rfl) dX9_feed_103 (fun H locs hP hD hS => ?_)
  have hP : va_P D vwCl [(md, .inr (9, [.int 0, .ref m_all, .ref m_deeds, .ref m_trial, .int 0, .ref m_hasImage, .ref m_tape, .ref m_key, .ref m_answered, .int 13, .int 0, .int 0, .ref m_goes, .int 0, .ref m_hotOnes, .ref m_indexed, .ref m_isChanged, .int 0, .ref m_valueNow, .int 0, .int (-1), .int 0, .ref m_didSome, .ref m_sizes, .ref m_ends])), (m_tape, aI cs 60 (upd g_67 (13 : Int32).toNatClampNeg ((x4 >>> (16 &&& 31)) &&& 255)))] H := hP
  have hD : va_D A [(md, .inr (9, [.int 0, .ref m_all, .ref m_deeds, .ref m_trial, .int 0, .ref m_hasImage, .ref m_tape, .ref m_key, .ref m_answered, .int 13, .int 0, .int 0, .ref m_goes, .int 0, .ref m_hotOnes, .ref m_indexed, .ref m_isChanged, .int 0, .ref m_valueNow, .int 0, .int (-1), .int 0, .ref m_didSome, .ref m_sizes, .ref m_ends])), (m_tape, aI cs 60 (upd g_67 (13 : Int32).toNatClampNeg ((x4 >>> (16 &&& 31)) &&& 255)))] := hD
  obtain ⟨g_74, eg_75⟩ : ∃ g9 : Nat → Int32, upd g_67 (13 : Int32).toNatClampNeg ((x4 >>> (16 &&& 31)) &&& 255) = g9 := ⟨_, rfl⟩
  rw [eg_75] at hP hD
  clear eg_75
  refine lv_aload_n hx hb dX9_feed_104 rfl (lv_at hl 2 rfl) ?_
  refine lv_dup hx hb dX9_feed_105 rfl ?_
  refine va_get (D := D) (ci := 9) (v := .int 13) (C := RX9) (T := TX9) (N := 25) hx hb hu in_X9 hown hK.1 hP 0 rfl rfl 9 (by decide) (hu _ u_1089) (fun _ h9 => h9) rfl dX9_feed_106 ?_
  refine lv_iconst (v := 1) hx hb dX9_feed_109 (by decide) ?_
  refine lv_iadd hx hb dX9_feed_110 ?_
  refine tpi (y := 14) (by decide) ?_
  refine va_put (D := D) (ci := 9) (v := .int 14) (ty := tyX9 9) (C := RX9) (T := TX9) (N := 25) hx hb hu in_X9 tyX9 tyX9_ok nmX9 hown hK.1 hP hD hS 0 rfl rfl 9 (by decide) (hu _ u_1089) (fun _ h9 => h9) rfl (tyX9_ok 9 (by decide)) rfl rfl (Nat.le_of_ble_eq_true rfl) dX9_feed_111 (fun H locs hP hD hS => ?_)
  have hP : va_P D vwCl [(md, .inr (9, [.int 0, .ref m_all, .ref m_deeds, .ref m_trial, .int 0, .ref m_hasImage, .ref m_tape, .ref m_key, .ref m_answered, .int 14, .int 0, .int 0, .ref m_goes, .int 0, .ref m_hotOnes, .ref m_indexed, .ref m_isChanged, .int 0, .ref m_valueNow, .int 0, .int (-1), .int 0, .ref m_didSome, .ref m_sizes, .ref m_ends])), (m_tape, aI cs 60 g_74)] H := hP
  have hD : va_D A [(md, .inr (9, [.int 0, .ref m_all, .ref m_deeds, .ref m_trial, .int 0, .ref m_hasImage, .ref m_tape, .ref m_key, .ref m_answered, .int 14, .int 0, .int 0, .ref m_goes, .int 0, .ref m_hotOnes, .ref m_indexed, .ref m_isChanged, .int 0, .ref m_valueNow, .int 0, .int (-1), .int 0, .ref m_didSome, .ref m_sizes, .ref m_ends])), (m_tape, aI cs 60 g_74)] := hD
  refine lv_iinc (v := 14) (lv' := [(6, .int 14), (7, .int x4), (0, .ref md), (1, .int x), (2, .int y), (3, .int z), (4, .int x4), (5, .int x5)]) hx hb dX9_feed_114 hl (k := 1) rfl (by decide) (by decide) rfl (fun ls hl => ?_)
  refine lv_goto (tgt := 23) hx hb dX9_feed_117 (by decide) ?_
  refine lv_iload hx hb dX9_feed_23 (lv_at hl 0 rfl) ?_
  refine lv_bipush (v := 20) hx hb dX9_feed_25 (by decide) ?_
  refine lv_icmp_ge (tgt := 120) hx hb dX9_feed_27 (by decide) (fun c_76 => absurd c_76 (by decide)) (fun c_76 => ?_)
  refine lv_iload hx hb dX9_feed_30 (lv_at hl 0 rfl) ?_
  refine lv_iconst (v := 4) hx hb dX9_feed_32 (by decide) ?_
  refine lv_icmp_ge (tgt := 40) hx hb dX9_feed_33 (by decide) (fun c_77 => ?_) (fun c_77 => absurd (by decide) c_77)
  refine lv_iload hx hb dX9_feed_40 (lv_at hl 0 rfl) ?_
  refine lv_bipush (v := 8) hx hb dX9_feed_42 (by decide) ?_
  refine lv_icmp_ge (tgt := 51) hx hb dX9_feed_44 (by decide) (fun c_78 => ?_) (fun c_78 => absurd (by decide) c_78)
  refine lv_iload hx hb dX9_feed_51 (lv_at hl 0 rfl) ?_
  refine lv_bipush (v := 12) hx hb dX9_feed_53 (by decide) ?_
  refine lv_icmp_ge (tgt := 62) hx hb dX9_feed_55 (by decide) (fun c_79 => ?_) (fun c_79 => absurd (by decide) c_79)
  refine lv_iload hx hb dX9_feed_62 (lv_at hl 0 rfl) ?_
  refine lv_bipush (v := 16) hx hb dX9_feed_64 (by decide) ?_
  refine lv_icmp_ge (tgt := 74) hx hb dX9_feed_66 (by decide) (fun c_80 => absurd c_80 (by decide)) (fun c_80 => ?_)
  refine lv_iload hx hb dX9_feed_69 (lv_at hl 6 rfl) ?_
  refine lv_goto (tgt := 76) hx hb dX9_feed_71 (by decide) ?_
  refine lv_istore (lv' := [(7, .int x4), (6, .int 14), (0, .ref md), (1, .int x), (2, .int y), (3, .int z), (4, .int x4), (5, .int x5)]) hx hb dX9_feed_76 hl (by decide) rfl (fun ls hl => ?_)
  refine lv_aload_n hx hb dX9_feed_78 rfl (lv_at hl 2 rfl) ?_
  refine va_get (D := D) (ci := 9) (v := .ref m_tape) (C := RX9) (T := TX9) (N := 25) hx hb hu in_X9 hown hK.1 hP 0 rfl rfl 6 (by decide) (hu _ u_1086) (fun _ h9 => h9) rfl dX9_feed_79 ?_
  refine lv_aload_n hx hb dX9_feed_82 rfl (lv_at hl 2 rfl) ?_
  refine va_get (D := D) (ci := 9) (v := .int 14) (C := RX9) (T := TX9) (N := 25) hx hb hu in_X9 hown hK.1 hP 0 rfl rfl 9 (by decide) (hu _ u_1089) (fun _ h9 => h9) rfl dX9_feed_83 ?_
  refine lv_iload hx hb dX9_feed_86 (lv_at hl 0 rfl) ?_
  refine lv_bipush (v := 24) hx hb dX9_feed_88 (by decide) ?_
  refine lv_bipush (v := 8) hx hb dX9_feed_90 (by decide) ?_
  refine lv_iload hx hb dX9_feed_92 (lv_at hl 1 rfl) ?_
  refine lv_iconst (v := 4) hx hb dX9_feed_94 (by decide) ?_
  refine lv_irem hx hb dX9_feed_95 (by decide) ?_
  refine tpi (y := 2) (by decide) ?_
  refine lv_imul hx hb dX9_feed_96 ?_
  refine tpi (y := 16) (by decide) ?_
  refine lv_isub hx hb dX9_feed_97 ?_
  refine tpi (y := 8) (by decide) ?_
  refine lv_ishr hx hb dX9_feed_98 ?_
  refine lv_sipush (v := 255) hx hb dX9_feed_99 (by decide) ?_
  refine lv_iand hx hb dX9_feed_102 ?_
  refine va_iast hx hb hK.1 hP hD hS 1 0 rfl rfl (vin_c _ _ rfl) dX9_feed_103 (fun H locs hP hD hS => ?_)
  have hP : va_P D vwCl [(md, .inr (9, [.int 0, .ref m_all, .ref m_deeds, .ref m_trial, .int 0, .ref m_hasImage, .ref m_tape, .ref m_key, .ref m_answered, .int 14, .int 0, .int 0, .ref m_goes, .int 0, .ref m_hotOnes, .ref m_indexed, .ref m_isChanged, .int 0, .ref m_valueNow, .int 0, .int (-1), .int 0, .ref m_didSome, .ref m_sizes, .ref m_ends])), (m_tape, aI cs 60 (upd g_74 (14 : Int32).toNatClampNeg ((x4 >>> (8 &&& 31)) &&& 255)))] H := hP
  have hD : va_D A [(md, .inr (9, [.int 0, .ref m_all, .ref m_deeds, .ref m_trial, .int 0, .ref m_hasImage, .ref m_tape, .ref m_key, .ref m_answered, .int 14, .int 0, .int 0, .ref m_goes, .int 0, .ref m_hotOnes, .ref m_indexed, .ref m_isChanged, .int 0, .ref m_valueNow, .int 0, .int (-1), .int 0, .ref m_didSome, .ref m_sizes, .ref m_ends])), (m_tape, aI cs 60 (upd g_74 (14 : Int32).toNatClampNeg ((x4 >>> (8 &&& 31)) &&& 255)))] := hD
  obtain ⟨g_81, eg_82⟩ : ∃ g9 : Nat → Int32, upd g_74 (14 : Int32).toNatClampNeg ((x4 >>> (8 &&& 31)) &&& 255) = g9 := ⟨_, rfl⟩
  rw [eg_82] at hP hD
  clear eg_82
  refine lv_aload_n hx hb dX9_feed_104 rfl (lv_at hl 2 rfl) ?_
  refine lv_dup hx hb dX9_feed_105 rfl ?_
  refine va_get (D := D) (ci := 9) (v := .int 14) (C := RX9) (T := TX9) (N := 25) hx hb hu in_X9 hown hK.1 hP 0 rfl rfl 9 (by decide) (hu _ u_1089) (fun _ h9 => h9) rfl dX9_feed_106 ?_
  refine lv_iconst (v := 1) hx hb dX9_feed_109 (by decide) ?_
  refine lv_iadd hx hb dX9_feed_110 ?_
  refine tpi (y := 15) (by decide) ?_
  refine va_put (D := D) (ci := 9) (v := .int 15) (ty := tyX9 9) (C := RX9) (T := TX9) (N := 25) hx hb hu in_X9 tyX9 tyX9_ok nmX9 hown hK.1 hP hD hS 0 rfl rfl 9 (by decide) (hu _ u_1089) (fun _ h9 => h9) rfl (tyX9_ok 9 (by decide)) rfl rfl (Nat.le_of_ble_eq_true rfl) dX9_feed_111 (fun H locs hP hD hS => ?_)
  have hP : va_P D vwCl [(md, .inr (9, [.int 0, .ref m_all, .ref m_deeds, .ref m_trial, .int 0, .ref m_hasImage, .ref m_tape, .ref m_key, .ref m_answered, .int 15, .int 0, .int 0, .ref m_goes, .int 0, .ref m_hotOnes, .ref m_indexed, .ref m_isChanged, .int 0, .ref m_valueNow, .int 0, .int (-1), .int 0, .ref m_didSome, .ref m_sizes, .ref m_ends])), (m_tape, aI cs 60 g_81)] H := hP
  have hD : va_D A [(md, .inr (9, [.int 0, .ref m_all, .ref m_deeds, .ref m_trial, .int 0, .ref m_hasImage, .ref m_tape, .ref m_key, .ref m_answered, .int 15, .int 0, .int 0, .ref m_goes, .int 0, .ref m_hotOnes, .ref m_indexed, .ref m_isChanged, .int 0, .ref m_valueNow, .int 0, .int (-1), .int 0, .ref m_didSome, .ref m_sizes, .ref m_ends])), (m_tape, aI cs 60 g_81)] := hD
  refine lv_iinc (v := 15) (lv' := [(6, .int 15), (7, .int x4), (0, .ref md), (1, .int x), (2, .int y), (3, .int z), (4, .int x4), (5, .int x5)]) hx hb dX9_feed_114 hl (k := 1) rfl (by decide) (by decide) rfl (fun ls hl => ?_)
  refine lv_goto (tgt := 23) hx hb dX9_feed_117 (by decide) ?_
  refine lv_iload hx hb dX9_feed_23 (lv_at hl 0 rfl) ?_
  refine lv_bipush (v := 20) hx hb dX9_feed_25 (by decide) ?_
  refine lv_icmp_ge (tgt := 120) hx hb dX9_feed_27 (by decide) (fun c_83 => absurd c_83 (by decide)) (fun c_83 => ?_)
  refine lv_iload hx hb dX9_feed_30 (lv_at hl 0 rfl) ?_
  refine lv_iconst (v := 4) hx hb dX9_feed_32 (by decide) ?_
  refine lv_icmp_ge (tgt := 40) hx hb dX9_feed_33 (by decide) (fun c_84 => ?_) (fun c_84 => absurd (by decide) c_84)
  refine lv_iload hx hb dX9_feed_40 (lv_at hl 0 rfl) ?_
  refine lv_bipush (v := 8) hx hb dX9_feed_42 (by decide) ?_
  refine lv_icmp_ge (tgt := 51) hx hb dX9_feed_44 (by decide) (fun c_85 => ?_) (fun c_85 => absurd (by decide) c_85)
  refine lv_iload hx hb dX9_feed_51 (lv_at hl 0 rfl) ?_
  refine lv_bipush (v := 12) hx hb dX9_feed_53 (by decide) ?_
  refine lv_icmp_ge (tgt := 62) hx hb dX9_feed_55 (by decide) (fun c_86 => ?_) (fun c_86 => absurd (by decide) c_86)
  refine lv_iload hx hb dX9_feed_62 (lv_at hl 0 rfl) ?_
  refine lv_bipush (v := 16) hx hb dX9_feed_64 (by decide) ?_
  refine lv_icmp_ge (tgt := 74) hx hb dX9_feed_66 (by decide) (fun c_87 => absurd c_87 (by decide)) (fun c_87 => ?_)
  refine lv_iload hx hb dX9_feed_69 (lv_at hl 6 rfl) ?_
  refine lv_goto (tgt := 76) hx hb dX9_feed_71 (by decide) ?_
  refine lv_istore (lv' := [(7, .int x4), (6, .int 15), (0, .ref md), (1, .int x), (2, .int y), (3, .int z), (4, .int x4), (5, .int x5)]) hx hb dX9_feed_76 hl (by decide) rfl (fun ls hl => ?_)
  refine lv_aload_n hx hb dX9_feed_78 rfl (lv_at hl 2 rfl) ?_
  refine va_get (D := D) (ci := 9) (v := .ref m_tape) (C := RX9) (T := TX9) (N := 25) hx hb hu in_X9 hown hK.1 hP 0 rfl rfl 6 (by decide) (hu _ u_1086) (fun _ h9 => h9) rfl dX9_feed_79 ?_
  refine lv_aload_n hx hb dX9_feed_82 rfl (lv_at hl 2 rfl) ?_
  refine va_get (D := D) (ci := 9) (v := .int 15) (C := RX9) (T := TX9) (N := 25) hx hb hu in_X9 hown hK.1 hP 0 rfl rfl 9 (by decide) (hu _ u_1089) (fun _ h9 => h9) rfl dX9_feed_83 ?_
  refine lv_iload hx hb dX9_feed_86 (lv_at hl 0 rfl) ?_
  refine lv_bipush (v := 24) hx hb dX9_feed_88 (by decide) ?_
  refine lv_bipush (v := 8) hx hb dX9_feed_90 (by decide) ?_
  refine lv_iload hx hb dX9_feed_92 (lv_at hl 1 rfl) ?_
  refine lv_iconst (v := 4) hx hb dX9_feed_94 (by decide) ?_
  refine lv_irem hx hb dX9_feed_95 (by decide) ?_
  refine tpi (y := 3) (by decide) ?_
  refine lv_imul hx hb dX9_feed_96 ?_
  refine tpi (y := 24) (by decide) ?_
  refine lv_isub hx hb dX9_feed_97 ?_
  refine tpi (y := 0) (by decide) ?_
  refine lv_ishr hx hb dX9_feed_98 ?_
  refine lv_sipush (v := 255) hx hb dX9_feed_99 (by decide) ?_
  refine lv_iand hx hb dX9_feed_102 ?_
  refine va_iast hx hb hK.1 hP hD hS 1 0 rfl rfl (vin_c _ _ rfl) dX9_feed_103 (fun H locs hP hD hS => ?_)
  have hP : va_P D vwCl [(md, .inr (9, [.int 0, .ref m_all, .ref m_deeds, .ref m_trial, .int 0, .ref m_hasImage, .ref m_tape, .ref m_key, .ref m_answered, .int 15, .int 0, .int 0, .ref m_goes, .int 0, .ref m_hotOnes, .ref m_indexed, .ref m_isChanged, .int 0, .ref m_valueNow, .int 0, .int (-1), .int 0, .ref m_didSome, .ref m_sizes, .ref m_ends])), (m_tape, aI cs 60 (upd g_81 (15 : Int32).toNatClampNeg ((x4 >>> (0 &&& 31)) &&& 255)))] H := hP
  have hD : va_D A [(md, .inr (9, [.int 0, .ref m_all, .ref m_deeds, .ref m_trial, .int 0, .ref m_hasImage, .ref m_tape, .ref m_key, .ref m_answered, .int 15, .int 0, .int 0, .ref m_goes, .int 0, .ref m_hotOnes, .ref m_indexed, .ref m_isChanged, .int 0, .ref m_valueNow, .int 0, .int (-1), .int 0, .ref m_didSome, .ref m_sizes, .ref m_ends])), (m_tape, aI cs 60 (upd g_81 (15 : Int32).toNatClampNeg ((x4 >>> (0 &&& 31)) &&& 255)))] := hD
  obtain ⟨g_88, eg_89⟩ : ∃ g9 : Nat → Int32, upd g_81 (15 : Int32).toNatClampNeg ((x4 >>> (0 &&& 31)) &&& 255) = g9 := ⟨_, rfl⟩
  rw [eg_89] at hP hD
  clear eg_89
  refine lv_aload_n hx hb dX9_feed_104 rfl (lv_at hl 2 rfl) ?_
  refine lv_dup hx hb dX9_feed_105 rfl ?_
  refine va_get (D := D) (ci := 9) (v := .int 15) (C := RX9) (T := TX9) (N := 25) hx hb hu in_X9 hown hK.1 hP 0 rfl rfl 9 (by decide) (hu _ u_1089) (fun _ h9 => h9) rfl dX9_feed_106 ?_
  refine lv_iconst (v := 1) hx hb dX9_feed_109 (by decide) ?_
  refine lv_iadd hx hb dX9_feed_110 ?_
  refine tpi (y := 16) (by decide) ?_
  refine va_put (D := D) (ci := 9) (v := .int 16) (ty := tyX9 9) (C := RX9) (T := TX9) (N := 25) hx hb hu in_X9 tyX9 tyX9_ok nmX9 hown hK.1 hP hD hS 0 rfl rfl 9 (by decide) (hu _ u_1089) (fun _ h9 => h9) rfl (tyX9_ok 9 (by decide)) rfl rfl (Nat.le_of_ble_eq_true rfl) dX9_feed_111 (fun H locs hP hD hS => ?_)
  have hP : va_P D vwCl [(md, .inr (9, [.int 0, .ref m_all, .ref m_deeds, .ref m_trial, .int 0, .ref m_hasImage, .ref m_tape, .ref m_key, .ref m_answered, .int 16, .int 0, .int 0, .ref m_goes, .int 0, .ref m_hotOnes, .ref m_indexed, .ref m_isChanged, .int 0, .ref m_valueNow, .int 0, .int (-1), .int 0, .ref m_didSome, .ref m_sizes, .ref m_ends])), (m_tape, aI cs 60 g_88)] H := hP
  have hD : va_D A [(md, .inr (9, [.int 0, .ref m_all, .ref m_deeds, .ref m_trial, .int 0, .ref m_hasImage, .ref m_tape, .ref m_key, .ref m_answered, .int 16, .int 0, .int 0, .ref m_goes, .int 0, .ref m_hotOnes, .ref m_indexed, .ref m_isChanged, .int 0, .ref m_valueNow, .int 0, .int (-1), .int 0, .ref m_didSome, .ref m_sizes, .ref m_ends])), (m_tape, aI cs 60 g_88)] := hD
  refine lv_iinc (v := 16) (lv' := [(6, .int 16), (7, .int x4), (0, .ref md), (1, .int x), (2, .int y), (3, .int z), (4, .int x4), (5, .int x5)]) hx hb dX9_feed_114 hl (k := 1) rfl (by decide) (by decide) rfl (fun ls hl => ?_)
  refine lv_goto (tgt := 23) hx hb dX9_feed_117 (by decide) ?_
  refine lv_iload hx hb dX9_feed_23 (lv_at hl 0 rfl) ?_
  refine lv_bipush (v := 20) hx hb dX9_feed_25 (by decide) ?_
  refine lv_icmp_ge (tgt := 120) hx hb dX9_feed_27 (by decide) (fun c_90 => absurd c_90 (by decide)) (fun c_90 => ?_)
  refine lv_iload hx hb dX9_feed_30 (lv_at hl 0 rfl) ?_
  refine lv_iconst (v := 4) hx hb dX9_feed_32 (by decide) ?_
  refine lv_icmp_ge (tgt := 40) hx hb dX9_feed_33 (by decide) (fun c_91 => ?_) (fun c_91 => absurd (by decide) c_91)
  refine lv_iload hx hb dX9_feed_40 (lv_at hl 0 rfl) ?_
  refine lv_bipush (v := 8) hx hb dX9_feed_42 (by decide) ?_
  refine lv_icmp_ge (tgt := 51) hx hb dX9_feed_44 (by decide) (fun c_92 => ?_) (fun c_92 => absurd (by decide) c_92)
  refine lv_iload hx hb dX9_feed_51 (lv_at hl 0 rfl) ?_
  refine lv_bipush (v := 12) hx hb dX9_feed_53 (by decide) ?_
  refine lv_icmp_ge (tgt := 62) hx hb dX9_feed_55 (by decide) (fun c_93 => ?_) (fun c_93 => absurd (by decide) c_93)
  refine lv_iload hx hb dX9_feed_62 (lv_at hl 0 rfl) ?_
  refine lv_bipush (v := 16) hx hb dX9_feed_64 (by decide) ?_
  refine lv_icmp_ge (tgt := 74) hx hb dX9_feed_66 (by decide) (fun c_94 => ?_) (fun c_94 => absurd (by decide) c_94)
  refine lv_iload hx hb dX9_feed_74 (lv_at hl 7 rfl) ?_
  refine lv_istore (lv' := [(7, .int x5), (6, .int 16), (0, .ref md), (1, .int x), (2, .int y), (3, .int z), (4, .int x4), (5, .int x5)]) hx hb dX9_feed_76 hl (by decide) rfl (fun ls hl => ?_)
  refine lv_aload_n hx hb dX9_feed_78 rfl (lv_at hl 2 rfl) ?_
  refine va_get (D := D) (ci := 9) (v := .ref m_tape) (C := RX9) (T := TX9) (N := 25) hx hb hu in_X9 hown hK.1 hP 0 rfl rfl 6 (by decide) (hu _ u_1086) (fun _ h9 => h9) rfl dX9_feed_79 ?_
  refine lv_aload_n hx hb dX9_feed_82 rfl (lv_at hl 2 rfl) ?_
  refine va_get (D := D) (ci := 9) (v := .int 16) (C := RX9) (T := TX9) (N := 25) hx hb hu in_X9 hown hK.1 hP 0 rfl rfl 9 (by decide) (hu _ u_1089) (fun _ h9 => h9) rfl dX9_feed_83 ?_
  refine lv_iload hx hb dX9_feed_86 (lv_at hl 0 rfl) ?_
  refine lv_bipush (v := 24) hx hb dX9_feed_88 (by decide) ?_
  refine lv_bipush (v := 8) hx hb dX9_feed_90 (by decide) ?_
  refine lv_iload hx hb dX9_feed_92 (lv_at hl 1 rfl) ?_
  refine lv_iconst (v := 4) hx hb dX9_feed_94 (by decide) ?_
  refine lv_irem hx hb dX9_feed_95 (by decide) ?_
  refine tpi (y := 0) (by decide) ?_
  refine lv_imul hx hb dX9_feed_96 ?_
  refine tpi (y := 0) (by decide) ?_
  refine lv_isub hx hb dX9_feed_97 ?_
  refine tpi (y := 24) (by decide) ?_
  refine lv_ishr hx hb dX9_feed_98 ?_
  refine lv_sipush (v := 255) hx hb dX9_feed_99 (by decide) ?_
  refine lv_iand hx hb dX9_feed_102 ?_
  refine va_iast hx hb hK.1 hP hD hS 1 0 rfl rfl (vin_c _ _ rfl) dX9_feed_103 (fun H locs hP hD hS => ?_)
  have hP : va_P D vwCl [(md, .inr (9, [.int 0, .ref m_all, .ref m_deeds, .ref m_trial, .int 0, .ref m_hasImage, .ref m_tape, .ref m_key, .ref m_answered, .int 16, .int 0, .int 0, .ref m_goes, .int 0, .ref m_hotOnes, .ref m_indexed, .ref m_isChanged, .int 0, .ref m_valueNow, .int 0, .int (-1), .int 0, .ref m_didSome, .ref m_sizes, .ref m_ends])), (m_tape, aI cs 60 (upd g_88 (16 : Int32).toNatClampNeg ((x5 >>> (24 &&& 31)) &&& 255)))] H := hP
  have hD : va_D A [(md, .inr (9, [.int 0, .ref m_all, .ref m_deeds, .ref m_trial, .int 0, .ref m_hasImage, .ref m_tape, .ref m_key, .ref m_answered, .int 16, .int 0, .int 0, .ref m_goes, .int 0, .ref m_hotOnes, .ref m_indexed, .ref m_isChanged, .int 0, .ref m_valueNow, .int 0, .int (-1), .int 0, .ref m_didSome, .ref m_sizes, .ref m_ends])), (m_tape, aI cs 60 (upd g_88 (16 : Int32).toNatClampNeg ((x5 >>> (24 &&& 31)) &&& 255)))] := hD
  obtain ⟨g_95, eg_96⟩ : ∃ g9 : Nat → Int32, upd g_88 (16 : Int32).toNatClampNeg ((x5 >>> (24 &&& 31)) &&& 255) = g9 := ⟨_, rfl⟩
  rw [eg_96] at hP hD
  clear eg_96
  refine lv_aload_n hx hb dX9_feed_104 rfl (lv_at hl 2 rfl) ?_
  refine lv_dup hx hb dX9_feed_105 rfl ?_
  refine va_get (D := D) (ci := 9) (v := .int 16) (C := RX9) (T := TX9) (N := 25) hx hb hu in_X9 hown hK.1 hP 0 rfl rfl 9 (by decide) (hu _ u_1089) (fun _ h9 => h9) rfl dX9_feed_106 ?_
  refine lv_iconst (v := 1) hx hb dX9_feed_109 (by decide) ?_
  refine lv_iadd hx hb dX9_feed_110 ?_
  refine tpi (y := 17) (by decide) ?_
  refine va_put (D := D) (ci := 9) (v := .int 17) (ty := tyX9 9) (C := RX9) (T := TX9) (N := 25) hx hb hu in_X9 tyX9 tyX9_ok nmX9 hown hK.1 hP hD hS 0 rfl rfl 9 (by decide) (hu _ u_1089) (fun _ h9 => h9) rfl (tyX9_ok 9 (by decide)) rfl rfl (Nat.le_of_ble_eq_true rfl) dX9_feed_111 (fun H locs hP hD hS => ?_)
  have hP : va_P D vwCl [(md, .inr (9, [.int 0, .ref m_all, .ref m_deeds, .ref m_trial, .int 0, .ref m_hasImage, .ref m_tape, .ref m_key, .ref m_answered, .int 17, .int 0, .int 0, .ref m_goes, .int 0, .ref m_hotOnes, .ref m_indexed, .ref m_isChanged, .int 0, .ref m_valueNow, .int 0, .int (-1), .int 0, .ref m_didSome, .ref m_sizes, .ref m_ends])), (m_tape, aI cs 60 g_95)] H := hP
  have hD : va_D A [(md, .inr (9, [.int 0, .ref m_all, .ref m_deeds, .ref m_trial, .int 0, .ref m_hasImage, .ref m_tape, .ref m_key, .ref m_answered, .int 17, .int 0, .int 0, .ref m_goes, .int 0, .ref m_hotOnes, .ref m_indexed, .ref m_isChanged, .int 0, .ref m_valueNow, .int 0, .int (-1), .int 0, .ref m_didSome, .ref m_sizes, .ref m_ends])), (m_tape, aI cs 60 g_95)] := hD
  refine lv_iinc (v := 17) (lv' := [(6, .int 17), (7, .int x5), (0, .ref md), (1, .int x), (2, .int y), (3, .int z), (4, .int x4), (5, .int x5)]) hx hb dX9_feed_114 hl (k := 1) rfl (by decide) (by decide) rfl (fun ls hl => ?_)
  refine lv_goto (tgt := 23) hx hb dX9_feed_117 (by decide) ?_
  refine lv_iload hx hb dX9_feed_23 (lv_at hl 0 rfl) ?_
  refine lv_bipush (v := 20) hx hb dX9_feed_25 (by decide) ?_
  refine lv_icmp_ge (tgt := 120) hx hb dX9_feed_27 (by decide) (fun c_97 => absurd c_97 (by decide)) (fun c_97 => ?_)
  refine lv_iload hx hb dX9_feed_30 (lv_at hl 0 rfl) ?_
  refine lv_iconst (v := 4) hx hb dX9_feed_32 (by decide) ?_
  refine lv_icmp_ge (tgt := 40) hx hb dX9_feed_33 (by decide) (fun c_98 => ?_) (fun c_98 => absurd (by decide) c_98)
  refine lv_iload hx hb dX9_feed_40 (lv_at hl 0 rfl) ?_
  refine lv_bipush (v := 8) hx hb dX9_feed_42 (by decide) ?_
  refine lv_icmp_ge (tgt := 51) hx hb dX9_feed_44 (by decide) (fun c_99 => ?_) (fun c_99 => absurd (by decide) c_99)
  refine lv_iload hx hb dX9_feed_51 (lv_at hl 0 rfl) ?_
  refine lv_bipush (v := 12) hx hb dX9_feed_53 (by decide) ?_
  refine lv_icmp_ge (tgt := 62) hx hb dX9_feed_55 (by decide) (fun c_100 => ?_) (fun c_100 => absurd (by decide) c_100)
  refine lv_iload hx hb dX9_feed_62 (lv_at hl 0 rfl) ?_
  refine lv_bipush (v := 16) hx hb dX9_feed_64 (by decide) ?_
  refine lv_icmp_ge (tgt := 74) hx hb dX9_feed_66 (by decide) (fun c_101 => ?_) (fun c_101 => absurd (by decide) c_101)
  refine lv_iload hx hb dX9_feed_74 (lv_at hl 7 rfl) ?_
  refine lv_istore (lv' := [(7, .int x5), (6, .int 17), (0, .ref md), (1, .int x), (2, .int y), (3, .int z), (4, .int x4), (5, .int x5)]) hx hb dX9_feed_76 hl (by decide) rfl (fun ls hl => ?_)
  refine lv_aload_n hx hb dX9_feed_78 rfl (lv_at hl 2 rfl) ?_
  refine va_get (D := D) (ci := 9) (v := .ref m_tape) (C := RX9) (T := TX9) (N := 25) hx hb hu in_X9 hown hK.1 hP 0 rfl rfl 6 (by decide) (hu _ u_1086) (fun _ h9 => h9) rfl dX9_feed_79 ?_
  refine lv_aload_n hx hb dX9_feed_82 rfl (lv_at hl 2 rfl) ?_
  refine va_get (D := D) (ci := 9) (v := .int 17) (C := RX9) (T := TX9) (N := 25) hx hb hu in_X9 hown hK.1 hP 0 rfl rfl 9 (by decide) (hu _ u_1089) (fun _ h9 => h9) rfl dX9_feed_83 ?_
  refine lv_iload hx hb dX9_feed_86 (lv_at hl 0 rfl) ?_
  refine lv_bipush (v := 24) hx hb dX9_feed_88 (by decide) ?_
  refine lv_bipush (v := 8) hx hb dX9_feed_90 (by decide) ?_
  refine lv_iload hx hb dX9_feed_92 (lv_at hl 1 rfl) ?_
  refine lv_iconst (v := 4) hx hb dX9_feed_94 (by decide) ?_
  refine lv_irem hx hb dX9_feed_95 (by decide) ?_
  refine tpi (y := 1) (by decide) ?_
  refine lv_imul hx hb dX9_feed_96 ?_
  refine tpi (y := 8) (by decide) ?_
  refine lv_isub hx hb dX9_feed_97 ?_
  refine tpi (y := 16) (by decide) ?_
  refine lv_ishr hx hb dX9_feed_98 ?_
  refine lv_sipush (v := 255) hx hb dX9_feed_99 (by decide) ?_
  refine lv_iand hx hb dX9_feed_102 ?_
  refine va_iast hx hb hK.1 hP hD hS 1 0 rfl rfl (vin_c _ _ rfl) dX9_feed_103 (fun H locs hP hD hS => ?_)
  have hP : va_P D vwCl [(md, .inr (9, [.int 0, .ref m_all, .ref m_deeds, .ref m_trial, .int 0, .ref m_hasImage, .ref m_tape, .ref m_key, .ref m_answered, .int 17, .int 0, .int 0, .ref m_goes, .int 0, .ref m_hotOnes, .ref m_indexed, .ref m_isChanged, .int 0, .ref m_valueNow, .int 0, .int (-1), .int 0, .ref m_didSome, .ref m_sizes, .ref m_ends])), (m_tape, aI cs 60 (upd g_95 (17 : Int32).toNatClampNeg ((x5 >>> (16 &&& 31)) &&& 255)))] H := hP
  have hD : va_D A [(md, .inr (9, [.int 0, .ref m_all, .ref m_deeds, .ref m_trial, .int 0, .ref m_hasImage, .ref m_tape, .ref m_key, .ref m_answered, .int 17, .int 0, .int 0, .ref m_goes, .int 0, .ref m_hotOnes, .ref m_indexed, .ref m_isChanged, .int 0, .ref m_valueNow, .int 0, .int (-1), .int 0, .ref m_didSome, .ref m_sizes, .ref m_ends])), (m_tape, aI cs 60 (upd g_95 (17 : Int32).toNatClampNeg ((x5 >>> (16 &&& 31)) &&& 255)))] := hD
  obtain ⟨g_102, eg_103⟩ : ∃ g9 : Nat → Int32, upd g_95 (17 : Int32).toNatClampNeg ((x5 >>> (16 &&& 31)) &&& 255) = g9 := ⟨_, rfl⟩
  rw [eg_103] at hP hD
  clear eg_103
  refine lv_aload_n hx hb dX9_feed_104 rfl (lv_at hl 2 rfl) ?_
  refine lv_dup hx hb dX9_feed_105 rfl ?_
  refine va_get (D := D) (ci := 9) (v := .int 17) (C := RX9) (T := TX9) (N := 25) hx hb hu in_X9 hown hK.1 hP 0 rfl rfl 9 (by decide) (hu _ u_1089) (fun _ h9 => h9) rfl dX9_feed_106 ?_
  refine lv_iconst (v := 1) hx hb dX9_feed_109 (by decide) ?_
  refine lv_iadd hx hb dX9_feed_110 ?_
  refine tpi (y := 18) (by decide) ?_
  refine va_put (D := D) (ci := 9) (v := .int 18) (ty := tyX9 9) (C := RX9) (T := TX9) (N := 25) hx hb hu in_X9 tyX9 tyX9_ok nmX9 hown hK.1 hP hD hS 0 rfl rfl 9 (by decide) (hu _ u_1089) (fun _ h9 => h9) rfl (tyX9_ok 9 (by decide)) rfl rfl (Nat.le_of_ble_eq_true rfl) dX9_feed_111 (fun H locs hP hD hS => ?_)
  have hP : va_P D vwCl [(md, .inr (9, [.int 0, .ref m_all, .ref m_deeds, .ref m_trial, .int 0, .ref m_hasImage, .ref m_tape, .ref m_key, .ref m_answered, .int 18, .int 0, .int 0, .ref m_goes, .int 0, .ref m_hotOnes, .ref m_indexed, .ref m_isChanged, .int 0, .ref m_valueNow, .int 0, .int (-1), .int 0, .ref m_didSome, .ref m_sizes, .ref m_ends])), (m_tape, aI cs 60 g_102)] H := hP
  have hD : va_D A [(md, .inr (9, [.int 0, .ref m_all, .ref m_deeds, .ref m_trial, .int 0, .ref m_hasImage, .ref m_tape, .ref m_key, .ref m_answered, .int 18, .int 0, .int 0, .ref m_goes, .int 0, .ref m_hotOnes, .ref m_indexed, .ref m_isChanged, .int 0, .ref m_valueNow, .int 0, .int (-1), .int 0, .ref m_didSome, .ref m_sizes, .ref m_ends])), (m_tape, aI cs 60 g_102)] := hD
  refine lv_iinc (v := 18) (lv' := [(6, .int 18), (7, .int x5), (0, .ref md), (1, .int x), (2, .int y), (3, .int z), (4, .int x4), (5, .int x5)]) hx hb dX9_feed_114 hl (k := 1) rfl (by decide) (by decide) rfl (fun ls hl => ?_)
  refine lv_goto (tgt := 23) hx hb dX9_feed_117 (by decide) ?_
  refine lv_iload hx hb dX9_feed_23 (lv_at hl 0 rfl) ?_
  refine lv_bipush (v := 20) hx hb dX9_feed_25 (by decide) ?_
  refine lv_icmp_ge (tgt := 120) hx hb dX9_feed_27 (by decide) (fun c_104 => absurd c_104 (by decide)) (fun c_104 => ?_)
  refine lv_iload hx hb dX9_feed_30 (lv_at hl 0 rfl) ?_
  refine lv_iconst (v := 4) hx hb dX9_feed_32 (by decide) ?_
  refine lv_icmp_ge (tgt := 40) hx hb dX9_feed_33 (by decide) (fun c_105 => ?_) (fun c_105 => absurd (by decide) c_105)
  refine lv_iload hx hb dX9_feed_40 (lv_at hl 0 rfl) ?_
  refine lv_bipush (v := 8) hx hb dX9_feed_42 (by decide) ?_
  refine lv_icmp_ge (tgt := 51) hx hb dX9_feed_44 (by decide) (fun c_106 => ?_) (fun c_106 => absurd (by decide) c_106)
  refine lv_iload hx hb dX9_feed_51 (lv_at hl 0 rfl) ?_
  refine lv_bipush (v := 12) hx hb dX9_feed_53 (by decide) ?_
  refine lv_icmp_ge (tgt := 62) hx hb dX9_feed_55 (by decide) (fun c_107 => ?_) (fun c_107 => absurd (by decide) c_107)
  refine lv_iload hx hb dX9_feed_62 (lv_at hl 0 rfl) ?_
  refine lv_bipush (v := 16) hx hb dX9_feed_64 (by decide) ?_
  refine lv_icmp_ge (tgt := 74) hx hb dX9_feed_66 (by decide) (fun c_108 => ?_) (fun c_108 => absurd (by decide) c_108)
  refine lv_iload hx hb dX9_feed_74 (lv_at hl 7 rfl) ?_
  refine lv_istore (lv' := [(7, .int x5), (6, .int 18), (0, .ref md), (1, .int x), (2, .int y), (3, .int z), (4, .int x4), (5, .int x5)]) hx hb dX9_feed_76 hl (by decide) rfl (fun ls hl => ?_)
  refine lv_aload_n hx hb dX9_feed_78 rfl (lv_at hl 2 rfl) ?_
  refine va_get (D := D) (ci := 9) (v := .ref m_tape) (C := RX9) (T := TX9) (N := 25) hx hb hu in_X9 hown hK.1 hP 0 rfl rfl 6 (by decide) (hu _ u_1086) (fun _ h9 => h9) rfl dX9_feed_79 ?_
  refine lv_aload_n hx hb dX9_feed_82 rfl (lv_at hl 2 rfl) ?_
  refine va_get (D := D) (ci := 9) (v := .int 18) (C := RX9) (T := TX9) (N := 25) hx hb hu in_X9 hown hK.1 hP 0 rfl rfl 9 (by decide) (hu _ u_1089) (fun _ h9 => h9) rfl dX9_feed_83 ?_
  refine lv_iload hx hb dX9_feed_86 (lv_at hl 0 rfl) ?_
  refine lv_bipush (v := 24) hx hb dX9_feed_88 (by decide) ?_
  refine lv_bipush (v := 8) hx hb dX9_feed_90 (by decide) ?_
  refine lv_iload hx hb dX9_feed_92 (lv_at hl 1 rfl) ?_
  refine lv_iconst (v := 4) hx hb dX9_feed_94 (by decide) ?_
  refine lv_irem hx hb dX9_feed_95 (by decide) ?_
  refine tpi (y := 2) (by decide) ?_
  refine lv_imul hx hb dX9_feed_96 ?_
  refine tpi (y := 16) (by decide) ?_
  refine lv_isub hx hb dX9_feed_97 ?_
  refine tpi (y := 8) (by decide) ?_
  refine lv_ishr hx hb dX9_feed_98 ?_
  refine lv_sipush (v := 255) hx hb dX9_feed_99 (by decide) ?_
  refine lv_iand hx hb dX9_feed_102 ?_
  refine va_iast hx hb hK.1 hP hD hS 1 0 rfl rfl (vin_c _ _ rfl) dX9_feed_103 (fun H locs hP hD hS => ?_)
  have hP : va_P D vwCl [(md, .inr (9, [.int 0, .ref m_all, .ref m_deeds, .ref m_trial, .int 0, .ref m_hasImage, .ref m_tape, .ref m_key, .ref m_answered, .int 18, .int 0, .int 0, .ref m_goes, .int 0, .ref m_hotOnes, .ref m_indexed, .ref m_isChanged, .int 0, .ref m_valueNow, .int 0, .int (-1), .int 0, .ref m_didSome, .ref m_sizes, .ref m_ends])), (m_tape, aI cs 60 (upd g_102 (18 : Int32).toNatClampNeg ((x5 >>> (8 &&& 31)) &&& 255)))] H := hP
  have hD : va_D A [(md, .inr (9, [.int 0, .ref m_all, .ref m_deeds, .ref m_trial, .int 0, .ref m_hasImage, .ref m_tape, .ref m_key, .ref m_answered, .int 18, .int 0, .int 0, .ref m_goes, .int 0, .ref m_hotOnes, .ref m_indexed, .ref m_isChanged, .int 0, .ref m_valueNow, .int 0, .int (-1), .int 0, .ref m_didSome, .ref m_sizes, .ref m_ends])), (m_tape, aI cs 60 (upd g_102 (18 : Int32).toNatClampNeg ((x5 >>> (8 &&& 31)) &&& 255)))] := hD
  obtain ⟨g_109, eg_110⟩ : ∃ g9 : Nat → Int32, upd g_102 (18 : Int32).toNatClampNeg ((x5 >>> (8 &&& 31)) &&& 255) = g9 := ⟨_, rfl⟩
  rw [eg_110] at hP hD
  clear eg_110
  refine lv_aload_n hx hb dX9_feed_104 rfl (lv_at hl 2 rfl) ?_
  refine lv_dup hx hb dX9_feed_105 rfl ?_
  refine va_get (D := D) (ci := 9) (v := .int 18) (C := RX9) (T := TX9) (N := 25) hx hb hu in_X9 hown hK.1 hP 0 rfl rfl 9 (by decide) (hu _ u_1089) (fun _ h9 => h9) rfl dX9_feed_106 ?_
  refine lv_iconst (v := 1) hx hb dX9_feed_109 (by decide) ?_
  refine lv_iadd hx hb dX9_feed_110 ?_
  refine tpi (y := 19) (by decide) ?_
  refine va_put (D := D) (ci := 9) (v := .int 19) (ty := tyX9 9) (C := RX9) (T := TX9) (N := 25) hx hb hu in_X9 tyX9 tyX9_ok nmX9 hown hK.1 hP hD hS 0 rfl rfl 9 (by decide) (hu _ u_1089) (fun _ h9 => h9) rfl (tyX9_ok 9 (by decide)) rfl rfl (Nat.le_of_ble_eq_true rfl) dX9_feed_111 (fun H locs hP hD hS => ?_)
  have hP : va_P D vwCl [(md, .inr (9, [.int 0, .ref m_all, .ref m_deeds, .ref m_trial, .int 0, .ref m_hasImage, .ref m_tape, .ref m_key, .ref m_answered, .int 19, .int 0, .int 0, .ref m_goes, .int 0, .ref m_hotOnes, .ref m_indexed, .ref m_isChanged, .int 0, .ref m_valueNow, .int 0, .int (-1), .int 0, .ref m_didSome, .ref m_sizes, .ref m_ends])), (m_tape, aI cs 60 g_109)] H := hP
  have hD : va_D A [(md, .inr (9, [.int 0, .ref m_all, .ref m_deeds, .ref m_trial, .int 0, .ref m_hasImage, .ref m_tape, .ref m_key, .ref m_answered, .int 19, .int 0, .int 0, .ref m_goes, .int 0, .ref m_hotOnes, .ref m_indexed, .ref m_isChanged, .int 0, .ref m_valueNow, .int 0, .int (-1), .int 0, .ref m_didSome, .ref m_sizes, .ref m_ends])), (m_tape, aI cs 60 g_109)] := hD
  refine lv_iinc (v := 19) (lv' := [(6, .int 19), (7, .int x5), (0, .ref md), (1, .int x), (2, .int y), (3, .int z), (4, .int x4), (5, .int x5)]) hx hb dX9_feed_114 hl (k := 1) rfl (by decide) (by decide) rfl (fun ls hl => ?_)
  refine lv_goto (tgt := 23) hx hb dX9_feed_117 (by decide) ?_
  refine lv_iload hx hb dX9_feed_23 (lv_at hl 0 rfl) ?_
  refine lv_bipush (v := 20) hx hb dX9_feed_25 (by decide) ?_
  refine lv_icmp_ge (tgt := 120) hx hb dX9_feed_27 (by decide) (fun c_111 => absurd c_111 (by decide)) (fun c_111 => ?_)
  refine lv_iload hx hb dX9_feed_30 (lv_at hl 0 rfl) ?_
  refine lv_iconst (v := 4) hx hb dX9_feed_32 (by decide) ?_
  refine lv_icmp_ge (tgt := 40) hx hb dX9_feed_33 (by decide) (fun c_112 => ?_) (fun c_112 => absurd (by decide) c_112)
  refine lv_iload hx hb dX9_feed_40 (lv_at hl 0 rfl) ?_
  refine lv_bipush (v := 8) hx hb dX9_feed_42 (by decide) ?_
  refine lv_icmp_ge (tgt := 51) hx hb dX9_feed_44 (by decide) (fun c_113 => ?_) (fun c_113 => absurd (by decide) c_113)
  refine lv_iload hx hb dX9_feed_51 (lv_at hl 0 rfl) ?_
  refine lv_bipush (v := 12) hx hb dX9_feed_53 (by decide) ?_
  refine lv_icmp_ge (tgt := 62) hx hb dX9_feed_55 (by decide) (fun c_114 => ?_) (fun c_114 => absurd (by decide) c_114)
  refine lv_iload hx hb dX9_feed_62 (lv_at hl 0 rfl) ?_
  refine lv_bipush (v := 16) hx hb dX9_feed_64 (by decide) ?_
  refine lv_icmp_ge (tgt := 74) hx hb dX9_feed_66 (by decide) (fun c_115 => ?_) (fun c_115 => absurd (by decide) c_115)
  refine lv_iload hx hb dX9_feed_74 (lv_at hl 7 rfl) ?_
  refine lv_istore (lv' := [(7, .int x5), (6, .int 19), (0, .ref md), (1, .int x), (2, .int y), (3, .int z), (4, .int x4), (5, .int x5)]) hx hb dX9_feed_76 hl (by decide) rfl (fun ls hl => ?_)
  refine lv_aload_n hx hb dX9_feed_78 rfl (lv_at hl 2 rfl) ?_
  refine va_get (D := D) (ci := 9) (v := .ref m_tape) (C := RX9) (T := TX9) (N := 25) hx hb hu in_X9 hown hK.1 hP 0 rfl rfl 6 (by decide) (hu _ u_1086) (fun _ h9 => h9) rfl dX9_feed_79 ?_
  refine lv_aload_n hx hb dX9_feed_82 rfl (lv_at hl 2 rfl) ?_
  refine va_get (D := D) (ci := 9) (v := .int 19) (C := RX9) (T := TX9) (N := 25) hx hb hu in_X9 hown hK.1 hP 0 rfl rfl 9 (by decide) (hu _ u_1089) (fun _ h9 => h9) rfl dX9_feed_83 ?_
  refine lv_iload hx hb dX9_feed_86 (lv_at hl 0 rfl) ?_
  refine lv_bipush (v := 24) hx hb dX9_feed_88 (by decide) ?_
  refine lv_bipush (v := 8) hx hb dX9_feed_90 (by decide) ?_
  refine lv_iload hx hb dX9_feed_92 (lv_at hl 1 rfl) ?_
  refine lv_iconst (v := 4) hx hb dX9_feed_94 (by decide) ?_
  refine lv_irem hx hb dX9_feed_95 (by decide) ?_
  refine tpi (y := 3) (by decide) ?_
  refine lv_imul hx hb dX9_feed_96 ?_
  refine tpi (y := 24) (by decide) ?_
  refine lv_isub hx hb dX9_feed_97 ?_
  refine tpi (y := 0) (by decide) ?_
  refine lv_ishr hx hb dX9_feed_98 ?_
  refine lv_sipush (v := 255) hx hb dX9_feed_99 (by decide) ?_
  refine lv_iand hx hb dX9_feed_102 ?_
  refine va_iast hx hb hK.1 hP hD hS 1 0 rfl rfl (vin_c _ _ rfl) dX9_feed_103 (fun H locs hP hD hS => ?_)
  have hP : va_P D vwCl [(md, .inr (9, [.int 0, .ref m_all, .ref m_deeds, .ref m_trial, .int 0, .ref m_hasImage, .ref m_tape, .ref m_key, .ref m_answered, .int 19, .int 0, .int 0, .ref m_goes, .int 0, .ref m_hotOnes, .ref m_indexed, .ref m_isChanged, .int 0, .ref m_valueNow, .int 0, .int (-1), .int 0, .ref m_didSome, .ref m_sizes, .ref m_ends])), (m_tape, aI cs 60 (upd g_109 (19 : Int32).toNatClampNeg ((x5 >>> (0 &&& 31)) &&& 255)))] H := hP
  have hD : va_D A [(md, .inr (9, [.int 0, .ref m_all, .ref m_deeds, .ref m_trial, .int 0, .ref m_hasImage, .ref m_tape, .ref m_key, .ref m_answered, .int 19, .int 0, .int 0, .ref m_goes, .int 0, .ref m_hotOnes, .ref m_indexed, .ref m_isChanged, .int 0, .ref m_valueNow, .int 0, .int (-1), .int 0, .ref m_didSome, .ref m_sizes, .ref m_ends])), (m_tape, aI cs 60 (upd g_109 (19 : Int32).toNatClampNeg ((x5 >>> (0 &&& 31)) &&& 255)))] := hD
  obtain ⟨g_116, eg_117⟩ : ∃ g9 : Nat → Int32, upd g_109 (19 : Int32).toNatClampNeg ((x5 >>> (0 &&& 31)) &&& 255) = g9 := ⟨_, rfl⟩
  rw [eg_117] at hP hD
  clear eg_117
  refine lv_aload_n hx hb dX9_feed_104 rfl (lv_at hl 2 rfl) ?_
  refine lv_dup hx hb dX9_feed_105 rfl ?_
  refine va_get (D := D) (ci := 9) (v := .int 19) (C := RX9) (T := TX9) (N := 25) hx hb hu in_X9 hown hK.1 hP 0 rfl rfl 9 (by decide) (hu _ u_1089) (fun _ h9 => h9) rfl dX9_feed_106 ?_
  refine lv_iconst (v := 1) hx hb dX9_feed_109 (by decide) ?_
  refine lv_iadd hx hb dX9_feed_110 ?_
  refine tpi (y := 20) (by decide) ?_
  refine va_put (D := D) (ci := 9) (v := .int 20) (ty := tyX9 9) (C := RX9) (T := TX9) (N := 25) hx hb hu in_X9 tyX9 tyX9_ok nmX9 hown hK.1 hP hD hS 0 rfl rfl 9 (by decide) (hu _ u_1089) (fun _ h9 => h9) rfl (tyX9_ok 9 (by decide)) rfl rfl (Nat.le_of_ble_eq_true rfl) dX9_feed_111 (fun H locs hP hD hS => ?_)
  have hP : va_P D vwCl [(md, .inr (9, [.int 0, .ref m_all, .ref m_deeds, .ref m_trial, .int 0, .ref m_hasImage, .ref m_tape, .ref m_key, .ref m_answered, .int 20, .int 0, .int 0, .ref m_goes, .int 0, .ref m_hotOnes, .ref m_indexed, .ref m_isChanged, .int 0, .ref m_valueNow, .int 0, .int (-1), .int 0, .ref m_didSome, .ref m_sizes, .ref m_ends])), (m_tape, aI cs 60 g_116)] H := hP
  have hD : va_D A [(md, .inr (9, [.int 0, .ref m_all, .ref m_deeds, .ref m_trial, .int 0, .ref m_hasImage, .ref m_tape, .ref m_key, .ref m_answered, .int 20, .int 0, .int 0, .ref m_goes, .int 0, .ref m_hotOnes, .ref m_indexed, .ref m_isChanged, .int 0, .ref m_valueNow, .int 0, .int (-1), .int 0, .ref m_didSome, .ref m_sizes, .ref m_ends])), (m_tape, aI cs 60 g_116)] := hD
  refine lv_iinc (v := 20) (lv' := [(6, .int 20), (7, .int x5), (0, .ref md), (1, .int x), (2, .int y), (3, .int z), (4, .int x4), (5, .int x5)]) hx hb dX9_feed_114 hl (k := 1) rfl (by decide) (by decide) rfl (fun ls hl => ?_)
  refine lv_goto (tgt := 23) hx hb dX9_feed_117 (by decide) ?_
  refine lv_iload hx hb dX9_feed_23 (lv_at hl 0 rfl) ?_
  refine lv_bipush (v := 20) hx hb dX9_feed_25 (by decide) ?_
  refine lv_icmp_ge (tgt := 120) hx hb dX9_feed_27 (by decide) (fun c_118 => ?_) (fun c_118 => absurd (by decide) c_118)
  refine lv_aload_n hx hb dX9_feed_120 rfl (lv_at hl 2 rfl) ?_
  refine va_get (D := D) (ci := 9) (v := .int 20) (C := RX9) (T := TX9) (N := 25) hx hb hu in_X9 hown hK.1 hP 0 rfl rfl 9 (by decide) (hu _ u_1089) (fun _ h9 => h9) rfl dX9_feed_121 ?_
  exact hz () hP hD hS rfl [] rfl rfl (Nat.le_of_ble_eq_true rfl) (Nat.le_of_ble_eq_true rfl) .int rfl rfl dX9_feed_124
abbrev rm_c_X9_put : Room := { frames := 1, cells := 0, slots := 0, locals := 25 }
set_option maxHeartbeats 4000000 in
set_option maxRecDepth 100000 in
theorem c_X9_put (l : Launch) (D : va_G) (cs : Nat → ClassId) (sz : Nat) (x : Int32) (y : Int32) (md : Nat) (m_all : Nat) (m_deeds : Nat) (m_trial : Nat) (m_hasImage : Nat) (m_tape : Nat) (m_key : Nat) (m_answered : Nat) (m_goes : Nat) (m_hotOnes : Nat) (m_indexed : Nat) (m_isChanged : Nat) (m_valueNow : Nat) (m_didSome : Nat) (m_sizes : Nat) (m_ends : Nat)  : cMi l yX9_put (Cond.code yX9_put cX9_put 6 (some .int)) (rm_c_X9_put) D cs [.ref md, .int x, .int y] sz [(md, .inr (9, [.int 0, .ref m_all, .ref m_deeds, .ref m_trial, .int 0, .ref m_hasImage, .ref m_tape, .ref m_key, .ref m_answered, .int 0, .int 0, .int 0, .ref m_goes, .int 0, .ref m_hotOnes, .ref m_indexed, .ref m_isChanged, .int 0, .ref m_valueNow, .int 0, .int (-1), .int 0, .ref m_didSome, .ref m_sizes, .ref m_ends]))] (fun (r : Int32) (u : Unit) => (r = (-3))) (fun (u : Unit) => []) := by
  refine kMet_i RX9 (by decide) rfl (Nat.le_of_ble_eq_true rfl) ?_
  intro p e s m below meth c ls A Qz H locs hx hb hml hown hin hu hK hsz hA hP hD hS hl hz
  subst hsz
  have hl : lv_has ls 6 [(0, .ref md), (1, .int x), (2, .int y)] := hl
  refine lv_aload_n hx hb dX9_put_0 rfl (lv_at hl 0 rfl) ?_
  refine lv_iconst (v := 0) hx hb dX9_put_1 (by decide) ?_
  refine va_put (D := D) (ci := 9) (v := .int 0) (ty := tyX9 0) (C := RX9) (T := TX9) (N := 25) hx hb hu in_X9 tyX9 tyX9_ok nmX9 hown hK.1 hP hD hS 0 rfl rfl 0 (by decide) (hu _ u_1080) (fun _ h9 => h9) rfl (tyX9_ok 0 (by decide)) rfl rfl (Nat.le_of_ble_eq_true rfl) dX9_put_2 (fun H locs hP hD hS => ?_)
  have hP : va_P D vwCl [(md, .inr (9, [.int 0, .ref m_all, .ref m_deeds, .ref m_trial, .int 0, .ref m_hasImage, .ref m_tape, .ref m_key, .ref m_answered, .int 0, .int 0, .int 0, .ref m_goes, .int 0, .ref m_hotOnes, .ref m_indexed, .ref m_isChanged, .int 0, .ref m_valueNow, .int 0, .int (-1), .int 0, .ref m_didSome, .ref m_sizes, .ref m_ends]))] H := hP
  have hD : va_D A [(md, .inr (9, [.int 0, .ref m_all, .ref m_deeds, .ref m_trial, .int 0, .ref m_hasImage, .ref m_tape, .ref m_key, .ref m_answered, .int 0, .int 0, .int 0, .ref m_goes, .int 0, .ref m_hotOnes, .ref m_indexed, .ref m_isChanged, .int 0, .ref m_valueNow, .int 0, .int (-1), .int 0, .ref m_didSome, .ref m_sizes, .ref m_ends]))] := hD
  refine lv_iload_n hx hb dX9_put_5 rfl (lv_at hl 1 rfl) ?_
  refine lv_i2l (v := x.toInt64) hx hb dX9_put_6 rfl ?_
  refine lv_lconst (v := 1) hx hb dX9_put_7 (by decide) ?_
  refine lv_ldc2 (v := 8) hx hb hown (hu _ u_1171) dX9_put_8 ?_
  refine kS_i  (As := [.long x.toInt64, .long 1, .long 8]) (rest := []) (wc := []) (wr := [(md, .inr (9, [.int 0, .ref m_all, .ref m_deeds, .ref m_trial, .int 0, .ref m_hasImage, .ref m_tape, .ref m_key, .ref m_answered, .int 0, .int 0, .int 0, .ref m_goes, .int 0, .ref m_hotOnes, .ref m_indexed, .ref m_isChanged, .int 0, .ref m_valueNow, .int 0, .int (-1), .int 0, .ref m_didSome, .ref m_sizes, .ref m_ends]))]) hx hb hml hown hu hK hP hD hS hA hl.1 (c_X9_within l D cs H.size x.toInt64 1 8) (gS u_1164 u_1165 u_76 u_1166) hd_X9_within ⟨(Nat.le_of_ble_eq_true rfl), (Nat.le_of_ble_eq_true rfl)⟩ [] [0] rfl rfl rfl rfl (by decide) rfl rfl (Nat.le_of_ble_eq_true rfl) dX9_put_11 ⟨(Nat.le_of_ble_eq_true rfl), (Nat.le_of_ble_eq_true rfl)⟩ (fun r_1 ut_2 H locs hw_3 hP hD hS => ?_)
  have hP : va_P D vwCl [(md, .inr (9, [.int 0, .ref m_all, .ref m_deeds, .ref m_trial, .int 0, .ref m_hasImage, .ref m_tape, .ref m_key, .ref m_answered, .int 0, .int 0, .int 0, .ref m_goes, .int 0, .ref m_hotOnes, .ref m_indexed, .ref m_isChanged, .int 0, .ref m_valueNow, .int 0, .int (-1), .int 0, .ref m_didSome, .ref m_sizes, .ref m_ends]))] H := hP
  have hD : va_D A [(md, .inr (9, [.int 0, .ref m_all, .ref m_deeds, .ref m_trial, .int 0, .ref m_hasImage, .ref m_tape, .ref m_key, .ref m_answered, .int 0, .int 0, .int 0, .ref m_goes, .int 0, .ref m_hotOnes, .ref m_indexed, .ref m_isChanged, .int 0, .ref m_valueNow, .int 0, .int (-1), .int 0, .ref m_didSome, .ref m_sizes, .ref m_ends]))] := hD
  rcases hw_3 with hw_3 | hw_3
  · obtain ⟨er_4, hf_5⟩ := hw_3
    have hf_6 : 1 ≤ x ∧ x ≤ 8 := ⟨(w_le (d := 1) (x := x) (by decide)).mp hf_5.1, (w_ge (d := 8) (x := x) (by decide)).mp hf_5.2⟩
    subst er_4
    refine lv_if_eq (tgt := 39) hx hb dX9_put_14 (by decide) (fun c_7 => absurd c_7 (by decide)) (fun c_7 => ?_)
    refine lv_iload_n hx hb dX9_put_17 rfl (lv_at hl 2 rfl) ?_
    refine lv_i2l (v := y.toInt64) hx hb dX9_put_18 rfl ?_
    refine lv_lconst (v := 0) hx hb dX9_put_19 (by decide) ?_
    refine lv_ldc2 (v := 40) hx hb hown (hu _ u_1172) dX9_put_20 ?_
    refine kS_i  (As := [.long y.toInt64, .long 0, .long 40]) (rest := []) (wc := []) (wr := [(md, .inr (9, [.int 0, .ref m_all, .ref m_deeds, .ref m_trial, .int 0, .ref m_hasImage, .ref m_tape, .ref m_key, .ref m_answered, .int 0, .int 0, .int 0, .ref m_goes, .int 0, .ref m_hotOnes, .ref m_indexed, .ref m_isChanged, .int 0, .ref m_valueNow, .int 0, .int (-1), .int 0, .ref m_didSome, .ref m_sizes, .ref m_ends]))]) hx hb hml hown hu hK hP hD hS hA hl.1 (c_X9_within l D cs H.size y.toInt64 0 40) (gS u_1164 u_1165 u_76 u_1166) hd_X9_within ⟨(Nat.le_of_ble_eq_true rfl), (Nat.le_of_ble_eq_true rfl)⟩ [] [0] rfl rfl rfl rfl (by decide) rfl rfl (Nat.le_of_ble_eq_true rfl) dX9_put_23 ⟨(Nat.le_of_ble_eq_true rfl), (Nat.le_of_ble_eq_true rfl)⟩ (fun r_8 ut_9 H locs hw_10 hP hD hS => ?_)
    have hP : va_P D vwCl [(md, .inr (9, [.int 0, .ref m_all, .ref m_deeds, .ref m_trial, .int 0, .ref m_hasImage, .ref m_tape, .ref m_key, .ref m_answered, .int 0, .int 0, .int 0, .ref m_goes, .int 0, .ref m_hotOnes, .ref m_indexed, .ref m_isChanged, .int 0, .ref m_valueNow, .int 0, .int (-1), .int 0, .ref m_didSome, .ref m_sizes, .ref m_ends]))] H := hP
    have hD : va_D A [(md, .inr (9, [.int 0, .ref m_all, .ref m_deeds, .ref m_trial, .int 0, .ref m_hasImage, .ref m_tape, .ref m_key, .ref m_answered, .int 0, .int 0, .int 0, .ref m_goes, .int 0, .ref m_hotOnes, .ref m_indexed, .ref m_isChanged, .int 0, .ref m_valueNow, .int 0, .int (-1), .int 0, .ref m_didSome, .ref m_sizes, .ref m_ends]))] := hD
    rcases hw_10 with hw_10 | hw_10
    · obtain ⟨er_11, hf_12⟩ := hw_10
      have hf_13 : 0 ≤ y ∧ y ≤ 40 := ⟨(w_le (d := 0) (x := y) (by decide)).mp hf_12.1, (w_ge (d := 40) (x := y) (by decide)).mp hf_12.2⟩
      subst er_11
      refine lv_if_eq (tgt := 39) hx hb dX9_put_26 (by decide) (fun c_14 => absurd c_14 (by decide)) (fun c_14 => ?_)
      refine lv_iload_n hx hb dX9_put_29 rfl (lv_at hl 1 rfl) ?_
      refine lv_iload_n hx hb dX9_put_30 rfl (lv_at hl 2 rfl) ?_
      refine lv_iadd hx hb dX9_put_31 ?_
      refine lv_aload_n hx hb dX9_put_32 rfl (lv_at hl 0 rfl) ?_
      refine va_get (D := D) (ci := 9) (v := .int 0) (C := RX9) (T := TX9) (N := 25) hx hb hu in_X9 hown hK.1 hP 0 rfl rfl 9 (by decide) (hu _ u_1089) (fun _ h9 => h9) rfl dX9_put_33 ?_
      refine lv_icmp_le (tgt := 42) hx hb dX9_put_36 (by decide) (fun c_15 => absurd c_15 (by grind)) (fun c_15 => ?_)
      refine lv_bipush (v := (-3)) hx hb dX9_put_39 (by decide) ?_
      exact hz () hP hD hS rfl [] rfl rfl (Nat.le_of_ble_eq_true rfl) (Nat.le_of_ble_eq_true rfl) .int rfl rfl dX9_put_41
    · obtain ⟨er_16, hf_17⟩ := hw_10
      have hf_18 : ¬ (0 ≤ y ∧ y ≤ 40) := fun h => hf_17 ⟨(w_le (d := 0) (x := y) (by decide)).mpr h.1, (w_ge (d := 40) (x := y) (by decide)).mpr h.2⟩
      subst er_16
      refine lv_if_eq (tgt := 39) hx hb dX9_put_26 (by decide) (fun c_19 => ?_) (fun c_19 => absurd (by decide) c_19)
      refine lv_bipush (v := (-3)) hx hb dX9_put_39 (by decide) ?_
      exact hz () hP hD hS rfl [] rfl rfl (Nat.le_of_ble_eq_true rfl) (Nat.le_of_ble_eq_true rfl) .int rfl rfl dX9_put_41
  · obtain ⟨er_20, hf_21⟩ := hw_3
    have hf_22 : ¬ (1 ≤ x ∧ x ≤ 8) := fun h => hf_21 ⟨(w_le (d := 1) (x := x) (by decide)).mpr h.1, (w_ge (d := 8) (x := x) (by decide)).mpr h.2⟩
    subst er_20
    refine lv_if_eq (tgt := 39) hx hb dX9_put_14 (by decide) (fun c_23 => ?_) (fun c_23 => absurd (by decide) c_23)
    refine lv_bipush (v := (-3)) hx hb dX9_put_39 (by decide) ?_
    exact hz () hP hD hS rfl [] rfl rfl (Nat.le_of_ble_eq_true rfl) (Nat.le_of_ble_eq_true rfl) .int rfl rfl dX9_put_41
abbrev rm_c_X9_get : Room := { frames := 2, cells := 0, slots := 0, locals := 46 }
set_option maxHeartbeats 4000000 in
set_option maxRecDepth 100000 in
theorem c_X9_get (l : Launch) (D : va_G) (cs : Nat → ClassId) (sz : Nat) (x : Int32) (y : Int32) (md : Nat) (m_all : Nat) (m_deeds : Nat) (m_trial : Nat) (m_hasImage : Nat) (m_tape : Nat) (m_key : Nat) (m_answered : Nat) (m_goes : Nat) (m_hotOnes : Nat) (m_indexed : Nat) (m_isChanged : Nat) (m_valueNow : Nat) (m_didSome : Nat) (m_sizes : Nat) (m_ends : Nat)  : cMi l yX9_get (Cond.code yX9_get cX9_get 7 (some .int)) (rm_c_X9_get) D cs [.ref md, .int x, .int y] sz [(md, .inr (9, [.int 0, .ref m_all, .ref m_deeds, .ref m_trial, .int 0, .ref m_hasImage, .ref m_tape, .ref m_key, .ref m_answered, .int 0, .int 0, .int 0, .ref m_goes, .int 0, .ref m_hotOnes, .ref m_indexed, .ref m_isChanged, .int 0, .ref m_valueNow, .int 0, .int (-1), .int 0, .ref m_didSome, .ref m_sizes, .ref m_ends]))] (fun (r : Int32) (u : Unit) => ((r = (-2)) ∧ (¬ y = -1 ∧ (y < 0 ∨ 4 ≤ y))) ∨ ((r = (-3)) ∧ (y = -1 ∨ (¬ y < 0 ∧ y < 4)))) (fun (u : Unit) => []) := by
  refine kMet_i RX9 (by decide) rfl (Nat.le_of_ble_eq_true rfl) ?_
  intro p e s m below meth c ls A Qz H locs hx hb hml hown hin hu hK hsz hA hP hD hS hl hz
  subst hsz
  have hl : lv_has ls 7 [(0, .ref md), (1, .int x), (2, .int y)] := hl
  refine lv_aload_n hx hb dX9_get_0 rfl (lv_at hl 0 rfl) ?_
  refine lv_iconst (v := 0) hx hb dX9_get_1 (by decide) ?_
  refine va_put (D := D) (ci := 9) (v := .int 0) (ty := tyX9 0) (C := RX9) (T := TX9) (N := 25) hx hb hu in_X9 tyX9 tyX9_ok nmX9 hown hK.1 hP hD hS 0 rfl rfl 0 (by decide) (hu _ u_1080) (fun _ h9 => h9) rfl (tyX9_ok 0 (by decide)) rfl rfl (Nat.le_of_ble_eq_true rfl) dX9_get_2 (fun H locs hP hD hS => ?_)
  have hP : va_P D vwCl [(md, .inr (9, [.int 0, .ref m_all, .ref m_deeds, .ref m_trial, .int 0, .ref m_hasImage, .ref m_tape, .ref m_key, .ref m_answered, .int 0, .int 0, .int 0, .ref m_goes, .int 0, .ref m_hotOnes, .ref m_indexed, .ref m_isChanged, .int 0, .ref m_valueNow, .int 0, .int (-1), .int 0, .ref m_didSome, .ref m_sizes, .ref m_ends]))] H := hP
  have hD : va_D A [(md, .inr (9, [.int 0, .ref m_all, .ref m_deeds, .ref m_trial, .int 0, .ref m_hasImage, .ref m_tape, .ref m_key, .ref m_answered, .int 0, .int 0, .int 0, .ref m_goes, .int 0, .ref m_hotOnes, .ref m_indexed, .ref m_isChanged, .int 0, .ref m_valueNow, .int 0, .int (-1), .int 0, .ref m_didSome, .ref m_sizes, .ref m_ends]))] := hD
  refine lv_iload_n hx hb dX9_get_5 rfl (lv_at hl 2 rfl) ?_
  refine kS_i  (As := [.int y]) (rest := []) (wc := []) (wr := [(md, .inr (9, [.int 0, .ref m_all, .ref m_deeds, .ref m_trial, .int 0, .ref m_hasImage, .ref m_tape, .ref m_key, .ref m_answered, .int 0, .int 0, .int 0, .ref m_goes, .int 0, .ref m_hotOnes, .ref m_indexed, .ref m_isChanged, .int 0, .ref m_valueNow, .int 0, .int (-1), .int 0, .ref m_didSome, .ref m_sizes, .ref m_ends]))]) hx hb hml hown hu hK hP hD hS hA hl.1 (c_X9_isAt l D cs H.size y) (gS u_1298 u_1299 u_76 u_1300) hd_X9_isAt ⟨(Nat.le_of_ble_eq_true rfl), (Nat.le_of_ble_eq_true rfl)⟩ [] [0] rfl rfl rfl rfl (by decide) rfl rfl (Nat.le_of_ble_eq_true rfl) dX9_get_6 ⟨(Nat.le_of_ble_eq_true rfl), (Nat.le_of_ble_eq_true rfl)⟩ (fun r_1 ut_2 H locs hw_3 hP hD hS => ?_)
  have hP : va_P D vwCl [(md, .inr (9, [.int 0, .ref m_all, .ref m_deeds, .ref m_trial, .int 0, .ref m_hasImage, .ref m_tape, .ref m_key, .ref m_answered, .int 0, .int 0, .int 0, .ref m_goes, .int 0, .ref m_hotOnes, .ref m_indexed, .ref m_isChanged, .int 0, .ref m_valueNow, .int 0, .int (-1), .int 0, .ref m_didSome, .ref m_sizes, .ref m_ends]))] H := hP
  have hD : va_D A [(md, .inr (9, [.int 0, .ref m_all, .ref m_deeds, .ref m_trial, .int 0, .ref m_hasImage, .ref m_tape, .ref m_key, .ref m_answered, .int 0, .int 0, .int 0, .ref m_goes, .int 0, .ref m_hotOnes, .ref m_indexed, .ref m_isChanged, .int 0, .ref m_valueNow, .int 0, .int (-1), .int 0, .ref m_didSome, .ref m_sizes, .ref m_ends]))] := hD
  rcases hw_3 with hw_3 | hw_3
  · obtain ⟨er_4, hf_5⟩ := hw_3
    subst er_4
    refine lv_if_ne (tgt := 15) hx hb dX9_get_9 (by decide) (fun c_6 => ?_) (fun c_6 => absurd c_6 (by decide))
    refine lv_aload_n hx hb dX9_get_15 rfl (lv_at hl 0 rfl) ?_
    refine lv_iload_n hx hb dX9_get_16 rfl (lv_at hl 1 rfl) ?_
    refine kV_i (ci := 9) (As := [.int x]) (rest := []) (wc := [(md, .inr (9, [.int 0, .ref m_all, .ref m_deeds, .ref m_trial, .int 0, .ref m_hasImage, .ref m_tape, .ref m_key, .ref m_answered, .int 0, .int 0, .int 0, .ref m_goes, .int 0, .ref m_hotOnes, .ref m_indexed, .ref m_isChanged, .int 0, .ref m_valueNow, .int 0, .int (-1), .int 0, .ref m_didSome, .ref m_sizes, .ref m_ends]))]) (wr := []) hx hb hml hown hu hK hP hD hS hA hl.1 (c_X9_isKey l D cs H.size x md m_all m_deeds m_trial m_hasImage m_tape m_key m_answered m_goes m_hotOnes m_indexed m_isChanged m_valueNow m_didSome m_sizes m_ends 0 0 0) (gV u_1303 u_1305 u_39 u_76 u_1306) hd_X9_isKey ⟨(Nat.le_of_ble_eq_true rfl), (Nat.le_of_ble_eq_true rfl)⟩ [0] [] rfl rfl rfl rfl (by decide) rfl 0 rfl rfl rfl (Nat.le_of_ble_eq_true rfl) dX9_get_17 ⟨(Nat.le_of_ble_eq_true rfl), (Nat.le_of_ble_eq_true rfl)⟩ (fun r_7 ut_8 H locs hw_9 hP hD hS => ?_)
    have hP : va_P D vwCl [(md, .inr (9, [.int 0, .ref m_all, .ref m_deeds, .ref m_trial, .int 0, .ref m_hasImage, .ref m_tape, .ref m_key, .ref m_answered, .int 0, .int 0, .int 0, .ref m_goes, .int 0, .ref m_hotOnes, .ref m_indexed, .ref m_isChanged, .int 0, .ref m_valueNow, .int 0, .int (-1), .int 0, .ref m_didSome, .ref m_sizes, .ref m_ends]))] H := hP
    have hD : va_D A [(md, .inr (9, [.int 0, .ref m_all, .ref m_deeds, .ref m_trial, .int 0, .ref m_hasImage, .ref m_tape, .ref m_key, .ref m_answered, .int 0, .int 0, .int 0, .ref m_goes, .int 0, .ref m_hotOnes, .ref m_indexed, .ref m_isChanged, .int 0, .ref m_valueNow, .int 0, .int (-1), .int 0, .ref m_didSome, .ref m_sizes, .ref m_ends]))] := hD
    have er_10 := hw_9
    subst er_10
    refine lv_if_ne (tgt := 26) hx hb dX9_get_20 (by decide) (fun c_11 => absurd (by decide) c_11) (fun c_11 => ?_)
    refine lv_bipush (v := (-3)) hx hb dX9_get_23 (by decide) ?_
    exact hz () hP hD hS (by grind) [] rfl rfl (Nat.le_of_ble_eq_true rfl) (Nat.le_of_ble_eq_true rfl) .int rfl rfl dX9_get_25
  · obtain ⟨er_12, hf_13⟩ := hw_3
    subst er_12
    refine lv_if_ne (tgt := 15) hx hb dX9_get_9 (by decide) (fun c_14 => absurd (by decide) c_14) (fun c_14 => ?_)
    refine lv_bipush (v := (-2)) hx hb dX9_get_12 (by decide) ?_
    exact hz () hP hD hS (by grind) [] rfl rfl (Nat.le_of_ble_eq_true rfl) (Nat.le_of_ble_eq_true rfl) .int rfl rfl dX9_get_14
abbrev rm_c_X9_answer : Room := { frames := 1, cells := 0, slots := 0, locals := 25 }
set_option maxHeartbeats 4000000 in
set_option maxRecDepth 100000 in
theorem c_X9_answer (l : Launch) (D : va_G) (cs : Nat → ClassId) (sz : Nat) (x : Int32) (md : Nat) (m_all : Nat) (m_deeds : Nat) (m_trial : Nat) (m_hasImage : Nat) (m_tape : Nat) (m_key : Nat) (m_answered : Nat) (m_goes : Nat) (m_hotOnes : Nat) (m_indexed : Nat) (m_isChanged : Nat) (m_valueNow : Nat) (m_didSome : Nat) (m_sizes : Nat) (m_ends : Nat)  : cMi l yX9_answer (Cond.code yX9_answer cX9_answer 2 (some .int)) (rm_c_X9_answer) D cs [.ref md, .int x] sz [(md, .inr (9, [.int 0, .ref m_all, .ref m_deeds, .ref m_trial, .int 0, .ref m_hasImage, .ref m_tape, .ref m_key, .ref m_answered, .int 0, .int 0, .int 0, .ref m_goes, .int 0, .ref m_hotOnes, .ref m_indexed, .ref m_isChanged, .int 0, .ref m_valueNow, .int 0, .int (-1), .int 0, .ref m_didSome, .ref m_sizes, .ref m_ends]))] (fun (r : Int32) (u : Unit) => (r = (-1))) (fun (u : Unit) => []) := by
  refine kMet_i RX9 (by decide) rfl (Nat.le_of_ble_eq_true rfl) ?_
  intro p e s m below meth c ls A Qz H locs hx hb hml hown hin hu hK hsz hA hP hD hS hl hz
  subst hsz
  have hl : lv_has ls 2 [(0, .ref md), (1, .int x)] := hl
  refine lv_aload_n hx hb dX9_answer_0 rfl (lv_at hl 0 rfl) ?_
  refine lv_iconst (v := 0) hx hb dX9_answer_1 (by decide) ?_
  refine va_put (D := D) (ci := 9) (v := .int 0) (ty := tyX9 0) (C := RX9) (T := TX9) (N := 25) hx hb hu in_X9 tyX9 tyX9_ok nmX9 hown hK.1 hP hD hS 0 rfl rfl 0 (by decide) (hu _ u_1080) (fun _ h9 => h9) rfl (tyX9_ok 0 (by decide)) rfl rfl (Nat.le_of_ble_eq_true rfl) dX9_answer_2 (fun H locs hP hD hS => ?_)
  have hP : va_P D vwCl [(md, .inr (9, [.int 0, .ref m_all, .ref m_deeds, .ref m_trial, .int 0, .ref m_hasImage, .ref m_tape, .ref m_key, .ref m_answered, .int 0, .int 0, .int 0, .ref m_goes, .int 0, .ref m_hotOnes, .ref m_indexed, .ref m_isChanged, .int 0, .ref m_valueNow, .int 0, .int (-1), .int 0, .ref m_didSome, .ref m_sizes, .ref m_ends]))] H := hP
  have hD : va_D A [(md, .inr (9, [.int 0, .ref m_all, .ref m_deeds, .ref m_trial, .int 0, .ref m_hasImage, .ref m_tape, .ref m_key, .ref m_answered, .int 0, .int 0, .int 0, .ref m_goes, .int 0, .ref m_hotOnes, .ref m_indexed, .ref m_isChanged, .int 0, .ref m_valueNow, .int 0, .int (-1), .int 0, .ref m_didSome, .ref m_sizes, .ref m_ends]))] := hD
  refine lv_iload_n hx hb dX9_answer_5 rfl (lv_at hl 1 rfl) ?_
  refine lv_i2l (v := x.toInt64) hx hb dX9_answer_6 rfl ?_
  refine lv_lconst (v := 0) hx hb dX9_answer_7 (by decide) ?_
  refine lv_aload_n hx hb dX9_answer_8 rfl (lv_at hl 0 rfl) ?_
  refine va_get (D := D) (ci := 9) (v := .int 0) (C := RX9) (T := TX9) (N := 25) hx hb hu in_X9 hown hK.1 hP 0 rfl rfl 11 (by decide) (hu _ u_1091) (fun _ h9 => h9) rfl dX9_answer_9 ?_
  refine lv_iconst (v := 1) hx hb dX9_answer_12 (by decide) ?_
  refine lv_isub hx hb dX9_answer_13 ?_
  refine tpi (y := (-1)) (by decide) ?_
  refine lv_i2l (v := (-1)) hx hb dX9_answer_14 (by decide) ?_
  refine kS_i  (As := [.long x.toInt64, .long 0, .long (-1)]) (rest := []) (wc := []) (wr := [(md, .inr (9, [.int 0, .ref m_all, .ref m_deeds, .ref m_trial, .int 0, .ref m_hasImage, .ref m_tape, .ref m_key, .ref m_answered, .int 0, .int 0, .int 0, .ref m_goes, .int 0, .ref m_hotOnes, .ref m_indexed, .ref m_isChanged, .int 0, .ref m_valueNow, .int 0, .int (-1), .int 0, .ref m_didSome, .ref m_sizes, .ref m_ends]))]) hx hb hml hown hu hK hP hD hS hA hl.1 (c_X9_within l D cs H.size x.toInt64 0 (-1)) (gS u_1164 u_1165 u_76 u_1166) hd_X9_within ⟨(Nat.le_of_ble_eq_true rfl), (Nat.le_of_ble_eq_true rfl)⟩ [] [0] rfl rfl rfl rfl (by decide) rfl rfl (Nat.le_of_ble_eq_true rfl) dX9_answer_15 ⟨(Nat.le_of_ble_eq_true rfl), (Nat.le_of_ble_eq_true rfl)⟩ (fun r_1 ut_2 H locs hw_3 hP hD hS => ?_)
  have hP : va_P D vwCl [(md, .inr (9, [.int 0, .ref m_all, .ref m_deeds, .ref m_trial, .int 0, .ref m_hasImage, .ref m_tape, .ref m_key, .ref m_answered, .int 0, .int 0, .int 0, .ref m_goes, .int 0, .ref m_hotOnes, .ref m_indexed, .ref m_isChanged, .int 0, .ref m_valueNow, .int 0, .int (-1), .int 0, .ref m_didSome, .ref m_sizes, .ref m_ends]))] H := hP
  have hD : va_D A [(md, .inr (9, [.int 0, .ref m_all, .ref m_deeds, .ref m_trial, .int 0, .ref m_hasImage, .ref m_tape, .ref m_key, .ref m_answered, .int 0, .int 0, .int 0, .ref m_goes, .int 0, .ref m_hotOnes, .ref m_indexed, .ref m_isChanged, .int 0, .ref m_valueNow, .int 0, .int (-1), .int 0, .ref m_didSome, .ref m_sizes, .ref m_ends]))] := hD
  rcases hw_3 with hw_3 | hw_3
  · obtain ⟨er_4, hf_5⟩ := hw_3
    have hf_6 : 0 ≤ x ∧ x ≤ (-1) := ⟨(w_le (d := 0) (x := x) (by decide)).mp hf_5.1, (w_ge (d := (-1)) (x := x) (by decide)).mp hf_5.2⟩
    exfalso
    grind
  · obtain ⟨er_7, hf_8⟩ := hw_3
    have hf_9 : ¬ (0 ≤ x ∧ x ≤ (-1)) := fun h => hf_8 ⟨(w_le (d := 0) (x := x) (by decide)).mpr h.1, (w_ge (d := (-1)) (x := x) (by decide)).mpr h.2⟩
    subst er_7
    refine lv_if_eq (tgt := 30) hx hb dX9_answer_18 (by decide) (fun c_10 => ?_) (fun c_10 => absurd (by decide) c_10)
    refine lv_iconst (v := (-1)) hx hb dX9_answer_30 (by decide) ?_
    exact hz () hP hD hS rfl [] rfl rfl (Nat.le_of_ble_eq_true rfl) (Nat.le_of_ble_eq_true rfl) .int rfl rfl dX9_answer_31
abbrev rm_c_X9_remove : Room := { frames := 2, cells := 0, slots := 0, locals := 46 }
set_option maxHeartbeats 4000000 in
set_option maxRecDepth 100000 in
theorem c_X9_remove (l : Launch) (D : va_G) (cs : Nat → ClassId) (sz : Nat) (x : Int32) (md : Nat) (m_all : Nat) (m_deeds : Nat) (m_trial : Nat) (m_hasImage : Nat) (m_tape : Nat) (m_key : Nat) (m_answered : Nat) (m_goes : Nat) (m_hotOnes : Nat) (m_indexed : Nat) (m_isChanged : Nat) (m_valueNow : Nat) (m_didSome : Nat) (m_sizes : Nat) (m_ends : Nat)  : cMi l yX9_remove (Cond.code yX9_remove cX9_remove 3 (some .int)) (rm_c_X9_remove) D cs [.ref md, .int x] sz [(md, .inr (9, [.int 0, .ref m_all, .ref m_deeds, .ref m_trial, .int 0, .ref m_hasImage, .ref m_tape, .ref m_key, .ref m_answered, .int 0, .int 0, .int 0, .ref m_goes, .int 0, .ref m_hotOnes, .ref m_indexed, .ref m_isChanged, .int 0, .ref m_valueNow, .int 0, .int (-1), .int 0, .ref m_didSome, .ref m_sizes, .ref m_ends]))] (fun (r : Int32) (u : Unit) => (r = (-3))) (fun (u : Unit) => []) := by
  refine kMet_i RX9 (by decide) rfl (Nat.le_of_ble_eq_true rfl) ?_
  intro p e s m below meth c ls A Qz H locs hx hb hml hown hin hu hK hsz hA hP hD hS hl hz
  subst hsz
  have hl : lv_has ls 3 [(0, .ref md), (1, .int x)] := hl
  refine lv_aload_n hx hb dX9_remove_0 rfl (lv_at hl 0 rfl) ?_
  refine lv_iconst (v := 0) hx hb dX9_remove_1 (by decide) ?_
  refine va_put (D := D) (ci := 9) (v := .int 0) (ty := tyX9 0) (C := RX9) (T := TX9) (N := 25) hx hb hu in_X9 tyX9 tyX9_ok nmX9 hown hK.1 hP hD hS 0 rfl rfl 0 (by decide) (hu _ u_1080) (fun _ h9 => h9) rfl (tyX9_ok 0 (by decide)) rfl rfl (Nat.le_of_ble_eq_true rfl) dX9_remove_2 (fun H locs hP hD hS => ?_)
  have hP : va_P D vwCl [(md, .inr (9, [.int 0, .ref m_all, .ref m_deeds, .ref m_trial, .int 0, .ref m_hasImage, .ref m_tape, .ref m_key, .ref m_answered, .int 0, .int 0, .int 0, .ref m_goes, .int 0, .ref m_hotOnes, .ref m_indexed, .ref m_isChanged, .int 0, .ref m_valueNow, .int 0, .int (-1), .int 0, .ref m_didSome, .ref m_sizes, .ref m_ends]))] H := hP
  have hD : va_D A [(md, .inr (9, [.int 0, .ref m_all, .ref m_deeds, .ref m_trial, .int 0, .ref m_hasImage, .ref m_tape, .ref m_key, .ref m_answered, .int 0, .int 0, .int 0, .ref m_goes, .int 0, .ref m_hotOnes, .ref m_indexed, .ref m_isChanged, .int 0, .ref m_valueNow, .int 0, .int (-1), .int 0, .ref m_didSome, .ref m_sizes, .ref m_ends]))] := hD
  refine lv_aload_n hx hb dX9_remove_5 rfl (lv_at hl 0 rfl) ?_
  refine lv_iload_n hx hb dX9_remove_6 rfl (lv_at hl 1 rfl) ?_
  refine kV_i (ci := 9) (As := [.int x]) (rest := []) (wc := [(md, .inr (9, [.int 0, .ref m_all, .ref m_deeds, .ref m_trial, .int 0, .ref m_hasImage, .ref m_tape, .ref m_key, .ref m_answered, .int 0, .int 0, .int 0, .ref m_goes, .int 0, .ref m_hotOnes, .ref m_indexed, .ref m_isChanged, .int 0, .ref m_valueNow, .int 0, .int (-1), .int 0, .ref m_didSome, .ref m_sizes, .ref m_ends]))]) (wr := []) hx hb hml hown hu hK hP hD hS hA hl.1 (c_X9_isKey l D cs H.size x md m_all m_deeds m_trial m_hasImage m_tape m_key m_answered m_goes m_hotOnes m_indexed m_isChanged m_valueNow m_didSome m_sizes m_ends 0 0 0) (gV u_1303 u_1305 u_39 u_76 u_1306) hd_X9_isKey ⟨(Nat.le_of_ble_eq_true rfl), (Nat.le_of_ble_eq_true rfl)⟩ [0] [] rfl rfl rfl rfl (by decide) rfl 0 rfl rfl rfl (Nat.le_of_ble_eq_true rfl) dX9_remove_7 ⟨(Nat.le_of_ble_eq_true rfl), (Nat.le_of_ble_eq_true rfl)⟩ (fun r_1 ut_2 H locs hw_3 hP hD hS => ?_)
  have hP : va_P D vwCl [(md, .inr (9, [.int 0, .ref m_all, .ref m_deeds, .ref m_trial, .int 0, .ref m_hasImage, .ref m_tape, .ref m_key, .ref m_answered, .int 0, .int 0, .int 0, .ref m_goes, .int 0, .ref m_hotOnes, .ref m_indexed, .ref m_isChanged, .int 0, .ref m_valueNow, .int 0, .int (-1), .int 0, .ref m_didSome, .ref m_sizes, .ref m_ends]))] H := hP
  have hD : va_D A [(md, .inr (9, [.int 0, .ref m_all, .ref m_deeds, .ref m_trial, .int 0, .ref m_hasImage, .ref m_tape, .ref m_key, .ref m_answered, .int 0, .int 0, .int 0, .ref m_goes, .int 0, .ref m_hotOnes, .ref m_indexed, .ref m_isChanged, .int 0, .ref m_valueNow, .int 0, .int (-1), .int 0, .ref m_didSome, .ref m_sizes, .ref m_ends]))] := hD
  have er_4 := hw_3
  subst er_4
  refine lv_if_ne (tgt := 16) hx hb dX9_remove_10 (by decide) (fun c_5 => absurd (by decide) c_5) (fun c_5 => ?_)
  refine lv_bipush (v := (-3)) hx hb dX9_remove_13 (by decide) ?_
  exact hz () hP hD hS rfl [] rfl rfl (Nat.le_of_ble_eq_true rfl) (Nat.le_of_ble_eq_true rfl) .int rfl rfl dX9_remove_15
abbrev rm_c_X9_versions : Room := { frames := 2, cells := 0, slots := 0, locals := 46 }
set_option maxHeartbeats 4000000 in
set_option maxRecDepth 100000 in
theorem c_X9_versions (l : Launch) (D : va_G) (cs : Nat → ClassId) (sz : Nat) (x : Int32) (md : Nat) (m_all : Nat) (m_deeds : Nat) (m_trial : Nat) (m_hasImage : Nat) (m_tape : Nat) (m_key : Nat) (m_answered : Nat) (m_goes : Nat) (m_hotOnes : Nat) (m_indexed : Nat) (m_isChanged : Nat) (m_valueNow : Nat) (m_didSome : Nat) (m_sizes : Nat) (m_ends : Nat)  : cMi l yX9_versions (Cond.code yX9_versions cX9_versions 2 (some .int)) (rm_c_X9_versions) D cs [.ref md, .int x] sz [(md, .inr (9, [.int 0, .ref m_all, .ref m_deeds, .ref m_trial, .int 0, .ref m_hasImage, .ref m_tape, .ref m_key, .ref m_answered, .int 0, .int 0, .int 0, .ref m_goes, .int 0, .ref m_hotOnes, .ref m_indexed, .ref m_isChanged, .int 0, .ref m_valueNow, .int 0, .int (-1), .int 0, .ref m_didSome, .ref m_sizes, .ref m_ends]))] (fun (r : Int32) (u : Unit) => (r = (-3))) (fun (u : Unit) => []) := by
  refine kMet_i RX9 (by decide) rfl (Nat.le_of_ble_eq_true rfl) ?_
  intro p e s m below meth c ls A Qz H locs hx hb hml hown hin hu hK hsz hA hP hD hS hl hz
  subst hsz
  have hl : lv_has ls 2 [(0, .ref md), (1, .int x)] := hl
  refine lv_aload_n hx hb dX9_versions_0 rfl (lv_at hl 0 rfl) ?_
  refine lv_iconst (v := 0) hx hb dX9_versions_1 (by decide) ?_
  refine va_put (D := D) (ci := 9) (v := .int 0) (ty := tyX9 0) (C := RX9) (T := TX9) (N := 25) hx hb hu in_X9 tyX9 tyX9_ok nmX9 hown hK.1 hP hD hS 0 rfl rfl 0 (by decide) (hu _ u_1080) (fun _ h9 => h9) rfl (tyX9_ok 0 (by decide)) rfl rfl (Nat.le_of_ble_eq_true rfl) dX9_versions_2 (fun H locs hP hD hS => ?_)
  have hP : va_P D vwCl [(md, .inr (9, [.int 0, .ref m_all, .ref m_deeds, .ref m_trial, .int 0, .ref m_hasImage, .ref m_tape, .ref m_key, .ref m_answered, .int 0, .int 0, .int 0, .ref m_goes, .int 0, .ref m_hotOnes, .ref m_indexed, .ref m_isChanged, .int 0, .ref m_valueNow, .int 0, .int (-1), .int 0, .ref m_didSome, .ref m_sizes, .ref m_ends]))] H := hP
  have hD : va_D A [(md, .inr (9, [.int 0, .ref m_all, .ref m_deeds, .ref m_trial, .int 0, .ref m_hasImage, .ref m_tape, .ref m_key, .ref m_answered, .int 0, .int 0, .int 0, .ref m_goes, .int 0, .ref m_hotOnes, .ref m_indexed, .ref m_isChanged, .int 0, .ref m_valueNow, .int 0, .int (-1), .int 0, .ref m_didSome, .ref m_sizes, .ref m_ends]))] := hD
  refine lv_aload_n hx hb dX9_versions_5 rfl (lv_at hl 0 rfl) ?_
  refine lv_iload_n hx hb dX9_versions_6 rfl (lv_at hl 1 rfl) ?_
  refine kV_i (ci := 9) (As := [.int x]) (rest := []) (wc := [(md, .inr (9, [.int 0, .ref m_all, .ref m_deeds, .ref m_trial, .int 0, .ref m_hasImage, .ref m_tape, .ref m_key, .ref m_answered, .int 0, .int 0, .int 0, .ref m_goes, .int 0, .ref m_hotOnes, .ref m_indexed, .ref m_isChanged, .int 0, .ref m_valueNow, .int 0, .int (-1), .int 0, .ref m_didSome, .ref m_sizes, .ref m_ends]))]) (wr := []) hx hb hml hown hu hK hP hD hS hA hl.1 (c_X9_isKey l D cs H.size x md m_all m_deeds m_trial m_hasImage m_tape m_key m_answered m_goes m_hotOnes m_indexed m_isChanged m_valueNow m_didSome m_sizes m_ends 0 0 0) (gV u_1303 u_1305 u_39 u_76 u_1306) hd_X9_isKey ⟨(Nat.le_of_ble_eq_true rfl), (Nat.le_of_ble_eq_true rfl)⟩ [0] [] rfl rfl rfl rfl (by decide) rfl 0 rfl rfl rfl (Nat.le_of_ble_eq_true rfl) dX9_versions_7 ⟨(Nat.le_of_ble_eq_true rfl), (Nat.le_of_ble_eq_true rfl)⟩ (fun r_1 ut_2 H locs hw_3 hP hD hS => ?_)
  have hP : va_P D vwCl [(md, .inr (9, [.int 0, .ref m_all, .ref m_deeds, .ref m_trial, .int 0, .ref m_hasImage, .ref m_tape, .ref m_key, .ref m_answered, .int 0, .int 0, .int 0, .ref m_goes, .int 0, .ref m_hotOnes, .ref m_indexed, .ref m_isChanged, .int 0, .ref m_valueNow, .int 0, .int (-1), .int 0, .ref m_didSome, .ref m_sizes, .ref m_ends]))] H := hP
  have hD : va_D A [(md, .inr (9, [.int 0, .ref m_all, .ref m_deeds, .ref m_trial, .int 0, .ref m_hasImage, .ref m_tape, .ref m_key, .ref m_answered, .int 0, .int 0, .int 0, .ref m_goes, .int 0, .ref m_hotOnes, .ref m_indexed, .ref m_isChanged, .int 0, .ref m_valueNow, .int 0, .int (-1), .int 0, .ref m_didSome, .ref m_sizes, .ref m_ends]))] := hD
  have er_4 := hw_3
  subst er_4
  refine lv_if_ne (tgt := 16) hx hb dX9_versions_10 (by decide) (fun c_5 => absurd (by decide) c_5) (fun c_5 => ?_)
  refine lv_bipush (v := (-3)) hx hb dX9_versions_13 (by decide) ?_
  exact hz () hP hD hS rfl [] rfl rfl (Nat.le_of_ble_eq_true rfl) (Nat.le_of_ble_eq_true rfl) .int rfl rfl dX9_versions_15
abbrev rm_c_X9_version : Room := { frames := 2, cells := 0, slots := 0, locals := 46 }
set_option maxHeartbeats 4000000 in
set_option maxRecDepth 100000 in
theorem c_X9_version (l : Launch) (D : va_G) (cs : Nat → ClassId) (sz : Nat) (x : Int32) (y : Int32) (z : Int32) (md : Nat) (m_all : Nat) (m_deeds : Nat) (m_trial : Nat) (m_hasImage : Nat) (m_tape : Nat) (m_key : Nat) (m_answered : Nat) (m_goes : Nat) (m_hotOnes : Nat) (m_indexed : Nat) (m_isChanged : Nat) (m_valueNow : Nat) (m_didSome : Nat) (m_sizes : Nat) (m_ends : Nat)  : cMi l yX9_version (Cond.code yX9_version cX9_version 5 (some .int)) (rm_c_X9_version) D cs [.ref md, .int x, .int y, .int z] sz [(md, .inr (9, [.int 0, .ref m_all, .ref m_deeds, .ref m_trial, .int 0, .ref m_hasImage, .ref m_tape, .ref m_key, .ref m_answered, .int 0, .int 0, .int 0, .ref m_goes, .int 0, .ref m_hotOnes, .ref m_indexed, .ref m_isChanged, .int 0, .ref m_valueNow, .int 0, .int (-1), .int 0, .ref m_didSome, .ref m_sizes, .ref m_ends]))] (fun (r : Int32) (u : Unit) => ((r = (-2)) ∧ (z < 0 ∨ 3 < z)) ∨ ((r = (-3)) ∧ (¬ z < 0 ∧ ¬ 3 < z))) (fun (u : Unit) => []) := by
  refine kMet_i RX9 (by decide) rfl (Nat.le_of_ble_eq_true rfl) ?_
  intro p e s m below meth c ls A Qz H locs hx hb hml hown hin hu hK hsz hA hP hD hS hl hz
  subst hsz
  have hl : lv_has ls 5 [(0, .ref md), (1, .int x), (2, .int y), (3, .int z)] := hl
  refine lv_aload_n hx hb dX9_version_0 rfl (lv_at hl 0 rfl) ?_
  refine lv_iconst (v := 0) hx hb dX9_version_1 (by decide) ?_
  refine va_put (D := D) (ci := 9) (v := .int 0) (ty := tyX9 0) (C := RX9) (T := TX9) (N := 25) hx hb hu in_X9 tyX9 tyX9_ok nmX9 hown hK.1 hP hD hS 0 rfl rfl 0 (by decide) (hu _ u_1080) (fun _ h9 => h9) rfl (tyX9_ok 0 (by decide)) rfl rfl (Nat.le_of_ble_eq_true rfl) dX9_version_2 (fun H locs hP hD hS => ?_)
  have hP : va_P D vwCl [(md, .inr (9, [.int 0, .ref m_all, .ref m_deeds, .ref m_trial, .int 0, .ref m_hasImage, .ref m_tape, .ref m_key, .ref m_answered, .int 0, .int 0, .int 0, .ref m_goes, .int 0, .ref m_hotOnes, .ref m_indexed, .ref m_isChanged, .int 0, .ref m_valueNow, .int 0, .int (-1), .int 0, .ref m_didSome, .ref m_sizes, .ref m_ends]))] H := hP
  have hD : va_D A [(md, .inr (9, [.int 0, .ref m_all, .ref m_deeds, .ref m_trial, .int 0, .ref m_hasImage, .ref m_tape, .ref m_key, .ref m_answered, .int 0, .int 0, .int 0, .ref m_goes, .int 0, .ref m_hotOnes, .ref m_indexed, .ref m_isChanged, .int 0, .ref m_valueNow, .int 0, .int (-1), .int 0, .ref m_didSome, .ref m_sizes, .ref m_ends]))] := hD
  refine lv_iload_n hx hb dX9_version_5 rfl (lv_at hl 3 rfl) ?_
  refine lv_i2l (v := z.toInt64) hx hb dX9_version_6 rfl ?_
  refine lv_lconst (v := 0) hx hb dX9_version_7 (by decide) ?_
  refine lv_ldc2 (v := 3) hx hb hown (hu _ u_1302) dX9_version_8 ?_
  refine kS_i  (As := [.long z.toInt64, .long 0, .long 3]) (rest := []) (wc := []) (wr := [(md, .inr (9, [.int 0, .ref m_all, .ref m_deeds, .ref m_trial, .int 0, .ref m_hasImage, .ref m_tape, .ref m_key, .ref m_answered, .int 0, .int 0, .int 0, .ref m_goes, .int 0, .ref m_hotOnes, .ref m_indexed, .ref m_isChanged, .int 0, .ref m_valueNow, .int 0, .int (-1), .int 0, .ref m_didSome, .ref m_sizes, .ref m_ends]))]) hx hb hml hown hu hK hP hD hS hA hl.1 (c_X9_within l D cs H.size z.toInt64 0 3) (gS u_1164 u_1165 u_76 u_1166) hd_X9_within ⟨(Nat.le_of_ble_eq_true rfl), (Nat.le_of_ble_eq_true rfl)⟩ [] [0] rfl rfl rfl rfl (by decide) rfl rfl (Nat.le_of_ble_eq_true rfl) dX9_version_11 ⟨(Nat.le_of_ble_eq_true rfl), (Nat.le_of_ble_eq_true rfl)⟩ (fun r_1 ut_2 H locs hw_3 hP hD hS => ?_)
  have hP : va_P D vwCl [(md, .inr (9, [.int 0, .ref m_all, .ref m_deeds, .ref m_trial, .int 0, .ref m_hasImage, .ref m_tape, .ref m_key, .ref m_answered, .int 0, .int 0, .int 0, .ref m_goes, .int 0, .ref m_hotOnes, .ref m_indexed, .ref m_isChanged, .int 0, .ref m_valueNow, .int 0, .int (-1), .int 0, .ref m_didSome, .ref m_sizes, .ref m_ends]))] H := hP
  have hD : va_D A [(md, .inr (9, [.int 0, .ref m_all, .ref m_deeds, .ref m_trial, .int 0, .ref m_hasImage, .ref m_tape, .ref m_key, .ref m_answered, .int 0, .int 0, .int 0, .ref m_goes, .int 0, .ref m_hotOnes, .ref m_indexed, .ref m_isChanged, .int 0, .ref m_valueNow, .int 0, .int (-1), .int 0, .ref m_didSome, .ref m_sizes, .ref m_ends]))] := hD
  rcases hw_3 with hw_3 | hw_3
  · obtain ⟨er_4, hf_5⟩ := hw_3
    have hf_6 : 0 ≤ z ∧ z ≤ 3 := ⟨(w_le (d := 0) (x := z) (by decide)).mp hf_5.1, (w_ge (d := 3) (x := z) (by decide)).mp hf_5.2⟩
    subst er_4
    refine lv_if_ne (tgt := 20) hx hb dX9_version_14 (by decide) (fun c_7 => ?_) (fun c_7 => absurd c_7 (by decide))
    refine lv_aload_n hx hb dX9_version_20 rfl (lv_at hl 0 rfl) ?_
    refine lv_iload_n hx hb dX9_version_21 rfl (lv_at hl 1 rfl) ?_
    refine kV_i (ci := 9) (As := [.int x]) (rest := []) (wc := [(md, .inr (9, [.int 0, .ref m_all, .ref m_deeds, .ref m_trial, .int 0, .ref m_hasImage, .ref m_tape, .ref m_key, .ref m_answered, .int 0, .int 0, .int 0, .ref m_goes, .int 0, .ref m_hotOnes, .ref m_indexed, .ref m_isChanged, .int 0, .ref m_valueNow, .int 0, .int (-1), .int 0, .ref m_didSome, .ref m_sizes, .ref m_ends]))]) (wr := []) hx hb hml hown hu hK hP hD hS hA hl.1 (c_X9_isKey l D cs H.size x md m_all m_deeds m_trial m_hasImage m_tape m_key m_answered m_goes m_hotOnes m_indexed m_isChanged m_valueNow m_didSome m_sizes m_ends 0 0 0) (gV u_1303 u_1305 u_39 u_76 u_1306) hd_X9_isKey ⟨(Nat.le_of_ble_eq_true rfl), (Nat.le_of_ble_eq_true rfl)⟩ [0] [] rfl rfl rfl rfl (by decide) rfl 0 rfl rfl rfl (Nat.le_of_ble_eq_true rfl) dX9_version_22 ⟨(Nat.le_of_ble_eq_true rfl), (Nat.le_of_ble_eq_true rfl)⟩ (fun r_8 ut_9 H locs hw_10 hP hD hS => ?_)
    have hP : va_P D vwCl [(md, .inr (9, [.int 0, .ref m_all, .ref m_deeds, .ref m_trial, .int 0, .ref m_hasImage, .ref m_tape, .ref m_key, .ref m_answered, .int 0, .int 0, .int 0, .ref m_goes, .int 0, .ref m_hotOnes, .ref m_indexed, .ref m_isChanged, .int 0, .ref m_valueNow, .int 0, .int (-1), .int 0, .ref m_didSome, .ref m_sizes, .ref m_ends]))] H := hP
    have hD : va_D A [(md, .inr (9, [.int 0, .ref m_all, .ref m_deeds, .ref m_trial, .int 0, .ref m_hasImage, .ref m_tape, .ref m_key, .ref m_answered, .int 0, .int 0, .int 0, .ref m_goes, .int 0, .ref m_hotOnes, .ref m_indexed, .ref m_isChanged, .int 0, .ref m_valueNow, .int 0, .int (-1), .int 0, .ref m_didSome, .ref m_sizes, .ref m_ends]))] := hD
    have er_11 := hw_10
    subst er_11
    refine lv_if_ne (tgt := 31) hx hb dX9_version_25 (by decide) (fun c_12 => absurd (by decide) c_12) (fun c_12 => ?_)
    refine lv_bipush (v := (-3)) hx hb dX9_version_28 (by decide) ?_
    exact hz () hP hD hS (by grind) [] rfl rfl (Nat.le_of_ble_eq_true rfl) (Nat.le_of_ble_eq_true rfl) .int rfl rfl dX9_version_30
  · obtain ⟨er_13, hf_14⟩ := hw_3
    have hf_15 : ¬ (0 ≤ z ∧ z ≤ 3) := fun h => hf_14 ⟨(w_le (d := 0) (x := z) (by decide)).mpr h.1, (w_ge (d := 3) (x := z) (by decide)).mpr h.2⟩
    subst er_13
    refine lv_if_ne (tgt := 20) hx hb dX9_version_14 (by decide) (fun c_16 => absurd (by decide) c_16) (fun c_16 => ?_)
    refine lv_bipush (v := (-2)) hx hb dX9_version_17 (by decide) ?_
    exact hz () hP hD hS (by grind) [] rfl rfl (Nat.le_of_ble_eq_true rfl) (Nat.le_of_ble_eq_true rfl) .int rfl rfl dX9_version_19
abbrev rm_c_X9_hash : Room := { frames := 2, cells := 0, slots := 0, locals := 46 }
set_option maxHeartbeats 4000000 in
set_option maxRecDepth 100000 in
theorem c_X9_hash (l : Launch) (D : va_G) (cs : Nat → ClassId) (sz : Nat) (x : Int32) (md : Nat) (m_all : Nat) (m_deeds : Nat) (m_trial : Nat) (m_hasImage : Nat) (m_tape : Nat) (m_key : Nat) (m_answered : Nat) (m_goes : Nat) (m_hotOnes : Nat) (m_indexed : Nat) (m_isChanged : Nat) (m_valueNow : Nat) (m_didSome : Nat) (m_sizes : Nat) (m_ends : Nat)  : cMi l yX9_hash (Cond.code yX9_hash cX9_hash 2 (some .int)) (rm_c_X9_hash) D cs [.ref md, .int x] sz [(md, .inr (9, [.int 0, .ref m_all, .ref m_deeds, .ref m_trial, .int 0, .ref m_hasImage, .ref m_tape, .ref m_key, .ref m_answered, .int 0, .int 0, .int 0, .ref m_goes, .int 0, .ref m_hotOnes, .ref m_indexed, .ref m_isChanged, .int 0, .ref m_valueNow, .int 0, .int (-1), .int 0, .ref m_didSome, .ref m_sizes, .ref m_ends]))] (fun (r : Int32) (u : Unit) => (r = (-3))) (fun (u : Unit) => []) := by
  refine kMet_i RX9 (by decide) rfl (Nat.le_of_ble_eq_true rfl) ?_
  intro p e s m below meth c ls A Qz H locs hx hb hml hown hin hu hK hsz hA hP hD hS hl hz
  subst hsz
  have hl : lv_has ls 2 [(0, .ref md), (1, .int x)] := hl
  refine lv_aload_n hx hb dX9_hash_0 rfl (lv_at hl 0 rfl) ?_
  refine lv_iconst (v := 0) hx hb dX9_hash_1 (by decide) ?_
  refine va_put (D := D) (ci := 9) (v := .int 0) (ty := tyX9 0) (C := RX9) (T := TX9) (N := 25) hx hb hu in_X9 tyX9 tyX9_ok nmX9 hown hK.1 hP hD hS 0 rfl rfl 0 (by decide) (hu _ u_1080) (fun _ h9 => h9) rfl (tyX9_ok 0 (by decide)) rfl rfl (Nat.le_of_ble_eq_true rfl) dX9_hash_2 (fun H locs hP hD hS => ?_)
  have hP : va_P D vwCl [(md, .inr (9, [.int 0, .ref m_all, .ref m_deeds, .ref m_trial, .int 0, .ref m_hasImage, .ref m_tape, .ref m_key, .ref m_answered, .int 0, .int 0, .int 0, .ref m_goes, .int 0, .ref m_hotOnes, .ref m_indexed, .ref m_isChanged, .int 0, .ref m_valueNow, .int 0, .int (-1), .int 0, .ref m_didSome, .ref m_sizes, .ref m_ends]))] H := hP
  have hD : va_D A [(md, .inr (9, [.int 0, .ref m_all, .ref m_deeds, .ref m_trial, .int 0, .ref m_hasImage, .ref m_tape, .ref m_key, .ref m_answered, .int 0, .int 0, .int 0, .ref m_goes, .int 0, .ref m_hotOnes, .ref m_indexed, .ref m_isChanged, .int 0, .ref m_valueNow, .int 0, .int (-1), .int 0, .ref m_didSome, .ref m_sizes, .ref m_ends]))] := hD
  refine lv_aload_n hx hb dX9_hash_5 rfl (lv_at hl 0 rfl) ?_
  refine lv_iload_n hx hb dX9_hash_6 rfl (lv_at hl 1 rfl) ?_
  refine kV_i (ci := 9) (As := [.int x]) (rest := []) (wc := [(md, .inr (9, [.int 0, .ref m_all, .ref m_deeds, .ref m_trial, .int 0, .ref m_hasImage, .ref m_tape, .ref m_key, .ref m_answered, .int 0, .int 0, .int 0, .ref m_goes, .int 0, .ref m_hotOnes, .ref m_indexed, .ref m_isChanged, .int 0, .ref m_valueNow, .int 0, .int (-1), .int 0, .ref m_didSome, .ref m_sizes, .ref m_ends]))]) (wr := []) hx hb hml hown hu hK hP hD hS hA hl.1 (c_X9_isKey l D cs H.size x md m_all m_deeds m_trial m_hasImage m_tape m_key m_answered m_goes m_hotOnes m_indexed m_isChanged m_valueNow m_didSome m_sizes m_ends 0 0 0) (gV u_1303 u_1305 u_39 u_76 u_1306) hd_X9_isKey ⟨(Nat.le_of_ble_eq_true rfl), (Nat.le_of_ble_eq_true rfl)⟩ [0] [] rfl rfl rfl rfl (by decide) rfl 0 rfl rfl rfl (Nat.le_of_ble_eq_true rfl) dX9_hash_7 ⟨(Nat.le_of_ble_eq_true rfl), (Nat.le_of_ble_eq_true rfl)⟩ (fun r_1 ut_2 H locs hw_3 hP hD hS => ?_)
  have hP : va_P D vwCl [(md, .inr (9, [.int 0, .ref m_all, .ref m_deeds, .ref m_trial, .int 0, .ref m_hasImage, .ref m_tape, .ref m_key, .ref m_answered, .int 0, .int 0, .int 0, .ref m_goes, .int 0, .ref m_hotOnes, .ref m_indexed, .ref m_isChanged, .int 0, .ref m_valueNow, .int 0, .int (-1), .int 0, .ref m_didSome, .ref m_sizes, .ref m_ends]))] H := hP
  have hD : va_D A [(md, .inr (9, [.int 0, .ref m_all, .ref m_deeds, .ref m_trial, .int 0, .ref m_hasImage, .ref m_tape, .ref m_key, .ref m_answered, .int 0, .int 0, .int 0, .ref m_goes, .int 0, .ref m_hotOnes, .ref m_indexed, .ref m_isChanged, .int 0, .ref m_valueNow, .int 0, .int (-1), .int 0, .ref m_didSome, .ref m_sizes, .ref m_ends]))] := hD
  have er_4 := hw_3
  subst er_4
  refine lv_if_ne (tgt := 16) hx hb dX9_hash_10 (by decide) (fun c_5 => absurd (by decide) c_5) (fun c_5 => ?_)
  refine lv_bipush (v := (-3)) hx hb dX9_hash_13 (by decide) ?_
  exact hz () hP hD hS rfl [] rfl rfl (Nat.le_of_ble_eq_true rfl) (Nat.le_of_ble_eq_true rfl) .int rfl rfl dX9_hash_15
abbrev rm_c_X9_batch : Room := { frames := 1, cells := 0, slots := 0, locals := 25 }
set_option maxHeartbeats 4000000 in
set_option maxRecDepth 100000 in
theorem c_X9_batch (l : Launch) (D : va_G) (cs : Nat → ClassId) (sz : Nat) (x : Int32) (md : Nat) (m_all : Nat) (f_m_all : Nat → Int32) (m_deeds : Nat) (f_m_deeds : Nat → Int32) (m_trial : Nat) (f_m_trial : Nat → Int32) (m_hasImage : Nat) (m_tape : Nat) (m_key : Nat) (m_answered : Nat) (m_goes : Nat) (m_hotOnes : Nat) (m_indexed : Nat) (m_isChanged : Nat) (m_valueNow : Nat) (m_didSome : Nat) (m_sizes : Nat) (m_ends : Nat) (z_all : ∀ j, j < 51207 → f_m_all j = AL j) : cMi l yX9_batch (Cond.code yX9_batch cX9_batch 7 (some .int)) (rm_c_X9_batch) D cs [.ref md, .int x] sz [(md, .inr (9, [.int 0, .ref m_all, .ref m_deeds, .ref m_trial, .int 0, .ref m_hasImage, .ref m_tape, .ref m_key, .ref m_answered, .int 0, .int 0, .int 0, .ref m_goes, .int 0, .ref m_hotOnes, .ref m_indexed, .ref m_isChanged, .int 0, .ref m_valueNow, .int 0, .int (-1), .int 0, .ref m_didSome, .ref m_sizes, .ref m_ends])), (m_all, aI cs 51207 f_m_all), (m_deeds, aI cs 170690 f_m_deeds), (m_trial, aI cs 17069 f_m_trial)] (fun (r : Int32) (u : Unit) => ((r = (-3)) ∧ (¬ x = 0)) ∨ ((r = 0) ∧ (x = 0))) (fun (u : Unit) => []) := by
  refine kMet_i RX9 (by decide) rfl (Nat.le_of_ble_eq_true rfl) ?_
  intro p e s m below meth c ls A Qz H locs hx hb hml hown hin hu hK hsz hA hP hD hS hl hz
  subst hsz
  have hl : lv_has ls 7 [(0, .ref md), (1, .int x)] := hl
  refine lv_aload_n hx hb dX9_batch_0 rfl (lv_at hl 0 rfl) ?_
  refine lv_iconst (v := 0) hx hb dX9_batch_1 (by decide) ?_
  refine va_put (D := D) (ci := 9) (v := .int 0) (ty := tyX9 0) (C := RX9) (T := TX9) (N := 25) hx hb hu in_X9 tyX9 tyX9_ok nmX9 hown hK.1 hP hD hS 0 rfl rfl 0 (by decide) (hu _ u_1080) (fun _ h9 => h9) rfl (tyX9_ok 0 (by decide)) rfl rfl (Nat.le_of_ble_eq_true rfl) dX9_batch_2 (fun H locs hP hD hS => ?_)
  have hP : va_P D vwCl [(md, .inr (9, [.int 0, .ref m_all, .ref m_deeds, .ref m_trial, .int 0, .ref m_hasImage, .ref m_tape, .ref m_key, .ref m_answered, .int 0, .int 0, .int 0, .ref m_goes, .int 0, .ref m_hotOnes, .ref m_indexed, .ref m_isChanged, .int 0, .ref m_valueNow, .int 0, .int (-1), .int 0, .ref m_didSome, .ref m_sizes, .ref m_ends])), (m_all, aI cs 51207 f_m_all), (m_deeds, aI cs 170690 f_m_deeds), (m_trial, aI cs 17069 f_m_trial)] H := hP
  have hD : va_D A [(md, .inr (9, [.int 0, .ref m_all, .ref m_deeds, .ref m_trial, .int 0, .ref m_hasImage, .ref m_tape, .ref m_key, .ref m_answered, .int 0, .int 0, .int 0, .ref m_goes, .int 0, .ref m_hotOnes, .ref m_indexed, .ref m_isChanged, .int 0, .ref m_valueNow, .int 0, .int (-1), .int 0, .ref m_didSome, .ref m_sizes, .ref m_ends])), (m_all, aI cs 51207 f_m_all), (m_deeds, aI cs 170690 f_m_deeds), (m_trial, aI cs 17069 f_m_trial)] := hD
  refine lv_iload_n hx hb dX9_batch_5 rfl (lv_at hl 1 rfl) ?_
  refine lv_i2l (v := x.toInt64) hx hb dX9_batch_6 rfl ?_
  refine lv_lconst (v := 0) hx hb dX9_batch_7 (by decide) ?_
  refine lv_aload_n hx hb dX9_batch_8 rfl (lv_at hl 0 rfl) ?_
  refine va_get (D := D) (ci := 9) (v := .int 0) (C := RX9) (T := TX9) (N := 25) hx hb hu in_X9 hown hK.1 hP 0 rfl rfl 9 (by decide) (hu _ u_1089) (fun _ h9 => h9) rfl dX9_batch_9 ?_
  refine lv_i2l (v := 0) hx hb dX9_batch_12 (by decide) ?_
  refine kS_i  (As := [.long x.toInt64, .long 0, .long 0]) (rest := []) (wc := []) (wr := [(md, .inr (9, [.int 0, .ref m_all, .ref m_deeds, .ref m_trial, .int 0, .ref m_hasImage, .ref m_tape, .ref m_key, .ref m_answered, .int 0, .int 0, .int 0, .ref m_goes, .int 0, .ref m_hotOnes, .ref m_indexed, .ref m_isChanged, .int 0, .ref m_valueNow, .int 0, .int (-1), .int 0, .ref m_didSome, .ref m_sizes, .ref m_ends])), (m_all, aI cs 51207 f_m_all), (m_deeds, aI cs 170690 f_m_deeds), (m_trial, aI cs 17069 f_m_trial)]) hx hb hml hown hu hK hP hD hS hA hl.1 (c_X9_within l D cs H.size x.toInt64 0 0) (gS u_1164 u_1165 u_76 u_1166) hd_X9_within ⟨(Nat.le_of_ble_eq_true rfl), (Nat.le_of_ble_eq_true rfl)⟩ [] [0, 1, 2, 3] rfl rfl rfl rfl (by decide) rfl rfl (Nat.le_of_ble_eq_true rfl) dX9_batch_13 ⟨(Nat.le_of_ble_eq_true rfl), (Nat.le_of_ble_eq_true rfl)⟩ (fun r_1 ut_2 H locs hw_3 hP hD hS => ?_)
  have hP : va_P D vwCl [(md, .inr (9, [.int 0, .ref m_all, .ref m_deeds, .ref m_trial, .int 0, .ref m_hasImage, .ref m_tape, .ref m_key, .ref m_answered, .int 0, .int 0, .int 0, .ref m_goes, .int 0, .ref m_hotOnes, .ref m_indexed, .ref m_isChanged, .int 0, .ref m_valueNow, .int 0, .int (-1), .int 0, .ref m_didSome, .ref m_sizes, .ref m_ends])), (m_all, aI cs 51207 f_m_all), (m_deeds, aI cs 170690 f_m_deeds), (m_trial, aI cs 17069 f_m_trial)] H := hP
  have hD : va_D A [(md, .inr (9, [.int 0, .ref m_all, .ref m_deeds, .ref m_trial, .int 0, .ref m_hasImage, .ref m_tape, .ref m_key, .ref m_answered, .int 0, .int 0, .int 0, .ref m_goes, .int 0, .ref m_hotOnes, .ref m_indexed, .ref m_isChanged, .int 0, .ref m_valueNow, .int 0, .int (-1), .int 0, .ref m_didSome, .ref m_sizes, .ref m_ends])), (m_all, aI cs 51207 f_m_all), (m_deeds, aI cs 170690 f_m_deeds), (m_trial, aI cs 17069 f_m_trial)] := hD
  rcases hw_3 with hw_3 | hw_3
  · obtain ⟨er_4, hf_5⟩ := hw_3
    have hf_6 : 0 ≤ x ∧ x ≤ 0 := ⟨(w_le (d := 0) (x := x) (by decide)).mp hf_5.1, (w_ge (d := 0) (x := x) (by decide)).mp hf_5.2⟩
    subst er_4
    refine lv_if_ne (tgt := 22) hx hb dX9_batch_16 (by decide) (fun c_7 => ?_) (fun c_7 => absurd c_7 (by decide))
    obtain rfl : x = 0 := by grind
    refine lv_aload_n hx hb dX9_batch_22 rfl (lv_at hl 0 rfl) ?_
    refine lv_iconst (v := 0) hx hb dX9_batch_23 (by decide) ?_
    refine va_put (D := D) (ci := 9) (v := .int 0) (ty := tyX9 9) (C := RX9) (T := TX9) (N := 25) hx hb hu in_X9 tyX9 tyX9_ok nmX9 hown hK.1 hP hD hS 0 rfl rfl 9 (by decide) (hu _ u_1089) (fun _ h9 => h9) rfl (tyX9_ok 9 (by decide)) rfl rfl (Nat.le_of_ble_eq_true rfl) dX9_batch_24 (fun H locs hP hD hS => ?_)
    have hP : va_P D vwCl [(md, .inr (9, [.int 0, .ref m_all, .ref m_deeds, .ref m_trial, .int 0, .ref m_hasImage, .ref m_tape, .ref m_key, .ref m_answered, .int 0, .int 0, .int 0, .ref m_goes, .int 0, .ref m_hotOnes, .ref m_indexed, .ref m_isChanged, .int 0, .ref m_valueNow, .int 0, .int (-1), .int 0, .ref m_didSome, .ref m_sizes, .ref m_ends])), (m_all, aI cs 51207 f_m_all), (m_deeds, aI cs 170690 f_m_deeds), (m_trial, aI cs 17069 f_m_trial)] H := hP
    have hD : va_D A [(md, .inr (9, [.int 0, .ref m_all, .ref m_deeds, .ref m_trial, .int 0, .ref m_hasImage, .ref m_tape, .ref m_key, .ref m_answered, .int 0, .int 0, .int 0, .ref m_goes, .int 0, .ref m_hotOnes, .ref m_indexed, .ref m_isChanged, .int 0, .ref m_valueNow, .int 0, .int (-1), .int 0, .ref m_didSome, .ref m_sizes, .ref m_ends])), (m_all, aI cs 51207 f_m_all), (m_deeds, aI cs 170690 f_m_deeds), (m_trial, aI cs 17069 f_m_trial)] := hD
    refine lv_aload_n hx hb dX9_batch_27 rfl (lv_at hl 0 rfl) ?_
    refine lv_iconst (v := 0) hx hb dX9_batch_28 (by decide) ?_
    refine va_put (D := D) (ci := 9) (v := .int 0) (ty := tyX9 19) (C := RX9) (T := TX9) (N := 25) hx hb hu in_X9 tyX9 tyX9_ok nmX9 hown hK.1 hP hD hS 0 rfl rfl 19 (by decide) (hu _ u_1099) (fun _ h9 => h9) rfl (tyX9_ok 19 (by decide)) rfl rfl (Nat.le_of_ble_eq_true rfl) dX9_batch_29 (fun H locs hP hD hS => ?_)
    have hP : va_P D vwCl [(md, .inr (9, [.int 0, .ref m_all, .ref m_deeds, .ref m_trial, .int 0, .ref m_hasImage, .ref m_tape, .ref m_key, .ref m_answered, .int 0, .int 0, .int 0, .ref m_goes, .int 0, .ref m_hotOnes, .ref m_indexed, .ref m_isChanged, .int 0, .ref m_valueNow, .int 0, .int (-1), .int 0, .ref m_didSome, .ref m_sizes, .ref m_ends])), (m_all, aI cs 51207 f_m_all), (m_deeds, aI cs 170690 f_m_deeds), (m_trial, aI cs 17069 f_m_trial)] H := hP
    have hD : va_D A [(md, .inr (9, [.int 0, .ref m_all, .ref m_deeds, .ref m_trial, .int 0, .ref m_hasImage, .ref m_tape, .ref m_key, .ref m_answered, .int 0, .int 0, .int 0, .ref m_goes, .int 0, .ref m_hotOnes, .ref m_indexed, .ref m_isChanged, .int 0, .ref m_valueNow, .int 0, .int (-1), .int 0, .ref m_didSome, .ref m_sizes, .ref m_ends])), (m_all, aI cs 51207 f_m_all), (m_deeds, aI cs 170690 f_m_deeds), (m_trial, aI cs 17069 f_m_trial)] := hD
    refine lv_aload_n hx hb dX9_batch_32 rfl (lv_at hl 0 rfl) ?_
    refine lv_iconst (v := (-1)) hx hb dX9_batch_33 (by decide) ?_
    refine va_put (D := D) (ci := 9) (v := .int (-1)) (ty := tyX9 20) (C := RX9) (T := TX9) (N := 25) hx hb hu in_X9 tyX9 tyX9_ok nmX9 hown hK.1 hP hD hS 0 rfl rfl 20 (by decide) (hu _ u_1100) (fun _ h9 => h9) rfl (tyX9_ok 20 (by decide)) rfl rfl (Nat.le_of_ble_eq_true rfl) dX9_batch_34 (fun H locs hP hD hS => ?_)
    have hP : va_P D vwCl [(md, .inr (9, [.int 0, .ref m_all, .ref m_deeds, .ref m_trial, .int 0, .ref m_hasImage, .ref m_tape, .ref m_key, .ref m_answered, .int 0, .int 0, .int 0, .ref m_goes, .int 0, .ref m_hotOnes, .ref m_indexed, .ref m_isChanged, .int 0, .ref m_valueNow, .int 0, .int (-1), .int 0, .ref m_didSome, .ref m_sizes, .ref m_ends])), (m_all, aI cs 51207 f_m_all), (m_deeds, aI cs 170690 f_m_deeds), (m_trial, aI cs 17069 f_m_trial)] H := hP
    have hD : va_D A [(md, .inr (9, [.int 0, .ref m_all, .ref m_deeds, .ref m_trial, .int 0, .ref m_hasImage, .ref m_tape, .ref m_key, .ref m_answered, .int 0, .int 0, .int 0, .ref m_goes, .int 0, .ref m_hotOnes, .ref m_indexed, .ref m_isChanged, .int 0, .ref m_valueNow, .int 0, .int (-1), .int 0, .ref m_didSome, .ref m_sizes, .ref m_ends])), (m_all, aI cs 51207 f_m_all), (m_deeds, aI cs 170690 f_m_deeds), (m_trial, aI cs 17069 f_m_trial)] := hD
    refine lv_iconst (v := 0) hx hb dX9_batch_37 (by decide) ?_
    refine lv_istore_n (lv' := [(2, .int 0), (0, .ref md), (1, .int 0)]) hx hb dX9_batch_38 rfl hl (by decide) rfl (fun ls hl => ?_)
    refine lv_iload_n hx hb dX9_batch_39 rfl (lv_at hl 0 rfl) ?_
    refine lv_iload_n hx hb dX9_batch_40 rfl (lv_at hl 2 rfl) ?_
    refine lv_icmp_ge (tgt := 61) hx hb dX9_batch_41 (by decide) (fun c_8 => ?_) (fun c_8 => absurd (by decide) c_8)
    refine lv_aload_n hx hb dX9_batch_61 rfl (lv_at hl 1 rfl) ?_
    refine va_get (D := D) (ci := 9) (v := .int 0) (C := RX9) (T := TX9) (N := 25) hx hb hu in_X9 hown hK.1 hP 0 rfl rfl 19 (by decide) (hu _ u_1099) (fun _ h9 => h9) rfl dX9_batch_62 ?_
    refine lv_if_eq (tgt := 76) hx hb dX9_batch_65 (by decide) (fun c_9 => ?_) (fun c_9 => absurd (by decide) c_9)
    refine lv_aload_n hx hb dX9_batch_76 rfl (lv_at hl 1 rfl) ?_
    refine kV_v (ci := 9) (As := []) (rest := []) (wc := [(md, .inr (9, [.int 0, .ref m_all, .ref m_deeds, .ref m_trial, .int 0, .ref m_hasImage, .ref m_tape, .ref m_key, .ref m_answered, .int 0, .int 0, .int 0, .ref m_goes, .int 0, .ref m_hotOnes, .ref m_indexed, .ref m_isChanged, .int 0, .ref m_valueNow, .int 0, .int (-1), .int 0, .ref m_didSome, .ref m_sizes, .ref m_ends])), (m_all, aI cs 51207 f_m_all), (m_trial, aI cs 17069 f_m_trial)]) (wr := [(m_deeds, aI cs 170690 f_m_deeds)]) hx hb hml hown hu hK hP hD hS hA hl.1 (c_X9_tries l D cs H.size md m_all f_m_all m_deeds m_trial f_m_trial m_hasImage m_tape m_key m_answered m_goes m_hotOnes m_indexed m_isChanged m_valueNow m_didSome m_sizes m_ends 0 0 0 z_all) (gV u_1176 u_1178 u_10 u_76 u_1179) hd_X9_tries ⟨(Nat.le_of_ble_eq_true rfl), (Nat.le_of_ble_eq_true rfl)⟩ [0, 1, 3] [2] rfl rfl rfl rfl (by decide) rfl 0 rfl rfl rfl (Nat.le_of_ble_eq_true rfl) dX9_batch_77 ⟨(Nat.le_of_ble_eq_true rfl), (Nat.le_of_ble_eq_true rfl)⟩ (fun ut_11 H locs hw_12 hP hD hS => ?_)
    have hP : va_P D vwCl [(m_deeds, aI cs 170690 f_m_deeds), (md, .inr (9, [.int 0, .ref m_all, .ref m_deeds, .ref m_trial, .int 0, .ref m_hasImage, .ref m_tape, .ref m_key, .ref m_answered, .int 0, .int 0, .int 0, .ref m_goes, .int 0, .ref m_hotOnes, .ref m_indexed, .ref m_isChanged, .int 0, .ref m_valueNow, .int 0, .int (-1), .int 0, .ref m_didSome, .ref m_sizes, .ref m_ends])), (m_all, aI cs 51207 f_m_all), (m_trial, aI cs 17069 ut_11)] H := hP
    have hD : va_D A [(m_deeds, aI cs 170690 f_m_deeds), (md, .inr (9, [.int 0, .ref m_all, .ref m_deeds, .ref m_trial, .int 0, .ref m_hasImage, .ref m_tape, .ref m_key, .ref m_answered, .int 0, .int 0, .int 0, .ref m_goes, .int 0, .ref m_hotOnes, .ref m_indexed, .ref m_isChanged, .int 0, .ref m_valueNow, .int 0, .int (-1), .int 0, .ref m_didSome, .ref m_sizes, .ref m_ends])), (m_all, aI cs 51207 f_m_all), (m_trial, aI cs 17069 ut_11)] := hD
    obtain ⟨ug_13, rfl⟩ : ∃ z, z = ut_11 := ⟨_, rfl⟩
    have hP : va_P D vwCl [(m_deeds, aI cs 170690 f_m_deeds), (md, .inr (9, [.int 0, .ref m_all, .ref m_deeds, .ref m_trial, .int 0, .ref m_hasImage, .ref m_tape, .ref m_key, .ref m_answered, .int 0, .int 0, .int 0, .ref m_goes, .int 0, .ref m_hotOnes, .ref m_indexed, .ref m_isChanged, .int 0, .ref m_valueNow, .int 0, .int (-1), .int 0, .ref m_didSome, .ref m_sizes, .ref m_ends])), (m_all, aI cs 51207 f_m_all), (m_trial, aI cs 17069 ug_13)] H := hP
    have hD : va_D A [(m_deeds, aI cs 170690 f_m_deeds), (md, .inr (9, [.int 0, .ref m_all, .ref m_deeds, .ref m_trial, .int 0, .ref m_hasImage, .ref m_tape, .ref m_key, .ref m_answered, .int 0, .int 0, .int 0, .ref m_goes, .int 0, .ref m_hotOnes, .ref m_indexed, .ref m_isChanged, .int 0, .ref m_valueNow, .int 0, .int (-1), .int 0, .ref m_didSome, .ref m_sizes, .ref m_ends])), (m_all, aI cs 51207 f_m_all), (m_trial, aI cs 17069 ug_13)] := hD
    try dsimp only at hw_12
    refine lv_aload_n hx hb dX9_batch_80 rfl (lv_at hl 1 rfl) ?_
    refine lv_iconst (v := 0) hx hb dX9_batch_81 (by decide) ?_
    refine va_put (D := D) (ci := 9) (v := .int 0) (ty := tyX9 21) (C := RX9) (T := TX9) (N := 25) hx hb hu in_X9 tyX9 tyX9_ok nmX9 hown hK.1 hP hD hS 1 rfl rfl 21 (by decide) (hu _ u_1101) (fun _ h9 => h9) rfl (tyX9_ok 21 (by decide)) rfl rfl (Nat.le_of_ble_eq_true rfl) dX9_batch_82 (fun H locs hP hD hS => ?_)
    have hP : va_P D vwCl [(m_deeds, aI cs 170690 f_m_deeds), (md, .inr (9, [.int 0, .ref m_all, .ref m_deeds, .ref m_trial, .int 0, .ref m_hasImage, .ref m_tape, .ref m_key, .ref m_answered, .int 0, .int 0, .int 0, .ref m_goes, .int 0, .ref m_hotOnes, .ref m_indexed, .ref m_isChanged, .int 0, .ref m_valueNow, .int 0, .int (-1), .int 0, .ref m_didSome, .ref m_sizes, .ref m_ends])), (m_all, aI cs 51207 f_m_all), (m_trial, aI cs 17069 ug_13)] H := hP
    have hD : va_D A [(m_deeds, aI cs 170690 f_m_deeds), (md, .inr (9, [.int 0, .ref m_all, .ref m_deeds, .ref m_trial, .int 0, .ref m_hasImage, .ref m_tape, .ref m_key, .ref m_answered, .int 0, .int 0, .int 0, .ref m_goes, .int 0, .ref m_hotOnes, .ref m_indexed, .ref m_isChanged, .int 0, .ref m_valueNow, .int 0, .int (-1), .int 0, .ref m_didSome, .ref m_sizes, .ref m_ends])), (m_all, aI cs 51207 f_m_all), (m_trial, aI cs 17069 ug_13)] := hD
    refine lv_iconst (v := 0) hx hb dX9_batch_85 (by decide) ?_
    refine lv_istore_n (lv' := [(3, .int 0), (2, .int 0), (0, .ref md), (1, .int 0)]) hx hb dX9_batch_86 rfl hl (by decide) rfl (fun ls hl => ?_)
    refine lv_iload_n hx hb dX9_batch_87 rfl (lv_at hl 0 rfl) ?_
    refine lv_iload_n hx hb dX9_batch_88 rfl (lv_at hl 3 rfl) ?_
    refine lv_icmp_ge (tgt := 120) hx hb dX9_batch_89 (by decide) (fun c_14 => ?_) (fun c_14 => absurd (by decide) c_14)
    refine lv_aload_n hx hb dX9_batch_120 rfl (lv_at hl 2 rfl) ?_
    refine kV_v (ci := 9) (As := []) (rest := []) (wc := [(md, .inr (9, [.int 0, .ref m_all, .ref m_deeds, .ref m_trial, .int 0, .ref m_hasImage, .ref m_tape, .ref m_key, .ref m_answered, .int 0, .int 0, .int 0, .ref m_goes, .int 0, .ref m_hotOnes, .ref m_indexed, .ref m_isChanged, .int 0, .ref m_valueNow, .int 0, .int (-1), .int 0, .ref m_didSome, .ref m_sizes, .ref m_ends])), (m_deeds, aI cs 170690 f_m_deeds), (m_trial, aI cs 17069 ug_13)]) (wr := [(m_all, aI cs 51207 f_m_all)]) hx hb hml hown hu hK hP hD hS hA hl.1 (c_X9_notesTrial l D cs H.size md m_all m_deeds f_m_deeds m_trial ug_13 m_hasImage m_tape m_key m_answered m_goes m_hotOnes m_indexed m_isChanged m_valueNow m_didSome m_sizes m_ends 0 0) (gV u_1224 u_1226 u_22 u_76 u_1227) hd_X9_notesTrial ⟨(Nat.le_of_ble_eq_true rfl), (Nat.le_of_ble_eq_true rfl)⟩ [1, 0, 3] [2] rfl rfl rfl rfl (by decide) rfl 0 rfl rfl rfl (Nat.le_of_ble_eq_true rfl) dX9_batch_121 ⟨(Nat.le_of_ble_eq_true rfl), (Nat.le_of_ble_eq_true rfl)⟩ (fun ut_16 H locs hw_17 hP hD hS => ?_)
    have hP : va_P D vwCl [(m_all, aI cs 51207 f_m_all), (md, .inr (9, [.int 0, .ref m_all, .ref m_deeds, .ref m_trial, .int 1, .ref m_hasImage, .ref m_tape, .ref m_key, .ref m_answered, .int 0, .int 0, .int 0, .ref m_goes, .int 0, .ref m_hotOnes, .ref m_indexed, .ref m_isChanged, .int 0, .ref m_valueNow, .int 0, .int (-1), .int 0, .ref m_didSome, .ref m_sizes, .ref m_ends]))] H := hP
    have hD : va_D A [(m_all, aI cs 51207 f_m_all), (md, .inr (9, [.int 0, .ref m_all, .ref m_deeds, .ref m_trial, .int 1, .ref m_hasImage, .ref m_tape, .ref m_key, .ref m_answered, .int 0, .int 0, .int 0, .ref m_goes, .int 0, .ref m_hotOnes, .ref m_indexed, .ref m_isChanged, .int 0, .ref m_valueNow, .int 0, .int (-1), .int 0, .ref m_didSome, .ref m_sizes, .ref m_ends]))] := hD
    refine lv_iconst (v := 0) hx hb dX9_batch_124 (by decide) ?_
    refine lv_istore_n (lv' := [(3, .int 0), (2, .int 0), (0, .ref md), (1, .int 0)]) hx hb dX9_batch_125 rfl hl (by decide) rfl (fun ls hl => ?_)
    refine lv_iconst (v := 0) hx hb dX9_batch_126 (by decide) ?_
    refine lv_istore (lv' := [(4, .int 0), (3, .int 0), (2, .int 0), (0, .ref md), (1, .int 0)]) hx hb dX9_batch_127 hl (by decide) rfl (fun ls hl => ?_)
    refine lv_iconst (v := 0) hx hb dX9_batch_129 (by decide) ?_
    refine lv_istore (lv' := [(5, .int 0), (4, .int 0), (3, .int 0), (2, .int 0), (0, .ref md), (1, .int 0)]) hx hb dX9_batch_130 hl (by decide) rfl (fun ls hl => ?_)
    refine lv_iload hx hb dX9_batch_132 (lv_at hl 0 rfl) ?_
    refine lv_iload_n hx hb dX9_batch_134 rfl (lv_at hl 5 rfl) ?_
    refine lv_icmp_ge (tgt := 210) hx hb dX9_batch_135 (by decide) (fun c_18 => ?_) (fun c_18 => absurd (by decide) c_18)
    refine lv_iload_n hx hb dX9_batch_210 rfl (lv_at hl 2 rfl) ?_
    exact hz () hP hD hS (by grind) [] rfl rfl (Nat.le_of_ble_eq_true rfl) (Nat.le_of_ble_eq_true rfl) .int rfl rfl dX9_batch_211
  · obtain ⟨er_19, hf_20⟩ := hw_3
    have hf_21 : ¬ (0 ≤ x ∧ x ≤ 0) := fun h => hf_20 ⟨(w_le (d := 0) (x := x) (by decide)).mpr h.1, (w_ge (d := 0) (x := x) (by decide)).mpr h.2⟩
    subst er_19
    refine lv_if_ne (tgt := 22) hx hb dX9_batch_16 (by decide) (fun c_22 => absurd (by decide) c_22) (fun c_22 => ?_)
    refine lv_bipush (v := (-3)) hx hb dX9_batch_19 (by decide) ?_
    exact hz () hP hD hS (by grind) [] rfl rfl (Nat.le_of_ble_eq_true rfl) (Nat.le_of_ble_eq_true rfl) .int rfl rfl dX9_batch_21
abbrev rm_c_X9_fault : Room := { frames := 0, cells := 0, slots := 0, locals := 0 }
set_option maxHeartbeats 4000000 in
set_option maxRecDepth 100000 in
theorem c_X9_fault (l : Launch) (D : va_G) (cs : Nat → ClassId) (sz : Nat) (x : Int32) (md : Nat) (m_all : Nat) (m_deeds : Nat) (m_trial : Nat) (m_hasImage : Nat) (m_tape : Nat) (m_key : Nat) (m_answered : Nat) (m_goes : Nat) (m_hotOnes : Nat) (m_indexed : Nat) (m_isChanged : Nat) (m_valueNow : Nat) (m_didSome : Nat) (m_sizes : Nat) (m_ends : Nat)  : cMi l yX9_fault (Cond.code yX9_fault cX9_fault 2 (some .int)) (rm_c_X9_fault) D cs [.ref md, .int x] sz [(md, .inr (9, [.int 0, .ref m_all, .ref m_deeds, .ref m_trial, .int 0, .ref m_hasImage, .ref m_tape, .ref m_key, .ref m_answered, .int 0, .int 0, .int 0, .ref m_goes, .int 0, .ref m_hotOnes, .ref m_indexed, .ref m_isChanged, .int 0, .ref m_valueNow, .int 0, .int (-1), .int 0, .ref m_didSome, .ref m_sizes, .ref m_ends]))] (fun (r : Int32) (u : Unit) => ((r = 0) ∧ (x = 0)) ∨ ((r = (-1)) ∧ (¬ x = 0))) (fun (u : Unit) => []) := by
  refine kMet_i RX9 (by decide) rfl (Nat.le_of_ble_eq_true rfl) ?_
  intro p e s m below meth c ls A Qz H locs hx hb hml hown hin hu hK hsz hA hP hD hS hl hz
  subst hsz
  have hl : lv_has ls 2 [(0, .ref md), (1, .int x)] := hl
  refine lv_aload_n hx hb dX9_fault_0 rfl (lv_at hl 0 rfl) ?_
  refine lv_iconst (v := 0) hx hb dX9_fault_1 (by decide) ?_
  refine va_put (D := D) (ci := 9) (v := .int 0) (ty := tyX9 0) (C := RX9) (T := TX9) (N := 25) hx hb hu in_X9 tyX9 tyX9_ok nmX9 hown hK.1 hP hD hS 0 rfl rfl 0 (by decide) (hu _ u_1080) (fun _ h9 => h9) rfl (tyX9_ok 0 (by decide)) rfl rfl (Nat.le_of_ble_eq_true rfl) dX9_fault_2 (fun H locs hP hD hS => ?_)
  have hP : va_P D vwCl [(md, .inr (9, [.int 0, .ref m_all, .ref m_deeds, .ref m_trial, .int 0, .ref m_hasImage, .ref m_tape, .ref m_key, .ref m_answered, .int 0, .int 0, .int 0, .ref m_goes, .int 0, .ref m_hotOnes, .ref m_indexed, .ref m_isChanged, .int 0, .ref m_valueNow, .int 0, .int (-1), .int 0, .ref m_didSome, .ref m_sizes, .ref m_ends]))] H := hP
  have hD : va_D A [(md, .inr (9, [.int 0, .ref m_all, .ref m_deeds, .ref m_trial, .int 0, .ref m_hasImage, .ref m_tape, .ref m_key, .ref m_answered, .int 0, .int 0, .int 0, .ref m_goes, .int 0, .ref m_hotOnes, .ref m_indexed, .ref m_isChanged, .int 0, .ref m_valueNow, .int 0, .int (-1), .int 0, .ref m_didSome, .ref m_sizes, .ref m_ends]))] := hD
  refine lv_iload_n hx hb dX9_fault_5 rfl (lv_at hl 1 rfl) ?_
  refine lv_if_ne (tgt := 16) hx hb dX9_fault_6 (by decide) (fun c_1 => ?_) (fun c_1 => ?_)
  · refine lv_iload_n hx hb dX9_fault_16 rfl (lv_at hl 1 rfl) ?_
    refine lv_iconst (v := 1) hx hb dX9_fault_17 (by decide) ?_
    refine lv_icmp_ne (tgt := 28) hx hb dX9_fault_18 (by decide) (fun c_2 => ?_) (fun c_2 => ?_)
    · refine lv_iconst (v := (-1)) hx hb dX9_fault_28 (by decide) ?_
      exact hz () hP hD hS (by grind) [] rfl rfl (Nat.le_of_ble_eq_true rfl) (Nat.le_of_ble_eq_true rfl) .int rfl rfl dX9_fault_29
    · refine lv_aload_n hx hb dX9_fault_21 rfl (lv_at hl 0 rfl) ?_
      refine va_get (D := D) (ci := 9) (v := .int (-1)) (C := RX9) (T := TX9) (N := 25) hx hb hu in_X9 hown hK.1 hP 0 rfl rfl 20 (by decide) (hu _ u_1100) (fun _ h9 => h9) rfl dX9_fault_22 ?_
      refine lv_goto (tgt := 29) hx hb dX9_fault_25 (by decide) ?_
      exact hz () hP hD hS (by grind) [] rfl rfl (Nat.le_of_ble_eq_true rfl) (Nat.le_of_ble_eq_true rfl) .int rfl rfl dX9_fault_29
  · refine lv_aload_n hx hb dX9_fault_9 rfl (lv_at hl 0 rfl) ?_
    refine va_get (D := D) (ci := 9) (v := .int 0) (C := RX9) (T := TX9) (N := 25) hx hb hu in_X9 hown hK.1 hP 0 rfl rfl 19 (by decide) (hu _ u_1099) (fun _ h9 => h9) rfl dX9_fault_10 ?_
    refine lv_goto (tgt := 29) hx hb dX9_fault_13 (by decide) ?_
    exact hz () hP hD hS (by grind) [] rfl rfl (Nat.le_of_ble_eq_true rfl) (Nat.le_of_ble_eq_true rfl) .int rfl rfl dX9_fault_29
abbrev rm_c_X9_seek : Room := { frames := 2, cells := 0, slots := 0, locals := 46 }
set_option maxHeartbeats 4000000 in
set_option maxRecDepth 100000 in
theorem c_X9_seek (l : Launch) (D : va_G) (cs : Nat → ClassId) (sz : Nat) (x : Int32) (md : Nat) (m_all : Nat) (m_deeds : Nat) (m_trial : Nat) (m_hasImage : Nat) (m_tape : Nat) (m_key : Nat) (m_answered : Nat) (m_goes : Nat) (m_hotOnes : Nat) (m_indexed : Nat) (m_isChanged : Nat) (m_valueNow : Nat) (m_didSome : Nat) (m_sizes : Nat) (m_ends : Nat)  : cMi l yX9_seek (Cond.code yX9_seek cX9_seek 4 (some .int)) (rm_c_X9_seek) D cs [.ref md, .int x] sz [(md, .inr (9, [.int 0, .ref m_all, .ref m_deeds, .ref m_trial, .int 0, .ref m_hasImage, .ref m_tape, .ref m_key, .ref m_answered, .int 0, .int 0, .int 0, .ref m_goes, .int 0, .ref m_hotOnes, .ref m_indexed, .ref m_isChanged, .int 0, .ref m_valueNow, .int 0, .int (-1), .int 0, .ref m_didSome, .ref m_sizes, .ref m_ends]))] (fun (r : Int32) (u : Unit) => (r = (-3))) (fun (u : Unit) => []) := by
  refine kMet_i RX9 (by decide) rfl (Nat.le_of_ble_eq_true rfl) ?_
  intro p e s m below meth c ls A Qz H locs hx hb hml hown hin hu hK hsz hA hP hD hS hl hz
  subst hsz
  have hl : lv_has ls 4 [(0, .ref md), (1, .int x)] := hl
  refine lv_aload_n hx hb dX9_seek_0 rfl (lv_at hl 0 rfl) ?_
  refine lv_iconst (v := 0) hx hb dX9_seek_1 (by decide) ?_
  refine va_put (D := D) (ci := 9) (v := .int 0) (ty := tyX9 0) (C := RX9) (T := TX9) (N := 25) hx hb hu in_X9 tyX9 tyX9_ok nmX9 hown hK.1 hP hD hS 0 rfl rfl 0 (by decide) (hu _ u_1080) (fun _ h9 => h9) rfl (tyX9_ok 0 (by decide)) rfl rfl (Nat.le_of_ble_eq_true rfl) dX9_seek_2 (fun H locs hP hD hS => ?_)
  have hP : va_P D vwCl [(md, .inr (9, [.int 0, .ref m_all, .ref m_deeds, .ref m_trial, .int 0, .ref m_hasImage, .ref m_tape, .ref m_key, .ref m_answered, .int 0, .int 0, .int 0, .ref m_goes, .int 0, .ref m_hotOnes, .ref m_indexed, .ref m_isChanged, .int 0, .ref m_valueNow, .int 0, .int (-1), .int 0, .ref m_didSome, .ref m_sizes, .ref m_ends]))] H := hP
  have hD : va_D A [(md, .inr (9, [.int 0, .ref m_all, .ref m_deeds, .ref m_trial, .int 0, .ref m_hasImage, .ref m_tape, .ref m_key, .ref m_answered, .int 0, .int 0, .int 0, .ref m_goes, .int 0, .ref m_hotOnes, .ref m_indexed, .ref m_isChanged, .int 0, .ref m_valueNow, .int 0, .int (-1), .int 0, .ref m_didSome, .ref m_sizes, .ref m_ends]))] := hD
  refine lv_aload_n hx hb dX9_seek_5 rfl (lv_at hl 0 rfl) ?_
  refine lv_iload_n hx hb dX9_seek_6 rfl (lv_at hl 1 rfl) ?_
  refine kV_i (ci := 9) (As := [.int x]) (rest := []) (wc := [(md, .inr (9, [.int 0, .ref m_all, .ref m_deeds, .ref m_trial, .int 0, .ref m_hasImage, .ref m_tape, .ref m_key, .ref m_answered, .int 0, .int 0, .int 0, .ref m_goes, .int 0, .ref m_hotOnes, .ref m_indexed, .ref m_isChanged, .int 0, .ref m_valueNow, .int 0, .int (-1), .int 0, .ref m_didSome, .ref m_sizes, .ref m_ends]))]) (wr := []) hx hb hml hown hu hK hP hD hS hA hl.1 (c_X9_isKey l D cs H.size x md m_all m_deeds m_trial m_hasImage m_tape m_key m_answered m_goes m_hotOnes m_indexed m_isChanged m_valueNow m_didSome m_sizes m_ends 0 0 0) (gV u_1303 u_1305 u_39 u_76 u_1306) hd_X9_isKey ⟨(Nat.le_of_ble_eq_true rfl), (Nat.le_of_ble_eq_true rfl)⟩ [0] [] rfl rfl rfl rfl (by decide) rfl 0 rfl rfl rfl (Nat.le_of_ble_eq_true rfl) dX9_seek_7 ⟨(Nat.le_of_ble_eq_true rfl), (Nat.le_of_ble_eq_true rfl)⟩ (fun r_1 ut_2 H locs hw_3 hP hD hS => ?_)
  have hP : va_P D vwCl [(md, .inr (9, [.int 0, .ref m_all, .ref m_deeds, .ref m_trial, .int 0, .ref m_hasImage, .ref m_tape, .ref m_key, .ref m_answered, .int 0, .int 0, .int 0, .ref m_goes, .int 0, .ref m_hotOnes, .ref m_indexed, .ref m_isChanged, .int 0, .ref m_valueNow, .int 0, .int (-1), .int 0, .ref m_didSome, .ref m_sizes, .ref m_ends]))] H := hP
  have hD : va_D A [(md, .inr (9, [.int 0, .ref m_all, .ref m_deeds, .ref m_trial, .int 0, .ref m_hasImage, .ref m_tape, .ref m_key, .ref m_answered, .int 0, .int 0, .int 0, .ref m_goes, .int 0, .ref m_hotOnes, .ref m_indexed, .ref m_isChanged, .int 0, .ref m_valueNow, .int 0, .int (-1), .int 0, .ref m_didSome, .ref m_sizes, .ref m_ends]))] := hD
  have er_4 := hw_3
  subst er_4
  refine lv_if_ne (tgt := 16) hx hb dX9_seek_10 (by decide) (fun c_5 => absurd (by decide) c_5) (fun c_5 => ?_)
  refine lv_bipush (v := (-3)) hx hb dX9_seek_13 (by decide) ?_
  exact hz () hP hD hS rfl [] rfl rfl (Nat.le_of_ble_eq_true rfl) (Nat.le_of_ble_eq_true rfl) .int rfl rfl dX9_seek_15
abbrev rm_c_X9_between : Room := { frames := 1, cells := 0, slots := 0, locals := 25 }
set_option maxHeartbeats 4000000 in
set_option maxRecDepth 100000 in
theorem c_X9_between (l : Launch) (D : va_G) (cs : Nat → ClassId) (sz : Nat) (x : Int32) (y : Int32) (md : Nat) (m_all : Nat) (m_deeds : Nat) (m_trial : Nat) (m_hasImage : Nat) (m_tape : Nat) (m_key : Nat) (m_answered : Nat) (m_goes : Nat) (m_hotOnes : Nat) (m_indexed : Nat) (m_isChanged : Nat) (m_valueNow : Nat) (m_didSome : Nat) (m_sizes : Nat) (m_ends : Nat)  : cMi l yX9_between (Cond.code yX9_between cX9_between 7 (some .int)) (rm_c_X9_between) D cs [.ref md, .int x, .int y] sz [(md, .inr (9, [.int 0, .ref m_all, .ref m_deeds, .ref m_trial, .int 0, .ref m_hasImage, .ref m_tape, .ref m_key, .ref m_answered, .int 0, .int 0, .int 0, .ref m_goes, .int 0, .ref m_hotOnes, .ref m_indexed, .ref m_isChanged, .int 0, .ref m_valueNow, .int 0, .int (-1), .int 0, .ref m_didSome, .ref m_sizes, .ref m_ends]))] (fun (r : Int32) (u : Unit) => (r = (-3))) (fun (u : Unit) => []) := by
  refine kMet_i RX9 (by decide) rfl (Nat.le_of_ble_eq_true rfl) ?_
  intro p e s m below meth c ls A Qz H locs hx hb hml hown hin hu hK hsz hA hP hD hS hl hz
  subst hsz
  have hl : lv_has ls 7 [(0, .ref md), (1, .int x), (2, .int y)] := hl
  refine lv_aload_n hx hb dX9_between_0 rfl (lv_at hl 0 rfl) ?_
  refine lv_iconst (v := 0) hx hb dX9_between_1 (by decide) ?_
  refine va_put (D := D) (ci := 9) (v := .int 0) (ty := tyX9 0) (C := RX9) (T := TX9) (N := 25) hx hb hu in_X9 tyX9 tyX9_ok nmX9 hown hK.1 hP hD hS 0 rfl rfl 0 (by decide) (hu _ u_1080) (fun _ h9 => h9) rfl (tyX9_ok 0 (by decide)) rfl rfl (Nat.le_of_ble_eq_true rfl) dX9_between_2 (fun H locs hP hD hS => ?_)
  have hP : va_P D vwCl [(md, .inr (9, [.int 0, .ref m_all, .ref m_deeds, .ref m_trial, .int 0, .ref m_hasImage, .ref m_tape, .ref m_key, .ref m_answered, .int 0, .int 0, .int 0, .ref m_goes, .int 0, .ref m_hotOnes, .ref m_indexed, .ref m_isChanged, .int 0, .ref m_valueNow, .int 0, .int (-1), .int 0, .ref m_didSome, .ref m_sizes, .ref m_ends]))] H := hP
  have hD : va_D A [(md, .inr (9, [.int 0, .ref m_all, .ref m_deeds, .ref m_trial, .int 0, .ref m_hasImage, .ref m_tape, .ref m_key, .ref m_answered, .int 0, .int 0, .int 0, .ref m_goes, .int 0, .ref m_hotOnes, .ref m_indexed, .ref m_isChanged, .int 0, .ref m_valueNow, .int 0, .int (-1), .int 0, .ref m_didSome, .ref m_sizes, .ref m_ends]))] := hD
  refine lv_iload_n hx hb dX9_between_5 rfl (lv_at hl 1 rfl) ?_
  refine lv_i2l (v := x.toInt64) hx hb dX9_between_6 rfl ?_
  refine lv_lconst (v := 1) hx hb dX9_between_7 (by decide) ?_
  refine lv_ldc2 (v := 8) hx hb hown (hu _ u_1171) dX9_between_8 ?_
  refine kS_i  (As := [.long x.toInt64, .long 1, .long 8]) (rest := []) (wc := []) (wr := [(md, .inr (9, [.int 0, .ref m_all, .ref m_deeds, .ref m_trial, .int 0, .ref m_hasImage, .ref m_tape, .ref m_key, .ref m_answered, .int 0, .int 0, .int 0, .ref m_goes, .int 0, .ref m_hotOnes, .ref m_indexed, .ref m_isChanged, .int 0, .ref m_valueNow, .int 0, .int (-1), .int 0, .ref m_didSome, .ref m_sizes, .ref m_ends]))]) hx hb hml hown hu hK hP hD hS hA hl.1 (c_X9_within l D cs H.size x.toInt64 1 8) (gS u_1164 u_1165 u_76 u_1166) hd_X9_within ⟨(Nat.le_of_ble_eq_true rfl), (Nat.le_of_ble_eq_true rfl)⟩ [] [0] rfl rfl rfl rfl (by decide) rfl rfl (Nat.le_of_ble_eq_true rfl) dX9_between_11 ⟨(Nat.le_of_ble_eq_true rfl), (Nat.le_of_ble_eq_true rfl)⟩ (fun r_1 ut_2 H locs hw_3 hP hD hS => ?_)
  have hP : va_P D vwCl [(md, .inr (9, [.int 0, .ref m_all, .ref m_deeds, .ref m_trial, .int 0, .ref m_hasImage, .ref m_tape, .ref m_key, .ref m_answered, .int 0, .int 0, .int 0, .ref m_goes, .int 0, .ref m_hotOnes, .ref m_indexed, .ref m_isChanged, .int 0, .ref m_valueNow, .int 0, .int (-1), .int 0, .ref m_didSome, .ref m_sizes, .ref m_ends]))] H := hP
  have hD : va_D A [(md, .inr (9, [.int 0, .ref m_all, .ref m_deeds, .ref m_trial, .int 0, .ref m_hasImage, .ref m_tape, .ref m_key, .ref m_answered, .int 0, .int 0, .int 0, .ref m_goes, .int 0, .ref m_hotOnes, .ref m_indexed, .ref m_isChanged, .int 0, .ref m_valueNow, .int 0, .int (-1), .int 0, .ref m_didSome, .ref m_sizes, .ref m_ends]))] := hD
  rcases hw_3 with hw_3 | hw_3
  · obtain ⟨er_4, hf_5⟩ := hw_3
    have hf_6 : 1 ≤ x ∧ x ≤ 8 := ⟨(w_le (d := 1) (x := x) (by decide)).mp hf_5.1, (w_ge (d := 8) (x := x) (by decide)).mp hf_5.2⟩
    subst er_4
    refine lv_if_eq (tgt := 39) hx hb dX9_between_14 (by decide) (fun c_7 => absurd c_7 (by decide)) (fun c_7 => ?_)
    refine lv_iload_n hx hb dX9_between_17 rfl (lv_at hl 2 rfl) ?_
    refine lv_i2l (v := y.toInt64) hx hb dX9_between_18 rfl ?_
    refine lv_lconst (v := 1) hx hb dX9_between_19 (by decide) ?_
    refine lv_ldc2 (v := 8) hx hb hown (hu _ u_1171) dX9_between_20 ?_
    refine kS_i  (As := [.long y.toInt64, .long 1, .long 8]) (rest := []) (wc := []) (wr := [(md, .inr (9, [.int 0, .ref m_all, .ref m_deeds, .ref m_trial, .int 0, .ref m_hasImage, .ref m_tape, .ref m_key, .ref m_answered, .int 0, .int 0, .int 0, .ref m_goes, .int 0, .ref m_hotOnes, .ref m_indexed, .ref m_isChanged, .int 0, .ref m_valueNow, .int 0, .int (-1), .int 0, .ref m_didSome, .ref m_sizes, .ref m_ends]))]) hx hb hml hown hu hK hP hD hS hA hl.1 (c_X9_within l D cs H.size y.toInt64 1 8) (gS u_1164 u_1165 u_76 u_1166) hd_X9_within ⟨(Nat.le_of_ble_eq_true rfl), (Nat.le_of_ble_eq_true rfl)⟩ [] [0] rfl rfl rfl rfl (by decide) rfl rfl (Nat.le_of_ble_eq_true rfl) dX9_between_23 ⟨(Nat.le_of_ble_eq_true rfl), (Nat.le_of_ble_eq_true rfl)⟩ (fun r_8 ut_9 H locs hw_10 hP hD hS => ?_)
    have hP : va_P D vwCl [(md, .inr (9, [.int 0, .ref m_all, .ref m_deeds, .ref m_trial, .int 0, .ref m_hasImage, .ref m_tape, .ref m_key, .ref m_answered, .int 0, .int 0, .int 0, .ref m_goes, .int 0, .ref m_hotOnes, .ref m_indexed, .ref m_isChanged, .int 0, .ref m_valueNow, .int 0, .int (-1), .int 0, .ref m_didSome, .ref m_sizes, .ref m_ends]))] H := hP
    have hD : va_D A [(md, .inr (9, [.int 0, .ref m_all, .ref m_deeds, .ref m_trial, .int 0, .ref m_hasImage, .ref m_tape, .ref m_key, .ref m_answered, .int 0, .int 0, .int 0, .ref m_goes, .int 0, .ref m_hotOnes, .ref m_indexed, .ref m_isChanged, .int 0, .ref m_valueNow, .int 0, .int (-1), .int 0, .ref m_didSome, .ref m_sizes, .ref m_ends]))] := hD
    rcases hw_10 with hw_10 | hw_10
    · obtain ⟨er_11, hf_12⟩ := hw_10
      have hf_13 : 1 ≤ y ∧ y ≤ 8 := ⟨(w_le (d := 1) (x := y) (by decide)).mp hf_12.1, (w_ge (d := 8) (x := y) (by decide)).mp hf_12.2⟩
      subst er_11
      refine lv_if_eq (tgt := 39) hx hb dX9_between_26 (by decide) (fun c_14 => absurd c_14 (by decide)) (fun c_14 => ?_)
      refine lv_iload_n hx hb dX9_between_29 rfl (lv_at hl 1 rfl) ?_
      refine lv_iload_n hx hb dX9_between_30 rfl (lv_at hl 2 rfl) ?_
      refine lv_iadd hx hb dX9_between_31 ?_
      refine lv_aload_n hx hb dX9_between_32 rfl (lv_at hl 0 rfl) ?_
      refine va_get (D := D) (ci := 9) (v := .int 0) (C := RX9) (T := TX9) (N := 25) hx hb hu in_X9 hown hK.1 hP 0 rfl rfl 9 (by decide) (hu _ u_1089) (fun _ h9 => h9) rfl dX9_between_33 ?_
      refine lv_icmp_le (tgt := 42) hx hb dX9_between_36 (by decide) (fun c_15 => absurd c_15 (by grind)) (fun c_15 => ?_)
      refine lv_bipush (v := (-3)) hx hb dX9_between_39 (by decide) ?_
      exact hz () hP hD hS rfl [] rfl rfl (Nat.le_of_ble_eq_true rfl) (Nat.le_of_ble_eq_true rfl) .int rfl rfl dX9_between_41
    · obtain ⟨er_16, hf_17⟩ := hw_10
      have hf_18 : ¬ (1 ≤ y ∧ y ≤ 8) := fun h => hf_17 ⟨(w_le (d := 1) (x := y) (by decide)).mpr h.1, (w_ge (d := 8) (x := y) (by decide)).mpr h.2⟩
      subst er_16
      refine lv_if_eq (tgt := 39) hx hb dX9_between_26 (by decide) (fun c_19 => ?_) (fun c_19 => absurd (by decide) c_19)
      refine lv_bipush (v := (-3)) hx hb dX9_between_39 (by decide) ?_
      exact hz () hP hD hS rfl [] rfl rfl (Nat.le_of_ble_eq_true rfl) (Nat.le_of_ble_eq_true rfl) .int rfl rfl dX9_between_41
  · obtain ⟨er_20, hf_21⟩ := hw_3
    have hf_22 : ¬ (1 ≤ x ∧ x ≤ 8) := fun h => hf_21 ⟨(w_le (d := 1) (x := x) (by decide)).mpr h.1, (w_ge (d := 8) (x := x) (by decide)).mpr h.2⟩
    subst er_20
    refine lv_if_eq (tgt := 39) hx hb dX9_between_14 (by decide) (fun c_23 => ?_) (fun c_23 => absurd (by decide) c_23)
    refine lv_bipush (v := (-3)) hx hb dX9_between_39 (by decide) ?_
    exact hz () hP hD hS rfl [] rfl rfl (Nat.le_of_ble_eq_true rfl) (Nat.le_of_ble_eq_true rfl) .int rfl rfl dX9_between_41
abbrev rm_c_X9_diff : Room := { frames := 1, cells := 0, slots := 0, locals := 25 }
set_option maxHeartbeats 4000000 in
set_option maxRecDepth 100000 in
theorem c_X9_diff (l : Launch) (D : va_G) (cs : Nat → ClassId) (sz : Nat) (x : Int32) (y : Int32) (md : Nat) (m_all : Nat) (f_m_all : Nat → Int32) (m_deeds : Nat) (m_trial : Nat) (m_hasImage : Nat) (m_tape : Nat) (m_key : Nat) (m_answered : Nat) (m_goes : Nat) (m_hotOnes : Nat) (m_indexed : Nat) (m_isChanged : Nat) (m_valueNow : Nat) (m_didSome : Nat) (m_sizes : Nat) (m_ends : Nat) (z_all : ∀ j, j < 51207 → f_m_all j = AL j) : cMi l yX9_diff (Cond.code yX9_diff cX9_diff 9 (some .int)) (rm_c_X9_diff) D cs [.ref md, .int x, .int y] sz [(md, .inr (9, [.int 0, .ref m_all, .ref m_deeds, .ref m_trial, .int 0, .ref m_hasImage, .ref m_tape, .ref m_key, .ref m_answered, .int 0, .int 0, .int 0, .ref m_goes, .int 0, .ref m_hotOnes, .ref m_indexed, .ref m_isChanged, .int 0, .ref m_valueNow, .int 0, .int (-1), .int 0, .ref m_didSome, .ref m_sizes, .ref m_ends])), (m_all, aI cs 51207 f_m_all)] (fun (r : Int32) (u : Unit) => ((r = (-2)) ∧ (x < 0 ∨ 4 ≤ x ∨ y < 0 ∨ 2 < y)) ∨ ((r = (-6)) ∧ (¬ x < 0 ∧ x < 4 ∧ ¬ y < 0 ∧ ¬ 2 < y))) (fun (u : Unit) => []) := by
  refine kMet_i RX9 (by decide) rfl (Nat.le_of_ble_eq_true rfl) ?_
  intro p e s m below meth c ls A Qz H locs hx hb hml hown hin hu hK hsz hA hP hD hS hl hz
  subst hsz
  have hl : lv_has ls 9 [(0, .ref md), (1, .int x), (2, .int y)] := hl
  refine lv_aload_n hx hb dX9_diff_0 rfl (lv_at hl 0 rfl) ?_
  refine lv_iconst (v := 0) hx hb dX9_diff_1 (by decide) ?_
  refine va_put (D := D) (ci := 9) (v := .int 0) (ty := tyX9 0) (C := RX9) (T := TX9) (N := 25) hx hb hu in_X9 tyX9 tyX9_ok nmX9 hown hK.1 hP hD hS 0 rfl rfl 0 (by decide) (hu _ u_1080) (fun _ h9 => h9) rfl (tyX9_ok 0 (by decide)) rfl rfl (Nat.le_of_ble_eq_true rfl) dX9_diff_2 (fun H locs hP hD hS => ?_)
  have hP : va_P D vwCl [(md, .inr (9, [.int 0, .ref m_all, .ref m_deeds, .ref m_trial, .int 0, .ref m_hasImage, .ref m_tape, .ref m_key, .ref m_answered, .int 0, .int 0, .int 0, .ref m_goes, .int 0, .ref m_hotOnes, .ref m_indexed, .ref m_isChanged, .int 0, .ref m_valueNow, .int 0, .int (-1), .int 0, .ref m_didSome, .ref m_sizes, .ref m_ends])), (m_all, aI cs 51207 f_m_all)] H := hP
  have hD : va_D A [(md, .inr (9, [.int 0, .ref m_all, .ref m_deeds, .ref m_trial, .int 0, .ref m_hasImage, .ref m_tape, .ref m_key, .ref m_answered, .int 0, .int 0, .int 0, .ref m_goes, .int 0, .ref m_hotOnes, .ref m_indexed, .ref m_isChanged, .int 0, .ref m_valueNow, .int 0, .int (-1), .int 0, .ref m_didSome, .ref m_sizes, .ref m_ends])), (m_all, aI cs 51207 f_m_all)] := hD
  refine lv_iload_n hx hb dX9_diff_5 rfl (lv_at hl 1 rfl) ?_
  refine lv_i2l (v := x.toInt64) hx hb dX9_diff_6 rfl ?_
  refine lv_lconst (v := 0) hx hb dX9_diff_7 (by decide) ?_
  refine lv_ldc2 (v := 3) hx hb hown (hu _ u_1302) dX9_diff_8 ?_
  refine kS_i  (As := [.long x.toInt64, .long 0, .long 3]) (rest := []) (wc := []) (wr := [(md, .inr (9, [.int 0, .ref m_all, .ref m_deeds, .ref m_trial, .int 0, .ref m_hasImage, .ref m_tape, .ref m_key, .ref m_answered, .int 0, .int 0, .int 0, .ref m_goes, .int 0, .ref m_hotOnes, .ref m_indexed, .ref m_isChanged, .int 0, .ref m_valueNow, .int 0, .int (-1), .int 0, .ref m_didSome, .ref m_sizes, .ref m_ends])), (m_all, aI cs 51207 f_m_all)]) hx hb hml hown hu hK hP hD hS hA hl.1 (c_X9_within l D cs H.size x.toInt64 0 3) (gS u_1164 u_1165 u_76 u_1166) hd_X9_within ⟨(Nat.le_of_ble_eq_true rfl), (Nat.le_of_ble_eq_true rfl)⟩ [] [0, 1] rfl rfl rfl rfl (by decide) rfl rfl (Nat.le_of_ble_eq_true rfl) dX9_diff_11 ⟨(Nat.le_of_ble_eq_true rfl), (Nat.le_of_ble_eq_true rfl)⟩ (fun r_1 ut_2 H locs hw_3 hP hD hS => ?_)
  have hP : va_P D vwCl [(md, .inr (9, [.int 0, .ref m_all, .ref m_deeds, .ref m_trial, .int 0, .ref m_hasImage, .ref m_tape, .ref m_key, .ref m_answered, .int 0, .int 0, .int 0, .ref m_goes, .int 0, .ref m_hotOnes, .ref m_indexed, .ref m_isChanged, .int 0, .ref m_valueNow, .int 0, .int (-1), .int 0, .ref m_didSome, .ref m_sizes, .ref m_ends])), (m_all, aI cs 51207 f_m_all)] H := hP
  have hD : va_D A [(md, .inr (9, [.int 0, .ref m_all, .ref m_deeds, .ref m_trial, .int 0, .ref m_hasImage, .ref m_tape, .ref m_key, .ref m_answered, .int 0, .int 0, .int 0, .ref m_goes, .int 0, .ref m_hotOnes, .ref m_indexed, .ref m_isChanged, .int 0, .ref m_valueNow, .int 0, .int (-1), .int 0, .ref m_didSome, .ref m_sizes, .ref m_ends])), (m_all, aI cs 51207 f_m_all)] := hD
  rcases hw_3 with hw_3 | hw_3
  · obtain ⟨er_4, hf_5⟩ := hw_3
    have hf_6 : 0 ≤ x ∧ x ≤ 3 := ⟨(w_le (d := 0) (x := x) (by decide)).mp hf_5.1, (w_ge (d := 3) (x := x) (by decide)).mp hf_5.2⟩
    subst er_4
    refine lv_if_eq (tgt := 29) hx hb dX9_diff_14 (by decide) (fun c_7 => absurd c_7 (by decide)) (fun c_7 => ?_)
    refine lv_iload_n hx hb dX9_diff_17 rfl (lv_at hl 2 rfl) ?_
    refine lv_i2l (v := y.toInt64) hx hb dX9_diff_18 rfl ?_
    refine lv_lconst (v := 0) hx hb dX9_diff_19 (by decide) ?_
    refine lv_ldc2 (v := 2) hx hb hown (hu _ u_1347) dX9_diff_20 ?_
    refine kS_i  (As := [.long y.toInt64, .long 0, .long 2]) (rest := []) (wc := []) (wr := [(md, .inr (9, [.int 0, .ref m_all, .ref m_deeds, .ref m_trial, .int 0, .ref m_hasImage, .ref m_tape, .ref m_key, .ref m_answered, .int 0, .int 0, .int 0, .ref m_goes, .int 0, .ref m_hotOnes, .ref m_indexed, .ref m_isChanged, .int 0, .ref m_valueNow, .int 0, .int (-1), .int 0, .ref m_didSome, .ref m_sizes, .ref m_ends])), (m_all, aI cs 51207 f_m_all)]) hx hb hml hown hu hK hP hD hS hA hl.1 (c_X9_within l D cs H.size y.toInt64 0 2) (gS u_1164 u_1165 u_76 u_1166) hd_X9_within ⟨(Nat.le_of_ble_eq_true rfl), (Nat.le_of_ble_eq_true rfl)⟩ [] [0, 1] rfl rfl rfl rfl (by decide) rfl rfl (Nat.le_of_ble_eq_true rfl) dX9_diff_23 ⟨(Nat.le_of_ble_eq_true rfl), (Nat.le_of_ble_eq_true rfl)⟩ (fun r_8 ut_9 H locs hw_10 hP hD hS => ?_)
    have hP : va_P D vwCl [(md, .inr (9, [.int 0, .ref m_all, .ref m_deeds, .ref m_trial, .int 0, .ref m_hasImage, .ref m_tape, .ref m_key, .ref m_answered, .int 0, .int 0, .int 0, .ref m_goes, .int 0, .ref m_hotOnes, .ref m_indexed, .ref m_isChanged, .int 0, .ref m_valueNow, .int 0, .int (-1), .int 0, .ref m_didSome, .ref m_sizes, .ref m_ends])), (m_all, aI cs 51207 f_m_all)] H := hP
    have hD : va_D A [(md, .inr (9, [.int 0, .ref m_all, .ref m_deeds, .ref m_trial, .int 0, .ref m_hasImage, .ref m_tape, .ref m_key, .ref m_answered, .int 0, .int 0, .int 0, .ref m_goes, .int 0, .ref m_hotOnes, .ref m_indexed, .ref m_isChanged, .int 0, .ref m_valueNow, .int 0, .int (-1), .int 0, .ref m_didSome, .ref m_sizes, .ref m_ends])), (m_all, aI cs 51207 f_m_all)] := hD
    rcases hw_10 with hw_10 | hw_10
    · obtain ⟨er_11, hf_12⟩ := hw_10
      have hf_13 : 0 ≤ y ∧ y ≤ 2 := ⟨(w_le (d := 0) (x := y) (by decide)).mp hf_12.1, (w_ge (d := 2) (x := y) (by decide)).mp hf_12.2⟩
      subst er_11
      refine lv_if_ne (tgt := 32) hx hb dX9_diff_26 (by decide) (fun c_14 => ?_) (fun c_14 => absurd c_14 (by decide))
      refine lv_aload_n hx hb dX9_diff_32 rfl (lv_at hl 0 rfl) ?_
      refine va_get (D := D) (ci := 9) (v := .ref m_all) (C := RX9) (T := TX9) (N := 25) hx hb hu in_X9 hown hK.1 hP 0 rfl rfl 1 (by decide) (hu _ u_1081) (fun _ h9 => h9) rfl dX9_diff_33 ?_
      refine lv_bipush (v := 55) hx hb dX9_diff_36 (by decide) ?_
      refine lv_iload_n hx hb dX9_diff_38 rfl (lv_at hl 1 rfl) ?_
      refine lv_iadd hx hb dX9_diff_39 ?_
      refine va_iald hx hb hK.1 hP 1 0 rfl rfl (vin_of (N := 51207) (by grind) (by grind) rfl) dX9_diff_40 ?_
      refine tpi (y := (-1)) ((z_all _ (cl_lt (vin_of (N := 51207) (by grind) (by grind) rfl))).trans (AL_n _ (by grind))) ?_
      refine lv_istore_n (lv' := [(3, .int (-1)), (0, .ref md), (1, .int x), (2, .int y)]) hx hb dX9_diff_41 rfl hl (by decide) rfl (fun ls hl => ?_)
      refine lv_iload_n hx hb dX9_diff_42 rfl (lv_at hl 0 rfl) ?_
      refine lv_iconst (v := (-1)) hx hb dX9_diff_43 (by decide) ?_
      refine lv_icmp_ne (tgt := 50) hx hb dX9_diff_44 (by decide) (fun c_15 => absurd (by decide) c_15) (fun c_15 => ?_)
      refine lv_bipush (v := (-6)) hx hb dX9_diff_47 (by decide) ?_
      exact hz () hP hD hS (by grind) [] rfl rfl (Nat.le_of_ble_eq_true rfl) (Nat.le_of_ble_eq_true rfl) .int rfl rfl dX9_diff_49
    · obtain ⟨er_16, hf_17⟩ := hw_10
      have hf_18 : ¬ (0 ≤ y ∧ y ≤ 2) := fun h => hf_17 ⟨(w_le (d := 0) (x := y) (by decide)).mpr h.1, (w_ge (d := 2) (x := y) (by decide)).mpr h.2⟩
      subst er_16
      refine lv_if_ne (tgt := 32) hx hb dX9_diff_26 (by decide) (fun c_19 => absurd (by decide) c_19) (fun c_19 => ?_)
      refine lv_bipush (v := (-2)) hx hb dX9_diff_29 (by decide) ?_
      exact hz () hP hD hS (by grind) [] rfl rfl (Nat.le_of_ble_eq_true rfl) (Nat.le_of_ble_eq_true rfl) .int rfl rfl dX9_diff_31
  · obtain ⟨er_20, hf_21⟩ := hw_3
    have hf_22 : ¬ (0 ≤ x ∧ x ≤ 3) := fun h => hf_21 ⟨(w_le (d := 0) (x := x) (by decide)).mpr h.1, (w_ge (d := 3) (x := x) (by decide)).mpr h.2⟩
    subst er_20
    refine lv_if_eq (tgt := 29) hx hb dX9_diff_14 (by decide) (fun c_23 => ?_) (fun c_23 => absurd (by decide) c_23)
    refine lv_bipush (v := (-2)) hx hb dX9_diff_29 (by decide) ?_
    exact hz () hP hD hS (by grind) [] rfl rfl (Nat.le_of_ble_eq_true rfl) (Nat.le_of_ble_eq_true rfl) .int rfl rfl dX9_diff_31
abbrev rm_c_X9_roll : Room := { frames := 1, cells := 0, slots := 0, locals := 25 }
set_option maxHeartbeats 4000000 in
set_option maxRecDepth 100000 in
theorem c_X9_roll (l : Launch) (D : va_G) (cs : Nat → ClassId) (sz : Nat) (x : Int32) (md : Nat) (m_all : Nat) (f_m_all : Nat → Int32) (m_deeds : Nat) (m_trial : Nat) (m_hasImage : Nat) (m_tape : Nat) (m_key : Nat) (m_answered : Nat) (m_goes : Nat) (m_hotOnes : Nat) (m_indexed : Nat) (m_isChanged : Nat) (m_valueNow : Nat) (m_didSome : Nat) (m_sizes : Nat) (m_ends : Nat) (z_all : ∀ j, j < 51207 → f_m_all j = AL j) : cMi l yX9_roll (Cond.code yX9_roll cX9_roll 8 (some .int)) (rm_c_X9_roll) D cs [.ref md, .int x] sz [(md, .inr (9, [.int 0, .ref m_all, .ref m_deeds, .ref m_trial, .int 0, .ref m_hasImage, .ref m_tape, .ref m_key, .ref m_answered, .int 0, .int 0, .int 0, .ref m_goes, .int 0, .ref m_hotOnes, .ref m_indexed, .ref m_isChanged, .int 0, .ref m_valueNow, .int 0, .int (-1), .int 0, .ref m_didSome, .ref m_sizes, .ref m_ends])), (m_all, aI cs 51207 f_m_all)] (fun (r : Int32) (u : Unit) => ((r = (-2)) ∧ (x < 0 ∨ 4 ≤ x)) ∨ ((r = (-6)) ∧ (¬ x < 0 ∧ x < 4))) (fun (u : Unit) => []) := by
  refine kMet_i RX9 (by decide) rfl (Nat.le_of_ble_eq_true rfl) ?_
  intro p e s m below meth c ls A Qz H locs hx hb hml hown hin hu hK hsz hA hP hD hS hl hz
  subst hsz
  have hl : lv_has ls 8 [(0, .ref md), (1, .int x)] := hl
  refine lv_aload_n hx hb dX9_roll_0 rfl (lv_at hl 0 rfl) ?_
  refine lv_iconst (v := 0) hx hb dX9_roll_1 (by decide) ?_
  refine va_put (D := D) (ci := 9) (v := .int 0) (ty := tyX9 0) (C := RX9) (T := TX9) (N := 25) hx hb hu in_X9 tyX9 tyX9_ok nmX9 hown hK.1 hP hD hS 0 rfl rfl 0 (by decide) (hu _ u_1080) (fun _ h9 => h9) rfl (tyX9_ok 0 (by decide)) rfl rfl (Nat.le_of_ble_eq_true rfl) dX9_roll_2 (fun H locs hP hD hS => ?_)
  have hP : va_P D vwCl [(md, .inr (9, [.int 0, .ref m_all, .ref m_deeds, .ref m_trial, .int 0, .ref m_hasImage, .ref m_tape, .ref m_key, .ref m_answered, .int 0, .int 0, .int 0, .ref m_goes, .int 0, .ref m_hotOnes, .ref m_indexed, .ref m_isChanged, .int 0, .ref m_valueNow, .int 0, .int (-1), .int 0, .ref m_didSome, .ref m_sizes, .ref m_ends])), (m_all, aI cs 51207 f_m_all)] H := hP
  have hD : va_D A [(md, .inr (9, [.int 0, .ref m_all, .ref m_deeds, .ref m_trial, .int 0, .ref m_hasImage, .ref m_tape, .ref m_key, .ref m_answered, .int 0, .int 0, .int 0, .ref m_goes, .int 0, .ref m_hotOnes, .ref m_indexed, .ref m_isChanged, .int 0, .ref m_valueNow, .int 0, .int (-1), .int 0, .ref m_didSome, .ref m_sizes, .ref m_ends])), (m_all, aI cs 51207 f_m_all)] := hD
  refine lv_iload_n hx hb dX9_roll_5 rfl (lv_at hl 1 rfl) ?_
  refine lv_i2l (v := x.toInt64) hx hb dX9_roll_6 rfl ?_
  refine lv_lconst (v := 0) hx hb dX9_roll_7 (by decide) ?_
  refine lv_ldc2 (v := 3) hx hb hown (hu _ u_1302) dX9_roll_8 ?_
  refine kS_i  (As := [.long x.toInt64, .long 0, .long 3]) (rest := []) (wc := []) (wr := [(md, .inr (9, [.int 0, .ref m_all, .ref m_deeds, .ref m_trial, .int 0, .ref m_hasImage, .ref m_tape, .ref m_key, .ref m_answered, .int 0, .int 0, .int 0, .ref m_goes, .int 0, .ref m_hotOnes, .ref m_indexed, .ref m_isChanged, .int 0, .ref m_valueNow, .int 0, .int (-1), .int 0, .ref m_didSome, .ref m_sizes, .ref m_ends])), (m_all, aI cs 51207 f_m_all)]) hx hb hml hown hu hK hP hD hS hA hl.1 (c_X9_within l D cs H.size x.toInt64 0 3) (gS u_1164 u_1165 u_76 u_1166) hd_X9_within ⟨(Nat.le_of_ble_eq_true rfl), (Nat.le_of_ble_eq_true rfl)⟩ [] [0, 1] rfl rfl rfl rfl (by decide) rfl rfl (Nat.le_of_ble_eq_true rfl) dX9_roll_11 ⟨(Nat.le_of_ble_eq_true rfl), (Nat.le_of_ble_eq_true rfl)⟩ (fun r_1 ut_2 H locs hw_3 hP hD hS => ?_)
  have hP : va_P D vwCl [(md, .inr (9, [.int 0, .ref m_all, .ref m_deeds, .ref m_trial, .int 0, .ref m_hasImage, .ref m_tape, .ref m_key, .ref m_answered, .int 0, .int 0, .int 0, .ref m_goes, .int 0, .ref m_hotOnes, .ref m_indexed, .ref m_isChanged, .int 0, .ref m_valueNow, .int 0, .int (-1), .int 0, .ref m_didSome, .ref m_sizes, .ref m_ends])), (m_all, aI cs 51207 f_m_all)] H := hP
  have hD : va_D A [(md, .inr (9, [.int 0, .ref m_all, .ref m_deeds, .ref m_trial, .int 0, .ref m_hasImage, .ref m_tape, .ref m_key, .ref m_answered, .int 0, .int 0, .int 0, .ref m_goes, .int 0, .ref m_hotOnes, .ref m_indexed, .ref m_isChanged, .int 0, .ref m_valueNow, .int 0, .int (-1), .int 0, .ref m_didSome, .ref m_sizes, .ref m_ends])), (m_all, aI cs 51207 f_m_all)] := hD
  rcases hw_3 with hw_3 | hw_3
  · obtain ⟨er_4, hf_5⟩ := hw_3
    have hf_6 : 0 ≤ x ∧ x ≤ 3 := ⟨(w_le (d := 0) (x := x) (by decide)).mp hf_5.1, (w_ge (d := 3) (x := x) (by decide)).mp hf_5.2⟩
    subst er_4
    refine lv_if_ne (tgt := 20) hx hb dX9_roll_14 (by decide) (fun c_7 => ?_) (fun c_7 => absurd c_7 (by decide))
    refine lv_aload_n hx hb dX9_roll_20 rfl (lv_at hl 0 rfl) ?_
    refine va_get (D := D) (ci := 9) (v := .ref m_all) (C := RX9) (T := TX9) (N := 25) hx hb hu in_X9 hown hK.1 hP 0 rfl rfl 1 (by decide) (hu _ u_1081) (fun _ h9 => h9) rfl dX9_roll_21 ?_
    refine lv_bipush (v := 55) hx hb dX9_roll_24 (by decide) ?_
    refine lv_iload_n hx hb dX9_roll_26 rfl (lv_at hl 1 rfl) ?_
    refine lv_iadd hx hb dX9_roll_27 ?_
    refine va_iald hx hb hK.1 hP 1 0 rfl rfl (vin_of (N := 51207) (by grind) (by grind) rfl) dX9_roll_28 ?_
    refine tpi (y := (-1)) ((z_all _ (cl_lt (vin_of (N := 51207) (by grind) (by grind) rfl))).trans (AL_n _ (by grind))) ?_
    refine lv_iconst (v := (-1)) hx hb dX9_roll_29 (by decide) ?_
    refine lv_icmp_ne (tgt := 36) hx hb dX9_roll_30 (by decide) (fun c_8 => absurd (by decide) c_8) (fun c_8 => ?_)
    refine lv_bipush (v := (-6)) hx hb dX9_roll_33 (by decide) ?_
    exact hz () hP hD hS (by grind) [] rfl rfl (Nat.le_of_ble_eq_true rfl) (Nat.le_of_ble_eq_true rfl) .int rfl rfl dX9_roll_35
  · obtain ⟨er_9, hf_10⟩ := hw_3
    have hf_11 : ¬ (0 ≤ x ∧ x ≤ 3) := fun h => hf_10 ⟨(w_le (d := 0) (x := x) (by decide)).mpr h.1, (w_ge (d := 3) (x := x) (by decide)).mpr h.2⟩
    subst er_9
    refine lv_if_ne (tgt := 20) hx hb dX9_roll_14 (by decide) (fun c_12 => absurd (by decide) c_12) (fun c_12 => ?_)
    refine lv_bipush (v := (-2)) hx hb dX9_roll_17 (by decide) ?_
    exact hz () hP hD hS (by grind) [] rfl rfl (Nat.le_of_ble_eq_true rfl) (Nat.le_of_ble_eq_true rfl) .int rfl rfl dX9_roll_19
abbrev rm_c_X9_keys : Room := { frames := 2, cells := 0, slots := 0, locals := 45 }
set_option maxHeartbeats 4000000 in
set_option maxRecDepth 100000 in
theorem c_X9_keys (l : Launch) (D : va_G) (cs : Nat → ClassId) (sz : Nat) (x : Int32) (md : Nat) (m_all : Nat) (f_m_all : Nat → Int32) (m_deeds : Nat) (m_trial : Nat) (m_hasImage : Nat) (m_tape : Nat) (m_key : Nat) (m_answered : Nat) (m_goes : Nat) (m_hotOnes : Nat) (m_indexed : Nat) (m_isChanged : Nat) (m_valueNow : Nat) (m_didSome : Nat) (m_sizes : Nat) (m_ends : Nat) (z_all : ∀ j, j < 51207 → f_m_all j = AL j) : cMi l yX9_keys (Cond.code yX9_keys cX9_keys 5 (some .int)) (rm_c_X9_keys) D cs [.ref md, .int x] sz [(md, .inr (9, [.int 0, .ref m_all, .ref m_deeds, .ref m_trial, .int 0, .ref m_hasImage, .ref m_tape, .ref m_key, .ref m_answered, .int 0, .int 0, .int 0, .ref m_goes, .int 0, .ref m_hotOnes, .ref m_indexed, .ref m_isChanged, .int 0, .ref m_valueNow, .int 0, .int (-1), .int 0, .ref m_didSome, .ref m_sizes, .ref m_ends])), (m_all, aI cs 51207 f_m_all)] (fun (r : Int32) (u : Unit) => ((r = (-2)) ∧ (¬ x = -1 ∧ (x < 0 ∨ 4 ≤ x))) ∨ ((r = (-6)) ∧ (¬ x < 0 ∧ x < 4)) ∨ ((r = 0) ∧ (x = -1))) (fun (u : Unit) => []) := by
  refine kMet_i RX9 (by decide) rfl (Nat.le_of_ble_eq_true rfl) ?_
  intro p e s m below meth c ls A Qz H locs hx hb hml hown hin hu hK hsz hA hP hD hS hl hz
  subst hsz
  have hl : lv_has ls 5 [(0, .ref md), (1, .int x)] := hl
  refine lv_aload_n hx hb dX9_keys_0 rfl (lv_at hl 0 rfl) ?_
  refine lv_iconst (v := 0) hx hb dX9_keys_1 (by decide) ?_
  refine va_put (D := D) (ci := 9) (v := .int 0) (ty := tyX9 0) (C := RX9) (T := TX9) (N := 25) hx hb hu in_X9 tyX9 tyX9_ok nmX9 hown hK.1 hP hD hS 0 rfl rfl 0 (by decide) (hu _ u_1080) (fun _ h9 => h9) rfl (tyX9_ok 0 (by decide)) rfl rfl (Nat.le_of_ble_eq_true rfl) dX9_keys_2 (fun H locs hP hD hS => ?_)
  have hP : va_P D vwCl [(md, .inr (9, [.int 0, .ref m_all, .ref m_deeds, .ref m_trial, .int 0, .ref m_hasImage, .ref m_tape, .ref m_key, .ref m_answered, .int 0, .int 0, .int 0, .ref m_goes, .int 0, .ref m_hotOnes, .ref m_indexed, .ref m_isChanged, .int 0, .ref m_valueNow, .int 0, .int (-1), .int 0, .ref m_didSome, .ref m_sizes, .ref m_ends])), (m_all, aI cs 51207 f_m_all)] H := hP
  have hD : va_D A [(md, .inr (9, [.int 0, .ref m_all, .ref m_deeds, .ref m_trial, .int 0, .ref m_hasImage, .ref m_tape, .ref m_key, .ref m_answered, .int 0, .int 0, .int 0, .ref m_goes, .int 0, .ref m_hotOnes, .ref m_indexed, .ref m_isChanged, .int 0, .ref m_valueNow, .int 0, .int (-1), .int 0, .ref m_didSome, .ref m_sizes, .ref m_ends])), (m_all, aI cs 51207 f_m_all)] := hD
  refine lv_iload_n hx hb dX9_keys_5 rfl (lv_at hl 1 rfl) ?_
  refine kS_i  (As := [.int x]) (rest := []) (wc := []) (wr := [(md, .inr (9, [.int 0, .ref m_all, .ref m_deeds, .ref m_trial, .int 0, .ref m_hasImage, .ref m_tape, .ref m_key, .ref m_answered, .int 0, .int 0, .int 0, .ref m_goes, .int 0, .ref m_hotOnes, .ref m_indexed, .ref m_isChanged, .int 0, .ref m_valueNow, .int 0, .int (-1), .int 0, .ref m_didSome, .ref m_sizes, .ref m_ends])), (m_all, aI cs 51207 f_m_all)]) hx hb hml hown hu hK hP hD hS hA hl.1 (c_X9_isAt l D cs H.size x) (gS u_1298 u_1299 u_76 u_1300) hd_X9_isAt ⟨(Nat.le_of_ble_eq_true rfl), (Nat.le_of_ble_eq_true rfl)⟩ [] [0, 1] rfl rfl rfl rfl (by decide) rfl rfl (Nat.le_of_ble_eq_true rfl) dX9_keys_6 ⟨(Nat.le_of_ble_eq_true rfl), (Nat.le_of_ble_eq_true rfl)⟩ (fun r_1 ut_2 H locs hw_3 hP hD hS => ?_)
  have hP : va_P D vwCl [(md, .inr (9, [.int 0, .ref m_all, .ref m_deeds, .ref m_trial, .int 0, .ref m_hasImage, .ref m_tape, .ref m_key, .ref m_answered, .int 0, .int 0, .int 0, .ref m_goes, .int 0, .ref m_hotOnes, .ref m_indexed, .ref m_isChanged, .int 0, .ref m_valueNow, .int 0, .int (-1), .int 0, .ref m_didSome, .ref m_sizes, .ref m_ends])), (m_all, aI cs 51207 f_m_all)] H := hP
  have hD : va_D A [(md, .inr (9, [.int 0, .ref m_all, .ref m_deeds, .ref m_trial, .int 0, .ref m_hasImage, .ref m_tape, .ref m_key, .ref m_answered, .int 0, .int 0, .int 0, .ref m_goes, .int 0, .ref m_hotOnes, .ref m_indexed, .ref m_isChanged, .int 0, .ref m_valueNow, .int 0, .int (-1), .int 0, .ref m_didSome, .ref m_sizes, .ref m_ends])), (m_all, aI cs 51207 f_m_all)] := hD
  rcases hw_3 with hw_3 | hw_3
  · obtain ⟨er_4, hf_5⟩ := hw_3
    subst er_4
    refine lv_if_ne (tgt := 15) hx hb dX9_keys_9 (by decide) (fun c_6 => ?_) (fun c_6 => absurd c_6 (by decide))
    refine lv_aload_n hx hb dX9_keys_15 rfl (lv_at hl 0 rfl) ?_
    refine lv_iload_n hx hb dX9_keys_16 rfl (lv_at hl 1 rfl) ?_
    refine kV_i (ci := 9) (As := [.int x]) (rest := []) (wc := [(md, .inr (9, [.int 0, .ref m_all, .ref m_deeds, .ref m_trial, .int 0, .ref m_hasImage, .ref m_tape, .ref m_key, .ref m_answered, .int 0, .int 0, .int 0, .ref m_goes, .int 0, .ref m_hotOnes, .ref m_indexed, .ref m_isChanged, .int 0, .ref m_valueNow, .int 0, .int (-1), .int 0, .ref m_didSome, .ref m_sizes, .ref m_ends])), (m_all, aI cs 51207 f_m_all)]) (wr := []) hx hb hml hown hu hK hP hD hS hA hl.1 (c_X9_momentAt l D cs H.size x md m_all f_m_all m_deeds m_trial m_hasImage m_tape m_key m_answered m_goes m_hotOnes m_indexed m_isChanged m_valueNow m_didSome m_sizes m_ends 0 0 0 z_all (by first | decide | grind)) (gV u_1307 u_1309 u_40 u_76 u_1310) hd_X9_momentAt ⟨(Nat.le_of_ble_eq_true rfl), (Nat.le_of_ble_eq_true rfl)⟩ [0, 1] [] rfl rfl rfl rfl (by decide) rfl 0 rfl rfl rfl (Nat.le_of_ble_eq_true rfl) dX9_keys_17 ⟨(Nat.le_of_ble_eq_true rfl), (Nat.le_of_ble_eq_true rfl)⟩ (fun r_7 ut_8 H locs hw_9 hP hD hS => ?_)
    have hP : va_P D vwCl [(md, .inr (9, [.int 0, .ref m_all, .ref m_deeds, .ref m_trial, .int 0, .ref m_hasImage, .ref m_tape, .ref m_key, .ref m_answered, .int 0, .int 0, .int 0, .ref m_goes, .int 0, .ref m_hotOnes, .ref m_indexed, .ref m_isChanged, .int 0, .ref m_valueNow, .int 0, .int (-1), .int 0, .ref m_didSome, .ref m_sizes, .ref m_ends])), (m_all, aI cs 51207 f_m_all)] H := hP
    have hD : va_D A [(md, .inr (9, [.int 0, .ref m_all, .ref m_deeds, .ref m_trial, .int 0, .ref m_hasImage, .ref m_tape, .ref m_key, .ref m_answered, .int 0, .int 0, .int 0, .ref m_goes, .int 0, .ref m_hotOnes, .ref m_indexed, .ref m_isChanged, .int 0, .ref m_valueNow, .int 0, .int (-1), .int 0, .ref m_didSome, .ref m_sizes, .ref m_ends])), (m_all, aI cs 51207 f_m_all)] := hD
    rcases hw_9 with hw_9 | hw_9
    · obtain ⟨er_10, hf_11⟩ := hw_9
      subst er_10
      refine lv_istore_n (lv' := [(2, .int 0), (0, .ref md), (1, .int x)]) hx hb dX9_keys_20 rfl hl (by decide) rfl (fun ls hl => ?_)
      refine lv_iload_n hx hb dX9_keys_21 rfl (lv_at hl 0 rfl) ?_
      refine lv_bipush (v := (-6)) hx hb dX9_keys_22 (by decide) ?_
      refine lv_icmp_ne (tgt := 30) hx hb dX9_keys_24 (by decide) (fun c_12 => ?_) (fun c_12 => absurd c_12 (by decide))
      refine lv_iconst (v := 0) hx hb dX9_keys_30 (by decide) ?_
      refine lv_istore_n (lv' := [(3, .int 0), (2, .int 0), (0, .ref md), (1, .int x)]) hx hb dX9_keys_31 rfl hl (by decide) rfl (fun ls hl => ?_)
      refine lv_iconst (v := 0) hx hb dX9_keys_32 (by decide) ?_
      refine lv_istore (lv' := [(4, .int 0), (3, .int 0), (2, .int 0), (0, .ref md), (1, .int x)]) hx hb dX9_keys_33 hl (by decide) rfl (fun ls hl => ?_)
      refine lv_iload hx hb dX9_keys_35 (lv_at hl 0 rfl) ?_
      refine lv_aload_n hx hb dX9_keys_37 rfl (lv_at hl 3 rfl) ?_
      refine va_get (D := D) (ci := 9) (v := .ref m_all) (C := RX9) (T := TX9) (N := 25) hx hb hu in_X9 hown hK.1 hP 0 rfl rfl 1 (by decide) (hu _ u_1081) (fun _ h9 => h9) rfl dX9_keys_38 ?_
      refine lv_sipush (v := 1628) hx hb dX9_keys_41 (by decide) ?_
      refine va_iald hx hb hK.1 hP 1 0 rfl rfl (vin_c _ _ rfl) dX9_keys_44 ?_
      refine tpi (y := 0) ((z_all _ (cl_lt (vin_c _ _ rfl))).trans (by decide +kernel)) ?_
      refine lv_icmp_ge (tgt := 72) hx hb dX9_keys_45 (by decide) (fun c_13 => ?_) (fun c_13 => absurd (by decide) c_13)
      refine lv_iload_n hx hb dX9_keys_72 rfl (lv_at hl 1 rfl) ?_
      exact hz () hP hD hS (by grind) [] rfl rfl (Nat.le_of_ble_eq_true rfl) (Nat.le_of_ble_eq_true rfl) .int rfl rfl dX9_keys_73
    · obtain ⟨er_14, hf_15⟩ := hw_9
      subst er_14
      refine lv_istore_n (lv' := [(2, .int (-6)), (0, .ref md), (1, .int x)]) hx hb dX9_keys_20 rfl hl (by decide) rfl (fun ls hl => ?_)
      refine lv_iload_n hx hb dX9_keys_21 rfl (lv_at hl 0 rfl) ?_
      refine lv_bipush (v := (-6)) hx hb dX9_keys_22 (by decide) ?_
      refine lv_icmp_ne (tgt := 30) hx hb dX9_keys_24 (by decide) (fun c_16 => absurd (by decide) c_16) (fun c_16 => ?_)
      refine lv_bipush (v := (-6)) hx hb dX9_keys_27 (by decide) ?_
      exact hz () hP hD hS (by grind) [] rfl rfl (Nat.le_of_ble_eq_true rfl) (Nat.le_of_ble_eq_true rfl) .int rfl rfl dX9_keys_29
  · obtain ⟨er_17, hf_18⟩ := hw_3
    subst er_17
    refine lv_if_ne (tgt := 15) hx hb dX9_keys_9 (by decide) (fun c_19 => absurd (by decide) c_19) (fun c_19 => ?_)
    refine lv_bipush (v := (-2)) hx hb dX9_keys_12 (by decide) ?_
    exact hz () hP hD hS (by grind) [] rfl rfl (Nat.le_of_ble_eq_true rfl) (Nat.le_of_ble_eq_true rfl) .int rfl rfl dX9_keys_14
abbrev rm_c_X9_groups : Room := { frames := 1, cells := 0, slots := 0, locals := 25 }
set_option maxHeartbeats 4000000 in
set_option maxRecDepth 100000 in
theorem c_X9_groups (l : Launch) (D : va_G) (cs : Nat → ClassId) (sz : Nat) (x : Int32) (y : Int32) (md : Nat) (m_all : Nat) (f_m_all : Nat → Int32) (m_deeds : Nat) (m_trial : Nat) (m_hasImage : Nat) (m_tape : Nat) (m_key : Nat) (m_answered : Nat) (m_goes : Nat) (m_hotOnes : Nat) (m_indexed : Nat) (m_isChanged : Nat) (m_valueNow : Nat) (m_didSome : Nat) (m_sizes : Nat) (m_ends : Nat) (z_all : ∀ j, j < 51207 → f_m_all j = AL j) : cMi l yX9_groups (Cond.code yX9_groups cX9_groups 10 (some .int)) (rm_c_X9_groups) D cs [.ref md, .int x, .int y] sz [(md, .inr (9, [.int 0, .ref m_all, .ref m_deeds, .ref m_trial, .int 0, .ref m_hasImage, .ref m_tape, .ref m_key, .ref m_answered, .int 0, .int 0, .int 0, .ref m_goes, .int 0, .ref m_hotOnes, .ref m_indexed, .ref m_isChanged, .int 0, .ref m_valueNow, .int 0, .int (-1), .int 0, .ref m_didSome, .ref m_sizes, .ref m_ends])), (m_all, aI cs 51207 f_m_all)] (fun (r : Int32) (u : Unit) => ((r = (-2)) ∧ (y < 0 ∨ 1 < y)) ∨ ((r = (-3)) ∧ (¬ y < 0 ∧ ¬ 1 < y ∧ (x < 1 ∨ 8 < x))) ∨ ((r = 0) ∧ (¬ y < 0 ∧ ¬ 1 < y ∧ 1 ≤ x ∧ x ≤ 8))) (fun (u : Unit) => []) := by
  refine kMet_i RX9 (by decide) rfl (Nat.le_of_ble_eq_true rfl) ?_
  intro p e s m below meth c ls A Qz H locs hx hb hml hown hin hu hK hsz hA hP hD hS hl hz
  subst hsz
  have hl : lv_has ls 10 [(0, .ref md), (1, .int x), (2, .int y)] := hl
  refine lv_aload_n hx hb dX9_groups_0 rfl (lv_at hl 0 rfl) ?_
  refine lv_iconst (v := 0) hx hb dX9_groups_1 (by decide) ?_
  refine va_put (D := D) (ci := 9) (v := .int 0) (ty := tyX9 0) (C := RX9) (T := TX9) (N := 25) hx hb hu in_X9 tyX9 tyX9_ok nmX9 hown hK.1 hP hD hS 0 rfl rfl 0 (by decide) (hu _ u_1080) (fun _ h9 => h9) rfl (tyX9_ok 0 (by decide)) rfl rfl (Nat.le_of_ble_eq_true rfl) dX9_groups_2 (fun H locs hP hD hS => ?_)
  have hP : va_P D vwCl [(md, .inr (9, [.int 0, .ref m_all, .ref m_deeds, .ref m_trial, .int 0, .ref m_hasImage, .ref m_tape, .ref m_key, .ref m_answered, .int 0, .int 0, .int 0, .ref m_goes, .int 0, .ref m_hotOnes, .ref m_indexed, .ref m_isChanged, .int 0, .ref m_valueNow, .int 0, .int (-1), .int 0, .ref m_didSome, .ref m_sizes, .ref m_ends])), (m_all, aI cs 51207 f_m_all)] H := hP
  have hD : va_D A [(md, .inr (9, [.int 0, .ref m_all, .ref m_deeds, .ref m_trial, .int 0, .ref m_hasImage, .ref m_tape, .ref m_key, .ref m_answered, .int 0, .int 0, .int 0, .ref m_goes, .int 0, .ref m_hotOnes, .ref m_indexed, .ref m_isChanged, .int 0, .ref m_valueNow, .int 0, .int (-1), .int 0, .ref m_didSome, .ref m_sizes, .ref m_ends])), (m_all, aI cs 51207 f_m_all)] := hD
  refine lv_iload_n hx hb dX9_groups_5 rfl (lv_at hl 2 rfl) ?_
  refine lv_i2l (v := y.toInt64) hx hb dX9_groups_6 rfl ?_
  refine lv_lconst (v := 0) hx hb dX9_groups_7 (by decide) ?_
  refine lv_lconst (v := 1) hx hb dX9_groups_8 (by decide) ?_
  refine kS_i  (As := [.long y.toInt64, .long 0, .long 1]) (rest := []) (wc := []) (wr := [(md, .inr (9, [.int 0, .ref m_all, .ref m_deeds, .ref m_trial, .int 0, .ref m_hasImage, .ref m_tape, .ref m_key, .ref m_answered, .int 0, .int 0, .int 0, .ref m_goes, .int 0, .ref m_hotOnes, .ref m_indexed, .ref m_isChanged, .int 0, .ref m_valueNow, .int 0, .int (-1), .int 0, .ref m_didSome, .ref m_sizes, .ref m_ends])), (m_all, aI cs 51207 f_m_all)]) hx hb hml hown hu hK hP hD hS hA hl.1 (c_X9_within l D cs H.size y.toInt64 0 1) (gS u_1164 u_1165 u_76 u_1166) hd_X9_within ⟨(Nat.le_of_ble_eq_true rfl), (Nat.le_of_ble_eq_true rfl)⟩ [] [0, 1] rfl rfl rfl rfl (by decide) rfl rfl (Nat.le_of_ble_eq_true rfl) dX9_groups_9 ⟨(Nat.le_of_ble_eq_true rfl), (Nat.le_of_ble_eq_true rfl)⟩ (fun r_1 ut_2 H locs hw_3 hP hD hS => ?_)
  have hP : va_P D vwCl [(md, .inr (9, [.int 0, .ref m_all, .ref m_deeds, .ref m_trial, .int 0, .ref m_hasImage, .ref m_tape, .ref m_key, .ref m_answered, .int 0, .int 0, .int 0, .ref m_goes, .int 0, .ref m_hotOnes, .ref m_indexed, .ref m_isChanged, .int 0, .ref m_valueNow, .int 0, .int (-1), .int 0, .ref m_didSome, .ref m_sizes, .ref m_ends])), (m_all, aI cs 51207 f_m_all)] H := hP
  have hD : va_D A [(md, .inr (9, [.int 0, .ref m_all, .ref m_deeds, .ref m_trial, .int 0, .ref m_hasImage, .ref m_tape, .ref m_key, .ref m_answered, .int 0, .int 0, .int 0, .ref m_goes, .int 0, .ref m_hotOnes, .ref m_indexed, .ref m_isChanged, .int 0, .ref m_valueNow, .int 0, .int (-1), .int 0, .ref m_didSome, .ref m_sizes, .ref m_ends])), (m_all, aI cs 51207 f_m_all)] := hD
  rcases hw_3 with hw_3 | hw_3
  · obtain ⟨er_4, hf_5⟩ := hw_3
    have hf_6 : 0 ≤ y ∧ y ≤ 1 := ⟨(w_le (d := 0) (x := y) (by decide)).mp hf_5.1, (w_ge (d := 1) (x := y) (by decide)).mp hf_5.2⟩
    subst er_4
    refine lv_if_ne (tgt := 18) hx hb dX9_groups_12 (by decide) (fun c_7 => ?_) (fun c_7 => absurd c_7 (by decide))
    refine lv_iload_n hx hb dX9_groups_18 rfl (lv_at hl 1 rfl) ?_
    refine lv_i2l (v := x.toInt64) hx hb dX9_groups_19 rfl ?_
    refine lv_lconst (v := 1) hx hb dX9_groups_20 (by decide) ?_
    refine lv_ldc2 (v := 8) hx hb hown (hu _ u_1171) dX9_groups_21 ?_
    refine kS_i  (As := [.long x.toInt64, .long 1, .long 8]) (rest := []) (wc := []) (wr := [(md, .inr (9, [.int 0, .ref m_all, .ref m_deeds, .ref m_trial, .int 0, .ref m_hasImage, .ref m_tape, .ref m_key, .ref m_answered, .int 0, .int 0, .int 0, .ref m_goes, .int 0, .ref m_hotOnes, .ref m_indexed, .ref m_isChanged, .int 0, .ref m_valueNow, .int 0, .int (-1), .int 0, .ref m_didSome, .ref m_sizes, .ref m_ends])), (m_all, aI cs 51207 f_m_all)]) hx hb hml hown hu hK hP hD hS hA hl.1 (c_X9_within l D cs H.size x.toInt64 1 8) (gS u_1164 u_1165 u_76 u_1166) hd_X9_within ⟨(Nat.le_of_ble_eq_true rfl), (Nat.le_of_ble_eq_true rfl)⟩ [] [0, 1] rfl rfl rfl rfl (by decide) rfl rfl (Nat.le_of_ble_eq_true rfl) dX9_groups_24 ⟨(Nat.le_of_ble_eq_true rfl), (Nat.le_of_ble_eq_true rfl)⟩ (fun r_8 ut_9 H locs hw_10 hP hD hS => ?_)
    have hP : va_P D vwCl [(md, .inr (9, [.int 0, .ref m_all, .ref m_deeds, .ref m_trial, .int 0, .ref m_hasImage, .ref m_tape, .ref m_key, .ref m_answered, .int 0, .int 0, .int 0, .ref m_goes, .int 0, .ref m_hotOnes, .ref m_indexed, .ref m_isChanged, .int 0, .ref m_valueNow, .int 0, .int (-1), .int 0, .ref m_didSome, .ref m_sizes, .ref m_ends])), (m_all, aI cs 51207 f_m_all)] H := hP
    have hD : va_D A [(md, .inr (9, [.int 0, .ref m_all, .ref m_deeds, .ref m_trial, .int 0, .ref m_hasImage, .ref m_tape, .ref m_key, .ref m_answered, .int 0, .int 0, .int 0, .ref m_goes, .int 0, .ref m_hotOnes, .ref m_indexed, .ref m_isChanged, .int 0, .ref m_valueNow, .int 0, .int (-1), .int 0, .ref m_didSome, .ref m_sizes, .ref m_ends])), (m_all, aI cs 51207 f_m_all)] := hD
    rcases hw_10 with hw_10 | hw_10
    · obtain ⟨er_11, hf_12⟩ := hw_10
      have hf_13 : 1 ≤ x ∧ x ≤ 8 := ⟨(w_le (d := 1) (x := x) (by decide)).mp hf_12.1, (w_ge (d := 8) (x := x) (by decide)).mp hf_12.2⟩
      subst er_11
      refine lv_if_ne (tgt := 33) hx hb dX9_groups_27 (by decide) (fun c_14 => ?_) (fun c_14 => absurd c_14 (by decide))
      refine lv_iconst (v := 0) hx hb dX9_groups_33 (by decide) ?_
      refine lv_istore_n (lv' := [(3, .int 0), (0, .ref md), (1, .int x), (2, .int y)]) hx hb dX9_groups_34 rfl hl (by decide) rfl (fun ls hl => ?_)
      refine lv_iconst (v := 0) hx hb dX9_groups_35 (by decide) ?_
      refine lv_istore (lv' := [(4, .int 0), (3, .int 0), (0, .ref md), (1, .int x), (2, .int y)]) hx hb dX9_groups_36 hl (by decide) rfl (fun ls hl => ?_)
      refine lv_iconst (v := 0) hx hb dX9_groups_38 (by decide) ?_
      refine lv_istore (lv' := [(5, .int 0), (4, .int 0), (3, .int 0), (0, .ref md), (1, .int x), (2, .int y)]) hx hb dX9_groups_39 hl (by decide) rfl (fun ls hl => ?_)
      refine lv_iconst (v := (-1)) hx hb dX9_groups_41 (by decide) ?_
      refine lv_istore (lv' := [(6, .int (-1)), (5, .int 0), (4, .int 0), (3, .int 0), (0, .ref md), (1, .int x), (2, .int y)]) hx hb dX9_groups_42 hl (by decide) rfl (fun ls hl => ?_)
      refine lv_iconst (v := 0) hx hb dX9_groups_44 (by decide) ?_
      refine lv_istore (lv' := [(7, .int 0), (6, .int (-1)), (5, .int 0), (4, .int 0), (3, .int 0), (0, .ref md), (1, .int x), (2, .int y)]) hx hb dX9_groups_45 hl (by decide) rfl (fun ls hl => ?_)
      refine lv_iload hx hb dX9_groups_47 (lv_at hl 0 rfl) ?_
      refine lv_aload_n hx hb dX9_groups_49 rfl (lv_at hl 5 rfl) ?_
      refine va_get (D := D) (ci := 9) (v := .ref m_all) (C := RX9) (T := TX9) (N := 25) hx hb hu in_X9 hown hK.1 hP 0 rfl rfl 1 (by decide) (hu _ u_1081) (fun _ h9 => h9) rfl dX9_groups_50 ?_
      refine lv_sipush (v := 1628) hx hb dX9_groups_53 (by decide) ?_
      refine va_iald hx hb hK.1 hP 1 0 rfl rfl (vin_c _ _ rfl) dX9_groups_56 ?_
      refine tpi (y := 0) ((z_all _ (cl_lt (vin_c _ _ rfl))).trans (by decide +kernel)) ?_
      refine lv_icmp_ge (tgt := 196) hx hb dX9_groups_57 (by decide) (fun c_15 => ?_) (fun c_15 => absurd (by decide) c_15)
      refine lv_iload_n hx hb dX9_groups_196 rfl (lv_at hl 7 rfl) ?_
      refine lv_if_ne (tgt := 204) hx hb dX9_groups_197 (by decide) (fun c_16 => ?_) (fun c_16 => ?_)
      · refine lv_iload hx hb dX9_groups_204 (lv_at hl 3 rfl) ?_
        exact hz () hP hD hS (by grind) [] rfl rfl (Nat.le_of_ble_eq_true rfl) (Nat.le_of_ble_eq_true rfl) .int rfl rfl dX9_groups_206
      · refine lv_iload_n hx hb dX9_groups_200 rfl (lv_at hl 4 rfl) ?_
        refine lv_goto (tgt := 206) hx hb dX9_groups_201 (by decide) ?_
        exact hz () hP hD hS (by grind) [] rfl rfl (Nat.le_of_ble_eq_true rfl) (Nat.le_of_ble_eq_true rfl) .int rfl rfl dX9_groups_206
    · obtain ⟨er_17, hf_18⟩ := hw_10
      have hf_19 : ¬ (1 ≤ x ∧ x ≤ 8) := fun h => hf_18 ⟨(w_le (d := 1) (x := x) (by decide)).mpr h.1, (w_ge (d := 8) (x := x) (by decide)).mpr h.2⟩
      subst er_17
      refine lv_if_ne (tgt := 33) hx hb dX9_groups_27 (by decide) (fun c_20 => absurd (by decide) c_20) (fun c_20 => ?_)
      refine lv_bipush (v := (-3)) hx hb dX9_groups_30 (by decide) ?_
      exact hz () hP hD hS (by grind) [] rfl rfl (Nat.le_of_ble_eq_true rfl) (Nat.le_of_ble_eq_true rfl) .int rfl rfl dX9_groups_32
  · obtain ⟨er_21, hf_22⟩ := hw_3
    have hf_23 : ¬ (0 ≤ y ∧ y ≤ 1) := fun h => hf_22 ⟨(w_le (d := 0) (x := y) (by decide)).mpr h.1, (w_ge (d := 1) (x := y) (by decide)).mpr h.2⟩
    subst er_21
    refine lv_if_ne (tgt := 18) hx hb dX9_groups_12 (by decide) (fun c_24 => absurd (by decide) c_24) (fun c_24 => ?_)
    refine lv_bipush (v := (-2)) hx hb dX9_groups_15 (by decide) ?_
    exact hz () hP hD hS (by grind) [] rfl rfl (Nat.le_of_ble_eq_true rfl) (Nat.le_of_ble_eq_true rfl) .int rfl rfl dX9_groups_17
abbrev rm_c_X9_alike : Room := { frames := 1, cells := 0, slots := 0, locals := 25 }
set_option maxHeartbeats 4000000 in
set_option maxRecDepth 100000 in
theorem c_X9_alike (l : Launch) (D : va_G) (cs : Nat → ClassId) (sz : Nat) (x : Int32) (md : Nat) (m_all : Nat) (f_m_all : Nat → Int32) (m_deeds : Nat) (m_trial : Nat) (m_hasImage : Nat) (m_tape : Nat) (m_key : Nat) (m_answered : Nat) (m_goes : Nat) (m_hotOnes : Nat) (m_indexed : Nat) (m_isChanged : Nat) (m_valueNow : Nat) (m_didSome : Nat) (m_sizes : Nat) (m_ends : Nat) (z_all : ∀ j, j < 51207 → f_m_all j = AL j) : cMi l yX9_alike (Cond.code yX9_alike cX9_alike 7 (some .int)) (rm_c_X9_alike) D cs [.ref md, .int x] sz [(md, .inr (9, [.int 0, .ref m_all, .ref m_deeds, .ref m_trial, .int 0, .ref m_hasImage, .ref m_tape, .ref m_key, .ref m_answered, .int 0, .int 0, .int 0, .ref m_goes, .int 0, .ref m_hotOnes, .ref m_indexed, .ref m_isChanged, .int 0, .ref m_valueNow, .int 0, .int (-1), .int 0, .ref m_didSome, .ref m_sizes, .ref m_ends])), (m_all, aI cs 51207 f_m_all)] (fun (r : Int32) (u : Unit) => ((r = (-2)) ∧ (x < 0 ∨ 1 < x)) ∨ ((r = 0) ∧ (¬ x < 0 ∧ ¬ 1 < x))) (fun (u : Unit) => []) := by
  refine kMet_i RX9 (by decide) rfl (Nat.le_of_ble_eq_true rfl) ?_
  intro p e s m below meth c ls A Qz H locs hx hb hml hown hin hu hK hsz hA hP hD hS hl hz
  subst hsz
  have hl : lv_has ls 7 [(0, .ref md), (1, .int x)] := hl
  refine lv_aload_n hx hb dX9_alike_0 rfl (lv_at hl 0 rfl) ?_
  refine lv_iconst (v := 0) hx hb dX9_alike_1 (by decide) ?_
  refine va_put (D := D) (ci := 9) (v := .int 0) (ty := tyX9 0) (C := RX9) (T := TX9) (N := 25) hx hb hu in_X9 tyX9 tyX9_ok nmX9 hown hK.1 hP hD hS 0 rfl rfl 0 (by decide) (hu _ u_1080) (fun _ h9 => h9) rfl (tyX9_ok 0 (by decide)) rfl rfl (Nat.le_of_ble_eq_true rfl) dX9_alike_2 (fun H locs hP hD hS => ?_)
  have hP : va_P D vwCl [(md, .inr (9, [.int 0, .ref m_all, .ref m_deeds, .ref m_trial, .int 0, .ref m_hasImage, .ref m_tape, .ref m_key, .ref m_answered, .int 0, .int 0, .int 0, .ref m_goes, .int 0, .ref m_hotOnes, .ref m_indexed, .ref m_isChanged, .int 0, .ref m_valueNow, .int 0, .int (-1), .int 0, .ref m_didSome, .ref m_sizes, .ref m_ends])), (m_all, aI cs 51207 f_m_all)] H := hP
  have hD : va_D A [(md, .inr (9, [.int 0, .ref m_all, .ref m_deeds, .ref m_trial, .int 0, .ref m_hasImage, .ref m_tape, .ref m_key, .ref m_answered, .int 0, .int 0, .int 0, .ref m_goes, .int 0, .ref m_hotOnes, .ref m_indexed, .ref m_isChanged, .int 0, .ref m_valueNow, .int 0, .int (-1), .int 0, .ref m_didSome, .ref m_sizes, .ref m_ends])), (m_all, aI cs 51207 f_m_all)] := hD
  refine lv_iload_n hx hb dX9_alike_5 rfl (lv_at hl 1 rfl) ?_
  refine lv_i2l (v := x.toInt64) hx hb dX9_alike_6 rfl ?_
  refine lv_lconst (v := 0) hx hb dX9_alike_7 (by decide) ?_
  refine lv_lconst (v := 1) hx hb dX9_alike_8 (by decide) ?_
  refine kS_i  (As := [.long x.toInt64, .long 0, .long 1]) (rest := []) (wc := []) (wr := [(md, .inr (9, [.int 0, .ref m_all, .ref m_deeds, .ref m_trial, .int 0, .ref m_hasImage, .ref m_tape, .ref m_key, .ref m_answered, .int 0, .int 0, .int 0, .ref m_goes, .int 0, .ref m_hotOnes, .ref m_indexed, .ref m_isChanged, .int 0, .ref m_valueNow, .int 0, .int (-1), .int 0, .ref m_didSome, .ref m_sizes, .ref m_ends])), (m_all, aI cs 51207 f_m_all)]) hx hb hml hown hu hK hP hD hS hA hl.1 (c_X9_within l D cs H.size x.toInt64 0 1) (gS u_1164 u_1165 u_76 u_1166) hd_X9_within ⟨(Nat.le_of_ble_eq_true rfl), (Nat.le_of_ble_eq_true rfl)⟩ [] [0, 1] rfl rfl rfl rfl (by decide) rfl rfl (Nat.le_of_ble_eq_true rfl) dX9_alike_9 ⟨(Nat.le_of_ble_eq_true rfl), (Nat.le_of_ble_eq_true rfl)⟩ (fun r_1 ut_2 H locs hw_3 hP hD hS => ?_)
  have hP : va_P D vwCl [(md, .inr (9, [.int 0, .ref m_all, .ref m_deeds, .ref m_trial, .int 0, .ref m_hasImage, .ref m_tape, .ref m_key, .ref m_answered, .int 0, .int 0, .int 0, .ref m_goes, .int 0, .ref m_hotOnes, .ref m_indexed, .ref m_isChanged, .int 0, .ref m_valueNow, .int 0, .int (-1), .int 0, .ref m_didSome, .ref m_sizes, .ref m_ends])), (m_all, aI cs 51207 f_m_all)] H := hP
  have hD : va_D A [(md, .inr (9, [.int 0, .ref m_all, .ref m_deeds, .ref m_trial, .int 0, .ref m_hasImage, .ref m_tape, .ref m_key, .ref m_answered, .int 0, .int 0, .int 0, .ref m_goes, .int 0, .ref m_hotOnes, .ref m_indexed, .ref m_isChanged, .int 0, .ref m_valueNow, .int 0, .int (-1), .int 0, .ref m_didSome, .ref m_sizes, .ref m_ends])), (m_all, aI cs 51207 f_m_all)] := hD
  rcases hw_3 with hw_3 | hw_3
  · obtain ⟨er_4, hf_5⟩ := hw_3
    have hf_6 : 0 ≤ x ∧ x ≤ 1 := ⟨(w_le (d := 0) (x := x) (by decide)).mp hf_5.1, (w_ge (d := 1) (x := x) (by decide)).mp hf_5.2⟩
    subst er_4
    refine lv_if_ne (tgt := 18) hx hb dX9_alike_12 (by decide) (fun c_7 => ?_) (fun c_7 => absurd c_7 (by decide))
    refine lv_iconst (v := 0) hx hb dX9_alike_18 (by decide) ?_
    refine lv_istore_n (lv' := [(2, .int 0), (0, .ref md), (1, .int x)]) hx hb dX9_alike_19 rfl hl (by decide) rfl (fun ls hl => ?_)
    refine lv_iconst (v := 0) hx hb dX9_alike_20 (by decide) ?_
    refine lv_istore_n (lv' := [(3, .int 0), (2, .int 0), (0, .ref md), (1, .int x)]) hx hb dX9_alike_21 rfl hl (by decide) rfl (fun ls hl => ?_)
    refine lv_iconst (v := (-1)) hx hb dX9_alike_22 (by decide) ?_
    refine lv_istore (lv' := [(4, .int (-1)), (3, .int 0), (2, .int 0), (0, .ref md), (1, .int x)]) hx hb dX9_alike_23 hl (by decide) rfl (fun ls hl => ?_)
    refine lv_iconst (v := 0) hx hb dX9_alike_25 (by decide) ?_
    refine lv_istore (lv' := [(5, .int 0), (4, .int (-1)), (3, .int 0), (2, .int 0), (0, .ref md), (1, .int x)]) hx hb dX9_alike_26 hl (by decide) rfl (fun ls hl => ?_)
    refine lv_iload hx hb dX9_alike_28 (lv_at hl 0 rfl) ?_
    refine lv_aload_n hx hb dX9_alike_30 rfl (lv_at hl 4 rfl) ?_
    refine va_get (D := D) (ci := 9) (v := .ref m_all) (C := RX9) (T := TX9) (N := 25) hx hb hu in_X9 hown hK.1 hP 0 rfl rfl 1 (by decide) (hu _ u_1081) (fun _ h9 => h9) rfl dX9_alike_31 ?_
    refine lv_sipush (v := 1628) hx hb dX9_alike_34 (by decide) ?_
    refine va_iald hx hb hK.1 hP 1 0 rfl rfl (vin_c _ _ rfl) dX9_alike_37 ?_
    refine tpi (y := 0) ((z_all _ (cl_lt (vin_c _ _ rfl))).trans (by decide +kernel)) ?_
    refine lv_icmp_ge (tgt := 116) hx hb dX9_alike_38 (by decide) (fun c_8 => ?_) (fun c_8 => absurd (by decide) c_8)
    refine lv_iload_n hx hb dX9_alike_116 rfl (lv_at hl 5 rfl) ?_
    refine lv_if_ne (tgt := 124) hx hb dX9_alike_117 (by decide) (fun c_9 => ?_) (fun c_9 => ?_)
    · refine lv_iload_n hx hb dX9_alike_124 rfl (lv_at hl 2 rfl) ?_
      exact hz () hP hD hS (by grind) [] rfl rfl (Nat.le_of_ble_eq_true rfl) (Nat.le_of_ble_eq_true rfl) .int rfl rfl dX9_alike_125
    · refine lv_iload_n hx hb dX9_alike_120 rfl (lv_at hl 3 rfl) ?_
      refine lv_goto (tgt := 125) hx hb dX9_alike_121 (by decide) ?_
      exact hz () hP hD hS (by grind) [] rfl rfl (Nat.le_of_ble_eq_true rfl) (Nat.le_of_ble_eq_true rfl) .int rfl rfl dX9_alike_125
  · obtain ⟨er_10, hf_11⟩ := hw_3
    have hf_12 : ¬ (0 ≤ x ∧ x ≤ 1) := fun h => hf_11 ⟨(w_le (d := 0) (x := x) (by decide)).mpr h.1, (w_ge (d := 1) (x := x) (by decide)).mpr h.2⟩
    subst er_10
    refine lv_if_ne (tgt := 18) hx hb dX9_alike_12 (by decide) (fun c_13 => absurd (by decide) c_13) (fun c_13 => ?_)
    refine lv_bipush (v := (-2)) hx hb dX9_alike_15 (by decide) ?_
    exact hz () hP hD hS (by grind) [] rfl rfl (Nat.le_of_ble_eq_true rfl) (Nat.le_of_ble_eq_true rfl) .int rfl rfl dX9_alike_17
