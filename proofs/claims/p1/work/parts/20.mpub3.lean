theorem u_1507 : Cond.constantLong "KeyDriveModel" 288 24 ∈ U0 := um 1507 (by decide +kernel) (by decide +kernel)
theorem u_1223 : Cond.code yX9_bringsBack prog_11_method_7_code 2 none ∈ U0 := um 1223 (by decide +kernel) (by decide +kernel)
theorem u_1220 : Cond.methodLink "KeyDriveModel" 179 yX9_bringsBack ∈ U0 := um 1220 (by decide +kernel) (by decide +kernel)
theorem u_1222 : Cond.instanceMethod yX9_bringsBack ∈ U0 := um 1222 (by decide +kernel) (by decide +kernel)
theorem u_21 : Cond.selects "KeyDriveModel" yX9_bringsBack yX9_bringsBack ∈ U0 := um 21 (by decide +kernel) (by decide +kernel)
theorem u_1518 : Cond.code yX9_isSize prog_11_method_89_code 1 (some .boolean) ∈ U0 := um 1518 (by decide +kernel) (by decide +kernel)
theorem u_1516 : Cond.methodLink "KeyDriveModel" 294 yX9_isSize ∈ U0 := um 1516 (by decide +kernel) (by decide +kernel)
theorem u_1517 : Cond.static yX9_isSize ∈ U0 := um 1517 (by decide +kernel) (by decide +kernel)
theorem u_1183 : Cond.code yX9_makesPlace prog_11_method_35_code 4 (some .int) ∈ U0 := um 1183 (by decide +kernel) (by decide +kernel)
theorem u_1180 : Cond.methodLink "KeyDriveModel" 176 yX9_makesPlace ∈ U0 := um 1180 (by decide +kernel) (by decide +kernel)
theorem u_1182 : Cond.instanceMethod yX9_makesPlace ∈ U0 := um 1182 (by decide +kernel) (by decide +kernel)
theorem u_11 : Cond.selects "KeyDriveModel" yX9_makesPlace yX9_makesPlace ∈ U0 := um 11 (by decide +kernel) (by decide +kernel)
theorem u_1536 : Cond.code yX9_laysSizes prog_11_method_93_code 6 (some .int) ∈ U0 := um 1536 (by decide +kernel) (by decide +kernel)
theorem u_1533 : Cond.methodLink "KeyDriveModel" 301 yX9_laysSizes ∈ U0 := um 1533 (by decide +kernel) (by decide +kernel)
theorem u_1535 : Cond.instanceMethod yX9_laysSizes ∈ U0 := um 1535 (by decide +kernel) (by decide +kernel)
theorem u_61 : Cond.selects "KeyDriveModel" yX9_laysSizes yX9_laysSizes ∈ U0 := um 61 (by decide +kernel) (by decide +kernel)
theorem u_1544 : Cond.code yX9_packsBy prog_11_method_95_code 7 (some .int) ∈ U0 := um 1544 (by decide +kernel) (by decide +kernel)
theorem u_1541 : Cond.methodLink "KeyDriveModel" 305 yX9_packsBy ∈ U0 := um 1541 (by decide +kernel) (by decide +kernel)
theorem u_1543 : Cond.instanceMethod yX9_packsBy ∈ U0 := um 1543 (by decide +kernel) (by decide +kernel)
theorem u_63 : Cond.selects "KeyDriveModel" yX9_packsBy yX9_packsBy ∈ U0 := um 63 (by decide +kernel) (by decide +kernel)
theorem u_1269 : Cond.constant "KeyDriveModel" 111 268435456 ∈ U0 := um 1269 (by decide +kernel) (by decide +kernel)
theorem u_1293 : Cond.code yX9_placeOfHot prog_11_method_37_code 3 (some .int) ∈ U0 := um 1293 (by decide +kernel) (by decide +kernel)
theorem u_1290 : Cond.methodLink "KeyDriveModel" 161 yX9_placeOfHot ∈ U0 := um 1290 (by decide +kernel) (by decide +kernel)
theorem u_1292 : Cond.instanceMethod yX9_placeOfHot ∈ U0 := um 1292 (by decide +kernel) (by decide +kernel)
theorem u_38 : Cond.selects "KeyDriveModel" yX9_placeOfHot yX9_placeOfHot ∈ U0 := um 38 (by decide +kernel) (by decide +kernel)
theorem u_1569 : Cond.constantLong "KeyDriveModel" 311 10 ∈ U0 := um 1569 (by decide +kernel) (by decide +kernel)
theorem dX9_clear_0 : decode cX9_clear 0 = .ok (.aload_n 0, 1) := by decide +kernel
theorem dX9_clear_1 : decode cX9_clear 1 = .ok (.iconst 0, 1) := by decide +kernel
theorem dX9_clear_2 : decode cX9_clear 2 = .ok (.putfield 1, 3) := by decide +kernel
theorem dX9_clear_5 : decode cX9_clear 5 = .ok (.iload_n 1, 1) := by decide +kernel
theorem dX9_clear_6 : decode cX9_clear 6 = .ok (.i2l, 1) := by decide +kernel
theorem dX9_clear_7 : decode cX9_clear 7 = .ok (.lconst 1, 1) := by decide +kernel
theorem dX9_clear_8 : decode cX9_clear 8 = .ok (.ldc2_w 288, 3) := by decide +kernel
theorem dX9_clear_11 : decode cX9_clear 11 = .ok (.invokestatic 80, 3) := by decide +kernel
theorem dX9_clear_14 : decode cX9_clear 14 = .ok (.ifCond .ne 6, 3) := by decide +kernel
theorem dX9_clear_17 : decode cX9_clear 17 = .ok (.bipush (-3), 2) := by decide +kernel
theorem dX9_clear_19 : decode cX9_clear 19 = .ok (.ireturn, 1) := by decide +kernel
theorem dX9_clear_20 : decode cX9_clear 20 = .ok (.aload_n 0, 1) := by decide +kernel
theorem dX9_clear_21 : decode cX9_clear 21 = .ok (.invokevirtual 218, 3) := by decide +kernel
theorem dX9_clear_24 : decode cX9_clear 24 = .ok (.iconst 0, 1) := by decide +kernel
theorem dX9_clear_25 : decode cX9_clear 25 = .ok (.istore_n 2, 1) := by decide +kernel
theorem dX9_clear_26 : decode cX9_clear 26 = .ok (.aload_n 0, 1) := by decide +kernel
theorem dX9_clear_27 : decode cX9_clear 27 = .ok (.aload_n 0, 1) := by decide +kernel
theorem dX9_clear_28 : decode cX9_clear 28 = .ok (.getfield 14, 3) := by decide +kernel
theorem dX9_clear_31 : decode cX9_clear 31 = .ok (.iconst 3, 1) := by decide +kernel
theorem dX9_clear_32 : decode cX9_clear 32 = .ok (.iaload, 1) := by decide +kernel
theorem dX9_clear_33 : decode cX9_clear 33 = .ok (.invokevirtual 148, 3) := by decide +kernel
theorem dX9_clear_36 : decode cX9_clear 36 = .ok (.istore_n 3, 1) := by decide +kernel
theorem dX9_clear_37 : decode cX9_clear 37 = .ok (.iload_n 3, 1) := by decide +kernel
theorem dX9_clear_38 : decode cX9_clear 38 = .ok (.iconst (-1), 1) := by decide +kernel
theorem dX9_clear_39 : decode cX9_clear 39 = .ok (.if_icmp .eq 34, 3) := by decide +kernel
theorem dX9_clear_73 : decode cX9_clear 73 = .ok (.iload_n 2, 1) := by decide +kernel
theorem dX9_clear_74 : decode cX9_clear 74 = .ok (.ireturn, 1) := by decide +kernel
theorem dX9_trimmed_0 : decode cX9_trimmed 0 = .ok (.aload_n 0, 1) := by decide +kernel
theorem dX9_trimmed_1 : decode cX9_trimmed 1 = .ok (.iconst 0, 1) := by decide +kernel
theorem dX9_trimmed_2 : decode cX9_trimmed 2 = .ok (.putfield 1, 3) := by decide +kernel
theorem dX9_trimmed_5 : decode cX9_trimmed 5 = .ok (.iload_n 1, 1) := by decide +kernel
theorem dX9_trimmed_6 : decode cX9_trimmed 6 = .ok (.i2l, 1) := by decide +kernel
theorem dX9_trimmed_7 : decode cX9_trimmed 7 = .ok (.lconst 0, 1) := by decide +kernel
theorem dX9_trimmed_8 : decode cX9_trimmed 8 = .ok (.ldc2_w 230, 3) := by decide +kernel
theorem dX9_trimmed_11 : decode cX9_trimmed 11 = .ok (.invokestatic 80, 3) := by decide +kernel
theorem dX9_trimmed_14 : decode cX9_trimmed 14 = .ok (.ifCond .ne 6, 3) := by decide +kernel
theorem dX9_trimmed_17 : decode cX9_trimmed 17 = .ok (.bipush (-3), 2) := by decide +kernel
theorem dX9_trimmed_19 : decode cX9_trimmed 19 = .ok (.ireturn, 1) := by decide +kernel
theorem dX9_trimmed_20 : decode cX9_trimmed 20 = .ok (.aload_n 0, 1) := by decide +kernel
theorem dX9_trimmed_21 : decode cX9_trimmed 21 = .ok (.invokevirtual 65, 3) := by decide +kernel
theorem dX9_trimmed_24 : decode cX9_trimmed 24 = .ok (.iconst 0, 1) := by decide +kernel
theorem dX9_trimmed_25 : decode cX9_trimmed 25 = .ok (.istore_n 2, 1) := by decide +kernel
theorem dX9_trimmed_26 : decode cX9_trimmed 26 = .ok (.aload_n 0, 1) := by decide +kernel
theorem dX9_trimmed_27 : decode cX9_trimmed 27 = .ok (.iload_n 1, 1) := by decide +kernel
theorem dX9_trimmed_28 : decode cX9_trimmed 28 = .ok (.invokevirtual 148, 3) := by decide +kernel
theorem dX9_trimmed_31 : decode cX9_trimmed 31 = .ok (.istore_n 3, 1) := by decide +kernel
theorem dX9_trimmed_32 : decode cX9_trimmed 32 = .ok (.iload_n 3, 1) := by decide +kernel
theorem dX9_trimmed_33 : decode cX9_trimmed 33 = .ok (.iconst (-1), 1) := by decide +kernel
theorem dX9_trimmed_34 : decode cX9_trimmed 34 = .ok (.if_icmp .eq 20, 3) := by decide +kernel
theorem dX9_trimmed_54 : decode cX9_trimmed 54 = .ok (.aload_n 0, 1) := by decide +kernel
theorem dX9_trimmed_55 : decode cX9_trimmed 55 = .ok (.invokevirtual 179, 3) := by decide +kernel
theorem dX9_trimmed_58 : decode cX9_trimmed 58 = .ok (.iload_n 2, 1) := by decide +kernel
theorem dX9_trimmed_59 : decode cX9_trimmed 59 = .ok (.ireturn, 1) := by decide +kernel
theorem dX9_sure_0 : decode cX9_sure 0 = .ok (.aload_n 0, 1) := by decide +kernel
theorem dX9_sure_1 : decode cX9_sure 1 = .ok (.iconst 0, 1) := by decide +kernel
theorem dX9_sure_2 : decode cX9_sure 2 = .ok (.putfield 1, 3) := by decide +kernel
theorem dX9_sure_5 : decode cX9_sure 5 = .ok (.iload_n 1, 1) := by decide +kernel
theorem dX9_sure_6 : decode cX9_sure 6 = .ok (.invokestatic 294, 3) := by decide +kernel
theorem dX9_sure_9 : decode cX9_sure 9 = .ok (.ifCond .ne 6, 3) := by decide +kernel
theorem dX9_sure_12 : decode cX9_sure 12 = .ok (.bipush (-3), 2) := by decide +kernel
theorem dX9_sure_14 : decode cX9_sure 14 = .ok (.ireturn, 1) := by decide +kernel
theorem dX9_sure_15 : decode cX9_sure 15 = .ok (.iconst 0, 1) := by decide +kernel
theorem dX9_sure_16 : decode cX9_sure 16 = .ok (.istore_n 2, 1) := by decide +kernel
theorem dX9_sure_17 : decode cX9_sure 17 = .ok (.iconst 0, 1) := by decide +kernel
theorem dX9_sure_18 : decode cX9_sure 18 = .ok (.istore_n 3, 1) := by decide +kernel
theorem dX9_sure_19 : decode cX9_sure 19 = .ok (.iload_n 3, 1) := by decide +kernel
theorem dX9_sure_20 : decode cX9_sure 20 = .ok (.bipush 24, 2) := by decide +kernel
theorem dX9_sure_22 : decode cX9_sure 22 = .ok (.if_icmp .ge 53, 3) := by decide +kernel
theorem dX9_sure_25 : decode cX9_sure 25 = .ok (.aload_n 0, 1) := by decide +kernel
theorem dX9_sure_26 : decode cX9_sure 26 = .ok (.iload_n 3, 1) := by decide +kernel
theorem dX9_sure_27 : decode cX9_sure 27 = .ok (.invokevirtual 126, 3) := by decide +kernel
theorem dX9_sure_30 : decode cX9_sure 30 = .ok (.ifCond .ne 39, 3) := by decide +kernel
theorem dX9_sure_69 : decode cX9_sure 69 = .ok (.iinc 3 1, 3) := by decide +kernel
theorem dX9_sure_72 : decode cX9_sure 72 = .ok (.goto (-53), 3) := by decide +kernel
theorem dX9_sure_75 : decode cX9_sure 75 = .ok (.aload_n 0, 1) := by decide +kernel
theorem dX9_sure_76 : decode cX9_sure 76 = .ok (.invokevirtual 132, 3) := by decide +kernel
theorem dX9_sure_79 : decode cX9_sure 79 = .ok (.istore_n 3, 1) := by decide +kernel
theorem dX9_sure_80 : decode cX9_sure 80 = .ok (.iload_n 3, 1) := by decide +kernel
theorem dX9_sure_81 : decode cX9_sure 81 = .ok (.ifCond .ne 7, 3) := by decide +kernel
theorem dX9_sure_88 : decode cX9_sure 88 = .ok (.iload_n 2, 1) := by decide +kernel
theorem dX9_sure_89 : decode cX9_sure 89 = .ok (.iload_n 3, 1) := by decide +kernel
theorem dX9_sure_90 : decode cX9_sure 90 = .ok (.iconst 1, 1) := by decide +kernel
theorem dX9_sure_91 : decode cX9_sure 91 = .ok (.isub, 1) := by decide +kernel
theorem dX9_sure_92 : decode cX9_sure 92 = .ok (.bipush 64, 2) := by decide +kernel
theorem dX9_sure_94 : decode cX9_sure 94 = .ok (.iload_n 1, 1) := by decide +kernel
theorem dX9_sure_95 : decode cX9_sure 95 = .ok (.idiv, 1) := by decide +kernel
theorem dX9_sure_96 : decode cX9_sure 96 = .ok (.imul, 1) := by decide +kernel
theorem dX9_sure_97 : decode cX9_sure 97 = .ok (.iadd, 1) := by decide +kernel
theorem dX9_sure_98 : decode cX9_sure 98 = .ok (.ireturn, 1) := by decide +kernel
theorem dX9_would_0 : decode cX9_would 0 = .ok (.aload_n 0, 1) := by decide +kernel
theorem dX9_would_1 : decode cX9_would 1 = .ok (.iconst 0, 1) := by decide +kernel
theorem dX9_would_2 : decode cX9_would 2 = .ok (.putfield 1, 3) := by decide +kernel
theorem dX9_would_5 : decode cX9_would 5 = .ok (.iload_n 1, 1) := by decide +kernel
theorem dX9_would_6 : decode cX9_would 6 = .ok (.invokestatic 294, 3) := by decide +kernel
theorem dX9_would_9 : decode cX9_would 9 = .ok (.ifCond .ne 6, 3) := by decide +kernel
theorem dX9_would_12 : decode cX9_would 12 = .ok (.bipush (-3), 2) := by decide +kernel
theorem dX9_would_14 : decode cX9_would 14 = .ok (.ireturn, 1) := by decide +kernel
theorem dX9_would_15 : decode cX9_would 15 = .ok (.aload_n 0, 1) := by decide +kernel
theorem dX9_would_16 : decode cX9_would 16 = .ok (.invokevirtual 65, 3) := by decide +kernel
theorem dX9_would_19 : decode cX9_would 19 = .ok (.aload_n 0, 1) := by decide +kernel
theorem dX9_would_20 : decode cX9_would 20 = .ok (.iload_n 1, 1) := by decide +kernel
theorem dX9_would_21 : decode cX9_would 21 = .ok (.invokevirtual 176, 3) := by decide +kernel
theorem dX9_would_24 : decode cX9_would 24 = .ok (.istore_n 2, 1) := by decide +kernel
theorem dX9_would_25 : decode cX9_would 25 = .ok (.aload_n 0, 1) := by decide +kernel
theorem dX9_would_26 : decode cX9_would 26 = .ok (.invokevirtual 179, 3) := by decide +kernel
theorem dX9_would_29 : decode cX9_would 29 = .ok (.iload_n 2, 1) := by decide +kernel
theorem dX9_would_30 : decode cX9_would 30 = .ok (.iconst (-1), 1) := by decide +kernel
theorem dX9_would_31 : decode cX9_would 31 = .ok (.if_icmp .ne 7, 3) := by decide +kernel
theorem dX9_would_38 : decode cX9_would 38 = .ok (.aload_n 0, 1) := by decide +kernel
theorem dX9_would_39 : decode cX9_would 39 = .ok (.getfield 145, 3) := by decide +kernel
theorem dX9_would_42 : decode cX9_would 42 = .ok (.ireturn, 1) := by decide +kernel
theorem dX9_packs_0 : decode cX9_packs 0 = .ok (.aload_n 0, 1) := by decide +kernel
theorem dX9_packs_1 : decode cX9_packs 1 = .ok (.iconst 0, 1) := by decide +kernel
theorem dX9_packs_2 : decode cX9_packs 2 = .ok (.putfield 1, 3) := by decide +kernel
theorem dX9_packs_5 : decode cX9_packs 5 = .ok (.iload_n 1, 1) := by decide +kernel
theorem dX9_packs_6 : decode cX9_packs 6 = .ok (.i2l, 1) := by decide +kernel
theorem dX9_packs_7 : decode cX9_packs 7 = .ok (.lconst 0, 1) := by decide +kernel
theorem dX9_packs_8 : decode cX9_packs 8 = .ok (.ldc2_w 230, 3) := by decide +kernel
theorem dX9_packs_11 : decode cX9_packs 11 = .ok (.invokestatic 80, 3) := by decide +kernel
theorem dX9_packs_14 : decode cX9_packs 14 = .ok (.ifCond .eq 16, 3) := by decide +kernel
theorem dX9_packs_17 : decode cX9_packs 17 = .ok (.aload_n 0, 1) := by decide +kernel
theorem dX9_packs_18 : decode cX9_packs 18 = .ok (.iload_n 1, 1) := by decide +kernel
theorem dX9_packs_19 : decode cX9_packs 19 = .ok (.aload_n 0, 1) := by decide +kernel
theorem dX9_packs_20 : decode cX9_packs 20 = .ok (.iconst 0, 1) := by decide +kernel
theorem dX9_packs_21 : decode cX9_packs 21 = .ok (.invokevirtual 301, 3) := by decide +kernel
theorem dX9_packs_24 : decode cX9_packs 24 = .ok (.invokevirtual 305, 3) := by decide +kernel
theorem dX9_packs_27 : decode cX9_packs 27 = .ok (.goto 5, 3) := by decide +kernel
theorem dX9_packs_30 : decode cX9_packs 30 = .ok (.bipush (-3), 2) := by decide +kernel
theorem dX9_packs_32 : decode cX9_packs 32 = .ok (.ireturn, 1) := by decide +kernel
theorem dX9_best_0 : decode cX9_best 0 = .ok (.aload_n 0, 1) := by decide +kernel
theorem dX9_best_1 : decode cX9_best 1 = .ok (.iconst 0, 1) := by decide +kernel
theorem dX9_best_2 : decode cX9_best 2 = .ok (.putfield 1, 3) := by decide +kernel
theorem dX9_best_5 : decode cX9_best 5 = .ok (.iload_n 1, 1) := by decide +kernel
theorem dX9_best_6 : decode cX9_best 6 = .ok (.i2l, 1) := by decide +kernel
theorem dX9_best_7 : decode cX9_best 7 = .ok (.lconst 0, 1) := by decide +kernel
theorem dX9_best_8 : decode cX9_best 8 = .ok (.lconst 1, 1) := by decide +kernel
theorem dX9_best_9 : decode cX9_best 9 = .ok (.invokestatic 80, 3) := by decide +kernel
theorem dX9_best_12 : decode cX9_best 12 = .ok (.ifCond .ne 6, 3) := by decide +kernel
theorem dX9_best_15 : decode cX9_best 15 = .ok (.bipush (-2), 2) := by decide +kernel
theorem dX9_best_17 : decode cX9_best 17 = .ok (.ireturn, 1) := by decide +kernel
theorem dX9_best_18 : decode cX9_best 18 = .ok (.iload_n 1, 1) := by decide +kernel
theorem dX9_best_19 : decode cX9_best 19 = .ok (.iconst 1, 1) := by decide +kernel
theorem dX9_best_20 : decode cX9_best 20 = .ok (.if_icmp .ne 14, 3) := by decide +kernel
theorem dX9_best_23 : decode cX9_best 23 = .ok (.aload_n 0, 1) := by decide +kernel
theorem dX9_best_24 : decode cX9_best 24 = .ok (.iconst 1, 1) := by decide +kernel
theorem dX9_best_25 : decode cX9_best 25 = .ok (.aload_n 0, 1) := by decide +kernel
theorem dX9_best_26 : decode cX9_best 26 = .ok (.iconst 1, 1) := by decide +kernel
theorem dX9_best_27 : decode cX9_best 27 = .ok (.invokevirtual 301, 3) := by decide +kernel
theorem dX9_best_30 : decode cX9_best 30 = .ok (.invokevirtual 305, 3) := by decide +kernel
theorem dX9_best_33 : decode cX9_best 33 = .ok (.ireturn, 1) := by decide +kernel
theorem dX9_best_34 : decode cX9_best 34 = .ok (.aload_n 0, 1) := by decide +kernel
theorem dX9_best_35 : decode cX9_best 35 = .ok (.iconst 0, 1) := by decide +kernel
theorem dX9_best_36 : decode cX9_best 36 = .ok (.invokevirtual 301, 3) := by decide +kernel
theorem dX9_best_39 : decode cX9_best 39 = .ok (.istore_n 2, 1) := by decide +kernel
theorem dX9_best_40 : decode cX9_best 40 = .ok (.iconst (-1), 1) := by decide +kernel
theorem dX9_best_41 : decode cX9_best 41 = .ok (.istore_n 3, 1) := by decide +kernel
theorem dX9_best_42 : decode cX9_best 42 = .ok (.ldc 111, 2) := by decide +kernel
theorem dX9_best_44 : decode cX9_best 44 = .ok (.istore 4, 2) := by decide +kernel
theorem dX9_best_46 : decode cX9_best 46 = .ok (.iconst 0, 1) := by decide +kernel
theorem dX9_best_47 : decode cX9_best 47 = .ok (.istore 5, 2) := by decide +kernel
theorem dX9_best_49 : decode cX9_best 49 = .ok (.iload 5, 2) := by decide +kernel
theorem dX9_best_51 : decode cX9_best 51 = .ok (.iconst 3, 1) := by decide +kernel
theorem dX9_best_52 : decode cX9_best 52 = .ok (.if_icmp .ge 35, 3) := by decide +kernel
theorem dX9_best_55 : decode cX9_best 55 = .ok (.aload_n 0, 1) := by decide +kernel
theorem dX9_best_56 : decode cX9_best 56 = .ok (.iload 5, 2) := by decide +kernel
theorem dX9_best_58 : decode cX9_best 58 = .ok (.iload_n 2, 1) := by decide +kernel
theorem dX9_best_59 : decode cX9_best 59 = .ok (.invokevirtual 305, 3) := by decide +kernel
theorem dX9_best_62 : decode cX9_best 62 = .ok (.istore 6, 2) := by decide +kernel
theorem dX9_best_64 : decode cX9_best 64 = .ok (.iload 6, 2) := by decide +kernel
theorem dX9_best_66 : decode cX9_best 66 = .ok (.iload 4, 2) := by decide +kernel
theorem dX9_best_68 : decode cX9_best 68 = .ok (.if_icmp .lt 6, 3) := by decide +kernel
theorem dX9_best_71 : decode cX9_best 71 = .ok (.goto 10, 3) := by decide +kernel
theorem dX9_best_74 : decode cX9_best 74 = .ok (.iload 5, 2) := by decide +kernel
theorem dX9_best_76 : decode cX9_best 76 = .ok (.istore_n 3, 1) := by decide +kernel
theorem dX9_best_77 : decode cX9_best 77 = .ok (.iload 6, 2) := by decide +kernel
theorem dX9_best_79 : decode cX9_best 79 = .ok (.istore 4, 2) := by decide +kernel
theorem dX9_best_81 : decode cX9_best 81 = .ok (.iinc 5 1, 3) := by decide +kernel
theorem dX9_best_84 : decode cX9_best 84 = .ok (.goto (-35), 3) := by decide +kernel
theorem dX9_best_87 : decode cX9_best 87 = .ok (.iload_n 3, 1) := by decide +kernel
theorem dX9_best_88 : decode cX9_best 88 = .ok (.ireturn, 1) := by decide +kernel
theorem dX9_wear_0 : decode cX9_wear 0 = .ok (.aload_n 0, 1) := by decide +kernel
theorem dX9_wear_1 : decode cX9_wear 1 = .ok (.iconst 0, 1) := by decide +kernel
theorem dX9_wear_2 : decode cX9_wear 2 = .ok (.putfield 1, 3) := by decide +kernel
theorem dX9_wear_5 : decode cX9_wear 5 = .ok (.iload_n 1, 1) := by decide +kernel
theorem dX9_wear_6 : decode cX9_wear 6 = .ok (.i2l, 1) := by decide +kernel
theorem dX9_wear_7 : decode cX9_wear 7 = .ok (.lconst 0, 1) := by decide +kernel
theorem dX9_wear_8 : decode cX9_wear 8 = .ok (.ldc2_w 286, 3) := by decide +kernel
theorem dX9_wear_11 : decode cX9_wear 11 = .ok (.invokestatic 80, 3) := by decide +kernel
theorem dX9_wear_14 : decode cX9_wear 14 = .ok (.ifCond .ne 6, 3) := by decide +kernel
theorem dX9_wear_17 : decode cX9_wear 17 = .ok (.bipush (-2), 2) := by decide +kernel
theorem dX9_wear_19 : decode cX9_wear 19 = .ok (.ireturn, 1) := by decide +kernel
theorem dX9_wear_20 : decode cX9_wear 20 = .ok (.iload_n 1, 1) := by decide +kernel
theorem dX9_wear_21 : decode cX9_wear 21 = .ok (.iconst 3, 1) := by decide +kernel
theorem dX9_wear_22 : decode cX9_wear 22 = .ok (.if_icmp .ge 12, 3) := by decide +kernel
theorem dX9_wear_25 : decode cX9_wear 25 = .ok (.aload_n 0, 1) := by decide +kernel
theorem dX9_wear_26 : decode cX9_wear 26 = .ok (.getfield 14, 3) := by decide +kernel
theorem dX9_wear_29 : decode cX9_wear 29 = .ok (.iconst 4, 1) := by decide +kernel
theorem dX9_wear_30 : decode cX9_wear 30 = .ok (.iload_n 1, 1) := by decide +kernel
theorem dX9_wear_31 : decode cX9_wear 31 = .ok (.iadd, 1) := by decide +kernel
theorem dX9_wear_32 : decode cX9_wear 32 = .ok (.iaload, 1) := by decide +kernel
theorem dX9_wear_33 : decode cX9_wear 33 = .ok (.ireturn, 1) := by decide +kernel
theorem dX9_wear_34 : decode cX9_wear 34 = .ok (.iconst 0, 1) := by decide +kernel
theorem dX9_wear_35 : decode cX9_wear 35 = .ok (.istore_n 2, 1) := by decide +kernel
theorem dX9_wear_36 : decode cX9_wear 36 = .ok (.ldc 111, 2) := by decide +kernel
theorem dX9_wear_38 : decode cX9_wear 38 = .ok (.istore_n 3, 1) := by decide +kernel
theorem dX9_wear_39 : decode cX9_wear 39 = .ok (.iconst 0, 1) := by decide +kernel
theorem dX9_wear_40 : decode cX9_wear 40 = .ok (.istore 4, 2) := by decide +kernel
theorem dX9_wear_42 : decode cX9_wear 42 = .ok (.iload 4, 2) := by decide +kernel
theorem dX9_wear_44 : decode cX9_wear 44 = .ok (.bipush 24, 2) := by decide +kernel
theorem dX9_wear_46 : decode cX9_wear 46 = .ok (.if_icmp .ge 67, 3) := by decide +kernel
theorem dX9_wear_49 : decode cX9_wear 49 = .ok (.aload_n 0, 1) := by decide +kernel
theorem dX9_wear_50 : decode cX9_wear 50 = .ok (.getfield 14, 3) := by decide +kernel
theorem dX9_wear_53 : decode cX9_wear 53 = .ok (.bipush 31, 2) := by decide +kernel
theorem dX9_wear_55 : decode cX9_wear 55 = .ok (.iload 4, 2) := by decide +kernel
theorem dX9_wear_57 : decode cX9_wear 57 = .ok (.iadd, 1) := by decide +kernel
theorem dX9_wear_58 : decode cX9_wear 58 = .ok (.iaload, 1) := by decide +kernel
theorem dX9_wear_59 : decode cX9_wear 59 = .ok (.iload_n 2, 1) := by decide +kernel
theorem dX9_wear_60 : decode cX9_wear 60 = .ok (.if_icmp .le 16, 3) := by decide +kernel
theorem dX9_wear_76 : decode cX9_wear 76 = .ok (.iload_n 2, 1) := by decide +kernel
theorem dX9_wear_77 : decode cX9_wear 77 = .ok (.istore_n 2, 1) := by decide +kernel
theorem dX9_wear_78 : decode cX9_wear 78 = .ok (.aload_n 0, 1) := by decide +kernel
theorem dX9_wear_79 : decode cX9_wear 79 = .ok (.getfield 14, 3) := by decide +kernel
theorem dX9_wear_82 : decode cX9_wear 82 = .ok (.bipush 31, 2) := by decide +kernel
theorem dX9_wear_84 : decode cX9_wear 84 = .ok (.iload 4, 2) := by decide +kernel
theorem dX9_wear_86 : decode cX9_wear 86 = .ok (.iadd, 1) := by decide +kernel
theorem dX9_wear_87 : decode cX9_wear 87 = .ok (.iaload, 1) := by decide +kernel
theorem dX9_wear_88 : decode cX9_wear 88 = .ok (.iload_n 3, 1) := by decide +kernel
theorem dX9_wear_89 : decode cX9_wear 89 = .ok (.if_icmp .ge 16, 3) := by decide +kernel
theorem dX9_wear_92 : decode cX9_wear 92 = .ok (.aload_n 0, 1) := by decide +kernel
theorem dX9_wear_93 : decode cX9_wear 93 = .ok (.getfield 14, 3) := by decide +kernel
theorem dX9_wear_96 : decode cX9_wear 96 = .ok (.bipush 31, 2) := by decide +kernel
theorem dX9_wear_98 : decode cX9_wear 98 = .ok (.iload 4, 2) := by decide +kernel
theorem dX9_wear_100 : decode cX9_wear 100 = .ok (.iadd, 1) := by decide +kernel
theorem dX9_wear_101 : decode cX9_wear 101 = .ok (.iaload, 1) := by decide +kernel
theorem dX9_wear_102 : decode cX9_wear 102 = .ok (.goto 4, 3) := by decide +kernel
theorem dX9_wear_105 : decode cX9_wear 105 = .ok (.iload_n 3, 1) := by decide +kernel
theorem dX9_wear_106 : decode cX9_wear 106 = .ok (.istore_n 3, 1) := by decide +kernel
theorem dX9_wear_107 : decode cX9_wear 107 = .ok (.iinc 4 1, 3) := by decide +kernel
theorem dX9_wear_110 : decode cX9_wear 110 = .ok (.goto (-68), 3) := by decide +kernel
theorem dX9_wear_113 : decode cX9_wear 113 = .ok (.iload_n 1, 1) := by decide +kernel
theorem dX9_wear_114 : decode cX9_wear 114 = .ok (.iconst 3, 1) := by decide +kernel
theorem dX9_wear_115 : decode cX9_wear 115 = .ok (.if_icmp .ne 7, 3) := by decide +kernel
theorem dX9_wear_118 : decode cX9_wear 118 = .ok (.iload_n 2, 1) := by decide +kernel
theorem dX9_wear_119 : decode cX9_wear 119 = .ok (.goto 4, 3) := by decide +kernel
theorem dX9_wear_122 : decode cX9_wear 122 = .ok (.iload_n 3, 1) := by decide +kernel
theorem dX9_wear_123 : decode cX9_wear 123 = .ok (.ireturn, 1) := by decide +kernel
theorem dX9_bucket_0 : decode cX9_bucket 0 = .ok (.aload_n 0, 1) := by decide +kernel
theorem dX9_bucket_1 : decode cX9_bucket 1 = .ok (.iconst 0, 1) := by decide +kernel
theorem dX9_bucket_2 : decode cX9_bucket 2 = .ok (.putfield 1, 3) := by decide +kernel
theorem dX9_bucket_5 : decode cX9_bucket 5 = .ok (.iload_n 1, 1) := by decide +kernel
theorem dX9_bucket_6 : decode cX9_bucket 6 = .ok (.i2l, 1) := by decide +kernel
theorem dX9_bucket_7 : decode cX9_bucket 7 = .ok (.lconst 0, 1) := by decide +kernel
theorem dX9_bucket_8 : decode cX9_bucket 8 = .ok (.ldc2_w 266, 3) := by decide +kernel
theorem dX9_bucket_11 : decode cX9_bucket 11 = .ok (.invokestatic 80, 3) := by decide +kernel
theorem dX9_bucket_14 : decode cX9_bucket 14 = .ok (.ifCond .eq 15, 3) := by decide +kernel
theorem dX9_bucket_17 : decode cX9_bucket 17 = .ok (.iload_n 2, 1) := by decide +kernel
theorem dX9_bucket_18 : decode cX9_bucket 18 = .ok (.i2l, 1) := by decide +kernel
theorem dX9_bucket_19 : decode cX9_bucket 19 = .ok (.lconst 0, 1) := by decide +kernel
theorem dX9_bucket_20 : decode cX9_bucket 20 = .ok (.ldc2_w 230, 3) := by decide +kernel
theorem dX9_bucket_23 : decode cX9_bucket 23 = .ok (.invokestatic 80, 3) := by decide +kernel
theorem dX9_bucket_26 : decode cX9_bucket 26 = .ok (.ifCond .ne 6, 3) := by decide +kernel
theorem dX9_bucket_29 : decode cX9_bucket 29 = .ok (.bipush (-2), 2) := by decide +kernel
theorem dX9_bucket_31 : decode cX9_bucket 31 = .ok (.ireturn, 1) := by decide +kernel
theorem dX9_bucket_32 : decode cX9_bucket 32 = .ok (.iload_n 2, 1) := by decide +kernel
theorem dX9_bucket_33 : decode cX9_bucket 33 = .ok (.ifCond .ne 9, 3) := by decide +kernel
theorem dX9_bucket_36 : decode cX9_bucket 36 = .ok (.aload_n 0, 1) := by decide +kernel
theorem dX9_bucket_37 : decode cX9_bucket 37 = .ok (.iload_n 1, 1) := by decide +kernel
theorem dX9_bucket_38 : decode cX9_bucket 38 = .ok (.invokevirtual 161, 3) := by decide +kernel
theorem dX9_bucket_41 : decode cX9_bucket 41 = .ok (.ireturn, 1) := by decide +kernel
theorem dX9_bucket_42 : decode cX9_bucket 42 = .ok (.iload_n 2, 1) := by decide +kernel
theorem dX9_bucket_43 : decode cX9_bucket 43 = .ok (.iconst 2, 1) := by decide +kernel
theorem dX9_bucket_44 : decode cX9_bucket 44 = .ok (.if_icmp .ne 27, 3) := by decide +kernel
theorem dX9_bucket_47 : decode cX9_bucket 47 = .ok (.aload_n 0, 1) := by decide +kernel
theorem dX9_bucket_48 : decode cX9_bucket 48 = .ok (.iload_n 1, 1) := by decide +kernel
theorem dX9_bucket_49 : decode cX9_bucket 49 = .ok (.invokevirtual 161, 3) := by decide +kernel
theorem dX9_bucket_52 : decode cX9_bucket 52 = .ok (.iconst (-1), 1) := by decide +kernel
theorem dX9_bucket_53 : decode cX9_bucket 53 = .ok (.if_icmp .eq 16, 3) := by decide +kernel
theorem dX9_bucket_69 : decode cX9_bucket 69 = .ok (.iconst 0, 1) := by decide +kernel
theorem dX9_bucket_70 : decode cX9_bucket 70 = .ok (.ireturn, 1) := by decide +kernel
theorem dX9_bucket_71 : decode cX9_bucket 71 = .ok (.iconst 0, 1) := by decide +kernel
theorem dX9_bucket_72 : decode cX9_bucket 72 = .ok (.istore_n 3, 1) := by decide +kernel
theorem dX9_bucket_73 : decode cX9_bucket 73 = .ok (.iconst 0, 1) := by decide +kernel
theorem dX9_bucket_74 : decode cX9_bucket 74 = .ok (.istore 4, 2) := by decide +kernel
theorem dX9_bucket_76 : decode cX9_bucket 76 = .ok (.iload 4, 2) := by decide +kernel
theorem dX9_bucket_78 : decode cX9_bucket 78 = .ok (.aload_n 0, 1) := by decide +kernel
theorem dX9_bucket_79 : decode cX9_bucket 79 = .ok (.getfield 14, 3) := by decide +kernel
theorem dX9_bucket_82 : decode cX9_bucket 82 = .ok (.sipush 1628, 3) := by decide +kernel
theorem dX9_bucket_85 : decode cX9_bucket 85 = .ok (.iaload, 1) := by decide +kernel
theorem dX9_bucket_86 : decode cX9_bucket 86 = .ok (.if_icmp .ge 39, 3) := by decide +kernel
theorem dX9_bucket_125 : decode cX9_bucket 125 = .ok (.iload_n 3, 1) := by decide +kernel
theorem dX9_bucket_126 : decode cX9_bucket 126 = .ok (.ireturn, 1) := by decide +kernel
theorem dX9_index_0 : decode cX9_index 0 = .ok (.aload_n 0, 1) := by decide +kernel
theorem dX9_index_1 : decode cX9_index 1 = .ok (.iconst 0, 1) := by decide +kernel
theorem dX9_index_2 : decode cX9_index 2 = .ok (.putfield 1, 3) := by decide +kernel
theorem dX9_index_5 : decode cX9_index 5 = .ok (.iload_n 1, 1) := by decide +kernel
theorem dX9_index_6 : decode cX9_index 6 = .ok (.i2l, 1) := by decide +kernel
theorem dX9_index_7 : decode cX9_index 7 = .ok (.lconst 0, 1) := by decide +kernel
theorem dX9_index_8 : decode cX9_index 8 = .ok (.ldc2_w 230, 3) := by decide +kernel
theorem dX9_index_11 : decode cX9_index 11 = .ok (.invokestatic 80, 3) := by decide +kernel
theorem dX9_index_14 : decode cX9_index 14 = .ok (.ifCond .eq 12, 3) := by decide +kernel
theorem dX9_index_17 : decode cX9_index 17 = .ok (.aload_n 0, 1) := by decide +kernel
theorem dX9_index_18 : decode cX9_index 18 = .ok (.getfield 44, 3) := by decide +kernel
theorem dX9_index_21 : decode cX9_index 21 = .ok (.iload_n 1, 1) := by decide +kernel
theorem dX9_index_22 : decode cX9_index 22 = .ok (.iaload, 1) := by decide +kernel
theorem dX9_index_23 : decode cX9_index 23 = .ok (.goto 5, 3) := by decide +kernel
theorem dX9_index_26 : decode cX9_index 26 = .ok (.bipush (-2), 2) := by decide +kernel
theorem dX9_index_28 : decode cX9_index 28 = .ok (.ireturn, 1) := by decide +kernel
theorem dX9_undo_0 : decode cX9_undo 0 = .ok (.aload_n 0, 1) := by decide +kernel
theorem dX9_undo_1 : decode cX9_undo 1 = .ok (.iconst 0, 1) := by decide +kernel
theorem dX9_undo_2 : decode cX9_undo 2 = .ok (.putfield 1, 3) := by decide +kernel
theorem dX9_undo_5 : decode cX9_undo 5 = .ok (.iload_n 1, 1) := by decide +kernel
theorem dX9_undo_6 : decode cX9_undo 6 = .ok (.i2l, 1) := by decide +kernel
theorem dX9_undo_7 : decode cX9_undo 7 = .ok (.lconst 1, 1) := by decide +kernel
theorem dX9_undo_8 : decode cX9_undo 8 = .ok (.ldc2_w 311, 3) := by decide +kernel
theorem dX9_undo_11 : decode cX9_undo 11 = .ok (.invokestatic 80, 3) := by decide +kernel
theorem dX9_undo_14 : decode cX9_undo 14 = .ok (.ifCond .eq 11, 3) := by decide +kernel
theorem dX9_undo_17 : decode cX9_undo 17 = .ok (.iload_n 1, 1) := by decide +kernel
theorem dX9_undo_18 : decode cX9_undo 18 = .ok (.aload_n 0, 1) := by decide +kernel
theorem dX9_undo_19 : decode cX9_undo 19 = .ok (.getfield 71, 3) := by decide +kernel
theorem dX9_undo_22 : decode cX9_undo 22 = .ok (.if_icmp .le 6, 3) := by decide +kernel
theorem dX9_undo_25 : decode cX9_undo 25 = .ok (.bipush (-3), 2) := by decide +kernel
theorem dX9_undo_27 : decode cX9_undo 27 = .ok (.ireturn, 1) := by decide +kernel
theorem dX9_image_0 : decode cX9_image 0 = .ok (.aload_n 0, 1) := by decide +kernel
theorem dX9_image_1 : decode cX9_image 1 = .ok (.iconst 0, 1) := by decide +kernel
theorem dX9_image_2 : decode cX9_image 2 = .ok (.putfield 1, 3) := by decide +kernel
theorem dX9_image_5 : decode cX9_image 5 = .ok (.iload_n 1, 1) := by decide +kernel
theorem dX9_image_6 : decode cX9_image 6 = .ok (.i2l, 1) := by decide +kernel
theorem dX9_image_7 : decode cX9_image 7 = .ok (.lconst 0, 1) := by decide +kernel
theorem dX9_image_8 : decode cX9_image 8 = .ok (.lconst 1, 1) := by decide +kernel
theorem dX9_image_9 : decode cX9_image 9 = .ok (.invokestatic 80, 3) := by decide +kernel
theorem dX9_image_12 : decode cX9_image 12 = .ok (.ifCond .ne 6, 3) := by decide +kernel
theorem dX9_image_15 : decode cX9_image 15 = .ok (.bipush (-2), 2) := by decide +kernel
theorem dX9_image_17 : decode cX9_image 17 = .ok (.ireturn, 1) := by decide +kernel
theorem dX9_image_18 : decode cX9_image 18 = .ok (.iconst 0, 1) := by decide +kernel
theorem dX9_image_19 : decode cX9_image 19 = .ok (.istore_n 2, 1) := by decide +kernel
theorem dX9_image_20 : decode cX9_image 20 = .ok (.iload_n 2, 1) := by decide +kernel
theorem dX9_image_21 : decode cX9_image 21 = .ok (.sipush 17069, 3) := by decide +kernel
theorem dX9_image_24 : decode cX9_image 24 = .ok (.if_icmp .ge 29, 3) := by decide +kernel
theorem dX9_image_27 : decode cX9_image 27 = .ok (.aload_n 0, 1) := by decide +kernel
theorem dX9_image_28 : decode cX9_image 28 = .ok (.getfield 14, 3) := by decide +kernel
theorem dX9_image_31 : decode cX9_image 31 = .ok (.sipush 17069, 3) := by decide +kernel
theorem dX9_image_34 : decode cX9_image 34 = .ok (.iload_n 1, 1) := by decide +kernel
theorem dX9_image_35 : decode cX9_image 35 = .ok (.iconst 1, 1) := by decide +kernel
theorem dX9_image_36 : decode cX9_image 36 = .ok (.iadd, 1) := by decide +kernel
theorem dX9_image_37 : decode cX9_image 37 = .ok (.imul, 1) := by decide +kernel
theorem dX9_image_38 : decode cX9_image 38 = .ok (.iload_n 2, 1) := by decide +kernel
theorem dX9_image_39 : decode cX9_image 39 = .ok (.iadd, 1) := by decide +kernel
theorem dX9_image_40 : decode cX9_image 40 = .ok (.aload_n 0, 1) := by decide +kernel
theorem dX9_image_41 : decode cX9_image 41 = .ok (.getfield 14, 3) := by decide +kernel
theorem dX9_image_44 : decode cX9_image 44 = .ok (.iload_n 2, 1) := by decide +kernel
theorem dX9_image_45 : decode cX9_image 45 = .ok (.iaload, 1) := by decide +kernel
theorem dX9_image_46 : decode cX9_image 46 = .ok (.iastore, 1) := by decide +kernel
theorem dX9_image_47 : decode cX9_image 47 = .ok (.iinc 2 1, 3) := by decide +kernel
theorem dX9_image_50 : decode cX9_image 50 = .ok (.goto (-30), 3) := by decide +kernel
theorem dX9_image_53 : decode cX9_image 53 = .ok (.aload_n 0, 1) := by decide +kernel
theorem dX9_image_54 : decode cX9_image 54 = .ok (.getfield 25, 3) := by decide +kernel
theorem dX9_image_57 : decode cX9_image 57 = .ok (.iload_n 1, 1) := by decide +kernel
theorem dX9_image_58 : decode cX9_image 58 = .ok (.iconst 1, 1) := by decide +kernel
theorem dX9_image_59 : decode cX9_image 59 = .ok (.bastore, 1) := by decide +kernel
theorem dX9_image_60 : decode cX9_image 60 = .ok (.iconst 0, 1) := by decide +kernel
theorem dX9_image_61 : decode cX9_image 61 = .ok (.ireturn, 1) := by decide +kernel
theorem dX9_restore_0 : decode cX9_restore 0 = .ok (.aload_n 0, 1) := by decide +kernel
theorem dX9_restore_1 : decode cX9_restore 1 = .ok (.iconst 0, 1) := by decide +kernel
theorem dX9_restore_2 : decode cX9_restore 2 = .ok (.putfield 1, 3) := by decide +kernel
theorem dX9_restore_5 : decode cX9_restore 5 = .ok (.iload_n 1, 1) := by decide +kernel
theorem dX9_restore_6 : decode cX9_restore 6 = .ok (.i2l, 1) := by decide +kernel
theorem dX9_restore_7 : decode cX9_restore 7 = .ok (.lconst 0, 1) := by decide +kernel
theorem dX9_restore_8 : decode cX9_restore 8 = .ok (.lconst 1, 1) := by decide +kernel
theorem dX9_restore_9 : decode cX9_restore 9 = .ok (.invokestatic 80, 3) := by decide +kernel
theorem dX9_restore_12 : decode cX9_restore 12 = .ok (.ifCond .ne 6, 3) := by decide +kernel
theorem dX9_restore_15 : decode cX9_restore 15 = .ok (.bipush (-2), 2) := by decide +kernel
theorem dX9_restore_17 : decode cX9_restore 17 = .ok (.ireturn, 1) := by decide +kernel
theorem dX9_restore_18 : decode cX9_restore 18 = .ok (.aload_n 0, 1) := by decide +kernel
theorem dX9_restore_19 : decode cX9_restore 19 = .ok (.getfield 25, 3) := by decide +kernel
theorem dX9_restore_22 : decode cX9_restore 22 = .ok (.iload_n 1, 1) := by decide +kernel
theorem dX9_restore_23 : decode cX9_restore 23 = .ok (.baload, 1) := by decide +kernel
theorem dX9_restore_24 : decode cX9_restore 24 = .ok (.ifCond .ne 6, 3) := by decide +kernel
theorem dX9_restore_27 : decode cX9_restore 27 = .ok (.bipush (-6), 2) := by decide +kernel
theorem dX9_restore_29 : decode cX9_restore 29 = .ok (.ireturn, 1) := by decide +kernel
theorem dX9_count_0 : decode cX9_count 0 = .ok (.aload_n 0, 1) := by decide +kernel
theorem dX9_count_1 : decode cX9_count 1 = .ok (.iconst 0, 1) := by decide +kernel
theorem dX9_count_2 : decode cX9_count 2 = .ok (.putfield 1, 3) := by decide +kernel
theorem dX9_count_5 : decode cX9_count 5 = .ok (.iconst 0, 1) := by decide +kernel
theorem dX9_count_6 : decode cX9_count 6 = .ok (.istore_n 2, 1) := by decide +kernel
theorem dX9_count_7 : decode cX9_count 7 = .ok (.iload_n 1, 1) := by decide +kernel
theorem dX9_count_8 : decode cX9_count 8 = .ok (.tableswitch 167 0 8 #[52, 59, 64, 73, 80, 118, 152, 157, 162], 52) := by decide +kernel
theorem dX9_count_60 : decode cX9_count 60 = .ok (.aload_n 0, 1) := by decide +kernel
theorem dX9_count_61 : decode cX9_count 61 = .ok (.getfield 14, 3) := by decide +kernel
theorem dX9_count_64 : decode cX9_count 64 = .ok (.iconst 0, 1) := by decide +kernel
theorem dX9_count_65 : decode cX9_count 65 = .ok (.iaload, 1) := by decide +kernel
theorem dX9_count_66 : decode cX9_count 66 = .ok (.ireturn, 1) := by decide +kernel
theorem dX9_count_67 : decode cX9_count 67 = .ok (.aload_n 0, 1) := by decide +kernel
theorem dX9_count_68 : decode cX9_count 68 = .ok (.invokevirtual 132, 3) := by decide +kernel
theorem dX9_count_71 : decode cX9_count 71 = .ok (.ireturn, 1) := by decide +kernel
theorem dX9_count_72 : decode cX9_count 72 = .ok (.aload_n 0, 1) := by decide +kernel
theorem dX9_count_73 : decode cX9_count 73 = .ok (.getfield 14, 3) := by decide +kernel
theorem dX9_count_76 : decode cX9_count 76 = .ok (.sipush 1628, 3) := by decide +kernel
theorem dX9_count_79 : decode cX9_count 79 = .ok (.iaload, 1) := by decide +kernel
theorem dX9_count_80 : decode cX9_count 80 = .ok (.ireturn, 1) := by decide +kernel
theorem dX9_count_81 : decode cX9_count 81 = .ok (.aload_n 0, 1) := by decide +kernel
theorem dX9_count_82 : decode cX9_count 82 = .ok (.getfield 14, 3) := by decide +kernel
theorem dX9_count_85 : decode cX9_count 85 = .ok (.iconst 1, 1) := by decide +kernel
theorem dX9_count_86 : decode cX9_count 86 = .ok (.iaload, 1) := by decide +kernel
theorem dX9_count_87 : decode cX9_count 87 = .ok (.ireturn, 1) := by decide +kernel
theorem dX9_count_88 : decode cX9_count 88 = .ok (.iconst 0, 1) := by decide +kernel
theorem dX9_count_89 : decode cX9_count 89 = .ok (.istore_n 3, 1) := by decide +kernel
theorem dX9_count_90 : decode cX9_count 90 = .ok (.iload_n 3, 1) := by decide +kernel
theorem dX9_count_91 : decode cX9_count 91 = .ok (.iconst 4, 1) := by decide +kernel
theorem dX9_count_92 : decode cX9_count 92 = .ok (.if_icmp .ge 32, 3) := by decide +kernel
theorem dX9_count_95 : decode cX9_count 95 = .ok (.iload_n 2, 1) := by decide +kernel
theorem dX9_count_96 : decode cX9_count 96 = .ok (.aload_n 0, 1) := by decide +kernel
theorem dX9_count_97 : decode cX9_count 97 = .ok (.getfield 14, 3) := by decide +kernel
theorem dX9_count_100 : decode cX9_count 100 = .ok (.bipush 55, 2) := by decide +kernel
theorem dX9_count_102 : decode cX9_count 102 = .ok (.iload_n 3, 1) := by decide +kernel
theorem dX9_count_103 : decode cX9_count 103 = .ok (.iadd, 1) := by decide +kernel
theorem dX9_count_104 : decode cX9_count 104 = .ok (.iaload, 1) := by decide +kernel
theorem dX9_count_105 : decode cX9_count 105 = .ok (.iconst (-1), 1) := by decide +kernel
theorem dX9_count_106 : decode cX9_count 106 = .ok (.if_icmp .ne 7, 3) := by decide +kernel
theorem dX9_count_109 : decode cX9_count 109 = .ok (.iconst 0, 1) := by decide +kernel
theorem dX9_count_110 : decode cX9_count 110 = .ok (.goto 6, 3) := by decide +kernel
theorem dX9_count_116 : decode cX9_count 116 = .ok (.ior, 1) := by decide +kernel
theorem dX9_count_117 : decode cX9_count 117 = .ok (.istore_n 2, 1) := by decide +kernel
theorem dX9_count_118 : decode cX9_count 118 = .ok (.iinc 3 1, 3) := by decide +kernel
theorem dX9_count_121 : decode cX9_count 121 = .ok (.goto (-31), 3) := by decide +kernel
theorem dX9_count_124 : decode cX9_count 124 = .ok (.iload_n 2, 1) := by decide +kernel
theorem dX9_count_125 : decode cX9_count 125 = .ok (.ireturn, 1) := by decide +kernel
theorem dX9_count_126 : decode cX9_count 126 = .ok (.iconst 0, 1) := by decide +kernel
theorem dX9_count_127 : decode cX9_count 127 = .ok (.istore_n 3, 1) := by decide +kernel
theorem dX9_count_128 : decode cX9_count 128 = .ok (.iload_n 3, 1) := by decide +kernel
theorem dX9_count_129 : decode cX9_count 129 = .ok (.iconst 3, 1) := by decide +kernel
theorem dX9_count_130 : decode cX9_count 130 = .ok (.if_icmp .ge 28, 3) := by decide +kernel
theorem dX9_count_133 : decode cX9_count 133 = .ok (.iload_n 2, 1) := by decide +kernel
theorem dX9_count_134 : decode cX9_count 134 = .ok (.aload_n 0, 1) := by decide +kernel
theorem dX9_count_135 : decode cX9_count 135 = .ok (.iload_n 3, 1) := by decide +kernel
theorem dX9_count_136 : decode cX9_count 136 = .ok (.invokevirtual 112, 3) := by decide +kernel
theorem dX9_count_139 : decode cX9_count 139 = .ok (.iconst (-1), 1) := by decide +kernel
theorem dX9_count_140 : decode cX9_count 140 = .ok (.if_icmp .ne 7, 3) := by decide +kernel
theorem dX9_count_143 : decode cX9_count 143 = .ok (.iconst 0, 1) := by decide +kernel
theorem dX9_count_144 : decode cX9_count 144 = .ok (.goto 6, 3) := by decide +kernel
theorem dX9_count_150 : decode cX9_count 150 = .ok (.ior, 1) := by decide +kernel
theorem dX9_count_151 : decode cX9_count 151 = .ok (.istore_n 2, 1) := by decide +kernel
theorem dX9_count_152 : decode cX9_count 152 = .ok (.iinc 3 1, 3) := by decide +kernel
theorem dX9_count_155 : decode cX9_count 155 = .ok (.goto (-27), 3) := by decide +kernel
theorem dX9_count_158 : decode cX9_count 158 = .ok (.iload_n 2, 1) := by decide +kernel
theorem dX9_count_159 : decode cX9_count 159 = .ok (.ireturn, 1) := by decide +kernel
theorem dX9_count_160 : decode cX9_count 160 = .ok (.aload_n 0, 1) := by decide +kernel
theorem dX9_count_161 : decode cX9_count 161 = .ok (.getfield 71, 3) := by decide +kernel
theorem dX9_count_164 : decode cX9_count 164 = .ok (.ireturn, 1) := by decide +kernel
theorem dX9_count_165 : decode cX9_count 165 = .ok (.aload_n 0, 1) := by decide +kernel
theorem dX9_count_166 : decode cX9_count 166 = .ok (.getfield 75, 3) := by decide +kernel
theorem dX9_count_169 : decode cX9_count 169 = .ok (.ireturn, 1) := by decide +kernel
theorem dX9_count_170 : decode cX9_count 170 = .ok (.aload_n 0, 1) := by decide +kernel
theorem dX9_count_171 : decode cX9_count 171 = .ok (.getfield 87, 3) := by decide +kernel
theorem dX9_count_174 : decode cX9_count 174 = .ok (.ireturn, 1) := by decide +kernel
theorem dX9_count_175 : decode cX9_count 175 = .ok (.iconst (-1), 1) := by decide +kernel
theorem dX9_count_176 : decode cX9_count 176 = .ok (.ireturn, 1) := by decide +kernel
theorem hd_X9_bringsBack : yX9_bringsBack.cls = RX9 ∧ yX9_bringsBack.cls ≠ "java/lang/invoke/MethodHandle" ∧ yX9_bringsBack.cls ≠ "java/lang/invoke/VarHandle" ∧ (parseMethodDescriptor yX9_bringsBack.desc).map (fun d => d.parameters.length) = some 0 := by decide +kernel
theorem hd_X9_isSize : yX9_isSize.cls = RX9 ∧ yX9_isSize.cls ≠ "java/lang/invoke/MethodHandle" ∧ yX9_isSize.cls ≠ "java/lang/invoke/VarHandle" ∧ (parseMethodDescriptor yX9_isSize.desc).map (fun d => d.parameters.length) = some 1 := by decide +kernel
theorem hd_X9_laysSizes : yX9_laysSizes.cls = RX9 ∧ yX9_laysSizes.cls ≠ "java/lang/invoke/MethodHandle" ∧ yX9_laysSizes.cls ≠ "java/lang/invoke/VarHandle" ∧ (parseMethodDescriptor yX9_laysSizes.desc).map (fun d => d.parameters.length) = some 1 := by decide +kernel
theorem hd_X9_makesPlace : yX9_makesPlace.cls = RX9 ∧ yX9_makesPlace.cls ≠ "java/lang/invoke/MethodHandle" ∧ yX9_makesPlace.cls ≠ "java/lang/invoke/VarHandle" ∧ (parseMethodDescriptor yX9_makesPlace.desc).map (fun d => d.parameters.length) = some 1 := by decide +kernel
theorem hd_X9_packsBy : yX9_packsBy.cls = RX9 ∧ yX9_packsBy.cls ≠ "java/lang/invoke/MethodHandle" ∧ yX9_packsBy.cls ≠ "java/lang/invoke/VarHandle" ∧ (parseMethodDescriptor yX9_packsBy.desc).map (fun d => d.parameters.length) = some 2 := by decide +kernel
theorem hd_X9_placeOfHot : yX9_placeOfHot.cls = RX9 ∧ yX9_placeOfHot.cls ≠ "java/lang/invoke/MethodHandle" ∧ yX9_placeOfHot.cls ≠ "java/lang/invoke/VarHandle" ∧ (parseMethodDescriptor yX9_placeOfHot.desc).map (fun d => d.parameters.length) = some 1 := by decide +kernel
abbrev rm_c_X9_clear : Room := { frames := 3, cells := 0, slots := 0, locals := 70 }
set_option maxHeartbeats 4000000 in
set_option maxRecDepth 100000 in
theorem c_X9_clear (l : Launch) (D : va_G) (cs : Nat → ClassId) (sz : Nat) (x : Int32) (md : Nat) (m_all : Nat) (f_m_all : Nat → Int32) (m_deeds : Nat) (f_m_deeds : Nat → Int32) (m_trial : Nat) (f_m_trial : Nat → Int32) (m_hasImage : Nat) (m_tape : Nat) (m_key : Nat) (m_answered : Nat) (m_goes : Nat) (m_hotOnes : Nat) (m_indexed : Nat) (m_isChanged : Nat) (m_valueNow : Nat) (m_didSome : Nat) (m_sizes : Nat) (m_ends : Nat) (z_all : ∀ j, j < 51207 → f_m_all j = AL j) : cMi l yX9_clear (Cond.code yX9_clear cX9_clear 4 (some .int)) (rm_c_X9_clear) D cs [.ref md, .int x] sz [(md, .inr (9, [.int 0, .ref m_all, .ref m_deeds, .ref m_trial, .int 0, .ref m_hasImage, .ref m_tape, .ref m_key, .ref m_answered, .int 0, .int 0, .int 0, .ref m_goes, .int 0, .ref m_hotOnes, .ref m_indexed, .ref m_isChanged, .int 0, .ref m_valueNow, .int 0, .int (-1), .int 0, .ref m_didSome, .ref m_sizes, .ref m_ends])), (m_all, aI cs 51207 f_m_all), (m_deeds, aI cs 170690 f_m_deeds), (m_trial, aI cs 17069 f_m_trial)] (fun (r : Int32) (u : Unit) => ((r = (-3)) ∧ (x < 1 ∨ 24 < x)) ∨ ((r = 0) ∧ (¬ x < 1 ∧ ¬ 24 < x))) (fun (u : Unit) => []) := by
  refine kMet_i RX9 (by decide) rfl (Nat.le_of_ble_eq_true rfl) ?_
  intro p e s m below meth c ls A Qz H locs hx hb hml hown hin hu hK hsz hA hP hD hS hl hz
  subst hsz
  have hl : lv_has ls 4 [(0, .ref md), (1, .int x)] := hl
  refine lv_aload_n hx hb dX9_clear_0 rfl (lv_at hl 0 rfl) ?_
  refine lv_iconst (v := 0) hx hb dX9_clear_1 (by decide) ?_
  refine va_put (D := D) (ci := 9) (v := .int 0) (ty := tyX9 0) (C := RX9) (T := TX9) (N := 25) hx hb hu in_X9 tyX9 tyX9_ok nmX9 hown hK.1 hP hD hS 0 rfl rfl 0 (by decide) (hu _ u_1080) (fun _ h9 => h9) rfl (tyX9_ok 0 (by decide)) rfl rfl (Nat.le_of_ble_eq_true rfl) dX9_clear_2 (fun H locs hP hD hS => ?_)
  have hP : va_P D vwCl [(md, .inr (9, [.int 0, .ref m_all, .ref m_deeds, .ref m_trial, .int 0, .ref m_hasImage, .ref m_tape, .ref m_key, .ref m_answered, .int 0, .int 0, .int 0, .ref m_goes, .int 0, .ref m_hotOnes, .ref m_indexed, .ref m_isChanged, .int 0, .ref m_valueNow, .int 0, .int (-1), .int 0, .ref m_didSome, .ref m_sizes, .ref m_ends])), (m_all, aI cs 51207 f_m_all), (m_deeds, aI cs 170690 f_m_deeds), (m_trial, aI cs 17069 f_m_trial)] H := hP
  have hD : va_D A [(md, .inr (9, [.int 0, .ref m_all, .ref m_deeds, .ref m_trial, .int 0, .ref m_hasImage, .ref m_tape, .ref m_key, .ref m_answered, .int 0, .int 0, .int 0, .ref m_goes, .int 0, .ref m_hotOnes, .ref m_indexed, .ref m_isChanged, .int 0, .ref m_valueNow, .int 0, .int (-1), .int 0, .ref m_didSome, .ref m_sizes, .ref m_ends])), (m_all, aI cs 51207 f_m_all), (m_deeds, aI cs 170690 f_m_deeds), (m_trial, aI cs 17069 f_m_trial)] := hD
  refine lv_iload_n hx hb dX9_clear_5 rfl (lv_at hl 1 rfl) ?_
  refine lv_i2l (v := x.toInt64) hx hb dX9_clear_6 rfl ?_
  refine lv_lconst (v := 1) hx hb dX9_clear_7 (by decide) ?_
  refine lv_ldc2 (v := 24) hx hb hown (hu _ u_1507) dX9_clear_8 ?_
  refine kS_i  (As := [.long x.toInt64, .long 1, .long 24]) (rest := []) (wc := []) (wr := [(md, .inr (9, [.int 0, .ref m_all, .ref m_deeds, .ref m_trial, .int 0, .ref m_hasImage, .ref m_tape, .ref m_key, .ref m_answered, .int 0, .int 0, .int 0, .ref m_goes, .int 0, .ref m_hotOnes, .ref m_indexed, .ref m_isChanged, .int 0, .ref m_valueNow, .int 0, .int (-1), .int 0, .ref m_didSome, .ref m_sizes, .ref m_ends])), (m_all, aI cs 51207 f_m_all), (m_deeds, aI cs 170690 f_m_deeds), (m_trial, aI cs 17069 f_m_trial)]) hx hb hml hown hu hK hP hD hS hA hl.1 (c_X9_within l D cs H.size x.toInt64 1 24) (gS u_1164 u_1165 u_76 u_1166) hd_X9_within ⟨(Nat.le_of_ble_eq_true rfl), (Nat.le_of_ble_eq_true rfl)⟩ [] [0, 1, 2, 3] rfl rfl rfl rfl (by decide) rfl rfl (Nat.le_of_ble_eq_true rfl) dX9_clear_11 ⟨(Nat.le_of_ble_eq_true rfl), (Nat.le_of_ble_eq_true rfl)⟩ (fun r_1 ut_2 H locs hw_3 hP hD hS => ?_)
  have hP : va_P D vwCl [(md, .inr (9, [.int 0, .ref m_all, .ref m_deeds, .ref m_trial, .int 0, .ref m_hasImage, .ref m_tape, .ref m_key, .ref m_answered, .int 0, .int 0, .int 0, .ref m_goes, .int 0, .ref m_hotOnes, .ref m_indexed, .ref m_isChanged, .int 0, .ref m_valueNow, .int 0, .int (-1), .int 0, .ref m_didSome, .ref m_sizes, .ref m_ends])), (m_all, aI cs 51207 f_m_all), (m_deeds, aI cs 170690 f_m_deeds), (m_trial, aI cs 17069 f_m_trial)] H := hP
  have hD : va_D A [(md, .inr (9, [.int 0, .ref m_all, .ref m_deeds, .ref m_trial, .int 0, .ref m_hasImage, .ref m_tape, .ref m_key, .ref m_answered, .int 0, .int 0, .int 0, .ref m_goes, .int 0, .ref m_hotOnes, .ref m_indexed, .ref m_isChanged, .int 0, .ref m_valueNow, .int 0, .int (-1), .int 0, .ref m_didSome, .ref m_sizes, .ref m_ends])), (m_all, aI cs 51207 f_m_all), (m_deeds, aI cs 170690 f_m_deeds), (m_trial, aI cs 17069 f_m_trial)] := hD
  rcases hw_3 with hw_3 | hw_3
  · obtain ⟨er_4, hf_5⟩ := hw_3
    have hf_6 : 1 ≤ x ∧ x ≤ 24 := ⟨(w_le (d := 1) (x := x) (by decide)).mp hf_5.1, (w_ge (d := 24) (x := x) (by decide)).mp hf_5.2⟩
    subst er_4
    refine lv_if_ne (tgt := 20) hx hb dX9_clear_14 (by decide) (fun c_7 => ?_) (fun c_7 => absurd c_7 (by decide))
    refine lv_aload_n hx hb dX9_clear_20 rfl (lv_at hl 0 rfl) ?_
    refine kV_v (ci := 9) (As := []) (rest := []) (wc := [(md, .inr (9, [.int 0, .ref m_all, .ref m_deeds, .ref m_trial, .int 0, .ref m_hasImage, .ref m_tape, .ref m_key, .ref m_answered, .int 0, .int 0, .int 0, .ref m_goes, .int 0, .ref m_hotOnes, .ref m_indexed, .ref m_isChanged, .int 0, .ref m_valueNow, .int 0, .int (-1), .int 0, .ref m_didSome, .ref m_sizes, .ref m_ends])), (m_all, aI cs 51207 f_m_all), (m_deeds, aI cs 170690 f_m_deeds), (m_trial, aI cs 17069 f_m_trial)]) (wr := []) hx hb hml hown hu hK hP hD hS hA hl.1 (c_X9_notes l D cs H.size md m_all f_m_all m_deeds f_m_deeds m_trial f_m_trial m_hasImage m_tape m_key m_answered m_goes m_hotOnes m_indexed m_isChanged m_valueNow m_didSome m_sizes m_ends 0 0 z_all) (gV u_1331 u_1333 u_45 u_76 u_1334) hd_X9_notes ⟨(Nat.le_of_ble_eq_true rfl), (Nat.le_of_ble_eq_true rfl)⟩ [0, 1, 2, 3] [] rfl rfl rfl rfl (by decide) rfl 0 rfl rfl rfl (Nat.le_of_ble_eq_true rfl) dX9_clear_21 ⟨(Nat.le_of_ble_eq_true rfl), (Nat.le_of_ble_eq_true rfl)⟩ (fun ut_9 H locs hw_10 hP hD hS => ?_)
    have hP : va_P D vwCl [(m_all, aI cs 51207 f_m_all), (md, .inr (9, [.int 0, .ref m_all, .ref m_deeds, .ref m_trial, .int 1, .ref m_hasImage, .ref m_tape, .ref m_key, .ref m_answered, .int 0, .int 0, .int 0, .ref m_goes, .int 0, .ref m_hotOnes, .ref m_indexed, .ref m_isChanged, .int 0, .ref m_valueNow, .int 0, .int (-1), .int 0, .ref m_didSome, .ref m_sizes, .ref m_ends]))] H := hP
    have hD : va_D A [(m_all, aI cs 51207 f_m_all), (md, .inr (9, [.int 0, .ref m_all, .ref m_deeds, .ref m_trial, .int 1, .ref m_hasImage, .ref m_tape, .ref m_key, .ref m_answered, .int 0, .int 0, .int 0, .ref m_goes, .int 0, .ref m_hotOnes, .ref m_indexed, .ref m_isChanged, .int 0, .ref m_valueNow, .int 0, .int (-1), .int 0, .ref m_didSome, .ref m_sizes, .ref m_ends]))] := hD
    refine lv_iconst (v := 0) hx hb dX9_clear_24 (by decide) ?_
    refine lv_istore_n (lv' := [(2, .int 0), (0, .ref md), (1, .int x)]) hx hb dX9_clear_25 rfl hl (by decide) rfl (fun ls hl => ?_)
    refine lv_aload_n hx hb dX9_clear_26 rfl (lv_at hl 1 rfl) ?_
    refine lv_aload_n hx hb dX9_clear_27 rfl (lv_at hl 1 rfl) ?_
    refine va_get (D := D) (ci := 9) (v := .ref m_all) (C := RX9) (T := TX9) (N := 25) hx hb hu in_X9 hown hK.1 hP 1 rfl rfl 1 (by decide) (hu _ u_1081) (fun _ h9 => h9) rfl dX9_clear_28 ?_
    refine lv_iconst (v := 3) hx hb dX9_clear_31 (by decide) ?_
    refine va_iald hx hb hK.1 hP 0 0 rfl rfl (vin_c _ _ rfl) dX9_clear_32 ?_
    refine tpi (y := 0) ((z_all _ (cl_lt (vin_c _ _ rfl))).trans (by decide +kernel)) ?_
    refine kV_i (ci := 9) (As := [.int 0]) (rest := []) (wc := [(md, .inr (9, [.int 0, .ref m_all, .ref m_deeds, .ref m_trial, .int 1, .ref m_hasImage, .ref m_tape, .ref m_key, .ref m_answered, .int 0, .int 0, .int 0, .ref m_goes, .int 0, .ref m_hotOnes, .ref m_indexed, .ref m_isChanged, .int 0, .ref m_valueNow, .int 0, .int (-1), .int 0, .ref m_didSome, .ref m_sizes, .ref m_ends])), (m_all, aI cs 51207 f_m_all)]) (wr := []) hx hb hml hown hu hK hP hD hS hA hl.1 (c_X9_victimBy l D cs H.size 0 md m_all f_m_all m_deeds m_trial m_hasImage m_tape m_key m_answered m_goes m_hotOnes m_indexed m_isChanged m_valueNow m_didSome m_sizes m_ends 1 0 0 z_all) (gV u_1196 u_1198 u_15 u_76 u_1199) hd_X9_victimBy ⟨(Nat.le_of_ble_eq_true rfl), (Nat.le_of_ble_eq_true rfl)⟩ [1, 0] [] rfl rfl rfl rfl (by decide) rfl 0 rfl rfl rfl (Nat.le_of_ble_eq_true rfl) dX9_clear_33 ⟨(Nat.le_of_ble_eq_true rfl), (Nat.le_of_ble_eq_true rfl)⟩ (fun r_11 ut_12 H locs hw_13 hP hD hS => ?_)
    have hP : va_P D vwCl [(md, .inr (9, [.int 0, .ref m_all, .ref m_deeds, .ref m_trial, .int 1, .ref m_hasImage, .ref m_tape, .ref m_key, .ref m_answered, .int 0, .int 0, .int 0, .ref m_goes, .int 0, .ref m_hotOnes, .ref m_indexed, .ref m_isChanged, .int 0, .ref m_valueNow, .int 0, .int (-1), .int 0, .ref m_didSome, .ref m_sizes, .ref m_ends])), (m_all, aI cs 51207 f_m_all)] H := hP
    have hD : va_D A [(md, .inr (9, [.int 0, .ref m_all, .ref m_deeds, .ref m_trial, .int 1, .ref m_hasImage, .ref m_tape, .ref m_key, .ref m_answered, .int 0, .int 0, .int 0, .ref m_goes, .int 0, .ref m_hotOnes, .ref m_indexed, .ref m_isChanged, .int 0, .ref m_valueNow, .int 0, .int (-1), .int 0, .ref m_didSome, .ref m_sizes, .ref m_ends])), (m_all, aI cs 51207 f_m_all)] := hD
    have er_14 := hw_13
    subst er_14
    refine lv_istore_n (lv' := [(3, .int (-1)), (2, .int 0), (0, .ref md), (1, .int x)]) hx hb dX9_clear_36 rfl hl (by decide) rfl (fun ls hl => ?_)
    refine lv_iload_n hx hb dX9_clear_37 rfl (lv_at hl 0 rfl) ?_
    refine lv_iconst (v := (-1)) hx hb dX9_clear_38 (by decide) ?_
    refine lv_icmp_eq (tgt := 73) hx hb dX9_clear_39 (by decide) (fun c_15 => ?_) (fun c_15 => absurd (by decide) c_15)
    refine lv_iload_n hx hb dX9_clear_73 rfl (lv_at hl 1 rfl) ?_
    exact hz () hP hD hS (by grind) [] rfl rfl (Nat.le_of_ble_eq_true rfl) (Nat.le_of_ble_eq_true rfl) .int rfl rfl dX9_clear_74
  · obtain ⟨er_16, hf_17⟩ := hw_3
    have hf_18 : ¬ (1 ≤ x ∧ x ≤ 24) := fun h => hf_17 ⟨(w_le (d := 1) (x := x) (by decide)).mpr h.1, (w_ge (d := 24) (x := x) (by decide)).mpr h.2⟩
    subst er_16
    refine lv_if_ne (tgt := 20) hx hb dX9_clear_14 (by decide) (fun c_19 => absurd (by decide) c_19) (fun c_19 => ?_)
    refine lv_bipush (v := (-3)) hx hb dX9_clear_17 (by decide) ?_
    exact hz () hP hD hS (by grind) [] rfl rfl (Nat.le_of_ble_eq_true rfl) (Nat.le_of_ble_eq_true rfl) .int rfl rfl dX9_clear_19
abbrev rm_c_X9_trimmed : Room := { frames := 3, cells := 0, slots := 0, locals := 70 }
set_option maxHeartbeats 4000000 in
set_option maxRecDepth 100000 in
theorem c_X9_trimmed (l : Launch) (D : va_G) (cs : Nat → ClassId) (sz : Nat) (x : Int32) (md : Nat) (m_all : Nat) (f_m_all : Nat → Int32) (m_deeds : Nat) (m_trial : Nat) (f_m_trial : Nat → Int32) (m_hasImage : Nat) (m_tape : Nat) (m_key : Nat) (m_answered : Nat) (m_goes : Nat) (m_hotOnes : Nat) (m_indexed : Nat) (m_isChanged : Nat) (m_valueNow : Nat) (m_didSome : Nat) (m_sizes : Nat) (m_ends : Nat) (z_all : ∀ j, j < 51207 → f_m_all j = AL j) : cMi l yX9_trimmed (Cond.code yX9_trimmed cX9_trimmed 4 (some .int)) (rm_c_X9_trimmed) D cs [.ref md, .int x] sz [(md, .inr (9, [.int 0, .ref m_all, .ref m_deeds, .ref m_trial, .int 0, .ref m_hasImage, .ref m_tape, .ref m_key, .ref m_answered, .int 0, .int 0, .int 0, .ref m_goes, .int 0, .ref m_hotOnes, .ref m_indexed, .ref m_isChanged, .int 0, .ref m_valueNow, .int 0, .int (-1), .int 0, .ref m_didSome, .ref m_sizes, .ref m_ends])), (m_all, aI cs 51207 f_m_all), (m_trial, aI cs 17069 f_m_trial)] (fun (r : Int32) (u : Unit) => ((r = (-3)) ∧ (x < 0 ∨ 3 ≤ x)) ∨ ((r = 0) ∧ (¬ x < 0 ∧ x < 3))) (fun (u : Unit) => []) := by
  refine kMet_i RX9 (by decide) rfl (Nat.le_of_ble_eq_true rfl) ?_
  intro p e s m below meth c ls A Qz H locs hx hb hml hown hin hu hK hsz hA hP hD hS hl hz
  subst hsz
  have hl : lv_has ls 4 [(0, .ref md), (1, .int x)] := hl
  refine lv_aload_n hx hb dX9_trimmed_0 rfl (lv_at hl 0 rfl) ?_
  refine lv_iconst (v := 0) hx hb dX9_trimmed_1 (by decide) ?_
  refine va_put (D := D) (ci := 9) (v := .int 0) (ty := tyX9 0) (C := RX9) (T := TX9) (N := 25) hx hb hu in_X9 tyX9 tyX9_ok nmX9 hown hK.1 hP hD hS 0 rfl rfl 0 (by decide) (hu _ u_1080) (fun _ h9 => h9) rfl (tyX9_ok 0 (by decide)) rfl rfl (Nat.le_of_ble_eq_true rfl) dX9_trimmed_2 (fun H locs hP hD hS => ?_)
  have hP : va_P D vwCl [(md, .inr (9, [.int 0, .ref m_all, .ref m_deeds, .ref m_trial, .int 0, .ref m_hasImage, .ref m_tape, .ref m_key, .ref m_answered, .int 0, .int 0, .int 0, .ref m_goes, .int 0, .ref m_hotOnes, .ref m_indexed, .ref m_isChanged, .int 0, .ref m_valueNow, .int 0, .int (-1), .int 0, .ref m_didSome, .ref m_sizes, .ref m_ends])), (m_all, aI cs 51207 f_m_all), (m_trial, aI cs 17069 f_m_trial)] H := hP
  have hD : va_D A [(md, .inr (9, [.int 0, .ref m_all, .ref m_deeds, .ref m_trial, .int 0, .ref m_hasImage, .ref m_tape, .ref m_key, .ref m_answered, .int 0, .int 0, .int 0, .ref m_goes, .int 0, .ref m_hotOnes, .ref m_indexed, .ref m_isChanged, .int 0, .ref m_valueNow, .int 0, .int (-1), .int 0, .ref m_didSome, .ref m_sizes, .ref m_ends])), (m_all, aI cs 51207 f_m_all), (m_trial, aI cs 17069 f_m_trial)] := hD
  refine lv_iload_n hx hb dX9_trimmed_5 rfl (lv_at hl 1 rfl) ?_
  refine lv_i2l (v := x.toInt64) hx hb dX9_trimmed_6 rfl ?_
  refine lv_lconst (v := 0) hx hb dX9_trimmed_7 (by decide) ?_
  refine lv_ldc2 (v := 2) hx hb hown (hu _ u_1347) dX9_trimmed_8 ?_
  refine kS_i  (As := [.long x.toInt64, .long 0, .long 2]) (rest := []) (wc := []) (wr := [(md, .inr (9, [.int 0, .ref m_all, .ref m_deeds, .ref m_trial, .int 0, .ref m_hasImage, .ref m_tape, .ref m_key, .ref m_answered, .int 0, .int 0, .int 0, .ref m_goes, .int 0, .ref m_hotOnes, .ref m_indexed, .ref m_isChanged, .int 0, .ref m_valueNow, .int 0, .int (-1), .int 0, .ref m_didSome, .ref m_sizes, .ref m_ends])), (m_all, aI cs 51207 f_m_all), (m_trial, aI cs 17069 f_m_trial)]) hx hb hml hown hu hK hP hD hS hA hl.1 (c_X9_within l D cs H.size x.toInt64 0 2) (gS u_1164 u_1165 u_76 u_1166) hd_X9_within ⟨(Nat.le_of_ble_eq_true rfl), (Nat.le_of_ble_eq_true rfl)⟩ [] [0, 1, 2] rfl rfl rfl rfl (by decide) rfl rfl (Nat.le_of_ble_eq_true rfl) dX9_trimmed_11 ⟨(Nat.le_of_ble_eq_true rfl), (Nat.le_of_ble_eq_true rfl)⟩ (fun r_1 ut_2 H locs hw_3 hP hD hS => ?_)
  have hP : va_P D vwCl [(md, .inr (9, [.int 0, .ref m_all, .ref m_deeds, .ref m_trial, .int 0, .ref m_hasImage, .ref m_tape, .ref m_key, .ref m_answered, .int 0, .int 0, .int 0, .ref m_goes, .int 0, .ref m_hotOnes, .ref m_indexed, .ref m_isChanged, .int 0, .ref m_valueNow, .int 0, .int (-1), .int 0, .ref m_didSome, .ref m_sizes, .ref m_ends])), (m_all, aI cs 51207 f_m_all), (m_trial, aI cs 17069 f_m_trial)] H := hP
  have hD : va_D A [(md, .inr (9, [.int 0, .ref m_all, .ref m_deeds, .ref m_trial, .int 0, .ref m_hasImage, .ref m_tape, .ref m_key, .ref m_answered, .int 0, .int 0, .int 0, .ref m_goes, .int 0, .ref m_hotOnes, .ref m_indexed, .ref m_isChanged, .int 0, .ref m_valueNow, .int 0, .int (-1), .int 0, .ref m_didSome, .ref m_sizes, .ref m_ends])), (m_all, aI cs 51207 f_m_all), (m_trial, aI cs 17069 f_m_trial)] := hD
  rcases hw_3 with hw_3 | hw_3
  · obtain ⟨er_4, hf_5⟩ := hw_3
    have hf_6 : 0 ≤ x ∧ x ≤ 2 := ⟨(w_le (d := 0) (x := x) (by decide)).mp hf_5.1, (w_ge (d := 2) (x := x) (by decide)).mp hf_5.2⟩
    subst er_4
    refine lv_if_ne (tgt := 20) hx hb dX9_trimmed_14 (by decide) (fun c_7 => ?_) (fun c_7 => absurd c_7 (by decide))
    refine lv_aload_n hx hb dX9_trimmed_20 rfl (lv_at hl 0 rfl) ?_
    refine kV_v (ci := 9) (As := []) (rest := []) (wc := [(md, .inr (9, [.int 0, .ref m_all, .ref m_deeds, .ref m_trial, .int 0, .ref m_hasImage, .ref m_tape, .ref m_key, .ref m_answered, .int 0, .int 0, .int 0, .ref m_goes, .int 0, .ref m_hotOnes, .ref m_indexed, .ref m_isChanged, .int 0, .ref m_valueNow, .int 0, .int (-1), .int 0, .ref m_didSome, .ref m_sizes, .ref m_ends])), (m_all, aI cs 51207 f_m_all), (m_trial, aI cs 17069 f_m_trial)]) (wr := []) hx hb hml hown hu hK hP hD hS hA hl.1 (c_X9_tries l D cs H.size md m_all f_m_all m_deeds m_trial f_m_trial m_hasImage m_tape m_key m_answered m_goes m_hotOnes m_indexed m_isChanged m_valueNow m_didSome m_sizes m_ends 0 0 0 z_all) (gV u_1176 u_1178 u_10 u_76 u_1179) hd_X9_tries ⟨(Nat.le_of_ble_eq_true rfl), (Nat.le_of_ble_eq_true rfl)⟩ [0, 1, 2] [] rfl rfl rfl rfl (by decide) rfl 0 rfl rfl rfl (Nat.le_of_ble_eq_true rfl) dX9_trimmed_21 ⟨(Nat.le_of_ble_eq_true rfl), (Nat.le_of_ble_eq_true rfl)⟩ (fun ut_9 H locs hw_10 hP hD hS => ?_)
    have hP : va_P D vwCl [(md, .inr (9, [.int 0, .ref m_all, .ref m_deeds, .ref m_trial, .int 0, .ref m_hasImage, .ref m_tape, .ref m_key, .ref m_answered, .int 0, .int 0, .int 0, .ref m_goes, .int 0, .ref m_hotOnes, .ref m_indexed, .ref m_isChanged, .int 0, .ref m_valueNow, .int 0, .int (-1), .int 0, .ref m_didSome, .ref m_sizes, .ref m_ends])), (m_all, aI cs 51207 f_m_all), (m_trial, aI cs 17069 ut_9)] H := hP
    have hD : va_D A [(md, .inr (9, [.int 0, .ref m_all, .ref m_deeds, .ref m_trial, .int 0, .ref m_hasImage, .ref m_tape, .ref m_key, .ref m_answered, .int 0, .int 0, .int 0, .ref m_goes, .int 0, .ref m_hotOnes, .ref m_indexed, .ref m_isChanged, .int 0, .ref m_valueNow, .int 0, .int (-1), .int 0, .ref m_didSome, .ref m_sizes, .ref m_ends])), (m_all, aI cs 51207 f_m_all), (m_trial, aI cs 17069 ut_9)] := hD
    obtain ⟨ug_11, rfl⟩ : ∃ z, z = ut_9 := ⟨_, rfl⟩
    have hP : va_P D vwCl [(md, .inr (9, [.int 0, .ref m_all, .ref m_deeds, .ref m_trial, .int 0, .ref m_hasImage, .ref m_tape, .ref m_key, .ref m_answered, .int 0, .int 0, .int 0, .ref m_goes, .int 0, .ref m_hotOnes, .ref m_indexed, .ref m_isChanged, .int 0, .ref m_valueNow, .int 0, .int (-1), .int 0, .ref m_didSome, .ref m_sizes, .ref m_ends])), (m_all, aI cs 51207 f_m_all), (m_trial, aI cs 17069 ug_11)] H := hP
    have hD : va_D A [(md, .inr (9, [.int 0, .ref m_all, .ref m_deeds, .ref m_trial, .int 0, .ref m_hasImage, .ref m_tape, .ref m_key, .ref m_answered, .int 0, .int 0, .int 0, .ref m_goes, .int 0, .ref m_hotOnes, .ref m_indexed, .ref m_isChanged, .int 0, .ref m_valueNow, .int 0, .int (-1), .int 0, .ref m_didSome, .ref m_sizes, .ref m_ends])), (m_all, aI cs 51207 f_m_all), (m_trial, aI cs 17069 ug_11)] := hD
    try dsimp only at hw_10
    refine lv_iconst (v := 0) hx hb dX9_trimmed_24 (by decide) ?_
    refine lv_istore_n (lv' := [(2, .int 0), (0, .ref md), (1, .int x)]) hx hb dX9_trimmed_25 rfl hl (by decide) rfl (fun ls hl => ?_)
    refine lv_aload_n hx hb dX9_trimmed_26 rfl (lv_at hl 1 rfl) ?_
    refine lv_iload_n hx hb dX9_trimmed_27 rfl (lv_at hl 2 rfl) ?_
    refine kV_i (ci := 9) (As := [.int x]) (rest := []) (wc := [(md, .inr (9, [.int 0, .ref m_all, .ref m_deeds, .ref m_trial, .int 0, .ref m_hasImage, .ref m_tape, .ref m_key, .ref m_answered, .int 0, .int 0, .int 0, .ref m_goes, .int 0, .ref m_hotOnes, .ref m_indexed, .ref m_isChanged, .int 0, .ref m_valueNow, .int 0, .int (-1), .int 0, .ref m_didSome, .ref m_sizes, .ref m_ends])), (m_all, aI cs 51207 f_m_all)]) (wr := [(m_trial, aI cs 17069 ug_11)]) hx hb hml hown hu hK hP hD hS hA hl.1 (c_X9_victimBy l D cs H.size x md m_all f_m_all m_deeds m_trial m_hasImage m_tape m_key m_answered m_goes m_hotOnes m_indexed m_isChanged m_valueNow m_didSome m_sizes m_ends 0 0 0 z_all) (gV u_1196 u_1198 u_15 u_76 u_1199) hd_X9_victimBy ⟨(Nat.le_of_ble_eq_true rfl), (Nat.le_of_ble_eq_true rfl)⟩ [0, 1] [2] rfl rfl rfl rfl (by decide) rfl 0 rfl rfl rfl (Nat.le_of_ble_eq_true rfl) dX9_trimmed_28 ⟨(Nat.le_of_ble_eq_true rfl), (Nat.le_of_ble_eq_true rfl)⟩ (fun r_12 ut_13 H locs hw_14 hP hD hS => ?_)
    have hP : va_P D vwCl [(m_trial, aI cs 17069 ug_11), (md, .inr (9, [.int 0, .ref m_all, .ref m_deeds, .ref m_trial, .int 0, .ref m_hasImage, .ref m_tape, .ref m_key, .ref m_answered, .int 0, .int 0, .int 0, .ref m_goes, .int 0, .ref m_hotOnes, .ref m_indexed, .ref m_isChanged, .int 0, .ref m_valueNow, .int 0, .int (-1), .int 0, .ref m_didSome, .ref m_sizes, .ref m_ends])), (m_all, aI cs 51207 f_m_all)] H := hP
    have hD : va_D A [(m_trial, aI cs 17069 ug_11), (md, .inr (9, [.int 0, .ref m_all, .ref m_deeds, .ref m_trial, .int 0, .ref m_hasImage, .ref m_tape, .ref m_key, .ref m_answered, .int 0, .int 0, .int 0, .ref m_goes, .int 0, .ref m_hotOnes, .ref m_indexed, .ref m_isChanged, .int 0, .ref m_valueNow, .int 0, .int (-1), .int 0, .ref m_didSome, .ref m_sizes, .ref m_ends])), (m_all, aI cs 51207 f_m_all)] := hD
    have er_15 := hw_14
    subst er_15
    refine lv_istore_n (lv' := [(3, .int (-1)), (2, .int 0), (0, .ref md), (1, .int x)]) hx hb dX9_trimmed_31 rfl hl (by decide) rfl (fun ls hl => ?_)
    refine lv_iload_n hx hb dX9_trimmed_32 rfl (lv_at hl 0 rfl) ?_
    refine lv_iconst (v := (-1)) hx hb dX9_trimmed_33 (by decide) ?_
    refine lv_icmp_eq (tgt := 54) hx hb dX9_trimmed_34 (by decide) (fun c_16 => ?_) (fun c_16 => absurd (by decide) c_16)
    refine lv_aload_n hx hb dX9_trimmed_54 rfl (lv_at hl 2 rfl) ?_
    refine kV_v (ci := 9) (As := []) (rest := []) (wc := [(md, .inr (9, [.int 0, .ref m_all, .ref m_deeds, .ref m_trial, .int 0, .ref m_hasImage, .ref m_tape, .ref m_key, .ref m_answered, .int 0, .int 0, .int 0, .ref m_goes, .int 0, .ref m_hotOnes, .ref m_indexed, .ref m_isChanged, .int 0, .ref m_valueNow, .int 0, .int (-1), .int 0, .ref m_didSome, .ref m_sizes, .ref m_ends])), (m_all, aI cs 51207 f_m_all), (m_trial, aI cs 17069 ug_11)]) (wr := []) hx hb hml hown hu hK hP hD hS hA hl.1 (c_X9_bringsBack l D cs H.size md m_all f_m_all m_deeds m_trial ug_11 m_hasImage m_tape m_key m_answered m_goes m_hotOnes m_indexed m_isChanged m_valueNow m_didSome m_sizes m_ends 0 0 0 z_all) (gV u_1220 u_1222 u_21 u_76 u_1223) hd_X9_bringsBack ⟨(Nat.le_of_ble_eq_true rfl), (Nat.le_of_ble_eq_true rfl)⟩ [1, 2, 0] [] rfl rfl rfl rfl (by decide) rfl 0 rfl rfl rfl (Nat.le_of_ble_eq_true rfl) dX9_trimmed_55 ⟨(Nat.le_of_ble_eq_true rfl), (Nat.le_of_ble_eq_true rfl)⟩ (fun ut_18 H locs hw_19 hP hD hS => ?_)
    have hP : va_P D vwCl [(md, .inr (9, [.int 0, .ref m_all, .ref m_deeds, .ref m_trial, .int 0, .ref m_hasImage, .ref m_tape, .ref m_key, .ref m_answered, .int 0, .int 0, .int 0, .ref m_goes, .int 0, .ref m_hotOnes, .ref m_indexed, .ref m_isChanged, .int 0, .ref m_valueNow, .int 0, .int (-1), .int 0, .ref m_didSome, .ref m_sizes, .ref m_ends]))] H := hP
    have hD : va_D A [(md, .inr (9, [.int 0, .ref m_all, .ref m_deeds, .ref m_trial, .int 0, .ref m_hasImage, .ref m_tape, .ref m_key, .ref m_answered, .int 0, .int 0, .int 0, .ref m_goes, .int 0, .ref m_hotOnes, .ref m_indexed, .ref m_isChanged, .int 0, .ref m_valueNow, .int 0, .int (-1), .int 0, .ref m_didSome, .ref m_sizes, .ref m_ends]))] := hD
    refine lv_iload_n hx hb dX9_trimmed_58 rfl (lv_at hl 1 rfl) ?_
    exact hz () hP hD hS (by grind) [] rfl rfl (Nat.le_of_ble_eq_true rfl) (Nat.le_of_ble_eq_true rfl) .int rfl rfl dX9_trimmed_59
  · obtain ⟨er_20, hf_21⟩ := hw_3
    have hf_22 : ¬ (0 ≤ x ∧ x ≤ 2) := fun h => hf_21 ⟨(w_le (d := 0) (x := x) (by decide)).mpr h.1, (w_ge (d := 2) (x := x) (by decide)).mpr h.2⟩
    subst er_20
    refine lv_if_ne (tgt := 20) hx hb dX9_trimmed_14 (by decide) (fun c_23 => absurd (by decide) c_23) (fun c_23 => ?_)
    refine lv_bipush (v := (-3)) hx hb dX9_trimmed_17 (by decide) ?_
    exact hz () hP hD hS (by grind) [] rfl rfl (Nat.le_of_ble_eq_true rfl) (Nat.le_of_ble_eq_true rfl) .int rfl rfl dX9_trimmed_19
abbrev rm_c_X9_sure : Room := { frames := 2, cells := 0, slots := 0, locals := 45 }
set_option maxHeartbeats 4000000 in
set_option maxRecDepth 100000 in
theorem c_X9_sure (l : Launch) (D : va_G) (cs : Nat → ClassId) (sz : Nat) (x : Int32) (md : Nat) (m_all : Nat) (f_m_all : Nat → Int32) (m_deeds : Nat) (m_trial : Nat) (m_hasImage : Nat) (m_tape : Nat) (m_key : Nat) (m_answered : Nat) (m_goes : Nat) (m_hotOnes : Nat) (m_indexed : Nat) (m_isChanged : Nat) (m_valueNow : Nat) (m_didSome : Nat) (m_sizes : Nat) (m_ends : Nat) (z_all : ∀ j, j < 51207 → f_m_all j = AL j) : cMi l yX9_sure (Cond.code yX9_sure cX9_sure 4 (some .int)) (rm_c_X9_sure) D cs [.ref md, .int x] sz [(md, .inr (9, [.int 0, .ref m_all, .ref m_deeds, .ref m_trial, .int 0, .ref m_hasImage, .ref m_tape, .ref m_key, .ref m_answered, .int 0, .int 0, .int 0, .ref m_goes, .int 0, .ref m_hotOnes, .ref m_indexed, .ref m_isChanged, .int 0, .ref m_valueNow, .int 0, .int (-1), .int 0, .ref m_didSome, .ref m_sizes, .ref m_ends])), (m_all, aI cs 51207 f_m_all)] (fun (r : Int32) (u : Unit) => ((r = (-3)) ∧ (x < 6 ∨ 52 < x ∨ ¬ x &&& 1 = 0)) ∨ ((r = (23 * (64 / x))) ∧ (6 ≤ x ∧ x ≤ 52 ∧ x &&& 1 = 0))) (fun (u : Unit) => []) := by
  refine kMet_i RX9 (by decide) rfl (Nat.le_of_ble_eq_true rfl) ?_
  intro p e s m below meth c ls A Qz H locs hx hb hml hown hin hu hK hsz hA hP hD hS hl hz
  subst hsz
  have hl : lv_has ls 4 [(0, .ref md), (1, .int x)] := hl
  refine lv_aload_n hx hb dX9_sure_0 rfl (lv_at hl 0 rfl) ?_
  refine lv_iconst (v := 0) hx hb dX9_sure_1 (by decide) ?_
  refine va_put (D := D) (ci := 9) (v := .int 0) (ty := tyX9 0) (C := RX9) (T := TX9) (N := 25) hx hb hu in_X9 tyX9 tyX9_ok nmX9 hown hK.1 hP hD hS 0 rfl rfl 0 (by decide) (hu _ u_1080) (fun _ h9 => h9) rfl (tyX9_ok 0 (by decide)) rfl rfl (Nat.le_of_ble_eq_true rfl) dX9_sure_2 (fun H locs hP hD hS => ?_)
  have hP : va_P D vwCl [(md, .inr (9, [.int 0, .ref m_all, .ref m_deeds, .ref m_trial, .int 0, .ref m_hasImage, .ref m_tape, .ref m_key, .ref m_answered, .int 0, .int 0, .int 0, .ref m_goes, .int 0, .ref m_hotOnes, .ref m_indexed, .ref m_isChanged, .int 0, .ref m_valueNow, .int 0, .int (-1), .int 0, .ref m_didSome, .ref m_sizes, .ref m_ends])), (m_all, aI cs 51207 f_m_all)] H := hP
  have hD : va_D A [(md, .inr (9, [.int 0, .ref m_all, .ref m_deeds, .ref m_trial, .int 0, .ref m_hasImage, .ref m_tape, .ref m_key, .ref m_answered, .int 0, .int 0, .int 0, .ref m_goes, .int 0, .ref m_hotOnes, .ref m_indexed, .ref m_isChanged, .int 0, .ref m_valueNow, .int 0, .int (-1), .int 0, .ref m_didSome, .ref m_sizes, .ref m_ends])), (m_all, aI cs 51207 f_m_all)] := hD
  refine lv_iload_n hx hb dX9_sure_5 rfl (lv_at hl 1 rfl) ?_
  refine kS_i  (As := [.int x]) (rest := []) (wc := []) (wr := [(md, .inr (9, [.int 0, .ref m_all, .ref m_deeds, .ref m_trial, .int 0, .ref m_hasImage, .ref m_tape, .ref m_key, .ref m_answered, .int 0, .int 0, .int 0, .ref m_goes, .int 0, .ref m_hotOnes, .ref m_indexed, .ref m_isChanged, .int 0, .ref m_valueNow, .int 0, .int (-1), .int 0, .ref m_didSome, .ref m_sizes, .ref m_ends])), (m_all, aI cs 51207 f_m_all)]) hx hb hml hown hu hK hP hD hS hA hl.1 (c_X9_isSize l D cs H.size x) (gS u_1516 u_1517 u_76 u_1518) hd_X9_isSize ⟨(Nat.le_of_ble_eq_true rfl), (Nat.le_of_ble_eq_true rfl)⟩ [] [0, 1] rfl rfl rfl rfl (by decide) rfl rfl (Nat.le_of_ble_eq_true rfl) dX9_sure_6 ⟨(Nat.le_of_ble_eq_true rfl), (Nat.le_of_ble_eq_true rfl)⟩ (fun r_1 ut_2 H locs hw_3 hP hD hS => ?_)
  have hP : va_P D vwCl [(md, .inr (9, [.int 0, .ref m_all, .ref m_deeds, .ref m_trial, .int 0, .ref m_hasImage, .ref m_tape, .ref m_key, .ref m_answered, .int 0, .int 0, .int 0, .ref m_goes, .int 0, .ref m_hotOnes, .ref m_indexed, .ref m_isChanged, .int 0, .ref m_valueNow, .int 0, .int (-1), .int 0, .ref m_didSome, .ref m_sizes, .ref m_ends])), (m_all, aI cs 51207 f_m_all)] H := hP
  have hD : va_D A [(md, .inr (9, [.int 0, .ref m_all, .ref m_deeds, .ref m_trial, .int 0, .ref m_hasImage, .ref m_tape, .ref m_key, .ref m_answered, .int 0, .int 0, .int 0, .ref m_goes, .int 0, .ref m_hotOnes, .ref m_indexed, .ref m_isChanged, .int 0, .ref m_valueNow, .int 0, .int (-1), .int 0, .ref m_didSome, .ref m_sizes, .ref m_ends])), (m_all, aI cs 51207 f_m_all)] := hD
  rcases hw_3 with hw_3 | hw_3
  · obtain ⟨er_4, hf_5⟩ := hw_3
    subst er_4
    refine lv_if_ne (tgt := 15) hx hb dX9_sure_9 (by decide) (fun c_6 => ?_) (fun c_6 => absurd c_6 (by decide))
    refine lv_iconst (v := 0) hx hb dX9_sure_15 (by decide) ?_
    refine lv_istore_n (lv' := [(2, .int 0), (0, .ref md), (1, .int x)]) hx hb dX9_sure_16 rfl hl (by decide) rfl (fun ls hl => ?_)
    refine lv_iconst (v := 0) hx hb dX9_sure_17 (by decide) ?_
    refine lv_istore_n (lv' := [(3, .int 0), (2, .int 0), (0, .ref md), (1, .int x)]) hx hb dX9_sure_18 rfl hl (by decide) rfl (fun ls hl => ?_)
    refine lv_iload_n hx hb dX9_sure_19 rfl (lv_at hl 0 rfl) ?_
    refine lv_bipush (v := 24) hx hb dX9_sure_20 (by decide) ?_
    refine lv_icmp_ge (tgt := 75) hx hb dX9_sure_22 (by decide) (fun c_7 => absurd c_7 (by decide)) (fun c_7 => ?_)
    refine lv_aload_n hx hb dX9_sure_25 rfl (lv_at hl 2 rfl) ?_
    refine lv_iload_n hx hb dX9_sure_26 rfl (lv_at hl 0 rfl) ?_
    refine kV_i (ci := 9) (As := [.int 0]) (rest := []) (wc := [(md, .inr (9, [.int 0, .ref m_all, .ref m_deeds, .ref m_trial, .int 0, .ref m_hasImage, .ref m_tape, .ref m_key, .ref m_answered, .int 0, .int 0, .int 0, .ref m_goes, .int 0, .ref m_hotOnes, .ref m_indexed, .ref m_isChanged, .int 0, .ref m_valueNow, .int 0, .int (-1), .int 0, .ref m_didSome, .ref m_sizes, .ref m_ends])), (m_all, aI cs 51207 f_m_all)]) (wr := []) hx hb hml hown hu hK hP hD hS hA hl.1 (c_X9_isFree l D cs H.size 0 md m_all f_m_all m_deeds m_trial m_hasImage m_tape m_key m_answered m_goes m_hotOnes m_indexed m_isChanged m_valueNow m_didSome m_sizes m_ends 0 0 0 z_all (by first | decide | grind)) (gV u_1188 u_1190 u_13 u_76 u_1191) hd_X9_isFree ⟨(Nat.le_of_ble_eq_true rfl), (Nat.le_of_ble_eq_true rfl)⟩ [0, 1] [] rfl rfl rfl rfl (by decide) rfl 0 rfl rfl rfl (Nat.le_of_ble_eq_true rfl) dX9_sure_27 ⟨(Nat.le_of_ble_eq_true rfl), (Nat.le_of_ble_eq_true rfl)⟩ (fun r_8 ut_9 H locs hw_10 hP hD hS => ?_)
    have hP : va_P D vwCl [(md, .inr (9, [.int 0, .ref m_all, .ref m_deeds, .ref m_trial, .int 0, .ref m_hasImage, .ref m_tape, .ref m_key, .ref m_answered, .int 0, .int 0, .int 0, .ref m_goes, .int 0, .ref m_hotOnes, .ref m_indexed, .ref m_isChanged, .int 0, .ref m_valueNow, .int 0, .int (-1), .int 0, .ref m_didSome, .ref m_sizes, .ref m_ends])), (m_all, aI cs 51207 f_m_all)] H := hP
    have hD : va_D A [(md, .inr (9, [.int 0, .ref m_all, .ref m_deeds, .ref m_trial, .int 0, .ref m_hasImage, .ref m_tape, .ref m_key, .ref m_answered, .int 0, .int 0, .int 0, .ref m_goes, .int 0, .ref m_hotOnes, .ref m_indexed, .ref m_isChanged, .int 0, .ref m_valueNow, .int 0, .int (-1), .int 0, .ref m_didSome, .ref m_sizes, .ref m_ends])), (m_all, aI cs 51207 f_m_all)] := hD
    have er_11 := hw_10
    subst er_11
    refine lv_if_ne (tgt := 69) hx hb dX9_sure_30 (by decide) (fun c_12 => ?_) (fun c_12 => absurd c_12 (by decide))
    refine lv_iinc (v := 1) (lv' := [(3, .int 1), (2, .int 0), (0, .ref md), (1, .int x)]) hx hb dX9_sure_69 hl (k := 0) rfl (by decide) (by decide) rfl (fun ls hl => ?_)
    refine lv_goto (tgt := 19) hx hb dX9_sure_72 (by decide) ?_
    refine lv_iload_n hx hb dX9_sure_19 rfl (lv_at hl 0 rfl) ?_
    refine lv_bipush (v := 24) hx hb dX9_sure_20 (by decide) ?_
    refine lv_icmp_ge (tgt := 75) hx hb dX9_sure_22 (by decide) (fun c_13 => absurd c_13 (by decide)) (fun c_13 => ?_)
    refine lv_aload_n hx hb dX9_sure_25 rfl (lv_at hl 2 rfl) ?_
    refine lv_iload_n hx hb dX9_sure_26 rfl (lv_at hl 0 rfl) ?_
    refine kV_i (ci := 9) (As := [.int 1]) (rest := []) (wc := [(md, .inr (9, [.int 0, .ref m_all, .ref m_deeds, .ref m_trial, .int 0, .ref m_hasImage, .ref m_tape, .ref m_key, .ref m_answered, .int 0, .int 0, .int 0, .ref m_goes, .int 0, .ref m_hotOnes, .ref m_indexed, .ref m_isChanged, .int 0, .ref m_valueNow, .int 0, .int (-1), .int 0, .ref m_didSome, .ref m_sizes, .ref m_ends])), (m_all, aI cs 51207 f_m_all)]) (wr := []) hx hb hml hown hu hK hP hD hS hA hl.1 (c_X9_isFree l D cs H.size 1 md m_all f_m_all m_deeds m_trial m_hasImage m_tape m_key m_answered m_goes m_hotOnes m_indexed m_isChanged m_valueNow m_didSome m_sizes m_ends 0 0 0 z_all (by first | decide | grind)) (gV u_1188 u_1190 u_13 u_76 u_1191) hd_X9_isFree ⟨(Nat.le_of_ble_eq_true rfl), (Nat.le_of_ble_eq_true rfl)⟩ [0, 1] [] rfl rfl rfl rfl (by decide) rfl 0 rfl rfl rfl (Nat.le_of_ble_eq_true rfl) dX9_sure_27 ⟨(Nat.le_of_ble_eq_true rfl), (Nat.le_of_ble_eq_true rfl)⟩ (fun r_14 ut_15 H locs hw_16 hP hD hS => ?_)
    have hP : va_P D vwCl [(md, .inr (9, [.int 0, .ref m_all, .ref m_deeds, .ref m_trial, .int 0, .ref m_hasImage, .ref m_tape, .ref m_key, .ref m_answered, .int 0, .int 0, .int 0, .ref m_goes, .int 0, .ref m_hotOnes, .ref m_indexed, .ref m_isChanged, .int 0, .ref m_valueNow, .int 0, .int (-1), .int 0, .ref m_didSome, .ref m_sizes, .ref m_ends])), (m_all, aI cs 51207 f_m_all)] H := hP
    have hD : va_D A [(md, .inr (9, [.int 0, .ref m_all, .ref m_deeds, .ref m_trial, .int 0, .ref m_hasImage, .ref m_tape, .ref m_key, .ref m_answered, .int 0, .int 0, .int 0, .ref m_goes, .int 0, .ref m_hotOnes, .ref m_indexed, .ref m_isChanged, .int 0, .ref m_valueNow, .int 0, .int (-1), .int 0, .ref m_didSome, .ref m_sizes, .ref m_ends])), (m_all, aI cs 51207 f_m_all)] := hD
    have er_17 := hw_16
    subst er_17
    refine lv_if_ne (tgt := 69) hx hb dX9_sure_30 (by decide) (fun c_18 => ?_) (fun c_18 => absurd c_18 (by decide))
    refine lv_iinc (v := 2) (lv' := [(3, .int 2), (2, .int 0), (0, .ref md), (1, .int x)]) hx hb dX9_sure_69 hl (k := 0) rfl (by decide) (by decide) rfl (fun ls hl => ?_)
    refine lv_goto (tgt := 19) hx hb dX9_sure_72 (by decide) ?_
    refine lv_iload_n hx hb dX9_sure_19 rfl (lv_at hl 0 rfl) ?_
    refine lv_bipush (v := 24) hx hb dX9_sure_20 (by decide) ?_
    refine lv_icmp_ge (tgt := 75) hx hb dX9_sure_22 (by decide) (fun c_19 => absurd c_19 (by decide)) (fun c_19 => ?_)
    refine lv_aload_n hx hb dX9_sure_25 rfl (lv_at hl 2 rfl) ?_
    refine lv_iload_n hx hb dX9_sure_26 rfl (lv_at hl 0 rfl) ?_
    refine kV_i (ci := 9) (As := [.int 2]) (rest := []) (wc := [(md, .inr (9, [.int 0, .ref m_all, .ref m_deeds, .ref m_trial, .int 0, .ref m_hasImage, .ref m_tape, .ref m_key, .ref m_answered, .int 0, .int 0, .int 0, .ref m_goes, .int 0, .ref m_hotOnes, .ref m_indexed, .ref m_isChanged, .int 0, .ref m_valueNow, .int 0, .int (-1), .int 0, .ref m_didSome, .ref m_sizes, .ref m_ends])), (m_all, aI cs 51207 f_m_all)]) (wr := []) hx hb hml hown hu hK hP hD hS hA hl.1 (c_X9_isFree l D cs H.size 2 md m_all f_m_all m_deeds m_trial m_hasImage m_tape m_key m_answered m_goes m_hotOnes m_indexed m_isChanged m_valueNow m_didSome m_sizes m_ends 0 0 0 z_all (by first | decide | grind)) (gV u_1188 u_1190 u_13 u_76 u_1191) hd_X9_isFree ⟨(Nat.le_of_ble_eq_true rfl), (Nat.le_of_ble_eq_true rfl)⟩ [0, 1] [] rfl rfl rfl rfl (by decide) rfl 0 rfl rfl rfl (Nat.le_of_ble_eq_true rfl) dX9_sure_27 ⟨(Nat.le_of_ble_eq_true rfl), (Nat.le_of_ble_eq_true rfl)⟩ (fun r_20 ut_21 H locs hw_22 hP hD hS => ?_)
    have hP : va_P D vwCl [(md, .inr (9, [.int 0, .ref m_all, .ref m_deeds, .ref m_trial, .int 0, .ref m_hasImage, .ref m_tape, .ref m_key, .ref m_answered, .int 0, .int 0, .int 0, .ref m_goes, .int 0, .ref m_hotOnes, .ref m_indexed, .ref m_isChanged, .int 0, .ref m_valueNow, .int 0, .int (-1), .int 0, .ref m_didSome, .ref m_sizes, .ref m_ends])), (m_all, aI cs 51207 f_m_all)] H := hP
    have hD : va_D A [(md, .inr (9, [.int 0, .ref m_all, .ref m_deeds, .ref m_trial, .int 0, .ref m_hasImage, .ref m_tape, .ref m_key, .ref m_answered, .int 0, .int 0, .int 0, .ref m_goes, .int 0, .ref m_hotOnes, .ref m_indexed, .ref m_isChanged, .int 0, .ref m_valueNow, .int 0, .int (-1), .int 0, .ref m_didSome, .ref m_sizes, .ref m_ends])), (m_all, aI cs 51207 f_m_all)] := hD
    have er_23 := hw_22
    subst er_23
    refine lv_if_ne (tgt := 69) hx hb dX9_sure_30 (by decide) (fun c_24 => ?_) (fun c_24 => absurd c_24 (by decide))
    refine lv_iinc (v := 3) (lv' := [(3, .int 3), (2, .int 0), (0, .ref md), (1, .int x)]) hx hb dX9_sure_69 hl (k := 0) rfl (by decide) (by decide) rfl (fun ls hl => ?_)
    refine lv_goto (tgt := 19) hx hb dX9_sure_72 (by decide) ?_
    refine lv_iload_n hx hb dX9_sure_19 rfl (lv_at hl 0 rfl) ?_
    refine lv_bipush (v := 24) hx hb dX9_sure_20 (by decide) ?_
    refine lv_icmp_ge (tgt := 75) hx hb dX9_sure_22 (by decide) (fun c_25 => absurd c_25 (by decide)) (fun c_25 => ?_)
    refine lv_aload_n hx hb dX9_sure_25 rfl (lv_at hl 2 rfl) ?_
    refine lv_iload_n hx hb dX9_sure_26 rfl (lv_at hl 0 rfl) ?_
    refine kV_i (ci := 9) (As := [.int 3]) (rest := []) (wc := [(md, .inr (9, [.int 0, .ref m_all, .ref m_deeds, .ref m_trial, .int 0, .ref m_hasImage, .ref m_tape, .ref m_key, .ref m_answered, .int 0, .int 0, .int 0, .ref m_goes, .int 0, .ref m_hotOnes, .ref m_indexed, .ref m_isChanged, .int 0, .ref m_valueNow, .int 0, .int (-1), .int 0, .ref m_didSome, .ref m_sizes, .ref m_ends])), (m_all, aI cs 51207 f_m_all)]) (wr := []) hx hb hml hown hu hK hP hD hS hA hl.1 (c_X9_isFree l D cs H.size 3 md m_all f_m_all m_deeds m_trial m_hasImage m_tape m_key m_answered m_goes m_hotOnes m_indexed m_isChanged m_valueNow m_didSome m_sizes m_ends 0 0 0 z_all (by first | decide | grind)) (gV u_1188 u_1190 u_13 u_76 u_1191) hd_X9_isFree ⟨(Nat.le_of_ble_eq_true rfl), (Nat.le_of_ble_eq_true rfl)⟩ [0, 1] [] rfl rfl rfl rfl (by decide) rfl 0 rfl rfl rfl (Nat.le_of_ble_eq_true rfl) dX9_sure_27 ⟨(Nat.le_of_ble_eq_true rfl), (Nat.le_of_ble_eq_true rfl)⟩ (fun r_26 ut_27 H locs hw_28 hP hD hS => ?_)
    have hP : va_P D vwCl [(md, .inr (9, [.int 0, .ref m_all, .ref m_deeds, .ref m_trial, .int 0, .ref m_hasImage, .ref m_tape, .ref m_key, .ref m_answered, .int 0, .int 0, .int 0, .ref m_goes, .int 0, .ref m_hotOnes, .ref m_indexed, .ref m_isChanged, .int 0, .ref m_valueNow, .int 0, .int (-1), .int 0, .ref m_didSome, .ref m_sizes, .ref m_ends])), (m_all, aI cs 51207 f_m_all)] H := hP
    have hD : va_D A [(md, .inr (9, [.int 0, .ref m_all, .ref m_deeds, .ref m_trial, .int 0, .ref m_hasImage, .ref m_tape, .ref m_key, .ref m_answered, .int 0, .int 0, .int 0, .ref m_goes, .int 0, .ref m_hotOnes, .ref m_indexed, .ref m_isChanged, .int 0, .ref m_valueNow, .int 0, .int (-1), .int 0, .ref m_didSome, .ref m_sizes, .ref m_ends])), (m_all, aI cs 51207 f_m_all)] := hD
    have er_29 := hw_28
    subst er_29
    refine lv_if_ne (tgt := 69) hx hb dX9_sure_30 (by decide) (fun c_30 => ?_) (fun c_30 => absurd c_30 (by decide))
    refine lv_iinc (v := 4) (lv' := [(3, .int 4), (2, .int 0), (0, .ref md), (1, .int x)]) hx hb dX9_sure_69 hl (k := 0) rfl (by decide) (by decide) rfl (fun ls hl => ?_)
    refine lv_goto (tgt := 19) hx hb dX9_sure_72 (by decide) ?_
    refine lv_iload_n hx hb dX9_sure_19 rfl (lv_at hl 0 rfl) ?_
    refine lv_bipush (v := 24) hx hb dX9_sure_20 (by decide) ?_
    refine lv_icmp_ge (tgt := 75) hx hb dX9_sure_22 (by decide) (fun c_31 => absurd c_31 (by decide)) (fun c_31 => ?_)
    refine lv_aload_n hx hb dX9_sure_25 rfl (lv_at hl 2 rfl) ?_
    refine lv_iload_n hx hb dX9_sure_26 rfl (lv_at hl 0 rfl) ?_
    refine kV_i (ci := 9) (As := [.int 4]) (rest := []) (wc := [(md, .inr (9, [.int 0, .ref m_all, .ref m_deeds, .ref m_trial, .int 0, .ref m_hasImage, .ref m_tape, .ref m_key, .ref m_answered, .int 0, .int 0, .int 0, .ref m_goes, .int 0, .ref m_hotOnes, .ref m_indexed, .ref m_isChanged, .int 0, .ref m_valueNow, .int 0, .int (-1), .int 0, .ref m_didSome, .ref m_sizes, .ref m_ends])), (m_all, aI cs 51207 f_m_all)]) (wr := []) hx hb hml hown hu hK hP hD hS hA hl.1 (c_X9_isFree l D cs H.size 4 md m_all f_m_all m_deeds m_trial m_hasImage m_tape m_key m_answered m_goes m_hotOnes m_indexed m_isChanged m_valueNow m_didSome m_sizes m_ends 0 0 0 z_all (by first | decide | grind)) (gV u_1188 u_1190 u_13 u_76 u_1191) hd_X9_isFree ⟨(Nat.le_of_ble_eq_true rfl), (Nat.le_of_ble_eq_true rfl)⟩ [0, 1] [] rfl rfl rfl rfl (by decide) rfl 0 rfl rfl rfl (Nat.le_of_ble_eq_true rfl) dX9_sure_27 ⟨(Nat.le_of_ble_eq_true rfl), (Nat.le_of_ble_eq_true rfl)⟩ (fun r_32 ut_33 H locs hw_34 hP hD hS => ?_)
    have hP : va_P D vwCl [(md, .inr (9, [.int 0, .ref m_all, .ref m_deeds, .ref m_trial, .int 0, .ref m_hasImage, .ref m_tape, .ref m_key, .ref m_answered, .int 0, .int 0, .int 0, .ref m_goes, .int 0, .ref m_hotOnes, .ref m_indexed, .ref m_isChanged, .int 0, .ref m_valueNow, .int 0, .int (-1), .int 0, .ref m_didSome, .ref m_sizes, .ref m_ends])), (m_all, aI cs 51207 f_m_all)] H := hP
    have hD : va_D A [(md, .inr (9, [.int 0, .ref m_all, .ref m_deeds, .ref m_trial, .int 0, .ref m_hasImage, .ref m_tape, .ref m_key, .ref m_answered, .int 0, .int 0, .int 0, .ref m_goes, .int 0, .ref m_hotOnes, .ref m_indexed, .ref m_isChanged, .int 0, .ref m_valueNow, .int 0, .int (-1), .int 0, .ref m_didSome, .ref m_sizes, .ref m_ends])), (m_all, aI cs 51207 f_m_all)] := hD
    have er_35 := hw_34
    subst er_35
    refine lv_if_ne (tgt := 69) hx hb dX9_sure_30 (by decide) (fun c_36 => ?_) (fun c_36 => absurd c_36 (by decide))
    refine lv_iinc (v := 5) (lv' := [(3, .int 5), (2, .int 0), (0, .ref md), (1, .int x)]) hx hb dX9_sure_69 hl (k := 0) rfl (by decide) (by decide) rfl (fun ls hl => ?_)
    refine lv_goto (tgt := 19) hx hb dX9_sure_72 (by decide) ?_
    refine lv_iload_n hx hb dX9_sure_19 rfl (lv_at hl 0 rfl) ?_
    refine lv_bipush (v := 24) hx hb dX9_sure_20 (by decide) ?_
    refine lv_icmp_ge (tgt := 75) hx hb dX9_sure_22 (by decide) (fun c_37 => absurd c_37 (by decide)) (fun c_37 => ?_)
    refine lv_aload_n hx hb dX9_sure_25 rfl (lv_at hl 2 rfl) ?_
    refine lv_iload_n hx hb dX9_sure_26 rfl (lv_at hl 0 rfl) ?_
    refine kV_i (ci := 9) (As := [.int 5]) (rest := []) (wc := [(md, .inr (9, [.int 0, .ref m_all, .ref m_deeds, .ref m_trial, .int 0, .ref m_hasImage, .ref m_tape, .ref m_key, .ref m_answered, .int 0, .int 0, .int 0, .ref m_goes, .int 0, .ref m_hotOnes, .ref m_indexed, .ref m_isChanged, .int 0, .ref m_valueNow, .int 0, .int (-1), .int 0, .ref m_didSome, .ref m_sizes, .ref m_ends])), (m_all, aI cs 51207 f_m_all)]) (wr := []) hx hb hml hown hu hK hP hD hS hA hl.1 (c_X9_isFree l D cs H.size 5 md m_all f_m_all m_deeds m_trial m_hasImage m_tape m_key m_answered m_goes m_hotOnes m_indexed m_isChanged m_valueNow m_didSome m_sizes m_ends 0 0 0 z_all (by first | decide | grind)) (gV u_1188 u_1190 u_13 u_76 u_1191) hd_X9_isFree ⟨(Nat.le_of_ble_eq_true rfl), (Nat.le_of_ble_eq_true rfl)⟩ [0, 1] [] rfl rfl rfl rfl (by decide) rfl 0 rfl rfl rfl (Nat.le_of_ble_eq_true rfl) dX9_sure_27 ⟨(Nat.le_of_ble_eq_true rfl), (Nat.le_of_ble_eq_true rfl)⟩ (fun r_38 ut_39 H locs hw_40 hP hD hS => ?_)
    have hP : va_P D vwCl [(md, .inr (9, [.int 0, .ref m_all, .ref m_deeds, .ref m_trial, .int 0, .ref m_hasImage, .ref m_tape, .ref m_key, .ref m_answered, .int 0, .int 0, .int 0, .ref m_goes, .int 0, .ref m_hotOnes, .ref m_indexed, .ref m_isChanged, .int 0, .ref m_valueNow, .int 0, .int (-1), .int 0, .ref m_didSome, .ref m_sizes, .ref m_ends])), (m_all, aI cs 51207 f_m_all)] H := hP
    have hD : va_D A [(md, .inr (9, [.int 0, .ref m_all, .ref m_deeds, .ref m_trial, .int 0, .ref m_hasImage, .ref m_tape, .ref m_key, .ref m_answered, .int 0, .int 0, .int 0, .ref m_goes, .int 0, .ref m_hotOnes, .ref m_indexed, .ref m_isChanged, .int 0, .ref m_valueNow, .int 0, .int (-1), .int 0, .ref m_didSome, .ref m_sizes, .ref m_ends])), (m_all, aI cs 51207 f_m_all)] := hD
    have er_41 := hw_40
    subst er_41
    refine lv_if_ne (tgt := 69) hx hb dX9_sure_30 (by decide) (fun c_42 => ?_) (fun c_42 => absurd c_42 (by decide))
    refine lv_iinc (v := 6) (lv' := [(3, .int 6), (2, .int 0), (0, .ref md), (1, .int x)]) hx hb dX9_sure_69 hl (k := 0) rfl (by decide) (by decide) rfl (fun ls hl => ?_)
    refine lv_goto (tgt := 19) hx hb dX9_sure_72 (by decide) ?_
    refine lv_iload_n hx hb dX9_sure_19 rfl (lv_at hl 0 rfl) ?_
    refine lv_bipush (v := 24) hx hb dX9_sure_20 (by decide) ?_
    refine lv_icmp_ge (tgt := 75) hx hb dX9_sure_22 (by decide) (fun c_43 => absurd c_43 (by decide)) (fun c_43 => ?_)
    refine lv_aload_n hx hb dX9_sure_25 rfl (lv_at hl 2 rfl) ?_
    refine lv_iload_n hx hb dX9_sure_26 rfl (lv_at hl 0 rfl) ?_
    refine kV_i (ci := 9) (As := [.int 6]) (rest := []) (wc := [(md, .inr (9, [.int 0, .ref m_all, .ref m_deeds, .ref m_trial, .int 0, .ref m_hasImage, .ref m_tape, .ref m_key, .ref m_answered, .int 0, .int 0, .int 0, .ref m_goes, .int 0, .ref m_hotOnes, .ref m_indexed, .ref m_isChanged, .int 0, .ref m_valueNow, .int 0, .int (-1), .int 0, .ref m_didSome, .ref m_sizes, .ref m_ends])), (m_all, aI cs 51207 f_m_all)]) (wr := []) hx hb hml hown hu hK hP hD hS hA hl.1 (c_X9_isFree l D cs H.size 6 md m_all f_m_all m_deeds m_trial m_hasImage m_tape m_key m_answered m_goes m_hotOnes m_indexed m_isChanged m_valueNow m_didSome m_sizes m_ends 0 0 0 z_all (by first | decide | grind)) (gV u_1188 u_1190 u_13 u_76 u_1191) hd_X9_isFree ⟨(Nat.le_of_ble_eq_true rfl), (Nat.le_of_ble_eq_true rfl)⟩ [0, 1] [] rfl rfl rfl rfl (by decide) rfl 0 rfl rfl rfl (Nat.le_of_ble_eq_true rfl) dX9_sure_27 ⟨(Nat.le_of_ble_eq_true rfl), (Nat.le_of_ble_eq_true rfl)⟩ (fun r_44 ut_45 H locs hw_46 hP hD hS => ?_)
    have hP : va_P D vwCl [(md, .inr (9, [.int 0, .ref m_all, .ref m_deeds, .ref m_trial, .int 0, .ref m_hasImage, .ref m_tape, .ref m_key, .ref m_answered, .int 0, .int 0, .int 0, .ref m_goes, .int 0, .ref m_hotOnes, .ref m_indexed, .ref m_isChanged, .int 0, .ref m_valueNow, .int 0, .int (-1), .int 0, .ref m_didSome, .ref m_sizes, .ref m_ends])), (m_all, aI cs 51207 f_m_all)] H := hP
    have hD : va_D A [(md, .inr (9, [.int 0, .ref m_all, .ref m_deeds, .ref m_trial, .int 0, .ref m_hasImage, .ref m_tape, .ref m_key, .ref m_answered, .int 0, .int 0, .int 0, .ref m_goes, .int 0, .ref m_hotOnes, .ref m_indexed, .ref m_isChanged, .int 0, .ref m_valueNow, .int 0, .int (-1), .int 0, .ref m_didSome, .ref m_sizes, .ref m_ends])), (m_all, aI cs 51207 f_m_all)] := hD
    have er_47 := hw_46
    subst er_47
    refine lv_if_ne (tgt := 69) hx hb dX9_sure_30 (by decide) (fun c_48 => ?_) (fun c_48 => absurd c_48 (by decide))
    refine lv_iinc (v := 7) (lv' := [(3, .int 7), (2, .int 0), (0, .ref md), (1, .int x)]) hx hb dX9_sure_69 hl (k := 0) rfl (by decide) (by decide) rfl (fun ls hl => ?_)
    refine lv_goto (tgt := 19) hx hb dX9_sure_72 (by decide) ?_
    refine lv_iload_n hx hb dX9_sure_19 rfl (lv_at hl 0 rfl) ?_
    refine lv_bipush (v := 24) hx hb dX9_sure_20 (by decide) ?_
    refine lv_icmp_ge (tgt := 75) hx hb dX9_sure_22 (by decide) (fun c_49 => absurd c_49 (by decide)) (fun c_49 => ?_)
    refine lv_aload_n hx hb dX9_sure_25 rfl (lv_at hl 2 rfl) ?_
    refine lv_iload_n hx hb dX9_sure_26 rfl (lv_at hl 0 rfl) ?_
    refine kV_i (ci := 9) (As := [.int 7]) (rest := []) (wc := [(md, .inr (9, [.int 0, .ref m_all, .ref m_deeds, .ref m_trial, .int 0, .ref m_hasImage, .ref m_tape, .ref m_key, .ref m_answered, .int 0, .int 0, .int 0, .ref m_goes, .int 0, .ref m_hotOnes, .ref m_indexed, .ref m_isChanged, .int 0, .ref m_valueNow, .int 0, .int (-1), .int 0, .ref m_didSome, .ref m_sizes, .ref m_ends])), (m_all, aI cs 51207 f_m_all)]) (wr := []) hx hb hml hown hu hK hP hD hS hA hl.1 (c_X9_isFree l D cs H.size 7 md m_all f_m_all m_deeds m_trial m_hasImage m_tape m_key m_answered m_goes m_hotOnes m_indexed m_isChanged m_valueNow m_didSome m_sizes m_ends 0 0 0 z_all (by first | decide | grind)) (gV u_1188 u_1190 u_13 u_76 u_1191) hd_X9_isFree ⟨(Nat.le_of_ble_eq_true rfl), (Nat.le_of_ble_eq_true rfl)⟩ [0, 1] [] rfl rfl rfl rfl (by decide) rfl 0 rfl rfl rfl (Nat.le_of_ble_eq_true rfl) dX9_sure_27 ⟨(Nat.le_of_ble_eq_true rfl), (Nat.le_of_ble_eq_true rfl)⟩ (fun r_50 ut_51 H locs hw_52 hP hD hS => ?_)
    have hP : va_P D vwCl [(md, .inr (9, [.int 0, .ref m_all, .ref m_deeds, .ref m_trial, .int 0, .ref m_hasImage, .ref m_tape, .ref m_key, .ref m_answered, .int 0, .int 0, .int 0, .ref m_goes, .int 0, .ref m_hotOnes, .ref m_indexed, .ref m_isChanged, .int 0, .ref m_valueNow, .int 0, .int (-1), .int 0, .ref m_didSome, .ref m_sizes, .ref m_ends])), (m_all, aI cs 51207 f_m_all)] H := hP
    have hD : va_D A [(md, .inr (9, [.int 0, .ref m_all, .ref m_deeds, .ref m_trial, .int 0, .ref m_hasImage, .ref m_tape, .ref m_key, .ref m_answered, .int 0, .int 0, .int 0, .ref m_goes, .int 0, .ref m_hotOnes, .ref m_indexed, .ref m_isChanged, .int 0, .ref m_valueNow, .int 0, .int (-1), .int 0, .ref m_didSome, .ref m_sizes, .ref m_ends])), (m_all, aI cs 51207 f_m_all)] := hD
    have er_53 := hw_52
    subst er_53
    refine lv_if_ne (tgt := 69) hx hb dX9_sure_30 (by decide) (fun c_54 => ?_) (fun c_54 => absurd c_54 (by decide))
    refine lv_iinc (v := 8) (lv' := [(3, .int 8), (2, .int 0), (0, .ref md), (1, .int x)]) hx hb dX9_sure_69 hl (k := 0) rfl (by decide) (by decide) rfl (fun ls hl => ?_)
    refine lv_goto (tgt := 19) hx hb dX9_sure_72 (by decide) ?_
    refine lv_iload_n hx hb dX9_sure_19 rfl (lv_at hl 0 rfl) ?_
    refine lv_bipush (v := 24) hx hb dX9_sure_20 (by decide) ?_
    refine lv_icmp_ge (tgt := 75) hx hb dX9_sure_22 (by decide) (fun c_55 => absurd c_55 (by decide)) (fun c_55 => ?_)
    refine lv_aload_n hx hb dX9_sure_25 rfl (lv_at hl 2 rfl) ?_
    refine lv_iload_n hx hb dX9_sure_26 rfl (lv_at hl 0 rfl) ?_
    refine kV_i (ci := 9) (As := [.int 8]) (rest := []) (wc := [(md, .inr (9, [.int 0, .ref m_all, .ref m_deeds, .ref m_trial, .int 0, .ref m_hasImage, .ref m_tape, .ref m_key, .ref m_answered, .int 0, .int 0, .int 0, .ref m_goes, .int 0, .ref m_hotOnes, .ref m_indexed, .ref m_isChanged, .int 0, .ref m_valueNow, .int 0, .int (-1), .int 0, .ref m_didSome, .ref m_sizes, .ref m_ends])), (m_all, aI cs 51207 f_m_all)]) (wr := []) hx hb hml hown hu hK hP hD hS hA hl.1 (c_X9_isFree l D cs H.size 8 md m_all f_m_all m_deeds m_trial m_hasImage m_tape m_key m_answered m_goes m_hotOnes m_indexed m_isChanged m_valueNow m_didSome m_sizes m_ends 0 0 0 z_all (by first | decide | grind)) (gV u_1188 u_1190 u_13 u_76 u_1191) hd_X9_isFree ⟨(Nat.le_of_ble_eq_true rfl), (Nat.le_of_ble_eq_true rfl)⟩ [0, 1] [] rfl rfl rfl rfl (by decide) rfl 0 rfl rfl rfl (Nat.le_of_ble_eq_true rfl) dX9_sure_27 ⟨(Nat.le_of_ble_eq_true rfl), (Nat.le_of_ble_eq_true rfl)⟩ (fun r_56 ut_57 H locs hw_58 hP hD hS => ?_)
    have hP : va_P D vwCl [(md, .inr (9, [.int 0, .ref m_all, .ref m_deeds, .ref m_trial, .int 0, .ref m_hasImage, .ref m_tape, .ref m_key, .ref m_answered, .int 0, .int 0, .int 0, .ref m_goes, .int 0, .ref m_hotOnes, .ref m_indexed, .ref m_isChanged, .int 0, .ref m_valueNow, .int 0, .int (-1), .int 0, .ref m_didSome, .ref m_sizes, .ref m_ends])), (m_all, aI cs 51207 f_m_all)] H := hP
    have hD : va_D A [(md, .inr (9, [.int 0, .ref m_all, .ref m_deeds, .ref m_trial, .int 0, .ref m_hasImage, .ref m_tape, .ref m_key, .ref m_answered, .int 0, .int 0, .int 0, .ref m_goes, .int 0, .ref m_hotOnes, .ref m_indexed, .ref m_isChanged, .int 0, .ref m_valueNow, .int 0, .int (-1), .int 0, .ref m_didSome, .ref m_sizes, .ref m_ends])), (m_all, aI cs 51207 f_m_all)] := hD
    have er_59 := hw_58
    subst er_59
    refine lv_if_ne (tgt := 69) hx hb dX9_sure_30 (by decide) (fun c_60 => ?_) (fun c_60 => absurd c_60 (by decide))
    refine lv_iinc (v := 9) (lv' := [(3, .int 9), (2, .int 0), (0, .ref md), (1, .int x)]) hx hb dX9_sure_69 hl (k := 0) rfl (by decide) (by decide) rfl (fun ls hl => ?_)
    refine lv_goto (tgt := 19) hx hb dX9_sure_72 (by decide) ?_
    refine lv_iload_n hx hb dX9_sure_19 rfl (lv_at hl 0 rfl) ?_
    refine lv_bipush (v := 24) hx hb dX9_sure_20 (by decide) ?_
    refine lv_icmp_ge (tgt := 75) hx hb dX9_sure_22 (by decide) (fun c_61 => absurd c_61 (by decide)) (fun c_61 => ?_)
    refine lv_aload_n hx hb dX9_sure_25 rfl (lv_at hl 2 rfl) ?_
    refine lv_iload_n hx hb dX9_sure_26 rfl (lv_at hl 0 rfl) ?_
    refine kV_i (ci := 9) (As := [.int 9]) (rest := []) (wc := [(md, .inr (9, [.int 0, .ref m_all, .ref m_deeds, .ref m_trial, .int 0, .ref m_hasImage, .ref m_tape, .ref m_key, .ref m_answered, .int 0, .int 0, .int 0, .ref m_goes, .int 0, .ref m_hotOnes, .ref m_indexed, .ref m_isChanged, .int 0, .ref m_valueNow, .int 0, .int (-1), .int 0, .ref m_didSome, .ref m_sizes, .ref m_ends])), (m_all, aI cs 51207 f_m_all)]) (wr := []) hx hb hml hown hu hK hP hD hS hA hl.1 (c_X9_isFree l D cs H.size 9 md m_all f_m_all m_deeds m_trial m_hasImage m_tape m_key m_answered m_goes m_hotOnes m_indexed m_isChanged m_valueNow m_didSome m_sizes m_ends 0 0 0 z_all (by first | decide | grind)) (gV u_1188 u_1190 u_13 u_76 u_1191) hd_X9_isFree ⟨(Nat.le_of_ble_eq_true rfl), (Nat.le_of_ble_eq_true rfl)⟩ [0, 1] [] rfl rfl rfl rfl (by decide) rfl 0 rfl rfl rfl (Nat.le_of_ble_eq_true rfl) dX9_sure_27 ⟨(Nat.le_of_ble_eq_true rfl), (Nat.le_of_ble_eq_true rfl)⟩ (fun r_62 ut_63 H locs hw_64 hP hD hS => ?_)
    have hP : va_P D vwCl [(md, .inr (9, [.int 0, .ref m_all, .ref m_deeds, .ref m_trial, .int 0, .ref m_hasImage, .ref m_tape, .ref m_key, .ref m_answered, .int 0, .int 0, .int 0, .ref m_goes, .int 0, .ref m_hotOnes, .ref m_indexed, .ref m_isChanged, .int 0, .ref m_valueNow, .int 0, .int (-1), .int 0, .ref m_didSome, .ref m_sizes, .ref m_ends])), (m_all, aI cs 51207 f_m_all)] H := hP
    have hD : va_D A [(md, .inr (9, [.int 0, .ref m_all, .ref m_deeds, .ref m_trial, .int 0, .ref m_hasImage, .ref m_tape, .ref m_key, .ref m_answered, .int 0, .int 0, .int 0, .ref m_goes, .int 0, .ref m_hotOnes, .ref m_indexed, .ref m_isChanged, .int 0, .ref m_valueNow, .int 0, .int (-1), .int 0, .ref m_didSome, .ref m_sizes, .ref m_ends])), (m_all, aI cs 51207 f_m_all)] := hD
    have er_65 := hw_64
    subst er_65
    refine lv_if_ne (tgt := 69) hx hb dX9_sure_30 (by decide) (fun c_66 => ?_) (fun c_66 => absurd c_66 (by decide))
    refine lv_iinc (v := 10) (lv' := [(3, .int 10), (2, .int 0), (0, .ref md), (1, .int x)]) hx hb dX9_sure_69 hl (k := 0) rfl (by decide) (by decide) rfl (fun ls hl => ?_)
    refine lv_goto (tgt := 19) hx hb dX9_sure_72 (by decide) ?_
    refine lv_iload_n hx hb dX9_sure_19 rfl (lv_at hl 0 rfl) ?_
    refine lv_bipush (v := 24) hx hb dX9_sure_20 (by decide) ?_
    refine lv_icmp_ge (tgt := 75) hx hb dX9_sure_22 (by decide) (fun c_67 => absurd c_67 (by decide)) (fun c_67 => ?_)
    refine lv_aload_n hx hb dX9_sure_25 rfl (lv_at hl 2 rfl) ?_
    refine lv_iload_n hx hb dX9_sure_26 rfl (lv_at hl 0 rfl) ?_
    refine kV_i (ci := 9) (As := [.int 10]) (rest := []) (wc := [(md, .inr (9, [.int 0, .ref m_all, .ref m_deeds, .ref m_trial, .int 0, .ref m_hasImage, .ref m_tape, .ref m_key, .ref m_answered, .int 0, .int 0, .int 0, .ref m_goes, .int 0, .ref m_hotOnes, .ref m_indexed, .ref m_isChanged, .int 0, .ref m_valueNow, .int 0, .int (-1), .int 0, .ref m_didSome, .ref m_sizes, .ref m_ends])), (m_all, aI cs 51207 f_m_all)]) (wr := []) hx hb hml hown hu hK hP hD hS hA hl.1 (c_X9_isFree l D cs H.size 10 md m_all f_m_all m_deeds m_trial m_hasImage m_tape m_key m_answered m_goes m_hotOnes m_indexed m_isChanged m_valueNow m_didSome m_sizes m_ends 0 0 0 z_all (by first | decide | grind)) (gV u_1188 u_1190 u_13 u_76 u_1191) hd_X9_isFree ⟨(Nat.le_of_ble_eq_true rfl), (Nat.le_of_ble_eq_true rfl)⟩ [0, 1] [] rfl rfl rfl rfl (by decide) rfl 0 rfl rfl rfl (Nat.le_of_ble_eq_true rfl) dX9_sure_27 ⟨(Nat.le_of_ble_eq_true rfl), (Nat.le_of_ble_eq_true rfl)⟩ (fun r_68 ut_69 H locs hw_70 hP hD hS => ?_)
    have hP : va_P D vwCl [(md, .inr (9, [.int 0, .ref m_all, .ref m_deeds, .ref m_trial, .int 0, .ref m_hasImage, .ref m_tape, .ref m_key, .ref m_answered, .int 0, .int 0, .int 0, .ref m_goes, .int 0, .ref m_hotOnes, .ref m_indexed, .ref m_isChanged, .int 0, .ref m_valueNow, .int 0, .int (-1), .int 0, .ref m_didSome, .ref m_sizes, .ref m_ends])), (m_all, aI cs 51207 f_m_all)] H := hP
    have hD : va_D A [(md, .inr (9, [.int 0, .ref m_all, .ref m_deeds, .ref m_trial, .int 0, .ref m_hasImage, .ref m_tape, .ref m_key, .ref m_answered, .int 0, .int 0, .int 0, .ref m_goes, .int 0, .ref m_hotOnes, .ref m_indexed, .ref m_isChanged, .int 0, .ref m_valueNow, .int 0, .int (-1), .int 0, .ref m_didSome, .ref m_sizes, .ref m_ends])), (m_all, aI cs 51207 f_m_all)] := hD
    have er_71 := hw_70
    subst er_71
    refine lv_if_ne (tgt := 69) hx hb dX9_sure_30 (by decide) (fun c_72 => ?_) (fun c_72 => absurd c_72 (by decide))
    refine lv_iinc (v := 11) (lv' := [(3, .int 11), (2, .int 0), (0, .ref md), (1, .int x)]) hx hb dX9_sure_69 hl (k := 0) rfl (by decide) (by decide) rfl (fun ls hl => ?_)
    refine lv_goto (tgt := 19) hx hb dX9_sure_72 (by decide) ?_
    refine lv_iload_n hx hb dX9_sure_19 rfl (lv_at hl 0 rfl) ?_
    refine lv_bipush (v := 24) hx hb dX9_sure_20 (by decide) ?_
    refine lv_icmp_ge (tgt := 75) hx hb dX9_sure_22 (by decide) (fun c_73 => absurd c_73 (by decide)) (fun c_73 => ?_)
    refine lv_aload_n hx hb dX9_sure_25 rfl (lv_at hl 2 rfl) ?_
    refine lv_iload_n hx hb dX9_sure_26 rfl (lv_at hl 0 rfl) ?_
    refine kV_i (ci := 9) (As := [.int 11]) (rest := []) (wc := [(md, .inr (9, [.int 0, .ref m_all, .ref m_deeds, .ref m_trial, .int 0, .ref m_hasImage, .ref m_tape, .ref m_key, .ref m_answered, .int 0, .int 0, .int 0, .ref m_goes, .int 0, .ref m_hotOnes, .ref m_indexed, .ref m_isChanged, .int 0, .ref m_valueNow, .int 0, .int (-1), .int 0, .ref m_didSome, .ref m_sizes, .ref m_ends])), (m_all, aI cs 51207 f_m_all)]) (wr := []) hx hb hml hown hu hK hP hD hS hA hl.1 (c_X9_isFree l D cs H.size 11 md m_all f_m_all m_deeds m_trial m_hasImage m_tape m_key m_answered m_goes m_hotOnes m_indexed m_isChanged m_valueNow m_didSome m_sizes m_ends 0 0 0 z_all (by first | decide | grind)) (gV u_1188 u_1190 u_13 u_76 u_1191) hd_X9_isFree ⟨(Nat.le_of_ble_eq_true rfl), (Nat.le_of_ble_eq_true rfl)⟩ [0, 1] [] rfl rfl rfl rfl (by decide) rfl 0 rfl rfl rfl (Nat.le_of_ble_eq_true rfl) dX9_sure_27 ⟨(Nat.le_of_ble_eq_true rfl), (Nat.le_of_ble_eq_true rfl)⟩ (fun r_74 ut_75 H locs hw_76 hP hD hS => ?_)
    have hP : va_P D vwCl [(md, .inr (9, [.int 0, .ref m_all, .ref m_deeds, .ref m_trial, .int 0, .ref m_hasImage, .ref m_tape, .ref m_key, .ref m_answered, .int 0, .int 0, .int 0, .ref m_goes, .int 0, .ref m_hotOnes, .ref m_indexed, .ref m_isChanged, .int 0, .ref m_valueNow, .int 0, .int (-1), .int 0, .ref m_didSome, .ref m_sizes, .ref m_ends])), (m_all, aI cs 51207 f_m_all)] H := hP
    have hD : va_D A [(md, .inr (9, [.int 0, .ref m_all, .ref m_deeds, .ref m_trial, .int 0, .ref m_hasImage, .ref m_tape, .ref m_key, .ref m_answered, .int 0, .int 0, .int 0, .ref m_goes, .int 0, .ref m_hotOnes, .ref m_indexed, .ref m_isChanged, .int 0, .ref m_valueNow, .int 0, .int (-1), .int 0, .ref m_didSome, .ref m_sizes, .ref m_ends])), (m_all, aI cs 51207 f_m_all)] := hD
    have er_77 := hw_76
    subst er_77
    refine lv_if_ne (tgt := 69) hx hb dX9_sure_30 (by decide) (fun c_78 => ?_) (fun c_78 => absurd c_78 (by decide))
    refine lv_iinc (v := 12) (lv' := [(3, .int 12), (2, .int 0), (0, .ref md), (1, .int x)]) hx hb dX9_sure_69 hl (k := 0) rfl (by decide) (by decide) rfl (fun ls hl => ?_)
    refine lv_goto (tgt := 19) hx hb dX9_sure_72 (by decide) ?_
    refine lv_iload_n hx hb dX9_sure_19 rfl (lv_at hl 0 rfl) ?_
    refine lv_bipush (v := 24) hx hb dX9_sure_20 (by decide) ?_
    refine lv_icmp_ge (tgt := 75) hx hb dX9_sure_22 (by decide) (fun c_79 => absurd c_79 (by decide)) (fun c_79 => ?_)
    refine lv_aload_n hx hb dX9_sure_25 rfl (lv_at hl 2 rfl) ?_
    refine lv_iload_n hx hb dX9_sure_26 rfl (lv_at hl 0 rfl) ?_
    refine kV_i (ci := 9) (As := [.int 12]) (rest := []) (wc := [(md, .inr (9, [.int 0, .ref m_all, .ref m_deeds, .ref m_trial, .int 0, .ref m_hasImage, .ref m_tape, .ref m_key, .ref m_answered, .int 0, .int 0, .int 0, .ref m_goes, .int 0, .ref m_hotOnes, .ref m_indexed, .ref m_isChanged, .int 0, .ref m_valueNow, .int 0, .int (-1), .int 0, .ref m_didSome, .ref m_sizes, .ref m_ends])), (m_all, aI cs 51207 f_m_all)]) (wr := []) hx hb hml hown hu hK hP hD hS hA hl.1 (c_X9_isFree l D cs H.size 12 md m_all f_m_all m_deeds m_trial m_hasImage m_tape m_key m_answered m_goes m_hotOnes m_indexed m_isChanged m_valueNow m_didSome m_sizes m_ends 0 0 0 z_all (by first | decide | grind)) (gV u_1188 u_1190 u_13 u_76 u_1191) hd_X9_isFree ⟨(Nat.le_of_ble_eq_true rfl), (Nat.le_of_ble_eq_true rfl)⟩ [0, 1] [] rfl rfl rfl rfl (by decide) rfl 0 rfl rfl rfl (Nat.le_of_ble_eq_true rfl) dX9_sure_27 ⟨(Nat.le_of_ble_eq_true rfl), (Nat.le_of_ble_eq_true rfl)⟩ (fun r_80 ut_81 H locs hw_82 hP hD hS => ?_)
    have hP : va_P D vwCl [(md, .inr (9, [.int 0, .ref m_all, .ref m_deeds, .ref m_trial, .int 0, .ref m_hasImage, .ref m_tape, .ref m_key, .ref m_answered, .int 0, .int 0, .int 0, .ref m_goes, .int 0, .ref m_hotOnes, .ref m_indexed, .ref m_isChanged, .int 0, .ref m_valueNow, .int 0, .int (-1), .int 0, .ref m_didSome, .ref m_sizes, .ref m_ends])), (m_all, aI cs 51207 f_m_all)] H := hP
    have hD : va_D A [(md, .inr (9, [.int 0, .ref m_all, .ref m_deeds, .ref m_trial, .int 0, .ref m_hasImage, .ref m_tape, .ref m_key, .ref m_answered, .int 0, .int 0, .int 0, .ref m_goes, .int 0, .ref m_hotOnes, .ref m_indexed, .ref m_isChanged, .int 0, .ref m_valueNow, .int 0, .int (-1), .int 0, .ref m_didSome, .ref m_sizes, .ref m_ends])), (m_all, aI cs 51207 f_m_all)] := hD
    have er_83 := hw_82
    subst er_83
    refine lv_if_ne (tgt := 69) hx hb dX9_sure_30 (by decide) (fun c_84 => ?_) (fun c_84 => absurd c_84 (by decide))
    refine lv_iinc (v := 13) (lv' := [(3, .int 13), (2, .int 0), (0, .ref md), (1, .int x)]) hx hb dX9_sure_69 hl (k := 0) rfl (by decide) (by decide) rfl (fun ls hl => ?_)
    refine lv_goto (tgt := 19) hx hb dX9_sure_72 (by decide) ?_
    refine lv_iload_n hx hb dX9_sure_19 rfl (lv_at hl 0 rfl) ?_
    refine lv_bipush (v := 24) hx hb dX9_sure_20 (by decide) ?_
    refine lv_icmp_ge (tgt := 75) hx hb dX9_sure_22 (by decide) (fun c_85 => absurd c_85 (by decide)) (fun c_85 => ?_)
    refine lv_aload_n hx hb dX9_sure_25 rfl (lv_at hl 2 rfl) ?_
    refine lv_iload_n hx hb dX9_sure_26 rfl (lv_at hl 0 rfl) ?_
    refine kV_i (ci := 9) (As := [.int 13]) (rest := []) (wc := [(md, .inr (9, [.int 0, .ref m_all, .ref m_deeds, .ref m_trial, .int 0, .ref m_hasImage, .ref m_tape, .ref m_key, .ref m_answered, .int 0, .int 0, .int 0, .ref m_goes, .int 0, .ref m_hotOnes, .ref m_indexed, .ref m_isChanged, .int 0, .ref m_valueNow, .int 0, .int (-1), .int 0, .ref m_didSome, .ref m_sizes, .ref m_ends])), (m_all, aI cs 51207 f_m_all)]) (wr := []) hx hb hml hown hu hK hP hD hS hA hl.1 (c_X9_isFree l D cs H.size 13 md m_all f_m_all m_deeds m_trial m_hasImage m_tape m_key m_answered m_goes m_hotOnes m_indexed m_isChanged m_valueNow m_didSome m_sizes m_ends 0 0 0 z_all (by first | decide | grind)) (gV u_1188 u_1190 u_13 u_76 u_1191) hd_X9_isFree ⟨(Nat.le_of_ble_eq_true rfl), (Nat.le_of_ble_eq_true rfl)⟩ [0, 1] [] rfl rfl rfl rfl (by decide) rfl 0 rfl rfl rfl (Nat.le_of_ble_eq_true rfl) dX9_sure_27 ⟨(Nat.le_of_ble_eq_true rfl), (Nat.le_of_ble_eq_true rfl)⟩ (fun r_86 ut_87 H locs hw_88 hP hD hS => ?_)
    have hP : va_P D vwCl [(md, .inr (9, [.int 0, .ref m_all, .ref m_deeds, .ref m_trial, .int 0, .ref m_hasImage, .ref m_tape, .ref m_key, .ref m_answered, .int 0, .int 0, .int 0, .ref m_goes, .int 0, .ref m_hotOnes, .ref m_indexed, .ref m_isChanged, .int 0, .ref m_valueNow, .int 0, .int (-1), .int 0, .ref m_didSome, .ref m_sizes, .ref m_ends])), (m_all, aI cs 51207 f_m_all)] H := hP
    have hD : va_D A [(md, .inr (9, [.int 0, .ref m_all, .ref m_deeds, .ref m_trial, .int 0, .ref m_hasImage, .ref m_tape, .ref m_key, .ref m_answered, .int 0, .int 0, .int 0, .ref m_goes, .int 0, .ref m_hotOnes, .ref m_indexed, .ref m_isChanged, .int 0, .ref m_valueNow, .int 0, .int (-1), .int 0, .ref m_didSome, .ref m_sizes, .ref m_ends])), (m_all, aI cs 51207 f_m_all)] := hD
    have er_89 := hw_88
    subst er_89
    refine lv_if_ne (tgt := 69) hx hb dX9_sure_30 (by decide) (fun c_90 => ?_) (fun c_90 => absurd c_90 (by decide))
    refine lv_iinc (v := 14) (lv' := [(3, .int 14), (2, .int 0), (0, .ref md), (1, .int x)]) hx hb dX9_sure_69 hl (k := 0) rfl (by decide) (by decide) rfl (fun ls hl => ?_)
    refine lv_goto (tgt := 19) hx hb dX9_sure_72 (by decide) ?_
    refine lv_iload_n hx hb dX9_sure_19 rfl (lv_at hl 0 rfl) ?_
    refine lv_bipush (v := 24) hx hb dX9_sure_20 (by decide) ?_
    refine lv_icmp_ge (tgt := 75) hx hb dX9_sure_22 (by decide) (fun c_91 => absurd c_91 (by decide)) (fun c_91 => ?_)
    refine lv_aload_n hx hb dX9_sure_25 rfl (lv_at hl 2 rfl) ?_
    refine lv_iload_n hx hb dX9_sure_26 rfl (lv_at hl 0 rfl) ?_
    refine kV_i (ci := 9) (As := [.int 14]) (rest := []) (wc := [(md, .inr (9, [.int 0, .ref m_all, .ref m_deeds, .ref m_trial, .int 0, .ref m_hasImage, .ref m_tape, .ref m_key, .ref m_answered, .int 0, .int 0, .int 0, .ref m_goes, .int 0, .ref m_hotOnes, .ref m_indexed, .ref m_isChanged, .int 0, .ref m_valueNow, .int 0, .int (-1), .int 0, .ref m_didSome, .ref m_sizes, .ref m_ends])), (m_all, aI cs 51207 f_m_all)]) (wr := []) hx hb hml hown hu hK hP hD hS hA hl.1 (c_X9_isFree l D cs H.size 14 md m_all f_m_all m_deeds m_trial m_hasImage m_tape m_key m_answered m_goes m_hotOnes m_indexed m_isChanged m_valueNow m_didSome m_sizes m_ends 0 0 0 z_all (by first | decide | grind)) (gV u_1188 u_1190 u_13 u_76 u_1191) hd_X9_isFree ⟨(Nat.le_of_ble_eq_true rfl), (Nat.le_of_ble_eq_true rfl)⟩ [0, 1] [] rfl rfl rfl rfl (by decide) rfl 0 rfl rfl rfl (Nat.le_of_ble_eq_true rfl) dX9_sure_27 ⟨(Nat.le_of_ble_eq_true rfl), (Nat.le_of_ble_eq_true rfl)⟩ (fun r_92 ut_93 H locs hw_94 hP hD hS => ?_)
    have hP : va_P D vwCl [(md, .inr (9, [.int 0, .ref m_all, .ref m_deeds, .ref m_trial, .int 0, .ref m_hasImage, .ref m_tape, .ref m_key, .ref m_answered, .int 0, .int 0, .int 0, .ref m_goes, .int 0, .ref m_hotOnes, .ref m_indexed, .ref m_isChanged, .int 0, .ref m_valueNow, .int 0, .int (-1), .int 0, .ref m_didSome, .ref m_sizes, .ref m_ends])), (m_all, aI cs 51207 f_m_all)] H := hP
    have hD : va_D A [(md, .inr (9, [.int 0, .ref m_all, .ref m_deeds, .ref m_trial, .int 0, .ref m_hasImage, .ref m_tape, .ref m_key, .ref m_answered, .int 0, .int 0, .int 0, .ref m_goes, .int 0, .ref m_hotOnes, .ref m_indexed, .ref m_isChanged, .int 0, .ref m_valueNow, .int 0, .int (-1), .int 0, .ref m_didSome, .ref m_sizes, .ref m_ends])), (m_all, aI cs 51207 f_m_all)] := hD
    have er_95 := hw_94
    subst er_95
    refine lv_if_ne (tgt := 69) hx hb dX9_sure_30 (by decide) (fun c_96 => ?_) (fun c_96 => absurd c_96 (by decide))
    refine lv_iinc (v := 15) (lv' := [(3, .int 15), (2, .int 0), (0, .ref md), (1, .int x)]) hx hb dX9_sure_69 hl (k := 0) rfl (by decide) (by decide) rfl (fun ls hl => ?_)
    refine lv_goto (tgt := 19) hx hb dX9_sure_72 (by decide) ?_
    refine lv_iload_n hx hb dX9_sure_19 rfl (lv_at hl 0 rfl) ?_
    refine lv_bipush (v := 24) hx hb dX9_sure_20 (by decide) ?_
    refine lv_icmp_ge (tgt := 75) hx hb dX9_sure_22 (by decide) (fun c_97 => absurd c_97 (by decide)) (fun c_97 => ?_)
    refine lv_aload_n hx hb dX9_sure_25 rfl (lv_at hl 2 rfl) ?_
    refine lv_iload_n hx hb dX9_sure_26 rfl (lv_at hl 0 rfl) ?_
    refine kV_i (ci := 9) (As := [.int 15]) (rest := []) (wc := [(md, .inr (9, [.int 0, .ref m_all, .ref m_deeds, .ref m_trial, .int 0, .ref m_hasImage, .ref m_tape, .ref m_key, .ref m_answered, .int 0, .int 0, .int 0, .ref m_goes, .int 0, .ref m_hotOnes, .ref m_indexed, .ref m_isChanged, .int 0, .ref m_valueNow, .int 0, .int (-1), .int 0, .ref m_didSome, .ref m_sizes, .ref m_ends])), (m_all, aI cs 51207 f_m_all)]) (wr := []) hx hb hml hown hu hK hP hD hS hA hl.1 (c_X9_isFree l D cs H.size 15 md m_all f_m_all m_deeds m_trial m_hasImage m_tape m_key m_answered m_goes m_hotOnes m_indexed m_isChanged m_valueNow m_didSome m_sizes m_ends 0 0 0 z_all (by first | decide | grind)) (gV u_1188 u_1190 u_13 u_76 u_1191) hd_X9_isFree ⟨(Nat.le_of_ble_eq_true rfl), (Nat.le_of_ble_eq_true rfl)⟩ [0, 1] [] rfl rfl rfl rfl (by decide) rfl 0 rfl rfl rfl (Nat.le_of_ble_eq_true rfl) dX9_sure_27 ⟨(Nat.le_of_ble_eq_true rfl), (Nat.le_of_ble_eq_true rfl)⟩ (fun r_98 ut_99 H locs hw_100 hP hD hS => ?_)
    have hP : va_P D vwCl [(md, .inr (9, [.int 0, .ref m_all, .ref m_deeds, .ref m_trial, .int 0, .ref m_hasImage, .ref m_tape, .ref m_key, .ref m_answered, .int 0, .int 0, .int 0, .ref m_goes, .int 0, .ref m_hotOnes, .ref m_indexed, .ref m_isChanged, .int 0, .ref m_valueNow, .int 0, .int (-1), .int 0, .ref m_didSome, .ref m_sizes, .ref m_ends])), (m_all, aI cs 51207 f_m_all)] H := hP
    have hD : va_D A [(md, .inr (9, [.int 0, .ref m_all, .ref m_deeds, .ref m_trial, .int 0, .ref m_hasImage, .ref m_tape, .ref m_key, .ref m_answered, .int 0, .int 0, .int 0, .ref m_goes, .int 0, .ref m_hotOnes, .ref m_indexed, .ref m_isChanged, .int 0, .ref m_valueNow, .int 0, .int (-1), .int 0, .ref m_didSome, .ref m_sizes, .ref m_ends])), (m_all, aI cs 51207 f_m_all)] := hD
    have er_101 := hw_100
    subst er_101
    refine lv_if_ne (tgt := 69) hx hb dX9_sure_30 (by decide) (fun c_102 => ?_) (fun c_102 => absurd c_102 (by decide))
    refine lv_iinc (v := 16) (lv' := [(3, .int 16), (2, .int 0), (0, .ref md), (1, .int x)]) hx hb dX9_sure_69 hl (k := 0) rfl (by decide) (by decide) rfl (fun ls hl => ?_)
    refine lv_goto (tgt := 19) hx hb dX9_sure_72 (by decide) ?_
    refine lv_iload_n hx hb dX9_sure_19 rfl (lv_at hl 0 rfl) ?_
    refine lv_bipush (v := 24) hx hb dX9_sure_20 (by decide) ?_
    refine lv_icmp_ge (tgt := 75) hx hb dX9_sure_22 (by decide) (fun c_103 => absurd c_103 (by decide)) (fun c_103 => ?_)
    refine lv_aload_n hx hb dX9_sure_25 rfl (lv_at hl 2 rfl) ?_
    refine lv_iload_n hx hb dX9_sure_26 rfl (lv_at hl 0 rfl) ?_
    refine kV_i (ci := 9) (As := [.int 16]) (rest := []) (wc := [(md, .inr (9, [.int 0, .ref m_all, .ref m_deeds, .ref m_trial, .int 0, .ref m_hasImage, .ref m_tape, .ref m_key, .ref m_answered, .int 0, .int 0, .int 0, .ref m_goes, .int 0, .ref m_hotOnes, .ref m_indexed, .ref m_isChanged, .int 0, .ref m_valueNow, .int 0, .int (-1), .int 0, .ref m_didSome, .ref m_sizes, .ref m_ends])), (m_all, aI cs 51207 f_m_all)]) (wr := []) hx hb hml hown hu hK hP hD hS hA hl.1 (c_X9_isFree l D cs H.size 16 md m_all f_m_all m_deeds m_trial m_hasImage m_tape m_key m_answered m_goes m_hotOnes m_indexed m_isChanged m_valueNow m_didSome m_sizes m_ends 0 0 0 z_all (by first | decide | grind)) (gV u_1188 u_1190 u_13 u_76 u_1191) hd_X9_isFree ⟨(Nat.le_of_ble_eq_true rfl), (Nat.le_of_ble_eq_true rfl)⟩ [0, 1] [] rfl rfl rfl rfl (by decide) rfl 0 rfl rfl rfl (Nat.le_of_ble_eq_true rfl) dX9_sure_27 ⟨(Nat.le_of_ble_eq_true rfl), (Nat.le_of_ble_eq_true rfl)⟩ (fun r_104 ut_105 H locs hw_106 hP hD hS => ?_)
    have hP : va_P D vwCl [(md, .inr (9, [.int 0, .ref m_all, .ref m_deeds, .ref m_trial, .int 0, .ref m_hasImage, .ref m_tape, .ref m_key, .ref m_answered, .int 0, .int 0, .int 0, .ref m_goes, .int 0, .ref m_hotOnes, .ref m_indexed, .ref m_isChanged, .int 0, .ref m_valueNow, .int 0, .int (-1), .int 0, .ref m_didSome, .ref m_sizes, .ref m_ends])), (m_all, aI cs 51207 f_m_all)] H := hP
    have hD : va_D A [(md, .inr (9, [.int 0, .ref m_all, .ref m_deeds, .ref m_trial, .int 0, .ref m_hasImage, .ref m_tape, .ref m_key, .ref m_answered, .int 0, .int 0, .int 0, .ref m_goes, .int 0, .ref m_hotOnes, .ref m_indexed, .ref m_isChanged, .int 0, .ref m_valueNow, .int 0, .int (-1), .int 0, .ref m_didSome, .ref m_sizes, .ref m_ends])), (m_all, aI cs 51207 f_m_all)] := hD
    have er_107 := hw_106
    subst er_107
    refine lv_if_ne (tgt := 69) hx hb dX9_sure_30 (by decide) (fun c_108 => ?_) (fun c_108 => absurd c_108 (by decide))
    refine lv_iinc (v := 17) (lv' := [(3, .int 17), (2, .int 0), (0, .ref md), (1, .int x)]) hx hb dX9_sure_69 hl (k := 0) rfl (by decide) (by decide) rfl (fun ls hl => ?_)
    refine lv_goto (tgt := 19) hx hb dX9_sure_72 (by decide) ?_
    refine lv_iload_n hx hb dX9_sure_19 rfl (lv_at hl 0 rfl) ?_
    refine lv_bipush (v := 24) hx hb dX9_sure_20 (by decide) ?_
    refine lv_icmp_ge (tgt := 75) hx hb dX9_sure_22 (by decide) (fun c_109 => absurd c_109 (by decide)) (fun c_109 => ?_)
    refine lv_aload_n hx hb dX9_sure_25 rfl (lv_at hl 2 rfl) ?_
    refine lv_iload_n hx hb dX9_sure_26 rfl (lv_at hl 0 rfl) ?_
    refine kV_i (ci := 9) (As := [.int 17]) (rest := []) (wc := [(md, .inr (9, [.int 0, .ref m_all, .ref m_deeds, .ref m_trial, .int 0, .ref m_hasImage, .ref m_tape, .ref m_key, .ref m_answered, .int 0, .int 0, .int 0, .ref m_goes, .int 0, .ref m_hotOnes, .ref m_indexed, .ref m_isChanged, .int 0, .ref m_valueNow, .int 0, .int (-1), .int 0, .ref m_didSome, .ref m_sizes, .ref m_ends])), (m_all, aI cs 51207 f_m_all)]) (wr := []) hx hb hml hown hu hK hP hD hS hA hl.1 (c_X9_isFree l D cs H.size 17 md m_all f_m_all m_deeds m_trial m_hasImage m_tape m_key m_answered m_goes m_hotOnes m_indexed m_isChanged m_valueNow m_didSome m_sizes m_ends 0 0 0 z_all (by first | decide | grind)) (gV u_1188 u_1190 u_13 u_76 u_1191) hd_X9_isFree ⟨(Nat.le_of_ble_eq_true rfl), (Nat.le_of_ble_eq_true rfl)⟩ [0, 1] [] rfl rfl rfl rfl (by decide) rfl 0 rfl rfl rfl (Nat.le_of_ble_eq_true rfl) dX9_sure_27 ⟨(Nat.le_of_ble_eq_true rfl), (Nat.le_of_ble_eq_true rfl)⟩ (fun r_110 ut_111 H locs hw_112 hP hD hS => ?_)
    have hP : va_P D vwCl [(md, .inr (9, [.int 0, .ref m_all, .ref m_deeds, .ref m_trial, .int 0, .ref m_hasImage, .ref m_tape, .ref m_key, .ref m_answered, .int 0, .int 0, .int 0, .ref m_goes, .int 0, .ref m_hotOnes, .ref m_indexed, .ref m_isChanged, .int 0, .ref m_valueNow, .int 0, .int (-1), .int 0, .ref m_didSome, .ref m_sizes, .ref m_ends])), (m_all, aI cs 51207 f_m_all)] H := hP
    have hD : va_D A [(md, .inr (9, [.int 0, .ref m_all, .ref m_deeds, .ref m_trial, .int 0, .ref m_hasImage, .ref m_tape, .ref m_key, .ref m_answered, .int 0, .int 0, .int 0, .ref m_goes, .int 0, .ref m_hotOnes, .ref m_indexed, .ref m_isChanged, .int 0, .ref m_valueNow, .int 0, .int (-1), .int 0, .ref m_didSome, .ref m_sizes, .ref m_ends])), (m_all, aI cs 51207 f_m_all)] := hD
    have er_113 := hw_112
    subst er_113
    refine lv_if_ne (tgt := 69) hx hb dX9_sure_30 (by decide) (fun c_114 => ?_) (fun c_114 => absurd c_114 (by decide))
    refine lv_iinc (v := 18) (lv' := [(3, .int 18), (2, .int 0), (0, .ref md), (1, .int x)]) hx hb dX9_sure_69 hl (k := 0) rfl (by decide) (by decide) rfl (fun ls hl => ?_)
    refine lv_goto (tgt := 19) hx hb dX9_sure_72 (by decide) ?_
    refine lv_iload_n hx hb dX9_sure_19 rfl (lv_at hl 0 rfl) ?_
    refine lv_bipush (v := 24) hx hb dX9_sure_20 (by decide) ?_
    refine lv_icmp_ge (tgt := 75) hx hb dX9_sure_22 (by decide) (fun c_115 => absurd c_115 (by decide)) (fun c_115 => ?_)
    refine lv_aload_n hx hb dX9_sure_25 rfl (lv_at hl 2 rfl) ?_
    refine lv_iload_n hx hb dX9_sure_26 rfl (lv_at hl 0 rfl) ?_
    refine kV_i (ci := 9) (As := [.int 18]) (rest := []) (wc := [(md, .inr (9, [.int 0, .ref m_all, .ref m_deeds, .ref m_trial, .int 0, .ref m_hasImage, .ref m_tape, .ref m_key, .ref m_answered, .int 0, .int 0, .int 0, .ref m_goes, .int 0, .ref m_hotOnes, .ref m_indexed, .ref m_isChanged, .int 0, .ref m_valueNow, .int 0, .int (-1), .int 0, .ref m_didSome, .ref m_sizes, .ref m_ends])), (m_all, aI cs 51207 f_m_all)]) (wr := []) hx hb hml hown hu hK hP hD hS hA hl.1 (c_X9_isFree l D cs H.size 18 md m_all f_m_all m_deeds m_trial m_hasImage m_tape m_key m_answered m_goes m_hotOnes m_indexed m_isChanged m_valueNow m_didSome m_sizes m_ends 0 0 0 z_all (by first | decide | grind)) (gV u_1188 u_1190 u_13 u_76 u_1191) hd_X9_isFree ⟨(Nat.le_of_ble_eq_true rfl), (Nat.le_of_ble_eq_true rfl)⟩ [0, 1] [] rfl rfl rfl rfl (by decide) rfl 0 rfl rfl rfl (Nat.le_of_ble_eq_true rfl) dX9_sure_27 ⟨(Nat.le_of_ble_eq_true rfl), (Nat.le_of_ble_eq_true rfl)⟩ (fun r_116 ut_117 H locs hw_118 hP hD hS => ?_)
    have hP : va_P D vwCl [(md, .inr (9, [.int 0, .ref m_all, .ref m_deeds, .ref m_trial, .int 0, .ref m_hasImage, .ref m_tape, .ref m_key, .ref m_answered, .int 0, .int 0, .int 0, .ref m_goes, .int 0, .ref m_hotOnes, .ref m_indexed, .ref m_isChanged, .int 0, .ref m_valueNow, .int 0, .int (-1), .int 0, .ref m_didSome, .ref m_sizes, .ref m_ends])), (m_all, aI cs 51207 f_m_all)] H := hP
    have hD : va_D A [(md, .inr (9, [.int 0, .ref m_all, .ref m_deeds, .ref m_trial, .int 0, .ref m_hasImage, .ref m_tape, .ref m_key, .ref m_answered, .int 0, .int 0, .int 0, .ref m_goes, .int 0, .ref m_hotOnes, .ref m_indexed, .ref m_isChanged, .int 0, .ref m_valueNow, .int 0, .int (-1), .int 0, .ref m_didSome, .ref m_sizes, .ref m_ends])), (m_all, aI cs 51207 f_m_all)] := hD
    have er_119 := hw_118
    subst er_119
    refine lv_if_ne (tgt := 69) hx hb dX9_sure_30 (by decide) (fun c_120 => ?_) (fun c_120 => absurd c_120 (by decide))
    refine lv_iinc (v := 19) (lv' := [(3, .int 19), (2, .int 0), (0, .ref md), (1, .int x)]) hx hb dX9_sure_69 hl (k := 0) rfl (by decide) (by decide) rfl (fun ls hl => ?_)
    refine lv_goto (tgt := 19) hx hb dX9_sure_72 (by decide) ?_
    refine lv_iload_n hx hb dX9_sure_19 rfl (lv_at hl 0 rfl) ?_
    refine lv_bipush (v := 24) hx hb dX9_sure_20 (by decide) ?_
    refine lv_icmp_ge (tgt := 75) hx hb dX9_sure_22 (by decide) (fun c_121 => absurd c_121 (by decide)) (fun c_121 => ?_)
    refine lv_aload_n hx hb dX9_sure_25 rfl (lv_at hl 2 rfl) ?_
    refine lv_iload_n hx hb dX9_sure_26 rfl (lv_at hl 0 rfl) ?_
    refine kV_i (ci := 9) (As := [.int 19]) (rest := []) (wc := [(md, .inr (9, [.int 0, .ref m_all, .ref m_deeds, .ref m_trial, .int 0, .ref m_hasImage, .ref m_tape, .ref m_key, .ref m_answered, .int 0, .int 0, .int 0, .ref m_goes, .int 0, .ref m_hotOnes, .ref m_indexed, .ref m_isChanged, .int 0, .ref m_valueNow, .int 0, .int (-1), .int 0, .ref m_didSome, .ref m_sizes, .ref m_ends])), (m_all, aI cs 51207 f_m_all)]) (wr := []) hx hb hml hown hu hK hP hD hS hA hl.1 (c_X9_isFree l D cs H.size 19 md m_all f_m_all m_deeds m_trial m_hasImage m_tape m_key m_answered m_goes m_hotOnes m_indexed m_isChanged m_valueNow m_didSome m_sizes m_ends 0 0 0 z_all (by first | decide | grind)) (gV u_1188 u_1190 u_13 u_76 u_1191) hd_X9_isFree ⟨(Nat.le_of_ble_eq_true rfl), (Nat.le_of_ble_eq_true rfl)⟩ [0, 1] [] rfl rfl rfl rfl (by decide) rfl 0 rfl rfl rfl (Nat.le_of_ble_eq_true rfl) dX9_sure_27 ⟨(Nat.le_of_ble_eq_true rfl), (Nat.le_of_ble_eq_true rfl)⟩ (fun r_122 ut_123 H locs hw_124 hP hD hS => ?_)
    have hP : va_P D vwCl [(md, .inr (9, [.int 0, .ref m_all, .ref m_deeds, .ref m_trial, .int 0, .ref m_hasImage, .ref m_tape, .ref m_key, .ref m_answered, .int 0, .int 0, .int 0, .ref m_goes, .int 0, .ref m_hotOnes, .ref m_indexed, .ref m_isChanged, .int 0, .ref m_valueNow, .int 0, .int (-1), .int 0, .ref m_didSome, .ref m_sizes, .ref m_ends])), (m_all, aI cs 51207 f_m_all)] H := hP
    have hD : va_D A [(md, .inr (9, [.int 0, .ref m_all, .ref m_deeds, .ref m_trial, .int 0, .ref m_hasImage, .ref m_tape, .ref m_key, .ref m_answered, .int 0, .int 0, .int 0, .ref m_goes, .int 0, .ref m_hotOnes, .ref m_indexed, .ref m_isChanged, .int 0, .ref m_valueNow, .int 0, .int (-1), .int 0, .ref m_didSome, .ref m_sizes, .ref m_ends])), (m_all, aI cs 51207 f_m_all)] := hD
    have er_125 := hw_124
    subst er_125
    refine lv_if_ne (tgt := 69) hx hb dX9_sure_30 (by decide) (fun c_126 => ?_) (fun c_126 => absurd c_126 (by decide))
    refine lv_iinc (v := 20) (lv' := [(3, .int 20), (2, .int 0), (0, .ref md), (1, .int x)]) hx hb dX9_sure_69 hl (k := 0) rfl (by decide) (by decide) rfl (fun ls hl => ?_)
    refine lv_goto (tgt := 19) hx hb dX9_sure_72 (by decide) ?_
    refine lv_iload_n hx hb dX9_sure_19 rfl (lv_at hl 0 rfl) ?_
    refine lv_bipush (v := 24) hx hb dX9_sure_20 (by decide) ?_
    refine lv_icmp_ge (tgt := 75) hx hb dX9_sure_22 (by decide) (fun c_127 => absurd c_127 (by decide)) (fun c_127 => ?_)
    refine lv_aload_n hx hb dX9_sure_25 rfl (lv_at hl 2 rfl) ?_
    refine lv_iload_n hx hb dX9_sure_26 rfl (lv_at hl 0 rfl) ?_
    refine kV_i (ci := 9) (As := [.int 20]) (rest := []) (wc := [(md, .inr (9, [.int 0, .ref m_all, .ref m_deeds, .ref m_trial, .int 0, .ref m_hasImage, .ref m_tape, .ref m_key, .ref m_answered, .int 0, .int 0, .int 0, .ref m_goes, .int 0, .ref m_hotOnes, .ref m_indexed, .ref m_isChanged, .int 0, .ref m_valueNow, .int 0, .int (-1), .int 0, .ref m_didSome, .ref m_sizes, .ref m_ends])), (m_all, aI cs 51207 f_m_all)]) (wr := []) hx hb hml hown hu hK hP hD hS hA hl.1 (c_X9_isFree l D cs H.size 20 md m_all f_m_all m_deeds m_trial m_hasImage m_tape m_key m_answered m_goes m_hotOnes m_indexed m_isChanged m_valueNow m_didSome m_sizes m_ends 0 0 0 z_all (by first | decide | grind)) (gV u_1188 u_1190 u_13 u_76 u_1191) hd_X9_isFree ⟨(Nat.le_of_ble_eq_true rfl), (Nat.le_of_ble_eq_true rfl)⟩ [0, 1] [] rfl rfl rfl rfl (by decide) rfl 0 rfl rfl rfl (Nat.le_of_ble_eq_true rfl) dX9_sure_27 ⟨(Nat.le_of_ble_eq_true rfl), (Nat.le_of_ble_eq_true rfl)⟩ (fun r_128 ut_129 H locs hw_130 hP hD hS => ?_)
    have hP : va_P D vwCl [(md, .inr (9, [.int 0, .ref m_all, .ref m_deeds, .ref m_trial, .int 0, .ref m_hasImage, .ref m_tape, .ref m_key, .ref m_answered, .int 0, .int 0, .int 0, .ref m_goes, .int 0, .ref m_hotOnes, .ref m_indexed, .ref m_isChanged, .int 0, .ref m_valueNow, .int 0, .int (-1), .int 0, .ref m_didSome, .ref m_sizes, .ref m_ends])), (m_all, aI cs 51207 f_m_all)] H := hP
    have hD : va_D A [(md, .inr (9, [.int 0, .ref m_all, .ref m_deeds, .ref m_trial, .int 0, .ref m_hasImage, .ref m_tape, .ref m_key, .ref m_answered, .int 0, .int 0, .int 0, .ref m_goes, .int 0, .ref m_hotOnes, .ref m_indexed, .ref m_isChanged, .int 0, .ref m_valueNow, .int 0, .int (-1), .int 0, .ref m_didSome, .ref m_sizes, .ref m_ends])), (m_all, aI cs 51207 f_m_all)] := hD
    have er_131 := hw_130
    subst er_131
    refine lv_if_ne (tgt := 69) hx hb dX9_sure_30 (by decide) (fun c_132 => ?_) (fun c_132 => absurd c_132 (by decide))
    refine lv_iinc (v := 21) (lv' := [(3, .int 21), (2, .int 0), (0, .ref md), (1, .int x)]) hx hb dX9_sure_69 hl (k := 0) rfl (by decide) (by decide) rfl (fun ls hl => ?_)
    refine lv_goto (tgt := 19) hx hb dX9_sure_72 (by decide) ?_
    refine lv_iload_n hx hb dX9_sure_19 rfl (lv_at hl 0 rfl) ?_
    refine lv_bipush (v := 24) hx hb dX9_sure_20 (by decide) ?_
    refine lv_icmp_ge (tgt := 75) hx hb dX9_sure_22 (by decide) (fun c_133 => absurd c_133 (by decide)) (fun c_133 => ?_)
    refine lv_aload_n hx hb dX9_sure_25 rfl (lv_at hl 2 rfl) ?_
    refine lv_iload_n hx hb dX9_sure_26 rfl (lv_at hl 0 rfl) ?_
    refine kV_i (ci := 9) (As := [.int 21]) (rest := []) (wc := [(md, .inr (9, [.int 0, .ref m_all, .ref m_deeds, .ref m_trial, .int 0, .ref m_hasImage, .ref m_tape, .ref m_key, .ref m_answered, .int 0, .int 0, .int 0, .ref m_goes, .int 0, .ref m_hotOnes, .ref m_indexed, .ref m_isChanged, .int 0, .ref m_valueNow, .int 0, .int (-1), .int 0, .ref m_didSome, .ref m_sizes, .ref m_ends])), (m_all, aI cs 51207 f_m_all)]) (wr := []) hx hb hml hown hu hK hP hD hS hA hl.1 (c_X9_isFree l D cs H.size 21 md m_all f_m_all m_deeds m_trial m_hasImage m_tape m_key m_answered m_goes m_hotOnes m_indexed m_isChanged m_valueNow m_didSome m_sizes m_ends 0 0 0 z_all (by first | decide | grind)) (gV u_1188 u_1190 u_13 u_76 u_1191) hd_X9_isFree ⟨(Nat.le_of_ble_eq_true rfl), (Nat.le_of_ble_eq_true rfl)⟩ [0, 1] [] rfl rfl rfl rfl (by decide) rfl 0 rfl rfl rfl (Nat.le_of_ble_eq_true rfl) dX9_sure_27 ⟨(Nat.le_of_ble_eq_true rfl), (Nat.le_of_ble_eq_true rfl)⟩ (fun r_134 ut_135 H locs hw_136 hP hD hS => ?_)
    have hP : va_P D vwCl [(md, .inr (9, [.int 0, .ref m_all, .ref m_deeds, .ref m_trial, .int 0, .ref m_hasImage, .ref m_tape, .ref m_key, .ref m_answered, .int 0, .int 0, .int 0, .ref m_goes, .int 0, .ref m_hotOnes, .ref m_indexed, .ref m_isChanged, .int 0, .ref m_valueNow, .int 0, .int (-1), .int 0, .ref m_didSome, .ref m_sizes, .ref m_ends])), (m_all, aI cs 51207 f_m_all)] H := hP
    have hD : va_D A [(md, .inr (9, [.int 0, .ref m_all, .ref m_deeds, .ref m_trial, .int 0, .ref m_hasImage, .ref m_tape, .ref m_key, .ref m_answered, .int 0, .int 0, .int 0, .ref m_goes, .int 0, .ref m_hotOnes, .ref m_indexed, .ref m_isChanged, .int 0, .ref m_valueNow, .int 0, .int (-1), .int 0, .ref m_didSome, .ref m_sizes, .ref m_ends])), (m_all, aI cs 51207 f_m_all)] := hD
    have er_137 := hw_136
    subst er_137
    refine lv_if_ne (tgt := 69) hx hb dX9_sure_30 (by decide) (fun c_138 => ?_) (fun c_138 => absurd c_138 (by decide))
    refine lv_iinc (v := 22) (lv' := [(3, .int 22), (2, .int 0), (0, .ref md), (1, .int x)]) hx hb dX9_sure_69 hl (k := 0) rfl (by decide) (by decide) rfl (fun ls hl => ?_)
    refine lv_goto (tgt := 19) hx hb dX9_sure_72 (by decide) ?_
    refine lv_iload_n hx hb dX9_sure_19 rfl (lv_at hl 0 rfl) ?_
    refine lv_bipush (v := 24) hx hb dX9_sure_20 (by decide) ?_
    refine lv_icmp_ge (tgt := 75) hx hb dX9_sure_22 (by decide) (fun c_139 => absurd c_139 (by decide)) (fun c_139 => ?_)
    refine lv_aload_n hx hb dX9_sure_25 rfl (lv_at hl 2 rfl) ?_
    refine lv_iload_n hx hb dX9_sure_26 rfl (lv_at hl 0 rfl) ?_
    refine kV_i (ci := 9) (As := [.int 22]) (rest := []) (wc := [(md, .inr (9, [.int 0, .ref m_all, .ref m_deeds, .ref m_trial, .int 0, .ref m_hasImage, .ref m_tape, .ref m_key, .ref m_answered, .int 0, .int 0, .int 0, .ref m_goes, .int 0, .ref m_hotOnes, .ref m_indexed, .ref m_isChanged, .int 0, .ref m_valueNow, .int 0, .int (-1), .int 0, .ref m_didSome, .ref m_sizes, .ref m_ends])), (m_all, aI cs 51207 f_m_all)]) (wr := []) hx hb hml hown hu hK hP hD hS hA hl.1 (c_X9_isFree l D cs H.size 22 md m_all f_m_all m_deeds m_trial m_hasImage m_tape m_key m_answered m_goes m_hotOnes m_indexed m_isChanged m_valueNow m_didSome m_sizes m_ends 0 0 0 z_all (by first | decide | grind)) (gV u_1188 u_1190 u_13 u_76 u_1191) hd_X9_isFree ⟨(Nat.le_of_ble_eq_true rfl), (Nat.le_of_ble_eq_true rfl)⟩ [0, 1] [] rfl rfl rfl rfl (by decide) rfl 0 rfl rfl rfl (Nat.le_of_ble_eq_true rfl) dX9_sure_27 ⟨(Nat.le_of_ble_eq_true rfl), (Nat.le_of_ble_eq_true rfl)⟩ (fun r_140 ut_141 H locs hw_142 hP hD hS => ?_)
    have hP : va_P D vwCl [(md, .inr (9, [.int 0, .ref m_all, .ref m_deeds, .ref m_trial, .int 0, .ref m_hasImage, .ref m_tape, .ref m_key, .ref m_answered, .int 0, .int 0, .int 0, .ref m_goes, .int 0, .ref m_hotOnes, .ref m_indexed, .ref m_isChanged, .int 0, .ref m_valueNow, .int 0, .int (-1), .int 0, .ref m_didSome, .ref m_sizes, .ref m_ends])), (m_all, aI cs 51207 f_m_all)] H := hP
    have hD : va_D A [(md, .inr (9, [.int 0, .ref m_all, .ref m_deeds, .ref m_trial, .int 0, .ref m_hasImage, .ref m_tape, .ref m_key, .ref m_answered, .int 0, .int 0, .int 0, .ref m_goes, .int 0, .ref m_hotOnes, .ref m_indexed, .ref m_isChanged, .int 0, .ref m_valueNow, .int 0, .int (-1), .int 0, .ref m_didSome, .ref m_sizes, .ref m_ends])), (m_all, aI cs 51207 f_m_all)] := hD
    have er_143 := hw_142
    subst er_143
    refine lv_if_ne (tgt := 69) hx hb dX9_sure_30 (by decide) (fun c_144 => ?_) (fun c_144 => absurd c_144 (by decide))
    refine lv_iinc (v := 23) (lv' := [(3, .int 23), (2, .int 0), (0, .ref md), (1, .int x)]) hx hb dX9_sure_69 hl (k := 0) rfl (by decide) (by decide) rfl (fun ls hl => ?_)
    refine lv_goto (tgt := 19) hx hb dX9_sure_72 (by decide) ?_
    refine lv_iload_n hx hb dX9_sure_19 rfl (lv_at hl 0 rfl) ?_
    refine lv_bipush (v := 24) hx hb dX9_sure_20 (by decide) ?_
    refine lv_icmp_ge (tgt := 75) hx hb dX9_sure_22 (by decide) (fun c_145 => absurd c_145 (by decide)) (fun c_145 => ?_)
    refine lv_aload_n hx hb dX9_sure_25 rfl (lv_at hl 2 rfl) ?_
    refine lv_iload_n hx hb dX9_sure_26 rfl (lv_at hl 0 rfl) ?_
    refine kV_i (ci := 9) (As := [.int 23]) (rest := []) (wc := [(md, .inr (9, [.int 0, .ref m_all, .ref m_deeds, .ref m_trial, .int 0, .ref m_hasImage, .ref m_tape, .ref m_key, .ref m_answered, .int 0, .int 0, .int 0, .ref m_goes, .int 0, .ref m_hotOnes, .ref m_indexed, .ref m_isChanged, .int 0, .ref m_valueNow, .int 0, .int (-1), .int 0, .ref m_didSome, .ref m_sizes, .ref m_ends])), (m_all, aI cs 51207 f_m_all)]) (wr := []) hx hb hml hown hu hK hP hD hS hA hl.1 (c_X9_isFree l D cs H.size 23 md m_all f_m_all m_deeds m_trial m_hasImage m_tape m_key m_answered m_goes m_hotOnes m_indexed m_isChanged m_valueNow m_didSome m_sizes m_ends 0 0 0 z_all (by first | decide | grind)) (gV u_1188 u_1190 u_13 u_76 u_1191) hd_X9_isFree ⟨(Nat.le_of_ble_eq_true rfl), (Nat.le_of_ble_eq_true rfl)⟩ [0, 1] [] rfl rfl rfl rfl (by decide) rfl 0 rfl rfl rfl (Nat.le_of_ble_eq_true rfl) dX9_sure_27 ⟨(Nat.le_of_ble_eq_true rfl), (Nat.le_of_ble_eq_true rfl)⟩ (fun r_146 ut_147 H locs hw_148 hP hD hS => ?_)
    have hP : va_P D vwCl [(md, .inr (9, [.int 0, .ref m_all, .ref m_deeds, .ref m_trial, .int 0, .ref m_hasImage, .ref m_tape, .ref m_key, .ref m_answered, .int 0, .int 0, .int 0, .ref m_goes, .int 0, .ref m_hotOnes, .ref m_indexed, .ref m_isChanged, .int 0, .ref m_valueNow, .int 0, .int (-1), .int 0, .ref m_didSome, .ref m_sizes, .ref m_ends])), (m_all, aI cs 51207 f_m_all)] H := hP
    have hD : va_D A [(md, .inr (9, [.int 0, .ref m_all, .ref m_deeds, .ref m_trial, .int 0, .ref m_hasImage, .ref m_tape, .ref m_key, .ref m_answered, .int 0, .int 0, .int 0, .ref m_goes, .int 0, .ref m_hotOnes, .ref m_indexed, .ref m_isChanged, .int 0, .ref m_valueNow, .int 0, .int (-1), .int 0, .ref m_didSome, .ref m_sizes, .ref m_ends])), (m_all, aI cs 51207 f_m_all)] := hD
    have er_149 := hw_148
    subst er_149
    refine lv_if_ne (tgt := 69) hx hb dX9_sure_30 (by decide) (fun c_150 => ?_) (fun c_150 => absurd c_150 (by decide))
    refine lv_iinc (v := 24) (lv' := [(3, .int 24), (2, .int 0), (0, .ref md), (1, .int x)]) hx hb dX9_sure_69 hl (k := 0) rfl (by decide) (by decide) rfl (fun ls hl => ?_)
    refine lv_goto (tgt := 19) hx hb dX9_sure_72 (by decide) ?_
    refine lv_iload_n hx hb dX9_sure_19 rfl (lv_at hl 0 rfl) ?_
    refine lv_bipush (v := 24) hx hb dX9_sure_20 (by decide) ?_
    refine lv_icmp_ge (tgt := 75) hx hb dX9_sure_22 (by decide) (fun c_151 => ?_) (fun c_151 => absurd (by decide) c_151)
    refine lv_aload_n hx hb dX9_sure_75 rfl (lv_at hl 2 rfl) ?_
    refine kV_i (ci := 9) (As := []) (rest := []) (wc := [(md, .inr (9, [.int 0, .ref m_all, .ref m_deeds, .ref m_trial, .int 0, .ref m_hasImage, .ref m_tape, .ref m_key, .ref m_answered, .int 0, .int 0, .int 0, .ref m_goes, .int 0, .ref m_hotOnes, .ref m_indexed, .ref m_isChanged, .int 0, .ref m_valueNow, .int 0, .int (-1), .int 0, .ref m_didSome, .ref m_sizes, .ref m_ends])), (m_all, aI cs 51207 f_m_all)]) (wr := []) hx hb hml hown hu hK hP hD hS hA hl.1 (c_X9_freeMany l D cs H.size md m_all f_m_all m_deeds m_trial m_hasImage m_tape m_key m_answered m_goes m_hotOnes m_indexed m_isChanged m_valueNow m_didSome m_sizes m_ends 0 0 0 z_all) (gV u_1192 u_1194 u_14 u_76 u_1195) hd_X9_freeMany ⟨(Nat.le_of_ble_eq_true rfl), (Nat.le_of_ble_eq_true rfl)⟩ [0, 1] [] rfl rfl rfl rfl (by decide) rfl 0 rfl rfl rfl (Nat.le_of_ble_eq_true rfl) dX9_sure_76 ⟨(Nat.le_of_ble_eq_true rfl), (Nat.le_of_ble_eq_true rfl)⟩ (fun r_152 ut_153 H locs hw_154 hP hD hS => ?_)
    have hP : va_P D vwCl [(md, .inr (9, [.int 0, .ref m_all, .ref m_deeds, .ref m_trial, .int 0, .ref m_hasImage, .ref m_tape, .ref m_key, .ref m_answered, .int 0, .int 0, .int 0, .ref m_goes, .int 0, .ref m_hotOnes, .ref m_indexed, .ref m_isChanged, .int 0, .ref m_valueNow, .int 0, .int (-1), .int 0, .ref m_didSome, .ref m_sizes, .ref m_ends])), (m_all, aI cs 51207 f_m_all)] H := hP
    have hD : va_D A [(md, .inr (9, [.int 0, .ref m_all, .ref m_deeds, .ref m_trial, .int 0, .ref m_hasImage, .ref m_tape, .ref m_key, .ref m_answered, .int 0, .int 0, .int 0, .ref m_goes, .int 0, .ref m_hotOnes, .ref m_indexed, .ref m_isChanged, .int 0, .ref m_valueNow, .int 0, .int (-1), .int 0, .ref m_didSome, .ref m_sizes, .ref m_ends])), (m_all, aI cs 51207 f_m_all)] := hD
    have er_155 := hw_154
    subst er_155
    refine lv_istore_n (lv' := [(3, .int 24), (2, .int 0), (0, .ref md), (1, .int x)]) hx hb dX9_sure_79 rfl hl (by decide) rfl (fun ls hl => ?_)
    refine lv_iload_n hx hb dX9_sure_80 rfl (lv_at hl 0 rfl) ?_
    refine lv_if_ne (tgt := 88) hx hb dX9_sure_81 (by decide) (fun c_156 => ?_) (fun c_156 => absurd c_156 (by decide))
    refine lv_iload_n hx hb dX9_sure_88 rfl (lv_at hl 1 rfl) ?_
    refine lv_iload_n hx hb dX9_sure_89 rfl (lv_at hl 0 rfl) ?_
    refine lv_iconst (v := 1) hx hb dX9_sure_90 (by decide) ?_
    refine lv_isub hx hb dX9_sure_91 ?_
    refine tpi (y := 23) (by decide) ?_
    refine lv_bipush (v := 64) hx hb dX9_sure_92 (by decide) ?_
    refine lv_iload_n hx hb dX9_sure_94 rfl (lv_at hl 3 rfl) ?_
    refine lv_idiv hx hb dX9_sure_95 (by grind) ?_
    refine lv_imul hx hb dX9_sure_96 ?_
    refine lv_iadd hx hb dX9_sure_97 ?_
    refine tpi (y := 23 * (64 / x)) (i_0add _) ?_
    exact hz () hP hD hS (by grind) [] rfl rfl (Nat.le_of_ble_eq_true rfl) (Nat.le_of_ble_eq_true rfl) .int rfl rfl dX9_sure_98
  · obtain ⟨er_157, hf_158⟩ := hw_3
    subst er_157
    refine lv_if_ne (tgt := 15) hx hb dX9_sure_9 (by decide) (fun c_159 => absurd (by decide) c_159) (fun c_159 => ?_)
    refine lv_bipush (v := (-3)) hx hb dX9_sure_12 (by decide) ?_
    exact hz () hP hD hS (by grind) [] rfl rfl (Nat.le_of_ble_eq_true rfl) (Nat.le_of_ble_eq_true rfl) .int rfl rfl dX9_sure_14
abbrev rm_c_X9_would : Room := { frames := 4, cells := 0, slots := 0, locals := 91 }
set_option maxHeartbeats 4000000 in
set_option maxRecDepth 100000 in
theorem c_X9_would (l : Launch) (D : va_G) (cs : Nat → ClassId) (sz : Nat) (x : Int32) (md : Nat) (m_all : Nat) (f_m_all : Nat → Int32) (m_deeds : Nat) (m_trial : Nat) (f_m_trial : Nat → Int32) (m_hasImage : Nat) (m_tape : Nat) (m_key : Nat) (m_answered : Nat) (m_goes : Nat) (m_hotOnes : Nat) (m_indexed : Nat) (m_isChanged : Nat) (m_valueNow : Nat) (m_didSome : Nat) (m_sizes : Nat) (m_ends : Nat) (z_all : ∀ j, j < 51207 → f_m_all j = AL j) : cMi l yX9_would (Cond.code yX9_would cX9_would 3 (some .int)) (rm_c_X9_would) D cs [.ref md, .int x] sz [(md, .inr (9, [.int 0, .ref m_all, .ref m_deeds, .ref m_trial, .int 0, .ref m_hasImage, .ref m_tape, .ref m_key, .ref m_answered, .int 0, .int 0, .int 0, .ref m_goes, .int 0, .ref m_hotOnes, .ref m_indexed, .ref m_isChanged, .int 0, .ref m_valueNow, .int 0, .int (-1), .int 0, .ref m_didSome, .ref m_sizes, .ref m_ends])), (m_all, aI cs 51207 f_m_all), (m_trial, aI cs 17069 f_m_trial)] (fun (r : Int32) (u : Unit) => ((r = (-3)) ∧ (x < 6 ∨ 52 < x ∨ ¬ x &&& 1 = 0)) ∨ ((r = 0) ∧ (6 ≤ x ∧ x ≤ 52 ∧ x &&& 1 = 0))) (fun (u : Unit) => []) := by
  refine kMet_i RX9 (by decide) rfl (Nat.le_of_ble_eq_true rfl) ?_
  intro p e s m below meth c ls A Qz H locs hx hb hml hown hin hu hK hsz hA hP hD hS hl hz
  subst hsz
  have hl : lv_has ls 3 [(0, .ref md), (1, .int x)] := hl
  refine lv_aload_n hx hb dX9_would_0 rfl (lv_at hl 0 rfl) ?_
  refine lv_iconst (v := 0) hx hb dX9_would_1 (by decide) ?_
  refine va_put (D := D) (ci := 9) (v := .int 0) (ty := tyX9 0) (C := RX9) (T := TX9) (N := 25) hx hb hu in_X9 tyX9 tyX9_ok nmX9 hown hK.1 hP hD hS 0 rfl rfl 0 (by decide) (hu _ u_1080) (fun _ h9 => h9) rfl (tyX9_ok 0 (by decide)) rfl rfl (Nat.le_of_ble_eq_true rfl) dX9_would_2 (fun H locs hP hD hS => ?_)
  have hP : va_P D vwCl [(md, .inr (9, [.int 0, .ref m_all, .ref m_deeds, .ref m_trial, .int 0, .ref m_hasImage, .ref m_tape, .ref m_key, .ref m_answered, .int 0, .int 0, .int 0, .ref m_goes, .int 0, .ref m_hotOnes, .ref m_indexed, .ref m_isChanged, .int 0, .ref m_valueNow, .int 0, .int (-1), .int 0, .ref m_didSome, .ref m_sizes, .ref m_ends])), (m_all, aI cs 51207 f_m_all), (m_trial, aI cs 17069 f_m_trial)] H := hP
  have hD : va_D A [(md, .inr (9, [.int 0, .ref m_all, .ref m_deeds, .ref m_trial, .int 0, .ref m_hasImage, .ref m_tape, .ref m_key, .ref m_answered, .int 0, .int 0, .int 0, .ref m_goes, .int 0, .ref m_hotOnes, .ref m_indexed, .ref m_isChanged, .int 0, .ref m_valueNow, .int 0, .int (-1), .int 0, .ref m_didSome, .ref m_sizes, .ref m_ends])), (m_all, aI cs 51207 f_m_all), (m_trial, aI cs 17069 f_m_trial)] := hD
  refine lv_iload_n hx hb dX9_would_5 rfl (lv_at hl 1 rfl) ?_
  refine kS_i  (As := [.int x]) (rest := []) (wc := []) (wr := [(md, .inr (9, [.int 0, .ref m_all, .ref m_deeds, .ref m_trial, .int 0, .ref m_hasImage, .ref m_tape, .ref m_key, .ref m_answered, .int 0, .int 0, .int 0, .ref m_goes, .int 0, .ref m_hotOnes, .ref m_indexed, .ref m_isChanged, .int 0, .ref m_valueNow, .int 0, .int (-1), .int 0, .ref m_didSome, .ref m_sizes, .ref m_ends])), (m_all, aI cs 51207 f_m_all), (m_trial, aI cs 17069 f_m_trial)]) hx hb hml hown hu hK hP hD hS hA hl.1 (c_X9_isSize l D cs H.size x) (gS u_1516 u_1517 u_76 u_1518) hd_X9_isSize ⟨(Nat.le_of_ble_eq_true rfl), (Nat.le_of_ble_eq_true rfl)⟩ [] [0, 1, 2] rfl rfl rfl rfl (by decide) rfl rfl (Nat.le_of_ble_eq_true rfl) dX9_would_6 ⟨(Nat.le_of_ble_eq_true rfl), (Nat.le_of_ble_eq_true rfl)⟩ (fun r_1 ut_2 H locs hw_3 hP hD hS => ?_)
  have hP : va_P D vwCl [(md, .inr (9, [.int 0, .ref m_all, .ref m_deeds, .ref m_trial, .int 0, .ref m_hasImage, .ref m_tape, .ref m_key, .ref m_answered, .int 0, .int 0, .int 0, .ref m_goes, .int 0, .ref m_hotOnes, .ref m_indexed, .ref m_isChanged, .int 0, .ref m_valueNow, .int 0, .int (-1), .int 0, .ref m_didSome, .ref m_sizes, .ref m_ends])), (m_all, aI cs 51207 f_m_all), (m_trial, aI cs 17069 f_m_trial)] H := hP
  have hD : va_D A [(md, .inr (9, [.int 0, .ref m_all, .ref m_deeds, .ref m_trial, .int 0, .ref m_hasImage, .ref m_tape, .ref m_key, .ref m_answered, .int 0, .int 0, .int 0, .ref m_goes, .int 0, .ref m_hotOnes, .ref m_indexed, .ref m_isChanged, .int 0, .ref m_valueNow, .int 0, .int (-1), .int 0, .ref m_didSome, .ref m_sizes, .ref m_ends])), (m_all, aI cs 51207 f_m_all), (m_trial, aI cs 17069 f_m_trial)] := hD
  rcases hw_3 with hw_3 | hw_3
  · obtain ⟨er_4, hf_5⟩ := hw_3
    subst er_4
    refine lv_if_ne (tgt := 15) hx hb dX9_would_9 (by decide) (fun c_6 => ?_) (fun c_6 => absurd c_6 (by decide))
    refine lv_aload_n hx hb dX9_would_15 rfl (lv_at hl 0 rfl) ?_
    refine kV_v (ci := 9) (As := []) (rest := []) (wc := [(md, .inr (9, [.int 0, .ref m_all, .ref m_deeds, .ref m_trial, .int 0, .ref m_hasImage, .ref m_tape, .ref m_key, .ref m_answered, .int 0, .int 0, .int 0, .ref m_goes, .int 0, .ref m_hotOnes, .ref m_indexed, .ref m_isChanged, .int 0, .ref m_valueNow, .int 0, .int (-1), .int 0, .ref m_didSome, .ref m_sizes, .ref m_ends])), (m_all, aI cs 51207 f_m_all), (m_trial, aI cs 17069 f_m_trial)]) (wr := []) hx hb hml hown hu hK hP hD hS hA hl.1 (c_X9_tries l D cs H.size md m_all f_m_all m_deeds m_trial f_m_trial m_hasImage m_tape m_key m_answered m_goes m_hotOnes m_indexed m_isChanged m_valueNow m_didSome m_sizes m_ends 0 0 0 z_all) (gV u_1176 u_1178 u_10 u_76 u_1179) hd_X9_tries ⟨(Nat.le_of_ble_eq_true rfl), (Nat.le_of_ble_eq_true rfl)⟩ [0, 1, 2] [] rfl rfl rfl rfl (by decide) rfl 0 rfl rfl rfl (Nat.le_of_ble_eq_true rfl) dX9_would_16 ⟨(Nat.le_of_ble_eq_true rfl), (Nat.le_of_ble_eq_true rfl)⟩ (fun ut_8 H locs hw_9 hP hD hS => ?_)
    have hP : va_P D vwCl [(md, .inr (9, [.int 0, .ref m_all, .ref m_deeds, .ref m_trial, .int 0, .ref m_hasImage, .ref m_tape, .ref m_key, .ref m_answered, .int 0, .int 0, .int 0, .ref m_goes, .int 0, .ref m_hotOnes, .ref m_indexed, .ref m_isChanged, .int 0, .ref m_valueNow, .int 0, .int (-1), .int 0, .ref m_didSome, .ref m_sizes, .ref m_ends])), (m_all, aI cs 51207 f_m_all), (m_trial, aI cs 17069 ut_8)] H := hP
    have hD : va_D A [(md, .inr (9, [.int 0, .ref m_all, .ref m_deeds, .ref m_trial, .int 0, .ref m_hasImage, .ref m_tape, .ref m_key, .ref m_answered, .int 0, .int 0, .int 0, .ref m_goes, .int 0, .ref m_hotOnes, .ref m_indexed, .ref m_isChanged, .int 0, .ref m_valueNow, .int 0, .int (-1), .int 0, .ref m_didSome, .ref m_sizes, .ref m_ends])), (m_all, aI cs 51207 f_m_all), (m_trial, aI cs 17069 ut_8)] := hD
    obtain ⟨ug_10, rfl⟩ : ∃ z, z = ut_8 := ⟨_, rfl⟩
    have hP : va_P D vwCl [(md, .inr (9, [.int 0, .ref m_all, .ref m_deeds, .ref m_trial, .int 0, .ref m_hasImage, .ref m_tape, .ref m_key, .ref m_answered, .int 0, .int 0, .int 0, .ref m_goes, .int 0, .ref m_hotOnes, .ref m_indexed, .ref m_isChanged, .int 0, .ref m_valueNow, .int 0, .int (-1), .int 0, .ref m_didSome, .ref m_sizes, .ref m_ends])), (m_all, aI cs 51207 f_m_all), (m_trial, aI cs 17069 ug_10)] H := hP
    have hD : va_D A [(md, .inr (9, [.int 0, .ref m_all, .ref m_deeds, .ref m_trial, .int 0, .ref m_hasImage, .ref m_tape, .ref m_key, .ref m_answered, .int 0, .int 0, .int 0, .ref m_goes, .int 0, .ref m_hotOnes, .ref m_indexed, .ref m_isChanged, .int 0, .ref m_valueNow, .int 0, .int (-1), .int 0, .ref m_didSome, .ref m_sizes, .ref m_ends])), (m_all, aI cs 51207 f_m_all), (m_trial, aI cs 17069 ug_10)] := hD
    try dsimp only at hw_9
    refine lv_aload_n hx hb dX9_would_19 rfl (lv_at hl 0 rfl) ?_
    refine lv_iload_n hx hb dX9_would_20 rfl (lv_at hl 1 rfl) ?_
    refine kV_i (ci := 9) (As := [.int x]) (rest := []) (wc := [(md, .inr (9, [.int 0, .ref m_all, .ref m_deeds, .ref m_trial, .int 0, .ref m_hasImage, .ref m_tape, .ref m_key, .ref m_answered, .int 0, .int 0, .int 0, .ref m_goes, .int 0, .ref m_hotOnes, .ref m_indexed, .ref m_isChanged, .int 0, .ref m_valueNow, .int 0, .int (-1), .int 0, .ref m_didSome, .ref m_sizes, .ref m_ends])), (m_all, aI cs 51207 f_m_all)]) (wr := [(m_trial, aI cs 17069 ug_10)]) hx hb hml hown hu hK hP hD hS hA hl.1 (c_X9_makesPlace l D cs H.size x md m_all f_m_all m_deeds m_trial m_hasImage m_tape m_key m_answered m_goes m_hotOnes m_indexed m_isChanged m_valueNow m_didSome m_sizes m_ends 0 0 0 z_all) (gV u_1180 u_1182 u_11 u_76 u_1183) hd_X9_makesPlace ⟨(Nat.le_of_ble_eq_true rfl), (Nat.le_of_ble_eq_true rfl)⟩ [0, 1] [2] rfl rfl rfl rfl (by decide) rfl 0 rfl rfl rfl (Nat.le_of_ble_eq_true rfl) dX9_would_21 ⟨(Nat.le_of_ble_eq_true rfl), (Nat.le_of_ble_eq_true rfl)⟩ (fun r_11 ut_12 H locs hw_13 hP hD hS => ?_)
    have hP : va_P D vwCl [(m_trial, aI cs 17069 ug_10), (md, .inr (9, [.int 0, .ref m_all, .ref m_deeds, .ref m_trial, .int 0, .ref m_hasImage, .ref m_tape, .ref m_key, .ref m_answered, .int 0, .int 0, .int 0, .ref m_goes, .int 0, .ref m_hotOnes, .ref m_indexed, .ref m_isChanged, .int 0, .ref m_valueNow, .int 0, .int (-1), .int 0, .ref m_didSome, .ref m_sizes, .ref m_ends])), (m_all, aI cs 51207 f_m_all)] H := hP
    have hD : va_D A [(m_trial, aI cs 17069 ug_10), (md, .inr (9, [.int 0, .ref m_all, .ref m_deeds, .ref m_trial, .int 0, .ref m_hasImage, .ref m_tape, .ref m_key, .ref m_answered, .int 0, .int 0, .int 0, .ref m_goes, .int 0, .ref m_hotOnes, .ref m_indexed, .ref m_isChanged, .int 0, .ref m_valueNow, .int 0, .int (-1), .int 0, .ref m_didSome, .ref m_sizes, .ref m_ends])), (m_all, aI cs 51207 f_m_all)] := hD
    have er_14 := hw_13
    subst er_14
    refine lv_istore_n (lv' := [(2, .int 0), (0, .ref md), (1, .int x)]) hx hb dX9_would_24 rfl hl (by decide) rfl (fun ls hl => ?_)
    refine lv_aload_n hx hb dX9_would_25 rfl (lv_at hl 1 rfl) ?_
    refine kV_v (ci := 9) (As := []) (rest := []) (wc := [(md, .inr (9, [.int 0, .ref m_all, .ref m_deeds, .ref m_trial, .int 0, .ref m_hasImage, .ref m_tape, .ref m_key, .ref m_answered, .int 0, .int 0, .int 0, .ref m_goes, .int 0, .ref m_hotOnes, .ref m_indexed, .ref m_isChanged, .int 0, .ref m_valueNow, .int 0, .int (-1), .int 0, .ref m_didSome, .ref m_sizes, .ref m_ends])), (m_all, aI cs 51207 f_m_all), (m_trial, aI cs 17069 ug_10)]) (wr := []) hx hb hml hown hu hK hP hD hS hA hl.1 (c_X9_bringsBack l D cs H.size md m_all f_m_all m_deeds m_trial ug_10 m_hasImage m_tape m_key m_answered m_goes m_hotOnes m_indexed m_isChanged m_valueNow m_didSome m_sizes m_ends 0 0 0 z_all) (gV u_1220 u_1222 u_21 u_76 u_1223) hd_X9_bringsBack ⟨(Nat.le_of_ble_eq_true rfl), (Nat.le_of_ble_eq_true rfl)⟩ [1, 2, 0] [] rfl rfl rfl rfl (by decide) rfl 0 rfl rfl rfl (Nat.le_of_ble_eq_true rfl) dX9_would_26 ⟨(Nat.le_of_ble_eq_true rfl), (Nat.le_of_ble_eq_true rfl)⟩ (fun ut_16 H locs hw_17 hP hD hS => ?_)
    have hP : va_P D vwCl [(md, .inr (9, [.int 0, .ref m_all, .ref m_deeds, .ref m_trial, .int 0, .ref m_hasImage, .ref m_tape, .ref m_key, .ref m_answered, .int 0, .int 0, .int 0, .ref m_goes, .int 0, .ref m_hotOnes, .ref m_indexed, .ref m_isChanged, .int 0, .ref m_valueNow, .int 0, .int (-1), .int 0, .ref m_didSome, .ref m_sizes, .ref m_ends]))] H := hP
    have hD : va_D A [(md, .inr (9, [.int 0, .ref m_all, .ref m_deeds, .ref m_trial, .int 0, .ref m_hasImage, .ref m_tape, .ref m_key, .ref m_answered, .int 0, .int 0, .int 0, .ref m_goes, .int 0, .ref m_hotOnes, .ref m_indexed, .ref m_isChanged, .int 0, .ref m_valueNow, .int 0, .int (-1), .int 0, .ref m_didSome, .ref m_sizes, .ref m_ends]))] := hD
    refine lv_iload_n hx hb dX9_would_29 rfl (lv_at hl 0 rfl) ?_
    refine lv_iconst (v := (-1)) hx hb dX9_would_30 (by decide) ?_
    refine lv_icmp_ne (tgt := 38) hx hb dX9_would_31 (by decide) (fun c_18 => ?_) (fun c_18 => absurd c_18 (by decide))
    refine lv_aload_n hx hb dX9_would_38 rfl (lv_at hl 1 rfl) ?_
    refine va_get (D := D) (ci := 9) (v := .int 0) (C := RX9) (T := TX9) (N := 25) hx hb hu in_X9 hown hK.1 hP 0 rfl rfl 13 (by decide) (hu _ u_1093) (fun _ h9 => h9) rfl dX9_would_39 ?_
    exact hz () hP hD hS (by grind) [] rfl rfl (Nat.le_of_ble_eq_true rfl) (Nat.le_of_ble_eq_true rfl) .int rfl rfl dX9_would_42
  · obtain ⟨er_19, hf_20⟩ := hw_3
    subst er_19
    refine lv_if_ne (tgt := 15) hx hb dX9_would_9 (by decide) (fun c_21 => absurd (by decide) c_21) (fun c_21 => ?_)
    refine lv_bipush (v := (-3)) hx hb dX9_would_12 (by decide) ?_
    exact hz () hP hD hS (by grind) [] rfl rfl (Nat.le_of_ble_eq_true rfl) (Nat.le_of_ble_eq_true rfl) .int rfl rfl dX9_would_14
abbrev rm_c_X9_packs : Room := { frames := 1, cells := 0, slots := 0, locals := 26 }
set_option maxHeartbeats 4000000 in
set_option maxRecDepth 100000 in
theorem c_X9_packs (l : Launch) (D : va_G) (cs : Nat → ClassId) (sz : Nat) (x : Int32) (md : Nat) (m_all : Nat) (f_m_all : Nat → Int32) (m_deeds : Nat) (m_trial : Nat) (m_hasImage : Nat) (m_tape : Nat) (m_key : Nat) (m_answered : Nat) (m_goes : Nat) (m_hotOnes : Nat) (m_indexed : Nat) (m_isChanged : Nat) (m_valueNow : Nat) (m_didSome : Nat) (m_sizes : Nat) (m_ends : Nat) (z_all : ∀ j, j < 51207 → f_m_all j = AL j) : cMi l yX9_packs (Cond.code yX9_packs cX9_packs 2 (some .int)) (rm_c_X9_packs) D cs [.ref md, .int x] sz [(md, .inr (9, [.int 0, .ref m_all, .ref m_deeds, .ref m_trial, .int 0, .ref m_hasImage, .ref m_tape, .ref m_key, .ref m_answered, .int 0, .int 0, .int 0, .ref m_goes, .int 0, .ref m_hotOnes, .ref m_indexed, .ref m_isChanged, .int 0, .ref m_valueNow, .int 0, .int (-1), .int 0, .ref m_didSome, .ref m_sizes, .ref m_ends])), (m_all, aI cs 51207 f_m_all)] (fun (r : Int32) (u : Unit) => ((r = (-3)) ∧ (x < 0 ∨ 3 ≤ x)) ∨ ((r = 0) ∧ (¬ x < 0 ∧ x < 3))) (fun (u : Unit) => []) := by
  refine kMet_i RX9 (by decide) rfl (Nat.le_of_ble_eq_true rfl) ?_
  intro p e s m below meth c ls A Qz H locs hx hb hml hown hin hu hK hsz hA hP hD hS hl hz
  subst hsz
  have hl : lv_has ls 2 [(0, .ref md), (1, .int x)] := hl
  refine lv_aload_n hx hb dX9_packs_0 rfl (lv_at hl 0 rfl) ?_
  refine lv_iconst (v := 0) hx hb dX9_packs_1 (by decide) ?_
  refine va_put (D := D) (ci := 9) (v := .int 0) (ty := tyX9 0) (C := RX9) (T := TX9) (N := 25) hx hb hu in_X9 tyX9 tyX9_ok nmX9 hown hK.1 hP hD hS 0 rfl rfl 0 (by decide) (hu _ u_1080) (fun _ h9 => h9) rfl (tyX9_ok 0 (by decide)) rfl rfl (Nat.le_of_ble_eq_true rfl) dX9_packs_2 (fun H locs hP hD hS => ?_)
  have hP : va_P D vwCl [(md, .inr (9, [.int 0, .ref m_all, .ref m_deeds, .ref m_trial, .int 0, .ref m_hasImage, .ref m_tape, .ref m_key, .ref m_answered, .int 0, .int 0, .int 0, .ref m_goes, .int 0, .ref m_hotOnes, .ref m_indexed, .ref m_isChanged, .int 0, .ref m_valueNow, .int 0, .int (-1), .int 0, .ref m_didSome, .ref m_sizes, .ref m_ends])), (m_all, aI cs 51207 f_m_all)] H := hP
  have hD : va_D A [(md, .inr (9, [.int 0, .ref m_all, .ref m_deeds, .ref m_trial, .int 0, .ref m_hasImage, .ref m_tape, .ref m_key, .ref m_answered, .int 0, .int 0, .int 0, .ref m_goes, .int 0, .ref m_hotOnes, .ref m_indexed, .ref m_isChanged, .int 0, .ref m_valueNow, .int 0, .int (-1), .int 0, .ref m_didSome, .ref m_sizes, .ref m_ends])), (m_all, aI cs 51207 f_m_all)] := hD
  refine lv_iload_n hx hb dX9_packs_5 rfl (lv_at hl 1 rfl) ?_
  refine lv_i2l (v := x.toInt64) hx hb dX9_packs_6 rfl ?_
  refine lv_lconst (v := 0) hx hb dX9_packs_7 (by decide) ?_
  refine lv_ldc2 (v := 2) hx hb hown (hu _ u_1347) dX9_packs_8 ?_
  refine kS_i  (As := [.long x.toInt64, .long 0, .long 2]) (rest := []) (wc := []) (wr := [(md, .inr (9, [.int 0, .ref m_all, .ref m_deeds, .ref m_trial, .int 0, .ref m_hasImage, .ref m_tape, .ref m_key, .ref m_answered, .int 0, .int 0, .int 0, .ref m_goes, .int 0, .ref m_hotOnes, .ref m_indexed, .ref m_isChanged, .int 0, .ref m_valueNow, .int 0, .int (-1), .int 0, .ref m_didSome, .ref m_sizes, .ref m_ends])), (m_all, aI cs 51207 f_m_all)]) hx hb hml hown hu hK hP hD hS hA hl.1 (c_X9_within l D cs H.size x.toInt64 0 2) (gS u_1164 u_1165 u_76 u_1166) hd_X9_within ⟨(Nat.le_of_ble_eq_true rfl), (Nat.le_of_ble_eq_true rfl)⟩ [] [0, 1] rfl rfl rfl rfl (by decide) rfl rfl (Nat.le_of_ble_eq_true rfl) dX9_packs_11 ⟨(Nat.le_of_ble_eq_true rfl), (Nat.le_of_ble_eq_true rfl)⟩ (fun r_1 ut_2 H locs hw_3 hP hD hS => ?_)
  have hP : va_P D vwCl [(md, .inr (9, [.int 0, .ref m_all, .ref m_deeds, .ref m_trial, .int 0, .ref m_hasImage, .ref m_tape, .ref m_key, .ref m_answered, .int 0, .int 0, .int 0, .ref m_goes, .int 0, .ref m_hotOnes, .ref m_indexed, .ref m_isChanged, .int 0, .ref m_valueNow, .int 0, .int (-1), .int 0, .ref m_didSome, .ref m_sizes, .ref m_ends])), (m_all, aI cs 51207 f_m_all)] H := hP
  have hD : va_D A [(md, .inr (9, [.int 0, .ref m_all, .ref m_deeds, .ref m_trial, .int 0, .ref m_hasImage, .ref m_tape, .ref m_key, .ref m_answered, .int 0, .int 0, .int 0, .ref m_goes, .int 0, .ref m_hotOnes, .ref m_indexed, .ref m_isChanged, .int 0, .ref m_valueNow, .int 0, .int (-1), .int 0, .ref m_didSome, .ref m_sizes, .ref m_ends])), (m_all, aI cs 51207 f_m_all)] := hD
  rcases hw_3 with hw_3 | hw_3
  · obtain ⟨er_4, hf_5⟩ := hw_3
    have hf_6 : 0 ≤ x ∧ x ≤ 2 := ⟨(w_le (d := 0) (x := x) (by decide)).mp hf_5.1, (w_ge (d := 2) (x := x) (by decide)).mp hf_5.2⟩
    subst er_4
    refine lv_if_eq (tgt := 30) hx hb dX9_packs_14 (by decide) (fun c_7 => absurd c_7 (by decide)) (fun c_7 => ?_)
    refine lv_aload_n hx hb dX9_packs_17 rfl (lv_at hl 0 rfl) ?_
    refine lv_iload_n hx hb dX9_packs_18 rfl (lv_at hl 1 rfl) ?_
    refine lv_aload_n hx hb dX9_packs_19 rfl (lv_at hl 0 rfl) ?_
    refine lv_iconst (v := 0) hx hb dX9_packs_20 (by decide) ?_
    refine kV_i (ci := 9) (As := [.int 0]) (rest := [.int x, .ref md]) (wc := [(md, .inr (9, [.int 0, .ref m_all, .ref m_deeds, .ref m_trial, .int 0, .ref m_hasImage, .ref m_tape, .ref m_key, .ref m_answered, .int 0, .int 0, .int 0, .ref m_goes, .int 0, .ref m_hotOnes, .ref m_indexed, .ref m_isChanged, .int 0, .ref m_valueNow, .int 0, .int (-1), .int 0, .ref m_didSome, .ref m_sizes, .ref m_ends])), (m_all, aI cs 51207 f_m_all)]) (wr := []) hx hb hml hown hu hK hP hD hS hA hl.1 (c_X9_laysSizes l D cs H.size 0 md m_all f_m_all m_deeds m_trial m_hasImage m_tape m_key m_answered m_goes m_hotOnes m_indexed m_isChanged m_valueNow m_didSome m_sizes m_ends 0 0 0 z_all) (gV u_1533 u_1535 u_61 u_76 u_1536) hd_X9_laysSizes ⟨(Nat.le_of_ble_eq_true rfl), (Nat.le_of_ble_eq_true rfl)⟩ [0, 1] [] rfl rfl rfl rfl (by decide) rfl 0 rfl rfl rfl (Nat.le_of_ble_eq_true rfl) dX9_packs_21 ⟨(Nat.le_of_ble_eq_true rfl), (Nat.le_of_ble_eq_true rfl)⟩ (fun r_8 ut_9 H locs hw_10 hP hD hS => ?_)
    have hP : va_P D vwCl [(md, .inr (9, [.int 0, .ref m_all, .ref m_deeds, .ref m_trial, .int 0, .ref m_hasImage, .ref m_tape, .ref m_key, .ref m_answered, .int 0, .int 0, .int 0, .ref m_goes, .int 0, .ref m_hotOnes, .ref m_indexed, .ref m_isChanged, .int 0, .ref m_valueNow, .int 0, .int (-1), .int 0, .ref m_didSome, .ref m_sizes, .ref m_ends])), (m_all, aI cs 51207 f_m_all)] H := hP
    have hD : va_D A [(md, .inr (9, [.int 0, .ref m_all, .ref m_deeds, .ref m_trial, .int 0, .ref m_hasImage, .ref m_tape, .ref m_key, .ref m_answered, .int 0, .int 0, .int 0, .ref m_goes, .int 0, .ref m_hotOnes, .ref m_indexed, .ref m_isChanged, .int 0, .ref m_valueNow, .int 0, .int (-1), .int 0, .ref m_didSome, .ref m_sizes, .ref m_ends])), (m_all, aI cs 51207 f_m_all)] := hD
    have er_11 := hw_10
    subst er_11
    refine kV_i (ci := 9) (As := [.int x, .int 0]) (rest := []) (wc := [(md, .inr (9, [.int 0, .ref m_all, .ref m_deeds, .ref m_trial, .int 0, .ref m_hasImage, .ref m_tape, .ref m_key, .ref m_answered, .int 0, .int 0, .int 0, .ref m_goes, .int 0, .ref m_hotOnes, .ref m_indexed, .ref m_isChanged, .int 0, .ref m_valueNow, .int 0, .int (-1), .int 0, .ref m_didSome, .ref m_sizes, .ref m_ends]))]) (wr := [(m_all, aI cs 51207 f_m_all)]) hx hb hml hown hu hK hP hD hS hA hl.1 (c_X9_packsBy l D cs H.size x md m_all m_deeds m_trial m_hasImage m_tape m_key m_answered m_goes m_hotOnes m_indexed m_isChanged m_valueNow m_didSome m_sizes m_ends 0 0 0) (gV u_1541 u_1543 u_63 u_76 u_1544) hd_X9_packsBy ⟨(Nat.le_of_ble_eq_true rfl), (Nat.le_of_ble_eq_true rfl)⟩ [0] [1] rfl rfl rfl rfl (by decide) rfl 0 rfl rfl rfl (Nat.le_of_ble_eq_true rfl) dX9_packs_24 ⟨(Nat.le_of_ble_eq_true rfl), (Nat.le_of_ble_eq_true rfl)⟩ (fun r_12 ut_13 H locs hw_14 hP hD hS => ?_)
    have hP : va_P D vwCl [(m_all, aI cs 51207 f_m_all), (md, .inr (9, [.int 0, .ref m_all, .ref m_deeds, .ref m_trial, .int 0, .ref m_hasImage, .ref m_tape, .ref m_key, .ref m_answered, .int 0, .int 0, .int 0, .ref m_goes, .int 0, .ref m_hotOnes, .ref m_indexed, .ref m_isChanged, .int 0, .ref m_valueNow, .int 0, .int (-1), .int 0, .ref m_didSome, .ref m_sizes, .ref m_ends]))] H := hP
    have hD : va_D A [(m_all, aI cs 51207 f_m_all), (md, .inr (9, [.int 0, .ref m_all, .ref m_deeds, .ref m_trial, .int 0, .ref m_hasImage, .ref m_tape, .ref m_key, .ref m_answered, .int 0, .int 0, .int 0, .ref m_goes, .int 0, .ref m_hotOnes, .ref m_indexed, .ref m_isChanged, .int 0, .ref m_valueNow, .int 0, .int (-1), .int 0, .ref m_didSome, .ref m_sizes, .ref m_ends]))] := hD
    have er_15 := hw_14
    subst er_15
    refine lv_goto (tgt := 32) hx hb dX9_packs_27 (by decide) ?_
    exact hz () hP hD hS (by grind) [] rfl rfl (Nat.le_of_ble_eq_true rfl) (Nat.le_of_ble_eq_true rfl) .int rfl rfl dX9_packs_32
  · obtain ⟨er_16, hf_17⟩ := hw_3
    have hf_18 : ¬ (0 ≤ x ∧ x ≤ 2) := fun h => hf_17 ⟨(w_le (d := 0) (x := x) (by decide)).mpr h.1, (w_ge (d := 2) (x := x) (by decide)).mpr h.2⟩
    subst er_16
    refine lv_if_eq (tgt := 30) hx hb dX9_packs_14 (by decide) (fun c_19 => ?_) (fun c_19 => absurd (by decide) c_19)
    refine lv_bipush (v := (-3)) hx hb dX9_packs_30 (by decide) ?_
    exact hz () hP hD hS (by grind) [] rfl rfl (Nat.le_of_ble_eq_true rfl) (Nat.le_of_ble_eq_true rfl) .int rfl rfl dX9_packs_32
abbrev rm_c_X9_best : Room := { frames := 1, cells := 0, slots := 0, locals := 26 }
set_option maxHeartbeats 4000000 in
set_option maxRecDepth 100000 in
theorem c_X9_best (l : Launch) (D : va_G) (cs : Nat → ClassId) (sz : Nat) (x : Int32) (md : Nat) (m_all : Nat) (f_m_all : Nat → Int32) (m_deeds : Nat) (m_trial : Nat) (m_hasImage : Nat) (m_tape : Nat) (m_key : Nat) (m_answered : Nat) (m_goes : Nat) (m_hotOnes : Nat) (m_indexed : Nat) (m_isChanged : Nat) (m_valueNow : Nat) (m_didSome : Nat) (m_sizes : Nat) (m_ends : Nat) (z_all : ∀ j, j < 51207 → f_m_all j = AL j) : cMi l yX9_best (Cond.code yX9_best cX9_best 7 (some .int)) (rm_c_X9_best) D cs [.ref md, .int x] sz [(md, .inr (9, [.int 0, .ref m_all, .ref m_deeds, .ref m_trial, .int 0, .ref m_hasImage, .ref m_tape, .ref m_key, .ref m_answered, .int 0, .int 0, .int 0, .ref m_goes, .int 0, .ref m_hotOnes, .ref m_indexed, .ref m_isChanged, .int 0, .ref m_valueNow, .int 0, .int (-1), .int 0, .ref m_didSome, .ref m_sizes, .ref m_ends])), (m_all, aI cs 51207 f_m_all)] (fun (r : Int32) (u : Unit) => ((r = (-2)) ∧ (x < 0 ∨ 1 < x)) ∨ ((r = 0) ∧ (¬ x < 0 ∧ ¬ 1 < x))) (fun (u : Unit) => []) := by
  refine kMet_i RX9 (by decide) rfl (Nat.le_of_ble_eq_true rfl) ?_
  intro p e s m below meth c ls A Qz H locs hx hb hml hown hin hu hK hsz hA hP hD hS hl hz
  subst hsz
  have hl : lv_has ls 7 [(0, .ref md), (1, .int x)] := hl
  refine lv_aload_n hx hb dX9_best_0 rfl (lv_at hl 0 rfl) ?_
  refine lv_iconst (v := 0) hx hb dX9_best_1 (by decide) ?_
  refine va_put (D := D) (ci := 9) (v := .int 0) (ty := tyX9 0) (C := RX9) (T := TX9) (N := 25) hx hb hu in_X9 tyX9 tyX9_ok nmX9 hown hK.1 hP hD hS 0 rfl rfl 0 (by decide) (hu _ u_1080) (fun _ h9 => h9) rfl (tyX9_ok 0 (by decide)) rfl rfl (Nat.le_of_ble_eq_true rfl) dX9_best_2 (fun H locs hP hD hS => ?_)
  have hP : va_P D vwCl [(md, .inr (9, [.int 0, .ref m_all, .ref m_deeds, .ref m_trial, .int 0, .ref m_hasImage, .ref m_tape, .ref m_key, .ref m_answered, .int 0, .int 0, .int 0, .ref m_goes, .int 0, .ref m_hotOnes, .ref m_indexed, .ref m_isChanged, .int 0, .ref m_valueNow, .int 0, .int (-1), .int 0, .ref m_didSome, .ref m_sizes, .ref m_ends])), (m_all, aI cs 51207 f_m_all)] H := hP
  have hD : va_D A [(md, .inr (9, [.int 0, .ref m_all, .ref m_deeds, .ref m_trial, .int 0, .ref m_hasImage, .ref m_tape, .ref m_key, .ref m_answered, .int 0, .int 0, .int 0, .ref m_goes, .int 0, .ref m_hotOnes, .ref m_indexed, .ref m_isChanged, .int 0, .ref m_valueNow, .int 0, .int (-1), .int 0, .ref m_didSome, .ref m_sizes, .ref m_ends])), (m_all, aI cs 51207 f_m_all)] := hD
  refine lv_iload_n hx hb dX9_best_5 rfl (lv_at hl 1 rfl) ?_
  refine lv_i2l (v := x.toInt64) hx hb dX9_best_6 rfl ?_
  refine lv_lconst (v := 0) hx hb dX9_best_7 (by decide) ?_
  refine lv_lconst (v := 1) hx hb dX9_best_8 (by decide) ?_
  refine kS_i  (As := [.long x.toInt64, .long 0, .long 1]) (rest := []) (wc := []) (wr := [(md, .inr (9, [.int 0, .ref m_all, .ref m_deeds, .ref m_trial, .int 0, .ref m_hasImage, .ref m_tape, .ref m_key, .ref m_answered, .int 0, .int 0, .int 0, .ref m_goes, .int 0, .ref m_hotOnes, .ref m_indexed, .ref m_isChanged, .int 0, .ref m_valueNow, .int 0, .int (-1), .int 0, .ref m_didSome, .ref m_sizes, .ref m_ends])), (m_all, aI cs 51207 f_m_all)]) hx hb hml hown hu hK hP hD hS hA hl.1 (c_X9_within l D cs H.size x.toInt64 0 1) (gS u_1164 u_1165 u_76 u_1166) hd_X9_within ⟨(Nat.le_of_ble_eq_true rfl), (Nat.le_of_ble_eq_true rfl)⟩ [] [0, 1] rfl rfl rfl rfl (by decide) rfl rfl (Nat.le_of_ble_eq_true rfl) dX9_best_9 ⟨(Nat.le_of_ble_eq_true rfl), (Nat.le_of_ble_eq_true rfl)⟩ (fun r_1 ut_2 H locs hw_3 hP hD hS => ?_)
  have hP : va_P D vwCl [(md, .inr (9, [.int 0, .ref m_all, .ref m_deeds, .ref m_trial, .int 0, .ref m_hasImage, .ref m_tape, .ref m_key, .ref m_answered, .int 0, .int 0, .int 0, .ref m_goes, .int 0, .ref m_hotOnes, .ref m_indexed, .ref m_isChanged, .int 0, .ref m_valueNow, .int 0, .int (-1), .int 0, .ref m_didSome, .ref m_sizes, .ref m_ends])), (m_all, aI cs 51207 f_m_all)] H := hP
  have hD : va_D A [(md, .inr (9, [.int 0, .ref m_all, .ref m_deeds, .ref m_trial, .int 0, .ref m_hasImage, .ref m_tape, .ref m_key, .ref m_answered, .int 0, .int 0, .int 0, .ref m_goes, .int 0, .ref m_hotOnes, .ref m_indexed, .ref m_isChanged, .int 0, .ref m_valueNow, .int 0, .int (-1), .int 0, .ref m_didSome, .ref m_sizes, .ref m_ends])), (m_all, aI cs 51207 f_m_all)] := hD
  rcases hw_3 with hw_3 | hw_3
  · obtain ⟨er_4, hf_5⟩ := hw_3
    have hf_6 : 0 ≤ x ∧ x ≤ 1 := ⟨(w_le (d := 0) (x := x) (by decide)).mp hf_5.1, (w_ge (d := 1) (x := x) (by decide)).mp hf_5.2⟩
    subst er_4
    refine lv_if_ne (tgt := 18) hx hb dX9_best_12 (by decide) (fun c_7 => ?_) (fun c_7 => absurd c_7 (by decide))
    refine lv_iload_n hx hb dX9_best_18 rfl (lv_at hl 1 rfl) ?_
    refine lv_iconst (v := 1) hx hb dX9_best_19 (by decide) ?_
    refine lv_icmp_ne (tgt := 34) hx hb dX9_best_20 (by decide) (fun c_8 => ?_) (fun c_8 => ?_)
    · refine lv_aload_n hx hb dX9_best_34 rfl (lv_at hl 0 rfl) ?_
      refine lv_iconst (v := 0) hx hb dX9_best_35 (by decide) ?_
      refine kV_i (ci := 9) (As := [.int 0]) (rest := []) (wc := [(md, .inr (9, [.int 0, .ref m_all, .ref m_deeds, .ref m_trial, .int 0, .ref m_hasImage, .ref m_tape, .ref m_key, .ref m_answered, .int 0, .int 0, .int 0, .ref m_goes, .int 0, .ref m_hotOnes, .ref m_indexed, .ref m_isChanged, .int 0, .ref m_valueNow, .int 0, .int (-1), .int 0, .ref m_didSome, .ref m_sizes, .ref m_ends])), (m_all, aI cs 51207 f_m_all)]) (wr := []) hx hb hml hown hu hK hP hD hS hA hl.1 (c_X9_laysSizes l D cs H.size 0 md m_all f_m_all m_deeds m_trial m_hasImage m_tape m_key m_answered m_goes m_hotOnes m_indexed m_isChanged m_valueNow m_didSome m_sizes m_ends 0 0 0 z_all) (gV u_1533 u_1535 u_61 u_76 u_1536) hd_X9_laysSizes ⟨(Nat.le_of_ble_eq_true rfl), (Nat.le_of_ble_eq_true rfl)⟩ [0, 1] [] rfl rfl rfl rfl (by decide) rfl 0 rfl rfl rfl (Nat.le_of_ble_eq_true rfl) dX9_best_36 ⟨(Nat.le_of_ble_eq_true rfl), (Nat.le_of_ble_eq_true rfl)⟩ (fun r_9 ut_10 H locs hw_11 hP hD hS => ?_)
      have hP : va_P D vwCl [(md, .inr (9, [.int 0, .ref m_all, .ref m_deeds, .ref m_trial, .int 0, .ref m_hasImage, .ref m_tape, .ref m_key, .ref m_answered, .int 0, .int 0, .int 0, .ref m_goes, .int 0, .ref m_hotOnes, .ref m_indexed, .ref m_isChanged, .int 0, .ref m_valueNow, .int 0, .int (-1), .int 0, .ref m_didSome, .ref m_sizes, .ref m_ends])), (m_all, aI cs 51207 f_m_all)] H := hP
      have hD : va_D A [(md, .inr (9, [.int 0, .ref m_all, .ref m_deeds, .ref m_trial, .int 0, .ref m_hasImage, .ref m_tape, .ref m_key, .ref m_answered, .int 0, .int 0, .int 0, .ref m_goes, .int 0, .ref m_hotOnes, .ref m_indexed, .ref m_isChanged, .int 0, .ref m_valueNow, .int 0, .int (-1), .int 0, .ref m_didSome, .ref m_sizes, .ref m_ends])), (m_all, aI cs 51207 f_m_all)] := hD
      have er_12 := hw_11
      subst er_12
      refine lv_istore_n (lv' := [(2, .int 0), (0, .ref md), (1, .int x)]) hx hb dX9_best_39 rfl hl (by decide) rfl (fun ls hl => ?_)
      refine lv_iconst (v := (-1)) hx hb dX9_best_40 (by decide) ?_
      refine lv_istore_n (lv' := [(3, .int (-1)), (2, .int 0), (0, .ref md), (1, .int x)]) hx hb dX9_best_41 rfl hl (by decide) rfl (fun ls hl => ?_)
      refine lv_ldc (v := 268435456) hx hb hown (hu _ u_1269) dX9_best_42 ?_
      refine lv_istore (lv' := [(4, .int 268435456), (3, .int (-1)), (2, .int 0), (0, .ref md), (1, .int x)]) hx hb dX9_best_44 hl (by decide) rfl (fun ls hl => ?_)
      refine lv_iconst (v := 0) hx hb dX9_best_46 (by decide) ?_
      refine lv_istore (lv' := [(5, .int 0), (4, .int 268435456), (3, .int (-1)), (2, .int 0), (0, .ref md), (1, .int x)]) hx hb dX9_best_47 hl (by decide) rfl (fun ls hl => ?_)
      refine lv_iload hx hb dX9_best_49 (lv_at hl 0 rfl) ?_
      refine lv_iconst (v := 3) hx hb dX9_best_51 (by decide) ?_
      refine lv_icmp_ge (tgt := 87) hx hb dX9_best_52 (by decide) (fun c_13 => absurd c_13 (by decide)) (fun c_13 => ?_)
      refine lv_aload_n hx hb dX9_best_55 rfl (lv_at hl 4 rfl) ?_
      refine lv_iload hx hb dX9_best_56 (lv_at hl 0 rfl) ?_
      refine lv_iload_n hx hb dX9_best_58 rfl (lv_at hl 3 rfl) ?_
      refine kV_i (ci := 9) (As := [.int 0, .int 0]) (rest := []) (wc := [(md, .inr (9, [.int 0, .ref m_all, .ref m_deeds, .ref m_trial, .int 0, .ref m_hasImage, .ref m_tape, .ref m_key, .ref m_answered, .int 0, .int 0, .int 0, .ref m_goes, .int 0, .ref m_hotOnes, .ref m_indexed, .ref m_isChanged, .int 0, .ref m_valueNow, .int 0, .int (-1), .int 0, .ref m_didSome, .ref m_sizes, .ref m_ends]))]) (wr := [(m_all, aI cs 51207 f_m_all)]) hx hb hml hown hu hK hP hD hS hA hl.1 (c_X9_packsBy l D cs H.size 0 md m_all m_deeds m_trial m_hasImage m_tape m_key m_answered m_goes m_hotOnes m_indexed m_isChanged m_valueNow m_didSome m_sizes m_ends 0 0 0) (gV u_1541 u_1543 u_63 u_76 u_1544) hd_X9_packsBy ⟨(Nat.le_of_ble_eq_true rfl), (Nat.le_of_ble_eq_true rfl)⟩ [0] [1] rfl rfl rfl rfl (by decide) rfl 0 rfl rfl rfl (Nat.le_of_ble_eq_true rfl) dX9_best_59 ⟨(Nat.le_of_ble_eq_true rfl), (Nat.le_of_ble_eq_true rfl)⟩ (fun r_14 ut_15 H locs hw_16 hP hD hS => ?_)
      have hP : va_P D vwCl [(m_all, aI cs 51207 f_m_all), (md, .inr (9, [.int 0, .ref m_all, .ref m_deeds, .ref m_trial, .int 0, .ref m_hasImage, .ref m_tape, .ref m_key, .ref m_answered, .int 0, .int 0, .int 0, .ref m_goes, .int 0, .ref m_hotOnes, .ref m_indexed, .ref m_isChanged, .int 0, .ref m_valueNow, .int 0, .int (-1), .int 0, .ref m_didSome, .ref m_sizes, .ref m_ends]))] H := hP
      have hD : va_D A [(m_all, aI cs 51207 f_m_all), (md, .inr (9, [.int 0, .ref m_all, .ref m_deeds, .ref m_trial, .int 0, .ref m_hasImage, .ref m_tape, .ref m_key, .ref m_answered, .int 0, .int 0, .int 0, .ref m_goes, .int 0, .ref m_hotOnes, .ref m_indexed, .ref m_isChanged, .int 0, .ref m_valueNow, .int 0, .int (-1), .int 0, .ref m_didSome, .ref m_sizes, .ref m_ends]))] := hD
      have er_17 := hw_16
      subst er_17
      refine lv_istore (lv' := [(6, .int 0), (5, .int 0), (4, .int 268435456), (3, .int (-1)), (2, .int 0), (0, .ref md), (1, .int x)]) hx hb dX9_best_62 hl (by decide) rfl (fun ls hl => ?_)
      refine lv_iload hx hb dX9_best_64 (lv_at hl 0 rfl) ?_
      refine lv_iload hx hb dX9_best_66 (lv_at hl 2 rfl) ?_
      refine lv_icmp_lt (tgt := 74) hx hb dX9_best_68 (by decide) (fun c_18 => ?_) (fun c_18 => absurd (by decide) c_18)
      refine lv_iload hx hb dX9_best_74 (lv_at hl 1 rfl) ?_
      refine lv_istore_n (lv' := [(3, .int 0), (6, .int 0), (5, .int 0), (4, .int 268435456), (2, .int 0), (0, .ref md), (1, .int x)]) hx hb dX9_best_76 rfl hl (by decide) rfl (fun ls hl => ?_)
      refine lv_iload hx hb dX9_best_77 (lv_at hl 1 rfl) ?_
      refine lv_istore (lv' := [(4, .int 0), (3, .int 0), (6, .int 0), (5, .int 0), (2, .int 0), (0, .ref md), (1, .int x)]) hx hb dX9_best_79 hl (by decide) rfl (fun ls hl => ?_)
      refine lv_iinc (v := 1) (lv' := [(5, .int 1), (4, .int 0), (3, .int 0), (6, .int 0), (2, .int 0), (0, .ref md), (1, .int x)]) hx hb dX9_best_81 hl (k := 3) rfl (by decide) (by decide) rfl (fun ls hl => ?_)
      refine lv_goto (tgt := 49) hx hb dX9_best_84 (by decide) ?_
      refine lv_iload hx hb dX9_best_49 (lv_at hl 0 rfl) ?_
      refine lv_iconst (v := 3) hx hb dX9_best_51 (by decide) ?_
      refine lv_icmp_ge (tgt := 87) hx hb dX9_best_52 (by decide) (fun c_19 => absurd c_19 (by decide)) (fun c_19 => ?_)
      refine lv_aload_n hx hb dX9_best_55 rfl (lv_at hl 5 rfl) ?_
      refine lv_iload hx hb dX9_best_56 (lv_at hl 0 rfl) ?_
      refine lv_iload_n hx hb dX9_best_58 rfl (lv_at hl 4 rfl) ?_
      refine kV_i (ci := 9) (As := [.int 1, .int 0]) (rest := []) (wc := [(md, .inr (9, [.int 0, .ref m_all, .ref m_deeds, .ref m_trial, .int 0, .ref m_hasImage, .ref m_tape, .ref m_key, .ref m_answered, .int 0, .int 0, .int 0, .ref m_goes, .int 0, .ref m_hotOnes, .ref m_indexed, .ref m_isChanged, .int 0, .ref m_valueNow, .int 0, .int (-1), .int 0, .ref m_didSome, .ref m_sizes, .ref m_ends]))]) (wr := [(m_all, aI cs 51207 f_m_all)]) hx hb hml hown hu hK hP hD hS hA hl.1 (c_X9_packsBy l D cs H.size 1 md m_all m_deeds m_trial m_hasImage m_tape m_key m_answered m_goes m_hotOnes m_indexed m_isChanged m_valueNow m_didSome m_sizes m_ends 0 0 0) (gV u_1541 u_1543 u_63 u_76 u_1544) hd_X9_packsBy ⟨(Nat.le_of_ble_eq_true rfl), (Nat.le_of_ble_eq_true rfl)⟩ [1] [0] rfl rfl rfl rfl (by decide) rfl 0 rfl rfl rfl (Nat.le_of_ble_eq_true rfl) dX9_best_59 ⟨(Nat.le_of_ble_eq_true rfl), (Nat.le_of_ble_eq_true rfl)⟩ (fun r_20 ut_21 H locs hw_22 hP hD hS => ?_)
      have hP : va_P D vwCl [(m_all, aI cs 51207 f_m_all), (md, .inr (9, [.int 0, .ref m_all, .ref m_deeds, .ref m_trial, .int 0, .ref m_hasImage, .ref m_tape, .ref m_key, .ref m_answered, .int 0, .int 0, .int 0, .ref m_goes, .int 0, .ref m_hotOnes, .ref m_indexed, .ref m_isChanged, .int 0, .ref m_valueNow, .int 0, .int (-1), .int 0, .ref m_didSome, .ref m_sizes, .ref m_ends]))] H := hP
      have hD : va_D A [(m_all, aI cs 51207 f_m_all), (md, .inr (9, [.int 0, .ref m_all, .ref m_deeds, .ref m_trial, .int 0, .ref m_hasImage, .ref m_tape, .ref m_key, .ref m_answered, .int 0, .int 0, .int 0, .ref m_goes, .int 0, .ref m_hotOnes, .ref m_indexed, .ref m_isChanged, .int 0, .ref m_valueNow, .int 0, .int (-1), .int 0, .ref m_didSome, .ref m_sizes, .ref m_ends]))] := hD
      have er_23 := hw_22
      subst er_23
      refine lv_istore (lv' := [(6, .int 0), (5, .int 1), (4, .int 0), (3, .int 0), (2, .int 0), (0, .ref md), (1, .int x)]) hx hb dX9_best_62 hl (by decide) rfl (fun ls hl => ?_)
      refine lv_iload hx hb dX9_best_64 (lv_at hl 0 rfl) ?_
      refine lv_iload hx hb dX9_best_66 (lv_at hl 2 rfl) ?_
      refine lv_icmp_lt (tgt := 74) hx hb dX9_best_68 (by decide) (fun c_24 => absurd c_24 (by decide)) (fun c_24 => ?_)
      refine lv_goto (tgt := 81) hx hb dX9_best_71 (by decide) ?_
      refine lv_iinc (v := 2) (lv' := [(5, .int 2), (6, .int 0), (4, .int 0), (3, .int 0), (2, .int 0), (0, .ref md), (1, .int x)]) hx hb dX9_best_81 hl (k := 1) rfl (by decide) (by decide) rfl (fun ls hl => ?_)
      refine lv_goto (tgt := 49) hx hb dX9_best_84 (by decide) ?_
      refine lv_iload hx hb dX9_best_49 (lv_at hl 0 rfl) ?_
      refine lv_iconst (v := 3) hx hb dX9_best_51 (by decide) ?_
      refine lv_icmp_ge (tgt := 87) hx hb dX9_best_52 (by decide) (fun c_25 => absurd c_25 (by decide)) (fun c_25 => ?_)
      refine lv_aload_n hx hb dX9_best_55 rfl (lv_at hl 5 rfl) ?_
      refine lv_iload hx hb dX9_best_56 (lv_at hl 0 rfl) ?_
      refine lv_iload_n hx hb dX9_best_58 rfl (lv_at hl 4 rfl) ?_
      refine kV_i (ci := 9) (As := [.int 2, .int 0]) (rest := []) (wc := [(md, .inr (9, [.int 0, .ref m_all, .ref m_deeds, .ref m_trial, .int 0, .ref m_hasImage, .ref m_tape, .ref m_key, .ref m_answered, .int 0, .int 0, .int 0, .ref m_goes, .int 0, .ref m_hotOnes, .ref m_indexed, .ref m_isChanged, .int 0, .ref m_valueNow, .int 0, .int (-1), .int 0, .ref m_didSome, .ref m_sizes, .ref m_ends]))]) (wr := [(m_all, aI cs 51207 f_m_all)]) hx hb hml hown hu hK hP hD hS hA hl.1 (c_X9_packsBy l D cs H.size 2 md m_all m_deeds m_trial m_hasImage m_tape m_key m_answered m_goes m_hotOnes m_indexed m_isChanged m_valueNow m_didSome m_sizes m_ends 0 0 0) (gV u_1541 u_1543 u_63 u_76 u_1544) hd_X9_packsBy ⟨(Nat.le_of_ble_eq_true rfl), (Nat.le_of_ble_eq_true rfl)⟩ [1] [0] rfl rfl rfl rfl (by decide) rfl 0 rfl rfl rfl (Nat.le_of_ble_eq_true rfl) dX9_best_59 ⟨(Nat.le_of_ble_eq_true rfl), (Nat.le_of_ble_eq_true rfl)⟩ (fun r_26 ut_27 H locs hw_28 hP hD hS => ?_)
      have hP : va_P D vwCl [(m_all, aI cs 51207 f_m_all), (md, .inr (9, [.int 0, .ref m_all, .ref m_deeds, .ref m_trial, .int 0, .ref m_hasImage, .ref m_tape, .ref m_key, .ref m_answered, .int 0, .int 0, .int 0, .ref m_goes, .int 0, .ref m_hotOnes, .ref m_indexed, .ref m_isChanged, .int 0, .ref m_valueNow, .int 0, .int (-1), .int 0, .ref m_didSome, .ref m_sizes, .ref m_ends]))] H := hP
      have hD : va_D A [(m_all, aI cs 51207 f_m_all), (md, .inr (9, [.int 0, .ref m_all, .ref m_deeds, .ref m_trial, .int 0, .ref m_hasImage, .ref m_tape, .ref m_key, .ref m_answered, .int 0, .int 0, .int 0, .ref m_goes, .int 0, .ref m_hotOnes, .ref m_indexed, .ref m_isChanged, .int 0, .ref m_valueNow, .int 0, .int (-1), .int 0, .ref m_didSome, .ref m_sizes, .ref m_ends]))] := hD
      have er_29 := hw_28
      subst er_29
      refine lv_istore (lv' := [(6, .int 0), (5, .int 2), (4, .int 0), (3, .int 0), (2, .int 0), (0, .ref md), (1, .int x)]) hx hb dX9_best_62 hl (by decide) rfl (fun ls hl => ?_)
      refine lv_iload hx hb dX9_best_64 (lv_at hl 0 rfl) ?_
      refine lv_iload hx hb dX9_best_66 (lv_at hl 2 rfl) ?_
      refine lv_icmp_lt (tgt := 74) hx hb dX9_best_68 (by decide) (fun c_30 => absurd c_30 (by decide)) (fun c_30 => ?_)
      refine lv_goto (tgt := 81) hx hb dX9_best_71 (by decide) ?_
      refine lv_iinc (v := 3) (lv' := [(5, .int 3), (6, .int 0), (4, .int 0), (3, .int 0), (2, .int 0), (0, .ref md), (1, .int x)]) hx hb dX9_best_81 hl (k := 1) rfl (by decide) (by decide) rfl (fun ls hl => ?_)
      refine lv_goto (tgt := 49) hx hb dX9_best_84 (by decide) ?_
      refine lv_iload hx hb dX9_best_49 (lv_at hl 0 rfl) ?_
      refine lv_iconst (v := 3) hx hb dX9_best_51 (by decide) ?_
      refine lv_icmp_ge (tgt := 87) hx hb dX9_best_52 (by decide) (fun c_31 => ?_) (fun c_31 => absurd (by decide) c_31)
      refine lv_iload_n hx hb dX9_best_87 rfl (lv_at hl 3 rfl) ?_
      exact hz () hP hD hS (by grind) [] rfl rfl (Nat.le_of_ble_eq_true rfl) (Nat.le_of_ble_eq_true rfl) .int rfl rfl dX9_best_88
    · refine lv_aload_n hx hb dX9_best_23 rfl (lv_at hl 0 rfl) ?_
      refine lv_iconst (v := 1) hx hb dX9_best_24 (by decide) ?_
      refine lv_aload_n hx hb dX9_best_25 rfl (lv_at hl 0 rfl) ?_
      refine lv_iconst (v := 1) hx hb dX9_best_26 (by decide) ?_
      refine kV_i (ci := 9) (As := [.int 1]) (rest := [.int 1, .ref md]) (wc := [(md, .inr (9, [.int 0, .ref m_all, .ref m_deeds, .ref m_trial, .int 0, .ref m_hasImage, .ref m_tape, .ref m_key, .ref m_answered, .int 0, .int 0, .int 0, .ref m_goes, .int 0, .ref m_hotOnes, .ref m_indexed, .ref m_isChanged, .int 0, .ref m_valueNow, .int 0, .int (-1), .int 0, .ref m_didSome, .ref m_sizes, .ref m_ends])), (m_all, aI cs 51207 f_m_all)]) (wr := []) hx hb hml hown hu hK hP hD hS hA hl.1 (c_X9_laysSizes l D cs H.size 1 md m_all f_m_all m_deeds m_trial m_hasImage m_tape m_key m_answered m_goes m_hotOnes m_indexed m_isChanged m_valueNow m_didSome m_sizes m_ends 0 0 0 z_all) (gV u_1533 u_1535 u_61 u_76 u_1536) hd_X9_laysSizes ⟨(Nat.le_of_ble_eq_true rfl), (Nat.le_of_ble_eq_true rfl)⟩ [0, 1] [] rfl rfl rfl rfl (by decide) rfl 0 rfl rfl rfl (Nat.le_of_ble_eq_true rfl) dX9_best_27 ⟨(Nat.le_of_ble_eq_true rfl), (Nat.le_of_ble_eq_true rfl)⟩ (fun r_32 ut_33 H locs hw_34 hP hD hS => ?_)
      have hP : va_P D vwCl [(md, .inr (9, [.int 0, .ref m_all, .ref m_deeds, .ref m_trial, .int 0, .ref m_hasImage, .ref m_tape, .ref m_key, .ref m_answered, .int 0, .int 0, .int 0, .ref m_goes, .int 0, .ref m_hotOnes, .ref m_indexed, .ref m_isChanged, .int 0, .ref m_valueNow, .int 0, .int (-1), .int 0, .ref m_didSome, .ref m_sizes, .ref m_ends])), (m_all, aI cs 51207 f_m_all)] H := hP
      have hD : va_D A [(md, .inr (9, [.int 0, .ref m_all, .ref m_deeds, .ref m_trial, .int 0, .ref m_hasImage, .ref m_tape, .ref m_key, .ref m_answered, .int 0, .int 0, .int 0, .ref m_goes, .int 0, .ref m_hotOnes, .ref m_indexed, .ref m_isChanged, .int 0, .ref m_valueNow, .int 0, .int (-1), .int 0, .ref m_didSome, .ref m_sizes, .ref m_ends])), (m_all, aI cs 51207 f_m_all)] := hD
      have er_35 := hw_34
      subst er_35
      refine kV_i (ci := 9) (As := [.int 1, .int 0]) (rest := []) (wc := [(md, .inr (9, [.int 0, .ref m_all, .ref m_deeds, .ref m_trial, .int 0, .ref m_hasImage, .ref m_tape, .ref m_key, .ref m_answered, .int 0, .int 0, .int 0, .ref m_goes, .int 0, .ref m_hotOnes, .ref m_indexed, .ref m_isChanged, .int 0, .ref m_valueNow, .int 0, .int (-1), .int 0, .ref m_didSome, .ref m_sizes, .ref m_ends]))]) (wr := [(m_all, aI cs 51207 f_m_all)]) hx hb hml hown hu hK hP hD hS hA hl.1 (c_X9_packsBy l D cs H.size 1 md m_all m_deeds m_trial m_hasImage m_tape m_key m_answered m_goes m_hotOnes m_indexed m_isChanged m_valueNow m_didSome m_sizes m_ends 0 0 0) (gV u_1541 u_1543 u_63 u_76 u_1544) hd_X9_packsBy ⟨(Nat.le_of_ble_eq_true rfl), (Nat.le_of_ble_eq_true rfl)⟩ [0] [1] rfl rfl rfl rfl (by decide) rfl 0 rfl rfl rfl (Nat.le_of_ble_eq_true rfl) dX9_best_30 ⟨(Nat.le_of_ble_eq_true rfl), (Nat.le_of_ble_eq_true rfl)⟩ (fun r_36 ut_37 H locs hw_38 hP hD hS => ?_)
      have hP : va_P D vwCl [(m_all, aI cs 51207 f_m_all), (md, .inr (9, [.int 0, .ref m_all, .ref m_deeds, .ref m_trial, .int 0, .ref m_hasImage, .ref m_tape, .ref m_key, .ref m_answered, .int 0, .int 0, .int 0, .ref m_goes, .int 0, .ref m_hotOnes, .ref m_indexed, .ref m_isChanged, .int 0, .ref m_valueNow, .int 0, .int (-1), .int 0, .ref m_didSome, .ref m_sizes, .ref m_ends]))] H := hP
      have hD : va_D A [(m_all, aI cs 51207 f_m_all), (md, .inr (9, [.int 0, .ref m_all, .ref m_deeds, .ref m_trial, .int 0, .ref m_hasImage, .ref m_tape, .ref m_key, .ref m_answered, .int 0, .int 0, .int 0, .ref m_goes, .int 0, .ref m_hotOnes, .ref m_indexed, .ref m_isChanged, .int 0, .ref m_valueNow, .int 0, .int (-1), .int 0, .ref m_didSome, .ref m_sizes, .ref m_ends]))] := hD
      have er_39 := hw_38
      subst er_39
      exact hz () hP hD hS (by grind) [] rfl rfl (Nat.le_of_ble_eq_true rfl) (Nat.le_of_ble_eq_true rfl) .int rfl rfl dX9_best_33
  · obtain ⟨er_40, hf_41⟩ := hw_3
    have hf_42 : ¬ (0 ≤ x ∧ x ≤ 1) := fun h => hf_41 ⟨(w_le (d := 0) (x := x) (by decide)).mpr h.1, (w_ge (d := 1) (x := x) (by decide)).mpr h.2⟩
    subst er_40
    refine lv_if_ne (tgt := 18) hx hb dX9_best_12 (by decide) (fun c_43 => absurd (by decide) c_43) (fun c_43 => ?_)
    refine lv_bipush (v := (-2)) hx hb dX9_best_15 (by decide) ?_
    exact hz () hP hD hS (by grind) [] rfl rfl (Nat.le_of_ble_eq_true rfl) (Nat.le_of_ble_eq_true rfl) .int rfl rfl dX9_best_17
abbrev rm_c_X9_wear : Room := { frames := 1, cells := 0, slots := 0, locals := 25 }
set_option maxHeartbeats 4000000 in
set_option maxRecDepth 100000 in
theorem c_X9_wear (l : Launch) (D : va_G) (cs : Nat → ClassId) (sz : Nat) (x : Int32) (md : Nat) (m_all : Nat) (f_m_all : Nat → Int32) (m_deeds : Nat) (m_trial : Nat) (m_hasImage : Nat) (m_tape : Nat) (m_key : Nat) (m_answered : Nat) (m_goes : Nat) (m_hotOnes : Nat) (m_indexed : Nat) (m_isChanged : Nat) (m_valueNow : Nat) (m_didSome : Nat) (m_sizes : Nat) (m_ends : Nat) (z_all : ∀ j, j < 51207 → f_m_all j = AL j) : cMi l yX9_wear (Cond.code yX9_wear cX9_wear 5 (some .int)) (rm_c_X9_wear) D cs [.ref md, .int x] sz [(md, .inr (9, [.int 0, .ref m_all, .ref m_deeds, .ref m_trial, .int 0, .ref m_hasImage, .ref m_tape, .ref m_key, .ref m_answered, .int 0, .int 0, .int 0, .ref m_goes, .int 0, .ref m_hotOnes, .ref m_indexed, .ref m_isChanged, .int 0, .ref m_valueNow, .int 0, .int (-1), .int 0, .ref m_didSome, .ref m_sizes, .ref m_ends])), (m_all, aI cs 51207 f_m_all)] (fun (r : Int32) (u : Unit) => ((r = (-2)) ∧ (x < 0 ∨ 4 < x)) ∨ ((r = 0) ∧ (¬ x < 0 ∧ ¬ 4 < x))) (fun (u : Unit) => []) := by
  refine kMet_i RX9 (by decide) rfl (Nat.le_of_ble_eq_true rfl) ?_
  intro p e s m below meth c ls A Qz H locs hx hb hml hown hin hu hK hsz hA hP hD hS hl hz
  subst hsz
  have hl : lv_has ls 5 [(0, .ref md), (1, .int x)] := hl
  refine lv_aload_n hx hb dX9_wear_0 rfl (lv_at hl 0 rfl) ?_
  refine lv_iconst (v := 0) hx hb dX9_wear_1 (by decide) ?_
  refine va_put (D := D) (ci := 9) (v := .int 0) (ty := tyX9 0) (C := RX9) (T := TX9) (N := 25) hx hb hu in_X9 tyX9 tyX9_ok nmX9 hown hK.1 hP hD hS 0 rfl rfl 0 (by decide) (hu _ u_1080) (fun _ h9 => h9) rfl (tyX9_ok 0 (by decide)) rfl rfl (Nat.le_of_ble_eq_true rfl) dX9_wear_2 (fun H locs hP hD hS => ?_)
  have hP : va_P D vwCl [(md, .inr (9, [.int 0, .ref m_all, .ref m_deeds, .ref m_trial, .int 0, .ref m_hasImage, .ref m_tape, .ref m_key, .ref m_answered, .int 0, .int 0, .int 0, .ref m_goes, .int 0, .ref m_hotOnes, .ref m_indexed, .ref m_isChanged, .int 0, .ref m_valueNow, .int 0, .int (-1), .int 0, .ref m_didSome, .ref m_sizes, .ref m_ends])), (m_all, aI cs 51207 f_m_all)] H := hP
  have hD : va_D A [(md, .inr (9, [.int 0, .ref m_all, .ref m_deeds, .ref m_trial, .int 0, .ref m_hasImage, .ref m_tape, .ref m_key, .ref m_answered, .int 0, .int 0, .int 0, .ref m_goes, .int 0, .ref m_hotOnes, .ref m_indexed, .ref m_isChanged, .int 0, .ref m_valueNow, .int 0, .int (-1), .int 0, .ref m_didSome, .ref m_sizes, .ref m_ends])), (m_all, aI cs 51207 f_m_all)] := hD
  refine lv_iload_n hx hb dX9_wear_5 rfl (lv_at hl 1 rfl) ?_
  refine lv_i2l (v := x.toInt64) hx hb dX9_wear_6 rfl ?_
  refine lv_lconst (v := 0) hx hb dX9_wear_7 (by decide) ?_
  refine lv_ldc2 (v := 4) hx hb hown (hu _ u_1490) dX9_wear_8 ?_
  refine kS_i  (As := [.long x.toInt64, .long 0, .long 4]) (rest := []) (wc := []) (wr := [(md, .inr (9, [.int 0, .ref m_all, .ref m_deeds, .ref m_trial, .int 0, .ref m_hasImage, .ref m_tape, .ref m_key, .ref m_answered, .int 0, .int 0, .int 0, .ref m_goes, .int 0, .ref m_hotOnes, .ref m_indexed, .ref m_isChanged, .int 0, .ref m_valueNow, .int 0, .int (-1), .int 0, .ref m_didSome, .ref m_sizes, .ref m_ends])), (m_all, aI cs 51207 f_m_all)]) hx hb hml hown hu hK hP hD hS hA hl.1 (c_X9_within l D cs H.size x.toInt64 0 4) (gS u_1164 u_1165 u_76 u_1166) hd_X9_within ⟨(Nat.le_of_ble_eq_true rfl), (Nat.le_of_ble_eq_true rfl)⟩ [] [0, 1] rfl rfl rfl rfl (by decide) rfl rfl (Nat.le_of_ble_eq_true rfl) dX9_wear_11 ⟨(Nat.le_of_ble_eq_true rfl), (Nat.le_of_ble_eq_true rfl)⟩ (fun r_1 ut_2 H locs hw_3 hP hD hS => ?_)
  have hP : va_P D vwCl [(md, .inr (9, [.int 0, .ref m_all, .ref m_deeds, .ref m_trial, .int 0, .ref m_hasImage, .ref m_tape, .ref m_key, .ref m_answered, .int 0, .int 0, .int 0, .ref m_goes, .int 0, .ref m_hotOnes, .ref m_indexed, .ref m_isChanged, .int 0, .ref m_valueNow, .int 0, .int (-1), .int 0, .ref m_didSome, .ref m_sizes, .ref m_ends])), (m_all, aI cs 51207 f_m_all)] H := hP
  have hD : va_D A [(md, .inr (9, [.int 0, .ref m_all, .ref m_deeds, .ref m_trial, .int 0, .ref m_hasImage, .ref m_tape, .ref m_key, .ref m_answered, .int 0, .int 0, .int 0, .ref m_goes, .int 0, .ref m_hotOnes, .ref m_indexed, .ref m_isChanged, .int 0, .ref m_valueNow, .int 0, .int (-1), .int 0, .ref m_didSome, .ref m_sizes, .ref m_ends])), (m_all, aI cs 51207 f_m_all)] := hD
  rcases hw_3 with hw_3 | hw_3
  · obtain ⟨er_4, hf_5⟩ := hw_3
    have hf_6 : 0 ≤ x ∧ x ≤ 4 := ⟨(w_le (d := 0) (x := x) (by decide)).mp hf_5.1, (w_ge (d := 4) (x := x) (by decide)).mp hf_5.2⟩
    subst er_4
    refine lv_if_ne (tgt := 20) hx hb dX9_wear_14 (by decide) (fun c_7 => ?_) (fun c_7 => absurd c_7 (by decide))
    refine lv_iload_n hx hb dX9_wear_20 rfl (lv_at hl 1 rfl) ?_
    refine lv_iconst (v := 3) hx hb dX9_wear_21 (by decide) ?_
    refine lv_icmp_ge (tgt := 34) hx hb dX9_wear_22 (by decide) (fun c_8 => ?_) (fun c_8 => ?_)
    · refine lv_iconst (v := 0) hx hb dX9_wear_34 (by decide) ?_
      refine lv_istore_n (lv' := [(2, .int 0), (0, .ref md), (1, .int x)]) hx hb dX9_wear_35 rfl hl (by decide) rfl (fun ls hl => ?_)
      refine lv_ldc (v := 268435456) hx hb hown (hu _ u_1269) dX9_wear_36 ?_
      refine lv_istore_n (lv' := [(3, .int 268435456), (2, .int 0), (0, .ref md), (1, .int x)]) hx hb dX9_wear_38 rfl hl (by decide) rfl (fun ls hl => ?_)
      refine lv_iconst (v := 0) hx hb dX9_wear_39 (by decide) ?_
      refine lv_istore (lv' := [(4, .int 0), (3, .int 268435456), (2, .int 0), (0, .ref md), (1, .int x)]) hx hb dX9_wear_40 hl (by decide) rfl (fun ls hl => ?_)
      refine lv_iload hx hb dX9_wear_42 (lv_at hl 0 rfl) ?_
      refine lv_bipush (v := 24) hx hb dX9_wear_44 (by decide) ?_
      refine lv_icmp_ge (tgt := 113) hx hb dX9_wear_46 (by decide) (fun c_9 => absurd c_9 (by decide)) (fun c_9 => ?_)
      refine lv_aload_n hx hb dX9_wear_49 rfl (lv_at hl 3 rfl) ?_
      refine va_get (D := D) (ci := 9) (v := .ref m_all) (C := RX9) (T := TX9) (N := 25) hx hb hu in_X9 hown hK.1 hP 0 rfl rfl 1 (by decide) (hu _ u_1081) (fun _ h9 => h9) rfl dX9_wear_50 ?_
      refine lv_bipush (v := 31) hx hb dX9_wear_53 (by decide) ?_
      refine lv_iload hx hb dX9_wear_55 (lv_at hl 0 rfl) ?_
      refine lv_iadd hx hb dX9_wear_57 ?_
      refine tpi (y := 31) (by decide) ?_
      refine va_iald hx hb hK.1 hP 1 0 rfl rfl (vin_c _ _ rfl) dX9_wear_58 ?_
      refine tpi (y := 0) ((z_all _ (cl_lt (vin_c _ _ rfl))).trans (by decide +kernel)) ?_
      refine lv_iload_n hx hb dX9_wear_59 rfl (lv_at hl 2 rfl) ?_
      refine lv_icmp_le (tgt := 76) hx hb dX9_wear_60 (by decide) (fun c_10 => ?_) (fun c_10 => absurd (by decide) c_10)
      refine lv_iload_n hx hb dX9_wear_76 rfl (lv_at hl 2 rfl) ?_
      refine lv_istore_n (lv' := [(2, .int 0), (4, .int 0), (3, .int 268435456), (0, .ref md), (1, .int x)]) hx hb dX9_wear_77 rfl hl (by decide) rfl (fun ls hl => ?_)
      refine lv_aload_n hx hb dX9_wear_78 rfl (lv_at hl 3 rfl) ?_
      refine va_get (D := D) (ci := 9) (v := .ref m_all) (C := RX9) (T := TX9) (N := 25) hx hb hu in_X9 hown hK.1 hP 0 rfl rfl 1 (by decide) (hu _ u_1081) (fun _ h9 => h9) rfl dX9_wear_79 ?_
      refine lv_bipush (v := 31) hx hb dX9_wear_82 (by decide) ?_
      refine lv_iload hx hb dX9_wear_84 (lv_at hl 1 rfl) ?_
      refine lv_iadd hx hb dX9_wear_86 ?_
      refine tpi (y := 31) (by decide) ?_
      refine va_iald hx hb hK.1 hP 1 0 rfl rfl (vin_c _ _ rfl) dX9_wear_87 ?_
      refine tpi (y := 0) ((z_all _ (cl_lt (vin_c _ _ rfl))).trans (by decide +kernel)) ?_
      refine lv_iload_n hx hb dX9_wear_88 rfl (lv_at hl 2 rfl) ?_
      refine lv_icmp_ge (tgt := 105) hx hb dX9_wear_89 (by decide) (fun c_11 => absurd c_11 (by decide)) (fun c_11 => ?_)
      refine lv_aload_n hx hb dX9_wear_92 rfl (lv_at hl 3 rfl) ?_
      refine va_get (D := D) (ci := 9) (v := .ref m_all) (C := RX9) (T := TX9) (N := 25) hx hb hu in_X9 hown hK.1 hP 0 rfl rfl 1 (by decide) (hu _ u_1081) (fun _ h9 => h9) rfl dX9_wear_93 ?_
      refine lv_bipush (v := 31) hx hb dX9_wear_96 (by decide) ?_
      refine lv_iload hx hb dX9_wear_98 (lv_at hl 1 rfl) ?_
      refine lv_iadd hx hb dX9_wear_100 ?_
      refine tpi (y := 31) (by decide) ?_
      refine va_iald hx hb hK.1 hP 1 0 rfl rfl (vin_c _ _ rfl) dX9_wear_101 ?_
      refine tpi (y := 0) ((z_all _ (cl_lt (vin_c _ _ rfl))).trans (by decide +kernel)) ?_
      refine lv_goto (tgt := 106) hx hb dX9_wear_102 (by decide) ?_
      refine lv_istore_n (lv' := [(3, .int 0), (2, .int 0), (4, .int 0), (0, .ref md), (1, .int x)]) hx hb dX9_wear_106 rfl hl (by decide) rfl (fun ls hl => ?_)
      refine lv_iinc (v := 1) (lv' := [(4, .int 1), (3, .int 0), (2, .int 0), (0, .ref md), (1, .int x)]) hx hb dX9_wear_107 hl (k := 2) rfl (by decide) (by decide) rfl (fun ls hl => ?_)
      refine lv_goto (tgt := 42) hx hb dX9_wear_110 (by decide) ?_
      refine lv_iload hx hb dX9_wear_42 (lv_at hl 0 rfl) ?_
      refine lv_bipush (v := 24) hx hb dX9_wear_44 (by decide) ?_
      refine lv_icmp_ge (tgt := 113) hx hb dX9_wear_46 (by decide) (fun c_12 => absurd c_12 (by decide)) (fun c_12 => ?_)
      refine lv_aload_n hx hb dX9_wear_49 rfl (lv_at hl 3 rfl) ?_
      refine va_get (D := D) (ci := 9) (v := .ref m_all) (C := RX9) (T := TX9) (N := 25) hx hb hu in_X9 hown hK.1 hP 0 rfl rfl 1 (by decide) (hu _ u_1081) (fun _ h9 => h9) rfl dX9_wear_50 ?_
      refine lv_bipush (v := 31) hx hb dX9_wear_53 (by decide) ?_
      refine lv_iload hx hb dX9_wear_55 (lv_at hl 0 rfl) ?_
      refine lv_iadd hx hb dX9_wear_57 ?_
      refine tpi (y := 32) (by decide) ?_
      refine va_iald hx hb hK.1 hP 1 0 rfl rfl (vin_c _ _ rfl) dX9_wear_58 ?_
      refine tpi (y := 0) ((z_all _ (cl_lt (vin_c _ _ rfl))).trans (by decide +kernel)) ?_
      refine lv_iload_n hx hb dX9_wear_59 rfl (lv_at hl 2 rfl) ?_
      refine lv_icmp_le (tgt := 76) hx hb dX9_wear_60 (by decide) (fun c_13 => ?_) (fun c_13 => absurd (by decide) c_13)
      refine lv_iload_n hx hb dX9_wear_76 rfl (lv_at hl 2 rfl) ?_
      refine lv_istore_n (lv' := [(2, .int 0), (4, .int 1), (3, .int 0), (0, .ref md), (1, .int x)]) hx hb dX9_wear_77 rfl hl (by decide) rfl (fun ls hl => ?_)
      refine lv_aload_n hx hb dX9_wear_78 rfl (lv_at hl 3 rfl) ?_
      refine va_get (D := D) (ci := 9) (v := .ref m_all) (C := RX9) (T := TX9) (N := 25) hx hb hu in_X9 hown hK.1 hP 0 rfl rfl 1 (by decide) (hu _ u_1081) (fun _ h9 => h9) rfl dX9_wear_79 ?_
      refine lv_bipush (v := 31) hx hb dX9_wear_82 (by decide) ?_
      refine lv_iload hx hb dX9_wear_84 (lv_at hl 1 rfl) ?_
      refine lv_iadd hx hb dX9_wear_86 ?_
      refine tpi (y := 32) (by decide) ?_
      refine va_iald hx hb hK.1 hP 1 0 rfl rfl (vin_c _ _ rfl) dX9_wear_87 ?_
      refine tpi (y := 0) ((z_all _ (cl_lt (vin_c _ _ rfl))).trans (by decide +kernel)) ?_
      refine lv_iload_n hx hb dX9_wear_88 rfl (lv_at hl 2 rfl) ?_
      refine lv_icmp_ge (tgt := 105) hx hb dX9_wear_89 (by decide) (fun c_14 => ?_) (fun c_14 => absurd (by decide) c_14)
      refine lv_iload_n hx hb dX9_wear_105 rfl (lv_at hl 2 rfl) ?_
      refine lv_istore_n (lv' := [(3, .int 0), (2, .int 0), (4, .int 1), (0, .ref md), (1, .int x)]) hx hb dX9_wear_106 rfl hl (by decide) rfl (fun ls hl => ?_)
      refine lv_iinc (v := 2) (lv' := [(4, .int 2), (3, .int 0), (2, .int 0), (0, .ref md), (1, .int x)]) hx hb dX9_wear_107 hl (k := 2) rfl (by decide) (by decide) rfl (fun ls hl => ?_)
      refine lv_goto (tgt := 42) hx hb dX9_wear_110 (by decide) ?_
      refine lv_iload hx hb dX9_wear_42 (lv_at hl 0 rfl) ?_
      refine lv_bipush (v := 24) hx hb dX9_wear_44 (by decide) ?_
      refine lv_icmp_ge (tgt := 113) hx hb dX9_wear_46 (by decide) (fun c_15 => absurd c_15 (by decide)) (fun c_15 => ?_)
      refine lv_aload_n hx hb dX9_wear_49 rfl (lv_at hl 3 rfl) ?_
      refine va_get (D := D) (ci := 9) (v := .ref m_all) (C := RX9) (T := TX9) (N := 25) hx hb hu in_X9 hown hK.1 hP 0 rfl rfl 1 (by decide) (hu _ u_1081) (fun _ h9 => h9) rfl dX9_wear_50 ?_
      refine lv_bipush (v := 31) hx hb dX9_wear_53 (by decide) ?_
      refine lv_iload hx hb dX9_wear_55 (lv_at hl 0 rfl) ?_
      refine lv_iadd hx hb dX9_wear_57 ?_
      refine tpi (y := 33) (by decide) ?_
      refine va_iald hx hb hK.1 hP 1 0 rfl rfl (vin_c _ _ rfl) dX9_wear_58 ?_
      refine tpi (y := 0) ((z_all _ (cl_lt (vin_c _ _ rfl))).trans (by decide +kernel)) ?_
      refine lv_iload_n hx hb dX9_wear_59 rfl (lv_at hl 2 rfl) ?_
      refine lv_icmp_le (tgt := 76) hx hb dX9_wear_60 (by decide) (fun c_16 => ?_) (fun c_16 => absurd (by decide) c_16)
      refine lv_iload_n hx hb dX9_wear_76 rfl (lv_at hl 2 rfl) ?_
      refine lv_istore_n (lv' := [(2, .int 0), (4, .int 2), (3, .int 0), (0, .ref md), (1, .int x)]) hx hb dX9_wear_77 rfl hl (by decide) rfl (fun ls hl => ?_)
      refine lv_aload_n hx hb dX9_wear_78 rfl (lv_at hl 3 rfl) ?_
      refine va_get (D := D) (ci := 9) (v := .ref m_all) (C := RX9) (T := TX9) (N := 25) hx hb hu in_X9 hown hK.1 hP 0 rfl rfl 1 (by decide) (hu _ u_1081) (fun _ h9 => h9) rfl dX9_wear_79 ?_
      refine lv_bipush (v := 31) hx hb dX9_wear_82 (by decide) ?_
      refine lv_iload hx hb dX9_wear_84 (lv_at hl 1 rfl) ?_
      refine lv_iadd hx hb dX9_wear_86 ?_
      refine tpi (y := 33) (by decide) ?_
      refine va_iald hx hb hK.1 hP 1 0 rfl rfl (vin_c _ _ rfl) dX9_wear_87 ?_
      refine tpi (y := 0) ((z_all _ (cl_lt (vin_c _ _ rfl))).trans (by decide +kernel)) ?_
      refine lv_iload_n hx hb dX9_wear_88 rfl (lv_at hl 2 rfl) ?_
      refine lv_icmp_ge (tgt := 105) hx hb dX9_wear_89 (by decide) (fun c_17 => ?_) (fun c_17 => absurd (by decide) c_17)
      refine lv_iload_n hx hb dX9_wear_105 rfl (lv_at hl 2 rfl) ?_
      refine lv_istore_n (lv' := [(3, .int 0), (2, .int 0), (4, .int 2), (0, .ref md), (1, .int x)]) hx hb dX9_wear_106 rfl hl (by decide) rfl (fun ls hl => ?_)
      refine lv_iinc (v := 3) (lv' := [(4, .int 3), (3, .int 0), (2, .int 0), (0, .ref md), (1, .int x)]) hx hb dX9_wear_107 hl (k := 2) rfl (by decide) (by decide) rfl (fun ls hl => ?_)
      refine lv_goto (tgt := 42) hx hb dX9_wear_110 (by decide) ?_
      refine lv_iload hx hb dX9_wear_42 (lv_at hl 0 rfl) ?_
      refine lv_bipush (v := 24) hx hb dX9_wear_44 (by decide) ?_
      refine lv_icmp_ge (tgt := 113) hx hb dX9_wear_46 (by decide) (fun c_18 => absurd c_18 (by decide)) (fun c_18 => ?_)
      refine lv_aload_n hx hb dX9_wear_49 rfl (lv_at hl 3 rfl) ?_
      refine va_get (D := D) (ci := 9) (v := .ref m_all) (C := RX9) (T := TX9) (N := 25) hx hb hu in_X9 hown hK.1 hP 0 rfl rfl 1 (by decide) (hu _ u_1081) (fun _ h9 => h9) rfl dX9_wear_50 ?_
      refine lv_bipush (v := 31) hx hb dX9_wear_53 (by decide) ?_
      refine lv_iload hx hb dX9_wear_55 (lv_at hl 0 rfl) ?_
      refine lv_iadd hx hb dX9_wear_57 ?_
      refine tpi (y := 34) (by decide) ?_
      refine va_iald hx hb hK.1 hP 1 0 rfl rfl (vin_c _ _ rfl) dX9_wear_58 ?_
      refine tpi (y := 0) ((z_all _ (cl_lt (vin_c _ _ rfl))).trans (by decide +kernel)) ?_
      refine lv_iload_n hx hb dX9_wear_59 rfl (lv_at hl 2 rfl) ?_
      refine lv_icmp_le (tgt := 76) hx hb dX9_wear_60 (by decide) (fun c_19 => ?_) (fun c_19 => absurd (by decide) c_19)
      refine lv_iload_n hx hb dX9_wear_76 rfl (lv_at hl 2 rfl) ?_
      refine lv_istore_n (lv' := [(2, .int 0), (4, .int 3), (3, .int 0), (0, .ref md), (1, .int x)]) hx hb dX9_wear_77 rfl hl (by decide) rfl (fun ls hl => ?_)
      refine lv_aload_n hx hb dX9_wear_78 rfl (lv_at hl 3 rfl) ?_
      refine va_get (D := D) (ci := 9) (v := .ref m_all) (C := RX9) (T := TX9) (N := 25) hx hb hu in_X9 hown hK.1 hP 0 rfl rfl 1 (by decide) (hu _ u_1081) (fun _ h9 => h9) rfl dX9_wear_79 ?_
      refine lv_bipush (v := 31) hx hb dX9_wear_82 (by decide) ?_
      refine lv_iload hx hb dX9_wear_84 (lv_at hl 1 rfl) ?_
      refine lv_iadd hx hb dX9_wear_86 ?_
      refine tpi (y := 34) (by decide) ?_
      refine va_iald hx hb hK.1 hP 1 0 rfl rfl (vin_c _ _ rfl) dX9_wear_87 ?_
      refine tpi (y := 0) ((z_all _ (cl_lt (vin_c _ _ rfl))).trans (by decide +kernel)) ?_
      refine lv_iload_n hx hb dX9_wear_88 rfl (lv_at hl 2 rfl) ?_
      refine lv_icmp_ge (tgt := 105) hx hb dX9_wear_89 (by decide) (fun c_20 => ?_) (fun c_20 => absurd (by decide) c_20)
      refine lv_iload_n hx hb dX9_wear_105 rfl (lv_at hl 2 rfl) ?_
      refine lv_istore_n (lv' := [(3, .int 0), (2, .int 0), (4, .int 3), (0, .ref md), (1, .int x)]) hx hb dX9_wear_106 rfl hl (by decide) rfl (fun ls hl => ?_)
      refine lv_iinc (v := 4) (lv' := [(4, .int 4), (3, .int 0), (2, .int 0), (0, .ref md), (1, .int x)]) hx hb dX9_wear_107 hl (k := 2) rfl (by decide) (by decide) rfl (fun ls hl => ?_)
      refine lv_goto (tgt := 42) hx hb dX9_wear_110 (by decide) ?_
      refine lv_iload hx hb dX9_wear_42 (lv_at hl 0 rfl) ?_
      refine lv_bipush (v := 24) hx hb dX9_wear_44 (by decide) ?_
      refine lv_icmp_ge (tgt := 113) hx hb dX9_wear_46 (by decide) (fun c_21 => absurd c_21 (by decide)) (fun c_21 => ?_)
      refine lv_aload_n hx hb dX9_wear_49 rfl (lv_at hl 3 rfl) ?_
      refine va_get (D := D) (ci := 9) (v := .ref m_all) (C := RX9) (T := TX9) (N := 25) hx hb hu in_X9 hown hK.1 hP 0 rfl rfl 1 (by decide) (hu _ u_1081) (fun _ h9 => h9) rfl dX9_wear_50 ?_
      refine lv_bipush (v := 31) hx hb dX9_wear_53 (by decide) ?_
      refine lv_iload hx hb dX9_wear_55 (lv_at hl 0 rfl) ?_
      refine lv_iadd hx hb dX9_wear_57 ?_
      refine tpi (y := 35) (by decide) ?_
      refine va_iald hx hb hK.1 hP 1 0 rfl rfl (vin_c _ _ rfl) dX9_wear_58 ?_
      refine tpi (y := 0) ((z_all _ (cl_lt (vin_c _ _ rfl))).trans (by decide +kernel)) ?_
      refine lv_iload_n hx hb dX9_wear_59 rfl (lv_at hl 2 rfl) ?_
      refine lv_icmp_le (tgt := 76) hx hb dX9_wear_60 (by decide) (fun c_22 => ?_) (fun c_22 => absurd (by decide) c_22)
      refine lv_iload_n hx hb dX9_wear_76 rfl (lv_at hl 2 rfl) ?_
      refine lv_istore_n (lv' := [(2, .int 0), (4, .int 4), (3, .int 0), (0, .ref md), (1, .int x)]) hx hb dX9_wear_77 rfl hl (by decide) rfl (fun ls hl => ?_)
      refine lv_aload_n hx hb dX9_wear_78 rfl (lv_at hl 3 rfl) ?_
      refine va_get (D := D) (ci := 9) (v := .ref m_all) (C := RX9) (T := TX9) (N := 25) hx hb hu in_X9 hown hK.1 hP 0 rfl rfl 1 (by decide) (hu _ u_1081) (fun _ h9 => h9) rfl dX9_wear_79 ?_
      refine lv_bipush (v := 31) hx hb dX9_wear_82 (by decide) ?_
      refine lv_iload hx hb dX9_wear_84 (lv_at hl 1 rfl) ?_
      refine lv_iadd hx hb dX9_wear_86 ?_
      refine tpi (y := 35) (by decide) ?_
      refine va_iald hx hb hK.1 hP 1 0 rfl rfl (vin_c _ _ rfl) dX9_wear_87 ?_
      refine tpi (y := 0) ((z_all _ (cl_lt (vin_c _ _ rfl))).trans (by decide +kernel)) ?_
      refine lv_iload_n hx hb dX9_wear_88 rfl (lv_at hl 2 rfl) ?_
      refine lv_icmp_ge (tgt := 105) hx hb dX9_wear_89 (by decide) (fun c_23 => ?_) (fun c_23 => absurd (by decide) c_23)
      refine lv_iload_n hx hb dX9_wear_105 rfl (lv_at hl 2 rfl) ?_
      refine lv_istore_n (lv' := [(3, .int 0), (2, .int 0), (4, .int 4), (0, .ref md), (1, .int x)]) hx hb dX9_wear_106 rfl hl (by decide) rfl (fun ls hl => ?_)
      refine lv_iinc (v := 5) (lv' := [(4, .int 5), (3, .int 0), (2, .int 0), (0, .ref md), (1, .int x)]) hx hb dX9_wear_107 hl (k := 2) rfl (by decide) (by decide) rfl (fun ls hl => ?_)
      refine lv_goto (tgt := 42) hx hb dX9_wear_110 (by decide) ?_
      refine lv_iload hx hb dX9_wear_42 (lv_at hl 0 rfl) ?_
      refine lv_bipush (v := 24) hx hb dX9_wear_44 (by decide) ?_
      refine lv_icmp_ge (tgt := 113) hx hb dX9_wear_46 (by decide) (fun c_24 => absurd c_24 (by decide)) (fun c_24 => ?_)
      refine lv_aload_n hx hb dX9_wear_49 rfl (lv_at hl 3 rfl) ?_
      refine va_get (D := D) (ci := 9) (v := .ref m_all) (C := RX9) (T := TX9) (N := 25) hx hb hu in_X9 hown hK.1 hP 0 rfl rfl 1 (by decide) (hu _ u_1081) (fun _ h9 => h9) rfl dX9_wear_50 ?_
      refine lv_bipush (v := 31) hx hb dX9_wear_53 (by decide) ?_
      refine lv_iload hx hb dX9_wear_55 (lv_at hl 0 rfl) ?_
      refine lv_iadd hx hb dX9_wear_57 ?_
      refine tpi (y := 36) (by decide) ?_
      refine va_iald hx hb hK.1 hP 1 0 rfl rfl (vin_c _ _ rfl) dX9_wear_58 ?_
      refine tpi (y := 0) ((z_all _ (cl_lt (vin_c _ _ rfl))).trans (by decide +kernel)) ?_
      refine lv_iload_n hx hb dX9_wear_59 rfl (lv_at hl 2 rfl) ?_
      refine lv_icmp_le (tgt := 76) hx hb dX9_wear_60 (by decide) (fun c_25 => ?_) (fun c_25 => absurd (by decide) c_25)
      refine lv_iload_n hx hb dX9_wear_76 rfl (lv_at hl 2 rfl) ?_
      refine lv_istore_n (lv' := [(2, .int 0), (4, .int 5), (3, .int 0), (0, .ref md), (1, .int x)]) hx hb dX9_wear_77 rfl hl (by decide) rfl (fun ls hl => ?_)
      refine lv_aload_n hx hb dX9_wear_78 rfl (lv_at hl 3 rfl) ?_
      refine va_get (D := D) (ci := 9) (v := .ref m_all) (C := RX9) (T := TX9) (N := 25) hx hb hu in_X9 hown hK.1 hP 0 rfl rfl 1 (by decide) (hu _ u_1081) (fun _ h9 => h9) rfl dX9_wear_79 ?_
      refine lv_bipush (v := 31) hx hb dX9_wear_82 (by decide) ?_
      refine lv_iload hx hb dX9_wear_84 (lv_at hl 1 rfl) ?_
      refine lv_iadd hx hb dX9_wear_86 ?_
      refine tpi (y := 36) (by decide) ?_
      refine va_iald hx hb hK.1 hP 1 0 rfl rfl (vin_c _ _ rfl) dX9_wear_87 ?_
      refine tpi (y := 0) ((z_all _ (cl_lt (vin_c _ _ rfl))).trans (by decide +kernel)) ?_
      refine lv_iload_n hx hb dX9_wear_88 rfl (lv_at hl 2 rfl) ?_
      refine lv_icmp_ge (tgt := 105) hx hb dX9_wear_89 (by decide) (fun c_26 => ?_) (fun c_26 => absurd (by decide) c_26)
      refine lv_iload_n hx hb dX9_wear_105 rfl (lv_at hl 2 rfl) ?_
      refine lv_istore_n (lv' := [(3, .int 0), (2, .int 0), (4, .int 5), (0, .ref md), (1, .int x)]) hx hb dX9_wear_106 rfl hl (by decide) rfl (fun ls hl => ?_)
      refine lv_iinc (v := 6) (lv' := [(4, .int 6), (3, .int 0), (2, .int 0), (0, .ref md), (1, .int x)]) hx hb dX9_wear_107 hl (k := 2) rfl (by decide) (by decide) rfl (fun ls hl => ?_)
      refine lv_goto (tgt := 42) hx hb dX9_wear_110 (by decide) ?_
      refine lv_iload hx hb dX9_wear_42 (lv_at hl 0 rfl) ?_
      refine lv_bipush (v := 24) hx hb dX9_wear_44 (by decide) ?_
      refine lv_icmp_ge (tgt := 113) hx hb dX9_wear_46 (by decide) (fun c_27 => absurd c_27 (by decide)) (fun c_27 => ?_)
      refine lv_aload_n hx hb dX9_wear_49 rfl (lv_at hl 3 rfl) ?_
      refine va_get (D := D) (ci := 9) (v := .ref m_all) (C := RX9) (T := TX9) (N := 25) hx hb hu in_X9 hown hK.1 hP 0 rfl rfl 1 (by decide) (hu _ u_1081) (fun _ h9 => h9) rfl dX9_wear_50 ?_
      refine lv_bipush (v := 31) hx hb dX9_wear_53 (by decide) ?_
      refine lv_iload hx hb dX9_wear_55 (lv_at hl 0 rfl) ?_
      refine lv_iadd hx hb dX9_wear_57 ?_
      refine tpi (y := 37) (by decide) ?_
      refine va_iald hx hb hK.1 hP 1 0 rfl rfl (vin_c _ _ rfl) dX9_wear_58 ?_
      refine tpi (y := 0) ((z_all _ (cl_lt (vin_c _ _ rfl))).trans (by decide +kernel)) ?_
      refine lv_iload_n hx hb dX9_wear_59 rfl (lv_at hl 2 rfl) ?_
      refine lv_icmp_le (tgt := 76) hx hb dX9_wear_60 (by decide) (fun c_28 => ?_) (fun c_28 => absurd (by decide) c_28)
      refine lv_iload_n hx hb dX9_wear_76 rfl (lv_at hl 2 rfl) ?_
      refine lv_istore_n (lv' := [(2, .int 0), (4, .int 6), (3, .int 0), (0, .ref md), (1, .int x)]) hx hb dX9_wear_77 rfl hl (by decide) rfl (fun ls hl => ?_)
      refine lv_aload_n hx hb dX9_wear_78 rfl (lv_at hl 3 rfl) ?_
      refine va_get (D := D) (ci := 9) (v := .ref m_all) (C := RX9) (T := TX9) (N := 25) hx hb hu in_X9 hown hK.1 hP 0 rfl rfl 1 (by decide) (hu _ u_1081) (fun _ h9 => h9) rfl dX9_wear_79 ?_
      refine lv_bipush (v := 31) hx hb dX9_wear_82 (by decide) ?_
      refine lv_iload hx hb dX9_wear_84 (lv_at hl 1 rfl) ?_
      refine lv_iadd hx hb dX9_wear_86 ?_
      refine tpi (y := 37) (by decide) ?_
      refine va_iald hx hb hK.1 hP 1 0 rfl rfl (vin_c _ _ rfl) dX9_wear_87 ?_
      refine tpi (y := 0) ((z_all _ (cl_lt (vin_c _ _ rfl))).trans (by decide +kernel)) ?_
      refine lv_iload_n hx hb dX9_wear_88 rfl (lv_at hl 2 rfl) ?_
      refine lv_icmp_ge (tgt := 105) hx hb dX9_wear_89 (by decide) (fun c_29 => ?_) (fun c_29 => absurd (by decide) c_29)
      refine lv_iload_n hx hb dX9_wear_105 rfl (lv_at hl 2 rfl) ?_
      refine lv_istore_n (lv' := [(3, .int 0), (2, .int 0), (4, .int 6), (0, .ref md), (1, .int x)]) hx hb dX9_wear_106 rfl hl (by decide) rfl (fun ls hl => ?_)
      refine lv_iinc (v := 7) (lv' := [(4, .int 7), (3, .int 0), (2, .int 0), (0, .ref md), (1, .int x)]) hx hb dX9_wear_107 hl (k := 2) rfl (by decide) (by decide) rfl (fun ls hl => ?_)
      refine lv_goto (tgt := 42) hx hb dX9_wear_110 (by decide) ?_
      refine lv_iload hx hb dX9_wear_42 (lv_at hl 0 rfl) ?_
      refine lv_bipush (v := 24) hx hb dX9_wear_44 (by decide) ?_
      refine lv_icmp_ge (tgt := 113) hx hb dX9_wear_46 (by decide) (fun c_30 => absurd c_30 (by decide)) (fun c_30 => ?_)
      refine lv_aload_n hx hb dX9_wear_49 rfl (lv_at hl 3 rfl) ?_
      refine va_get (D := D) (ci := 9) (v := .ref m_all) (C := RX9) (T := TX9) (N := 25) hx hb hu in_X9 hown hK.1 hP 0 rfl rfl 1 (by decide) (hu _ u_1081) (fun _ h9 => h9) rfl dX9_wear_50 ?_
      refine lv_bipush (v := 31) hx hb dX9_wear_53 (by decide) ?_
      refine lv_iload hx hb dX9_wear_55 (lv_at hl 0 rfl) ?_
      refine lv_iadd hx hb dX9_wear_57 ?_
      refine tpi (y := 38) (by decide) ?_
      refine va_iald hx hb hK.1 hP 1 0 rfl rfl (vin_c _ _ rfl) dX9_wear_58 ?_
      refine tpi (y := 0) ((z_all _ (cl_lt (vin_c _ _ rfl))).trans (by decide +kernel)) ?_
      refine lv_iload_n hx hb dX9_wear_59 rfl (lv_at hl 2 rfl) ?_
      refine lv_icmp_le (tgt := 76) hx hb dX9_wear_60 (by decide) (fun c_31 => ?_) (fun c_31 => absurd (by decide) c_31)
      refine lv_iload_n hx hb dX9_wear_76 rfl (lv_at hl 2 rfl) ?_
      refine lv_istore_n (lv' := [(2, .int 0), (4, .int 7), (3, .int 0), (0, .ref md), (1, .int x)]) hx hb dX9_wear_77 rfl hl (by decide) rfl (fun ls hl => ?_)
      refine lv_aload_n hx hb dX9_wear_78 rfl (lv_at hl 3 rfl) ?_
      refine va_get (D := D) (ci := 9) (v := .ref m_all) (C := RX9) (T := TX9) (N := 25) hx hb hu in_X9 hown hK.1 hP 0 rfl rfl 1 (by decide) (hu _ u_1081) (fun _ h9 => h9) rfl dX9_wear_79 ?_
      refine lv_bipush (v := 31) hx hb dX9_wear_82 (by decide) ?_
      refine lv_iload hx hb dX9_wear_84 (lv_at hl 1 rfl) ?_
      refine lv_iadd hx hb dX9_wear_86 ?_
      refine tpi (y := 38) (by decide) ?_
      refine va_iald hx hb hK.1 hP 1 0 rfl rfl (vin_c _ _ rfl) dX9_wear_87 ?_
      refine tpi (y := 0) ((z_all _ (cl_lt (vin_c _ _ rfl))).trans (by decide +kernel)) ?_
      refine lv_iload_n hx hb dX9_wear_88 rfl (lv_at hl 2 rfl) ?_
      refine lv_icmp_ge (tgt := 105) hx hb dX9_wear_89 (by decide) (fun c_32 => ?_) (fun c_32 => absurd (by decide) c_32)
      refine lv_iload_n hx hb dX9_wear_105 rfl (lv_at hl 2 rfl) ?_
      refine lv_istore_n (lv' := [(3, .int 0), (2, .int 0), (4, .int 7), (0, .ref md), (1, .int x)]) hx hb dX9_wear_106 rfl hl (by decide) rfl (fun ls hl => ?_)
      refine lv_iinc (v := 8) (lv' := [(4, .int 8), (3, .int 0), (2, .int 0), (0, .ref md), (1, .int x)]) hx hb dX9_wear_107 hl (k := 2) rfl (by decide) (by decide) rfl (fun ls hl => ?_)
      refine lv_goto (tgt := 42) hx hb dX9_wear_110 (by decide) ?_
      refine lv_iload hx hb dX9_wear_42 (lv_at hl 0 rfl) ?_
      refine lv_bipush (v := 24) hx hb dX9_wear_44 (by decide) ?_
      refine lv_icmp_ge (tgt := 113) hx hb dX9_wear_46 (by decide) (fun c_33 => absurd c_33 (by decide)) (fun c_33 => ?_)
      refine lv_aload_n hx hb dX9_wear_49 rfl (lv_at hl 3 rfl) ?_
      refine va_get (D := D) (ci := 9) (v := .ref m_all) (C := RX9) (T := TX9) (N := 25) hx hb hu in_X9 hown hK.1 hP 0 rfl rfl 1 (by decide) (hu _ u_1081) (fun _ h9 => h9) rfl dX9_wear_50 ?_
      refine lv_bipush (v := 31) hx hb dX9_wear_53 (by decide) ?_
      refine lv_iload hx hb dX9_wear_55 (lv_at hl 0 rfl) ?_
      refine lv_iadd hx hb dX9_wear_57 ?_
      refine tpi (y := 39) (by decide) ?_
      refine va_iald hx hb hK.1 hP 1 0 rfl rfl (vin_c _ _ rfl) dX9_wear_58 ?_
      refine tpi (y := 0) ((z_all _ (cl_lt (vin_c _ _ rfl))).trans (by decide +kernel)) ?_
      refine lv_iload_n hx hb dX9_wear_59 rfl (lv_at hl 2 rfl) ?_
      refine lv_icmp_le (tgt := 76) hx hb dX9_wear_60 (by decide) (fun c_34 => ?_) (fun c_34 => absurd (by decide) c_34)
      refine lv_iload_n hx hb dX9_wear_76 rfl (lv_at hl 2 rfl) ?_
      refine lv_istore_n (lv' := [(2, .int 0), (4, .int 8), (3, .int 0), (0, .ref md), (1, .int x)]) hx hb dX9_wear_77 rfl hl (by decide) rfl (fun ls hl => ?_)
      refine lv_aload_n hx hb dX9_wear_78 rfl (lv_at hl 3 rfl) ?_
      refine va_get (D := D) (ci := 9) (v := .ref m_all) (C := RX9) (T := TX9) (N := 25) hx hb hu in_X9 hown hK.1 hP 0 rfl rfl 1 (by decide) (hu _ u_1081) (fun _ h9 => h9) rfl dX9_wear_79 ?_
      refine lv_bipush (v := 31) hx hb dX9_wear_82 (by decide) ?_
      refine lv_iload hx hb dX9_wear_84 (lv_at hl 1 rfl) ?_
      refine lv_iadd hx hb dX9_wear_86 ?_
      refine tpi (y := 39) (by decide) ?_
      refine va_iald hx hb hK.1 hP 1 0 rfl rfl (vin_c _ _ rfl) dX9_wear_87 ?_
      refine tpi (y := 0) ((z_all _ (cl_lt (vin_c _ _ rfl))).trans (by decide +kernel)) ?_
      refine lv_iload_n hx hb dX9_wear_88 rfl (lv_at hl 2 rfl) ?_
      refine lv_icmp_ge (tgt := 105) hx hb dX9_wear_89 (by decide) (fun c_35 => ?_) (fun c_35 => absurd (by decide) c_35)
      refine lv_iload_n hx hb dX9_wear_105 rfl (lv_at hl 2 rfl) ?_
      refine lv_istore_n (lv' := [(3, .int 0), (2, .int 0), (4, .int 8), (0, .ref md), (1, .int x)]) hx hb dX9_wear_106 rfl hl (by decide) rfl (fun ls hl => ?_)
      refine lv_iinc (v := 9) (lv' := [(4, .int 9), (3, .int 0), (2, .int 0), (0, .ref md), (1, .int x)]) hx hb dX9_wear_107 hl (k := 2) rfl (by decide) (by decide) rfl (fun ls hl => ?_)
      refine lv_goto (tgt := 42) hx hb dX9_wear_110 (by decide) ?_
      refine lv_iload hx hb dX9_wear_42 (lv_at hl 0 rfl) ?_
      refine lv_bipush (v := 24) hx hb dX9_wear_44 (by decide) ?_
      refine lv_icmp_ge (tgt := 113) hx hb dX9_wear_46 (by decide) (fun c_36 => absurd c_36 (by decide)) (fun c_36 => ?_)
      refine lv_aload_n hx hb dX9_wear_49 rfl (lv_at hl 3 rfl) ?_
      refine va_get (D := D) (ci := 9) (v := .ref m_all) (C := RX9) (T := TX9) (N := 25) hx hb hu in_X9 hown hK.1 hP 0 rfl rfl 1 (by decide) (hu _ u_1081) (fun _ h9 => h9) rfl dX9_wear_50 ?_
      refine lv_bipush (v := 31) hx hb dX9_wear_53 (by decide) ?_
      refine lv_iload hx hb dX9_wear_55 (lv_at hl 0 rfl) ?_
      refine lv_iadd hx hb dX9_wear_57 ?_
      refine tpi (y := 40) (by decide) ?_
      refine va_iald hx hb hK.1 hP 1 0 rfl rfl (vin_c _ _ rfl) dX9_wear_58 ?_
      refine tpi (y := 0) ((z_all _ (cl_lt (vin_c _ _ rfl))).trans (by decide +kernel)) ?_
      refine lv_iload_n hx hb dX9_wear_59 rfl (lv_at hl 2 rfl) ?_
      refine lv_icmp_le (tgt := 76) hx hb dX9_wear_60 (by decide) (fun c_37 => ?_) (fun c_37 => absurd (by decide) c_37)
      refine lv_iload_n hx hb dX9_wear_76 rfl (lv_at hl 2 rfl) ?_
      refine lv_istore_n (lv' := [(2, .int 0), (4, .int 9), (3, .int 0), (0, .ref md), (1, .int x)]) hx hb dX9_wear_77 rfl hl (by decide) rfl (fun ls hl => ?_)
      refine lv_aload_n hx hb dX9_wear_78 rfl (lv_at hl 3 rfl) ?_
      refine va_get (D := D) (ci := 9) (v := .ref m_all) (C := RX9) (T := TX9) (N := 25) hx hb hu in_X9 hown hK.1 hP 0 rfl rfl 1 (by decide) (hu _ u_1081) (fun _ h9 => h9) rfl dX9_wear_79 ?_
      refine lv_bipush (v := 31) hx hb dX9_wear_82 (by decide) ?_
      refine lv_iload hx hb dX9_wear_84 (lv_at hl 1 rfl) ?_
      refine lv_iadd hx hb dX9_wear_86 ?_
      refine tpi (y := 40) (by decide) ?_
      refine va_iald hx hb hK.1 hP 1 0 rfl rfl (vin_c _ _ rfl) dX9_wear_87 ?_
      refine tpi (y := 0) ((z_all _ (cl_lt (vin_c _ _ rfl))).trans (by decide +kernel)) ?_
      refine lv_iload_n hx hb dX9_wear_88 rfl (lv_at hl 2 rfl) ?_
      refine lv_icmp_ge (tgt := 105) hx hb dX9_wear_89 (by decide) (fun c_38 => ?_) (fun c_38 => absurd (by decide) c_38)
      refine lv_iload_n hx hb dX9_wear_105 rfl (lv_at hl 2 rfl) ?_
      refine lv_istore_n (lv' := [(3, .int 0), (2, .int 0), (4, .int 9), (0, .ref md), (1, .int x)]) hx hb dX9_wear_106 rfl hl (by decide) rfl (fun ls hl => ?_)
      refine lv_iinc (v := 10) (lv' := [(4, .int 10), (3, .int 0), (2, .int 0), (0, .ref md), (1, .int x)]) hx hb dX9_wear_107 hl (k := 2) rfl (by decide) (by decide) rfl (fun ls hl => ?_)
      refine lv_goto (tgt := 42) hx hb dX9_wear_110 (by decide) ?_
      refine lv_iload hx hb dX9_wear_42 (lv_at hl 0 rfl) ?_
      refine lv_bipush (v := 24) hx hb dX9_wear_44 (by decide) ?_
      refine lv_icmp_ge (tgt := 113) hx hb dX9_wear_46 (by decide) (fun c_39 => absurd c_39 (by decide)) (fun c_39 => ?_)
      refine lv_aload_n hx hb dX9_wear_49 rfl (lv_at hl 3 rfl) ?_
      refine va_get (D := D) (ci := 9) (v := .ref m_all) (C := RX9) (T := TX9) (N := 25) hx hb hu in_X9 hown hK.1 hP 0 rfl rfl 1 (by decide) (hu _ u_1081) (fun _ h9 => h9) rfl dX9_wear_50 ?_
      refine lv_bipush (v := 31) hx hb dX9_wear_53 (by decide) ?_
      refine lv_iload hx hb dX9_wear_55 (lv_at hl 0 rfl) ?_
      refine lv_iadd hx hb dX9_wear_57 ?_
      refine tpi (y := 41) (by decide) ?_
      refine va_iald hx hb hK.1 hP 1 0 rfl rfl (vin_c _ _ rfl) dX9_wear_58 ?_
      refine tpi (y := 0) ((z_all _ (cl_lt (vin_c _ _ rfl))).trans (by decide +kernel)) ?_
      refine lv_iload_n hx hb dX9_wear_59 rfl (lv_at hl 2 rfl) ?_
      refine lv_icmp_le (tgt := 76) hx hb dX9_wear_60 (by decide) (fun c_40 => ?_) (fun c_40 => absurd (by decide) c_40)
      refine lv_iload_n hx hb dX9_wear_76 rfl (lv_at hl 2 rfl) ?_
      refine lv_istore_n (lv' := [(2, .int 0), (4, .int 10), (3, .int 0), (0, .ref md), (1, .int x)]) hx hb dX9_wear_77 rfl hl (by decide) rfl (fun ls hl => ?_)
      refine lv_aload_n hx hb dX9_wear_78 rfl (lv_at hl 3 rfl) ?_
      refine va_get (D := D) (ci := 9) (v := .ref m_all) (C := RX9) (T := TX9) (N := 25) hx hb hu in_X9 hown hK.1 hP 0 rfl rfl 1 (by decide) (hu _ u_1081) (fun _ h9 => h9) rfl dX9_wear_79 ?_
      refine lv_bipush (v := 31) hx hb dX9_wear_82 (by decide) ?_
      refine lv_iload hx hb dX9_wear_84 (lv_at hl 1 rfl) ?_
      refine lv_iadd hx hb dX9_wear_86 ?_
      refine tpi (y := 41) (by decide) ?_
      refine va_iald hx hb hK.1 hP 1 0 rfl rfl (vin_c _ _ rfl) dX9_wear_87 ?_
      refine tpi (y := 0) ((z_all _ (cl_lt (vin_c _ _ rfl))).trans (by decide +kernel)) ?_
      refine lv_iload_n hx hb dX9_wear_88 rfl (lv_at hl 2 rfl) ?_
      refine lv_icmp_ge (tgt := 105) hx hb dX9_wear_89 (by decide) (fun c_41 => ?_) (fun c_41 => absurd (by decide) c_41)
      refine lv_iload_n hx hb dX9_wear_105 rfl (lv_at hl 2 rfl) ?_
      refine lv_istore_n (lv' := [(3, .int 0), (2, .int 0), (4, .int 10), (0, .ref md), (1, .int x)]) hx hb dX9_wear_106 rfl hl (by decide) rfl (fun ls hl => ?_)
      refine lv_iinc (v := 11) (lv' := [(4, .int 11), (3, .int 0), (2, .int 0), (0, .ref md), (1, .int x)]) hx hb dX9_wear_107 hl (k := 2) rfl (by decide) (by decide) rfl (fun ls hl => ?_)
      refine lv_goto (tgt := 42) hx hb dX9_wear_110 (by decide) ?_
      refine lv_iload hx hb dX9_wear_42 (lv_at hl 0 rfl) ?_
      refine lv_bipush (v := 24) hx hb dX9_wear_44 (by decide) ?_
      refine lv_icmp_ge (tgt := 113) hx hb dX9_wear_46 (by decide) (fun c_42 => absurd c_42 (by decide)) (fun c_42 => ?_)
      refine lv_aload_n hx hb dX9_wear_49 rfl (lv_at hl 3 rfl) ?_
      refine va_get (D := D) (ci := 9) (v := .ref m_all) (C := RX9) (T := TX9) (N := 25) hx hb hu in_X9 hown hK.1 hP 0 rfl rfl 1 (by decide) (hu _ u_1081) (fun _ h9 => h9) rfl dX9_wear_50 ?_
      refine lv_bipush (v := 31) hx hb dX9_wear_53 (by decide) ?_
      refine lv_iload hx hb dX9_wear_55 (lv_at hl 0 rfl) ?_
      refine lv_iadd hx hb dX9_wear_57 ?_
      refine tpi (y := 42) (by decide) ?_
      refine va_iald hx hb hK.1 hP 1 0 rfl rfl (vin_c _ _ rfl) dX9_wear_58 ?_
      refine tpi (y := 0) ((z_all _ (cl_lt (vin_c _ _ rfl))).trans (by decide +kernel)) ?_
      refine lv_iload_n hx hb dX9_wear_59 rfl (lv_at hl 2 rfl) ?_
      refine lv_icmp_le (tgt := 76) hx hb dX9_wear_60 (by decide) (fun c_43 => ?_) (fun c_43 => absurd (by decide) c_43)
      refine lv_iload_n hx hb dX9_wear_76 rfl (lv_at hl 2 rfl) ?_
      refine lv_istore_n (lv' := [(2, .int 0), (4, .int 11), (3, .int 0), (0, .ref md), (1, .int x)]) hx hb dX9_wear_77 rfl hl (by decide) rfl (fun ls hl => ?_)
      refine lv_aload_n hx hb dX9_wear_78 rfl (lv_at hl 3 rfl) ?_
      refine va_get (D := D) (ci := 9) (v := .ref m_all) (C := RX9) (T := TX9) (N := 25) hx hb hu in_X9 hown hK.1 hP 0 rfl rfl 1 (by decide) (hu _ u_1081) (fun _ h9 => h9) rfl dX9_wear_79 ?_
      refine lv_bipush (v := 31) hx hb dX9_wear_82 (by decide) ?_
      refine lv_iload hx hb dX9_wear_84 (lv_at hl 1 rfl) ?_
      refine lv_iadd hx hb dX9_wear_86 ?_
      refine tpi (y := 42) (by decide) ?_
      refine va_iald hx hb hK.1 hP 1 0 rfl rfl (vin_c _ _ rfl) dX9_wear_87 ?_
      refine tpi (y := 0) ((z_all _ (cl_lt (vin_c _ _ rfl))).trans (by decide +kernel)) ?_
      refine lv_iload_n hx hb dX9_wear_88 rfl (lv_at hl 2 rfl) ?_
      refine lv_icmp_ge (tgt := 105) hx hb dX9_wear_89 (by decide) (fun c_44 => ?_) (fun c_44 => absurd (by decide) c_44)
      refine lv_iload_n hx hb dX9_wear_105 rfl (lv_at hl 2 rfl) ?_
      refine lv_istore_n (lv' := [(3, .int 0), (2, .int 0), (4, .int 11), (0, .ref md), (1, .int x)]) hx hb dX9_wear_106 rfl hl (by decide) rfl (fun ls hl => ?_)
      refine lv_iinc (v := 12) (lv' := [(4, .int 12), (3, .int 0), (2, .int 0), (0, .ref md), (1, .int x)]) hx hb dX9_wear_107 hl (k := 2) rfl (by decide) (by decide) rfl (fun ls hl => ?_)
      refine lv_goto (tgt := 42) hx hb dX9_wear_110 (by decide) ?_
      refine lv_iload hx hb dX9_wear_42 (lv_at hl 0 rfl) ?_
      refine lv_bipush (v := 24) hx hb dX9_wear_44 (by decide) ?_
      refine lv_icmp_ge (tgt := 113) hx hb dX9_wear_46 (by decide) (fun c_45 => absurd c_45 (by decide)) (fun c_45 => ?_)
      refine lv_aload_n hx hb dX9_wear_49 rfl (lv_at hl 3 rfl) ?_
      refine va_get (D := D) (ci := 9) (v := .ref m_all) (C := RX9) (T := TX9) (N := 25) hx hb hu in_X9 hown hK.1 hP 0 rfl rfl 1 (by decide) (hu _ u_1081) (fun _ h9 => h9) rfl dX9_wear_50 ?_
      refine lv_bipush (v := 31) hx hb dX9_wear_53 (by decide) ?_
      refine lv_iload hx hb dX9_wear_55 (lv_at hl 0 rfl) ?_
      refine lv_iadd hx hb dX9_wear_57 ?_
      refine tpi (y := 43) (by decide) ?_
      refine va_iald hx hb hK.1 hP 1 0 rfl rfl (vin_c _ _ rfl) dX9_wear_58 ?_
      refine tpi (y := 0) ((z_all _ (cl_lt (vin_c _ _ rfl))).trans (by decide +kernel)) ?_
      refine lv_iload_n hx hb dX9_wear_59 rfl (lv_at hl 2 rfl) ?_
      refine lv_icmp_le (tgt := 76) hx hb dX9_wear_60 (by decide) (fun c_46 => ?_) (fun c_46 => absurd (by decide) c_46)
      refine lv_iload_n hx hb dX9_wear_76 rfl (lv_at hl 2 rfl) ?_
      refine lv_istore_n (lv' := [(2, .int 0), (4, .int 12), (3, .int 0), (0, .ref md), (1, .int x)]) hx hb dX9_wear_77 rfl hl (by decide) rfl (fun ls hl => ?_)
      refine lv_aload_n hx hb dX9_wear_78 rfl (lv_at hl 3 rfl) ?_
      refine va_get (D := D) (ci := 9) (v := .ref m_all) (C := RX9) (T := TX9) (N := 25) hx hb hu in_X9 hown hK.1 hP 0 rfl rfl 1 (by decide) (hu _ u_1081) (fun _ h9 => h9) rfl dX9_wear_79 ?_
      refine lv_bipush (v := 31) hx hb dX9_wear_82 (by decide) ?_
      refine lv_iload hx hb dX9_wear_84 (lv_at hl 1 rfl) ?_
      refine lv_iadd hx hb dX9_wear_86 ?_
      refine tpi (y := 43) (by decide) ?_
      refine va_iald hx hb hK.1 hP 1 0 rfl rfl (vin_c _ _ rfl) dX9_wear_87 ?_
      refine tpi (y := 0) ((z_all _ (cl_lt (vin_c _ _ rfl))).trans (by decide +kernel)) ?_
      refine lv_iload_n hx hb dX9_wear_88 rfl (lv_at hl 2 rfl) ?_
      refine lv_icmp_ge (tgt := 105) hx hb dX9_wear_89 (by decide) (fun c_47 => ?_) (fun c_47 => absurd (by decide) c_47)
      refine lv_iload_n hx hb dX9_wear_105 rfl (lv_at hl 2 rfl) ?_
      refine lv_istore_n (lv' := [(3, .int 0), (2, .int 0), (4, .int 12), (0, .ref md), (1, .int x)]) hx hb dX9_wear_106 rfl hl (by decide) rfl (fun ls hl => ?_)
      refine lv_iinc (v := 13) (lv' := [(4, .int 13), (3, .int 0), (2, .int 0), (0, .ref md), (1, .int x)]) hx hb dX9_wear_107 hl (k := 2) rfl (by decide) (by decide) rfl (fun ls hl => ?_)
      refine lv_goto (tgt := 42) hx hb dX9_wear_110 (by decide) ?_
      refine lv_iload hx hb dX9_wear_42 (lv_at hl 0 rfl) ?_
      refine lv_bipush (v := 24) hx hb dX9_wear_44 (by decide) ?_
      refine lv_icmp_ge (tgt := 113) hx hb dX9_wear_46 (by decide) (fun c_48 => absurd c_48 (by decide)) (fun c_48 => ?_)
      refine lv_aload_n hx hb dX9_wear_49 rfl (lv_at hl 3 rfl) ?_
      refine va_get (D := D) (ci := 9) (v := .ref m_all) (C := RX9) (T := TX9) (N := 25) hx hb hu in_X9 hown hK.1 hP 0 rfl rfl 1 (by decide) (hu _ u_1081) (fun _ h9 => h9) rfl dX9_wear_50 ?_
      refine lv_bipush (v := 31) hx hb dX9_wear_53 (by decide) ?_
      refine lv_iload hx hb dX9_wear_55 (lv_at hl 0 rfl) ?_
      refine lv_iadd hx hb dX9_wear_57 ?_
      refine tpi (y := 44) (by decide) ?_
      refine va_iald hx hb hK.1 hP 1 0 rfl rfl (vin_c _ _ rfl) dX9_wear_58 ?_
      refine tpi (y := 0) ((z_all _ (cl_lt (vin_c _ _ rfl))).trans (by decide +kernel)) ?_
      refine lv_iload_n hx hb dX9_wear_59 rfl (lv_at hl 2 rfl) ?_
      refine lv_icmp_le (tgt := 76) hx hb dX9_wear_60 (by decide) (fun c_49 => ?_) (fun c_49 => absurd (by decide) c_49)
      refine lv_iload_n hx hb dX9_wear_76 rfl (lv_at hl 2 rfl) ?_
      refine lv_istore_n (lv' := [(2, .int 0), (4, .int 13), (3, .int 0), (0, .ref md), (1, .int x)]) hx hb dX9_wear_77 rfl hl (by decide) rfl (fun ls hl => ?_)
      refine lv_aload_n hx hb dX9_wear_78 rfl (lv_at hl 3 rfl) ?_
      refine va_get (D := D) (ci := 9) (v := .ref m_all) (C := RX9) (T := TX9) (N := 25) hx hb hu in_X9 hown hK.1 hP 0 rfl rfl 1 (by decide) (hu _ u_1081) (fun _ h9 => h9) rfl dX9_wear_79 ?_
      refine lv_bipush (v := 31) hx hb dX9_wear_82 (by decide) ?_
      refine lv_iload hx hb dX9_wear_84 (lv_at hl 1 rfl) ?_
      refine lv_iadd hx hb dX9_wear_86 ?_
      refine tpi (y := 44) (by decide) ?_
      refine va_iald hx hb hK.1 hP 1 0 rfl rfl (vin_c _ _ rfl) dX9_wear_87 ?_
      refine tpi (y := 0) ((z_all _ (cl_lt (vin_c _ _ rfl))).trans (by decide +kernel)) ?_
      refine lv_iload_n hx hb dX9_wear_88 rfl (lv_at hl 2 rfl) ?_
      refine lv_icmp_ge (tgt := 105) hx hb dX9_wear_89 (by decide) (fun c_50 => ?_) (fun c_50 => absurd (by decide) c_50)
      refine lv_iload_n hx hb dX9_wear_105 rfl (lv_at hl 2 rfl) ?_
      refine lv_istore_n (lv' := [(3, .int 0), (2, .int 0), (4, .int 13), (0, .ref md), (1, .int x)]) hx hb dX9_wear_106 rfl hl (by decide) rfl (fun ls hl => ?_)
      refine lv_iinc (v := 14) (lv' := [(4, .int 14), (3, .int 0), (2, .int 0), (0, .ref md), (1, .int x)]) hx hb dX9_wear_107 hl (k := 2) rfl (by decide) (by decide) rfl (fun ls hl => ?_)
      refine lv_goto (tgt := 42) hx hb dX9_wear_110 (by decide) ?_
      refine lv_iload hx hb dX9_wear_42 (lv_at hl 0 rfl) ?_
      refine lv_bipush (v := 24) hx hb dX9_wear_44 (by decide) ?_
      refine lv_icmp_ge (tgt := 113) hx hb dX9_wear_46 (by decide) (fun c_51 => absurd c_51 (by decide)) (fun c_51 => ?_)
      refine lv_aload_n hx hb dX9_wear_49 rfl (lv_at hl 3 rfl) ?_
      refine va_get (D := D) (ci := 9) (v := .ref m_all) (C := RX9) (T := TX9) (N := 25) hx hb hu in_X9 hown hK.1 hP 0 rfl rfl 1 (by decide) (hu _ u_1081) (fun _ h9 => h9) rfl dX9_wear_50 ?_
      refine lv_bipush (v := 31) hx hb dX9_wear_53 (by decide) ?_
      refine lv_iload hx hb dX9_wear_55 (lv_at hl 0 rfl) ?_
      refine lv_iadd hx hb dX9_wear_57 ?_
      refine tpi (y := 45) (by decide) ?_
      refine va_iald hx hb hK.1 hP 1 0 rfl rfl (vin_c _ _ rfl) dX9_wear_58 ?_
      refine tpi (y := 0) ((z_all _ (cl_lt (vin_c _ _ rfl))).trans (by decide +kernel)) ?_
      refine lv_iload_n hx hb dX9_wear_59 rfl (lv_at hl 2 rfl) ?_
      refine lv_icmp_le (tgt := 76) hx hb dX9_wear_60 (by decide) (fun c_52 => ?_) (fun c_52 => absurd (by decide) c_52)
      refine lv_iload_n hx hb dX9_wear_76 rfl (lv_at hl 2 rfl) ?_
      refine lv_istore_n (lv' := [(2, .int 0), (4, .int 14), (3, .int 0), (0, .ref md), (1, .int x)]) hx hb dX9_wear_77 rfl hl (by decide) rfl (fun ls hl => ?_)
      refine lv_aload_n hx hb dX9_wear_78 rfl (lv_at hl 3 rfl) ?_
      refine va_get (D := D) (ci := 9) (v := .ref m_all) (C := RX9) (T := TX9) (N := 25) hx hb hu in_X9 hown hK.1 hP 0 rfl rfl 1 (by decide) (hu _ u_1081) (fun _ h9 => h9) rfl dX9_wear_79 ?_
      refine lv_bipush (v := 31) hx hb dX9_wear_82 (by decide) ?_
      refine lv_iload hx hb dX9_wear_84 (lv_at hl 1 rfl) ?_
      refine lv_iadd hx hb dX9_wear_86 ?_
      refine tpi (y := 45) (by decide) ?_
      refine va_iald hx hb hK.1 hP 1 0 rfl rfl (vin_c _ _ rfl) dX9_wear_87 ?_
      refine tpi (y := 0) ((z_all _ (cl_lt (vin_c _ _ rfl))).trans (by decide +kernel)) ?_
      refine lv_iload_n hx hb dX9_wear_88 rfl (lv_at hl 2 rfl) ?_
      refine lv_icmp_ge (tgt := 105) hx hb dX9_wear_89 (by decide) (fun c_53 => ?_) (fun c_53 => absurd (by decide) c_53)
      refine lv_iload_n hx hb dX9_wear_105 rfl (lv_at hl 2 rfl) ?_
      refine lv_istore_n (lv' := [(3, .int 0), (2, .int 0), (4, .int 14), (0, .ref md), (1, .int x)]) hx hb dX9_wear_106 rfl hl (by decide) rfl (fun ls hl => ?_)
      refine lv_iinc (v := 15) (lv' := [(4, .int 15), (3, .int 0), (2, .int 0), (0, .ref md), (1, .int x)]) hx hb dX9_wear_107 hl (k := 2) rfl (by decide) (by decide) rfl (fun ls hl => ?_)
      refine lv_goto (tgt := 42) hx hb dX9_wear_110 (by decide) ?_
      refine lv_iload hx hb dX9_wear_42 (lv_at hl 0 rfl) ?_
      refine lv_bipush (v := 24) hx hb dX9_wear_44 (by decide) ?_
      refine lv_icmp_ge (tgt := 113) hx hb dX9_wear_46 (by decide) (fun c_54 => absurd c_54 (by decide)) (fun c_54 => ?_)
      refine lv_aload_n hx hb dX9_wear_49 rfl (lv_at hl 3 rfl) ?_
      refine va_get (D := D) (ci := 9) (v := .ref m_all) (C := RX9) (T := TX9) (N := 25) hx hb hu in_X9 hown hK.1 hP 0 rfl rfl 1 (by decide) (hu _ u_1081) (fun _ h9 => h9) rfl dX9_wear_50 ?_
      refine lv_bipush (v := 31) hx hb dX9_wear_53 (by decide) ?_
      refine lv_iload hx hb dX9_wear_55 (lv_at hl 0 rfl) ?_
      refine lv_iadd hx hb dX9_wear_57 ?_
      refine tpi (y := 46) (by decide) ?_
      refine va_iald hx hb hK.1 hP 1 0 rfl rfl (vin_c _ _ rfl) dX9_wear_58 ?_
      refine tpi (y := 0) ((z_all _ (cl_lt (vin_c _ _ rfl))).trans (by decide +kernel)) ?_
      refine lv_iload_n hx hb dX9_wear_59 rfl (lv_at hl 2 rfl) ?_
      refine lv_icmp_le (tgt := 76) hx hb dX9_wear_60 (by decide) (fun c_55 => ?_) (fun c_55 => absurd (by decide) c_55)
      refine lv_iload_n hx hb dX9_wear_76 rfl (lv_at hl 2 rfl) ?_
      refine lv_istore_n (lv' := [(2, .int 0), (4, .int 15), (3, .int 0), (0, .ref md), (1, .int x)]) hx hb dX9_wear_77 rfl hl (by decide) rfl (fun ls hl => ?_)
      refine lv_aload_n hx hb dX9_wear_78 rfl (lv_at hl 3 rfl) ?_
      refine va_get (D := D) (ci := 9) (v := .ref m_all) (C := RX9) (T := TX9) (N := 25) hx hb hu in_X9 hown hK.1 hP 0 rfl rfl 1 (by decide) (hu _ u_1081) (fun _ h9 => h9) rfl dX9_wear_79 ?_
      refine lv_bipush (v := 31) hx hb dX9_wear_82 (by decide) ?_
      refine lv_iload hx hb dX9_wear_84 (lv_at hl 1 rfl) ?_
      refine lv_iadd hx hb dX9_wear_86 ?_
      refine tpi (y := 46) (by decide) ?_
      refine va_iald hx hb hK.1 hP 1 0 rfl rfl (vin_c _ _ rfl) dX9_wear_87 ?_
      refine tpi (y := 0) ((z_all _ (cl_lt (vin_c _ _ rfl))).trans (by decide +kernel)) ?_
      refine lv_iload_n hx hb dX9_wear_88 rfl (lv_at hl 2 rfl) ?_
      refine lv_icmp_ge (tgt := 105) hx hb dX9_wear_89 (by decide) (fun c_56 => ?_) (fun c_56 => absurd (by decide) c_56)
      refine lv_iload_n hx hb dX9_wear_105 rfl (lv_at hl 2 rfl) ?_
      refine lv_istore_n (lv' := [(3, .int 0), (2, .int 0), (4, .int 15), (0, .ref md), (1, .int x)]) hx hb dX9_wear_106 rfl hl (by decide) rfl (fun ls hl => ?_)
      refine lv_iinc (v := 16) (lv' := [(4, .int 16), (3, .int 0), (2, .int 0), (0, .ref md), (1, .int x)]) hx hb dX9_wear_107 hl (k := 2) rfl (by decide) (by decide) rfl (fun ls hl => ?_)
      refine lv_goto (tgt := 42) hx hb dX9_wear_110 (by decide) ?_
      refine lv_iload hx hb dX9_wear_42 (lv_at hl 0 rfl) ?_
      refine lv_bipush (v := 24) hx hb dX9_wear_44 (by decide) ?_
      refine lv_icmp_ge (tgt := 113) hx hb dX9_wear_46 (by decide) (fun c_57 => absurd c_57 (by decide)) (fun c_57 => ?_)
      refine lv_aload_n hx hb dX9_wear_49 rfl (lv_at hl 3 rfl) ?_
      refine va_get (D := D) (ci := 9) (v := .ref m_all) (C := RX9) (T := TX9) (N := 25) hx hb hu in_X9 hown hK.1 hP 0 rfl rfl 1 (by decide) (hu _ u_1081) (fun _ h9 => h9) rfl dX9_wear_50 ?_
      refine lv_bipush (v := 31) hx hb dX9_wear_53 (by decide) ?_
      refine lv_iload hx hb dX9_wear_55 (lv_at hl 0 rfl) ?_
      refine lv_iadd hx hb dX9_wear_57 ?_
      refine tpi (y := 47) (by decide) ?_
      refine va_iald hx hb hK.1 hP 1 0 rfl rfl (vin_c _ _ rfl) dX9_wear_58 ?_
      refine tpi (y := 0) ((z_all _ (cl_lt (vin_c _ _ rfl))).trans (by decide +kernel)) ?_
      refine lv_iload_n hx hb dX9_wear_59 rfl (lv_at hl 2 rfl) ?_
      refine lv_icmp_le (tgt := 76) hx hb dX9_wear_60 (by decide) (fun c_58 => ?_) (fun c_58 => absurd (by decide) c_58)
      refine lv_iload_n hx hb dX9_wear_76 rfl (lv_at hl 2 rfl) ?_
      refine lv_istore_n (lv' := [(2, .int 0), (4, .int 16), (3, .int 0), (0, .ref md), (1, .int x)]) hx hb dX9_wear_77 rfl hl (by decide) rfl (fun ls hl => ?_)
      refine lv_aload_n hx hb dX9_wear_78 rfl (lv_at hl 3 rfl) ?_
      refine va_get (D := D) (ci := 9) (v := .ref m_all) (C := RX9) (T := TX9) (N := 25) hx hb hu in_X9 hown hK.1 hP 0 rfl rfl 1 (by decide) (hu _ u_1081) (fun _ h9 => h9) rfl dX9_wear_79 ?_
      refine lv_bipush (v := 31) hx hb dX9_wear_82 (by decide) ?_
      refine lv_iload hx hb dX9_wear_84 (lv_at hl 1 rfl) ?_
      refine lv_iadd hx hb dX9_wear_86 ?_
      refine tpi (y := 47) (by decide) ?_
      refine va_iald hx hb hK.1 hP 1 0 rfl rfl (vin_c _ _ rfl) dX9_wear_87 ?_
      refine tpi (y := 0) ((z_all _ (cl_lt (vin_c _ _ rfl))).trans (by decide +kernel)) ?_
      refine lv_iload_n hx hb dX9_wear_88 rfl (lv_at hl 2 rfl) ?_
      refine lv_icmp_ge (tgt := 105) hx hb dX9_wear_89 (by decide) (fun c_59 => ?_) (fun c_59 => absurd (by decide) c_59)
      refine lv_iload_n hx hb dX9_wear_105 rfl (lv_at hl 2 rfl) ?_
      refine lv_istore_n (lv' := [(3, .int 0), (2, .int 0), (4, .int 16), (0, .ref md), (1, .int x)]) hx hb dX9_wear_106 rfl hl (by decide) rfl (fun ls hl => ?_)
      refine lv_iinc (v := 17) (lv' := [(4, .int 17), (3, .int 0), (2, .int 0), (0, .ref md), (1, .int x)]) hx hb dX9_wear_107 hl (k := 2) rfl (by decide) (by decide) rfl (fun ls hl => ?_)
      refine lv_goto (tgt := 42) hx hb dX9_wear_110 (by decide) ?_
      refine lv_iload hx hb dX9_wear_42 (lv_at hl 0 rfl) ?_
      refine lv_bipush (v := 24) hx hb dX9_wear_44 (by decide) ?_
      refine lv_icmp_ge (tgt := 113) hx hb dX9_wear_46 (by decide) (fun c_60 => absurd c_60 (by decide)) (fun c_60 => ?_)
      refine lv_aload_n hx hb dX9_wear_49 rfl (lv_at hl 3 rfl) ?_
      refine va_get (D := D) (ci := 9) (v := .ref m_all) (C := RX9) (T := TX9) (N := 25) hx hb hu in_X9 hown hK.1 hP 0 rfl rfl 1 (by decide) (hu _ u_1081) (fun _ h9 => h9) rfl dX9_wear_50 ?_
      refine lv_bipush (v := 31) hx hb dX9_wear_53 (by decide) ?_
      refine lv_iload hx hb dX9_wear_55 (lv_at hl 0 rfl) ?_
      refine lv_iadd hx hb dX9_wear_57 ?_
      refine tpi (y := 48) (by decide) ?_
      refine va_iald hx hb hK.1 hP 1 0 rfl rfl (vin_c _ _ rfl) dX9_wear_58 ?_
      refine tpi (y := 0) ((z_all _ (cl_lt (vin_c _ _ rfl))).trans (by decide +kernel)) ?_
      refine lv_iload_n hx hb dX9_wear_59 rfl (lv_at hl 2 rfl) ?_
      refine lv_icmp_le (tgt := 76) hx hb dX9_wear_60 (by decide) (fun c_61 => ?_) (fun c_61 => absurd (by decide) c_61)
      refine lv_iload_n hx hb dX9_wear_76 rfl (lv_at hl 2 rfl) ?_
      refine lv_istore_n (lv' := [(2, .int 0), (4, .int 17), (3, .int 0), (0, .ref md), (1, .int x)]) hx hb dX9_wear_77 rfl hl (by decide) rfl (fun ls hl => ?_)
      refine lv_aload_n hx hb dX9_wear_78 rfl (lv_at hl 3 rfl) ?_
      refine va_get (D := D) (ci := 9) (v := .ref m_all) (C := RX9) (T := TX9) (N := 25) hx hb hu in_X9 hown hK.1 hP 0 rfl rfl 1 (by decide) (hu _ u_1081) (fun _ h9 => h9) rfl dX9_wear_79 ?_
      refine lv_bipush (v := 31) hx hb dX9_wear_82 (by decide) ?_
      refine lv_iload hx hb dX9_wear_84 (lv_at hl 1 rfl) ?_
      refine lv_iadd hx hb dX9_wear_86 ?_
      refine tpi (y := 48) (by decide) ?_
      refine va_iald hx hb hK.1 hP 1 0 rfl rfl (vin_c _ _ rfl) dX9_wear_87 ?_
      refine tpi (y := 0) ((z_all _ (cl_lt (vin_c _ _ rfl))).trans (by decide +kernel)) ?_
      refine lv_iload_n hx hb dX9_wear_88 rfl (lv_at hl 2 rfl) ?_
      refine lv_icmp_ge (tgt := 105) hx hb dX9_wear_89 (by decide) (fun c_62 => ?_) (fun c_62 => absurd (by decide) c_62)
      refine lv_iload_n hx hb dX9_wear_105 rfl (lv_at hl 2 rfl) ?_
      refine lv_istore_n (lv' := [(3, .int 0), (2, .int 0), (4, .int 17), (0, .ref md), (1, .int x)]) hx hb dX9_wear_106 rfl hl (by decide) rfl (fun ls hl => ?_)
      refine lv_iinc (v := 18) (lv' := [(4, .int 18), (3, .int 0), (2, .int 0), (0, .ref md), (1, .int x)]) hx hb dX9_wear_107 hl (k := 2) rfl (by decide) (by decide) rfl (fun ls hl => ?_)
      refine lv_goto (tgt := 42) hx hb dX9_wear_110 (by decide) ?_
      refine lv_iload hx hb dX9_wear_42 (lv_at hl 0 rfl) ?_
      refine lv_bipush (v := 24) hx hb dX9_wear_44 (by decide) ?_
      refine lv_icmp_ge (tgt := 113) hx hb dX9_wear_46 (by decide) (fun c_63 => absurd c_63 (by decide)) (fun c_63 => ?_)
      refine lv_aload_n hx hb dX9_wear_49 rfl (lv_at hl 3 rfl) ?_
      refine va_get (D := D) (ci := 9) (v := .ref m_all) (C := RX9) (T := TX9) (N := 25) hx hb hu in_X9 hown hK.1 hP 0 rfl rfl 1 (by decide) (hu _ u_1081) (fun _ h9 => h9) rfl dX9_wear_50 ?_
      refine lv_bipush (v := 31) hx hb dX9_wear_53 (by decide) ?_
      refine lv_iload hx hb dX9_wear_55 (lv_at hl 0 rfl) ?_
      refine lv_iadd hx hb dX9_wear_57 ?_
      refine tpi (y := 49) (by decide) ?_
      refine va_iald hx hb hK.1 hP 1 0 rfl rfl (vin_c _ _ rfl) dX9_wear_58 ?_
      refine tpi (y := 0) ((z_all _ (cl_lt (vin_c _ _ rfl))).trans (by decide +kernel)) ?_
      refine lv_iload_n hx hb dX9_wear_59 rfl (lv_at hl 2 rfl) ?_
      refine lv_icmp_le (tgt := 76) hx hb dX9_wear_60 (by decide) (fun c_64 => ?_) (fun c_64 => absurd (by decide) c_64)
      refine lv_iload_n hx hb dX9_wear_76 rfl (lv_at hl 2 rfl) ?_
      refine lv_istore_n (lv' := [(2, .int 0), (4, .int 18), (3, .int 0), (0, .ref md), (1, .int x)]) hx hb dX9_wear_77 rfl hl (by decide) rfl (fun ls hl => ?_)
      refine lv_aload_n hx hb dX9_wear_78 rfl (lv_at hl 3 rfl) ?_
      refine va_get (D := D) (ci := 9) (v := .ref m_all) (C := RX9) (T := TX9) (N := 25) hx hb hu in_X9 hown hK.1 hP 0 rfl rfl 1 (by decide) (hu _ u_1081) (fun _ h9 => h9) rfl dX9_wear_79 ?_
      refine lv_bipush (v := 31) hx hb dX9_wear_82 (by decide) ?_
      refine lv_iload hx hb dX9_wear_84 (lv_at hl 1 rfl) ?_
      refine lv_iadd hx hb dX9_wear_86 ?_
      refine tpi (y := 49) (by decide) ?_
      refine va_iald hx hb hK.1 hP 1 0 rfl rfl (vin_c _ _ rfl) dX9_wear_87 ?_
      refine tpi (y := 0) ((z_all _ (cl_lt (vin_c _ _ rfl))).trans (by decide +kernel)) ?_
      refine lv_iload_n hx hb dX9_wear_88 rfl (lv_at hl 2 rfl) ?_
      refine lv_icmp_ge (tgt := 105) hx hb dX9_wear_89 (by decide) (fun c_65 => ?_) (fun c_65 => absurd (by decide) c_65)
      refine lv_iload_n hx hb dX9_wear_105 rfl (lv_at hl 2 rfl) ?_
      refine lv_istore_n (lv' := [(3, .int 0), (2, .int 0), (4, .int 18), (0, .ref md), (1, .int x)]) hx hb dX9_wear_106 rfl hl (by decide) rfl (fun ls hl => ?_)
      refine lv_iinc (v := 19) (lv' := [(4, .int 19), (3, .int 0), (2, .int 0), (0, .ref md), (1, .int x)]) hx hb dX9_wear_107 hl (k := 2) rfl (by decide) (by decide) rfl (fun ls hl => ?_)
      refine lv_goto (tgt := 42) hx hb dX9_wear_110 (by decide) ?_
      refine lv_iload hx hb dX9_wear_42 (lv_at hl 0 rfl) ?_
      refine lv_bipush (v := 24) hx hb dX9_wear_44 (by decide) ?_
      refine lv_icmp_ge (tgt := 113) hx hb dX9_wear_46 (by decide) (fun c_66 => absurd c_66 (by decide)) (fun c_66 => ?_)
      refine lv_aload_n hx hb dX9_wear_49 rfl (lv_at hl 3 rfl) ?_
      refine va_get (D := D) (ci := 9) (v := .ref m_all) (C := RX9) (T := TX9) (N := 25) hx hb hu in_X9 hown hK.1 hP 0 rfl rfl 1 (by decide) (hu _ u_1081) (fun _ h9 => h9) rfl dX9_wear_50 ?_
      refine lv_bipush (v := 31) hx hb dX9_wear_53 (by decide) ?_
      refine lv_iload hx hb dX9_wear_55 (lv_at hl 0 rfl) ?_
      refine lv_iadd hx hb dX9_wear_57 ?_
      refine tpi (y := 50) (by decide) ?_
      refine va_iald hx hb hK.1 hP 1 0 rfl rfl (vin_c _ _ rfl) dX9_wear_58 ?_
      refine tpi (y := 0) ((z_all _ (cl_lt (vin_c _ _ rfl))).trans (by decide +kernel)) ?_
      refine lv_iload_n hx hb dX9_wear_59 rfl (lv_at hl 2 rfl) ?_
      refine lv_icmp_le (tgt := 76) hx hb dX9_wear_60 (by decide) (fun c_67 => ?_) (fun c_67 => absurd (by decide) c_67)
      refine lv_iload_n hx hb dX9_wear_76 rfl (lv_at hl 2 rfl) ?_
      refine lv_istore_n (lv' := [(2, .int 0), (4, .int 19), (3, .int 0), (0, .ref md), (1, .int x)]) hx hb dX9_wear_77 rfl hl (by decide) rfl (fun ls hl => ?_)
      refine lv_aload_n hx hb dX9_wear_78 rfl (lv_at hl 3 rfl) ?_
      refine va_get (D := D) (ci := 9) (v := .ref m_all) (C := RX9) (T := TX9) (N := 25) hx hb hu in_X9 hown hK.1 hP 0 rfl rfl 1 (by decide) (hu _ u_1081) (fun _ h9 => h9) rfl dX9_wear_79 ?_
      refine lv_bipush (v := 31) hx hb dX9_wear_82 (by decide) ?_
      refine lv_iload hx hb dX9_wear_84 (lv_at hl 1 rfl) ?_
      refine lv_iadd hx hb dX9_wear_86 ?_
      refine tpi (y := 50) (by decide) ?_
      refine va_iald hx hb hK.1 hP 1 0 rfl rfl (vin_c _ _ rfl) dX9_wear_87 ?_
      refine tpi (y := 0) ((z_all _ (cl_lt (vin_c _ _ rfl))).trans (by decide +kernel)) ?_
      refine lv_iload_n hx hb dX9_wear_88 rfl (lv_at hl 2 rfl) ?_
      refine lv_icmp_ge (tgt := 105) hx hb dX9_wear_89 (by decide) (fun c_68 => ?_) (fun c_68 => absurd (by decide) c_68)
      refine lv_iload_n hx hb dX9_wear_105 rfl (lv_at hl 2 rfl) ?_
      refine lv_istore_n (lv' := [(3, .int 0), (2, .int 0), (4, .int 19), (0, .ref md), (1, .int x)]) hx hb dX9_wear_106 rfl hl (by decide) rfl (fun ls hl => ?_)
      refine lv_iinc (v := 20) (lv' := [(4, .int 20), (3, .int 0), (2, .int 0), (0, .ref md), (1, .int x)]) hx hb dX9_wear_107 hl (k := 2) rfl (by decide) (by decide) rfl (fun ls hl => ?_)
      refine lv_goto (tgt := 42) hx hb dX9_wear_110 (by decide) ?_
      refine lv_iload hx hb dX9_wear_42 (lv_at hl 0 rfl) ?_
      refine lv_bipush (v := 24) hx hb dX9_wear_44 (by decide) ?_
      refine lv_icmp_ge (tgt := 113) hx hb dX9_wear_46 (by decide) (fun c_69 => absurd c_69 (by decide)) (fun c_69 => ?_)
      refine lv_aload_n hx hb dX9_wear_49 rfl (lv_at hl 3 rfl) ?_
      refine va_get (D := D) (ci := 9) (v := .ref m_all) (C := RX9) (T := TX9) (N := 25) hx hb hu in_X9 hown hK.1 hP 0 rfl rfl 1 (by decide) (hu _ u_1081) (fun _ h9 => h9) rfl dX9_wear_50 ?_
      refine lv_bipush (v := 31) hx hb dX9_wear_53 (by decide) ?_
      refine lv_iload hx hb dX9_wear_55 (lv_at hl 0 rfl) ?_
      refine lv_iadd hx hb dX9_wear_57 ?_
      refine tpi (y := 51) (by decide) ?_
      refine va_iald hx hb hK.1 hP 1 0 rfl rfl (vin_c _ _ rfl) dX9_wear_58 ?_
      refine tpi (y := 0) ((z_all _ (cl_lt (vin_c _ _ rfl))).trans (by decide +kernel)) ?_
      refine lv_iload_n hx hb dX9_wear_59 rfl (lv_at hl 2 rfl) ?_
      refine lv_icmp_le (tgt := 76) hx hb dX9_wear_60 (by decide) (fun c_70 => ?_) (fun c_70 => absurd (by decide) c_70)
      refine lv_iload_n hx hb dX9_wear_76 rfl (lv_at hl 2 rfl) ?_
      refine lv_istore_n (lv' := [(2, .int 0), (4, .int 20), (3, .int 0), (0, .ref md), (1, .int x)]) hx hb dX9_wear_77 rfl hl (by decide) rfl (fun ls hl => ?_)
      refine lv_aload_n hx hb dX9_wear_78 rfl (lv_at hl 3 rfl) ?_
      refine va_get (D := D) (ci := 9) (v := .ref m_all) (C := RX9) (T := TX9) (N := 25) hx hb hu in_X9 hown hK.1 hP 0 rfl rfl 1 (by decide) (hu _ u_1081) (fun _ h9 => h9) rfl dX9_wear_79 ?_
      refine lv_bipush (v := 31) hx hb dX9_wear_82 (by decide) ?_
      refine lv_iload hx hb dX9_wear_84 (lv_at hl 1 rfl) ?_
      refine lv_iadd hx hb dX9_wear_86 ?_
      refine tpi (y := 51) (by decide) ?_
      refine va_iald hx hb hK.1 hP 1 0 rfl rfl (vin_c _ _ rfl) dX9_wear_87 ?_
      refine tpi (y := 0) ((z_all _ (cl_lt (vin_c _ _ rfl))).trans (by decide +kernel)) ?_
      refine lv_iload_n hx hb dX9_wear_88 rfl (lv_at hl 2 rfl) ?_
      refine lv_icmp_ge (tgt := 105) hx hb dX9_wear_89 (by decide) (fun c_71 => ?_) (fun c_71 => absurd (by decide) c_71)
      refine lv_iload_n hx hb dX9_wear_105 rfl (lv_at hl 2 rfl) ?_
      refine lv_istore_n (lv' := [(3, .int 0), (2, .int 0), (4, .int 20), (0, .ref md), (1, .int x)]) hx hb dX9_wear_106 rfl hl (by decide) rfl (fun ls hl => ?_)
      refine lv_iinc (v := 21) (lv' := [(4, .int 21), (3, .int 0), (2, .int 0), (0, .ref md), (1, .int x)]) hx hb dX9_wear_107 hl (k := 2) rfl (by decide) (by decide) rfl (fun ls hl => ?_)
      refine lv_goto (tgt := 42) hx hb dX9_wear_110 (by decide) ?_
      refine lv_iload hx hb dX9_wear_42 (lv_at hl 0 rfl) ?_
      refine lv_bipush (v := 24) hx hb dX9_wear_44 (by decide) ?_
      refine lv_icmp_ge (tgt := 113) hx hb dX9_wear_46 (by decide) (fun c_72 => absurd c_72 (by decide)) (fun c_72 => ?_)
      refine lv_aload_n hx hb dX9_wear_49 rfl (lv_at hl 3 rfl) ?_
      refine va_get (D := D) (ci := 9) (v := .ref m_all) (C := RX9) (T := TX9) (N := 25) hx hb hu in_X9 hown hK.1 hP 0 rfl rfl 1 (by decide) (hu _ u_1081) (fun _ h9 => h9) rfl dX9_wear_50 ?_
      refine lv_bipush (v := 31) hx hb dX9_wear_53 (by decide) ?_
      refine lv_iload hx hb dX9_wear_55 (lv_at hl 0 rfl) ?_
      refine lv_iadd hx hb dX9_wear_57 ?_
      refine tpi (y := 52) (by decide) ?_
      refine va_iald hx hb hK.1 hP 1 0 rfl rfl (vin_c _ _ rfl) dX9_wear_58 ?_
      refine tpi (y := 0) ((z_all _ (cl_lt (vin_c _ _ rfl))).trans (by decide +kernel)) ?_
      refine lv_iload_n hx hb dX9_wear_59 rfl (lv_at hl 2 rfl) ?_
      refine lv_icmp_le (tgt := 76) hx hb dX9_wear_60 (by decide) (fun c_73 => ?_) (fun c_73 => absurd (by decide) c_73)
      refine lv_iload_n hx hb dX9_wear_76 rfl (lv_at hl 2 rfl) ?_
      refine lv_istore_n (lv' := [(2, .int 0), (4, .int 21), (3, .int 0), (0, .ref md), (1, .int x)]) hx hb dX9_wear_77 rfl hl (by decide) rfl (fun ls hl => ?_)
      refine lv_aload_n hx hb dX9_wear_78 rfl (lv_at hl 3 rfl) ?_
      refine va_get (D := D) (ci := 9) (v := .ref m_all) (C := RX9) (T := TX9) (N := 25) hx hb hu in_X9 hown hK.1 hP 0 rfl rfl 1 (by decide) (hu _ u_1081) (fun _ h9 => h9) rfl dX9_wear_79 ?_
      refine lv_bipush (v := 31) hx hb dX9_wear_82 (by decide) ?_
      refine lv_iload hx hb dX9_wear_84 (lv_at hl 1 rfl) ?_
      refine lv_iadd hx hb dX9_wear_86 ?_
      refine tpi (y := 52) (by decide) ?_
      refine va_iald hx hb hK.1 hP 1 0 rfl rfl (vin_c _ _ rfl) dX9_wear_87 ?_
      refine tpi (y := 0) ((z_all _ (cl_lt (vin_c _ _ rfl))).trans (by decide +kernel)) ?_
      refine lv_iload_n hx hb dX9_wear_88 rfl (lv_at hl 2 rfl) ?_
      refine lv_icmp_ge (tgt := 105) hx hb dX9_wear_89 (by decide) (fun c_74 => ?_) (fun c_74 => absurd (by decide) c_74)
      refine lv_iload_n hx hb dX9_wear_105 rfl (lv_at hl 2 rfl) ?_
      refine lv_istore_n (lv' := [(3, .int 0), (2, .int 0), (4, .int 21), (0, .ref md), (1, .int x)]) hx hb dX9_wear_106 rfl hl (by decide) rfl (fun ls hl => ?_)
      refine lv_iinc (v := 22) (lv' := [(4, .int 22), (3, .int 0), (2, .int 0), (0, .ref md), (1, .int x)]) hx hb dX9_wear_107 hl (k := 2) rfl (by decide) (by decide) rfl (fun ls hl => ?_)
      refine lv_goto (tgt := 42) hx hb dX9_wear_110 (by decide) ?_
      refine lv_iload hx hb dX9_wear_42 (lv_at hl 0 rfl) ?_
      refine lv_bipush (v := 24) hx hb dX9_wear_44 (by decide) ?_
      refine lv_icmp_ge (tgt := 113) hx hb dX9_wear_46 (by decide) (fun c_75 => absurd c_75 (by decide)) (fun c_75 => ?_)
      refine lv_aload_n hx hb dX9_wear_49 rfl (lv_at hl 3 rfl) ?_
      refine va_get (D := D) (ci := 9) (v := .ref m_all) (C := RX9) (T := TX9) (N := 25) hx hb hu in_X9 hown hK.1 hP 0 rfl rfl 1 (by decide) (hu _ u_1081) (fun _ h9 => h9) rfl dX9_wear_50 ?_
      refine lv_bipush (v := 31) hx hb dX9_wear_53 (by decide) ?_
      refine lv_iload hx hb dX9_wear_55 (lv_at hl 0 rfl) ?_
      refine lv_iadd hx hb dX9_wear_57 ?_
      refine tpi (y := 53) (by decide) ?_
      refine va_iald hx hb hK.1 hP 1 0 rfl rfl (vin_c _ _ rfl) dX9_wear_58 ?_
      refine tpi (y := 0) ((z_all _ (cl_lt (vin_c _ _ rfl))).trans (by decide +kernel)) ?_
      refine lv_iload_n hx hb dX9_wear_59 rfl (lv_at hl 2 rfl) ?_
      refine lv_icmp_le (tgt := 76) hx hb dX9_wear_60 (by decide) (fun c_76 => ?_) (fun c_76 => absurd (by decide) c_76)
      refine lv_iload_n hx hb dX9_wear_76 rfl (lv_at hl 2 rfl) ?_
      refine lv_istore_n (lv' := [(2, .int 0), (4, .int 22), (3, .int 0), (0, .ref md), (1, .int x)]) hx hb dX9_wear_77 rfl hl (by decide) rfl (fun ls hl => ?_)
      refine lv_aload_n hx hb dX9_wear_78 rfl (lv_at hl 3 rfl) ?_
      refine va_get (D := D) (ci := 9) (v := .ref m_all) (C := RX9) (T := TX9) (N := 25) hx hb hu in_X9 hown hK.1 hP 0 rfl rfl 1 (by decide) (hu _ u_1081) (fun _ h9 => h9) rfl dX9_wear_79 ?_
      refine lv_bipush (v := 31) hx hb dX9_wear_82 (by decide) ?_
      refine lv_iload hx hb dX9_wear_84 (lv_at hl 1 rfl) ?_
      refine lv_iadd hx hb dX9_wear_86 ?_
      refine tpi (y := 53) (by decide) ?_
      refine va_iald hx hb hK.1 hP 1 0 rfl rfl (vin_c _ _ rfl) dX9_wear_87 ?_
      refine tpi (y := 0) ((z_all _ (cl_lt (vin_c _ _ rfl))).trans (by decide +kernel)) ?_
      refine lv_iload_n hx hb dX9_wear_88 rfl (lv_at hl 2 rfl) ?_
      refine lv_icmp_ge (tgt := 105) hx hb dX9_wear_89 (by decide) (fun c_77 => ?_) (fun c_77 => absurd (by decide) c_77)
      refine lv_iload_n hx hb dX9_wear_105 rfl (lv_at hl 2 rfl) ?_
      refine lv_istore_n (lv' := [(3, .int 0), (2, .int 0), (4, .int 22), (0, .ref md), (1, .int x)]) hx hb dX9_wear_106 rfl hl (by decide) rfl (fun ls hl => ?_)
      refine lv_iinc (v := 23) (lv' := [(4, .int 23), (3, .int 0), (2, .int 0), (0, .ref md), (1, .int x)]) hx hb dX9_wear_107 hl (k := 2) rfl (by decide) (by decide) rfl (fun ls hl => ?_)
      refine lv_goto (tgt := 42) hx hb dX9_wear_110 (by decide) ?_
      refine lv_iload hx hb dX9_wear_42 (lv_at hl 0 rfl) ?_
      refine lv_bipush (v := 24) hx hb dX9_wear_44 (by decide) ?_
      refine lv_icmp_ge (tgt := 113) hx hb dX9_wear_46 (by decide) (fun c_78 => absurd c_78 (by decide)) (fun c_78 => ?_)
      refine lv_aload_n hx hb dX9_wear_49 rfl (lv_at hl 3 rfl) ?_
      refine va_get (D := D) (ci := 9) (v := .ref m_all) (C := RX9) (T := TX9) (N := 25) hx hb hu in_X9 hown hK.1 hP 0 rfl rfl 1 (by decide) (hu _ u_1081) (fun _ h9 => h9) rfl dX9_wear_50 ?_
      refine lv_bipush (v := 31) hx hb dX9_wear_53 (by decide) ?_
      refine lv_iload hx hb dX9_wear_55 (lv_at hl 0 rfl) ?_
      refine lv_iadd hx hb dX9_wear_57 ?_
      refine tpi (y := 54) (by decide) ?_
      refine va_iald hx hb hK.1 hP 1 0 rfl rfl (vin_c _ _ rfl) dX9_wear_58 ?_
      refine tpi (y := 0) ((z_all _ (cl_lt (vin_c _ _ rfl))).trans (by decide +kernel)) ?_
      refine lv_iload_n hx hb dX9_wear_59 rfl (lv_at hl 2 rfl) ?_
      refine lv_icmp_le (tgt := 76) hx hb dX9_wear_60 (by decide) (fun c_79 => ?_) (fun c_79 => absurd (by decide) c_79)
      refine lv_iload_n hx hb dX9_wear_76 rfl (lv_at hl 2 rfl) ?_
      refine lv_istore_n (lv' := [(2, .int 0), (4, .int 23), (3, .int 0), (0, .ref md), (1, .int x)]) hx hb dX9_wear_77 rfl hl (by decide) rfl (fun ls hl => ?_)
      refine lv_aload_n hx hb dX9_wear_78 rfl (lv_at hl 3 rfl) ?_
      refine va_get (D := D) (ci := 9) (v := .ref m_all) (C := RX9) (T := TX9) (N := 25) hx hb hu in_X9 hown hK.1 hP 0 rfl rfl 1 (by decide) (hu _ u_1081) (fun _ h9 => h9) rfl dX9_wear_79 ?_
      refine lv_bipush (v := 31) hx hb dX9_wear_82 (by decide) ?_
      refine lv_iload hx hb dX9_wear_84 (lv_at hl 1 rfl) ?_
      refine lv_iadd hx hb dX9_wear_86 ?_
      refine tpi (y := 54) (by decide) ?_
      refine va_iald hx hb hK.1 hP 1 0 rfl rfl (vin_c _ _ rfl) dX9_wear_87 ?_
      refine tpi (y := 0) ((z_all _ (cl_lt (vin_c _ _ rfl))).trans (by decide +kernel)) ?_
      refine lv_iload_n hx hb dX9_wear_88 rfl (lv_at hl 2 rfl) ?_
      refine lv_icmp_ge (tgt := 105) hx hb dX9_wear_89 (by decide) (fun c_80 => ?_) (fun c_80 => absurd (by decide) c_80)
      refine lv_iload_n hx hb dX9_wear_105 rfl (lv_at hl 2 rfl) ?_
      refine lv_istore_n (lv' := [(3, .int 0), (2, .int 0), (4, .int 23), (0, .ref md), (1, .int x)]) hx hb dX9_wear_106 rfl hl (by decide) rfl (fun ls hl => ?_)
      refine lv_iinc (v := 24) (lv' := [(4, .int 24), (3, .int 0), (2, .int 0), (0, .ref md), (1, .int x)]) hx hb dX9_wear_107 hl (k := 2) rfl (by decide) (by decide) rfl (fun ls hl => ?_)
      refine lv_goto (tgt := 42) hx hb dX9_wear_110 (by decide) ?_
      refine lv_iload hx hb dX9_wear_42 (lv_at hl 0 rfl) ?_
      refine lv_bipush (v := 24) hx hb dX9_wear_44 (by decide) ?_
      refine lv_icmp_ge (tgt := 113) hx hb dX9_wear_46 (by decide) (fun c_81 => ?_) (fun c_81 => absurd (by decide) c_81)
      refine lv_iload_n hx hb dX9_wear_113 rfl (lv_at hl 4 rfl) ?_
      refine lv_iconst (v := 3) hx hb dX9_wear_114 (by decide) ?_
      refine lv_icmp_ne (tgt := 122) hx hb dX9_wear_115 (by decide) (fun c_82 => ?_) (fun c_82 => ?_)
      · refine lv_iload_n hx hb dX9_wear_122 rfl (lv_at hl 1 rfl) ?_
        exact hz () hP hD hS (by grind) [] rfl rfl (Nat.le_of_ble_eq_true rfl) (Nat.le_of_ble_eq_true rfl) .int rfl rfl dX9_wear_123
      · refine lv_iload_n hx hb dX9_wear_118 rfl (lv_at hl 2 rfl) ?_
        refine lv_goto (tgt := 123) hx hb dX9_wear_119 (by decide) ?_
        exact hz () hP hD hS (by grind) [] rfl rfl (Nat.le_of_ble_eq_true rfl) (Nat.le_of_ble_eq_true rfl) .int rfl rfl dX9_wear_123
    · refine lv_aload_n hx hb dX9_wear_25 rfl (lv_at hl 0 rfl) ?_
      refine va_get (D := D) (ci := 9) (v := .ref m_all) (C := RX9) (T := TX9) (N := 25) hx hb hu in_X9 hown hK.1 hP 0 rfl rfl 1 (by decide) (hu _ u_1081) (fun _ h9 => h9) rfl dX9_wear_26 ?_
      refine lv_iconst (v := 4) hx hb dX9_wear_29 (by decide) ?_
      refine lv_iload_n hx hb dX9_wear_30 rfl (lv_at hl 1 rfl) ?_
      refine lv_iadd hx hb dX9_wear_31 ?_
      refine va_iald hx hb hK.1 hP 1 0 rfl rfl (vin_of (N := 51207) (by grind) (by grind) rfl) dX9_wear_32 ?_
      refine tpi (y := 0) ((z_all _ (cl_lt (vin_of (N := 51207) (by grind) (by grind) rfl))).trans (AL_z _ (by grind) (by grind))) ?_
      exact hz () hP hD hS (by grind) [] rfl rfl (Nat.le_of_ble_eq_true rfl) (Nat.le_of_ble_eq_true rfl) .int rfl rfl dX9_wear_33
  · obtain ⟨er_83, hf_84⟩ := hw_3
    have hf_85 : ¬ (0 ≤ x ∧ x ≤ 4) := fun h => hf_84 ⟨(w_le (d := 0) (x := x) (by decide)).mpr h.1, (w_ge (d := 4) (x := x) (by decide)).mpr h.2⟩
    subst er_83
    refine lv_if_ne (tgt := 20) hx hb dX9_wear_14 (by decide) (fun c_86 => absurd (by decide) c_86) (fun c_86 => ?_)
    refine lv_bipush (v := (-2)) hx hb dX9_wear_17 (by decide) ?_
    exact hz () hP hD hS (by grind) [] rfl rfl (Nat.le_of_ble_eq_true rfl) (Nat.le_of_ble_eq_true rfl) .int rfl rfl dX9_wear_19
abbrev rm_c_X9_bucket : Room := { frames := 1, cells := 0, slots := 0, locals := 25 }
set_option maxHeartbeats 4000000 in
set_option maxRecDepth 100000 in
theorem c_X9_bucket (l : Launch) (D : va_G) (cs : Nat → ClassId) (sz : Nat) (x : Int32) (y : Int32) (md : Nat) (m_all : Nat) (f_m_all : Nat → Int32) (m_deeds : Nat) (m_trial : Nat) (m_hasImage : Nat) (m_tape : Nat) (m_key : Nat) (m_answered : Nat) (m_goes : Nat) (m_hotOnes : Nat) (m_indexed : Nat) (m_isChanged : Nat) (m_valueNow : Nat) (m_didSome : Nat) (m_sizes : Nat) (m_ends : Nat) (z_all : ∀ j, j < 51207 → f_m_all j = AL j) : cMi l yX9_bucket (Cond.code yX9_bucket cX9_bucket 5 (some .int)) (rm_c_X9_bucket) D cs [.ref md, .int x, .int y] sz [(md, .inr (9, [.int 0, .ref m_all, .ref m_deeds, .ref m_trial, .int 0, .ref m_hasImage, .ref m_tape, .ref m_key, .ref m_answered, .int 0, .int 0, .int 0, .ref m_goes, .int 0, .ref m_hotOnes, .ref m_indexed, .ref m_isChanged, .int 0, .ref m_valueNow, .int 0, .int (-1), .int 0, .ref m_didSome, .ref m_sizes, .ref m_ends])), (m_all, aI cs 51207 f_m_all)] (fun (r : Int32) (u : Unit) => ((r = (-2)) ∧ (x < 0 ∨ 8 ≤ x ∨ y < 0 ∨ 2 < y)) ∨ ((r = (-1)) ∧ (¬ x < 0 ∧ x < 8 ∧ y = 0)) ∨ ((r = 0) ∧ (¬ x < 0 ∧ x < 8 ∧ (y = 1 ∨ y = 2)))) (fun (u : Unit) => []) := by
  refine kMet_i RX9 (by decide) rfl (Nat.le_of_ble_eq_true rfl) ?_
  intro p e s m below meth c ls A Qz H locs hx hb hml hown hin hu hK hsz hA hP hD hS hl hz
  subst hsz
  have hl : lv_has ls 5 [(0, .ref md), (1, .int x), (2, .int y)] := hl
  refine lv_aload_n hx hb dX9_bucket_0 rfl (lv_at hl 0 rfl) ?_
  refine lv_iconst (v := 0) hx hb dX9_bucket_1 (by decide) ?_
  refine va_put (D := D) (ci := 9) (v := .int 0) (ty := tyX9 0) (C := RX9) (T := TX9) (N := 25) hx hb hu in_X9 tyX9 tyX9_ok nmX9 hown hK.1 hP hD hS 0 rfl rfl 0 (by decide) (hu _ u_1080) (fun _ h9 => h9) rfl (tyX9_ok 0 (by decide)) rfl rfl (Nat.le_of_ble_eq_true rfl) dX9_bucket_2 (fun H locs hP hD hS => ?_)
  have hP : va_P D vwCl [(md, .inr (9, [.int 0, .ref m_all, .ref m_deeds, .ref m_trial, .int 0, .ref m_hasImage, .ref m_tape, .ref m_key, .ref m_answered, .int 0, .int 0, .int 0, .ref m_goes, .int 0, .ref m_hotOnes, .ref m_indexed, .ref m_isChanged, .int 0, .ref m_valueNow, .int 0, .int (-1), .int 0, .ref m_didSome, .ref m_sizes, .ref m_ends])), (m_all, aI cs 51207 f_m_all)] H := hP
  have hD : va_D A [(md, .inr (9, [.int 0, .ref m_all, .ref m_deeds, .ref m_trial, .int 0, .ref m_hasImage, .ref m_tape, .ref m_key, .ref m_answered, .int 0, .int 0, .int 0, .ref m_goes, .int 0, .ref m_hotOnes, .ref m_indexed, .ref m_isChanged, .int 0, .ref m_valueNow, .int 0, .int (-1), .int 0, .ref m_didSome, .ref m_sizes, .ref m_ends])), (m_all, aI cs 51207 f_m_all)] := hD
  refine lv_iload_n hx hb dX9_bucket_5 rfl (lv_at hl 1 rfl) ?_
  refine lv_i2l (v := x.toInt64) hx hb dX9_bucket_6 rfl ?_
  refine lv_lconst (v := 0) hx hb dX9_bucket_7 (by decide) ?_
  refine lv_ldc2 (v := 7) hx hb hown (hu _ u_1434) dX9_bucket_8 ?_
  refine kS_i  (As := [.long x.toInt64, .long 0, .long 7]) (rest := []) (wc := []) (wr := [(md, .inr (9, [.int 0, .ref m_all, .ref m_deeds, .ref m_trial, .int 0, .ref m_hasImage, .ref m_tape, .ref m_key, .ref m_answered, .int 0, .int 0, .int 0, .ref m_goes, .int 0, .ref m_hotOnes, .ref m_indexed, .ref m_isChanged, .int 0, .ref m_valueNow, .int 0, .int (-1), .int 0, .ref m_didSome, .ref m_sizes, .ref m_ends])), (m_all, aI cs 51207 f_m_all)]) hx hb hml hown hu hK hP hD hS hA hl.1 (c_X9_within l D cs H.size x.toInt64 0 7) (gS u_1164 u_1165 u_76 u_1166) hd_X9_within ⟨(Nat.le_of_ble_eq_true rfl), (Nat.le_of_ble_eq_true rfl)⟩ [] [0, 1] rfl rfl rfl rfl (by decide) rfl rfl (Nat.le_of_ble_eq_true rfl) dX9_bucket_11 ⟨(Nat.le_of_ble_eq_true rfl), (Nat.le_of_ble_eq_true rfl)⟩ (fun r_1 ut_2 H locs hw_3 hP hD hS => ?_)
  have hP : va_P D vwCl [(md, .inr (9, [.int 0, .ref m_all, .ref m_deeds, .ref m_trial, .int 0, .ref m_hasImage, .ref m_tape, .ref m_key, .ref m_answered, .int 0, .int 0, .int 0, .ref m_goes, .int 0, .ref m_hotOnes, .ref m_indexed, .ref m_isChanged, .int 0, .ref m_valueNow, .int 0, .int (-1), .int 0, .ref m_didSome, .ref m_sizes, .ref m_ends])), (m_all, aI cs 51207 f_m_all)] H := hP
  have hD : va_D A [(md, .inr (9, [.int 0, .ref m_all, .ref m_deeds, .ref m_trial, .int 0, .ref m_hasImage, .ref m_tape, .ref m_key, .ref m_answered, .int 0, .int 0, .int 0, .ref m_goes, .int 0, .ref m_hotOnes, .ref m_indexed, .ref m_isChanged, .int 0, .ref m_valueNow, .int 0, .int (-1), .int 0, .ref m_didSome, .ref m_sizes, .ref m_ends])), (m_all, aI cs 51207 f_m_all)] := hD
  rcases hw_3 with hw_3 | hw_3
  · obtain ⟨er_4, hf_5⟩ := hw_3
    have hf_6 : 0 ≤ x ∧ x ≤ 7 := ⟨(w_le (d := 0) (x := x) (by decide)).mp hf_5.1, (w_ge (d := 7) (x := x) (by decide)).mp hf_5.2⟩
    subst er_4
    refine lv_if_eq (tgt := 29) hx hb dX9_bucket_14 (by decide) (fun c_7 => absurd c_7 (by decide)) (fun c_7 => ?_)
    refine lv_iload_n hx hb dX9_bucket_17 rfl (lv_at hl 2 rfl) ?_
    refine lv_i2l (v := y.toInt64) hx hb dX9_bucket_18 rfl ?_
    refine lv_lconst (v := 0) hx hb dX9_bucket_19 (by decide) ?_
    refine lv_ldc2 (v := 2) hx hb hown (hu _ u_1347) dX9_bucket_20 ?_
    refine kS_i  (As := [.long y.toInt64, .long 0, .long 2]) (rest := []) (wc := []) (wr := [(md, .inr (9, [.int 0, .ref m_all, .ref m_deeds, .ref m_trial, .int 0, .ref m_hasImage, .ref m_tape, .ref m_key, .ref m_answered, .int 0, .int 0, .int 0, .ref m_goes, .int 0, .ref m_hotOnes, .ref m_indexed, .ref m_isChanged, .int 0, .ref m_valueNow, .int 0, .int (-1), .int 0, .ref m_didSome, .ref m_sizes, .ref m_ends])), (m_all, aI cs 51207 f_m_all)]) hx hb hml hown hu hK hP hD hS hA hl.1 (c_X9_within l D cs H.size y.toInt64 0 2) (gS u_1164 u_1165 u_76 u_1166) hd_X9_within ⟨(Nat.le_of_ble_eq_true rfl), (Nat.le_of_ble_eq_true rfl)⟩ [] [0, 1] rfl rfl rfl rfl (by decide) rfl rfl (Nat.le_of_ble_eq_true rfl) dX9_bucket_23 ⟨(Nat.le_of_ble_eq_true rfl), (Nat.le_of_ble_eq_true rfl)⟩ (fun r_8 ut_9 H locs hw_10 hP hD hS => ?_)
    have hP : va_P D vwCl [(md, .inr (9, [.int 0, .ref m_all, .ref m_deeds, .ref m_trial, .int 0, .ref m_hasImage, .ref m_tape, .ref m_key, .ref m_answered, .int 0, .int 0, .int 0, .ref m_goes, .int 0, .ref m_hotOnes, .ref m_indexed, .ref m_isChanged, .int 0, .ref m_valueNow, .int 0, .int (-1), .int 0, .ref m_didSome, .ref m_sizes, .ref m_ends])), (m_all, aI cs 51207 f_m_all)] H := hP
    have hD : va_D A [(md, .inr (9, [.int 0, .ref m_all, .ref m_deeds, .ref m_trial, .int 0, .ref m_hasImage, .ref m_tape, .ref m_key, .ref m_answered, .int 0, .int 0, .int 0, .ref m_goes, .int 0, .ref m_hotOnes, .ref m_indexed, .ref m_isChanged, .int 0, .ref m_valueNow, .int 0, .int (-1), .int 0, .ref m_didSome, .ref m_sizes, .ref m_ends])), (m_all, aI cs 51207 f_m_all)] := hD
    rcases hw_10 with hw_10 | hw_10
    · obtain ⟨er_11, hf_12⟩ := hw_10
      have hf_13 : 0 ≤ y ∧ y ≤ 2 := ⟨(w_le (d := 0) (x := y) (by decide)).mp hf_12.1, (w_ge (d := 2) (x := y) (by decide)).mp hf_12.2⟩
      subst er_11
      refine lv_if_ne (tgt := 32) hx hb dX9_bucket_26 (by decide) (fun c_14 => ?_) (fun c_14 => absurd c_14 (by decide))
      refine lv_iload_n hx hb dX9_bucket_32 rfl (lv_at hl 2 rfl) ?_
      refine lv_if_ne (tgt := 42) hx hb dX9_bucket_33 (by decide) (fun c_15 => ?_) (fun c_15 => ?_)
      · refine lv_iload_n hx hb dX9_bucket_42 rfl (lv_at hl 2 rfl) ?_
        refine lv_iconst (v := 2) hx hb dX9_bucket_43 (by decide) ?_
        refine lv_icmp_ne (tgt := 71) hx hb dX9_bucket_44 (by decide) (fun c_16 => ?_) (fun c_16 => ?_)
        · refine lv_iconst (v := 0) hx hb dX9_bucket_71 (by decide) ?_
          refine lv_istore_n (lv' := [(3, .int 0), (0, .ref md), (1, .int x), (2, .int y)]) hx hb dX9_bucket_72 rfl hl (by decide) rfl (fun ls hl => ?_)
          refine lv_iconst (v := 0) hx hb dX9_bucket_73 (by decide) ?_
          refine lv_istore (lv' := [(4, .int 0), (3, .int 0), (0, .ref md), (1, .int x), (2, .int y)]) hx hb dX9_bucket_74 hl (by decide) rfl (fun ls hl => ?_)
          refine lv_iload hx hb dX9_bucket_76 (lv_at hl 0 rfl) ?_
          refine lv_aload_n hx hb dX9_bucket_78 rfl (lv_at hl 2 rfl) ?_
          refine va_get (D := D) (ci := 9) (v := .ref m_all) (C := RX9) (T := TX9) (N := 25) hx hb hu in_X9 hown hK.1 hP 0 rfl rfl 1 (by decide) (hu _ u_1081) (fun _ h9 => h9) rfl dX9_bucket_79 ?_
          refine lv_sipush (v := 1628) hx hb dX9_bucket_82 (by decide) ?_
          refine va_iald hx hb hK.1 hP 1 0 rfl rfl (vin_c _ _ rfl) dX9_bucket_85 ?_
          refine tpi (y := 0) ((z_all _ (cl_lt (vin_c _ _ rfl))).trans (by decide +kernel)) ?_
          refine lv_icmp_ge (tgt := 125) hx hb dX9_bucket_86 (by decide) (fun c_17 => ?_) (fun c_17 => absurd (by decide) c_17)
          refine lv_iload_n hx hb dX9_bucket_125 rfl (lv_at hl 1 rfl) ?_
          exact hz () hP hD hS (by grind) [] rfl rfl (Nat.le_of_ble_eq_true rfl) (Nat.le_of_ble_eq_true rfl) .int rfl rfl dX9_bucket_126
        · refine lv_aload_n hx hb dX9_bucket_47 rfl (lv_at hl 0 rfl) ?_
          refine lv_iload_n hx hb dX9_bucket_48 rfl (lv_at hl 1 rfl) ?_
          refine kV_i (ci := 9) (As := [.int x]) (rest := []) (wc := [(md, .inr (9, [.int 0, .ref m_all, .ref m_deeds, .ref m_trial, .int 0, .ref m_hasImage, .ref m_tape, .ref m_key, .ref m_answered, .int 0, .int 0, .int 0, .ref m_goes, .int 0, .ref m_hotOnes, .ref m_indexed, .ref m_isChanged, .int 0, .ref m_valueNow, .int 0, .int (-1), .int 0, .ref m_didSome, .ref m_sizes, .ref m_ends]))]) (wr := [(m_all, aI cs 51207 f_m_all)]) hx hb hml hown hu hK hP hD hS hA hl.1 (c_X9_placeOfHot l D cs H.size x md m_all m_deeds m_trial m_hasImage m_tape m_key m_answered m_goes m_hotOnes m_indexed m_isChanged m_valueNow m_didSome m_sizes m_ends 0 0 0) (gV u_1290 u_1292 u_38 u_76 u_1293) hd_X9_placeOfHot ⟨(Nat.le_of_ble_eq_true rfl), (Nat.le_of_ble_eq_true rfl)⟩ [0] [1] rfl rfl rfl rfl (by decide) rfl 0 rfl rfl rfl (Nat.le_of_ble_eq_true rfl) dX9_bucket_49 ⟨(Nat.le_of_ble_eq_true rfl), (Nat.le_of_ble_eq_true rfl)⟩ (fun r_18 ut_19 H locs hw_20 hP hD hS => ?_)
          have hP : va_P D vwCl [(m_all, aI cs 51207 f_m_all), (md, .inr (9, [.int 0, .ref m_all, .ref m_deeds, .ref m_trial, .int 0, .ref m_hasImage, .ref m_tape, .ref m_key, .ref m_answered, .int 0, .int 0, .int 0, .ref m_goes, .int 0, .ref m_hotOnes, .ref m_indexed, .ref m_isChanged, .int 0, .ref m_valueNow, .int 0, .int (-1), .int 0, .ref m_didSome, .ref m_sizes, .ref m_ends]))] H := hP
          have hD : va_D A [(m_all, aI cs 51207 f_m_all), (md, .inr (9, [.int 0, .ref m_all, .ref m_deeds, .ref m_trial, .int 0, .ref m_hasImage, .ref m_tape, .ref m_key, .ref m_answered, .int 0, .int 0, .int 0, .ref m_goes, .int 0, .ref m_hotOnes, .ref m_indexed, .ref m_isChanged, .int 0, .ref m_valueNow, .int 0, .int (-1), .int 0, .ref m_didSome, .ref m_sizes, .ref m_ends]))] := hD
          have er_21 := hw_20
          subst er_21
          refine lv_iconst (v := (-1)) hx hb dX9_bucket_52 (by decide) ?_
          refine lv_icmp_eq (tgt := 69) hx hb dX9_bucket_53 (by decide) (fun c_22 => ?_) (fun c_22 => absurd (by decide) c_22)
          refine lv_iconst (v := 0) hx hb dX9_bucket_69 (by decide) ?_
          exact hz () hP hD hS (by grind) [] rfl rfl (Nat.le_of_ble_eq_true rfl) (Nat.le_of_ble_eq_true rfl) .int rfl rfl dX9_bucket_70
      · refine lv_aload_n hx hb dX9_bucket_36 rfl (lv_at hl 0 rfl) ?_
        refine lv_iload_n hx hb dX9_bucket_37 rfl (lv_at hl 1 rfl) ?_
        refine kV_i (ci := 9) (As := [.int x]) (rest := []) (wc := [(md, .inr (9, [.int 0, .ref m_all, .ref m_deeds, .ref m_trial, .int 0, .ref m_hasImage, .ref m_tape, .ref m_key, .ref m_answered, .int 0, .int 0, .int 0, .ref m_goes, .int 0, .ref m_hotOnes, .ref m_indexed, .ref m_isChanged, .int 0, .ref m_valueNow, .int 0, .int (-1), .int 0, .ref m_didSome, .ref m_sizes, .ref m_ends]))]) (wr := [(m_all, aI cs 51207 f_m_all)]) hx hb hml hown hu hK hP hD hS hA hl.1 (c_X9_placeOfHot l D cs H.size x md m_all m_deeds m_trial m_hasImage m_tape m_key m_answered m_goes m_hotOnes m_indexed m_isChanged m_valueNow m_didSome m_sizes m_ends 0 0 0) (gV u_1290 u_1292 u_38 u_76 u_1293) hd_X9_placeOfHot ⟨(Nat.le_of_ble_eq_true rfl), (Nat.le_of_ble_eq_true rfl)⟩ [0] [1] rfl rfl rfl rfl (by decide) rfl 0 rfl rfl rfl (Nat.le_of_ble_eq_true rfl) dX9_bucket_38 ⟨(Nat.le_of_ble_eq_true rfl), (Nat.le_of_ble_eq_true rfl)⟩ (fun r_23 ut_24 H locs hw_25 hP hD hS => ?_)
        have hP : va_P D vwCl [(m_all, aI cs 51207 f_m_all), (md, .inr (9, [.int 0, .ref m_all, .ref m_deeds, .ref m_trial, .int 0, .ref m_hasImage, .ref m_tape, .ref m_key, .ref m_answered, .int 0, .int 0, .int 0, .ref m_goes, .int 0, .ref m_hotOnes, .ref m_indexed, .ref m_isChanged, .int 0, .ref m_valueNow, .int 0, .int (-1), .int 0, .ref m_didSome, .ref m_sizes, .ref m_ends]))] H := hP
        have hD : va_D A [(m_all, aI cs 51207 f_m_all), (md, .inr (9, [.int 0, .ref m_all, .ref m_deeds, .ref m_trial, .int 0, .ref m_hasImage, .ref m_tape, .ref m_key, .ref m_answered, .int 0, .int 0, .int 0, .ref m_goes, .int 0, .ref m_hotOnes, .ref m_indexed, .ref m_isChanged, .int 0, .ref m_valueNow, .int 0, .int (-1), .int 0, .ref m_didSome, .ref m_sizes, .ref m_ends]))] := hD
        have er_26 := hw_25
        subst er_26
        exact hz () hP hD hS (by grind) [] rfl rfl (Nat.le_of_ble_eq_true rfl) (Nat.le_of_ble_eq_true rfl) .int rfl rfl dX9_bucket_41
    · obtain ⟨er_27, hf_28⟩ := hw_10
      have hf_29 : ¬ (0 ≤ y ∧ y ≤ 2) := fun h => hf_28 ⟨(w_le (d := 0) (x := y) (by decide)).mpr h.1, (w_ge (d := 2) (x := y) (by decide)).mpr h.2⟩
      subst er_27
      refine lv_if_ne (tgt := 32) hx hb dX9_bucket_26 (by decide) (fun c_30 => absurd (by decide) c_30) (fun c_30 => ?_)
      refine lv_bipush (v := (-2)) hx hb dX9_bucket_29 (by decide) ?_
      exact hz () hP hD hS (by grind) [] rfl rfl (Nat.le_of_ble_eq_true rfl) (Nat.le_of_ble_eq_true rfl) .int rfl rfl dX9_bucket_31
  · obtain ⟨er_31, hf_32⟩ := hw_3
    have hf_33 : ¬ (0 ≤ x ∧ x ≤ 7) := fun h => hf_32 ⟨(w_le (d := 0) (x := x) (by decide)).mpr h.1, (w_ge (d := 7) (x := x) (by decide)).mpr h.2⟩
    subst er_31
    refine lv_if_eq (tgt := 29) hx hb dX9_bucket_14 (by decide) (fun c_34 => ?_) (fun c_34 => absurd (by decide) c_34)
    refine lv_bipush (v := (-2)) hx hb dX9_bucket_29 (by decide) ?_
    exact hz () hP hD hS (by grind) [] rfl rfl (Nat.le_of_ble_eq_true rfl) (Nat.le_of_ble_eq_true rfl) .int rfl rfl dX9_bucket_31
abbrev rm_c_X9_index : Room := { frames := 1, cells := 0, slots := 0, locals := 25 }
set_option maxHeartbeats 4000000 in
set_option maxRecDepth 100000 in
theorem c_X9_index (l : Launch) (D : va_G) (cs : Nat → ClassId) (sz : Nat) (x : Int32) (md : Nat) (m_all : Nat) (m_deeds : Nat) (m_trial : Nat) (m_hasImage : Nat) (m_tape : Nat) (m_key : Nat) (m_answered : Nat) (m_goes : Nat) (m_hotOnes : Nat) (m_indexed : Nat) (f_m_indexed : Nat → Int32) (m_isChanged : Nat) (m_valueNow : Nat) (m_didSome : Nat) (m_sizes : Nat) (m_ends : Nat) (z_f_m_indexed : ∀ j, j < 3 → f_m_indexed j = 0) : cMi l yX9_index (Cond.code yX9_index cX9_index 2 (some .int)) (rm_c_X9_index) D cs [.ref md, .int x] sz [(md, .inr (9, [.int 0, .ref m_all, .ref m_deeds, .ref m_trial, .int 0, .ref m_hasImage, .ref m_tape, .ref m_key, .ref m_answered, .int 0, .int 0, .int 0, .ref m_goes, .int 0, .ref m_hotOnes, .ref m_indexed, .ref m_isChanged, .int 0, .ref m_valueNow, .int 0, .int (-1), .int 0, .ref m_didSome, .ref m_sizes, .ref m_ends])), (m_indexed, aI cs 3 f_m_indexed)] (fun (r : Int32) (u : Unit) => ((r = (-2)) ∧ (x < 0 ∨ 2 < x)) ∨ ((r = 0) ∧ (¬ x < 0 ∧ ¬ 2 < x))) (fun (u : Unit) => []) := by
  refine kMet_i RX9 (by decide) rfl (Nat.le_of_ble_eq_true rfl) ?_
  intro p e s m below meth c ls A Qz H locs hx hb hml hown hin hu hK hsz hA hP hD hS hl hz
  subst hsz
  have hl : lv_has ls 2 [(0, .ref md), (1, .int x)] := hl
  refine lv_aload_n hx hb dX9_index_0 rfl (lv_at hl 0 rfl) ?_
  refine lv_iconst (v := 0) hx hb dX9_index_1 (by decide) ?_
  refine va_put (D := D) (ci := 9) (v := .int 0) (ty := tyX9 0) (C := RX9) (T := TX9) (N := 25) hx hb hu in_X9 tyX9 tyX9_ok nmX9 hown hK.1 hP hD hS 0 rfl rfl 0 (by decide) (hu _ u_1080) (fun _ h9 => h9) rfl (tyX9_ok 0 (by decide)) rfl rfl (Nat.le_of_ble_eq_true rfl) dX9_index_2 (fun H locs hP hD hS => ?_)
  have hP : va_P D vwCl [(md, .inr (9, [.int 0, .ref m_all, .ref m_deeds, .ref m_trial, .int 0, .ref m_hasImage, .ref m_tape, .ref m_key, .ref m_answered, .int 0, .int 0, .int 0, .ref m_goes, .int 0, .ref m_hotOnes, .ref m_indexed, .ref m_isChanged, .int 0, .ref m_valueNow, .int 0, .int (-1), .int 0, .ref m_didSome, .ref m_sizes, .ref m_ends])), (m_indexed, aI cs 3 f_m_indexed)] H := hP
  have hD : va_D A [(md, .inr (9, [.int 0, .ref m_all, .ref m_deeds, .ref m_trial, .int 0, .ref m_hasImage, .ref m_tape, .ref m_key, .ref m_answered, .int 0, .int 0, .int 0, .ref m_goes, .int 0, .ref m_hotOnes, .ref m_indexed, .ref m_isChanged, .int 0, .ref m_valueNow, .int 0, .int (-1), .int 0, .ref m_didSome, .ref m_sizes, .ref m_ends])), (m_indexed, aI cs 3 f_m_indexed)] := hD
  refine lv_iload_n hx hb dX9_index_5 rfl (lv_at hl 1 rfl) ?_
  refine lv_i2l (v := x.toInt64) hx hb dX9_index_6 rfl ?_
  refine lv_lconst (v := 0) hx hb dX9_index_7 (by decide) ?_
  refine lv_ldc2 (v := 2) hx hb hown (hu _ u_1347) dX9_index_8 ?_
  refine kS_i  (As := [.long x.toInt64, .long 0, .long 2]) (rest := []) (wc := []) (wr := [(md, .inr (9, [.int 0, .ref m_all, .ref m_deeds, .ref m_trial, .int 0, .ref m_hasImage, .ref m_tape, .ref m_key, .ref m_answered, .int 0, .int 0, .int 0, .ref m_goes, .int 0, .ref m_hotOnes, .ref m_indexed, .ref m_isChanged, .int 0, .ref m_valueNow, .int 0, .int (-1), .int 0, .ref m_didSome, .ref m_sizes, .ref m_ends])), (m_indexed, aI cs 3 f_m_indexed)]) hx hb hml hown hu hK hP hD hS hA hl.1 (c_X9_within l D cs H.size x.toInt64 0 2) (gS u_1164 u_1165 u_76 u_1166) hd_X9_within ⟨(Nat.le_of_ble_eq_true rfl), (Nat.le_of_ble_eq_true rfl)⟩ [] [0, 1] rfl rfl rfl rfl (by decide) rfl rfl (Nat.le_of_ble_eq_true rfl) dX9_index_11 ⟨(Nat.le_of_ble_eq_true rfl), (Nat.le_of_ble_eq_true rfl)⟩ (fun r_1 ut_2 H locs hw_3 hP hD hS => ?_)
  have hP : va_P D vwCl [(md, .inr (9, [.int 0, .ref m_all, .ref m_deeds, .ref m_trial, .int 0, .ref m_hasImage, .ref m_tape, .ref m_key, .ref m_answered, .int 0, .int 0, .int 0, .ref m_goes, .int 0, .ref m_hotOnes, .ref m_indexed, .ref m_isChanged, .int 0, .ref m_valueNow, .int 0, .int (-1), .int 0, .ref m_didSome, .ref m_sizes, .ref m_ends])), (m_indexed, aI cs 3 f_m_indexed)] H := hP
  have hD : va_D A [(md, .inr (9, [.int 0, .ref m_all, .ref m_deeds, .ref m_trial, .int 0, .ref m_hasImage, .ref m_tape, .ref m_key, .ref m_answered, .int 0, .int 0, .int 0, .ref m_goes, .int 0, .ref m_hotOnes, .ref m_indexed, .ref m_isChanged, .int 0, .ref m_valueNow, .int 0, .int (-1), .int 0, .ref m_didSome, .ref m_sizes, .ref m_ends])), (m_indexed, aI cs 3 f_m_indexed)] := hD
  rcases hw_3 with hw_3 | hw_3
  · obtain ⟨er_4, hf_5⟩ := hw_3
    have hf_6 : 0 ≤ x ∧ x ≤ 2 := ⟨(w_le (d := 0) (x := x) (by decide)).mp hf_5.1, (w_ge (d := 2) (x := x) (by decide)).mp hf_5.2⟩
    subst er_4
    refine lv_if_eq (tgt := 26) hx hb dX9_index_14 (by decide) (fun c_7 => absurd c_7 (by decide)) (fun c_7 => ?_)
    refine lv_aload_n hx hb dX9_index_17 rfl (lv_at hl 0 rfl) ?_
    refine va_get (D := D) (ci := 9) (v := .ref m_indexed) (C := RX9) (T := TX9) (N := 25) hx hb hu in_X9 hown hK.1 hP 0 rfl rfl 15 (by decide) (hu _ u_1095) (fun _ h9 => h9) rfl dX9_index_18 ?_
    refine lv_iload_n hx hb dX9_index_21 rfl (lv_at hl 1 rfl) ?_
    refine va_iald hx hb hK.1 hP 1 0 rfl rfl (vin_of (N := 3) (by grind) (by grind) rfl) dX9_index_22 ?_
    refine tpi (y := 0) (z_f_m_indexed _ (cl_lt (vin_of (N := 3) (by grind) (by grind) rfl))) ?_
    refine lv_goto (tgt := 28) hx hb dX9_index_23 (by decide) ?_
    exact hz () hP hD hS (by grind) [] rfl rfl (Nat.le_of_ble_eq_true rfl) (Nat.le_of_ble_eq_true rfl) .int rfl rfl dX9_index_28
  · obtain ⟨er_8, hf_9⟩ := hw_3
    have hf_10 : ¬ (0 ≤ x ∧ x ≤ 2) := fun h => hf_9 ⟨(w_le (d := 0) (x := x) (by decide)).mpr h.1, (w_ge (d := 2) (x := x) (by decide)).mpr h.2⟩
    subst er_8
    refine lv_if_eq (tgt := 26) hx hb dX9_index_14 (by decide) (fun c_11 => ?_) (fun c_11 => absurd (by decide) c_11)
    refine lv_bipush (v := (-2)) hx hb dX9_index_26 (by decide) ?_
    exact hz () hP hD hS (by grind) [] rfl rfl (Nat.le_of_ble_eq_true rfl) (Nat.le_of_ble_eq_true rfl) .int rfl rfl dX9_index_28
abbrev rm_c_X9_undo : Room := { frames := 1, cells := 0, slots := 0, locals := 25 }
set_option maxHeartbeats 4000000 in
set_option maxRecDepth 100000 in
theorem c_X9_undo (l : Launch) (D : va_G) (cs : Nat → ClassId) (sz : Nat) (x : Int32) (md : Nat) (m_all : Nat) (m_deeds : Nat) (m_trial : Nat) (m_hasImage : Nat) (m_tape : Nat) (m_key : Nat) (m_answered : Nat) (m_goes : Nat) (m_hotOnes : Nat) (m_indexed : Nat) (m_isChanged : Nat) (m_valueNow : Nat) (m_didSome : Nat) (m_sizes : Nat) (m_ends : Nat)  : cMi l yX9_undo (Cond.code yX9_undo cX9_undo 3 (some .int)) (rm_c_X9_undo) D cs [.ref md, .int x] sz [(md, .inr (9, [.int 0, .ref m_all, .ref m_deeds, .ref m_trial, .int 0, .ref m_hasImage, .ref m_tape, .ref m_key, .ref m_answered, .int 0, .int 0, .int 0, .ref m_goes, .int 0, .ref m_hotOnes, .ref m_indexed, .ref m_isChanged, .int 0, .ref m_valueNow, .int 0, .int (-1), .int 0, .ref m_didSome, .ref m_sizes, .ref m_ends]))] (fun (r : Int32) (u : Unit) => (r = (-3))) (fun (u : Unit) => []) := by
  refine kMet_i RX9 (by decide) rfl (Nat.le_of_ble_eq_true rfl) ?_
  intro p e s m below meth c ls A Qz H locs hx hb hml hown hin hu hK hsz hA hP hD hS hl hz
  subst hsz
  have hl : lv_has ls 3 [(0, .ref md), (1, .int x)] := hl
  refine lv_aload_n hx hb dX9_undo_0 rfl (lv_at hl 0 rfl) ?_
  refine lv_iconst (v := 0) hx hb dX9_undo_1 (by decide) ?_
  refine va_put (D := D) (ci := 9) (v := .int 0) (ty := tyX9 0) (C := RX9) (T := TX9) (N := 25) hx hb hu in_X9 tyX9 tyX9_ok nmX9 hown hK.1 hP hD hS 0 rfl rfl 0 (by decide) (hu _ u_1080) (fun _ h9 => h9) rfl (tyX9_ok 0 (by decide)) rfl rfl (Nat.le_of_ble_eq_true rfl) dX9_undo_2 (fun H locs hP hD hS => ?_)
  have hP : va_P D vwCl [(md, .inr (9, [.int 0, .ref m_all, .ref m_deeds, .ref m_trial, .int 0, .ref m_hasImage, .ref m_tape, .ref m_key, .ref m_answered, .int 0, .int 0, .int 0, .ref m_goes, .int 0, .ref m_hotOnes, .ref m_indexed, .ref m_isChanged, .int 0, .ref m_valueNow, .int 0, .int (-1), .int 0, .ref m_didSome, .ref m_sizes, .ref m_ends]))] H := hP
  have hD : va_D A [(md, .inr (9, [.int 0, .ref m_all, .ref m_deeds, .ref m_trial, .int 0, .ref m_hasImage, .ref m_tape, .ref m_key, .ref m_answered, .int 0, .int 0, .int 0, .ref m_goes, .int 0, .ref m_hotOnes, .ref m_indexed, .ref m_isChanged, .int 0, .ref m_valueNow, .int 0, .int (-1), .int 0, .ref m_didSome, .ref m_sizes, .ref m_ends]))] := hD
  refine lv_iload_n hx hb dX9_undo_5 rfl (lv_at hl 1 rfl) ?_
  refine lv_i2l (v := x.toInt64) hx hb dX9_undo_6 rfl ?_
  refine lv_lconst (v := 1) hx hb dX9_undo_7 (by decide) ?_
  refine lv_ldc2 (v := 10) hx hb hown (hu _ u_1569) dX9_undo_8 ?_
  refine kS_i  (As := [.long x.toInt64, .long 1, .long 10]) (rest := []) (wc := []) (wr := [(md, .inr (9, [.int 0, .ref m_all, .ref m_deeds, .ref m_trial, .int 0, .ref m_hasImage, .ref m_tape, .ref m_key, .ref m_answered, .int 0, .int 0, .int 0, .ref m_goes, .int 0, .ref m_hotOnes, .ref m_indexed, .ref m_isChanged, .int 0, .ref m_valueNow, .int 0, .int (-1), .int 0, .ref m_didSome, .ref m_sizes, .ref m_ends]))]) hx hb hml hown hu hK hP hD hS hA hl.1 (c_X9_within l D cs H.size x.toInt64 1 10) (gS u_1164 u_1165 u_76 u_1166) hd_X9_within ⟨(Nat.le_of_ble_eq_true rfl), (Nat.le_of_ble_eq_true rfl)⟩ [] [0] rfl rfl rfl rfl (by decide) rfl rfl (Nat.le_of_ble_eq_true rfl) dX9_undo_11 ⟨(Nat.le_of_ble_eq_true rfl), (Nat.le_of_ble_eq_true rfl)⟩ (fun r_1 ut_2 H locs hw_3 hP hD hS => ?_)
  have hP : va_P D vwCl [(md, .inr (9, [.int 0, .ref m_all, .ref m_deeds, .ref m_trial, .int 0, .ref m_hasImage, .ref m_tape, .ref m_key, .ref m_answered, .int 0, .int 0, .int 0, .ref m_goes, .int 0, .ref m_hotOnes, .ref m_indexed, .ref m_isChanged, .int 0, .ref m_valueNow, .int 0, .int (-1), .int 0, .ref m_didSome, .ref m_sizes, .ref m_ends]))] H := hP
  have hD : va_D A [(md, .inr (9, [.int 0, .ref m_all, .ref m_deeds, .ref m_trial, .int 0, .ref m_hasImage, .ref m_tape, .ref m_key, .ref m_answered, .int 0, .int 0, .int 0, .ref m_goes, .int 0, .ref m_hotOnes, .ref m_indexed, .ref m_isChanged, .int 0, .ref m_valueNow, .int 0, .int (-1), .int 0, .ref m_didSome, .ref m_sizes, .ref m_ends]))] := hD
  rcases hw_3 with hw_3 | hw_3
  · obtain ⟨er_4, hf_5⟩ := hw_3
    have hf_6 : 1 ≤ x ∧ x ≤ 10 := ⟨(w_le (d := 1) (x := x) (by decide)).mp hf_5.1, (w_ge (d := 10) (x := x) (by decide)).mp hf_5.2⟩
    subst er_4
    refine lv_if_eq (tgt := 25) hx hb dX9_undo_14 (by decide) (fun c_7 => absurd c_7 (by decide)) (fun c_7 => ?_)
    refine lv_iload_n hx hb dX9_undo_17 rfl (lv_at hl 1 rfl) ?_
    refine lv_aload_n hx hb dX9_undo_18 rfl (lv_at hl 0 rfl) ?_
    refine va_get (D := D) (ci := 9) (v := .int 0) (C := RX9) (T := TX9) (N := 25) hx hb hu in_X9 hown hK.1 hP 0 rfl rfl 4 (by decide) (hu _ u_1084) (fun _ h9 => h9) rfl dX9_undo_19 ?_
    refine lv_icmp_le (tgt := 28) hx hb dX9_undo_22 (by decide) (fun c_8 => absurd c_8 (by grind)) (fun c_8 => ?_)
    refine lv_bipush (v := (-3)) hx hb dX9_undo_25 (by decide) ?_
    exact hz () hP hD hS rfl [] rfl rfl (Nat.le_of_ble_eq_true rfl) (Nat.le_of_ble_eq_true rfl) .int rfl rfl dX9_undo_27
  · obtain ⟨er_9, hf_10⟩ := hw_3
    have hf_11 : ¬ (1 ≤ x ∧ x ≤ 10) := fun h => hf_10 ⟨(w_le (d := 1) (x := x) (by decide)).mpr h.1, (w_ge (d := 10) (x := x) (by decide)).mpr h.2⟩
    subst er_9
    refine lv_if_eq (tgt := 25) hx hb dX9_undo_14 (by decide) (fun c_12 => ?_) (fun c_12 => absurd (by decide) c_12)
    refine lv_bipush (v := (-3)) hx hb dX9_undo_25 (by decide) ?_
    exact hz () hP hD hS rfl [] rfl rfl (Nat.le_of_ble_eq_true rfl) (Nat.le_of_ble_eq_true rfl) .int rfl rfl dX9_undo_27
abbrev rm_c_X9_image : Room := { frames := 1, cells := 0, slots := 0, locals := 25 }
set_option maxHeartbeats 4000000 in
set_option maxRecDepth 100000 in
theorem c_X9_image (l : Launch) (D : va_G) (cs : Nat → ClassId) (sz : Nat) (x : Int32) (md : Nat) (m_all : Nat) (f_m_all : Nat → Int32) (m_deeds : Nat) (m_trial : Nat) (m_hasImage : Nat) (f_m_hasImage : Nat → Int32) (m_tape : Nat) (m_key : Nat) (m_answered : Nat) (m_goes : Nat) (m_hotOnes : Nat) (m_indexed : Nat) (m_isChanged : Nat) (m_valueNow : Nat) (m_didSome : Nat) (m_sizes : Nat) (m_ends : Nat) (z_all : ∀ j, j < 51207 → f_m_all j = AL j) (z_f_m_hasImage : ∀ j, j < 2 → f_m_hasImage j = 0) : cMi l yX9_image (Cond.code yX9_image cX9_image 3 (some .int)) (rm_c_X9_image) D cs [.ref md, .int x] sz [(md, .inr (9, [.int 0, .ref m_all, .ref m_deeds, .ref m_trial, .int 0, .ref m_hasImage, .ref m_tape, .ref m_key, .ref m_answered, .int 0, .int 0, .int 0, .ref m_goes, .int 0, .ref m_hotOnes, .ref m_indexed, .ref m_isChanged, .int 0, .ref m_valueNow, .int 0, .int (-1), .int 0, .ref m_didSome, .ref m_sizes, .ref m_ends])), (m_all, aI cs 51207 f_m_all), (m_hasImage, aZ cs 2 f_m_hasImage)] (fun (r : Int32) (u : Unit) => ((r = (-2)) ∧ (x < 0 ∨ 2 ≤ x)) ∨ ((r = 0) ∧ (¬ x < 0 ∧ x < 2))) (fun (u : Unit) => []) := by
  refine kMet_i RX9 (by decide) rfl (Nat.le_of_ble_eq_true rfl) ?_
  intro p e s m below meth c ls A Qz H locs hx hb hml hown hin hu hK hsz hA hP hD hS hl hz
  subst hsz
  have hl : lv_has ls 3 [(0, .ref md), (1, .int x)] := hl
  refine lv_aload_n hx hb dX9_image_0 rfl (lv_at hl 0 rfl) ?_
  refine lv_iconst (v := 0) hx hb dX9_image_1 (by decide) ?_
  refine va_put (D := D) (ci := 9) (v := .int 0) (ty := tyX9 0) (C := RX9) (T := TX9) (N := 25) hx hb hu in_X9 tyX9 tyX9_ok nmX9 hown hK.1 hP hD hS 0 rfl rfl 0 (by decide) (hu _ u_1080) (fun _ h9 => h9) rfl (tyX9_ok 0 (by decide)) rfl rfl (Nat.le_of_ble_eq_true rfl) dX9_image_2 (fun H locs hP hD hS => ?_)
  have hP : va_P D vwCl [(md, .inr (9, [.int 0, .ref m_all, .ref m_deeds, .ref m_trial, .int 0, .ref m_hasImage, .ref m_tape, .ref m_key, .ref m_answered, .int 0, .int 0, .int 0, .ref m_goes, .int 0, .ref m_hotOnes, .ref m_indexed, .ref m_isChanged, .int 0, .ref m_valueNow, .int 0, .int (-1), .int 0, .ref m_didSome, .ref m_sizes, .ref m_ends])), (m_all, aI cs 51207 f_m_all), (m_hasImage, aZ cs 2 f_m_hasImage)] H := hP
  have hD : va_D A [(md, .inr (9, [.int 0, .ref m_all, .ref m_deeds, .ref m_trial, .int 0, .ref m_hasImage, .ref m_tape, .ref m_key, .ref m_answered, .int 0, .int 0, .int 0, .ref m_goes, .int 0, .ref m_hotOnes, .ref m_indexed, .ref m_isChanged, .int 0, .ref m_valueNow, .int 0, .int (-1), .int 0, .ref m_didSome, .ref m_sizes, .ref m_ends])), (m_all, aI cs 51207 f_m_all), (m_hasImage, aZ cs 2 f_m_hasImage)] := hD
  refine lv_iload_n hx hb dX9_image_5 rfl (lv_at hl 1 rfl) ?_
  refine lv_i2l (v := x.toInt64) hx hb dX9_image_6 rfl ?_
  refine lv_lconst (v := 0) hx hb dX9_image_7 (by decide) ?_
  refine lv_lconst (v := 1) hx hb dX9_image_8 (by decide) ?_
  refine kS_i  (As := [.long x.toInt64, .long 0, .long 1]) (rest := []) (wc := []) (wr := [(md, .inr (9, [.int 0, .ref m_all, .ref m_deeds, .ref m_trial, .int 0, .ref m_hasImage, .ref m_tape, .ref m_key, .ref m_answered, .int 0, .int 0, .int 0, .ref m_goes, .int 0, .ref m_hotOnes, .ref m_indexed, .ref m_isChanged, .int 0, .ref m_valueNow, .int 0, .int (-1), .int 0, .ref m_didSome, .ref m_sizes, .ref m_ends])), (m_all, aI cs 51207 f_m_all), (m_hasImage, aZ cs 2 f_m_hasImage)]) hx hb hml hown hu hK hP hD hS hA hl.1 (c_X9_within l D cs H.size x.toInt64 0 1) (gS u_1164 u_1165 u_76 u_1166) hd_X9_within ⟨(Nat.le_of_ble_eq_true rfl), (Nat.le_of_ble_eq_true rfl)⟩ [] [0, 1, 2] rfl rfl rfl rfl (by decide) rfl rfl (Nat.le_of_ble_eq_true rfl) dX9_image_9 ⟨(Nat.le_of_ble_eq_true rfl), (Nat.le_of_ble_eq_true rfl)⟩ (fun r_1 ut_2 H locs hw_3 hP hD hS => ?_)
  have hP : va_P D vwCl [(md, .inr (9, [.int 0, .ref m_all, .ref m_deeds, .ref m_trial, .int 0, .ref m_hasImage, .ref m_tape, .ref m_key, .ref m_answered, .int 0, .int 0, .int 0, .ref m_goes, .int 0, .ref m_hotOnes, .ref m_indexed, .ref m_isChanged, .int 0, .ref m_valueNow, .int 0, .int (-1), .int 0, .ref m_didSome, .ref m_sizes, .ref m_ends])), (m_all, aI cs 51207 f_m_all), (m_hasImage, aZ cs 2 f_m_hasImage)] H := hP
  have hD : va_D A [(md, .inr (9, [.int 0, .ref m_all, .ref m_deeds, .ref m_trial, .int 0, .ref m_hasImage, .ref m_tape, .ref m_key, .ref m_answered, .int 0, .int 0, .int 0, .ref m_goes, .int 0, .ref m_hotOnes, .ref m_indexed, .ref m_isChanged, .int 0, .ref m_valueNow, .int 0, .int (-1), .int 0, .ref m_didSome, .ref m_sizes, .ref m_ends])), (m_all, aI cs 51207 f_m_all), (m_hasImage, aZ cs 2 f_m_hasImage)] := hD
  rcases hw_3 with hw_3 | hw_3
  · obtain ⟨er_4, hf_5⟩ := hw_3
    have hf_6 : 0 ≤ x ∧ x ≤ 1 := ⟨(w_le (d := 0) (x := x) (by decide)).mp hf_5.1, (w_ge (d := 1) (x := x) (by decide)).mp hf_5.2⟩
    subst er_4
    refine lv_if_ne (tgt := 18) hx hb dX9_image_12 (by decide) (fun c_7 => ?_) (fun c_7 => absurd c_7 (by decide))
    rcases (by grind : x = 0 ∨ x = 1) with c_8 | c_8
    · subst c_8
      refine lv_iconst (v := 0) hx hb dX9_image_18 (by decide) ?_
      refine lv_istore_n (lv' := [(2, .int 0), (0, .ref md), (1, .int 0)]) hx hb dX9_image_19 rfl hl (by decide) rfl (fun ls hl => ?_)
      have lp_9 : ∀ (fuel : Nat) (i : Nat) (f : Nat → Int32) (hfuel : 17069 < i + fuel) (hi : i ≤ 17069) (H : Heap) (locs : List Loc) (hP : va_P D vwCl [(md, .inr (9, [.int 0, .ref m_all, .ref m_deeds, .ref m_trial, .int 0, .ref m_hasImage, .ref m_tape, .ref m_key, .ref m_answered, .int 0, .int 0, .int 0, .ref m_goes, .int 0, .ref m_hotOnes, .ref m_indexed, .ref m_isChanged, .int 0, .ref m_valueNow, .int 0, .int (-1), .int 0, .ref m_didSome, .ref m_sizes, .ref m_ends])), (m_all, aI cs 51207 f), (m_hasImage, aZ cs 2 f_m_hasImage)] H) (hD : va_D A [(md, .inr (9, [.int 0, .ref m_all, .ref m_deeds, .ref m_trial, .int 0, .ref m_hasImage, .ref m_tape, .ref m_key, .ref m_answered, .int 0, .int 0, .int 0, .ref m_goes, .int 0, .ref m_hotOnes, .ref m_indexed, .ref m_isChanged, .int 0, .ref m_valueNow, .int 0, .int (-1), .int 0, .ref m_didSome, .ref m_sizes, .ref m_ends])), (m_all, aI cs 51207 f), (m_hasImage, aZ cs 2 f_m_hasImage)]) (hS : va_S A s.heap H locs) (ls : Array Slot) (hl : lv_has ls 3 [(2, .int (nI i)), (0, .ref md), (1, .int 0)]), W p l e rm_c_X9_image s m [.ref md, .int 0].toArray below meth c H locs 0 0 Qz (F0 m 20 ls []) := by
        intro fuel
        induction fuel with
        | zero =>
          intro i f hfuel hi H locs hP hD hS ls hl
          exact absurd hfuel (by omega)
        | succ fuel ih =>
          intro i f hfuel hi H locs hP hD hS ls hl
          refine lv_iload_n hx hb dX9_image_20 rfl (lv_at hl 0 rfl) ?_
          refine lv_sipush (v := 17069) hx hb dX9_image_21 (by decide) ?_
          refine lv_icmp_ge (tgt := 53) hx hb dX9_image_24 (by decide) (fun c_10 => ?_) (fun c_10 => ?_)
          · have gc_10 : 17069 ≤ i := (nI_leI (a := 17069) (b := i) (by omega) (by omega)).mp c_10
            refine lv_aload_n hx hb dX9_image_53 rfl (lv_at hl 1 rfl) ?_
            refine va_get (D := D) (ci := 9) (v := .ref m_hasImage) (C := RX9) (T := TX9) (N := 25) hx hb hu in_X9 hown hK.1 hP 0 rfl rfl 5 (by decide) (hu _ u_1085) (fun _ h9 => h9) rfl dX9_image_54 ?_
            refine lv_iload_n hx hb dX9_image_57 rfl (lv_at hl 2 rfl) ?_
            refine lv_iconst (v := 1) hx hb dX9_image_58 (by decide) ?_
            refine va_zast hx hb hK.1 hP hD hS 2 1 rfl rfl (vin_c _ _ rfl) dX9_image_59 (fun H locs hP hD hS => ?_)
            have hP : va_P D vwCl [(md, .inr (9, [.int 0, .ref m_all, .ref m_deeds, .ref m_trial, .int 0, .ref m_hasImage, .ref m_tape, .ref m_key, .ref m_answered, .int 0, .int 0, .int 0, .ref m_goes, .int 0, .ref m_hotOnes, .ref m_indexed, .ref m_isChanged, .int 0, .ref m_valueNow, .int 0, .int (-1), .int 0, .ref m_didSome, .ref m_sizes, .ref m_ends])), (m_all, aI cs 51207 f), (m_hasImage, aZ cs 2 (upd f_m_hasImage (0 : Int32).toNatClampNeg (vp_nar .boolean 1)))] H := hP
            have hD : va_D A [(md, .inr (9, [.int 0, .ref m_all, .ref m_deeds, .ref m_trial, .int 0, .ref m_hasImage, .ref m_tape, .ref m_key, .ref m_answered, .int 0, .int 0, .int 0, .ref m_goes, .int 0, .ref m_hotOnes, .ref m_indexed, .ref m_isChanged, .int 0, .ref m_valueNow, .int 0, .int (-1), .int 0, .ref m_didSome, .ref m_sizes, .ref m_ends])), (m_all, aI cs 51207 f), (m_hasImage, aZ cs 2 (upd f_m_hasImage (0 : Int32).toNatClampNeg (vp_nar .boolean 1)))] := hD
            refine lv_iconst (v := 0) hx hb dX9_image_60 (by decide) ?_
            exact hz () hP hD hS (by grind) [] rfl rfl (Nat.le_of_ble_eq_true rfl) (Nat.le_of_ble_eq_true rfl) .int rfl rfl dX9_image_61
          · have gc_10 : ¬ 17069 ≤ i := fun h => c_10 ((nI_leI (a := 17069) (b := i) (by omega) (by omega)).mpr h)
            refine lv_aload_n hx hb dX9_image_27 rfl (lv_at hl 1 rfl) ?_
            refine va_get (D := D) (ci := 9) (v := .ref m_all) (C := RX9) (T := TX9) (N := 25) hx hb hu in_X9 hown hK.1 hP 0 rfl rfl 1 (by decide) (hu _ u_1081) (fun _ h9 => h9) rfl dX9_image_28 ?_
            refine lv_sipush (v := 17069) hx hb dX9_image_31 (by decide) ?_
            refine lv_iload_n hx hb dX9_image_34 rfl (lv_at hl 2 rfl) ?_
            refine lv_iconst (v := 1) hx hb dX9_image_35 (by decide) ?_
            refine lv_iadd hx hb dX9_image_36 ?_
            refine tpi (y := 1) (by decide) ?_
            refine lv_imul hx hb dX9_image_37 ?_
            refine tpi (y := 17069) (by decide) ?_
            refine lv_iload_n hx hb dX9_image_38 rfl (lv_at hl 0 rfl) ?_
            refine lv_iadd hx hb dX9_image_39 ?_
            refine tpi (y := nI (17069 + i)) (nI_add _ _) ?_
            refine lv_aload_n hx hb dX9_image_40 rfl (lv_at hl 1 rfl) ?_
            refine va_get (D := D) (ci := 9) (v := .ref m_all) (C := RX9) (T := TX9) (N := 25) hx hb hu in_X9 hown hK.1 hP 0 rfl rfl 1 (by decide) (hu _ u_1081) (fun _ h9 => h9) rfl dX9_image_41 ?_
            refine lv_iload_n hx hb dX9_image_44 rfl (lv_at hl 0 rfl) ?_
            refine va_iald hx hb hK.1 hP 1 0 rfl rfl (vp_in_nI (by omega) (by omega)) dX9_image_45 ?_
            refine va_iast hx hb hK.1 hP hD hS 1 0 rfl rfl (vp_in_nI (by omega) (by omega)) dX9_image_46 (fun H locs hP hD hS => ?_)
            have hP : va_P D vwCl [(md, .inr (9, [.int 0, .ref m_all, .ref m_deeds, .ref m_trial, .int 0, .ref m_hasImage, .ref m_tape, .ref m_key, .ref m_answered, .int 0, .int 0, .int 0, .ref m_goes, .int 0, .ref m_hotOnes, .ref m_indexed, .ref m_isChanged, .int 0, .ref m_valueNow, .int 0, .int (-1), .int 0, .ref m_didSome, .ref m_sizes, .ref m_ends])), (m_all, aI cs 51207 (upd f (nI (17069 + i)).toNatClampNeg (f (nI i).toNatClampNeg))), (m_hasImage, aZ cs 2 f_m_hasImage)] H := hP
            have hD : va_D A [(md, .inr (9, [.int 0, .ref m_all, .ref m_deeds, .ref m_trial, .int 0, .ref m_hasImage, .ref m_tape, .ref m_key, .ref m_answered, .int 0, .int 0, .int 0, .ref m_goes, .int 0, .ref m_hotOnes, .ref m_indexed, .ref m_isChanged, .int 0, .ref m_valueNow, .int 0, .int (-1), .int 0, .ref m_didSome, .ref m_sizes, .ref m_ends])), (m_all, aI cs 51207 (upd f (nI (17069 + i)).toNatClampNeg (f (nI i).toNatClampNeg))), (m_hasImage, aZ cs 2 f_m_hasImage)] := hD
            refine lv_iinc (v := nI (i + 1)) (lv' := [(2, .int (nI (i + 1))), (0, .ref md), (1, .int 0)]) hx hb dX9_image_47 hl (k := 0) rfl (nI_1 _) (by decide) rfl (fun ls hl => ?_)
            refine lv_goto (tgt := 20) hx hb dX9_image_50 (by decide) ?_
            exact ih (i + 1) (upd f (nI (17069 + i)).toNatClampNeg (f (nI i).toNatClampNeg)) (by omega) (by omega) H locs (hP.sub [0, 1, 2] rfl) (hD.sub [0, 1, 2] rfl rfl) hS ls (lv_sub hl [0, 1, 2] rfl)
      exact lp_9 (17069 + 1) 0 f_m_all (by omega) (by omega) H locs (hP.sub [0, 1, 2] rfl) (hD.sub [0, 1, 2] rfl rfl) hS ls (lv_sub hl [0, 1, 2] rfl)
    · subst c_8
      refine lv_iconst (v := 0) hx hb dX9_image_18 (by decide) ?_
      refine lv_istore_n (lv' := [(2, .int 0), (0, .ref md), (1, .int 1)]) hx hb dX9_image_19 rfl hl (by decide) rfl (fun ls hl => ?_)
      have lp_11 : ∀ (fuel : Nat) (i : Nat) (f : Nat → Int32) (hfuel : 17069 < i + fuel) (hi : i ≤ 17069) (H : Heap) (locs : List Loc) (hP : va_P D vwCl [(md, .inr (9, [.int 0, .ref m_all, .ref m_deeds, .ref m_trial, .int 0, .ref m_hasImage, .ref m_tape, .ref m_key, .ref m_answered, .int 0, .int 0, .int 0, .ref m_goes, .int 0, .ref m_hotOnes, .ref m_indexed, .ref m_isChanged, .int 0, .ref m_valueNow, .int 0, .int (-1), .int 0, .ref m_didSome, .ref m_sizes, .ref m_ends])), (m_all, aI cs 51207 f), (m_hasImage, aZ cs 2 f_m_hasImage)] H) (hD : va_D A [(md, .inr (9, [.int 0, .ref m_all, .ref m_deeds, .ref m_trial, .int 0, .ref m_hasImage, .ref m_tape, .ref m_key, .ref m_answered, .int 0, .int 0, .int 0, .ref m_goes, .int 0, .ref m_hotOnes, .ref m_indexed, .ref m_isChanged, .int 0, .ref m_valueNow, .int 0, .int (-1), .int 0, .ref m_didSome, .ref m_sizes, .ref m_ends])), (m_all, aI cs 51207 f), (m_hasImage, aZ cs 2 f_m_hasImage)]) (hS : va_S A s.heap H locs) (ls : Array Slot) (hl : lv_has ls 3 [(2, .int (nI i)), (0, .ref md), (1, .int 1)]), W p l e rm_c_X9_image s m [.ref md, .int 1].toArray below meth c H locs 0 0 Qz (F0 m 20 ls []) := by
        intro fuel
        induction fuel with
        | zero =>
          intro i f hfuel hi H locs hP hD hS ls hl
          exact absurd hfuel (by omega)
        | succ fuel ih =>
          intro i f hfuel hi H locs hP hD hS ls hl
          refine lv_iload_n hx hb dX9_image_20 rfl (lv_at hl 0 rfl) ?_
          refine lv_sipush (v := 17069) hx hb dX9_image_21 (by decide) ?_
          refine lv_icmp_ge (tgt := 53) hx hb dX9_image_24 (by decide) (fun c_12 => ?_) (fun c_12 => ?_)
          · have gc_12 : 17069 ≤ i := (nI_leI (a := 17069) (b := i) (by omega) (by omega)).mp c_12
            refine lv_aload_n hx hb dX9_image_53 rfl (lv_at hl 1 rfl) ?_
            refine va_get (D := D) (ci := 9) (v := .ref m_hasImage) (C := RX9) (T := TX9) (N := 25) hx hb hu in_X9 hown hK.1 hP 0 rfl rfl 5 (by decide) (hu _ u_1085) (fun _ h9 => h9) rfl dX9_image_54 ?_
            refine lv_iload_n hx hb dX9_image_57 rfl (lv_at hl 2 rfl) ?_
            refine lv_iconst (v := 1) hx hb dX9_image_58 (by decide) ?_
            refine va_zast hx hb hK.1 hP hD hS 2 1 rfl rfl (vin_c _ _ rfl) dX9_image_59 (fun H locs hP hD hS => ?_)
            have hP : va_P D vwCl [(md, .inr (9, [.int 0, .ref m_all, .ref m_deeds, .ref m_trial, .int 0, .ref m_hasImage, .ref m_tape, .ref m_key, .ref m_answered, .int 0, .int 0, .int 0, .ref m_goes, .int 0, .ref m_hotOnes, .ref m_indexed, .ref m_isChanged, .int 0, .ref m_valueNow, .int 0, .int (-1), .int 0, .ref m_didSome, .ref m_sizes, .ref m_ends])), (m_all, aI cs 51207 f), (m_hasImage, aZ cs 2 (upd f_m_hasImage (1 : Int32).toNatClampNeg (vp_nar .boolean 1)))] H := hP
            have hD : va_D A [(md, .inr (9, [.int 0, .ref m_all, .ref m_deeds, .ref m_trial, .int 0, .ref m_hasImage, .ref m_tape, .ref m_key, .ref m_answered, .int 0, .int 0, .int 0, .ref m_goes, .int 0, .ref m_hotOnes, .ref m_indexed, .ref m_isChanged, .int 0, .ref m_valueNow, .int 0, .int (-1), .int 0, .ref m_didSome, .ref m_sizes, .ref m_ends])), (m_all, aI cs 51207 f), (m_hasImage, aZ cs 2 (upd f_m_hasImage (1 : Int32).toNatClampNeg (vp_nar .boolean 1)))] := hD
            refine lv_iconst (v := 0) hx hb dX9_image_60 (by decide) ?_
            exact hz () hP hD hS (by grind) [] rfl rfl (Nat.le_of_ble_eq_true rfl) (Nat.le_of_ble_eq_true rfl) .int rfl rfl dX9_image_61
          · have gc_12 : ¬ 17069 ≤ i := fun h => c_12 ((nI_leI (a := 17069) (b := i) (by omega) (by omega)).mpr h)
            refine lv_aload_n hx hb dX9_image_27 rfl (lv_at hl 1 rfl) ?_
            refine va_get (D := D) (ci := 9) (v := .ref m_all) (C := RX9) (T := TX9) (N := 25) hx hb hu in_X9 hown hK.1 hP 0 rfl rfl 1 (by decide) (hu _ u_1081) (fun _ h9 => h9) rfl dX9_image_28 ?_
            refine lv_sipush (v := 17069) hx hb dX9_image_31 (by decide) ?_
            refine lv_iload_n hx hb dX9_image_34 rfl (lv_at hl 2 rfl) ?_
            refine lv_iconst (v := 1) hx hb dX9_image_35 (by decide) ?_
            refine lv_iadd hx hb dX9_image_36 ?_
            refine tpi (y := 2) (by decide) ?_
            refine lv_imul hx hb dX9_image_37 ?_
            refine tpi (y := 34138) (by decide) ?_
            refine lv_iload_n hx hb dX9_image_38 rfl (lv_at hl 0 rfl) ?_
            refine lv_iadd hx hb dX9_image_39 ?_
            refine tpi (y := nI (34138 + i)) (nI_add _ _) ?_
            refine lv_aload_n hx hb dX9_image_40 rfl (lv_at hl 1 rfl) ?_
            refine va_get (D := D) (ci := 9) (v := .ref m_all) (C := RX9) (T := TX9) (N := 25) hx hb hu in_X9 hown hK.1 hP 0 rfl rfl 1 (by decide) (hu _ u_1081) (fun _ h9 => h9) rfl dX9_image_41 ?_
            refine lv_iload_n hx hb dX9_image_44 rfl (lv_at hl 0 rfl) ?_
            refine va_iald hx hb hK.1 hP 1 0 rfl rfl (vp_in_nI (by omega) (by omega)) dX9_image_45 ?_
            refine va_iast hx hb hK.1 hP hD hS 1 0 rfl rfl (vp_in_nI (by omega) (by omega)) dX9_image_46 (fun H locs hP hD hS => ?_)
            have hP : va_P D vwCl [(md, .inr (9, [.int 0, .ref m_all, .ref m_deeds, .ref m_trial, .int 0, .ref m_hasImage, .ref m_tape, .ref m_key, .ref m_answered, .int 0, .int 0, .int 0, .ref m_goes, .int 0, .ref m_hotOnes, .ref m_indexed, .ref m_isChanged, .int 0, .ref m_valueNow, .int 0, .int (-1), .int 0, .ref m_didSome, .ref m_sizes, .ref m_ends])), (m_all, aI cs 51207 (upd f (nI (34138 + i)).toNatClampNeg (f (nI i).toNatClampNeg))), (m_hasImage, aZ cs 2 f_m_hasImage)] H := hP
            have hD : va_D A [(md, .inr (9, [.int 0, .ref m_all, .ref m_deeds, .ref m_trial, .int 0, .ref m_hasImage, .ref m_tape, .ref m_key, .ref m_answered, .int 0, .int 0, .int 0, .ref m_goes, .int 0, .ref m_hotOnes, .ref m_indexed, .ref m_isChanged, .int 0, .ref m_valueNow, .int 0, .int (-1), .int 0, .ref m_didSome, .ref m_sizes, .ref m_ends])), (m_all, aI cs 51207 (upd f (nI (34138 + i)).toNatClampNeg (f (nI i).toNatClampNeg))), (m_hasImage, aZ cs 2 f_m_hasImage)] := hD
            refine lv_iinc (v := nI (i + 1)) (lv' := [(2, .int (nI (i + 1))), (0, .ref md), (1, .int 1)]) hx hb dX9_image_47 hl (k := 0) rfl (nI_1 _) (by decide) rfl (fun ls hl => ?_)
            refine lv_goto (tgt := 20) hx hb dX9_image_50 (by decide) ?_
            exact ih (i + 1) (upd f (nI (34138 + i)).toNatClampNeg (f (nI i).toNatClampNeg)) (by omega) (by omega) H locs (hP.sub [0, 1, 2] rfl) (hD.sub [0, 1, 2] rfl rfl) hS ls (lv_sub hl [0, 1, 2] rfl)
      exact lp_11 (17069 + 1) 0 f_m_all (by omega) (by omega) H locs (hP.sub [0, 1, 2] rfl) (hD.sub [0, 1, 2] rfl rfl) hS ls (lv_sub hl [0, 1, 2] rfl)
  · obtain ⟨er_13, hf_14⟩ := hw_3
    have hf_15 : ¬ (0 ≤ x ∧ x ≤ 1) := fun h => hf_14 ⟨(w_le (d := 0) (x := x) (by decide)).mpr h.1, (w_ge (d := 1) (x := x) (by decide)).mpr h.2⟩
    subst er_13
    refine lv_if_ne (tgt := 18) hx hb dX9_image_12 (by decide) (fun c_16 => absurd (by decide) c_16) (fun c_16 => ?_)
    refine lv_bipush (v := (-2)) hx hb dX9_image_15 (by decide) ?_
    exact hz () hP hD hS (by grind) [] rfl rfl (Nat.le_of_ble_eq_true rfl) (Nat.le_of_ble_eq_true rfl) .int rfl rfl dX9_image_17
abbrev rm_c_X9_restore : Room := { frames := 1, cells := 0, slots := 0, locals := 25 }
set_option maxHeartbeats 4000000 in
set_option maxRecDepth 100000 in
theorem c_X9_restore (l : Launch) (D : va_G) (cs : Nat → ClassId) (sz : Nat) (x : Int32) (md : Nat) (m_all : Nat) (m_deeds : Nat) (m_trial : Nat) (m_hasImage : Nat) (f_m_hasImage : Nat → Int32) (m_tape : Nat) (m_key : Nat) (m_answered : Nat) (m_goes : Nat) (m_hotOnes : Nat) (m_indexed : Nat) (m_isChanged : Nat) (m_valueNow : Nat) (m_didSome : Nat) (m_sizes : Nat) (m_ends : Nat) (z_f_m_hasImage : ∀ j, j < 2 → f_m_hasImage j = 0) : cMi l yX9_restore (Cond.code yX9_restore cX9_restore 3 (some .int)) (rm_c_X9_restore) D cs [.ref md, .int x] sz [(md, .inr (9, [.int 0, .ref m_all, .ref m_deeds, .ref m_trial, .int 0, .ref m_hasImage, .ref m_tape, .ref m_key, .ref m_answered, .int 0, .int 0, .int 0, .ref m_goes, .int 0, .ref m_hotOnes, .ref m_indexed, .ref m_isChanged, .int 0, .ref m_valueNow, .int 0, .int (-1), .int 0, .ref m_didSome, .ref m_sizes, .ref m_ends])), (m_hasImage, aZ cs 2 f_m_hasImage)] (fun (r : Int32) (u : Unit) => ((r = (-2)) ∧ (x < 0 ∨ 2 ≤ x)) ∨ ((r = (-6)) ∧ (¬ x < 0 ∧ x < 2))) (fun (u : Unit) => []) := by
  refine kMet_i RX9 (by decide) rfl (Nat.le_of_ble_eq_true rfl) ?_
  intro p e s m below meth c ls A Qz H locs hx hb hml hown hin hu hK hsz hA hP hD hS hl hz
  subst hsz
  have hl : lv_has ls 3 [(0, .ref md), (1, .int x)] := hl
  refine lv_aload_n hx hb dX9_restore_0 rfl (lv_at hl 0 rfl) ?_
  refine lv_iconst (v := 0) hx hb dX9_restore_1 (by decide) ?_
  refine va_put (D := D) (ci := 9) (v := .int 0) (ty := tyX9 0) (C := RX9) (T := TX9) (N := 25) hx hb hu in_X9 tyX9 tyX9_ok nmX9 hown hK.1 hP hD hS 0 rfl rfl 0 (by decide) (hu _ u_1080) (fun _ h9 => h9) rfl (tyX9_ok 0 (by decide)) rfl rfl (Nat.le_of_ble_eq_true rfl) dX9_restore_2 (fun H locs hP hD hS => ?_)
  have hP : va_P D vwCl [(md, .inr (9, [.int 0, .ref m_all, .ref m_deeds, .ref m_trial, .int 0, .ref m_hasImage, .ref m_tape, .ref m_key, .ref m_answered, .int 0, .int 0, .int 0, .ref m_goes, .int 0, .ref m_hotOnes, .ref m_indexed, .ref m_isChanged, .int 0, .ref m_valueNow, .int 0, .int (-1), .int 0, .ref m_didSome, .ref m_sizes, .ref m_ends])), (m_hasImage, aZ cs 2 f_m_hasImage)] H := hP
  have hD : va_D A [(md, .inr (9, [.int 0, .ref m_all, .ref m_deeds, .ref m_trial, .int 0, .ref m_hasImage, .ref m_tape, .ref m_key, .ref m_answered, .int 0, .int 0, .int 0, .ref m_goes, .int 0, .ref m_hotOnes, .ref m_indexed, .ref m_isChanged, .int 0, .ref m_valueNow, .int 0, .int (-1), .int 0, .ref m_didSome, .ref m_sizes, .ref m_ends])), (m_hasImage, aZ cs 2 f_m_hasImage)] := hD
  refine lv_iload_n hx hb dX9_restore_5 rfl (lv_at hl 1 rfl) ?_
  refine lv_i2l (v := x.toInt64) hx hb dX9_restore_6 rfl ?_
  refine lv_lconst (v := 0) hx hb dX9_restore_7 (by decide) ?_
  refine lv_lconst (v := 1) hx hb dX9_restore_8 (by decide) ?_
  refine kS_i  (As := [.long x.toInt64, .long 0, .long 1]) (rest := []) (wc := []) (wr := [(md, .inr (9, [.int 0, .ref m_all, .ref m_deeds, .ref m_trial, .int 0, .ref m_hasImage, .ref m_tape, .ref m_key, .ref m_answered, .int 0, .int 0, .int 0, .ref m_goes, .int 0, .ref m_hotOnes, .ref m_indexed, .ref m_isChanged, .int 0, .ref m_valueNow, .int 0, .int (-1), .int 0, .ref m_didSome, .ref m_sizes, .ref m_ends])), (m_hasImage, aZ cs 2 f_m_hasImage)]) hx hb hml hown hu hK hP hD hS hA hl.1 (c_X9_within l D cs H.size x.toInt64 0 1) (gS u_1164 u_1165 u_76 u_1166) hd_X9_within ⟨(Nat.le_of_ble_eq_true rfl), (Nat.le_of_ble_eq_true rfl)⟩ [] [0, 1] rfl rfl rfl rfl (by decide) rfl rfl (Nat.le_of_ble_eq_true rfl) dX9_restore_9 ⟨(Nat.le_of_ble_eq_true rfl), (Nat.le_of_ble_eq_true rfl)⟩ (fun r_1 ut_2 H locs hw_3 hP hD hS => ?_)
  have hP : va_P D vwCl [(md, .inr (9, [.int 0, .ref m_all, .ref m_deeds, .ref m_trial, .int 0, .ref m_hasImage, .ref m_tape, .ref m_key, .ref m_answered, .int 0, .int 0, .int 0, .ref m_goes, .int 0, .ref m_hotOnes, .ref m_indexed, .ref m_isChanged, .int 0, .ref m_valueNow, .int 0, .int (-1), .int 0, .ref m_didSome, .ref m_sizes, .ref m_ends])), (m_hasImage, aZ cs 2 f_m_hasImage)] H := hP
  have hD : va_D A [(md, .inr (9, [.int 0, .ref m_all, .ref m_deeds, .ref m_trial, .int 0, .ref m_hasImage, .ref m_tape, .ref m_key, .ref m_answered, .int 0, .int 0, .int 0, .ref m_goes, .int 0, .ref m_hotOnes, .ref m_indexed, .ref m_isChanged, .int 0, .ref m_valueNow, .int 0, .int (-1), .int 0, .ref m_didSome, .ref m_sizes, .ref m_ends])), (m_hasImage, aZ cs 2 f_m_hasImage)] := hD
  rcases hw_3 with hw_3 | hw_3
  · obtain ⟨er_4, hf_5⟩ := hw_3
    have hf_6 : 0 ≤ x ∧ x ≤ 1 := ⟨(w_le (d := 0) (x := x) (by decide)).mp hf_5.1, (w_ge (d := 1) (x := x) (by decide)).mp hf_5.2⟩
    subst er_4
    refine lv_if_ne (tgt := 18) hx hb dX9_restore_12 (by decide) (fun c_7 => ?_) (fun c_7 => absurd c_7 (by decide))
    refine lv_aload_n hx hb dX9_restore_18 rfl (lv_at hl 0 rfl) ?_
    refine va_get (D := D) (ci := 9) (v := .ref m_hasImage) (C := RX9) (T := TX9) (N := 25) hx hb hu in_X9 hown hK.1 hP 0 rfl rfl 5 (by decide) (hu _ u_1085) (fun _ h9 => h9) rfl dX9_restore_19 ?_
    refine lv_iload_n hx hb dX9_restore_22 rfl (lv_at hl 1 rfl) ?_
    refine va_zald hx hb hK.1 hP 1 1 rfl rfl (vin_of (N := 2) (by grind) (by grind) rfl) dX9_restore_23 ?_
    refine tpi (y := 0) (z_f_m_hasImage _ (cl_lt (vin_of (N := 2) (by grind) (by grind) rfl))) ?_
    refine lv_if_ne (tgt := 30) hx hb dX9_restore_24 (by decide) (fun c_8 => absurd (by decide) c_8) (fun c_8 => ?_)
    refine lv_bipush (v := (-6)) hx hb dX9_restore_27 (by decide) ?_
    exact hz () hP hD hS (by grind) [] rfl rfl (Nat.le_of_ble_eq_true rfl) (Nat.le_of_ble_eq_true rfl) .int rfl rfl dX9_restore_29
  · obtain ⟨er_9, hf_10⟩ := hw_3
    have hf_11 : ¬ (0 ≤ x ∧ x ≤ 1) := fun h => hf_10 ⟨(w_le (d := 0) (x := x) (by decide)).mpr h.1, (w_ge (d := 1) (x := x) (by decide)).mpr h.2⟩
    subst er_9
    refine lv_if_ne (tgt := 18) hx hb dX9_restore_12 (by decide) (fun c_12 => absurd (by decide) c_12) (fun c_12 => ?_)
    refine lv_bipush (v := (-2)) hx hb dX9_restore_15 (by decide) ?_
    exact hz () hP hD hS (by grind) [] rfl rfl (Nat.le_of_ble_eq_true rfl) (Nat.le_of_ble_eq_true rfl) .int rfl rfl dX9_restore_17
abbrev rm_c_X9_count : Room := { frames := 2, cells := 0, slots := 0, locals := 43 }
set_option maxHeartbeats 4000000 in
set_option maxRecDepth 100000 in
theorem c_X9_count (l : Launch) (D : va_G) (cs : Nat → ClassId) (sz : Nat) (x : Int32) (md : Nat) (m_all : Nat) (f_m_all : Nat → Int32) (m_deeds : Nat) (m_trial : Nat) (m_hasImage : Nat) (m_tape : Nat) (m_key : Nat) (m_answered : Nat) (m_goes : Nat) (m_hotOnes : Nat) (m_indexed : Nat) (m_isChanged : Nat) (m_valueNow : Nat) (m_didSome : Nat) (m_sizes : Nat) (m_ends : Nat) (z_all : ∀ j, j < 51207 → f_m_all j = AL j) : cMi l yX9_count (Cond.code yX9_count cX9_count 4 (some .int)) (rm_c_X9_count) D cs [.ref md, .int x] sz [(md, .inr (9, [.int 0, .ref m_all, .ref m_deeds, .ref m_trial, .int 0, .ref m_hasImage, .ref m_tape, .ref m_key, .ref m_answered, .int 0, .int 0, .int 0, .ref m_goes, .int 0, .ref m_hotOnes, .ref m_indexed, .ref m_isChanged, .int 0, .ref m_valueNow, .int 0, .int (-1), .int 0, .ref m_didSome, .ref m_sizes, .ref m_ends])), (m_all, aI cs 51207 f_m_all)] (fun (r : Int32) (u : Unit) => ((r = 24) ∧ (x = 1)) ∨ ((r = (-1)) ∧ (x < 0 ∨ 8 < x ∨ x = 3)) ∨ ((r = 0) ∧ (¬ x < 0 ∧ ¬ 8 < x ∧ ¬ x = 1 ∧ ¬ x = 3))) (fun (u : Unit) => []) := by
  refine kMet_i RX9 (by decide) rfl (Nat.le_of_ble_eq_true rfl) ?_
  intro p e s m below meth c ls A Qz H locs hx hb hml hown hin hu hK hsz hA hP hD hS hl hz
  subst hsz
  have hl : lv_has ls 4 [(0, .ref md), (1, .int x)] := hl
  refine lv_aload_n hx hb dX9_count_0 rfl (lv_at hl 0 rfl) ?_
  refine lv_iconst (v := 0) hx hb dX9_count_1 (by decide) ?_
  refine va_put (D := D) (ci := 9) (v := .int 0) (ty := tyX9 0) (C := RX9) (T := TX9) (N := 25) hx hb hu in_X9 tyX9 tyX9_ok nmX9 hown hK.1 hP hD hS 0 rfl rfl 0 (by decide) (hu _ u_1080) (fun _ h9 => h9) rfl (tyX9_ok 0 (by decide)) rfl rfl (Nat.le_of_ble_eq_true rfl) dX9_count_2 (fun H locs hP hD hS => ?_)
  have hP : va_P D vwCl [(md, .inr (9, [.int 0, .ref m_all, .ref m_deeds, .ref m_trial, .int 0, .ref m_hasImage, .ref m_tape, .ref m_key, .ref m_answered, .int 0, .int 0, .int 0, .ref m_goes, .int 0, .ref m_hotOnes, .ref m_indexed, .ref m_isChanged, .int 0, .ref m_valueNow, .int 0, .int (-1), .int 0, .ref m_didSome, .ref m_sizes, .ref m_ends])), (m_all, aI cs 51207 f_m_all)] H := hP
  have hD : va_D A [(md, .inr (9, [.int 0, .ref m_all, .ref m_deeds, .ref m_trial, .int 0, .ref m_hasImage, .ref m_tape, .ref m_key, .ref m_answered, .int 0, .int 0, .int 0, .ref m_goes, .int 0, .ref m_hotOnes, .ref m_indexed, .ref m_isChanged, .int 0, .ref m_valueNow, .int 0, .int (-1), .int 0, .ref m_didSome, .ref m_sizes, .ref m_ends])), (m_all, aI cs 51207 f_m_all)] := hD
  refine lv_iconst (v := 0) hx hb dX9_count_5 (by decide) ?_
  refine lv_istore_n (lv' := [(2, .int 0), (0, .ref md), (1, .int x)]) hx hb dX9_count_6 rfl hl (by decide) rfl (fun ls hl => ?_)
  refine lv_iload_n hx hb dX9_count_7 rfl (lv_at hl 2 rfl) ?_
  rcases (sw_9 x) with c_1 | c_1 | c_1 | c_1 | c_1 | c_1 | c_1 | c_1 | c_1 | c_1
  · refine lv_tableIn (tgt := 60) hx hb dX9_count_8 (by rw [c_1]; decide) (by rw [c_1]; decide) (off := 52) (by rw [c_1]; rfl) (by decide) ?_
    refine lv_aload_n hx hb dX9_count_60 rfl (lv_at hl 1 rfl) ?_
    refine va_get (D := D) (ci := 9) (v := .ref m_all) (C := RX9) (T := TX9) (N := 25) hx hb hu in_X9 hown hK.1 hP 0 rfl rfl 1 (by decide) (hu _ u_1081) (fun _ h9 => h9) rfl dX9_count_61 ?_
    refine lv_iconst (v := 0) hx hb dX9_count_64 (by decide) ?_
    refine va_iald hx hb hK.1 hP 1 0 rfl rfl (vin_c _ _ rfl) dX9_count_65 ?_
    refine tpi (y := 0) ((z_all _ (cl_lt (vin_c _ _ rfl))).trans (by decide +kernel)) ?_
    exact hz () hP hD hS (by grind) [] rfl rfl (Nat.le_of_ble_eq_true rfl) (Nat.le_of_ble_eq_true rfl) .int rfl rfl dX9_count_66
  · refine lv_tableIn (tgt := 67) hx hb dX9_count_8 (by rw [c_1]; decide) (by rw [c_1]; decide) (off := 59) (by rw [c_1]; rfl) (by decide) ?_
    refine lv_aload_n hx hb dX9_count_67 rfl (lv_at hl 1 rfl) ?_
    refine kV_i (ci := 9) (As := []) (rest := []) (wc := [(md, .inr (9, [.int 0, .ref m_all, .ref m_deeds, .ref m_trial, .int 0, .ref m_hasImage, .ref m_tape, .ref m_key, .ref m_answered, .int 0, .int 0, .int 0, .ref m_goes, .int 0, .ref m_hotOnes, .ref m_indexed, .ref m_isChanged, .int 0, .ref m_valueNow, .int 0, .int (-1), .int 0, .ref m_didSome, .ref m_sizes, .ref m_ends])), (m_all, aI cs 51207 f_m_all)]) (wr := []) hx hb hml hown hu hK hP hD hS hA hl.1 (c_X9_freeMany l D cs H.size md m_all f_m_all m_deeds m_trial m_hasImage m_tape m_key m_answered m_goes m_hotOnes m_indexed m_isChanged m_valueNow m_didSome m_sizes m_ends 0 0 0 z_all) (gV u_1192 u_1194 u_14 u_76 u_1195) hd_X9_freeMany ⟨(Nat.le_of_ble_eq_true rfl), (Nat.le_of_ble_eq_true rfl)⟩ [0, 1] [] rfl rfl rfl rfl (by decide) rfl 0 rfl rfl rfl (Nat.le_of_ble_eq_true rfl) dX9_count_68 ⟨(Nat.le_of_ble_eq_true rfl), (Nat.le_of_ble_eq_true rfl)⟩ (fun r_2 ut_3 H locs hw_4 hP hD hS => ?_)
    have hP : va_P D vwCl [(md, .inr (9, [.int 0, .ref m_all, .ref m_deeds, .ref m_trial, .int 0, .ref m_hasImage, .ref m_tape, .ref m_key, .ref m_answered, .int 0, .int 0, .int 0, .ref m_goes, .int 0, .ref m_hotOnes, .ref m_indexed, .ref m_isChanged, .int 0, .ref m_valueNow, .int 0, .int (-1), .int 0, .ref m_didSome, .ref m_sizes, .ref m_ends])), (m_all, aI cs 51207 f_m_all)] H := hP
    have hD : va_D A [(md, .inr (9, [.int 0, .ref m_all, .ref m_deeds, .ref m_trial, .int 0, .ref m_hasImage, .ref m_tape, .ref m_key, .ref m_answered, .int 0, .int 0, .int 0, .ref m_goes, .int 0, .ref m_hotOnes, .ref m_indexed, .ref m_isChanged, .int 0, .ref m_valueNow, .int 0, .int (-1), .int 0, .ref m_didSome, .ref m_sizes, .ref m_ends])), (m_all, aI cs 51207 f_m_all)] := hD
    have er_5 := hw_4
    subst er_5
    exact hz () hP hD hS (by grind) [] rfl rfl (Nat.le_of_ble_eq_true rfl) (Nat.le_of_ble_eq_true rfl) .int rfl rfl dX9_count_71
  · refine lv_tableIn (tgt := 72) hx hb dX9_count_8 (by rw [c_1]; decide) (by rw [c_1]; decide) (off := 64) (by rw [c_1]; rfl) (by decide) ?_
    refine lv_aload_n hx hb dX9_count_72 rfl (lv_at hl 1 rfl) ?_
    refine va_get (D := D) (ci := 9) (v := .ref m_all) (C := RX9) (T := TX9) (N := 25) hx hb hu in_X9 hown hK.1 hP 0 rfl rfl 1 (by decide) (hu _ u_1081) (fun _ h9 => h9) rfl dX9_count_73 ?_
    refine lv_sipush (v := 1628) hx hb dX9_count_76 (by decide) ?_
    refine va_iald hx hb hK.1 hP 1 0 rfl rfl (vin_c _ _ rfl) dX9_count_79 ?_
    refine tpi (y := 0) ((z_all _ (cl_lt (vin_c _ _ rfl))).trans (by decide +kernel)) ?_
    exact hz () hP hD hS (by grind) [] rfl rfl (Nat.le_of_ble_eq_true rfl) (Nat.le_of_ble_eq_true rfl) .int rfl rfl dX9_count_80
  · refine lv_tableIn (tgt := 81) hx hb dX9_count_8 (by rw [c_1]; decide) (by rw [c_1]; decide) (off := 73) (by rw [c_1]; rfl) (by decide) ?_
    refine lv_aload_n hx hb dX9_count_81 rfl (lv_at hl 1 rfl) ?_
    refine va_get (D := D) (ci := 9) (v := .ref m_all) (C := RX9) (T := TX9) (N := 25) hx hb hu in_X9 hown hK.1 hP 0 rfl rfl 1 (by decide) (hu _ u_1081) (fun _ h9 => h9) rfl dX9_count_82 ?_
    refine lv_iconst (v := 1) hx hb dX9_count_85 (by decide) ?_
    refine va_iald hx hb hK.1 hP 1 0 rfl rfl (vin_c _ _ rfl) dX9_count_86 ?_
    refine tpi (y := (-1)) ((z_all _ (cl_lt (vin_c _ _ rfl))).trans (by decide +kernel)) ?_
    exact hz () hP hD hS (by grind) [] rfl rfl (Nat.le_of_ble_eq_true rfl) (Nat.le_of_ble_eq_true rfl) .int rfl rfl dX9_count_87
  · refine lv_tableIn (tgt := 88) hx hb dX9_count_8 (by rw [c_1]; decide) (by rw [c_1]; decide) (off := 80) (by rw [c_1]; rfl) (by decide) ?_
    refine lv_iconst (v := 0) hx hb dX9_count_88 (by decide) ?_
    refine lv_istore_n (lv' := [(3, .int 0), (2, .int 0), (0, .ref md), (1, .int x)]) hx hb dX9_count_89 rfl hl (by decide) rfl (fun ls hl => ?_)
    refine lv_iload_n hx hb dX9_count_90 rfl (lv_at hl 0 rfl) ?_
    refine lv_iconst (v := 4) hx hb dX9_count_91 (by decide) ?_
    refine lv_icmp_ge (tgt := 124) hx hb dX9_count_92 (by decide) (fun c_6 => absurd c_6 (by decide)) (fun c_6 => ?_)
    refine lv_iload_n hx hb dX9_count_95 rfl (lv_at hl 1 rfl) ?_
    refine lv_aload_n hx hb dX9_count_96 rfl (lv_at hl 2 rfl) ?_
    refine va_get (D := D) (ci := 9) (v := .ref m_all) (C := RX9) (T := TX9) (N := 25) hx hb hu in_X9 hown hK.1 hP 0 rfl rfl 1 (by decide) (hu _ u_1081) (fun _ h9 => h9) rfl dX9_count_97 ?_
    refine lv_bipush (v := 55) hx hb dX9_count_100 (by decide) ?_
    refine lv_iload_n hx hb dX9_count_102 rfl (lv_at hl 0 rfl) ?_
    refine lv_iadd hx hb dX9_count_103 ?_
    refine tpi (y := 55) (by decide) ?_
    refine va_iald hx hb hK.1 hP 1 0 rfl rfl (vin_c _ _ rfl) dX9_count_104 ?_
    refine tpi (y := (-1)) ((z_all _ (cl_lt (vin_c _ _ rfl))).trans (by decide +kernel)) ?_
    refine lv_iconst (v := (-1)) hx hb dX9_count_105 (by decide) ?_
    refine lv_icmp_ne (tgt := 113) hx hb dX9_count_106 (by decide) (fun c_7 => absurd (by decide) c_7) (fun c_7 => ?_)
    refine lv_iconst (v := 0) hx hb dX9_count_109 (by decide) ?_
    refine lv_goto (tgt := 116) hx hb dX9_count_110 (by decide) ?_
    refine lv_ior hx hb dX9_count_116 ?_
    refine tpi (y := 0) (by decide) ?_
    refine lv_istore_n (lv' := [(2, .int 0), (3, .int 0), (0, .ref md), (1, .int x)]) hx hb dX9_count_117 rfl hl (by decide) rfl (fun ls hl => ?_)
    refine lv_iinc (v := 1) (lv' := [(3, .int 1), (2, .int 0), (0, .ref md), (1, .int x)]) hx hb dX9_count_118 hl (k := 1) rfl (by decide) (by decide) rfl (fun ls hl => ?_)
    refine lv_goto (tgt := 90) hx hb dX9_count_121 (by decide) ?_
    refine lv_iload_n hx hb dX9_count_90 rfl (lv_at hl 0 rfl) ?_
    refine lv_iconst (v := 4) hx hb dX9_count_91 (by decide) ?_
    refine lv_icmp_ge (tgt := 124) hx hb dX9_count_92 (by decide) (fun c_8 => absurd c_8 (by decide)) (fun c_8 => ?_)
    refine lv_iload_n hx hb dX9_count_95 rfl (lv_at hl 1 rfl) ?_
    refine lv_aload_n hx hb dX9_count_96 rfl (lv_at hl 2 rfl) ?_
    refine va_get (D := D) (ci := 9) (v := .ref m_all) (C := RX9) (T := TX9) (N := 25) hx hb hu in_X9 hown hK.1 hP 0 rfl rfl 1 (by decide) (hu _ u_1081) (fun _ h9 => h9) rfl dX9_count_97 ?_
    refine lv_bipush (v := 55) hx hb dX9_count_100 (by decide) ?_
    refine lv_iload_n hx hb dX9_count_102 rfl (lv_at hl 0 rfl) ?_
    refine lv_iadd hx hb dX9_count_103 ?_
    refine tpi (y := 56) (by decide) ?_
    refine va_iald hx hb hK.1 hP 1 0 rfl rfl (vin_c _ _ rfl) dX9_count_104 ?_
    refine tpi (y := (-1)) ((z_all _ (cl_lt (vin_c _ _ rfl))).trans (by decide +kernel)) ?_
    refine lv_iconst (v := (-1)) hx hb dX9_count_105 (by decide) ?_
    refine lv_icmp_ne (tgt := 113) hx hb dX9_count_106 (by decide) (fun c_9 => absurd (by decide) c_9) (fun c_9 => ?_)
    refine lv_iconst (v := 0) hx hb dX9_count_109 (by decide) ?_
    refine lv_goto (tgt := 116) hx hb dX9_count_110 (by decide) ?_
    refine lv_ior hx hb dX9_count_116 ?_
    refine tpi (y := 0) (by decide) ?_
    refine lv_istore_n (lv' := [(2, .int 0), (3, .int 1), (0, .ref md), (1, .int x)]) hx hb dX9_count_117 rfl hl (by decide) rfl (fun ls hl => ?_)
    refine lv_iinc (v := 2) (lv' := [(3, .int 2), (2, .int 0), (0, .ref md), (1, .int x)]) hx hb dX9_count_118 hl (k := 1) rfl (by decide) (by decide) rfl (fun ls hl => ?_)
    refine lv_goto (tgt := 90) hx hb dX9_count_121 (by decide) ?_
    refine lv_iload_n hx hb dX9_count_90 rfl (lv_at hl 0 rfl) ?_
    refine lv_iconst (v := 4) hx hb dX9_count_91 (by decide) ?_
    refine lv_icmp_ge (tgt := 124) hx hb dX9_count_92 (by decide) (fun c_10 => absurd c_10 (by decide)) (fun c_10 => ?_)
    refine lv_iload_n hx hb dX9_count_95 rfl (lv_at hl 1 rfl) ?_
    refine lv_aload_n hx hb dX9_count_96 rfl (lv_at hl 2 rfl) ?_
    refine va_get (D := D) (ci := 9) (v := .ref m_all) (C := RX9) (T := TX9) (N := 25) hx hb hu in_X9 hown hK.1 hP 0 rfl rfl 1 (by decide) (hu _ u_1081) (fun _ h9 => h9) rfl dX9_count_97 ?_
    refine lv_bipush (v := 55) hx hb dX9_count_100 (by decide) ?_
    refine lv_iload_n hx hb dX9_count_102 rfl (lv_at hl 0 rfl) ?_
    refine lv_iadd hx hb dX9_count_103 ?_
    refine tpi (y := 57) (by decide) ?_
    refine va_iald hx hb hK.1 hP 1 0 rfl rfl (vin_c _ _ rfl) dX9_count_104 ?_
    refine tpi (y := (-1)) ((z_all _ (cl_lt (vin_c _ _ rfl))).trans (by decide +kernel)) ?_
    refine lv_iconst (v := (-1)) hx hb dX9_count_105 (by decide) ?_
    refine lv_icmp_ne (tgt := 113) hx hb dX9_count_106 (by decide) (fun c_11 => absurd (by decide) c_11) (fun c_11 => ?_)
    refine lv_iconst (v := 0) hx hb dX9_count_109 (by decide) ?_
    refine lv_goto (tgt := 116) hx hb dX9_count_110 (by decide) ?_
    refine lv_ior hx hb dX9_count_116 ?_
    refine tpi (y := 0) (by decide) ?_
    refine lv_istore_n (lv' := [(2, .int 0), (3, .int 2), (0, .ref md), (1, .int x)]) hx hb dX9_count_117 rfl hl (by decide) rfl (fun ls hl => ?_)
    refine lv_iinc (v := 3) (lv' := [(3, .int 3), (2, .int 0), (0, .ref md), (1, .int x)]) hx hb dX9_count_118 hl (k := 1) rfl (by decide) (by decide) rfl (fun ls hl => ?_)
    refine lv_goto (tgt := 90) hx hb dX9_count_121 (by decide) ?_
    refine lv_iload_n hx hb dX9_count_90 rfl (lv_at hl 0 rfl) ?_
    refine lv_iconst (v := 4) hx hb dX9_count_91 (by decide) ?_
    refine lv_icmp_ge (tgt := 124) hx hb dX9_count_92 (by decide) (fun c_12 => absurd c_12 (by decide)) (fun c_12 => ?_)
    refine lv_iload_n hx hb dX9_count_95 rfl (lv_at hl 1 rfl) ?_
    refine lv_aload_n hx hb dX9_count_96 rfl (lv_at hl 2 rfl) ?_
    refine va_get (D := D) (ci := 9) (v := .ref m_all) (C := RX9) (T := TX9) (N := 25) hx hb hu in_X9 hown hK.1 hP 0 rfl rfl 1 (by decide) (hu _ u_1081) (fun _ h9 => h9) rfl dX9_count_97 ?_
    refine lv_bipush (v := 55) hx hb dX9_count_100 (by decide) ?_
    refine lv_iload_n hx hb dX9_count_102 rfl (lv_at hl 0 rfl) ?_
    refine lv_iadd hx hb dX9_count_103 ?_
    refine tpi (y := 58) (by decide) ?_
    refine va_iald hx hb hK.1 hP 1 0 rfl rfl (vin_c _ _ rfl) dX9_count_104 ?_
    refine tpi (y := (-1)) ((z_all _ (cl_lt (vin_c _ _ rfl))).trans (by decide +kernel)) ?_
    refine lv_iconst (v := (-1)) hx hb dX9_count_105 (by decide) ?_
    refine lv_icmp_ne (tgt := 113) hx hb dX9_count_106 (by decide) (fun c_13 => absurd (by decide) c_13) (fun c_13 => ?_)
    refine lv_iconst (v := 0) hx hb dX9_count_109 (by decide) ?_
    refine lv_goto (tgt := 116) hx hb dX9_count_110 (by decide) ?_
    refine lv_ior hx hb dX9_count_116 ?_
    refine tpi (y := 0) (by decide) ?_
    refine lv_istore_n (lv' := [(2, .int 0), (3, .int 3), (0, .ref md), (1, .int x)]) hx hb dX9_count_117 rfl hl (by decide) rfl (fun ls hl => ?_)
    refine lv_iinc (v := 4) (lv' := [(3, .int 4), (2, .int 0), (0, .ref md), (1, .int x)]) hx hb dX9_count_118 hl (k := 1) rfl (by decide) (by decide) rfl (fun ls hl => ?_)
    refine lv_goto (tgt := 90) hx hb dX9_count_121 (by decide) ?_
    refine lv_iload_n hx hb dX9_count_90 rfl (lv_at hl 0 rfl) ?_
    refine lv_iconst (v := 4) hx hb dX9_count_91 (by decide) ?_
    refine lv_icmp_ge (tgt := 124) hx hb dX9_count_92 (by decide) (fun c_14 => ?_) (fun c_14 => absurd (by decide) c_14)
    refine lv_iload_n hx hb dX9_count_124 rfl (lv_at hl 1 rfl) ?_
    exact hz () hP hD hS (by grind) [] rfl rfl (Nat.le_of_ble_eq_true rfl) (Nat.le_of_ble_eq_true rfl) .int rfl rfl dX9_count_125
  · refine lv_tableIn (tgt := 126) hx hb dX9_count_8 (by rw [c_1]; decide) (by rw [c_1]; decide) (off := 118) (by rw [c_1]; rfl) (by decide) ?_
    refine lv_iconst (v := 0) hx hb dX9_count_126 (by decide) ?_
    refine lv_istore_n (lv' := [(3, .int 0), (2, .int 0), (0, .ref md), (1, .int x)]) hx hb dX9_count_127 rfl hl (by decide) rfl (fun ls hl => ?_)
    refine lv_iload_n hx hb dX9_count_128 rfl (lv_at hl 0 rfl) ?_
    refine lv_iconst (v := 3) hx hb dX9_count_129 (by decide) ?_
    refine lv_icmp_ge (tgt := 158) hx hb dX9_count_130 (by decide) (fun c_15 => absurd c_15 (by decide)) (fun c_15 => ?_)
    refine lv_iload_n hx hb dX9_count_133 rfl (lv_at hl 1 rfl) ?_
    refine lv_aload_n hx hb dX9_count_134 rfl (lv_at hl 2 rfl) ?_
    refine lv_iload_n hx hb dX9_count_135 rfl (lv_at hl 0 rfl) ?_
    refine kV_i (ci := 9) (As := [.int 0]) (rest := [.int 0]) (wc := [(md, .inr (9, [.int 0, .ref m_all, .ref m_deeds, .ref m_trial, .int 0, .ref m_hasImage, .ref m_tape, .ref m_key, .ref m_answered, .int 0, .int 0, .int 0, .ref m_goes, .int 0, .ref m_hotOnes, .ref m_indexed, .ref m_isChanged, .int 0, .ref m_valueNow, .int 0, .int (-1), .int 0, .ref m_didSome, .ref m_sizes, .ref m_ends])), (m_all, aI cs 51207 f_m_all)]) (wr := []) hx hb hml hown hu hK hP hD hS hA hl.1 (c_X9_momentOf l D cs H.size 0 md m_all f_m_all m_deeds m_trial m_hasImage m_tape m_key m_answered m_goes m_hotOnes m_indexed m_isChanged m_valueNow m_didSome m_sizes m_ends 0 0 0 z_all (by first | decide | grind)) (gV u_1278 u_1280 u_35 u_76 u_1281) hd_X9_momentOf ⟨(Nat.le_of_ble_eq_true rfl), (Nat.le_of_ble_eq_true rfl)⟩ [0, 1] [] rfl rfl rfl rfl (by decide) rfl 0 rfl rfl rfl (Nat.le_of_ble_eq_true rfl) dX9_count_136 ⟨(Nat.le_of_ble_eq_true rfl), (Nat.le_of_ble_eq_true rfl)⟩ (fun r_16 ut_17 H locs hw_18 hP hD hS => ?_)
    have hP : va_P D vwCl [(md, .inr (9, [.int 0, .ref m_all, .ref m_deeds, .ref m_trial, .int 0, .ref m_hasImage, .ref m_tape, .ref m_key, .ref m_answered, .int 0, .int 0, .int 0, .ref m_goes, .int 0, .ref m_hotOnes, .ref m_indexed, .ref m_isChanged, .int 0, .ref m_valueNow, .int 0, .int (-1), .int 0, .ref m_didSome, .ref m_sizes, .ref m_ends])), (m_all, aI cs 51207 f_m_all)] H := hP
    have hD : va_D A [(md, .inr (9, [.int 0, .ref m_all, .ref m_deeds, .ref m_trial, .int 0, .ref m_hasImage, .ref m_tape, .ref m_key, .ref m_answered, .int 0, .int 0, .int 0, .ref m_goes, .int 0, .ref m_hotOnes, .ref m_indexed, .ref m_isChanged, .int 0, .ref m_valueNow, .int 0, .int (-1), .int 0, .ref m_didSome, .ref m_sizes, .ref m_ends])), (m_all, aI cs 51207 f_m_all)] := hD
    have er_19 := hw_18
    subst er_19
    refine lv_iconst (v := (-1)) hx hb dX9_count_139 (by decide) ?_
    refine lv_icmp_ne (tgt := 147) hx hb dX9_count_140 (by decide) (fun c_20 => absurd (by decide) c_20) (fun c_20 => ?_)
    refine lv_iconst (v := 0) hx hb dX9_count_143 (by decide) ?_
    refine lv_goto (tgt := 150) hx hb dX9_count_144 (by decide) ?_
    refine lv_ior hx hb dX9_count_150 ?_
    refine tpi (y := 0) (by decide) ?_
    refine lv_istore_n (lv' := [(2, .int 0), (3, .int 0), (0, .ref md), (1, .int x)]) hx hb dX9_count_151 rfl hl (by decide) rfl (fun ls hl => ?_)
    refine lv_iinc (v := 1) (lv' := [(3, .int 1), (2, .int 0), (0, .ref md), (1, .int x)]) hx hb dX9_count_152 hl (k := 1) rfl (by decide) (by decide) rfl (fun ls hl => ?_)
    refine lv_goto (tgt := 128) hx hb dX9_count_155 (by decide) ?_
    refine lv_iload_n hx hb dX9_count_128 rfl (lv_at hl 0 rfl) ?_
    refine lv_iconst (v := 3) hx hb dX9_count_129 (by decide) ?_
    refine lv_icmp_ge (tgt := 158) hx hb dX9_count_130 (by decide) (fun c_21 => absurd c_21 (by decide)) (fun c_21 => ?_)
    refine lv_iload_n hx hb dX9_count_133 rfl (lv_at hl 1 rfl) ?_
    refine lv_aload_n hx hb dX9_count_134 rfl (lv_at hl 2 rfl) ?_
    refine lv_iload_n hx hb dX9_count_135 rfl (lv_at hl 0 rfl) ?_
    refine kV_i (ci := 9) (As := [.int 1]) (rest := [.int 0]) (wc := [(md, .inr (9, [.int 0, .ref m_all, .ref m_deeds, .ref m_trial, .int 0, .ref m_hasImage, .ref m_tape, .ref m_key, .ref m_answered, .int 0, .int 0, .int 0, .ref m_goes, .int 0, .ref m_hotOnes, .ref m_indexed, .ref m_isChanged, .int 0, .ref m_valueNow, .int 0, .int (-1), .int 0, .ref m_didSome, .ref m_sizes, .ref m_ends])), (m_all, aI cs 51207 f_m_all)]) (wr := []) hx hb hml hown hu hK hP hD hS hA hl.1 (c_X9_momentOf l D cs H.size 1 md m_all f_m_all m_deeds m_trial m_hasImage m_tape m_key m_answered m_goes m_hotOnes m_indexed m_isChanged m_valueNow m_didSome m_sizes m_ends 0 0 0 z_all (by first | decide | grind)) (gV u_1278 u_1280 u_35 u_76 u_1281) hd_X9_momentOf ⟨(Nat.le_of_ble_eq_true rfl), (Nat.le_of_ble_eq_true rfl)⟩ [0, 1] [] rfl rfl rfl rfl (by decide) rfl 0 rfl rfl rfl (Nat.le_of_ble_eq_true rfl) dX9_count_136 ⟨(Nat.le_of_ble_eq_true rfl), (Nat.le_of_ble_eq_true rfl)⟩ (fun r_22 ut_23 H locs hw_24 hP hD hS => ?_)
    have hP : va_P D vwCl [(md, .inr (9, [.int 0, .ref m_all, .ref m_deeds, .ref m_trial, .int 0, .ref m_hasImage, .ref m_tape, .ref m_key, .ref m_answered, .int 0, .int 0, .int 0, .ref m_goes, .int 0, .ref m_hotOnes, .ref m_indexed, .ref m_isChanged, .int 0, .ref m_valueNow, .int 0, .int (-1), .int 0, .ref m_didSome, .ref m_sizes, .ref m_ends])), (m_all, aI cs 51207 f_m_all)] H := hP
    have hD : va_D A [(md, .inr (9, [.int 0, .ref m_all, .ref m_deeds, .ref m_trial, .int 0, .ref m_hasImage, .ref m_tape, .ref m_key, .ref m_answered, .int 0, .int 0, .int 0, .ref m_goes, .int 0, .ref m_hotOnes, .ref m_indexed, .ref m_isChanged, .int 0, .ref m_valueNow, .int 0, .int (-1), .int 0, .ref m_didSome, .ref m_sizes, .ref m_ends])), (m_all, aI cs 51207 f_m_all)] := hD
    have er_25 := hw_24
    subst er_25
    refine lv_iconst (v := (-1)) hx hb dX9_count_139 (by decide) ?_
    refine lv_icmp_ne (tgt := 147) hx hb dX9_count_140 (by decide) (fun c_26 => absurd (by decide) c_26) (fun c_26 => ?_)
    refine lv_iconst (v := 0) hx hb dX9_count_143 (by decide) ?_
    refine lv_goto (tgt := 150) hx hb dX9_count_144 (by decide) ?_
    refine lv_ior hx hb dX9_count_150 ?_
    refine tpi (y := 0) (by decide) ?_
    refine lv_istore_n (lv' := [(2, .int 0), (3, .int 1), (0, .ref md), (1, .int x)]) hx hb dX9_count_151 rfl hl (by decide) rfl (fun ls hl => ?_)
    refine lv_iinc (v := 2) (lv' := [(3, .int 2), (2, .int 0), (0, .ref md), (1, .int x)]) hx hb dX9_count_152 hl (k := 1) rfl (by decide) (by decide) rfl (fun ls hl => ?_)
    refine lv_goto (tgt := 128) hx hb dX9_count_155 (by decide) ?_
    refine lv_iload_n hx hb dX9_count_128 rfl (lv_at hl 0 rfl) ?_
    refine lv_iconst (v := 3) hx hb dX9_count_129 (by decide) ?_
    refine lv_icmp_ge (tgt := 158) hx hb dX9_count_130 (by decide) (fun c_27 => absurd c_27 (by decide)) (fun c_27 => ?_)
    refine lv_iload_n hx hb dX9_count_133 rfl (lv_at hl 1 rfl) ?_
    refine lv_aload_n hx hb dX9_count_134 rfl (lv_at hl 2 rfl) ?_
    refine lv_iload_n hx hb dX9_count_135 rfl (lv_at hl 0 rfl) ?_
    refine kV_i (ci := 9) (As := [.int 2]) (rest := [.int 0]) (wc := [(md, .inr (9, [.int 0, .ref m_all, .ref m_deeds, .ref m_trial, .int 0, .ref m_hasImage, .ref m_tape, .ref m_key, .ref m_answered, .int 0, .int 0, .int 0, .ref m_goes, .int 0, .ref m_hotOnes, .ref m_indexed, .ref m_isChanged, .int 0, .ref m_valueNow, .int 0, .int (-1), .int 0, .ref m_didSome, .ref m_sizes, .ref m_ends])), (m_all, aI cs 51207 f_m_all)]) (wr := []) hx hb hml hown hu hK hP hD hS hA hl.1 (c_X9_momentOf l D cs H.size 2 md m_all f_m_all m_deeds m_trial m_hasImage m_tape m_key m_answered m_goes m_hotOnes m_indexed m_isChanged m_valueNow m_didSome m_sizes m_ends 0 0 0 z_all (by first | decide | grind)) (gV u_1278 u_1280 u_35 u_76 u_1281) hd_X9_momentOf ⟨(Nat.le_of_ble_eq_true rfl), (Nat.le_of_ble_eq_true rfl)⟩ [0, 1] [] rfl rfl rfl rfl (by decide) rfl 0 rfl rfl rfl (Nat.le_of_ble_eq_true rfl) dX9_count_136 ⟨(Nat.le_of_ble_eq_true rfl), (Nat.le_of_ble_eq_true rfl)⟩ (fun r_28 ut_29 H locs hw_30 hP hD hS => ?_)
    have hP : va_P D vwCl [(md, .inr (9, [.int 0, .ref m_all, .ref m_deeds, .ref m_trial, .int 0, .ref m_hasImage, .ref m_tape, .ref m_key, .ref m_answered, .int 0, .int 0, .int 0, .ref m_goes, .int 0, .ref m_hotOnes, .ref m_indexed, .ref m_isChanged, .int 0, .ref m_valueNow, .int 0, .int (-1), .int 0, .ref m_didSome, .ref m_sizes, .ref m_ends])), (m_all, aI cs 51207 f_m_all)] H := hP
    have hD : va_D A [(md, .inr (9, [.int 0, .ref m_all, .ref m_deeds, .ref m_trial, .int 0, .ref m_hasImage, .ref m_tape, .ref m_key, .ref m_answered, .int 0, .int 0, .int 0, .ref m_goes, .int 0, .ref m_hotOnes, .ref m_indexed, .ref m_isChanged, .int 0, .ref m_valueNow, .int 0, .int (-1), .int 0, .ref m_didSome, .ref m_sizes, .ref m_ends])), (m_all, aI cs 51207 f_m_all)] := hD
    have er_31 := hw_30
    subst er_31
    refine lv_iconst (v := (-1)) hx hb dX9_count_139 (by decide) ?_
    refine lv_icmp_ne (tgt := 147) hx hb dX9_count_140 (by decide) (fun c_32 => absurd (by decide) c_32) (fun c_32 => ?_)
    refine lv_iconst (v := 0) hx hb dX9_count_143 (by decide) ?_
    refine lv_goto (tgt := 150) hx hb dX9_count_144 (by decide) ?_
    refine lv_ior hx hb dX9_count_150 ?_
    refine tpi (y := 0) (by decide) ?_
    refine lv_istore_n (lv' := [(2, .int 0), (3, .int 2), (0, .ref md), (1, .int x)]) hx hb dX9_count_151 rfl hl (by decide) rfl (fun ls hl => ?_)
    refine lv_iinc (v := 3) (lv' := [(3, .int 3), (2, .int 0), (0, .ref md), (1, .int x)]) hx hb dX9_count_152 hl (k := 1) rfl (by decide) (by decide) rfl (fun ls hl => ?_)
    refine lv_goto (tgt := 128) hx hb dX9_count_155 (by decide) ?_
    refine lv_iload_n hx hb dX9_count_128 rfl (lv_at hl 0 rfl) ?_
    refine lv_iconst (v := 3) hx hb dX9_count_129 (by decide) ?_
    refine lv_icmp_ge (tgt := 158) hx hb dX9_count_130 (by decide) (fun c_33 => ?_) (fun c_33 => absurd (by decide) c_33)
    refine lv_iload_n hx hb dX9_count_158 rfl (lv_at hl 1 rfl) ?_
    exact hz () hP hD hS (by grind) [] rfl rfl (Nat.le_of_ble_eq_true rfl) (Nat.le_of_ble_eq_true rfl) .int rfl rfl dX9_count_159
  · refine lv_tableIn (tgt := 160) hx hb dX9_count_8 (by rw [c_1]; decide) (by rw [c_1]; decide) (off := 152) (by rw [c_1]; rfl) (by decide) ?_
    refine lv_aload_n hx hb dX9_count_160 rfl (lv_at hl 1 rfl) ?_
    refine va_get (D := D) (ci := 9) (v := .int 0) (C := RX9) (T := TX9) (N := 25) hx hb hu in_X9 hown hK.1 hP 0 rfl rfl 4 (by decide) (hu _ u_1084) (fun _ h9 => h9) rfl dX9_count_161 ?_
    exact hz () hP hD hS (by grind) [] rfl rfl (Nat.le_of_ble_eq_true rfl) (Nat.le_of_ble_eq_true rfl) .int rfl rfl dX9_count_164
  · refine lv_tableIn (tgt := 165) hx hb dX9_count_8 (by rw [c_1]; decide) (by rw [c_1]; decide) (off := 157) (by rw [c_1]; rfl) (by decide) ?_
    refine lv_aload_n hx hb dX9_count_165 rfl (lv_at hl 1 rfl) ?_
    refine va_get (D := D) (ci := 9) (v := .int 0) (C := RX9) (T := TX9) (N := 25) hx hb hu in_X9 hown hK.1 hP 0 rfl rfl 9 (by decide) (hu _ u_1089) (fun _ h9 => h9) rfl dX9_count_166 ?_
    exact hz () hP hD hS (by grind) [] rfl rfl (Nat.le_of_ble_eq_true rfl) (Nat.le_of_ble_eq_true rfl) .int rfl rfl dX9_count_169
  · refine lv_tableIn (tgt := 170) hx hb dX9_count_8 (by rw [c_1]; decide) (by rw [c_1]; decide) (off := 162) (by rw [c_1]; rfl) (by decide) ?_
    refine lv_aload_n hx hb dX9_count_170 rfl (lv_at hl 1 rfl) ?_
    refine va_get (D := D) (ci := 9) (v := .int 0) (C := RX9) (T := TX9) (N := 25) hx hb hu in_X9 hown hK.1 hP 0 rfl rfl 11 (by decide) (hu _ u_1091) (fun _ h9 => h9) rfl dX9_count_171 ?_
    exact hz () hP hD hS (by grind) [] rfl rfl (Nat.le_of_ble_eq_true rfl) (Nat.le_of_ble_eq_true rfl) .int rfl rfl dX9_count_174
  · refine lv_tableOut (tgt := 175) hx hb dX9_count_8 c_1.1 (by decide) ?_
    refine lv_iconst (v := (-1)) hx hb dX9_count_175 (by decide) ?_
    exact hz () hP hD hS (by grind) [] rfl rfl (Nat.le_of_ble_eq_true rfl) (Nat.le_of_ble_eq_true rfl) .int rfl rfl dX9_count_176
