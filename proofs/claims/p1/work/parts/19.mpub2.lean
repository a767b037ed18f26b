theorem u_1434 : Cond.constantLong "KeyDriveModel" 266 7 ∈ U0 := um 1434 (by decide +kernel) (by decide +kernel)
theorem u_1433 : Cond.constantLong "KeyDriveModel" 264 (-6) ∈ U0 := um 1433 (by decide +kernel) (by decide +kernel)
theorem u_1432 : Cond.constantLong "KeyDriveModel" 262 (-2) ∈ U0 := um 1432 (by decide +kernel) (by decide +kernel)
theorem u_1334 : Cond.code yX9_notes prog_11_method_4_code 1 none ∈ U0 := um 1334 (by decide +kernel) (by decide +kernel)
theorem u_1331 : Cond.methodLink "KeyDriveModel" 218 yX9_notes ∈ U0 := um 1331 (by decide +kernel) (by decide +kernel)
theorem u_1333 : Cond.instanceMethod yX9_notes ∈ U0 := um 1333 (by decide +kernel) (by decide +kernel)
theorem u_45 : Cond.selects "KeyDriveModel" yX9_notes yX9_notes ∈ U0 := um 45 (by decide +kernel) (by decide +kernel)
theorem u_1281 : Cond.code yX9_momentOf prog_11_method_23_code 2 (some .int) ∈ U0 := um 1281 (by decide +kernel) (by decide +kernel)
theorem u_1278 : Cond.methodLink "KeyDriveModel" 112 yX9_momentOf ∈ U0 := um 1278 (by decide +kernel) (by decide +kernel)
theorem u_1280 : Cond.instanceMethod yX9_momentOf ∈ U0 := um 1280 (by decide +kernel) (by decide +kernel)
theorem u_35 : Cond.selects "KeyDriveModel" yX9_momentOf yX9_momentOf ∈ U0 := um 35 (by decide +kernel) (by decide +kernel)
theorem u_1451 : Cond.code yX9_leftOf prog_11_method_74_code 4 (some .int) ∈ U0 := um 1451 (by decide +kernel) (by decide +kernel)
theorem u_1448 : Cond.methodLink "KeyDriveModel" 273 yX9_leftOf ∈ U0 := um 1448 (by decide +kernel) (by decide +kernel)
theorem u_1450 : Cond.instanceMethod yX9_leftOf ∈ U0 := um 1450 (by decide +kernel) (by decide +kernel)
theorem u_57 : Cond.selects "KeyDriveModel" yX9_leftOf yX9_leftOf ∈ U0 := um 57 (by decide +kernel) (by decide +kernel)
theorem u_1480 : Cond.constantLong "KeyDriveModel" 279 23 ∈ U0 := um 1480 (by decide +kernel) (by decide +kernel)
theorem u_1481 : Cond.constantLong "KeyDriveModel" 281 5 ∈ U0 := um 1481 (by decide +kernel) (by decide +kernel)
theorem u_1485 : Cond.code yX9_liveOn prog_11_method_81_code 4 (some .int) ∈ U0 := um 1485 (by decide +kernel) (by decide +kernel)
theorem u_1482 : Cond.methodLink "KeyDriveModel" 283 yX9_liveOn ∈ U0 := um 1482 (by decide +kernel) (by decide +kernel)
theorem u_1484 : Cond.instanceMethod yX9_liveOn ∈ U0 := um 1484 (by decide +kernel) (by decide +kernel)
theorem u_60 : Cond.selects "KeyDriveModel" yX9_liveOn yX9_liveOn ∈ U0 := um 60 (by decide +kernel) (by decide +kernel)
theorem u_1490 : Cond.constantLong "KeyDriveModel" 286 4 ∈ U0 := um 1490 (by decide +kernel) (by decide +kernel)
theorem u_1199 : Cond.code yX9_victimBy prog_11_method_34_code 7 (some .int) ∈ U0 := um 1199 (by decide +kernel) (by decide +kernel)
theorem u_1196 : Cond.methodLink "KeyDriveModel" 148 yX9_victimBy ∈ U0 := um 1196 (by decide +kernel) (by decide +kernel)
theorem u_1198 : Cond.instanceMethod yX9_victimBy ∈ U0 := um 1198 (by decide +kernel) (by decide +kernel)
theorem u_15 : Cond.selects "KeyDriveModel" yX9_victimBy yX9_victimBy ∈ U0 := um 15 (by decide +kernel) (by decide +kernel)
theorem u_1463 : Cond.code yX9_closes prog_11_method_76_code 4 (some .int) ∈ U0 := um 1463 (by decide +kernel) (by decide +kernel)
theorem u_1460 : Cond.methodLink "KeyDriveModel" 276 yX9_closes ∈ U0 := um 1460 (by decide +kernel) (by decide +kernel)
theorem u_1462 : Cond.instanceMethod yX9_closes ∈ U0 := um 1462 (by decide +kernel) (by decide +kernel)
theorem u_59 : Cond.selects "KeyDriveModel" yX9_closes yX9_closes ∈ U0 := um 59 (by decide +kernel) (by decide +kernel)
theorem dX9_sum_0 : decode cX9_sum 0 = .ok (.aload_n 0, 1) := by decide +kernel
theorem dX9_sum_1 : decode cX9_sum 1 = .ok (.iconst 0, 1) := by decide +kernel
theorem dX9_sum_2 : decode cX9_sum 2 = .ok (.putfield 1, 3) := by decide +kernel
theorem dX9_sum_5 : decode cX9_sum 5 = .ok (.iload_n 1, 1) := by decide +kernel
theorem dX9_sum_6 : decode cX9_sum 6 = .ok (.invokestatic 200, 3) := by decide +kernel
theorem dX9_sum_9 : decode cX9_sum 9 = .ok (.ifCond .ne 7, 3) := by decide +kernel
theorem dX9_sum_12 : decode cX9_sum 12 = .ok (.ldc2_w 262, 3) := by decide +kernel
theorem dX9_sum_15 : decode cX9_sum 15 = .ok (.lreturn, 1) := by decide +kernel
theorem dX9_sum_16 : decode cX9_sum 16 = .ok (.aload_n 0, 1) := by decide +kernel
theorem dX9_sum_17 : decode cX9_sum 17 = .ok (.iload_n 1, 1) := by decide +kernel
theorem dX9_sum_18 : decode cX9_sum 18 = .ok (.invokevirtual 206, 3) := by decide +kernel
theorem dX9_sum_21 : decode cX9_sum 21 = .ok (.istore_n 2, 1) := by decide +kernel
theorem dX9_sum_22 : decode cX9_sum 22 = .ok (.iload_n 2, 1) := by decide +kernel
theorem dX9_sum_23 : decode cX9_sum 23 = .ok (.bipush (-6), 2) := by decide +kernel
theorem dX9_sum_25 : decode cX9_sum 25 = .ok (.if_icmp .ne 7, 3) := by decide +kernel
theorem dX9_sum_28 : decode cX9_sum 28 = .ok (.ldc2_w 264, 3) := by decide +kernel
theorem dX9_sum_31 : decode cX9_sum 31 = .ok (.lreturn, 1) := by decide +kernel
theorem dX9_sum_32 : decode cX9_sum 32 = .ok (.ldc2_w 266, 3) := by decide +kernel
theorem dX9_sum_35 : decode cX9_sum 35 = .ok (.lstore_n 3, 1) := by decide +kernel
theorem dX9_sum_36 : decode cX9_sum 36 = .ok (.iconst 0, 1) := by decide +kernel
theorem dX9_sum_37 : decode cX9_sum 37 = .ok (.istore 5, 2) := by decide +kernel
theorem dX9_sum_39 : decode cX9_sum 39 = .ok (.iload 5, 2) := by decide +kernel
theorem dX9_sum_41 : decode cX9_sum 41 = .ok (.aload_n 0, 1) := by decide +kernel
theorem dX9_sum_42 : decode cX9_sum 42 = .ok (.getfield 14, 3) := by decide +kernel
theorem dX9_sum_45 : decode cX9_sum 45 = .ok (.sipush 1628, 3) := by decide +kernel
theorem dX9_sum_48 : decode cX9_sum 48 = .ok (.iaload, 1) := by decide +kernel
theorem dX9_sum_49 : decode cX9_sum 49 = .ok (.if_icmp .ge 123, 3) := by decide +kernel
theorem dX9_sum_172 : decode cX9_sum 172 = .ok (.lload_n 3, 1) := by decide +kernel
theorem dX9_sum_173 : decode cX9_sum 173 = .ok (.lreturn, 1) := by decide +kernel
theorem dX9_snap_0 : decode cX9_snap 0 = .ok (.aload_n 0, 1) := by decide +kernel
theorem dX9_snap_1 : decode cX9_snap 1 = .ok (.iconst 0, 1) := by decide +kernel
theorem dX9_snap_2 : decode cX9_snap 2 = .ok (.putfield 1, 3) := by decide +kernel
theorem dX9_snap_5 : decode cX9_snap 5 = .ok (.iload_n 1, 1) := by decide +kernel
theorem dX9_snap_6 : decode cX9_snap 6 = .ok (.i2l, 1) := by decide +kernel
theorem dX9_snap_7 : decode cX9_snap 7 = .ok (.lconst 0, 1) := by decide +kernel
theorem dX9_snap_8 : decode cX9_snap 8 = .ok (.ldc2_w 198, 3) := by decide +kernel
theorem dX9_snap_11 : decode cX9_snap 11 = .ok (.invokestatic 80, 3) := by decide +kernel
theorem dX9_snap_14 : decode cX9_snap 14 = .ok (.ifCond .ne 6, 3) := by decide +kernel
theorem dX9_snap_17 : decode cX9_snap 17 = .ok (.bipush (-2), 2) := by decide +kernel
theorem dX9_snap_19 : decode cX9_snap 19 = .ok (.ireturn, 1) := by decide +kernel
theorem dX9_snap_20 : decode cX9_snap 20 = .ok (.aload_n 0, 1) := by decide +kernel
theorem dX9_snap_21 : decode cX9_snap 21 = .ok (.getfield 14, 3) := by decide +kernel
theorem dX9_snap_24 : decode cX9_snap 24 = .ok (.bipush 55, 2) := by decide +kernel
theorem dX9_snap_26 : decode cX9_snap 26 = .ok (.iload_n 1, 1) := by decide +kernel
theorem dX9_snap_27 : decode cX9_snap 27 = .ok (.iadd, 1) := by decide +kernel
theorem dX9_snap_28 : decode cX9_snap 28 = .ok (.iaload, 1) := by decide +kernel
theorem dX9_snap_29 : decode cX9_snap 29 = .ok (.iconst (-1), 1) := by decide +kernel
theorem dX9_snap_30 : decode cX9_snap 30 = .ok (.if_icmp .eq 6, 3) := by decide +kernel
theorem dX9_snap_36 : decode cX9_snap 36 = .ok (.aload_n 0, 1) := by decide +kernel
theorem dX9_snap_37 : decode cX9_snap 37 = .ok (.invokevirtual 218, 3) := by decide +kernel
theorem dX9_snap_40 : decode cX9_snap 40 = .ok (.aload_n 0, 1) := by decide +kernel
theorem dX9_snap_41 : decode cX9_snap 41 = .ok (.getfield 14, 3) := by decide +kernel
theorem dX9_snap_44 : decode cX9_snap 44 = .ok (.bipush 55, 2) := by decide +kernel
theorem dX9_snap_46 : decode cX9_snap 46 = .ok (.iload_n 1, 1) := by decide +kernel
theorem dX9_snap_47 : decode cX9_snap 47 = .ok (.iadd, 1) := by decide +kernel
theorem dX9_snap_48 : decode cX9_snap 48 = .ok (.aload_n 0, 1) := by decide +kernel
theorem dX9_snap_49 : decode cX9_snap 49 = .ok (.getfield 14, 3) := by decide +kernel
theorem dX9_snap_52 : decode cX9_snap 52 = .ok (.iconst 0, 1) := by decide +kernel
theorem dX9_snap_53 : decode cX9_snap 53 = .ok (.iaload, 1) := by decide +kernel
theorem dX9_snap_54 : decode cX9_snap 54 = .ok (.iastore, 1) := by decide +kernel
theorem dX9_snap_55 : decode cX9_snap 55 = .ok (.aload_n 0, 1) := by decide +kernel
theorem dX9_snap_56 : decode cX9_snap 56 = .ok (.getfield 14, 3) := by decide +kernel
theorem dX9_snap_59 : decode cX9_snap 59 = .ok (.iconst 0, 1) := by decide +kernel
theorem dX9_snap_60 : decode cX9_snap 60 = .ok (.iaload, 1) := by decide +kernel
theorem dX9_snap_61 : decode cX9_snap 61 = .ok (.ireturn, 1) := by decide +kernel
theorem dX9_unsnap_0 : decode cX9_unsnap 0 = .ok (.aload_n 0, 1) := by decide +kernel
theorem dX9_unsnap_1 : decode cX9_unsnap 1 = .ok (.iconst 0, 1) := by decide +kernel
theorem dX9_unsnap_2 : decode cX9_unsnap 2 = .ok (.putfield 1, 3) := by decide +kernel
theorem dX9_unsnap_5 : decode cX9_unsnap 5 = .ok (.iload_n 1, 1) := by decide +kernel
theorem dX9_unsnap_6 : decode cX9_unsnap 6 = .ok (.i2l, 1) := by decide +kernel
theorem dX9_unsnap_7 : decode cX9_unsnap 7 = .ok (.lconst 0, 1) := by decide +kernel
theorem dX9_unsnap_8 : decode cX9_unsnap 8 = .ok (.ldc2_w 198, 3) := by decide +kernel
theorem dX9_unsnap_11 : decode cX9_unsnap 11 = .ok (.invokestatic 80, 3) := by decide +kernel
theorem dX9_unsnap_14 : decode cX9_unsnap 14 = .ok (.ifCond .ne 6, 3) := by decide +kernel
theorem dX9_unsnap_17 : decode cX9_unsnap 17 = .ok (.bipush (-2), 2) := by decide +kernel
theorem dX9_unsnap_19 : decode cX9_unsnap 19 = .ok (.ireturn, 1) := by decide +kernel
theorem dX9_unsnap_20 : decode cX9_unsnap 20 = .ok (.aload_n 0, 1) := by decide +kernel
theorem dX9_unsnap_21 : decode cX9_unsnap 21 = .ok (.getfield 14, 3) := by decide +kernel
theorem dX9_unsnap_24 : decode cX9_unsnap 24 = .ok (.bipush 55, 2) := by decide +kernel
theorem dX9_unsnap_26 : decode cX9_unsnap 26 = .ok (.iload_n 1, 1) := by decide +kernel
theorem dX9_unsnap_27 : decode cX9_unsnap 27 = .ok (.iadd, 1) := by decide +kernel
theorem dX9_unsnap_28 : decode cX9_unsnap 28 = .ok (.iaload, 1) := by decide +kernel
theorem dX9_unsnap_29 : decode cX9_unsnap 29 = .ok (.iconst (-1), 1) := by decide +kernel
theorem dX9_unsnap_30 : decode cX9_unsnap 30 = .ok (.if_icmp .ne 6, 3) := by decide +kernel
theorem dX9_unsnap_33 : decode cX9_unsnap 33 = .ok (.bipush (-6), 2) := by decide +kernel
theorem dX9_unsnap_35 : decode cX9_unsnap 35 = .ok (.ireturn, 1) := by decide +kernel
theorem dX9_open_0 : decode cX9_open 0 = .ok (.aload_n 0, 1) := by decide +kernel
theorem dX9_open_1 : decode cX9_open 1 = .ok (.iconst 0, 1) := by decide +kernel
theorem dX9_open_2 : decode cX9_open 2 = .ok (.putfield 1, 3) := by decide +kernel
theorem dX9_open_5 : decode cX9_open 5 = .ok (.iload_n 1, 1) := by decide +kernel
theorem dX9_open_6 : decode cX9_open 6 = .ok (.i2l, 1) := by decide +kernel
theorem dX9_open_7 : decode cX9_open 7 = .ok (.lconst 0, 1) := by decide +kernel
theorem dX9_open_8 : decode cX9_open 8 = .ok (.ldc2_w 230, 3) := by decide +kernel
theorem dX9_open_11 : decode cX9_open 11 = .ok (.invokestatic 80, 3) := by decide +kernel
theorem dX9_open_14 : decode cX9_open 14 = .ok (.ifCond .eq 10, 3) := by decide +kernel
theorem dX9_open_17 : decode cX9_open 17 = .ok (.iload_n 3, 1) := by decide +kernel
theorem dX9_open_18 : decode cX9_open 18 = .ok (.invokestatic 200, 3) := by decide +kernel
theorem dX9_open_21 : decode cX9_open 21 = .ok (.ifCond .ne 6, 3) := by decide +kernel
theorem dX9_open_24 : decode cX9_open 24 = .ok (.bipush (-2), 2) := by decide +kernel
theorem dX9_open_26 : decode cX9_open 26 = .ok (.ireturn, 1) := by decide +kernel
theorem dX9_open_27 : decode cX9_open 27 = .ok (.aload_n 0, 1) := by decide +kernel
theorem dX9_open_28 : decode cX9_open 28 = .ok (.iload_n 1, 1) := by decide +kernel
theorem dX9_open_29 : decode cX9_open 29 = .ok (.invokevirtual 112, 3) := by decide +kernel
theorem dX9_open_32 : decode cX9_open 32 = .ok (.iconst (-1), 1) := by decide +kernel
theorem dX9_open_33 : decode cX9_open 33 = .ok (.if_icmp .eq 6, 3) := by decide +kernel
theorem dX9_open_39 : decode cX9_open 39 = .ok (.iload_n 2, 1) := by decide +kernel
theorem dX9_open_40 : decode cX9_open 40 = .ok (.i2l, 1) := by decide +kernel
theorem dX9_open_41 : decode cX9_open 41 = .ok (.lconst 0, 1) := by decide +kernel
theorem dX9_open_42 : decode cX9_open 42 = .ok (.ldc2_w 78, 3) := by decide +kernel
theorem dX9_open_45 : decode cX9_open 45 = .ok (.invokestatic 80, 3) := by decide +kernel
theorem dX9_open_48 : decode cX9_open 48 = .ok (.ifCond .eq 11, 3) := by decide +kernel
theorem dX9_open_51 : decode cX9_open 51 = .ok (.iload_n 2, 1) := by decide +kernel
theorem dX9_open_52 : decode cX9_open 52 = .ok (.aload_n 0, 1) := by decide +kernel
theorem dX9_open_53 : decode cX9_open 53 = .ok (.getfield 75, 3) := by decide +kernel
theorem dX9_open_56 : decode cX9_open 56 = .ok (.if_icmp .le 6, 3) := by decide +kernel
theorem dX9_open_59 : decode cX9_open 59 = .ok (.bipush (-3), 2) := by decide +kernel
theorem dX9_open_61 : decode cX9_open 61 = .ok (.ireturn, 1) := by decide +kernel
theorem dX9_open_62 : decode cX9_open 62 = .ok (.aload_n 0, 1) := by decide +kernel
theorem dX9_open_63 : decode cX9_open 63 = .ok (.iload_n 3, 1) := by decide +kernel
theorem dX9_open_64 : decode cX9_open 64 = .ok (.invokevirtual 206, 3) := by decide +kernel
theorem dX9_open_67 : decode cX9_open 67 = .ok (.istore 4, 2) := by decide +kernel
theorem dX9_open_69 : decode cX9_open 69 = .ok (.iload 4, 2) := by decide +kernel
theorem dX9_open_71 : decode cX9_open 71 = .ok (.bipush (-6), 2) := by decide +kernel
theorem dX9_open_73 : decode cX9_open 73 = .ok (.if_icmp .ne 6, 3) := by decide +kernel
theorem dX9_open_76 : decode cX9_open 76 = .ok (.bipush (-6), 2) := by decide +kernel
theorem dX9_open_78 : decode cX9_open 78 = .ok (.ireturn, 1) := by decide +kernel
theorem dX9_open_79 : decode cX9_open 79 = .ok (.aload_n 0, 1) := by decide +kernel
theorem dX9_open_80 : decode cX9_open 80 = .ok (.invokevirtual 218, 3) := by decide +kernel
theorem dX9_open_83 : decode cX9_open 83 = .ok (.bipush 59, 2) := by decide +kernel
theorem dX9_open_85 : decode cX9_open 85 = .ok (.bipush 11, 2) := by decide +kernel
theorem dX9_open_87 : decode cX9_open 87 = .ok (.iload_n 1, 1) := by decide +kernel
theorem dX9_open_88 : decode cX9_open 88 = .ok (.imul, 1) := by decide +kernel
theorem dX9_open_89 : decode cX9_open 89 = .ok (.iadd, 1) := by decide +kernel
theorem dX9_open_90 : decode cX9_open 90 = .ok (.istore 5, 2) := by decide +kernel
theorem dX9_open_92 : decode cX9_open 92 = .ok (.aload_n 0, 1) := by decide +kernel
theorem dX9_open_93 : decode cX9_open 93 = .ok (.getfield 14, 3) := by decide +kernel
theorem dX9_open_96 : decode cX9_open 96 = .ok (.iload 5, 2) := by decide +kernel
theorem dX9_open_98 : decode cX9_open 98 = .ok (.iconst 0, 1) := by decide +kernel
theorem dX9_open_99 : decode cX9_open 99 = .ok (.iadd, 1) := by decide +kernel
theorem dX9_open_100 : decode cX9_open 100 = .ok (.iload 4, 2) := by decide +kernel
theorem dX9_open_102 : decode cX9_open 102 = .ok (.iastore, 1) := by decide +kernel
theorem dX9_open_103 : decode cX9_open 103 = .ok (.aload_n 0, 1) := by decide +kernel
theorem dX9_open_104 : decode cX9_open 104 = .ok (.getfield 14, 3) := by decide +kernel
theorem dX9_open_107 : decode cX9_open 107 = .ok (.iload 5, 2) := by decide +kernel
theorem dX9_open_109 : decode cX9_open 109 = .ok (.iconst 1, 1) := by decide +kernel
theorem dX9_open_110 : decode cX9_open 110 = .ok (.iadd, 1) := by decide +kernel
theorem dX9_open_111 : decode cX9_open 111 = .ok (.iload_n 2, 1) := by decide +kernel
theorem dX9_open_112 : decode cX9_open 112 = .ok (.iastore, 1) := by decide +kernel
theorem dX9_open_113 : decode cX9_open 113 = .ok (.iconst 0, 1) := by decide +kernel
theorem dX9_open_114 : decode cX9_open 114 = .ok (.istore 6, 2) := by decide +kernel
theorem dX9_open_116 : decode cX9_open 116 = .ok (.iload 6, 2) := by decide +kernel
theorem dX9_open_118 : decode cX9_open 118 = .ok (.bipush 8, 2) := by decide +kernel
theorem dX9_open_120 : decode cX9_open 120 = .ok (.if_icmp .ge 38, 3) := by decide +kernel
theorem dX9_open_123 : decode cX9_open 123 = .ok (.aload_n 0, 1) := by decide +kernel
theorem dX9_open_124 : decode cX9_open 124 = .ok (.getfield 14, 3) := by decide +kernel
theorem dX9_open_127 : decode cX9_open 127 = .ok (.iload 5, 2) := by decide +kernel
theorem dX9_open_129 : decode cX9_open 129 = .ok (.iconst 2, 1) := by decide +kernel
theorem dX9_open_130 : decode cX9_open 130 = .ok (.iadd, 1) := by decide +kernel
theorem dX9_open_131 : decode cX9_open 131 = .ok (.iload 6, 2) := by decide +kernel
theorem dX9_open_133 : decode cX9_open 133 = .ok (.iadd, 1) := by decide +kernel
theorem dX9_open_134 : decode cX9_open 134 = .ok (.iload 6, 2) := by decide +kernel
theorem dX9_open_136 : decode cX9_open 136 = .ok (.iload_n 2, 1) := by decide +kernel
theorem dX9_open_137 : decode cX9_open 137 = .ok (.if_icmp .ge 13, 3) := by decide +kernel
theorem dX9_open_150 : decode cX9_open 150 = .ok (.iconst 0, 1) := by decide +kernel
theorem dX9_open_151 : decode cX9_open 151 = .ok (.iastore, 1) := by decide +kernel
theorem dX9_open_152 : decode cX9_open 152 = .ok (.iinc 6 1, 3) := by decide +kernel
theorem dX9_open_155 : decode cX9_open 155 = .ok (.goto (-39), 3) := by decide +kernel
theorem dX9_open_158 : decode cX9_open 158 = .ok (.aload_n 0, 1) := by decide +kernel
theorem dX9_open_159 : decode cX9_open 159 = .ok (.getfield 14, 3) := by decide +kernel
theorem dX9_open_162 : decode cX9_open 162 = .ok (.iload 5, 2) := by decide +kernel
theorem dX9_open_164 : decode cX9_open 164 = .ok (.bipush 10, 2) := by decide +kernel
theorem dX9_open_166 : decode cX9_open 166 = .ok (.iadd, 1) := by decide +kernel
theorem dX9_open_167 : decode cX9_open 167 = .ok (.iconst 0, 1) := by decide +kernel
theorem dX9_open_168 : decode cX9_open 168 = .ok (.iastore, 1) := by decide +kernel
theorem dX9_open_169 : decode cX9_open 169 = .ok (.aload_n 0, 1) := by decide +kernel
theorem dX9_open_170 : decode cX9_open 170 = .ok (.iconst 0, 1) := by decide +kernel
theorem dX9_open_171 : decode cX9_open 171 = .ok (.putfield 75, 3) := by decide +kernel
theorem dX9_open_174 : decode cX9_open 174 = .ok (.aload_n 0, 1) := by decide +kernel
theorem dX9_open_175 : decode cX9_open 175 = .ok (.iload_n 1, 1) := by decide +kernel
theorem dX9_open_176 : decode cX9_open 176 = .ok (.invokevirtual 273, 3) := by decide +kernel
theorem dX9_open_179 : decode cX9_open 179 = .ok (.ireturn, 1) := by decide +kernel
theorem dX9_next_0 : decode cX9_next 0 = .ok (.aload_n 0, 1) := by decide +kernel
theorem dX9_next_1 : decode cX9_next 1 = .ok (.iconst 0, 1) := by decide +kernel
theorem dX9_next_2 : decode cX9_next 2 = .ok (.putfield 1, 3) := by decide +kernel
theorem dX9_next_5 : decode cX9_next 5 = .ok (.iload_n 1, 1) := by decide +kernel
theorem dX9_next_6 : decode cX9_next 6 = .ok (.i2l, 1) := by decide +kernel
theorem dX9_next_7 : decode cX9_next 7 = .ok (.lconst 0, 1) := by decide +kernel
theorem dX9_next_8 : decode cX9_next 8 = .ok (.ldc2_w 230, 3) := by decide +kernel
theorem dX9_next_11 : decode cX9_next 11 = .ok (.invokestatic 80, 3) := by decide +kernel
theorem dX9_next_14 : decode cX9_next 14 = .ok (.ifCond .ne 6, 3) := by decide +kernel
theorem dX9_next_17 : decode cX9_next 17 = .ok (.bipush (-2), 2) := by decide +kernel
theorem dX9_next_19 : decode cX9_next 19 = .ok (.ireturn, 1) := by decide +kernel
theorem dX9_next_20 : decode cX9_next 20 = .ok (.aload_n 0, 1) := by decide +kernel
theorem dX9_next_21 : decode cX9_next 21 = .ok (.iload_n 1, 1) := by decide +kernel
theorem dX9_next_22 : decode cX9_next 22 = .ok (.invokevirtual 112, 3) := by decide +kernel
theorem dX9_next_25 : decode cX9_next 25 = .ok (.iconst (-1), 1) := by decide +kernel
theorem dX9_next_26 : decode cX9_next 26 = .ok (.if_icmp .ne 6, 3) := by decide +kernel
theorem dX9_next_29 : decode cX9_next 29 = .ok (.bipush (-6), 2) := by decide +kernel
theorem dX9_next_31 : decode cX9_next 31 = .ok (.ireturn, 1) := by decide +kernel
theorem dX9_left_0 : decode cX9_left 0 = .ok (.aload_n 0, 1) := by decide +kernel
theorem dX9_left_1 : decode cX9_left 1 = .ok (.iconst 0, 1) := by decide +kernel
theorem dX9_left_2 : decode cX9_left 2 = .ok (.putfield 1, 3) := by decide +kernel
theorem dX9_left_5 : decode cX9_left 5 = .ok (.iload_n 1, 1) := by decide +kernel
theorem dX9_left_6 : decode cX9_left 6 = .ok (.i2l, 1) := by decide +kernel
theorem dX9_left_7 : decode cX9_left 7 = .ok (.lconst 0, 1) := by decide +kernel
theorem dX9_left_8 : decode cX9_left 8 = .ok (.ldc2_w 230, 3) := by decide +kernel
theorem dX9_left_11 : decode cX9_left 11 = .ok (.invokestatic 80, 3) := by decide +kernel
theorem dX9_left_14 : decode cX9_left 14 = .ok (.ifCond .ne 6, 3) := by decide +kernel
theorem dX9_left_17 : decode cX9_left 17 = .ok (.bipush (-2), 2) := by decide +kernel
theorem dX9_left_19 : decode cX9_left 19 = .ok (.ireturn, 1) := by decide +kernel
theorem dX9_left_20 : decode cX9_left 20 = .ok (.aload_n 0, 1) := by decide +kernel
theorem dX9_left_21 : decode cX9_left 21 = .ok (.iload_n 1, 1) := by decide +kernel
theorem dX9_left_22 : decode cX9_left 22 = .ok (.invokevirtual 112, 3) := by decide +kernel
theorem dX9_left_25 : decode cX9_left 25 = .ok (.iconst (-1), 1) := by decide +kernel
theorem dX9_left_26 : decode cX9_left 26 = .ok (.if_icmp .ne 8, 3) := by decide +kernel
theorem dX9_left_29 : decode cX9_left 29 = .ok (.bipush (-6), 2) := by decide +kernel
theorem dX9_left_31 : decode cX9_left 31 = .ok (.goto 8, 3) := by decide +kernel
theorem dX9_left_39 : decode cX9_left 39 = .ok (.ireturn, 1) := by decide +kernel
theorem dX9_close_0 : decode cX9_close 0 = .ok (.aload_n 0, 1) := by decide +kernel
theorem dX9_close_1 : decode cX9_close 1 = .ok (.iconst 0, 1) := by decide +kernel
theorem dX9_close_2 : decode cX9_close 2 = .ok (.putfield 1, 3) := by decide +kernel
theorem dX9_close_5 : decode cX9_close 5 = .ok (.iload_n 1, 1) := by decide +kernel
theorem dX9_close_6 : decode cX9_close 6 = .ok (.i2l, 1) := by decide +kernel
theorem dX9_close_7 : decode cX9_close 7 = .ok (.lconst 0, 1) := by decide +kernel
theorem dX9_close_8 : decode cX9_close 8 = .ok (.ldc2_w 230, 3) := by decide +kernel
theorem dX9_close_11 : decode cX9_close 11 = .ok (.invokestatic 80, 3) := by decide +kernel
theorem dX9_close_14 : decode cX9_close 14 = .ok (.ifCond .ne 6, 3) := by decide +kernel
theorem dX9_close_17 : decode cX9_close 17 = .ok (.bipush (-2), 2) := by decide +kernel
theorem dX9_close_19 : decode cX9_close 19 = .ok (.ireturn, 1) := by decide +kernel
theorem dX9_close_20 : decode cX9_close 20 = .ok (.aload_n 0, 1) := by decide +kernel
theorem dX9_close_21 : decode cX9_close 21 = .ok (.iload_n 1, 1) := by decide +kernel
theorem dX9_close_22 : decode cX9_close 22 = .ok (.invokevirtual 112, 3) := by decide +kernel
theorem dX9_close_25 : decode cX9_close 25 = .ok (.iconst (-1), 1) := by decide +kernel
theorem dX9_close_26 : decode cX9_close 26 = .ok (.if_icmp .ne 6, 3) := by decide +kernel
theorem dX9_close_29 : decode cX9_close 29 = .ok (.bipush (-6), 2) := by decide +kernel
theorem dX9_close_31 : decode cX9_close 31 = .ok (.ireturn, 1) := by decide +kernel
theorem dX9_terms_0 : decode cX9_terms 0 = .ok (.aload_n 0, 1) := by decide +kernel
theorem dX9_terms_1 : decode cX9_terms 1 = .ok (.iconst 0, 1) := by decide +kernel
theorem dX9_terms_2 : decode cX9_terms 2 = .ok (.putfield 1, 3) := by decide +kernel
theorem dX9_terms_5 : decode cX9_terms 5 = .ok (.iload_n 1, 1) := by decide +kernel
theorem dX9_terms_6 : decode cX9_terms 6 = .ok (.i2l, 1) := by decide +kernel
theorem dX9_terms_7 : decode cX9_terms 7 = .ok (.lconst 0, 1) := by decide +kernel
theorem dX9_terms_8 : decode cX9_terms 8 = .ok (.lconst 1, 1) := by decide +kernel
theorem dX9_terms_9 : decode cX9_terms 9 = .ok (.invokestatic 80, 3) := by decide +kernel
theorem dX9_terms_12 : decode cX9_terms 12 = .ok (.ifCond .ne 6, 3) := by decide +kernel
theorem dX9_terms_15 : decode cX9_terms 15 = .ok (.bipush (-2), 2) := by decide +kernel
theorem dX9_terms_17 : decode cX9_terms 17 = .ok (.ireturn, 1) := by decide +kernel
theorem dX9_terms_18 : decode cX9_terms 18 = .ok (.iload_n 2, 1) := by decide +kernel
theorem dX9_terms_19 : decode cX9_terms 19 = .ok (.i2l, 1) := by decide +kernel
theorem dX9_terms_20 : decode cX9_terms 20 = .ok (.lconst 0, 1) := by decide +kernel
theorem dX9_terms_21 : decode cX9_terms 21 = .ok (.ldc2_w 230, 3) := by decide +kernel
theorem dX9_terms_24 : decode cX9_terms 24 = .ok (.invokestatic 80, 3) := by decide +kernel
theorem dX9_terms_27 : decode cX9_terms 27 = .ok (.ifCond .ne 6, 3) := by decide +kernel
theorem dX9_terms_30 : decode cX9_terms 30 = .ok (.bipush (-3), 2) := by decide +kernel
theorem dX9_terms_32 : decode cX9_terms 32 = .ok (.ireturn, 1) := by decide +kernel
theorem dX9_terms_33 : decode cX9_terms 33 = .ok (.aload_n 0, 1) := by decide +kernel
theorem dX9_terms_34 : decode cX9_terms 34 = .ok (.invokevirtual 218, 3) := by decide +kernel
theorem dX9_terms_37 : decode cX9_terms 37 = .ok (.aload_n 0, 1) := by decide +kernel
theorem dX9_terms_38 : decode cX9_terms 38 = .ok (.getfield 14, 3) := by decide +kernel
theorem dX9_terms_41 : decode cX9_terms 41 = .ok (.iconst 2, 1) := by decide +kernel
theorem dX9_terms_42 : decode cX9_terms 42 = .ok (.iload_n 1, 1) := by decide +kernel
theorem dX9_terms_43 : decode cX9_terms 43 = .ok (.iadd, 1) := by decide +kernel
theorem dX9_terms_44 : decode cX9_terms 44 = .ok (.iaload, 1) := by decide +kernel
theorem dX9_terms_45 : decode cX9_terms 45 = .ok (.istore_n 3, 1) := by decide +kernel
theorem dX9_terms_46 : decode cX9_terms 46 = .ok (.aload_n 0, 1) := by decide +kernel
theorem dX9_terms_47 : decode cX9_terms 47 = .ok (.getfield 14, 3) := by decide +kernel
theorem dX9_terms_50 : decode cX9_terms 50 = .ok (.iconst 2, 1) := by decide +kernel
theorem dX9_terms_51 : decode cX9_terms 51 = .ok (.iload_n 1, 1) := by decide +kernel
theorem dX9_terms_52 : decode cX9_terms 52 = .ok (.iadd, 1) := by decide +kernel
theorem dX9_terms_53 : decode cX9_terms 53 = .ok (.iload_n 2, 1) := by decide +kernel
theorem dX9_terms_54 : decode cX9_terms 54 = .ok (.iastore, 1) := by decide +kernel
theorem dX9_terms_55 : decode cX9_terms 55 = .ok (.iload_n 3, 1) := by decide +kernel
theorem dX9_terms_56 : decode cX9_terms 56 = .ok (.ireturn, 1) := by decide +kernel
theorem dX9_page_0 : decode cX9_page 0 = .ok (.aload_n 0, 1) := by decide +kernel
theorem dX9_page_1 : decode cX9_page 1 = .ok (.iconst 0, 1) := by decide +kernel
theorem dX9_page_2 : decode cX9_page 2 = .ok (.putfield 1, 3) := by decide +kernel
theorem dX9_page_5 : decode cX9_page 5 = .ok (.iload_n 1, 1) := by decide +kernel
theorem dX9_page_6 : decode cX9_page 6 = .ok (.i2l, 1) := by decide +kernel
theorem dX9_page_7 : decode cX9_page 7 = .ok (.lconst 0, 1) := by decide +kernel
theorem dX9_page_8 : decode cX9_page 8 = .ok (.ldc2_w 279, 3) := by decide +kernel
theorem dX9_page_11 : decode cX9_page 11 = .ok (.invokestatic 80, 3) := by decide +kernel
theorem dX9_page_14 : decode cX9_page 14 = .ok (.ifCond .eq 15, 3) := by decide +kernel
theorem dX9_page_17 : decode cX9_page 17 = .ok (.iload_n 2, 1) := by decide +kernel
theorem dX9_page_18 : decode cX9_page 18 = .ok (.i2l, 1) := by decide +kernel
theorem dX9_page_19 : decode cX9_page 19 = .ok (.lconst 0, 1) := by decide +kernel
theorem dX9_page_20 : decode cX9_page 20 = .ok (.ldc2_w 281, 3) := by decide +kernel
theorem dX9_page_23 : decode cX9_page 23 = .ok (.invokestatic 80, 3) := by decide +kernel
theorem dX9_page_26 : decode cX9_page 26 = .ok (.ifCond .ne 6, 3) := by decide +kernel
theorem dX9_page_29 : decode cX9_page 29 = .ok (.bipush (-2), 2) := by decide +kernel
theorem dX9_page_31 : decode cX9_page 31 = .ok (.ireturn, 1) := by decide +kernel
theorem dX9_page_32 : decode cX9_page 32 = .ok (.iload_n 2, 1) := by decide +kernel
theorem dX9_page_33 : decode cX9_page 33 = .ok (.tableswitch 114 0 4 #[35, 45, 51, 63, 69], 35) := by decide +kernel
theorem dX9_page_68 : decode cX9_page 68 = .ok (.aload_n 0, 1) := by decide +kernel
theorem dX9_page_69 : decode cX9_page 69 = .ok (.getfield 14, 3) := by decide +kernel
theorem dX9_page_72 : decode cX9_page 72 = .ok (.bipush 7, 2) := by decide +kernel
theorem dX9_page_74 : decode cX9_page 74 = .ok (.iload_n 1, 1) := by decide +kernel
theorem dX9_page_75 : decode cX9_page 75 = .ok (.iadd, 1) := by decide +kernel
theorem dX9_page_76 : decode cX9_page 76 = .ok (.iaload, 1) := by decide +kernel
theorem dX9_page_77 : decode cX9_page 77 = .ok (.ireturn, 1) := by decide +kernel
theorem dX9_page_78 : decode cX9_page 78 = .ok (.aload_n 0, 1) := by decide +kernel
theorem dX9_page_79 : decode cX9_page 79 = .ok (.iload_n 1, 1) := by decide +kernel
theorem dX9_page_80 : decode cX9_page 80 = .ok (.invokevirtual 283, 3) := by decide +kernel
theorem dX9_page_83 : decode cX9_page 83 = .ok (.ireturn, 1) := by decide +kernel
theorem dX9_page_84 : decode cX9_page 84 = .ok (.aload_n 0, 1) := by decide +kernel
theorem dX9_page_85 : decode cX9_page 85 = .ok (.iload_n 1, 1) := by decide +kernel
theorem dX9_page_86 : decode cX9_page 86 = .ok (.invokevirtual 129, 3) := by decide +kernel
theorem dX9_page_89 : decode cX9_page 89 = .ok (.aload_n 0, 1) := by decide +kernel
theorem dX9_page_90 : decode cX9_page 90 = .ok (.iload_n 1, 1) := by decide +kernel
theorem dX9_page_91 : decode cX9_page 91 = .ok (.invokevirtual 283, 3) := by decide +kernel
theorem dX9_page_94 : decode cX9_page 94 = .ok (.isub, 1) := by decide +kernel
theorem dX9_page_95 : decode cX9_page 95 = .ok (.ireturn, 1) := by decide +kernel
theorem dX9_page_96 : decode cX9_page 96 = .ok (.aload_n 0, 1) := by decide +kernel
theorem dX9_page_97 : decode cX9_page 97 = .ok (.iload_n 1, 1) := by decide +kernel
theorem dX9_page_98 : decode cX9_page 98 = .ok (.invokevirtual 142, 3) := by decide +kernel
theorem dX9_page_101 : decode cX9_page 101 = .ok (.ireturn, 1) := by decide +kernel
theorem dX9_page_102 : decode cX9_page 102 = .ok (.iconst 0, 1) := by decide +kernel
theorem dX9_page_103 : decode cX9_page 103 = .ok (.istore_n 3, 1) := by decide +kernel
theorem dX9_page_104 : decode cX9_page 104 = .ok (.iconst 0, 1) := by decide +kernel
theorem dX9_page_105 : decode cX9_page 105 = .ok (.istore 4, 2) := by decide +kernel
theorem dX9_page_107 : decode cX9_page 107 = .ok (.iload 4, 2) := by decide +kernel
theorem dX9_page_109 : decode cX9_page 109 = .ok (.aload_n 0, 1) := by decide +kernel
theorem dX9_page_110 : decode cX9_page 110 = .ok (.getfield 14, 3) := by decide +kernel
theorem dX9_page_113 : decode cX9_page 113 = .ok (.sipush 1628, 3) := by decide +kernel
theorem dX9_page_116 : decode cX9_page 116 = .ok (.iaload, 1) := by decide +kernel
theorem dX9_page_117 : decode cX9_page 117 = .ok (.if_icmp .ge 28, 3) := by decide +kernel
theorem dX9_page_145 : decode cX9_page 145 = .ok (.iload_n 3, 1) := by decide +kernel
theorem dX9_page_146 : decode cX9_page 146 = .ok (.ireturn, 1) := by decide +kernel
theorem dX9_page_147 : decode cX9_page 147 = .ok (.aload_n 0, 1) := by decide +kernel
theorem dX9_page_148 : decode cX9_page 148 = .ok (.getfield 14, 3) := by decide +kernel
theorem dX9_page_151 : decode cX9_page 151 = .ok (.bipush 31, 2) := by decide +kernel
theorem dX9_page_153 : decode cX9_page 153 = .ok (.iload_n 1, 1) := by decide +kernel
theorem dX9_page_154 : decode cX9_page 154 = .ok (.iadd, 1) := by decide +kernel
theorem dX9_page_155 : decode cX9_page 155 = .ok (.iaload, 1) := by decide +kernel
theorem dX9_page_156 : decode cX9_page 156 = .ok (.ireturn, 1) := by decide +kernel
theorem dX9_space_0 : decode cX9_space 0 = .ok (.aload_n 0, 1) := by decide +kernel
theorem dX9_space_1 : decode cX9_space 1 = .ok (.iconst 0, 1) := by decide +kernel
theorem dX9_space_2 : decode cX9_space 2 = .ok (.putfield 1, 3) := by decide +kernel
theorem dX9_space_5 : decode cX9_space 5 = .ok (.iload_n 1, 1) := by decide +kernel
theorem dX9_space_6 : decode cX9_space 6 = .ok (.i2l, 1) := by decide +kernel
theorem dX9_space_7 : decode cX9_space 7 = .ok (.lconst 0, 1) := by decide +kernel
theorem dX9_space_8 : decode cX9_space 8 = .ok (.ldc2_w 286, 3) := by decide +kernel
theorem dX9_space_11 : decode cX9_space 11 = .ok (.invokestatic 80, 3) := by decide +kernel
theorem dX9_space_14 : decode cX9_space 14 = .ok (.ifCond .ne 6, 3) := by decide +kernel
theorem dX9_space_17 : decode cX9_space 17 = .ok (.bipush (-2), 2) := by decide +kernel
theorem dX9_space_19 : decode cX9_space 19 = .ok (.ireturn, 1) := by decide +kernel
theorem dX9_space_20 : decode cX9_space 20 = .ok (.iconst 0, 1) := by decide +kernel
theorem dX9_space_21 : decode cX9_space 21 = .ok (.istore_n 2, 1) := by decide +kernel
theorem dX9_space_22 : decode cX9_space 22 = .ok (.iconst 0, 1) := by decide +kernel
theorem dX9_space_23 : decode cX9_space 23 = .ok (.istore_n 3, 1) := by decide +kernel
theorem dX9_space_24 : decode cX9_space 24 = .ok (.iload_n 3, 1) := by decide +kernel
theorem dX9_space_25 : decode cX9_space 25 = .ok (.bipush 24, 2) := by decide +kernel
theorem dX9_space_27 : decode cX9_space 27 = .ok (.if_icmp .ge 125, 3) := by decide +kernel
theorem dX9_space_30 : decode cX9_space 30 = .ok (.iload_n 1, 1) := by decide +kernel
theorem dX9_space_31 : decode cX9_space 31 = .ok (.tableswitch 98 0 3 #[29, 40, 57, 68], 29) := by decide +kernel
theorem dX9_space_60 : decode cX9_space 60 = .ok (.iload_n 2, 1) := by decide +kernel
theorem dX9_space_61 : decode cX9_space 61 = .ok (.aload_n 0, 1) := by decide +kernel
theorem dX9_space_62 : decode cX9_space 62 = .ok (.iload_n 3, 1) := by decide +kernel
theorem dX9_space_63 : decode cX9_space 63 = .ok (.invokevirtual 283, 3) := by decide +kernel
theorem dX9_space_66 : decode cX9_space 66 = .ok (.iadd, 1) := by decide +kernel
theorem dX9_space_67 : decode cX9_space 67 = .ok (.istore_n 2, 1) := by decide +kernel
theorem dX9_space_68 : decode cX9_space 68 = .ok (.goto 78, 3) := by decide +kernel
theorem dX9_space_71 : decode cX9_space 71 = .ok (.iload_n 2, 1) := by decide +kernel
theorem dX9_space_72 : decode cX9_space 72 = .ok (.aload_n 0, 1) := by decide +kernel
theorem dX9_space_73 : decode cX9_space 73 = .ok (.iload_n 3, 1) := by decide +kernel
theorem dX9_space_74 : decode cX9_space 74 = .ok (.invokevirtual 129, 3) := by decide +kernel
theorem dX9_space_77 : decode cX9_space 77 = .ok (.aload_n 0, 1) := by decide +kernel
theorem dX9_space_78 : decode cX9_space 78 = .ok (.iload_n 3, 1) := by decide +kernel
theorem dX9_space_79 : decode cX9_space 79 = .ok (.invokevirtual 283, 3) := by decide +kernel
theorem dX9_space_82 : decode cX9_space 82 = .ok (.isub, 1) := by decide +kernel
theorem dX9_space_83 : decode cX9_space 83 = .ok (.iadd, 1) := by decide +kernel
theorem dX9_space_84 : decode cX9_space 84 = .ok (.istore_n 2, 1) := by decide +kernel
theorem dX9_space_85 : decode cX9_space 85 = .ok (.goto 61, 3) := by decide +kernel
theorem dX9_space_88 : decode cX9_space 88 = .ok (.iload_n 2, 1) := by decide +kernel
theorem dX9_space_89 : decode cX9_space 89 = .ok (.aload_n 0, 1) := by decide +kernel
theorem dX9_space_90 : decode cX9_space 90 = .ok (.iload_n 3, 1) := by decide +kernel
theorem dX9_space_91 : decode cX9_space 91 = .ok (.invokevirtual 142, 3) := by decide +kernel
theorem dX9_space_94 : decode cX9_space 94 = .ok (.iadd, 1) := by decide +kernel
theorem dX9_space_95 : decode cX9_space 95 = .ok (.istore_n 2, 1) := by decide +kernel
theorem dX9_space_96 : decode cX9_space 96 = .ok (.goto 50, 3) := by decide +kernel
theorem dX9_space_99 : decode cX9_space 99 = .ok (.iload_n 2, 1) := by decide +kernel
theorem dX9_space_100 : decode cX9_space 100 = .ok (.aload_n 0, 1) := by decide +kernel
theorem dX9_space_101 : decode cX9_space 101 = .ok (.iload_n 3, 1) := by decide +kernel
theorem dX9_space_102 : decode cX9_space 102 = .ok (.invokevirtual 126, 3) := by decide +kernel
theorem dX9_space_105 : decode cX9_space 105 = .ok (.ifCond .eq 7, 3) := by decide +kernel
theorem dX9_space_108 : decode cX9_space 108 = .ok (.iconst 0, 1) := by decide +kernel
theorem dX9_space_109 : decode cX9_space 109 = .ok (.goto 15, 3) := by decide +kernel
theorem dX9_space_124 : decode cX9_space 124 = .ok (.iadd, 1) := by decide +kernel
theorem dX9_space_125 : decode cX9_space 125 = .ok (.istore_n 2, 1) := by decide +kernel
theorem dX9_space_126 : decode cX9_space 126 = .ok (.goto 20, 3) := by decide +kernel
theorem dX9_space_129 : decode cX9_space 129 = .ok (.iload_n 2, 1) := by decide +kernel
theorem dX9_space_130 : decode cX9_space 130 = .ok (.aload_n 0, 1) := by decide +kernel
theorem dX9_space_131 : decode cX9_space 131 = .ok (.iload_n 3, 1) := by decide +kernel
theorem dX9_space_132 : decode cX9_space 132 = .ok (.invokevirtual 126, 3) := by decide +kernel
theorem dX9_space_135 : decode cX9_space 135 = .ok (.ifCond .eq 8, 3) := by decide +kernel
theorem dX9_space_138 : decode cX9_space 138 = .ok (.bipush 64, 2) := by decide +kernel
theorem dX9_space_140 : decode cX9_space 140 = .ok (.goto 4, 3) := by decide +kernel
theorem dX9_space_144 : decode cX9_space 144 = .ok (.iadd, 1) := by decide +kernel
theorem dX9_space_145 : decode cX9_space 145 = .ok (.istore_n 2, 1) := by decide +kernel
theorem dX9_space_146 : decode cX9_space 146 = .ok (.iinc 3 1, 3) := by decide +kernel
theorem dX9_space_149 : decode cX9_space 149 = .ok (.goto (-125), 3) := by decide +kernel
theorem dX9_space_152 : decode cX9_space 152 = .ok (.iload_n 2, 1) := by decide +kernel
theorem dX9_space_153 : decode cX9_space 153 = .ok (.ireturn, 1) := by decide +kernel
theorem dX9_victim_0 : decode cX9_victim 0 = .ok (.aload_n 0, 1) := by decide +kernel
theorem dX9_victim_1 : decode cX9_victim 1 = .ok (.iconst 0, 1) := by decide +kernel
theorem dX9_victim_2 : decode cX9_victim 2 = .ok (.putfield 1, 3) := by decide +kernel
theorem dX9_victim_5 : decode cX9_victim 5 = .ok (.iload_n 1, 1) := by decide +kernel
theorem dX9_victim_6 : decode cX9_victim 6 = .ok (.i2l, 1) := by decide +kernel
theorem dX9_victim_7 : decode cX9_victim 7 = .ok (.lconst 0, 1) := by decide +kernel
theorem dX9_victim_8 : decode cX9_victim 8 = .ok (.ldc2_w 230, 3) := by decide +kernel
theorem dX9_victim_11 : decode cX9_victim 11 = .ok (.invokestatic 80, 3) := by decide +kernel
theorem dX9_victim_14 : decode cX9_victim 14 = .ok (.ifCond .eq 11, 3) := by decide +kernel
theorem dX9_victim_17 : decode cX9_victim 17 = .ok (.aload_n 0, 1) := by decide +kernel
theorem dX9_victim_18 : decode cX9_victim 18 = .ok (.iload_n 1, 1) := by decide +kernel
theorem dX9_victim_19 : decode cX9_victim 19 = .ok (.invokevirtual 148, 3) := by decide +kernel
theorem dX9_victim_22 : decode cX9_victim 22 = .ok (.goto 5, 3) := by decide +kernel
theorem dX9_victim_25 : decode cX9_victim 25 = .ok (.bipush (-3), 2) := by decide +kernel
theorem dX9_victim_27 : decode cX9_victim 27 = .ok (.ireturn, 1) := by decide +kernel
theorem dX9_sweep_0 : decode cX9_sweep 0 = .ok (.aload_n 0, 1) := by decide +kernel
theorem dX9_sweep_1 : decode cX9_sweep 1 = .ok (.iconst 0, 1) := by decide +kernel
theorem dX9_sweep_2 : decode cX9_sweep 2 = .ok (.putfield 1, 3) := by decide +kernel
theorem dX9_sweep_5 : decode cX9_sweep 5 = .ok (.iload_n 1, 1) := by decide +kernel
theorem dX9_sweep_6 : decode cX9_sweep 6 = .ok (.i2l, 1) := by decide +kernel
theorem dX9_sweep_7 : decode cX9_sweep 7 = .ok (.lconst 0, 1) := by decide +kernel
theorem dX9_sweep_8 : decode cX9_sweep 8 = .ok (.ldc2_w 279, 3) := by decide +kernel
theorem dX9_sweep_11 : decode cX9_sweep 11 = .ok (.invokestatic 80, 3) := by decide +kernel
theorem dX9_sweep_14 : decode cX9_sweep 14 = .ok (.ifCond .ne 6, 3) := by decide +kernel
theorem dX9_sweep_17 : decode cX9_sweep 17 = .ok (.bipush (-2), 2) := by decide +kernel
theorem dX9_sweep_19 : decode cX9_sweep 19 = .ok (.ireturn, 1) := by decide +kernel
theorem dX9_sweep_20 : decode cX9_sweep 20 = .ok (.aload_n 0, 1) := by decide +kernel
theorem dX9_sweep_21 : decode cX9_sweep 21 = .ok (.iload_n 1, 1) := by decide +kernel
theorem dX9_sweep_22 : decode cX9_sweep 22 = .ok (.invokevirtual 142, 3) := by decide +kernel
theorem dX9_sweep_25 : decode cX9_sweep 25 = .ok (.ifCond .ne 6, 3) := by decide +kernel
theorem dX9_sweep_28 : decode cX9_sweep 28 = .ok (.bipush (-5), 2) := by decide +kernel
theorem dX9_sweep_30 : decode cX9_sweep 30 = .ok (.ireturn, 1) := by decide +kernel
theorem dX9_trim_0 : decode cX9_trim 0 = .ok (.aload_n 0, 1) := by decide +kernel
theorem dX9_trim_1 : decode cX9_trim 1 = .ok (.iconst 0, 1) := by decide +kernel
theorem dX9_trim_2 : decode cX9_trim 2 = .ok (.putfield 1, 3) := by decide +kernel
theorem dX9_trim_5 : decode cX9_trim 5 = .ok (.aload_n 0, 1) := by decide +kernel
theorem dX9_trim_6 : decode cX9_trim 6 = .ok (.invokevirtual 218, 3) := by decide +kernel
theorem dX9_trim_9 : decode cX9_trim 9 = .ok (.iconst 0, 1) := by decide +kernel
theorem dX9_trim_10 : decode cX9_trim 10 = .ok (.istore_n 1, 1) := by decide +kernel
theorem dX9_trim_11 : decode cX9_trim 11 = .ok (.iload_n 1, 1) := by decide +kernel
theorem dX9_trim_12 : decode cX9_trim 12 = .ok (.iconst 4, 1) := by decide +kernel
theorem dX9_trim_13 : decode cX9_trim 13 = .ok (.if_icmp .ge 19, 3) := by decide +kernel
theorem dX9_trim_16 : decode cX9_trim 16 = .ok (.aload_n 0, 1) := by decide +kernel
theorem dX9_trim_17 : decode cX9_trim 17 = .ok (.getfield 14, 3) := by decide +kernel
theorem dX9_trim_20 : decode cX9_trim 20 = .ok (.bipush 55, 2) := by decide +kernel
theorem dX9_trim_22 : decode cX9_trim 22 = .ok (.iload_n 1, 1) := by decide +kernel
theorem dX9_trim_23 : decode cX9_trim 23 = .ok (.iadd, 1) := by decide +kernel
theorem dX9_trim_24 : decode cX9_trim 24 = .ok (.iconst (-1), 1) := by decide +kernel
theorem dX9_trim_25 : decode cX9_trim 25 = .ok (.iastore, 1) := by decide +kernel
theorem dX9_trim_26 : decode cX9_trim 26 = .ok (.iinc 1 1, 3) := by decide +kernel
theorem dX9_trim_29 : decode cX9_trim 29 = .ok (.goto (-18), 3) := by decide +kernel
theorem dX9_trim_32 : decode cX9_trim 32 = .ok (.iconst 0, 1) := by decide +kernel
theorem dX9_trim_33 : decode cX9_trim 33 = .ok (.istore_n 1, 1) := by decide +kernel
theorem dX9_trim_34 : decode cX9_trim 34 = .ok (.iload_n 1, 1) := by decide +kernel
theorem dX9_trim_35 : decode cX9_trim 35 = .ok (.iconst 3, 1) := by decide +kernel
theorem dX9_trim_36 : decode cX9_trim 36 = .ok (.if_icmp .ge 15, 3) := by decide +kernel
theorem dX9_trim_39 : decode cX9_trim 39 = .ok (.aload_n 0, 1) := by decide +kernel
theorem dX9_trim_40 : decode cX9_trim 40 = .ok (.iload_n 1, 1) := by decide +kernel
theorem dX9_trim_41 : decode cX9_trim 41 = .ok (.invokevirtual 276, 3) := by decide +kernel
theorem dX9_trim_44 : decode cX9_trim 44 = .ok (.pop, 1) := by decide +kernel
theorem dX9_trim_45 : decode cX9_trim 45 = .ok (.iinc 1 1, 3) := by decide +kernel
theorem dX9_trim_48 : decode cX9_trim 48 = .ok (.goto (-14), 3) := by decide +kernel
theorem dX9_trim_51 : decode cX9_trim 51 = .ok (.aload_n 0, 1) := by decide +kernel
theorem dX9_trim_52 : decode cX9_trim 52 = .ok (.aload_n 0, 1) := by decide +kernel
theorem dX9_trim_53 : decode cX9_trim 53 = .ok (.getfield 14, 3) := by decide +kernel
theorem dX9_trim_56 : decode cX9_trim 56 = .ok (.iconst 3, 1) := by decide +kernel
theorem dX9_trim_57 : decode cX9_trim 57 = .ok (.iaload, 1) := by decide +kernel
theorem dX9_trim_58 : decode cX9_trim 58 = .ok (.invokevirtual 148, 3) := by decide +kernel
theorem dX9_trim_61 : decode cX9_trim 61 = .ok (.istore_n 1, 1) := by decide +kernel
theorem dX9_trim_62 : decode cX9_trim 62 = .ok (.iload_n 1, 1) := by decide +kernel
theorem dX9_trim_63 : decode cX9_trim 63 = .ok (.iconst (-1), 1) := by decide +kernel
theorem dX9_trim_64 : decode cX9_trim 64 = .ok (.if_icmp .eq 23, 3) := by decide +kernel
theorem dX9_trim_87 : decode cX9_trim 87 = .ok (.aload_n 0, 1) := by decide +kernel
theorem dX9_trim_88 : decode cX9_trim 88 = .ok (.invokevirtual 132, 3) := by decide +kernel
theorem dX9_trim_91 : decode cX9_trim 91 = .ok (.ireturn, 1) := by decide +kernel
theorem hd_X9_closes : yX9_closes.cls = RX9 ∧ yX9_closes.cls ≠ "java/lang/invoke/MethodHandle" ∧ yX9_closes.cls ≠ "java/lang/invoke/VarHandle" ∧ (parseMethodDescriptor yX9_closes.desc).map (fun d => d.parameters.length) = some 1 := by decide +kernel
theorem hd_X9_leftOf : yX9_leftOf.cls = RX9 ∧ yX9_leftOf.cls ≠ "java/lang/invoke/MethodHandle" ∧ yX9_leftOf.cls ≠ "java/lang/invoke/VarHandle" ∧ (parseMethodDescriptor yX9_leftOf.desc).map (fun d => d.parameters.length) = some 1 := by decide +kernel
theorem hd_X9_liveOn : yX9_liveOn.cls = RX9 ∧ yX9_liveOn.cls ≠ "java/lang/invoke/MethodHandle" ∧ yX9_liveOn.cls ≠ "java/lang/invoke/VarHandle" ∧ (parseMethodDescriptor yX9_liveOn.desc).map (fun d => d.parameters.length) = some 1 := by decide +kernel
theorem hd_X9_momentOf : yX9_momentOf.cls = RX9 ∧ yX9_momentOf.cls ≠ "java/lang/invoke/MethodHandle" ∧ yX9_momentOf.cls ≠ "java/lang/invoke/VarHandle" ∧ (parseMethodDescriptor yX9_momentOf.desc).map (fun d => d.parameters.length) = some 1 := by decide +kernel
theorem hd_X9_notes : yX9_notes.cls = RX9 ∧ yX9_notes.cls ≠ "java/lang/invoke/MethodHandle" ∧ yX9_notes.cls ≠ "java/lang/invoke/VarHandle" ∧ (parseMethodDescriptor yX9_notes.desc).map (fun d => d.parameters.length) = some 0 := by decide +kernel
theorem hd_X9_victimBy : yX9_victimBy.cls = RX9 ∧ yX9_victimBy.cls ≠ "java/lang/invoke/MethodHandle" ∧ yX9_victimBy.cls ≠ "java/lang/invoke/VarHandle" ∧ (parseMethodDescriptor yX9_victimBy.desc).map (fun d => d.parameters.length) = some 1 := by decide +kernel
abbrev rm_c_X9_sum : Room := { frames := 2, cells := 0, slots := 0, locals := 45 }
set_option maxHeartbeats 4000000 in
set_option maxRecDepth 100000 in
theorem c_X9_sum (l : Launch) (D : va_G) (cs : Nat → ClassId) (sz : Nat) (x : Int32) (md : Nat) (m_all : Nat) (f_m_all : Nat → Int32) (m_deeds : Nat) (m_trial : Nat) (m_hasImage : Nat) (m_tape : Nat) (m_key : Nat) (m_answered : Nat) (m_goes : Nat) (m_hotOnes : Nat) (m_indexed : Nat) (m_isChanged : Nat) (m_valueNow : Nat) (m_didSome : Nat) (m_sizes : Nat) (m_ends : Nat) (z_all : ∀ j, j < 51207 → f_m_all j = AL j) : cMl l yX9_sum (Cond.code yX9_sum cX9_sum 7 (some .long)) (rm_c_X9_sum) D cs [.ref md, .int x] sz [(md, .inr (9, [.int 0, .ref m_all, .ref m_deeds, .ref m_trial, .int 0, .ref m_hasImage, .ref m_tape, .ref m_key, .ref m_answered, .int 0, .int 0, .int 0, .ref m_goes, .int 0, .ref m_hotOnes, .ref m_indexed, .ref m_isChanged, .int 0, .ref m_valueNow, .int 0, .int (-1), .int 0, .ref m_didSome, .ref m_sizes, .ref m_ends])), (m_all, aI cs 51207 f_m_all)] (fun (r : Int64) (u : Unit) => ((r = (-2)) ∧ (¬ x = -1 ∧ (x < 0 ∨ 4 ≤ x))) ∨ ((r = (-6)) ∧ (¬ x < 0 ∧ x < 4)) ∨ ((r = 7) ∧ (x = -1))) (fun (u : Unit) => []) := by
  refine kMet_l RX9 (by decide) rfl (Nat.le_of_ble_eq_true rfl) ?_
  intro p e s m below meth c ls A Qz H locs hx hb hml hown hin hu hK hsz hA hP hD hS hl hz
  subst hsz
  have hl : lv_has ls 7 [(0, .ref md), (1, .int x)] := hl
  refine lv_aload_n hx hb dX9_sum_0 rfl (lv_at hl 0 rfl) ?_
  refine lv_iconst (v := 0) hx hb dX9_sum_1 (by decide) ?_
  refine va_put (D := D) (ci := 9) (v := .int 0) (ty := tyX9 0) (C := RX9) (T := TX9) (N := 25) hx hb hu in_X9 tyX9 tyX9_ok nmX9 hown hK.1 hP hD hS 0 rfl rfl 0 (by decide) (hu _ u_1080) (fun _ h9 => h9) rfl (tyX9_ok 0 (by decide)) rfl rfl (Nat.le_of_ble_eq_true rfl) dX9_sum_2 (fun H locs hP hD hS => ?_)
  have hP : va_P D vwCl [(md, .inr (9, [.int 0, .ref m_all, .ref m_deeds, .ref m_trial, .int 0, .ref m_hasImage, .ref m_tape, .ref m_key, .ref m_answered, .int 0, .int 0, .int 0, .ref m_goes, .int 0, .ref m_hotOnes, .ref m_indexed, .ref m_isChanged, .int 0, .ref m_valueNow, .int 0, .int (-1), .int 0, .ref m_didSome, .ref m_sizes, .ref m_ends])), (m_all, aI cs 51207 f_m_all)] H := hP
  have hD : va_D A [(md, .inr (9, [.int 0, .ref m_all, .ref m_deeds, .ref m_trial, .int 0, .ref m_hasImage, .ref m_tape, .ref m_key, .ref m_answered, .int 0, .int 0, .int 0, .ref m_goes, .int 0, .ref m_hotOnes, .ref m_indexed, .ref m_isChanged, .int 0, .ref m_valueNow, .int 0, .int (-1), .int 0, .ref m_didSome, .ref m_sizes, .ref m_ends])), (m_all, aI cs 51207 f_m_all)] := hD
  refine lv_iload_n hx hb dX9_sum_5 rfl (lv_at hl 1 rfl) ?_
  refine kS_i  (As := [.int x]) (rest := []) (wc := []) (wr := [(md, .inr (9, [.int 0, .ref m_all, .ref m_deeds, .ref m_trial, .int 0, .ref m_hasImage, .ref m_tape, .ref m_key, .ref m_answered, .int 0, .int 0, .int 0, .ref m_goes, .int 0, .ref m_hotOnes, .ref m_indexed, .ref m_isChanged, .int 0, .ref m_valueNow, .int 0, .int (-1), .int 0, .ref m_didSome, .ref m_sizes, .ref m_ends])), (m_all, aI cs 51207 f_m_all)]) hx hb hml hown hu hK hP hD hS hA hl.1 (c_X9_isAt l D cs H.size x) (gS u_1298 u_1299 u_76 u_1300) hd_X9_isAt ⟨(Nat.le_of_ble_eq_true rfl), (Nat.le_of_ble_eq_true rfl)⟩ [] [0, 1] rfl rfl rfl rfl (by decide) rfl rfl (Nat.le_of_ble_eq_true rfl) dX9_sum_6 ⟨(Nat.le_of_ble_eq_true rfl), (Nat.le_of_ble_eq_true rfl)⟩ (fun r_1 ut_2 H locs hw_3 hP hD hS => ?_)
  have hP : va_P D vwCl [(md, .inr (9, [.int 0, .ref m_all, .ref m_deeds, .ref m_trial, .int 0, .ref m_hasImage, .ref m_tape, .ref m_key, .ref m_answered, .int 0, .int 0, .int 0, .ref m_goes, .int 0, .ref m_hotOnes, .ref m_indexed, .ref m_isChanged, .int 0, .ref m_valueNow, .int 0, .int (-1), .int 0, .ref m_didSome, .ref m_sizes, .ref m_ends])), (m_all, aI cs 51207 f_m_all)] H := hP
  have hD : va_D A [(md, .inr (9, [.int 0, .ref m_all, .ref m_deeds, .ref m_trial, .int 0, .ref m_hasImage, .ref m_tape, .ref m_key, .ref m_answered, .int 0, .int 0, .int 0, .ref m_goes, .int 0, .ref m_hotOnes, .ref m_indexed, .ref m_isChanged, .int 0, .ref m_valueNow, .int 0, .int (-1), .int 0, .ref m_didSome, .ref m_sizes, .ref m_ends])), (m_all, aI cs 51207 f_m_all)] := hD
  rcases hw_3 with hw_3 | hw_3
  · obtain ⟨er_4, hf_5⟩ := hw_3
    subst er_4
    refine lv_if_ne (tgt := 16) hx hb dX9_sum_9 (by decide) (fun c_6 => ?_) (fun c_6 => absurd c_6 (by decide))
    refine lv_aload_n hx hb dX9_sum_16 rfl (lv_at hl 0 rfl) ?_
    refine lv_iload_n hx hb dX9_sum_17 rfl (lv_at hl 1 rfl) ?_
    refine kV_i (ci := 9) (As := [.int x]) (rest := []) (wc := [(md, .inr (9, [.int 0, .ref m_all, .ref m_deeds, .ref m_trial, .int 0, .ref m_hasImage, .ref m_tape, .ref m_key, .ref m_answered, .int 0, .int 0, .int 0, .ref m_goes, .int 0, .ref m_hotOnes, .ref m_indexed, .ref m_isChanged, .int 0, .ref m_valueNow, .int 0, .int (-1), .int 0, .ref m_didSome, .ref m_sizes, .ref m_ends])), (m_all, aI cs 51207 f_m_all)]) (wr := []) hx hb hml hown hu hK hP hD hS hA hl.1 (c_X9_momentAt l D cs H.size x md m_all f_m_all m_deeds m_trial m_hasImage m_tape m_key m_answered m_goes m_hotOnes m_indexed m_isChanged m_valueNow m_didSome m_sizes m_ends 0 0 0 z_all (by first | decide | grind)) (gV u_1307 u_1309 u_40 u_76 u_1310) hd_X9_momentAt ⟨(Nat.le_of_ble_eq_true rfl), (Nat.le_of_ble_eq_true rfl)⟩ [0, 1] [] rfl rfl rfl rfl (by decide) rfl 0 rfl rfl rfl (Nat.le_of_ble_eq_true rfl) dX9_sum_18 ⟨(Nat.le_of_ble_eq_true rfl), (Nat.le_of_ble_eq_true rfl)⟩ (fun r_7 ut_8 H locs hw_9 hP hD hS => ?_)
    have hP : va_P D vwCl [(md, .inr (9, [.int 0, .ref m_all, .ref m_deeds, .ref m_trial, .int 0, .ref m_hasImage, .ref m_tape, .ref m_key, .ref m_answered, .int 0, .int 0, .int 0, .ref m_goes, .int 0, .ref m_hotOnes, .ref m_indexed, .ref m_isChanged, .int 0, .ref m_valueNow, .int 0, .int (-1), .int 0, .ref m_didSome, .ref m_sizes, .ref m_ends])), (m_all, aI cs 51207 f_m_all)] H := hP
    have hD : va_D A [(md, .inr (9, [.int 0, .ref m_all, .ref m_deeds, .ref m_trial, .int 0, .ref m_hasImage, .ref m_tape, .ref m_key, .ref m_answered, .int 0, .int 0, .int 0, .ref m_goes, .int 0, .ref m_hotOnes, .ref m_indexed, .ref m_isChanged, .int 0, .ref m_valueNow, .int 0, .int (-1), .int 0, .ref m_didSome, .ref m_sizes, .ref m_ends])), (m_all, aI cs 51207 f_m_all)] := hD
    rcases hw_9 with hw_9 | hw_9
    · obtain ⟨er_10, hf_11⟩ := hw_9
      subst er_10
      refine lv_istore_n (lv' := [(2, .int 0), (0, .ref md), (1, .int x)]) hx hb dX9_sum_21 rfl hl (by decide) rfl (fun ls hl => ?_)
      refine lv_iload_n hx hb dX9_sum_22 rfl (lv_at hl 0 rfl) ?_
      refine lv_bipush (v := (-6)) hx hb dX9_sum_23 (by decide) ?_
      refine lv_icmp_ne (tgt := 32) hx hb dX9_sum_25 (by decide) (fun c_12 => ?_) (fun c_12 => absurd c_12 (by decide))
      refine lv_ldc2 (v := 7) hx hb hown (hu _ u_1434) dX9_sum_32 ?_
      refine lv_lstore_n (lv' := [(3, .long 7), (2, .int 0), (0, .ref md), (1, .int x)]) hx hb dX9_sum_35 rfl hl (by decide) rfl (fun ls hl => ?_)
      refine lv_iconst (v := 0) hx hb dX9_sum_36 (by decide) ?_
      refine lv_istore (lv' := [(5, .int 0), (3, .long 7), (2, .int 0), (0, .ref md), (1, .int x)]) hx hb dX9_sum_37 hl (by decide) rfl (fun ls hl => ?_)
      refine lv_iload hx hb dX9_sum_39 (lv_at hl 0 rfl) ?_
      refine lv_aload_n hx hb dX9_sum_41 rfl (lv_at hl 3 rfl) ?_
      refine va_get (D := D) (ci := 9) (v := .ref m_all) (C := RX9) (T := TX9) (N := 25) hx hb hu in_X9 hown hK.1 hP 0 rfl rfl 1 (by decide) (hu _ u_1081) (fun _ h9 => h9) rfl dX9_sum_42 ?_
      refine lv_sipush (v := 1628) hx hb dX9_sum_45 (by decide) ?_
      refine va_iald hx hb hK.1 hP 1 0 rfl rfl (vin_c _ _ rfl) dX9_sum_48 ?_
      refine tpi (y := 0) ((z_all _ (cl_lt (vin_c _ _ rfl))).trans (by decide +kernel)) ?_
      refine lv_icmp_ge (tgt := 172) hx hb dX9_sum_49 (by decide) (fun c_13 => ?_) (fun c_13 => absurd (by decide) c_13)
      refine lv_lload_n hx hb dX9_sum_172 rfl (lv_at hl 1 rfl) ?_
      exact hz () hP hD hS (by grind) [] rfl rfl (Nat.le_of_ble_eq_true rfl) (Nat.le_of_ble_eq_true rfl) rfl dX9_sum_173
    · obtain ⟨er_14, hf_15⟩ := hw_9
      subst er_14
      refine lv_istore_n (lv' := [(2, .int (-6)), (0, .ref md), (1, .int x)]) hx hb dX9_sum_21 rfl hl (by decide) rfl (fun ls hl => ?_)
      refine lv_iload_n hx hb dX9_sum_22 rfl (lv_at hl 0 rfl) ?_
      refine lv_bipush (v := (-6)) hx hb dX9_sum_23 (by decide) ?_
      refine lv_icmp_ne (tgt := 32) hx hb dX9_sum_25 (by decide) (fun c_16 => absurd (by decide) c_16) (fun c_16 => ?_)
      refine lv_ldc2 (v := (-6)) hx hb hown (hu _ u_1433) dX9_sum_28 ?_
      exact hz () hP hD hS (by grind) [] rfl rfl (Nat.le_of_ble_eq_true rfl) (Nat.le_of_ble_eq_true rfl) rfl dX9_sum_31
  · obtain ⟨er_17, hf_18⟩ := hw_3
    subst er_17
    refine lv_if_ne (tgt := 16) hx hb dX9_sum_9 (by decide) (fun c_19 => absurd (by decide) c_19) (fun c_19 => ?_)
    refine lv_ldc2 (v := (-2)) hx hb hown (hu _ u_1432) dX9_sum_12 ?_
    exact hz () hP hD hS (by grind) [] rfl rfl (Nat.le_of_ble_eq_true rfl) (Nat.le_of_ble_eq_true rfl) rfl dX9_sum_15
abbrev rm_c_X9_snap : Room := { frames := 2, cells := 0, slots := 0, locals := 41 }
set_option maxHeartbeats 4000000 in
set_option maxRecDepth 100000 in
theorem c_X9_snap (l : Launch) (D : va_G) (cs : Nat → ClassId) (sz : Nat) (x : Int32) (md : Nat) (m_all : Nat) (f_m_all : Nat → Int32) (m_deeds : Nat) (f_m_deeds : Nat → Int32) (m_trial : Nat) (f_m_trial : Nat → Int32) (m_hasImage : Nat) (m_tape : Nat) (m_key : Nat) (m_answered : Nat) (m_goes : Nat) (m_hotOnes : Nat) (m_indexed : Nat) (m_isChanged : Nat) (m_valueNow : Nat) (m_didSome : Nat) (m_sizes : Nat) (m_ends : Nat) (z_all : ∀ j, j < 51207 → f_m_all j = AL j) : cMi l yX9_snap (Cond.code yX9_snap cX9_snap 2 (some .int)) (rm_c_X9_snap) D cs [.ref md, .int x] sz [(md, .inr (9, [.int 0, .ref m_all, .ref m_deeds, .ref m_trial, .int 0, .ref m_hasImage, .ref m_tape, .ref m_key, .ref m_answered, .int 0, .int 0, .int 0, .ref m_goes, .int 0, .ref m_hotOnes, .ref m_indexed, .ref m_isChanged, .int 0, .ref m_valueNow, .int 0, .int (-1), .int 0, .ref m_didSome, .ref m_sizes, .ref m_ends])), (m_all, aI cs 51207 f_m_all), (m_deeds, aI cs 170690 f_m_deeds), (m_trial, aI cs 17069 f_m_trial)] (fun (r : Int32) (u : Unit) => ((r = (-2)) ∧ (x < 0 ∨ 4 ≤ x)) ∨ ((r = 0) ∧ (¬ x < 0 ∧ x < 4))) (fun (u : Unit) => []) := by
  refine kMet_i RX9 (by decide) rfl (Nat.le_of_ble_eq_true rfl) ?_
  intro p e s m below meth c ls A Qz H locs hx hb hml hown hin hu hK hsz hA hP hD hS hl hz
  subst hsz
  have hl : lv_has ls 2 [(0, .ref md), (1, .int x)] := hl
  refine lv_aload_n hx hb dX9_snap_0 rfl (lv_at hl 0 rfl) ?_
  refine lv_iconst (v := 0) hx hb dX9_snap_1 (by decide) ?_
  refine va_put (D := D) (ci := 9) (v := .int 0) (ty := tyX9 0) (C := RX9) (T := TX9) (N := 25) hx hb hu in_X9 tyX9 tyX9_ok nmX9 hown hK.1 hP hD hS 0 rfl rfl 0 (by decide) (hu _ u_1080) (fun _ h9 => h9) rfl (tyX9_ok 0 (by decide)) rfl rfl (Nat.le_of_ble_eq_true rfl) dX9_snap_2 (fun H locs hP hD hS => ?_)
  have hP : va_P D vwCl [(md, .inr (9, [.int 0, .ref m_all, .ref m_deeds, .ref m_trial, .int 0, .ref m_hasImage, .ref m_tape, .ref m_key, .ref m_answered, .int 0, .int 0, .int 0, .ref m_goes, .int 0, .ref m_hotOnes, .ref m_indexed, .ref m_isChanged, .int 0, .ref m_valueNow, .int 0, .int (-1), .int 0, .ref m_didSome, .ref m_sizes, .ref m_ends])), (m_all, aI cs 51207 f_m_all), (m_deeds, aI cs 170690 f_m_deeds), (m_trial, aI cs 17069 f_m_trial)] H := hP
  have hD : va_D A [(md, .inr (9, [.int 0, .ref m_all, .ref m_deeds, .ref m_trial, .int 0, .ref m_hasImage, .ref m_tape, .ref m_key, .ref m_answered, .int 0, .int 0, .int 0, .ref m_goes, .int 0, .ref m_hotOnes, .ref m_indexed, .ref m_isChanged, .int 0, .ref m_valueNow, .int 0, .int (-1), .int 0, .ref m_didSome, .ref m_sizes, .ref m_ends])), (m_all, aI cs 51207 f_m_all), (m_deeds, aI cs 170690 f_m_deeds), (m_trial, aI cs 17069 f_m_trial)] := hD
  refine lv_iload_n hx hb dX9_snap_5 rfl (lv_at hl 1 rfl) ?_
  refine lv_i2l (v := x.toInt64) hx hb dX9_snap_6 rfl ?_
  refine lv_lconst (v := 0) hx hb dX9_snap_7 (by decide) ?_
  refine lv_ldc2 (v := 3) hx hb hown (hu _ u_1302) dX9_snap_8 ?_
  refine kS_i  (As := [.long x.toInt64, .long 0, .long 3]) (rest := []) (wc := []) (wr := [(md, .inr (9, [.int 0, .ref m_all, .ref m_deeds, .ref m_trial, .int 0, .ref m_hasImage, .ref m_tape, .ref m_key, .ref m_answered, .int 0, .int 0, .int 0, .ref m_goes, .int 0, .ref m_hotOnes, .ref m_indexed, .ref m_isChanged, .int 0, .ref m_valueNow, .int 0, .int (-1), .int 0, .ref m_didSome, .ref m_sizes, .ref m_ends])), (m_all, aI cs 51207 f_m_all), (m_deeds, aI cs 170690 f_m_deeds), (m_trial, aI cs 17069 f_m_trial)]) hx hb hml hown hu hK hP hD hS hA hl.1 (c_X9_within l D cs H.size x.toInt64 0 3) (gS u_1164 u_1165 u_76 u_1166) hd_X9_within ⟨(Nat.le_of_ble_eq_true rfl), (Nat.le_of_ble_eq_true rfl)⟩ [] [0, 1, 2, 3] rfl rfl rfl rfl (by decide) rfl rfl (Nat.le_of_ble_eq_true rfl) dX9_snap_11 ⟨(Nat.le_of_ble_eq_true rfl), (Nat.le_of_ble_eq_true rfl)⟩ (fun r_1 ut_2 H locs hw_3 hP hD hS => ?_)
  have hP : va_P D vwCl [(md, .inr (9, [.int 0, .ref m_all, .ref m_deeds, .ref m_trial, .int 0, .ref m_hasImage, .ref m_tape, .ref m_key, .ref m_answered, .int 0, .int 0, .int 0, .ref m_goes, .int 0, .ref m_hotOnes, .ref m_indexed, .ref m_isChanged, .int 0, .ref m_valueNow, .int 0, .int (-1), .int 0, .ref m_didSome, .ref m_sizes, .ref m_ends])), (m_all, aI cs 51207 f_m_all), (m_deeds, aI cs 170690 f_m_deeds), (m_trial, aI cs 17069 f_m_trial)] H := hP
  have hD : va_D A [(md, .inr (9, [.int 0, .ref m_all, .ref m_deeds, .ref m_trial, .int 0, .ref m_hasImage, .ref m_tape, .ref m_key, .ref m_answered, .int 0, .int 0, .int 0, .ref m_goes, .int 0, .ref m_hotOnes, .ref m_indexed, .ref m_isChanged, .int 0, .ref m_valueNow, .int 0, .int (-1), .int 0, .ref m_didSome, .ref m_sizes, .ref m_ends])), (m_all, aI cs 51207 f_m_all), (m_deeds, aI cs 170690 f_m_deeds), (m_trial, aI cs 17069 f_m_trial)] := hD
  rcases hw_3 with hw_3 | hw_3
  · obtain ⟨er_4, hf_5⟩ := hw_3
    have hf_6 : 0 ≤ x ∧ x ≤ 3 := ⟨(w_le (d := 0) (x := x) (by decide)).mp hf_5.1, (w_ge (d := 3) (x := x) (by decide)).mp hf_5.2⟩
    subst er_4
    refine lv_if_ne (tgt := 20) hx hb dX9_snap_14 (by decide) (fun c_7 => ?_) (fun c_7 => absurd c_7 (by decide))
    refine lv_aload_n hx hb dX9_snap_20 rfl (lv_at hl 0 rfl) ?_
    refine va_get (D := D) (ci := 9) (v := .ref m_all) (C := RX9) (T := TX9) (N := 25) hx hb hu in_X9 hown hK.1 hP 0 rfl rfl 1 (by decide) (hu _ u_1081) (fun _ h9 => h9) rfl dX9_snap_21 ?_
    refine lv_bipush (v := 55) hx hb dX9_snap_24 (by decide) ?_
    refine lv_iload_n hx hb dX9_snap_26 rfl (lv_at hl 1 rfl) ?_
    refine lv_iadd hx hb dX9_snap_27 ?_
    refine va_iald hx hb hK.1 hP 1 0 rfl rfl (vin_of (N := 51207) (by grind) (by grind) rfl) dX9_snap_28 ?_
    refine tpi (y := (-1)) ((z_all _ (cl_lt (vin_of (N := 51207) (by grind) (by grind) rfl))).trans (AL_n _ (by grind))) ?_
    refine lv_iconst (v := (-1)) hx hb dX9_snap_29 (by decide) ?_
    refine lv_icmp_eq (tgt := 36) hx hb dX9_snap_30 (by decide) (fun c_8 => ?_) (fun c_8 => absurd (by decide) c_8)
    rcases (by grind : x = 0 ∨ x = 1 ∨ x = 2 ∨ x = 3) with c_9 | c_9 | c_9 | c_9
    · subst c_9
      refine lv_aload_n hx hb dX9_snap_36 rfl (lv_at hl 0 rfl) ?_
      refine kV_v (ci := 9) (As := []) (rest := []) (wc := [(md, .inr (9, [.int 0, .ref m_all, .ref m_deeds, .ref m_trial, .int 0, .ref m_hasImage, .ref m_tape, .ref m_key, .ref m_answered, .int 0, .int 0, .int 0, .ref m_goes, .int 0, .ref m_hotOnes, .ref m_indexed, .ref m_isChanged, .int 0, .ref m_valueNow, .int 0, .int (-1), .int 0, .ref m_didSome, .ref m_sizes, .ref m_ends])), (m_all, aI cs 51207 f_m_all), (m_deeds, aI cs 170690 f_m_deeds), (m_trial, aI cs 17069 f_m_trial)]) (wr := []) hx hb hml hown hu hK hP hD hS hA hl.1 (c_X9_notes l D cs H.size md m_all f_m_all m_deeds f_m_deeds m_trial f_m_trial m_hasImage m_tape m_key m_answered m_goes m_hotOnes m_indexed m_isChanged m_valueNow m_didSome m_sizes m_ends 0 0 z_all) (gV u_1331 u_1333 u_45 u_76 u_1334) hd_X9_notes ⟨(Nat.le_of_ble_eq_true rfl), (Nat.le_of_ble_eq_true rfl)⟩ [0, 1, 2, 3] [] rfl rfl rfl rfl (by decide) rfl 0 rfl rfl rfl (Nat.le_of_ble_eq_true rfl) dX9_snap_37 ⟨(Nat.le_of_ble_eq_true rfl), (Nat.le_of_ble_eq_true rfl)⟩ (fun ut_11 H locs hw_12 hP hD hS => ?_)
      have hP : va_P D vwCl [(m_all, aI cs 51207 f_m_all), (md, .inr (9, [.int 0, .ref m_all, .ref m_deeds, .ref m_trial, .int 1, .ref m_hasImage, .ref m_tape, .ref m_key, .ref m_answered, .int 0, .int 0, .int 0, .ref m_goes, .int 0, .ref m_hotOnes, .ref m_indexed, .ref m_isChanged, .int 0, .ref m_valueNow, .int 0, .int (-1), .int 0, .ref m_didSome, .ref m_sizes, .ref m_ends]))] H := hP
      have hD : va_D A [(m_all, aI cs 51207 f_m_all), (md, .inr (9, [.int 0, .ref m_all, .ref m_deeds, .ref m_trial, .int 1, .ref m_hasImage, .ref m_tape, .ref m_key, .ref m_answered, .int 0, .int 0, .int 0, .ref m_goes, .int 0, .ref m_hotOnes, .ref m_indexed, .ref m_isChanged, .int 0, .ref m_valueNow, .int 0, .int (-1), .int 0, .ref m_didSome, .ref m_sizes, .ref m_ends]))] := hD
      refine lv_aload_n hx hb dX9_snap_40 rfl (lv_at hl 0 rfl) ?_
      refine va_get (D := D) (ci := 9) (v := .ref m_all) (C := RX9) (T := TX9) (N := 25) hx hb hu in_X9 hown hK.1 hP 1 rfl rfl 1 (by decide) (hu _ u_1081) (fun _ h9 => h9) rfl dX9_snap_41 ?_
      refine lv_bipush (v := 55) hx hb dX9_snap_44 (by decide) ?_
      refine lv_iload_n hx hb dX9_snap_46 rfl (lv_at hl 1 rfl) ?_
      refine lv_iadd hx hb dX9_snap_47 ?_
      refine tpi (y := 55) (by decide) ?_
      refine lv_aload_n hx hb dX9_snap_48 rfl (lv_at hl 0 rfl) ?_
      refine va_get (D := D) (ci := 9) (v := .ref m_all) (C := RX9) (T := TX9) (N := 25) hx hb hu in_X9 hown hK.1 hP 1 rfl rfl 1 (by decide) (hu _ u_1081) (fun _ h9 => h9) rfl dX9_snap_49 ?_
      refine lv_iconst (v := 0) hx hb dX9_snap_52 (by decide) ?_
      refine va_iald hx hb hK.1 hP 0 0 rfl rfl (vin_c _ _ rfl) dX9_snap_53 ?_
      refine tpi (y := 0) ((z_all _ (cl_lt (vin_c _ _ rfl))).trans (by decide +kernel)) ?_
      refine va_iast hx hb hK.1 hP hD hS 0 0 rfl rfl (vin_c _ _ rfl) dX9_snap_54 (fun H locs hP hD hS => ?_)
      have hP : va_P D vwCl [(m_all, aI cs 51207 (upd f_m_all (55 : Int32).toNatClampNeg 0)), (md, .inr (9, [.int 0, .ref m_all, .ref m_deeds, .ref m_trial, .int 1, .ref m_hasImage, .ref m_tape, .ref m_key, .ref m_answered, .int 0, .int 0, .int 0, .ref m_goes, .int 0, .ref m_hotOnes, .ref m_indexed, .ref m_isChanged, .int 0, .ref m_valueNow, .int 0, .int (-1), .int 0, .ref m_didSome, .ref m_sizes, .ref m_ends]))] H := hP
      have hD : va_D A [(m_all, aI cs 51207 (upd f_m_all (55 : Int32).toNatClampNeg 0)), (md, .inr (9, [.int 0, .ref m_all, .ref m_deeds, .ref m_trial, .int 1, .ref m_hasImage, .ref m_tape, .ref m_key, .ref m_answered, .int 0, .int 0, .int 0, .ref m_goes, .int 0, .ref m_hotOnes, .ref m_indexed, .ref m_isChanged, .int 0, .ref m_valueNow, .int 0, .int (-1), .int 0, .ref m_didSome, .ref m_sizes, .ref m_ends]))] := hD
      have za_13 : ∀ j, j < 51207 → j ≠ 55 → (upd f_m_all (55 : Int32).toNatClampNeg 0) j = AL j := upd_ALx z_all
      obtain ⟨g_14, eg_15⟩ : ∃ g9 : Nat → Int32, upd f_m_all (55 : Int32).toNatClampNeg 0 = g9 := ⟨_, rfl⟩
      rw [eg_15] at hP hD za_13
      refine lv_aload_n hx hb dX9_snap_55 rfl (lv_at hl 0 rfl) ?_
      refine va_get (D := D) (ci := 9) (v := .ref m_all) (C := RX9) (T := TX9) (N := 25) hx hb hu in_X9 hown hK.1 hP 1 rfl rfl 1 (by decide) (hu _ u_1081) (fun _ h9 => h9) rfl dX9_snap_56 ?_
      refine lv_iconst (v := 0) hx hb dX9_snap_59 (by decide) ?_
      refine va_iald hx hb hK.1 hP 0 0 rfl rfl (vin_c _ _ rfl) dX9_snap_60 ?_
      refine tpi (y := 0) ((za_13 _ (cl_lt (vin_c _ _ rfl)) (by decide)).trans (by decide +kernel)) ?_
      exact hz () hP hD hS (by grind) [] rfl rfl (Nat.le_of_ble_eq_true rfl) (Nat.le_of_ble_eq_true rfl) .int rfl rfl dX9_snap_61
    · subst c_9
      refine lv_aload_n hx hb dX9_snap_36 rfl (lv_at hl 0 rfl) ?_
      refine kV_v (ci := 9) (As := []) (rest := []) (wc := [(md, .inr (9, [.int 0, .ref m_all, .ref m_deeds, .ref m_trial, .int 0, .ref m_hasImage, .ref m_tape, .ref m_key, .ref m_answered, .int 0, .int 0, .int 0, .ref m_goes, .int 0, .ref m_hotOnes, .ref m_indexed, .ref m_isChanged, .int 0, .ref m_valueNow, .int 0, .int (-1), .int 0, .ref m_didSome, .ref m_sizes, .ref m_ends])), (m_all, aI cs 51207 f_m_all), (m_deeds, aI cs 170690 f_m_deeds), (m_trial, aI cs 17069 f_m_trial)]) (wr := []) hx hb hml hown hu hK hP hD hS hA hl.1 (c_X9_notes l D cs H.size md m_all f_m_all m_deeds f_m_deeds m_trial f_m_trial m_hasImage m_tape m_key m_answered m_goes m_hotOnes m_indexed m_isChanged m_valueNow m_didSome m_sizes m_ends 0 0 z_all) (gV u_1331 u_1333 u_45 u_76 u_1334) hd_X9_notes ⟨(Nat.le_of_ble_eq_true rfl), (Nat.le_of_ble_eq_true rfl)⟩ [0, 1, 2, 3] [] rfl rfl rfl rfl (by decide) rfl 0 rfl rfl rfl (Nat.le_of_ble_eq_true rfl) dX9_snap_37 ⟨(Nat.le_of_ble_eq_true rfl), (Nat.le_of_ble_eq_true rfl)⟩ (fun ut_17 H locs hw_18 hP hD hS => ?_)
      have hP : va_P D vwCl [(m_all, aI cs 51207 f_m_all), (md, .inr (9, [.int 0, .ref m_all, .ref m_deeds, .ref m_trial, .int 1, .ref m_hasImage, .ref m_tape, .ref m_key, .ref m_answered, .int 0, .int 0, .int 0, .ref m_goes, .int 0, .ref m_hotOnes, .ref m_indexed, .ref m_isChanged, .int 0, .ref m_valueNow, .int 0, .int (-1), .int 0, .ref m_didSome, .ref m_sizes, .ref m_ends]))] H := hP
      have hD : va_D A [(m_all, aI cs 51207 f_m_all), (md, .inr (9, [.int 0, .ref m_all, .ref m_deeds, .ref m_trial, .int 1, .ref m_hasImage, .ref m_tape, .ref m_key, .ref m_answered, .int 0, .int 0, .int 0, .ref m_goes, .int 0, .ref m_hotOnes, .ref m_indexed, .ref m_isChanged, .int 0, .ref m_valueNow, .int 0, .int (-1), .int 0, .ref m_didSome, .ref m_sizes, .ref m_ends]))] := hD
      refine lv_aload_n hx hb dX9_snap_40 rfl (lv_at hl 0 rfl) ?_
      refine va_get (D := D) (ci := 9) (v := .ref m_all) (C := RX9) (T := TX9) (N := 25) hx hb hu in_X9 hown hK.1 hP 1 rfl rfl 1 (by decide) (hu _ u_1081) (fun _ h9 => h9) rfl dX9_snap_41 ?_
      refine lv_bipush (v := 55) hx hb dX9_snap_44 (by decide) ?_
      refine lv_iload_n hx hb dX9_snap_46 rfl (lv_at hl 1 rfl) ?_
      refine lv_iadd hx hb dX9_snap_47 ?_
      refine tpi (y := 56) (by decide) ?_
      refine lv_aload_n hx hb dX9_snap_48 rfl (lv_at hl 0 rfl) ?_
      refine va_get (D := D) (ci := 9) (v := .ref m_all) (C := RX9) (T := TX9) (N := 25) hx hb hu in_X9 hown hK.1 hP 1 rfl rfl 1 (by decide) (hu _ u_1081) (fun _ h9 => h9) rfl dX9_snap_49 ?_
      refine lv_iconst (v := 0) hx hb dX9_snap_52 (by decide) ?_
      refine va_iald hx hb hK.1 hP 0 0 rfl rfl (vin_c _ _ rfl) dX9_snap_53 ?_
      refine tpi (y := 0) ((z_all _ (cl_lt (vin_c _ _ rfl))).trans (by decide +kernel)) ?_
      refine va_iast hx hb hK.1 hP hD hS 0 0 rfl rfl (vin_c _ _ rfl) dX9_snap_54 (fun H locs hP hD hS => ?_)
      have hP : va_P D vwCl [(m_all, aI cs 51207 (upd f_m_all (56 : Int32).toNatClampNeg 0)), (md, .inr (9, [.int 0, .ref m_all, .ref m_deeds, .ref m_trial, .int 1, .ref m_hasImage, .ref m_tape, .ref m_key, .ref m_answered, .int 0, .int 0, .int 0, .ref m_goes, .int 0, .ref m_hotOnes, .ref m_indexed, .ref m_isChanged, .int 0, .ref m_valueNow, .int 0, .int (-1), .int 0, .ref m_didSome, .ref m_sizes, .ref m_ends]))] H := hP
      have hD : va_D A [(m_all, aI cs 51207 (upd f_m_all (56 : Int32).toNatClampNeg 0)), (md, .inr (9, [.int 0, .ref m_all, .ref m_deeds, .ref m_trial, .int 1, .ref m_hasImage, .ref m_tape, .ref m_key, .ref m_answered, .int 0, .int 0, .int 0, .ref m_goes, .int 0, .ref m_hotOnes, .ref m_indexed, .ref m_isChanged, .int 0, .ref m_valueNow, .int 0, .int (-1), .int 0, .ref m_didSome, .ref m_sizes, .ref m_ends]))] := hD
      have za_19 : ∀ j, j < 51207 → j ≠ 56 → (upd f_m_all (56 : Int32).toNatClampNeg 0) j = AL j := upd_ALx z_all
      obtain ⟨g_20, eg_21⟩ : ∃ g9 : Nat → Int32, upd f_m_all (56 : Int32).toNatClampNeg 0 = g9 := ⟨_, rfl⟩
      rw [eg_21] at hP hD za_19
      refine lv_aload_n hx hb dX9_snap_55 rfl (lv_at hl 0 rfl) ?_
      refine va_get (D := D) (ci := 9) (v := .ref m_all) (C := RX9) (T := TX9) (N := 25) hx hb hu in_X9 hown hK.1 hP 1 rfl rfl 1 (by decide) (hu _ u_1081) (fun _ h9 => h9) rfl dX9_snap_56 ?_
      refine lv_iconst (v := 0) hx hb dX9_snap_59 (by decide) ?_
      refine va_iald hx hb hK.1 hP 0 0 rfl rfl (vin_c _ _ rfl) dX9_snap_60 ?_
      refine tpi (y := 0) ((za_19 _ (cl_lt (vin_c _ _ rfl)) (by decide)).trans (by decide +kernel)) ?_
      exact hz () hP hD hS (by grind) [] rfl rfl (Nat.le_of_ble_eq_true rfl) (Nat.le_of_ble_eq_true rfl) .int rfl rfl dX9_snap_61
    · subst c_9
      refine lv_aload_n hx hb dX9_snap_36 rfl (lv_at hl 0 rfl) ?_
      refine kV_v (ci := 9) (As := []) (rest := []) (wc := [(md, .inr (9, [.int 0, .ref m_all, .ref m_deeds, .ref m_trial, .int 0, .ref m_hasImage, .ref m_tape, .ref m_key, .ref m_answered, .int 0, .int 0, .int 0, .ref m_goes, .int 0, .ref m_hotOnes, .ref m_indexed, .ref m_isChanged, .int 0, .ref m_valueNow, .int 0, .int (-1), .int 0, .ref m_didSome, .ref m_sizes, .ref m_ends])), (m_all, aI cs 51207 f_m_all), (m_deeds, aI cs 170690 f_m_deeds), (m_trial, aI cs 17069 f_m_trial)]) (wr := []) hx hb hml hown hu hK hP hD hS hA hl.1 (c_X9_notes l D cs H.size md m_all f_m_all m_deeds f_m_deeds m_trial f_m_trial m_hasImage m_tape m_key m_answered m_goes m_hotOnes m_indexed m_isChanged m_valueNow m_didSome m_sizes m_ends 0 0 z_all) (gV u_1331 u_1333 u_45 u_76 u_1334) hd_X9_notes ⟨(Nat.le_of_ble_eq_true rfl), (Nat.le_of_ble_eq_true rfl)⟩ [0, 1, 2, 3] [] rfl rfl rfl rfl (by decide) rfl 0 rfl rfl rfl (Nat.le_of_ble_eq_true rfl) dX9_snap_37 ⟨(Nat.le_of_ble_eq_true rfl), (Nat.le_of_ble_eq_true rfl)⟩ (fun ut_23 H locs hw_24 hP hD hS => ?_)
      have hP : va_P D vwCl [(m_all, aI cs 51207 f_m_all), (md, .inr (9, [.int 0, .ref m_all, .ref m_deeds, .ref m_trial, .int 1, .ref m_hasImage, .ref m_tape, .ref m_key, .ref m_answered, .int 0, .int 0, .int 0, .ref m_goes, .int 0, .ref m_hotOnes, .ref m_indexed, .ref m_isChanged, .int 0, .ref m_valueNow, .int 0, .int (-1), .int 0, .ref m_didSome, .ref m_sizes, .ref m_ends]))] H := hP
      have hD : va_D A [(m_all, aI cs 51207 f_m_all), (md, .inr (9, [.int 0, .ref m_all, .ref m_deeds, .ref m_trial, .int 1, .ref m_hasImage, .ref m_tape, .ref m_key, .ref m_answered, .int 0, .int 0, .int 0, .ref m_goes, .int 0, .ref m_hotOnes, .ref m_indexed, .ref m_isChanged, .int 0, .ref m_valueNow, .int 0, .int (-1), .int 0, .ref m_didSome, .ref m_sizes, .ref m_ends]))] := hD
      refine lv_aload_n hx hb dX9_snap_40 rfl (lv_at hl 0 rfl) ?_
      refine va_get (D := D) (ci := 9) (v := .ref m_all) (C := RX9) (T := TX9) (N := 25) hx hb hu in_X9 hown hK.1 hP 1 rfl rfl 1 (by decide) (hu _ u_1081) (fun _ h9 => h9) rfl dX9_snap_41 ?_
      refine lv_bipush (v := 55) hx hb dX9_snap_44 (by decide) ?_
      refine lv_iload_n hx hb dX9_snap_46 rfl (lv_at hl 1 rfl) ?_
      refine lv_iadd hx hb dX9_snap_47 ?_
      refine tpi (y := 57) (by decide) ?_
      refine lv_aload_n hx hb dX9_snap_48 rfl (lv_at hl 0 rfl) ?_
      refine va_get (D := D) (ci := 9) (v := .ref m_all) (C := RX9) (T := TX9) (N := 25) hx hb hu in_X9 hown hK.1 hP 1 rfl rfl 1 (by decide) (hu _ u_1081) (fun _ h9 => h9) rfl dX9_snap_49 ?_
      refine lv_iconst (v := 0) hx hb dX9_snap_52 (by decide) ?_
      refine va_iald hx hb hK.1 hP 0 0 rfl rfl (vin_c _ _ rfl) dX9_snap_53 ?_
      refine tpi (y := 0) ((z_all _ (cl_lt (vin_c _ _ rfl))).trans (by decide +kernel)) ?_
      refine va_iast hx hb hK.1 hP hD hS 0 0 rfl rfl (vin_c _ _ rfl) dX9_snap_54 (fun H locs hP hD hS => ?_)
      have hP : va_P D vwCl [(m_all, aI cs 51207 (upd f_m_all (57 : Int32).toNatClampNeg 0)), (md, .inr (9, [.int 0, .ref m_all, .ref m_deeds, .ref m_trial, .int 1, .ref m_hasImage, .ref m_tape, .ref m_key, .ref m_answered, .int 0, .int 0, .int 0, .ref m_goes, .int 0, .ref m_hotOnes, .ref m_indexed, .ref m_isChanged, .int 0, .ref m_valueNow, .int 0, .int (-1), .int 0, .ref m_didSome, .ref m_sizes, .ref m_ends]))] H := hP
      have hD : va_D A [(m_all, aI cs 51207 (upd f_m_all (57 : Int32).toNatClampNeg 0)), (md, .inr (9, [.int 0, .ref m_all, .ref m_deeds, .ref m_trial, .int 1, .ref m_hasImage, .ref m_tape, .ref m_key, .ref m_answered, .int 0, .int 0, .int 0, .ref m_goes, .int 0, .ref m_hotOnes, .ref m_indexed, .ref m_isChanged, .int 0, .ref m_valueNow, .int 0, .int (-1), .int 0, .ref m_didSome, .ref m_sizes, .ref m_ends]))] := hD
      have za_25 : ∀ j, j < 51207 → j ≠ 57 → (upd f_m_all (57 : Int32).toNatClampNeg 0) j = AL j := upd_ALx z_all
      obtain ⟨g_26, eg_27⟩ : ∃ g9 : Nat → Int32, upd f_m_all (57 : Int32).toNatClampNeg 0 = g9 := ⟨_, rfl⟩
      rw [eg_27] at hP hD za_25
      refine lv_aload_n hx hb dX9_snap_55 rfl (lv_at hl 0 rfl) ?_
      refine va_get (D := D) (ci := 9) (v := .ref m_all) (C := RX9) (T := TX9) (N := 25) hx hb hu in_X9 hown hK.1 hP 1 rfl rfl 1 (by decide) (hu _ u_1081) (fun _ h9 => h9) rfl dX9_snap_56 ?_
      refine lv_iconst (v := 0) hx hb dX9_snap_59 (by decide) ?_
      refine va_iald hx hb hK.1 hP 0 0 rfl rfl (vin_c _ _ rfl) dX9_snap_60 ?_
      refine tpi (y := 0) ((za_25 _ (cl_lt (vin_c _ _ rfl)) (by decide)).trans (by decide +kernel)) ?_
      exact hz () hP hD hS (by grind) [] rfl rfl (Nat.le_of_ble_eq_true rfl) (Nat.le_of_ble_eq_true rfl) .int rfl rfl dX9_snap_61
    · subst c_9
      refine lv_aload_n hx hb dX9_snap_36 rfl (lv_at hl 0 rfl) ?_
      refine kV_v (ci := 9) (As := []) (rest := []) (wc := [(md, .inr (9, [.int 0, .ref m_all, .ref m_deeds, .ref m_trial, .int 0, .ref m_hasImage, .ref m_tape, .ref m_key, .ref m_answered, .int 0, .int 0, .int 0, .ref m_goes, .int 0, .ref m_hotOnes, .ref m_indexed, .ref m_isChanged, .int 0, .ref m_valueNow, .int 0, .int (-1), .int 0, .ref m_didSome, .ref m_sizes, .ref m_ends])), (m_all, aI cs 51207 f_m_all), (m_deeds, aI cs 170690 f_m_deeds), (m_trial, aI cs 17069 f_m_trial)]) (wr := []) hx hb hml hown hu hK hP hD hS hA hl.1 (c_X9_notes l D cs H.size md m_all f_m_all m_deeds f_m_deeds m_trial f_m_trial m_hasImage m_tape m_key m_answered m_goes m_hotOnes m_indexed m_isChanged m_valueNow m_didSome m_sizes m_ends 0 0 z_all) (gV u_1331 u_1333 u_45 u_76 u_1334) hd_X9_notes ⟨(Nat.le_of_ble_eq_true rfl), (Nat.le_of_ble_eq_true rfl)⟩ [0, 1, 2, 3] [] rfl rfl rfl rfl (by decide) rfl 0 rfl rfl rfl (Nat.le_of_ble_eq_true rfl) dX9_snap_37 ⟨(Nat.le_of_ble_eq_true rfl), (Nat.le_of_ble_eq_true rfl)⟩ (fun ut_29 H locs hw_30 hP hD hS => ?_)
      have hP : va_P D vwCl [(m_all, aI cs 51207 f_m_all), (md, .inr (9, [.int 0, .ref m_all, .ref m_deeds, .ref m_trial, .int 1, .ref m_hasImage, .ref m_tape, .ref m_key, .ref m_answered, .int 0, .int 0, .int 0, .ref m_goes, .int 0, .ref m_hotOnes, .ref m_indexed, .ref m_isChanged, .int 0, .ref m_valueNow, .int 0, .int (-1), .int 0, .ref m_didSome, .ref m_sizes, .ref m_ends]))] H := hP
      have hD : va_D A [(m_all, aI cs 51207 f_m_all), (md, .inr (9, [.int 0, .ref m_all, .ref m_deeds, .ref m_trial, .int 1, .ref m_hasImage, .ref m_tape, .ref m_key, .ref m_answered, .int 0, .int 0, .int 0, .ref m_goes, .int 0, .ref m_hotOnes, .ref m_indexed, .ref m_isChanged, .int 0, .ref m_valueNow, .int 0, .int (-1), .int 0, .ref m_didSome, .ref m_sizes, .ref m_ends]))] := hD
      refine lv_aload_n hx hb dX9_snap_40 rfl (lv_at hl 0 rfl) ?_
      refine va_get (D := D) (ci := 9) (v := .ref m_all) (C := RX9) (T := TX9) (N := 25) hx hb hu in_X9 hown hK.1 hP 1 rfl rfl 1 (by decide) (hu _ u_1081) (fun _ h9 => h9) rfl dX9_snap_41 ?_
      refine lv_bipush (v := 55) hx hb dX9_snap_44 (by decide) ?_
      refine lv_iload_n hx hb dX9_snap_46 rfl (lv_at hl 1 rfl) ?_
      refine lv_iadd hx hb dX9_snap_47 ?_
      refine tpi (y := 58) (by decide) ?_
      refine lv_aload_n hx hb dX9_snap_48 rfl (lv_at hl 0 rfl) ?_
      refine va_get (D := D) (ci := 9) (v := .ref m_all) (C := RX9) (T := TX9) (N := 25) hx hb hu in_X9 hown hK.1 hP 1 rfl rfl 1 (by decide) (hu _ u_1081) (fun _ h9 => h9) rfl dX9_snap_49 ?_
      refine lv_iconst (v := 0) hx hb dX9_snap_52 (by decide) ?_
      refine va_iald hx hb hK.1 hP 0 0 rfl rfl (vin_c _ _ rfl) dX9_snap_53 ?_
      refine tpi (y := 0) ((z_all _ (cl_lt (vin_c _ _ rfl))).trans (by decide +kernel)) ?_
      refine va_iast hx hb hK.1 hP hD hS 0 0 rfl rfl (vin_c _ _ rfl) dX9_snap_54 (fun H locs hP hD hS => ?_)
      have hP : va_P D vwCl [(m_all, aI cs 51207 (upd f_m_all (58 : Int32).toNatClampNeg 0)), (md, .inr (9, [.int 0, .ref m_all, .ref m_deeds, .ref m_trial, .int 1, .ref m_hasImage, .ref m_tape, .ref m_key, .ref m_answered, .int 0, .int 0, .int 0, .ref m_goes, .int 0, .ref m_hotOnes, .ref m_indexed, .ref m_isChanged, .int 0, .ref m_valueNow, .int 0, .int (-1), .int 0, .ref m_didSome, .ref m_sizes, .ref m_ends]))] H := hP
      have hD : va_D A [(m_all, aI cs 51207 (upd f_m_all (58 : Int32).toNatClampNeg 0)), (md, .inr (9, [.int 0, .ref m_all, .ref m_deeds, .ref m_trial, .int 1, .ref m_hasImage, .ref m_tape, .ref m_key, .ref m_answered, .int 0, .int 0, .int 0, .ref m_goes, .int 0, .ref m_hotOnes, .ref m_indexed, .ref m_isChanged, .int 0, .ref m_valueNow, .int 0, .int (-1), .int 0, .ref m_didSome, .ref m_sizes, .ref m_ends]))] := hD
      have za_31 : ∀ j, j < 51207 → j ≠ 58 → (upd f_m_all (58 : Int32).toNatClampNeg 0) j = AL j := upd_ALx z_all
      obtain ⟨g_32, eg_33⟩ : ∃ g9 : Nat → Int32, upd f_m_all (58 : Int32).toNatClampNeg 0 = g9 := ⟨_, rfl⟩
      rw [eg_33] at hP hD za_31
      refine lv_aload_n hx hb dX9_snap_55 rfl (lv_at hl 0 rfl) ?_
      refine va_get (D := D) (ci := 9) (v := .ref m_all) (C := RX9) (T := TX9) (N := 25) hx hb hu in_X9 hown hK.1 hP 1 rfl rfl 1 (by decide) (hu _ u_1081) (fun _ h9 => h9) rfl dX9_snap_56 ?_
      refine lv_iconst (v := 0) hx hb dX9_snap_59 (by decide) ?_
      refine va_iald hx hb hK.1 hP 0 0 rfl rfl (vin_c _ _ rfl) dX9_snap_60 ?_
      refine tpi (y := 0) ((za_31 _ (cl_lt (vin_c _ _ rfl)) (by decide)).trans (by decide +kernel)) ?_
      exact hz () hP hD hS (by grind) [] rfl rfl (Nat.le_of_ble_eq_true rfl) (Nat.le_of_ble_eq_true rfl) .int rfl rfl dX9_snap_61
  · obtain ⟨er_34, hf_35⟩ := hw_3
    have hf_36 : ¬ (0 ≤ x ∧ x ≤ 3) := fun h => hf_35 ⟨(w_le (d := 0) (x := x) (by decide)).mpr h.1, (w_ge (d := 3) (x := x) (by decide)).mpr h.2⟩
    subst er_34
    refine lv_if_ne (tgt := 20) hx hb dX9_snap_14 (by decide) (fun c_37 => absurd (by decide) c_37) (fun c_37 => ?_)
    refine lv_bipush (v := (-2)) hx hb dX9_snap_17 (by decide) ?_
    exact hz () hP hD hS (by grind) [] rfl rfl (Nat.le_of_ble_eq_true rfl) (Nat.le_of_ble_eq_true rfl) .int rfl rfl dX9_snap_19
abbrev rm_c_X9_unsnap : Room := { frames := 1, cells := 0, slots := 0, locals := 25 }
set_option maxHeartbeats 4000000 in
set_option maxRecDepth 100000 in
theorem c_X9_unsnap (l : Launch) (D : va_G) (cs : Nat → ClassId) (sz : Nat) (x : Int32) (md : Nat) (m_all : Nat) (f_m_all : Nat → Int32) (m_deeds : Nat) (m_trial : Nat) (m_hasImage : Nat) (m_tape : Nat) (m_key : Nat) (m_answered : Nat) (m_goes : Nat) (m_hotOnes : Nat) (m_indexed : Nat) (m_isChanged : Nat) (m_valueNow : Nat) (m_didSome : Nat) (m_sizes : Nat) (m_ends : Nat) (z_all : ∀ j, j < 51207 → f_m_all j = AL j) : cMi l yX9_unsnap (Cond.code yX9_unsnap cX9_unsnap 2 (some .int)) (rm_c_X9_unsnap) D cs [.ref md, .int x] sz [(md, .inr (9, [.int 0, .ref m_all, .ref m_deeds, .ref m_trial, .int 0, .ref m_hasImage, .ref m_tape, .ref m_key, .ref m_answered, .int 0, .int 0, .int 0, .ref m_goes, .int 0, .ref m_hotOnes, .ref m_indexed, .ref m_isChanged, .int 0, .ref m_valueNow, .int 0, .int (-1), .int 0, .ref m_didSome, .ref m_sizes, .ref m_ends])), (m_all, aI cs 51207 f_m_all)] (fun (r : Int32) (u : Unit) => ((r = (-2)) ∧ (x < 0 ∨ 4 ≤ x)) ∨ ((r = (-6)) ∧ (¬ x < 0 ∧ x < 4))) (fun (u : Unit) => []) := by
  refine kMet_i RX9 (by decide) rfl (Nat.le_of_ble_eq_true rfl) ?_
  intro p e s m below meth c ls A Qz H locs hx hb hml hown hin hu hK hsz hA hP hD hS hl hz
  subst hsz
  have hl : lv_has ls 2 [(0, .ref md), (1, .int x)] := hl
  refine lv_aload_n hx hb dX9_unsnap_0 rfl (lv_at hl 0 rfl) ?_
  refine lv_iconst (v := 0) hx hb dX9_unsnap_1 (by decide) ?_
  refine va_put (D := D) (ci := 9) (v := .int 0) (ty := tyX9 0) (C := RX9) (T := TX9) (N := 25) hx hb hu in_X9 tyX9 tyX9_ok nmX9 hown hK.1 hP hD hS 0 rfl rfl 0 (by decide) (hu _ u_1080) (fun _ h9 => h9) rfl (tyX9_ok 0 (by decide)) rfl rfl (Nat.le_of_ble_eq_true rfl) dX9_unsnap_2 (fun H locs hP hD hS => ?_)
  have hP : va_P D vwCl [(md, .inr (9, [.int 0, .ref m_all, .ref m_deeds, .ref m_trial, .int 0, .ref m_hasImage, .ref m_tape, .ref m_key, .ref m_answered, .int 0, .int 0, .int 0, .ref m_goes, .int 0, .ref m_hotOnes, .ref m_indexed, .ref m_isChanged, .int 0, .ref m_valueNow, .int 0, .int (-1), .int 0, .ref m_didSome, .ref m_sizes, .ref m_ends])), (m_all, aI cs 51207 f_m_all)] H := hP
  have hD : va_D A [(md, .inr (9, [.int 0, .ref m_all, .ref m_deeds, .ref m_trial, .int 0, .ref m_hasImage, .ref m_tape, .ref m_key, .ref m_answered, .int 0, .int 0, .int 0, .ref m_goes, .int 0, .ref m_hotOnes, .ref m_indexed, .ref m_isChanged, .int 0, .ref m_valueNow, .int 0, .int (-1), .int 0, .ref m_didSome, .ref m_sizes, .ref m_ends])), (m_all, aI cs 51207 f_m_all)] := hD
  refine lv_iload_n hx hb dX9_unsnap_5 rfl (lv_at hl 1 rfl) ?_
  refine lv_i2l (v := x.toInt64) hx hb dX9_unsnap_6 rfl ?_
  refine lv_lconst (v := 0) hx hb dX9_unsnap_7 (by decide) ?_
  refine lv_ldc2 (v := 3) hx hb hown (hu _ u_1302) dX9_unsnap_8 ?_
  refine kS_i  (As := [.long x.toInt64, .long 0, .long 3]) (rest := []) (wc := []) (wr := [(md, .inr (9, [.int 0, .ref m_all, .ref m_deeds, .ref m_trial, .int 0, .ref m_hasImage, .ref m_tape, .ref m_key, .ref m_answered, .int 0, .int 0, .int 0, .ref m_goes, .int 0, .ref m_hotOnes, .ref m_indexed, .ref m_isChanged, .int 0, .ref m_valueNow, .int 0, .int (-1), .int 0, .ref m_didSome, .ref m_sizes, .ref m_ends])), (m_all, aI cs 51207 f_m_all)]) hx hb hml hown hu hK hP hD hS hA hl.1 (c_X9_within l D cs H.size x.toInt64 0 3) (gS u_1164 u_1165 u_76 u_1166) hd_X9_within ⟨(Nat.le_of_ble_eq_true rfl), (Nat.le_of_ble_eq_true rfl)⟩ [] [0, 1] rfl rfl rfl rfl (by decide) rfl rfl (Nat.le_of_ble_eq_true rfl) dX9_unsnap_11 ⟨(Nat.le_of_ble_eq_true rfl), (Nat.le_of_ble_eq_true rfl)⟩ (fun r_1 ut_2 H locs hw_3 hP hD hS => ?_)
  have hP : va_P D vwCl [(md, .inr (9, [.int 0, .ref m_all, .ref m_deeds, .ref m_trial, .int 0, .ref m_hasImage, .ref m_tape, .ref m_key, .ref m_answered, .int 0, .int 0, .int 0, .ref m_goes, .int 0, .ref m_hotOnes, .ref m_indexed, .ref m_isChanged, .int 0, .ref m_valueNow, .int 0, .int (-1), .int 0, .ref m_didSome, .ref m_sizes, .ref m_ends])), (m_all, aI cs 51207 f_m_all)] H := hP
  have hD : va_D A [(md, .inr (9, [.int 0, .ref m_all, .ref m_deeds, .ref m_trial, .int 0, .ref m_hasImage, .ref m_tape, .ref m_key, .ref m_answered, .int 0, .int 0, .int 0, .ref m_goes, .int 0, .ref m_hotOnes, .ref m_indexed, .ref m_isChanged, .int 0, .ref m_valueNow, .int 0, .int (-1), .int 0, .ref m_didSome, .ref m_sizes, .ref m_ends])), (m_all, aI cs 51207 f_m_all)] := hD
  rcases hw_3 with hw_3 | hw_3
  · obtain ⟨er_4, hf_5⟩ := hw_3
    have hf_6 : 0 ≤ x ∧ x ≤ 3 := ⟨(w_le (d := 0) (x := x) (by decide)).mp hf_5.1, (w_ge (d := 3) (x := x) (by decide)).mp hf_5.2⟩
    subst er_4
    refine lv_if_ne (tgt := 20) hx hb dX9_unsnap_14 (by decide) (fun c_7 => ?_) (fun c_7 => absurd c_7 (by decide))
    refine lv_aload_n hx hb dX9_unsnap_20 rfl (lv_at hl 0 rfl) ?_
    refine va_get (D := D) (ci := 9) (v := .ref m_all) (C := RX9) (T := TX9) (N := 25) hx hb hu in_X9 hown hK.1 hP 0 rfl rfl 1 (by decide) (hu _ u_1081) (fun _ h9 => h9) rfl dX9_unsnap_21 ?_
    refine lv_bipush (v := 55) hx hb dX9_unsnap_24 (by decide) ?_
    refine lv_iload_n hx hb dX9_unsnap_26 rfl (lv_at hl 1 rfl) ?_
    refine lv_iadd hx hb dX9_unsnap_27 ?_
    refine va_iald hx hb hK.1 hP 1 0 rfl rfl (vin_of (N := 51207) (by grind) (by grind) rfl) dX9_unsnap_28 ?_
    refine tpi (y := (-1)) ((z_all _ (cl_lt (vin_of (N := 51207) (by grind) (by grind) rfl))).trans (AL_n _ (by grind))) ?_
    refine lv_iconst (v := (-1)) hx hb dX9_unsnap_29 (by decide) ?_
    refine lv_icmp_ne (tgt := 36) hx hb dX9_unsnap_30 (by decide) (fun c_8 => absurd (by decide) c_8) (fun c_8 => ?_)
    refine lv_bipush (v := (-6)) hx hb dX9_unsnap_33 (by decide) ?_
    exact hz () hP hD hS (by grind) [] rfl rfl (Nat.le_of_ble_eq_true rfl) (Nat.le_of_ble_eq_true rfl) .int rfl rfl dX9_unsnap_35
  · obtain ⟨er_9, hf_10⟩ := hw_3
    have hf_11 : ¬ (0 ≤ x ∧ x ≤ 3) := fun h => hf_10 ⟨(w_le (d := 0) (x := x) (by decide)).mpr h.1, (w_ge (d := 3) (x := x) (by decide)).mpr h.2⟩
    subst er_9
    refine lv_if_ne (tgt := 20) hx hb dX9_unsnap_14 (by decide) (fun c_12 => absurd (by decide) c_12) (fun c_12 => ?_)
    refine lv_bipush (v := (-2)) hx hb dX9_unsnap_17 (by decide) ?_
    exact hz () hP hD hS (by grind) [] rfl rfl (Nat.le_of_ble_eq_true rfl) (Nat.le_of_ble_eq_true rfl) .int rfl rfl dX9_unsnap_19
abbrev rm_c_X9_open : Room := { frames := 2, cells := 0, slots := 0, locals := 45 }
set_option maxHeartbeats 4000000 in
set_option maxRecDepth 100000 in
theorem c_X9_open (l : Launch) (D : va_G) (cs : Nat → ClassId) (sz : Nat) (x : Int32) (y : Int32) (z : Int32) (md : Nat) (m_all : Nat) (f_m_all : Nat → Int32) (m_deeds : Nat) (f_m_deeds : Nat → Int32) (m_trial : Nat) (f_m_trial : Nat → Int32) (m_hasImage : Nat) (m_tape : Nat) (m_key : Nat) (m_answered : Nat) (m_goes : Nat) (m_hotOnes : Nat) (m_indexed : Nat) (m_isChanged : Nat) (m_valueNow : Nat) (m_didSome : Nat) (m_sizes : Nat) (m_ends : Nat) (z_all : ∀ j, j < 51207 → f_m_all j = AL j) : cMi l yX9_open (Cond.code yX9_open cX9_open 7 (some .int)) (rm_c_X9_open) D cs [.ref md, .int x, .int y, .int z] sz [(md, .inr (9, [.int 0, .ref m_all, .ref m_deeds, .ref m_trial, .int 0, .ref m_hasImage, .ref m_tape, .ref m_key, .ref m_answered, .int 0, .int 0, .int 0, .ref m_goes, .int 0, .ref m_hotOnes, .ref m_indexed, .ref m_isChanged, .int 0, .ref m_valueNow, .int 0, .int (-1), .int 0, .ref m_didSome, .ref m_sizes, .ref m_ends])), (m_all, aI cs 51207 f_m_all), (m_deeds, aI cs 170690 f_m_deeds), (m_trial, aI cs 17069 f_m_trial)] (fun (r : Int32) (u : Unit) => ((r = (-2)) ∧ (x < 0 ∨ 3 ≤ x ∨ (¬ z = -1 ∧ (z < 0 ∨ 4 ≤ z)))) ∨ ((r = (-3)) ∧ (¬ x < 0 ∧ x < 3 ∧ (z = -1 ∨ (¬ z < 0 ∧ z < 4)) ∧ ¬ y = 0)) ∨ ((r = (-6)) ∧ (¬ x < 0 ∧ x < 3 ∧ ¬ z = -1 ∧ ¬ z < 0 ∧ z < 4 ∧ y = 0)) ∨ ((r = 0) ∧ (¬ x < 0 ∧ x < 3 ∧ z = -1 ∧ y = 0))) (fun (u : Unit) => []) := by
  refine kMet_i RX9 (by decide) rfl (Nat.le_of_ble_eq_true rfl) ?_
  intro p e s m below meth c ls A Qz H locs hx hb hml hown hin hu hK hsz hA hP hD hS hl hz
  subst hsz
  have hl : lv_has ls 7 [(0, .ref md), (1, .int x), (2, .int y), (3, .int z)] := hl
  refine lv_aload_n hx hb dX9_open_0 rfl (lv_at hl 0 rfl) ?_
  refine lv_iconst (v := 0) hx hb dX9_open_1 (by decide) ?_
  refine va_put (D := D) (ci := 9) (v := .int 0) (ty := tyX9 0) (C := RX9) (T := TX9) (N := 25) hx hb hu in_X9 tyX9 tyX9_ok nmX9 hown hK.1 hP hD hS 0 rfl rfl 0 (by decide) (hu _ u_1080) (fun _ h9 => h9) rfl (tyX9_ok 0 (by decide)) rfl rfl (Nat.le_of_ble_eq_true rfl) dX9_open_2 (fun H locs hP hD hS => ?_)
  have hP : va_P D vwCl [(md, .inr (9, [.int 0, .ref m_all, .ref m_deeds, .ref m_trial, .int 0, .ref m_hasImage, .ref m_tape, .ref m_key, .ref m_answered, .int 0, .int 0, .int 0, .ref m_goes, .int 0, .ref m_hotOnes, .ref m_indexed, .ref m_isChanged, .int 0, .ref m_valueNow, .int 0, .int (-1), .int 0, .ref m_didSome, .ref m_sizes, .ref m_ends])), (m_all, aI cs 51207 f_m_all), (m_deeds, aI cs 170690 f_m_deeds), (m_trial, aI cs 17069 f_m_trial)] H := hP
  have hD : va_D A [(md, .inr (9, [.int 0, .ref m_all, .ref m_deeds, .ref m_trial, .int 0, .ref m_hasImage, .ref m_tape, .ref m_key, .ref m_answered, .int 0, .int 0, .int 0, .ref m_goes, .int 0, .ref m_hotOnes, .ref m_indexed, .ref m_isChanged, .int 0, .ref m_valueNow, .int 0, .int (-1), .int 0, .ref m_didSome, .ref m_sizes, .ref m_ends])), (m_all, aI cs 51207 f_m_all), (m_deeds, aI cs 170690 f_m_deeds), (m_trial, aI cs 17069 f_m_trial)] := hD
  refine lv_iload_n hx hb dX9_open_5 rfl (lv_at hl 1 rfl) ?_
  refine lv_i2l (v := x.toInt64) hx hb dX9_open_6 rfl ?_
  refine lv_lconst (v := 0) hx hb dX9_open_7 (by decide) ?_
  refine lv_ldc2 (v := 2) hx hb hown (hu _ u_1347) dX9_open_8 ?_
  refine kS_i  (As := [.long x.toInt64, .long 0, .long 2]) (rest := []) (wc := []) (wr := [(md, .inr (9, [.int 0, .ref m_all, .ref m_deeds, .ref m_trial, .int 0, .ref m_hasImage, .ref m_tape, .ref m_key, .ref m_answered, .int 0, .int 0, .int 0, .ref m_goes, .int 0, .ref m_hotOnes, .ref m_indexed, .ref m_isChanged, .int 0, .ref m_valueNow, .int 0, .int (-1), .int 0, .ref m_didSome, .ref m_sizes, .ref m_ends])), (m_all, aI cs 51207 f_m_all), (m_deeds, aI cs 170690 f_m_deeds), (m_trial, aI cs 17069 f_m_trial)]) hx hb hml hown hu hK hP hD hS hA hl.1 (c_X9_within l D cs H.size x.toInt64 0 2) (gS u_1164 u_1165 u_76 u_1166) hd_X9_within ⟨(Nat.le_of_ble_eq_true rfl), (Nat.le_of_ble_eq_true rfl)⟩ [] [0, 1, 2, 3] rfl rfl rfl rfl (by decide) rfl rfl (Nat.le_of_ble_eq_true rfl) dX9_open_11 ⟨(Nat.le_of_ble_eq_true rfl), (Nat.le_of_ble_eq_true rfl)⟩ (fun r_1 ut_2 H locs hw_3 hP hD hS => ?_)
  have hP : va_P D vwCl [(md, .inr (9, [.int 0, .ref m_all, .ref m_deeds, .ref m_trial, .int 0, .ref m_hasImage, .ref m_tape, .ref m_key, .ref m_answered, .int 0, .int 0, .int 0, .ref m_goes, .int 0, .ref m_hotOnes, .ref m_indexed, .ref m_isChanged, .int 0, .ref m_valueNow, .int 0, .int (-1), .int 0, .ref m_didSome, .ref m_sizes, .ref m_ends])), (m_all, aI cs 51207 f_m_all), (m_deeds, aI cs 170690 f_m_deeds), (m_trial, aI cs 17069 f_m_trial)] H := hP
  have hD : va_D A [(md, .inr (9, [.int 0, .ref m_all, .ref m_deeds, .ref m_trial, .int 0, .ref m_hasImage, .ref m_tape, .ref m_key, .ref m_answered, .int 0, .int 0, .int 0, .ref m_goes, .int 0, .ref m_hotOnes, .ref m_indexed, .ref m_isChanged, .int 0, .ref m_valueNow, .int 0, .int (-1), .int 0, .ref m_didSome, .ref m_sizes, .ref m_ends])), (m_all, aI cs 51207 f_m_all), (m_deeds, aI cs 170690 f_m_deeds), (m_trial, aI cs 17069 f_m_trial)] := hD
  rcases hw_3 with hw_3 | hw_3
  · obtain ⟨er_4, hf_5⟩ := hw_3
    have hf_6 : 0 ≤ x ∧ x ≤ 2 := ⟨(w_le (d := 0) (x := x) (by decide)).mp hf_5.1, (w_ge (d := 2) (x := x) (by decide)).mp hf_5.2⟩
    subst er_4
    refine lv_if_eq (tgt := 24) hx hb dX9_open_14 (by decide) (fun c_7 => absurd c_7 (by decide)) (fun c_7 => ?_)
    refine lv_iload_n hx hb dX9_open_17 rfl (lv_at hl 3 rfl) ?_
    refine kS_i  (As := [.int z]) (rest := []) (wc := []) (wr := [(md, .inr (9, [.int 0, .ref m_all, .ref m_deeds, .ref m_trial, .int 0, .ref m_hasImage, .ref m_tape, .ref m_key, .ref m_answered, .int 0, .int 0, .int 0, .ref m_goes, .int 0, .ref m_hotOnes, .ref m_indexed, .ref m_isChanged, .int 0, .ref m_valueNow, .int 0, .int (-1), .int 0, .ref m_didSome, .ref m_sizes, .ref m_ends])), (m_all, aI cs 51207 f_m_all), (m_deeds, aI cs 170690 f_m_deeds), (m_trial, aI cs 17069 f_m_trial)]) hx hb hml hown hu hK hP hD hS hA hl.1 (c_X9_isAt l D cs H.size z) (gS u_1298 u_1299 u_76 u_1300) hd_X9_isAt ⟨(Nat.le_of_ble_eq_true rfl), (Nat.le_of_ble_eq_true rfl)⟩ [] [0, 1, 2, 3] rfl rfl rfl rfl (by decide) rfl rfl (Nat.le_of_ble_eq_true rfl) dX9_open_18 ⟨(Nat.le_of_ble_eq_true rfl), (Nat.le_of_ble_eq_true rfl)⟩ (fun r_8 ut_9 H locs hw_10 hP hD hS => ?_)
    have hP : va_P D vwCl [(md, .inr (9, [.int 0, .ref m_all, .ref m_deeds, .ref m_trial, .int 0, .ref m_hasImage, .ref m_tape, .ref m_key, .ref m_answered, .int 0, .int 0, .int 0, .ref m_goes, .int 0, .ref m_hotOnes, .ref m_indexed, .ref m_isChanged, .int 0, .ref m_valueNow, .int 0, .int (-1), .int 0, .ref m_didSome, .ref m_sizes, .ref m_ends])), (m_all, aI cs 51207 f_m_all), (m_deeds, aI cs 170690 f_m_deeds), (m_trial, aI cs 17069 f_m_trial)] H := hP
    have hD : va_D A [(md, .inr (9, [.int 0, .ref m_all, .ref m_deeds, .ref m_trial, .int 0, .ref m_hasImage, .ref m_tape, .ref m_key, .ref m_answered, .int 0, .int 0, .int 0, .ref m_goes, .int 0, .ref m_hotOnes, .ref m_indexed, .ref m_isChanged, .int 0, .ref m_valueNow, .int 0, .int (-1), .int 0, .ref m_didSome, .ref m_sizes, .ref m_ends])), (m_all, aI cs 51207 f_m_all), (m_deeds, aI cs 170690 f_m_deeds), (m_trial, aI cs 17069 f_m_trial)] := hD
    rcases hw_10 with hw_10 | hw_10
    · obtain ⟨er_11, hf_12⟩ := hw_10
      subst er_11
      refine lv_if_ne (tgt := 27) hx hb dX9_open_21 (by decide) (fun c_13 => ?_) (fun c_13 => absurd c_13 (by decide))
      refine lv_aload_n hx hb dX9_open_27 rfl (lv_at hl 0 rfl) ?_
      refine lv_iload_n hx hb dX9_open_28 rfl (lv_at hl 1 rfl) ?_
      refine kV_i (ci := 9) (As := [.int x]) (rest := []) (wc := [(md, .inr (9, [.int 0, .ref m_all, .ref m_deeds, .ref m_trial, .int 0, .ref m_hasImage, .ref m_tape, .ref m_key, .ref m_answered, .int 0, .int 0, .int 0, .ref m_goes, .int 0, .ref m_hotOnes, .ref m_indexed, .ref m_isChanged, .int 0, .ref m_valueNow, .int 0, .int (-1), .int 0, .ref m_didSome, .ref m_sizes, .ref m_ends])), (m_all, aI cs 51207 f_m_all)]) (wr := [(m_deeds, aI cs 170690 f_m_deeds), (m_trial, aI cs 17069 f_m_trial)]) hx hb hml hown hu hK hP hD hS hA hl.1 (c_X9_momentOf l D cs H.size x md m_all f_m_all m_deeds m_trial m_hasImage m_tape m_key m_answered m_goes m_hotOnes m_indexed m_isChanged m_valueNow m_didSome m_sizes m_ends 0 0 0 z_all (by first | decide | grind)) (gV u_1278 u_1280 u_35 u_76 u_1281) hd_X9_momentOf ⟨(Nat.le_of_ble_eq_true rfl), (Nat.le_of_ble_eq_true rfl)⟩ [0, 1] [2, 3] rfl rfl rfl rfl (by decide) rfl 0 rfl rfl rfl (Nat.le_of_ble_eq_true rfl) dX9_open_29 ⟨(Nat.le_of_ble_eq_true rfl), (Nat.le_of_ble_eq_true rfl)⟩ (fun r_14 ut_15 H locs hw_16 hP hD hS => ?_)
      have hP : va_P D vwCl [(m_deeds, aI cs 170690 f_m_deeds), (m_trial, aI cs 17069 f_m_trial), (md, .inr (9, [.int 0, .ref m_all, .ref m_deeds, .ref m_trial, .int 0, .ref m_hasImage, .ref m_tape, .ref m_key, .ref m_answered, .int 0, .int 0, .int 0, .ref m_goes, .int 0, .ref m_hotOnes, .ref m_indexed, .ref m_isChanged, .int 0, .ref m_valueNow, .int 0, .int (-1), .int 0, .ref m_didSome, .ref m_sizes, .ref m_ends])), (m_all, aI cs 51207 f_m_all)] H := hP
      have hD : va_D A [(m_deeds, aI cs 170690 f_m_deeds), (m_trial, aI cs 17069 f_m_trial), (md, .inr (9, [.int 0, .ref m_all, .ref m_deeds, .ref m_trial, .int 0, .ref m_hasImage, .ref m_tape, .ref m_key, .ref m_answered, .int 0, .int 0, .int 0, .ref m_goes, .int 0, .ref m_hotOnes, .ref m_indexed, .ref m_isChanged, .int 0, .ref m_valueNow, .int 0, .int (-1), .int 0, .ref m_didSome, .ref m_sizes, .ref m_ends])), (m_all, aI cs 51207 f_m_all)] := hD
      have er_17 := hw_16
      subst er_17
      refine lv_iconst (v := (-1)) hx hb dX9_open_32 (by decide) ?_
      refine lv_icmp_eq (tgt := 39) hx hb dX9_open_33 (by decide) (fun c_18 => ?_) (fun c_18 => absurd (by decide) c_18)
      refine lv_iload_n hx hb dX9_open_39 rfl (lv_at hl 2 rfl) ?_
      refine lv_i2l (v := y.toInt64) hx hb dX9_open_40 rfl ?_
      refine lv_lconst (v := 0) hx hb dX9_open_41 (by decide) ?_
      refine lv_ldc2 (v := 8) hx hb hown (hu _ u_1171) dX9_open_42 ?_
      refine kS_i  (As := [.long y.toInt64, .long 0, .long 8]) (rest := []) (wc := []) (wr := [(m_deeds, aI cs 170690 f_m_deeds), (m_trial, aI cs 17069 f_m_trial), (md, .inr (9, [.int 0, .ref m_all, .ref m_deeds, .ref m_trial, .int 0, .ref m_hasImage, .ref m_tape, .ref m_key, .ref m_answered, .int 0, .int 0, .int 0, .ref m_goes, .int 0, .ref m_hotOnes, .ref m_indexed, .ref m_isChanged, .int 0, .ref m_valueNow, .int 0, .int (-1), .int 0, .ref m_didSome, .ref m_sizes, .ref m_ends])), (m_all, aI cs 51207 f_m_all)]) hx hb hml hown hu hK hP hD hS hA hl.1 (c_X9_within l D cs H.size y.toInt64 0 8) (gS u_1164 u_1165 u_76 u_1166) hd_X9_within ⟨(Nat.le_of_ble_eq_true rfl), (Nat.le_of_ble_eq_true rfl)⟩ [] [0, 1, 2, 3] rfl rfl rfl rfl (by decide) rfl rfl (Nat.le_of_ble_eq_true rfl) dX9_open_45 ⟨(Nat.le_of_ble_eq_true rfl), (Nat.le_of_ble_eq_true rfl)⟩ (fun r_19 ut_20 H locs hw_21 hP hD hS => ?_)
      have hP : va_P D vwCl [(m_deeds, aI cs 170690 f_m_deeds), (m_trial, aI cs 17069 f_m_trial), (md, .inr (9, [.int 0, .ref m_all, .ref m_deeds, .ref m_trial, .int 0, .ref m_hasImage, .ref m_tape, .ref m_key, .ref m_answered, .int 0, .int 0, .int 0, .ref m_goes, .int 0, .ref m_hotOnes, .ref m_indexed, .ref m_isChanged, .int 0, .ref m_valueNow, .int 0, .int (-1), .int 0, .ref m_didSome, .ref m_sizes, .ref m_ends])), (m_all, aI cs 51207 f_m_all)] H := hP
      have hD : va_D A [(m_deeds, aI cs 170690 f_m_deeds), (m_trial, aI cs 17069 f_m_trial), (md, .inr (9, [.int 0, .ref m_all, .ref m_deeds, .ref m_trial, .int 0, .ref m_hasImage, .ref m_tape, .ref m_key, .ref m_answered, .int 0, .int 0, .int 0, .ref m_goes, .int 0, .ref m_hotOnes, .ref m_indexed, .ref m_isChanged, .int 0, .ref m_valueNow, .int 0, .int (-1), .int 0, .ref m_didSome, .ref m_sizes, .ref m_ends])), (m_all, aI cs 51207 f_m_all)] := hD
      rcases hw_21 with hw_21 | hw_21
      · obtain ⟨er_22, hf_23⟩ := hw_21
        have hf_24 : 0 ≤ y ∧ y ≤ 8 := ⟨(w_le (d := 0) (x := y) (by decide)).mp hf_23.1, (w_ge (d := 8) (x := y) (by decide)).mp hf_23.2⟩
        subst er_22
        refine lv_if_eq (tgt := 59) hx hb dX9_open_48 (by decide) (fun c_25 => absurd c_25 (by decide)) (fun c_25 => ?_)
        refine lv_iload_n hx hb dX9_open_51 rfl (lv_at hl 2 rfl) ?_
        refine lv_aload_n hx hb dX9_open_52 rfl (lv_at hl 0 rfl) ?_
        refine va_get (D := D) (ci := 9) (v := .int 0) (C := RX9) (T := TX9) (N := 25) hx hb hu in_X9 hown hK.1 hP 2 rfl rfl 9 (by decide) (hu _ u_1089) (fun _ h9 => h9) rfl dX9_open_53 ?_
        refine lv_icmp_le (tgt := 62) hx hb dX9_open_56 (by decide) (fun c_26 => ?_) (fun c_26 => ?_)
        · refine lv_aload_n hx hb dX9_open_62 rfl (lv_at hl 0 rfl) ?_
          refine lv_iload_n hx hb dX9_open_63 rfl (lv_at hl 3 rfl) ?_
          refine kV_i (ci := 9) (As := [.int z]) (rest := []) (wc := [(md, .inr (9, [.int 0, .ref m_all, .ref m_deeds, .ref m_trial, .int 0, .ref m_hasImage, .ref m_tape, .ref m_key, .ref m_answered, .int 0, .int 0, .int 0, .ref m_goes, .int 0, .ref m_hotOnes, .ref m_indexed, .ref m_isChanged, .int 0, .ref m_valueNow, .int 0, .int (-1), .int 0, .ref m_didSome, .ref m_sizes, .ref m_ends])), (m_all, aI cs 51207 f_m_all)]) (wr := [(m_deeds, aI cs 170690 f_m_deeds), (m_trial, aI cs 17069 f_m_trial)]) hx hb hml hown hu hK hP hD hS hA hl.1 (c_X9_momentAt l D cs H.size z md m_all f_m_all m_deeds m_trial m_hasImage m_tape m_key m_answered m_goes m_hotOnes m_indexed m_isChanged m_valueNow m_didSome m_sizes m_ends 0 0 0 z_all (by first | decide | grind)) (gV u_1307 u_1309 u_40 u_76 u_1310) hd_X9_momentAt ⟨(Nat.le_of_ble_eq_true rfl), (Nat.le_of_ble_eq_true rfl)⟩ [2, 3] [0, 1] rfl rfl rfl rfl (by decide) rfl 0 rfl rfl rfl (Nat.le_of_ble_eq_true rfl) dX9_open_64 ⟨(Nat.le_of_ble_eq_true rfl), (Nat.le_of_ble_eq_true rfl)⟩ (fun r_27 ut_28 H locs hw_29 hP hD hS => ?_)
          have hP : va_P D vwCl [(m_deeds, aI cs 170690 f_m_deeds), (m_trial, aI cs 17069 f_m_trial), (md, .inr (9, [.int 0, .ref m_all, .ref m_deeds, .ref m_trial, .int 0, .ref m_hasImage, .ref m_tape, .ref m_key, .ref m_answered, .int 0, .int 0, .int 0, .ref m_goes, .int 0, .ref m_hotOnes, .ref m_indexed, .ref m_isChanged, .int 0, .ref m_valueNow, .int 0, .int (-1), .int 0, .ref m_didSome, .ref m_sizes, .ref m_ends])), (m_all, aI cs 51207 f_m_all)] H := hP
          have hD : va_D A [(m_deeds, aI cs 170690 f_m_deeds), (m_trial, aI cs 17069 f_m_trial), (md, .inr (9, [.int 0, .ref m_all, .ref m_deeds, .ref m_trial, .int 0, .ref m_hasImage, .ref m_tape, .ref m_key, .ref m_answered, .int 0, .int 0, .int 0, .ref m_goes, .int 0, .ref m_hotOnes, .ref m_indexed, .ref m_isChanged, .int 0, .ref m_valueNow, .int 0, .int (-1), .int 0, .ref m_didSome, .ref m_sizes, .ref m_ends])), (m_all, aI cs 51207 f_m_all)] := hD
          rcases hw_29 with hw_29 | hw_29
          · obtain ⟨er_30, hf_31⟩ := hw_29
            subst er_30
            refine lv_istore (lv' := [(4, .int 0), (0, .ref md), (1, .int x), (2, .int y), (3, .int z)]) hx hb dX9_open_67 hl (by decide) rfl (fun ls hl => ?_)
            refine lv_iload hx hb dX9_open_69 (lv_at hl 0 rfl) ?_
            refine lv_bipush (v := (-6)) hx hb dX9_open_71 (by decide) ?_
            refine lv_icmp_ne (tgt := 79) hx hb dX9_open_73 (by decide) (fun c_32 => ?_) (fun c_32 => absurd c_32 (by decide))
            obtain rfl : y = 0 := by grind
            rcases (by grind : x = 0 ∨ x = 1 ∨ x = 2) with c_33 | c_33 | c_33
            · subst c_33
              refine lv_aload_n hx hb dX9_open_79 rfl (lv_at hl 1 rfl) ?_
              refine kV_v (ci := 9) (As := []) (rest := []) (wc := [(md, .inr (9, [.int 0, .ref m_all, .ref m_deeds, .ref m_trial, .int 0, .ref m_hasImage, .ref m_tape, .ref m_key, .ref m_answered, .int 0, .int 0, .int 0, .ref m_goes, .int 0, .ref m_hotOnes, .ref m_indexed, .ref m_isChanged, .int 0, .ref m_valueNow, .int 0, .int (-1), .int 0, .ref m_didSome, .ref m_sizes, .ref m_ends])), (m_all, aI cs 51207 f_m_all), (m_deeds, aI cs 170690 f_m_deeds), (m_trial, aI cs 17069 f_m_trial)]) (wr := []) hx hb hml hown hu hK hP hD hS hA hl.1 (c_X9_notes l D cs H.size md m_all f_m_all m_deeds f_m_deeds m_trial f_m_trial m_hasImage m_tape m_key m_answered m_goes m_hotOnes m_indexed m_isChanged m_valueNow m_didSome m_sizes m_ends 0 0 z_all) (gV u_1331 u_1333 u_45 u_76 u_1334) hd_X9_notes ⟨(Nat.le_of_ble_eq_true rfl), (Nat.le_of_ble_eq_true rfl)⟩ [2, 3, 0, 1] [] rfl rfl rfl rfl (by decide) rfl 0 rfl rfl rfl (Nat.le_of_ble_eq_true rfl) dX9_open_80 ⟨(Nat.le_of_ble_eq_true rfl), (Nat.le_of_ble_eq_true rfl)⟩ (fun ut_35 H locs hw_36 hP hD hS => ?_)
              have hP : va_P D vwCl [(m_all, aI cs 51207 f_m_all), (md, .inr (9, [.int 0, .ref m_all, .ref m_deeds, .ref m_trial, .int 1, .ref m_hasImage, .ref m_tape, .ref m_key, .ref m_answered, .int 0, .int 0, .int 0, .ref m_goes, .int 0, .ref m_hotOnes, .ref m_indexed, .ref m_isChanged, .int 0, .ref m_valueNow, .int 0, .int (-1), .int 0, .ref m_didSome, .ref m_sizes, .ref m_ends]))] H := hP
              have hD : va_D A [(m_all, aI cs 51207 f_m_all), (md, .inr (9, [.int 0, .ref m_all, .ref m_deeds, .ref m_trial, .int 1, .ref m_hasImage, .ref m_tape, .ref m_key, .ref m_answered, .int 0, .int 0, .int 0, .ref m_goes, .int 0, .ref m_hotOnes, .ref m_indexed, .ref m_isChanged, .int 0, .ref m_valueNow, .int 0, .int (-1), .int 0, .ref m_didSome, .ref m_sizes, .ref m_ends]))] := hD
              refine lv_bipush (v := 59) hx hb dX9_open_83 (by decide) ?_
              refine lv_bipush (v := 11) hx hb dX9_open_85 (by decide) ?_
              refine lv_iload_n hx hb dX9_open_87 rfl (lv_at hl 2 rfl) ?_
              refine lv_imul hx hb dX9_open_88 ?_
              refine tpi (y := 0) (by decide) ?_
              refine lv_iadd hx hb dX9_open_89 ?_
              refine tpi (y := 59) (by decide) ?_
              refine lv_istore (lv' := [(5, .int 59), (4, .int 0), (0, .ref md), (1, .int 0), (2, .int 0), (3, .int z)]) hx hb dX9_open_90 hl (by decide) rfl (fun ls hl => ?_)
              refine lv_aload_n hx hb dX9_open_92 rfl (lv_at hl 2 rfl) ?_
              refine va_get (D := D) (ci := 9) (v := .ref m_all) (C := RX9) (T := TX9) (N := 25) hx hb hu in_X9 hown hK.1 hP 1 rfl rfl 1 (by decide) (hu _ u_1081) (fun _ h9 => h9) rfl dX9_open_93 ?_
              refine lv_iload hx hb dX9_open_96 (lv_at hl 0 rfl) ?_
              refine lv_iconst (v := 0) hx hb dX9_open_98 (by decide) ?_
              refine lv_iadd hx hb dX9_open_99 ?_
              refine tpi (y := 59) (by decide) ?_
              refine lv_iload hx hb dX9_open_100 (lv_at hl 1 rfl) ?_
              refine va_iast hx hb hK.1 hP hD hS 0 0 rfl rfl (vin_c _ _ rfl) dX9_open_102 (fun H locs hP hD hS => ?_)
              have hP : va_P D vwCl [(m_all, aI cs 51207 (upd f_m_all (59 : Int32).toNatClampNeg 0)), (md, .inr (9, [.int 0, .ref m_all, .ref m_deeds, .ref m_trial, .int 1, .ref m_hasImage, .ref m_tape, .ref m_key, .ref m_answered, .int 0, .int 0, .int 0, .ref m_goes, .int 0, .ref m_hotOnes, .ref m_indexed, .ref m_isChanged, .int 0, .ref m_valueNow, .int 0, .int (-1), .int 0, .ref m_didSome, .ref m_sizes, .ref m_ends]))] H := hP
              have hD : va_D A [(m_all, aI cs 51207 (upd f_m_all (59 : Int32).toNatClampNeg 0)), (md, .inr (9, [.int 0, .ref m_all, .ref m_deeds, .ref m_trial, .int 1, .ref m_hasImage, .ref m_tape, .ref m_key, .ref m_answered, .int 0, .int 0, .int 0, .ref m_goes, .int 0, .ref m_hotOnes, .ref m_indexed, .ref m_isChanged, .int 0, .ref m_valueNow, .int 0, .int (-1), .int 0, .ref m_didSome, .ref m_sizes, .ref m_ends]))] := hD
              have za_37 : ∀ j, j < 51207 → j ≠ 59 → (upd f_m_all (59 : Int32).toNatClampNeg 0) j = AL j := upd_ALx z_all
              obtain ⟨g_38, eg_39⟩ : ∃ g9 : Nat → Int32, upd f_m_all (59 : Int32).toNatClampNeg 0 = g9 := ⟨_, rfl⟩
              rw [eg_39] at hP hD za_37
              refine lv_aload_n hx hb dX9_open_103 rfl (lv_at hl 2 rfl) ?_
              refine va_get (D := D) (ci := 9) (v := .ref m_all) (C := RX9) (T := TX9) (N := 25) hx hb hu in_X9 hown hK.1 hP 1 rfl rfl 1 (by decide) (hu _ u_1081) (fun _ h9 => h9) rfl dX9_open_104 ?_
              refine lv_iload hx hb dX9_open_107 (lv_at hl 0 rfl) ?_
              refine lv_iconst (v := 1) hx hb dX9_open_109 (by decide) ?_
              refine lv_iadd hx hb dX9_open_110 ?_
              refine tpi (y := 60) (by decide) ?_
              refine lv_iload_n hx hb dX9_open_111 rfl (lv_at hl 4 rfl) ?_
              refine va_iast hx hb hK.1 hP hD hS 0 0 rfl rfl (vin_c _ _ rfl) dX9_open_112 (fun H locs hP hD hS => ?_)
              have hP : va_P D vwCl [(m_all, aI cs 51207 (upd g_38 (60 : Int32).toNatClampNeg 0)), (md, .inr (9, [.int 0, .ref m_all, .ref m_deeds, .ref m_trial, .int 1, .ref m_hasImage, .ref m_tape, .ref m_key, .ref m_answered, .int 0, .int 0, .int 0, .ref m_goes, .int 0, .ref m_hotOnes, .ref m_indexed, .ref m_isChanged, .int 0, .ref m_valueNow, .int 0, .int (-1), .int 0, .ref m_didSome, .ref m_sizes, .ref m_ends]))] H := hP
              have hD : va_D A [(m_all, aI cs 51207 (upd g_38 (60 : Int32).toNatClampNeg 0)), (md, .inr (9, [.int 0, .ref m_all, .ref m_deeds, .ref m_trial, .int 1, .ref m_hasImage, .ref m_tape, .ref m_key, .ref m_answered, .int 0, .int 0, .int 0, .ref m_goes, .int 0, .ref m_hotOnes, .ref m_indexed, .ref m_isChanged, .int 0, .ref m_valueNow, .int 0, .int (-1), .int 0, .ref m_didSome, .ref m_sizes, .ref m_ends]))] := hD
              have za_40 : ∀ j, j < 51207 → j ≠ 59 → (upd g_38 (60 : Int32).toNatClampNeg 0) j = AL j := upd_ALy za_37 (by decide +kernel)
              obtain ⟨g_41, eg_42⟩ : ∃ g9 : Nat → Int32, upd g_38 (60 : Int32).toNatClampNeg 0 = g9 := ⟨_, rfl⟩
              rw [eg_42] at hP hD za_40
              refine lv_iconst (v := 0) hx hb dX9_open_113 (by decide) ?_
              refine lv_istore (lv' := [(6, .int 0), (5, .int 59), (4, .int 0), (0, .ref md), (1, .int 0), (2, .int 0), (3, .int z)]) hx hb dX9_open_114 hl (by decide) rfl (fun ls hl => ?_)
              refine lv_iload hx hb dX9_open_116 (lv_at hl 0 rfl) ?_
              refine lv_bipush (v := 8) hx hb dX9_open_118 (by decide) ?_
              refine lv_icmp_ge (tgt := 158) hx hb dX9_open_120 (by decide) (fun c_43 => absurd c_43 (by decide)) (fun c_43 => ?_)
              refine lv_aload_n hx hb dX9_open_123 rfl (lv_at hl 3 rfl) ?_
              refine va_get (D := D) (ci := 9) (v := .ref m_all) (C := RX9) (T := TX9) (N := 25) hx hb hu in_X9 hown hK.1 hP 1 rfl rfl 1 (by decide) (hu _ u_1081) (fun _ h9 => h9) rfl dX9_open_124 ?_
              refine lv_iload hx hb dX9_open_127 (lv_at hl 1 rfl) ?_
              refine lv_iconst (v := 2) hx hb dX9_open_129 (by decide) ?_
              refine lv_iadd hx hb dX9_open_130 ?_
              refine tpi (y := 61) (by decide) ?_
              refine lv_iload hx hb dX9_open_131 (lv_at hl 0 rfl) ?_
              refine lv_iadd hx hb dX9_open_133 ?_
              refine tpi (y := 61) (by decide) ?_
              refine lv_iload hx hb dX9_open_134 (lv_at hl 0 rfl) ?_
              refine lv_iload_n hx hb dX9_open_136 rfl (lv_at hl 5 rfl) ?_
              refine lv_icmp_ge (tgt := 150) hx hb dX9_open_137 (by decide) (fun c_44 => ?_) (fun c_44 => absurd (by decide) c_44)
              refine lv_iconst (v := 0) hx hb dX9_open_150 (by decide) ?_
              refine va_iast hx hb hK.1 hP hD hS 0 0 rfl rfl (vin_c _ _ rfl) dX9_open_151 (fun H locs hP hD hS => ?_)
              have hP : va_P D vwCl [(m_all, aI cs 51207 (upd g_41 (61 : Int32).toNatClampNeg 0)), (md, .inr (9, [.int 0, .ref m_all, .ref m_deeds, .ref m_trial, .int 1, .ref m_hasImage, .ref m_tape, .ref m_key, .ref m_answered, .int 0, .int 0, .int 0, .ref m_goes, .int 0, .ref m_hotOnes, .ref m_indexed, .ref m_isChanged, .int 0, .ref m_valueNow, .int 0, .int (-1), .int 0, .ref m_didSome, .ref m_sizes, .ref m_ends]))] H := hP
              have hD : va_D A [(m_all, aI cs 51207 (upd g_41 (61 : Int32).toNatClampNeg 0)), (md, .inr (9, [.int 0, .ref m_all, .ref m_deeds, .ref m_trial, .int 1, .ref m_hasImage, .ref m_tape, .ref m_key, .ref m_answered, .int 0, .int 0, .int 0, .ref m_goes, .int 0, .ref m_hotOnes, .ref m_indexed, .ref m_isChanged, .int 0, .ref m_valueNow, .int 0, .int (-1), .int 0, .ref m_didSome, .ref m_sizes, .ref m_ends]))] := hD
              have za_45 : ∀ j, j < 51207 → j ≠ 59 → (upd g_41 (61 : Int32).toNatClampNeg 0) j = AL j := upd_ALy za_40 (by decide +kernel)
              obtain ⟨g_46, eg_47⟩ : ∃ g9 : Nat → Int32, upd g_41 (61 : Int32).toNatClampNeg 0 = g9 := ⟨_, rfl⟩
              rw [eg_47] at hP hD za_45
              refine lv_iinc (v := 1) (lv' := [(6, .int 1), (5, .int 59), (4, .int 0), (0, .ref md), (1, .int 0), (2, .int 0), (3, .int z)]) hx hb dX9_open_152 hl (k := 0) rfl (by decide) (by decide) rfl (fun ls hl => ?_)
              refine lv_goto (tgt := 116) hx hb dX9_open_155 (by decide) ?_
              refine lv_iload hx hb dX9_open_116 (lv_at hl 0 rfl) ?_
              refine lv_bipush (v := 8) hx hb dX9_open_118 (by decide) ?_
              refine lv_icmp_ge (tgt := 158) hx hb dX9_open_120 (by decide) (fun c_48 => absurd c_48 (by decide)) (fun c_48 => ?_)
              refine lv_aload_n hx hb dX9_open_123 rfl (lv_at hl 3 rfl) ?_
              refine va_get (D := D) (ci := 9) (v := .ref m_all) (C := RX9) (T := TX9) (N := 25) hx hb hu in_X9 hown hK.1 hP 1 rfl rfl 1 (by decide) (hu _ u_1081) (fun _ h9 => h9) rfl dX9_open_124 ?_
              refine lv_iload hx hb dX9_open_127 (lv_at hl 1 rfl) ?_
              refine lv_iconst (v := 2) hx hb dX9_open_129 (by decide) ?_
              refine lv_iadd hx hb dX9_open_130 ?_
              refine tpi (y := 61) (by decide) ?_
              refine lv_iload hx hb dX9_open_131 (lv_at hl 0 rfl) ?_
              refine lv_iadd hx hb dX9_open_133 ?_
              refine tpi (y := 62) (by decide) ?_
              refine lv_iload hx hb dX9_open_134 (lv_at hl 0 rfl) ?_
              refine lv_iload_n hx hb dX9_open_136 rfl (lv_at hl 5 rfl) ?_
              refine lv_icmp_ge (tgt := 150) hx hb dX9_open_137 (by decide) (fun c_49 => ?_) (fun c_49 => absurd (by decide) c_49)
              refine lv_iconst (v := 0) hx hb dX9_open_150 (by decide) ?_
              refine va_iast hx hb hK.1 hP hD hS 0 0 rfl rfl (vin_c _ _ rfl) dX9_open_151 (fun H locs hP hD hS => ?_)
              have hP : va_P D vwCl [(m_all, aI cs 51207 (upd g_46 (62 : Int32).toNatClampNeg 0)), (md, .inr (9, [.int 0, .ref m_all, .ref m_deeds, .ref m_trial, .int 1, .ref m_hasImage, .ref m_tape, .ref m_key, .ref m_answered, .int 0, .int 0, .int 0, .ref m_goes, .int 0, .ref m_hotOnes, .ref m_indexed, .ref m_isChanged, .int 0, .ref m_valueNow, .int 0, .int (-1), .int 0, .ref m_didSome, .ref m_sizes, .ref m_ends]))] H := hP
              have hD : va_D A [(m_all, aI cs 51207 (upd g_46 (62 : Int32).toNatClampNeg 0)), (md, .inr (9, [.int 0, .ref m_all, .ref m_deeds, .ref m_trial, .int 1, .ref m_hasImage, .ref m_tape, .ref m_key, .ref m_answered, .int 0, .int 0, .int 0, .ref m_goes, .int 0, .ref m_hotOnes, .ref m_indexed, .ref m_isChanged, .int 0, .ref m_valueNow, .int 0, .int (-1), .int 0, .ref m_didSome, .ref m_sizes, .ref m_ends]))] := hD
              have za_50 : ∀ j, j < 51207 → j ≠ 59 → (upd g_46 (62 : Int32).toNatClampNeg 0) j = AL j := upd_ALy za_45 (by decide +kernel)
              obtain ⟨g_51, eg_52⟩ : ∃ g9 : Nat → Int32, upd g_46 (62 : Int32).toNatClampNeg 0 = g9 := ⟨_, rfl⟩
              rw [eg_52] at hP hD za_50
              refine lv_iinc (v := 2) (lv' := [(6, .int 2), (5, .int 59), (4, .int 0), (0, .ref md), (1, .int 0), (2, .int 0), (3, .int z)]) hx hb dX9_open_152 hl (k := 0) rfl (by decide) (by decide) rfl (fun ls hl => ?_)
              refine lv_goto (tgt := 116) hx hb dX9_open_155 (by decide) ?_
              refine lv_iload hx hb dX9_open_116 (lv_at hl 0 rfl) ?_
              refine lv_bipush (v := 8) hx hb dX9_open_118 (by decide) ?_
              refine lv_icmp_ge (tgt := 158) hx hb dX9_open_120 (by decide) (fun c_53 => absurd c_53 (by decide)) (fun c_53 => ?_)
              refine lv_aload_n hx hb dX9_open_123 rfl (lv_at hl 3 rfl) ?_
              refine va_get (D := D) (ci := 9) (v := .ref m_all) (C := RX9) (T := TX9) (N := 25) hx hb hu in_X9 hown hK.1 hP 1 rfl rfl 1 (by decide) (hu _ u_1081) (fun _ h9 => h9) rfl dX9_open_124 ?_
              refine lv_iload hx hb dX9_open_127 (lv_at hl 1 rfl) ?_
              refine lv_iconst (v := 2) hx hb dX9_open_129 (by decide) ?_
              refine lv_iadd hx hb dX9_open_130 ?_
              refine tpi (y := 61) (by decide) ?_
              refine lv_iload hx hb dX9_open_131 (lv_at hl 0 rfl) ?_
              refine lv_iadd hx hb dX9_open_133 ?_
              refine tpi (y := 63) (by decide) ?_
              refine lv_iload hx hb dX9_open_134 (lv_at hl 0 rfl) ?_
              refine lv_iload_n hx hb dX9_open_136 rfl (lv_at hl 5 rfl) ?_
              refine lv_icmp_ge (tgt := 150) hx hb dX9_open_137 (by decide) (fun c_54 => ?_) (fun c_54 => absurd (by decide) c_54)
              refine lv_iconst (v := 0) hx hb dX9_open_150 (by decide) ?_
              refine va_iast hx hb hK.1 hP hD hS 0 0 rfl rfl (vin_c _ _ rfl) dX9_open_151 (fun H locs hP hD hS => ?_)
              have hP : va_P D vwCl [(m_all, aI cs 51207 (upd g_51 (63 : Int32).toNatClampNeg 0)), (md, .inr (9, [.int 0, .ref m_all, .ref m_deeds, .ref m_trial, .int 1, .ref m_hasImage, .ref m_tape, .ref m_key, .ref m_answered, .int 0, .int 0, .int 0, .ref m_goes, .int 0, .ref m_hotOnes, .ref m_indexed, .ref m_isChanged, .int 0, .ref m_valueNow, .int 0, .int (-1), .int 0, .ref m_didSome, .ref m_sizes, .ref m_ends]))] H := hP
              have hD : va_D A [(m_all, aI cs 51207 (upd g_51 (63 : Int32).toNatClampNeg 0)), (md, .inr (9, [.int 0, .ref m_all, .ref m_deeds, .ref m_trial, .int 1, .ref m_hasImage, .ref m_tape, .ref m_key, .ref m_answered, .int 0, .int 0, .int 0, .ref m_goes, .int 0, .ref m_hotOnes, .ref m_indexed, .ref m_isChanged, .int 0, .ref m_valueNow, .int 0, .int (-1), .int 0, .ref m_didSome, .ref m_sizes, .ref m_ends]))] := hD
              have za_55 : ∀ j, j < 51207 → j ≠ 59 → (upd g_51 (63 : Int32).toNatClampNeg 0) j = AL j := upd_ALy za_50 (by decide +kernel)
              obtain ⟨g_56, eg_57⟩ : ∃ g9 : Nat → Int32, upd g_51 (63 : Int32).toNatClampNeg 0 = g9 := ⟨_, rfl⟩
              rw [eg_57] at hP hD za_55
              refine lv_iinc (v := 3) (lv' := [(6, .int 3), (5, .int 59), (4, .int 0), (0, .ref md), (1, .int 0), (2, .int 0), (3, .int z)]) hx hb dX9_open_152 hl (k := 0) rfl (by decide) (by decide) rfl (fun ls hl => ?_)
              refine lv_goto (tgt := 116) hx hb dX9_open_155 (by decide) ?_
              refine lv_iload hx hb dX9_open_116 (lv_at hl 0 rfl) ?_
              refine lv_bipush (v := 8) hx hb dX9_open_118 (by decide) ?_
              refine lv_icmp_ge (tgt := 158) hx hb dX9_open_120 (by decide) (fun c_58 => absurd c_58 (by decide)) (fun c_58 => ?_)
              refine lv_aload_n hx hb dX9_open_123 rfl (lv_at hl 3 rfl) ?_
              refine va_get (D := D) (ci := 9) (v := .ref m_all) (C := RX9) (T := TX9) (N := 25) hx hb hu in_X9 hown hK.1 hP 1 rfl rfl 1 (by decide) (hu _ u_1081) (fun _ h9 => h9) rfl dX9_open_124 ?_
              refine lv_iload hx hb dX9_open_127 (lv_at hl 1 rfl) ?_
              refine lv_iconst (v := 2) hx hb dX9_open_129 (by decide) ?_
              refine lv_iadd hx hb dX9_open_130 ?_
              refine tpi (y := 61) (by decide) ?_
              refine lv_iload hx hb dX9_open_131 (lv_at hl 0 rfl) ?_
              refine lv_iadd hx hb dX9_open_133 ?_
              refine tpi (y := 64) (by decide) ?_
              refine lv_iload hx hb dX9_open_134 (lv_at hl 0 rfl) ?_
              refine lv_iload_n hx hb dX9_open_136 rfl (lv_at hl 5 rfl) ?_
              refine lv_icmp_ge (tgt := 150) hx hb dX9_open_137 (by decide) (fun c_59 => ?_) (fun c_59 => absurd (by decide) c_59)
              refine lv_iconst (v := 0) hx hb dX9_open_150 (by decide) ?_
              refine va_iast hx hb hK.1 hP hD hS 0 0 rfl rfl (vin_c _ _ rfl) dX9_open_151 (fun H locs hP hD hS => ?_)
              have hP : va_P D vwCl [(m_all, aI cs 51207 (upd g_56 (64 : Int32).toNatClampNeg 0)), (md, .inr (9, [.int 0, .ref m_all, .ref m_deeds, .ref m_trial, .int 1, .ref m_hasImage, .ref m_tape, .ref m_key, .ref m_answered, .int 0, .int 0, .int 0, .ref m_goes, .int 0, .ref m_hotOnes, .ref m_indexed, .ref m_isChanged, .int 0, .ref m_valueNow, .int 0, .int (-1), .int 0, .ref m_didSome, .ref m_sizes, .ref m_ends]))] H := hP
              have hD : va_D A [(m_all, aI cs 51207 (upd g_56 (64 : Int32).toNatClampNeg 0)), (md, .inr (9, [.int 0, .ref m_all, .ref m_deeds, .ref m_trial, .int 1, .ref m_hasImage, .ref m_tape, .ref m_key, .ref m_answered, .int 0, .int 0, .int 0, .ref m_goes, .int 0, .ref m_hotOnes, .ref m_indexed, .ref m_isChanged, .int 0, .ref m_valueNow, .int 0, .int (-1), .int 0, .ref m_didSome, .ref m_sizes, .ref m_ends]))] := hD
              have za_60 : ∀ j, j < 51207 → j ≠ 59 → (upd g_56 (64 : Int32).toNatClampNeg 0) j = AL j := upd_ALy za_55 (by decide +kernel)
              obtain ⟨g_61, eg_62⟩ : ∃ g9 : Nat → Int32, upd g_56 (64 : Int32).toNatClampNeg 0 = g9 := ⟨_, rfl⟩
              rw [eg_62] at hP hD za_60
              refine lv_iinc (v := 4) (lv' := [(6, .int 4), (5, .int 59), (4, .int 0), (0, .ref md), (1, .int 0), (2, .int 0), (3, .int z)]) hx hb dX9_open_152 hl (k := 0) rfl (by decide) (by decide) rfl (fun ls hl => ?_)
              refine lv_goto (tgt := 116) hx hb dX9_open_155 (by decide) ?_
              refine lv_iload hx hb dX9_open_116 (lv_at hl 0 rfl) ?_
              refine lv_bipush (v := 8) hx hb dX9_open_118 (by decide) ?_
              refine lv_icmp_ge (tgt := 158) hx hb dX9_open_120 (by decide) (fun c_63 => absurd c_63 (by decide)) (fun c_63 => ?_)
              refine lv_aload_n hx hb dX9_open_123 rfl (lv_at hl 3 rfl) ?_
              refine va_get (D := D) (ci := 9) (v := .ref m_all) (C := RX9) (T := TX9) (N := 25) hx hb hu in_X9 hown hK.1 hP 1 rfl rfl 1 (by decide) (hu _ u_1081) (fun _ h9 => h9) rfl dX9_open_124 ?_
              refine lv_iload hx hb dX9_open_127 (lv_at hl 1 rfl) ?_
              refine lv_iconst (v := 2) hx hb dX9_open_129 (by decide) ?_
              refine lv_iadd hx hb dX9_open_130 ?_
              refine tpi (y := 61) (by decide) ?_
              refine lv_iload hx hb dX9_open_131 (lv_at hl 0 rfl) ?_
              refine lv_iadd hx hb dX9_open_133 ?_
              refine tpi (y := 65) (by decide) ?_
              refine lv_iload hx hb dX9_open_134 (lv_at hl 0 rfl) ?_
              refine lv_iload_n hx hb dX9_open_136 rfl (lv_at hl 5 rfl) ?_
              refine lv_icmp_ge (tgt := 150) hx hb dX9_open_137 (by decide) (fun c_64 => ?_) (fun c_64 => absurd (by decide) c_64)
              refine lv_iconst (v := 0) hx hb dX9_open_150 (by decide) ?_
              refine va_iast hx hb hK.1 hP hD hS 0 0 rfl rfl (vin_c _ _ rfl) dX9_open_151 (fun H locs hP hD hS => ?_)
              have hP : va_P D vwCl [(m_all, aI cs 51207 (upd g_61 (65 : Int32).toNatClampNeg 0)), (md, .inr (9, [.int 0, .ref m_all, .ref m_deeds, .ref m_trial, .int 1, .ref m_hasImage, .ref m_tape, .ref m_key, .ref m_answered, .int 0, .int 0, .int 0, .ref m_goes, .int 0, .ref m_hotOnes, .ref m_indexed, .ref m_isChanged, .int 0, .ref m_valueNow, .int 0, .int (-1), .int 0, .ref m_didSome, .ref m_sizes, .ref m_ends]))] H := hP
              have hD : va_D A [(m_all, aI cs 51207 (upd g_61 (65 : Int32).toNatClampNeg 0)), (md, .inr (9, [.int 0, .ref m_all, .ref m_deeds, .ref m_trial, .int 1, .ref m_hasImage, .ref m_tape, .ref m_key, .ref m_answered, .int 0, .int 0, .int 0, .ref m_goes, .int 0, .ref m_hotOnes, .ref m_indexed, .ref m_isChanged, .int 0, .ref m_valueNow, .int 0, .int (-1), .int 0, .ref m_didSome, .ref m_sizes, .ref m_ends]))] := hD
              have za_65 : ∀ j, j < 51207 → j ≠ 59 → (upd g_61 (65 : Int32).toNatClampNeg 0) j = AL j := upd_ALy za_60 (by decide +kernel)
              obtain ⟨g_66, eg_67⟩ : ∃ g9 : Nat → Int32, upd g_61 (65 : Int32).toNatClampNeg 0 = g9 := ⟨_, rfl⟩
              rw [eg_67] at hP hD za_65
              refine lv_iinc (v := 5) (lv' := [(6, .int 5), (5, .int 59), (4, .int 0), (0, .ref md), (1, .int 0), (2, .int 0), (3, .int z)]) hx hb dX9_open_152 hl (k := 0) rfl (by decide) (by decide) rfl (fun ls hl => ?_)
              refine lv_goto (tgt := 116) hx hb dX9_open_155 (by decide) ?_
              refine lv_iload hx hb dX9_open_116 (lv_at hl 0 rfl) ?_
              refine lv_bipush (v := 8) hx hb dX9_open_118 (by decide) ?_
              refine lv_icmp_ge (tgt := 158) hx hb dX9_open_120 (by decide) (fun c_68 => absurd c_68 (by decide)) (fun c_68 => ?_)
              refine lv_aload_n hx hb dX9_open_123 rfl (lv_at hl 3 rfl) ?_
              refine va_get (D := D) (ci := 9) (v := .ref m_all) (C := RX9) (T := TX9) (N := 25) hx hb hu in_X9 hown hK.1 hP 1 rfl rfl 1 (by decide) (hu _ u_1081) (fun _ h9 => h9) rfl dX9_open_124 ?_
              refine lv_iload hx hb dX9_open_127 (lv_at hl 1 rfl) ?_
              refine lv_iconst (v := 2) hx hb dX9_open_129 (by decide) ?_
              refine lv_iadd hx hb dX9_open_130 ?_
              refine tpi (y := 61) (by decide) ?_
              refine lv_iload hx hb dX9_open_131 (lv_at hl 0 rfl) ?_
              refine lv_iadd hx hb dX9_open_133 ?_
              refine tpi (y := 66) (by decide) ?_
              refine lv_iload hx hb dX9_open_134 (lv_at hl 0 rfl) ?_
              refine lv_iload_n hx hb dX9_open_136 rfl (lv_at hl 5 rfl) ?_
              refine lv_icmp_ge (tgt := 150) hx hb dX9_open_137 (by decide) (fun c_69 => ?_) (fun c_69 => absurd (by decide) c_69)
              refine lv_iconst (v := 0) hx hb dX9_open_150 (by decide) ?_
              refine va_iast hx hb hK.1 hP hD hS 0 0 rfl rfl (vin_c _ _ rfl) dX9_open_151 (fun H locs hP hD hS => ?_)
              have hP : va_P D vwCl [(m_all, aI cs 51207 (upd g_66 (66 : Int32).toNatClampNeg 0)), (md, .inr (9, [.int 0, .ref m_all, .ref m_deeds, .ref m_trial, .int 1, .ref m_hasImage, .ref m_tape, .ref m_key, .ref m_answered, .int 0, .int 0, .int 0, .ref m_goes, .int 0, .ref m_hotOnes, .ref m_indexed, .ref m_isChanged, .int 0, .ref m_valueNow, .int 0, .int (-1), .int 0, .ref m_didSome, .ref m_sizes, .ref m_ends]))] H := hP
              have hD : va_D A [(m_all, aI cs 51207 (upd g_66 (66 : Int32).toNatClampNeg 0)), (md, .inr (9, [.int 0, .ref m_all, .ref m_deeds, .ref m_trial, .int 1, .ref m_hasImage, .ref m_tape, .ref m_key, .ref m_answered, .int 0, .int 0, .int 0, .ref m_goes, .int 0, .ref m_hotOnes, .ref m_indexed, .ref m_isChanged, .int 0, .ref m_valueNow, .int 0, .int (-1), .int 0, .ref m_didSome, .ref m_sizes, .ref m_ends]))] := hD
              have za_70 : ∀ j, j < 51207 → j ≠ 59 → (upd g_66 (66 : Int32).toNatClampNeg 0) j = AL j := upd_ALy za_65 (by decide +kernel)
              obtain ⟨g_71, eg_72⟩ : ∃ g9 : Nat → Int32, upd g_66 (66 : Int32).toNatClampNeg 0 = g9 := ⟨_, rfl⟩
              rw [eg_72] at hP hD za_70
              refine lv_iinc (v := 6) (lv' := [(6, .int 6), (5, .int 59), (4, .int 0), (0, .ref md), (1, .int 0), (2, .int 0), (3, .int z)]) hx hb dX9_open_152 hl (k := 0) rfl (by decide) (by decide) rfl (fun ls hl => ?_)
              refine lv_goto (tgt := 116) hx hb dX9_open_155 (by decide) ?_
              refine lv_iload hx hb dX9_open_116 (lv_at hl 0 rfl) ?_
              refine lv_bipush (v := 8) hx hb dX9_open_118 (by decide) ?_
              refine lv_icmp_ge (tgt := 158) hx hb dX9_open_120 (by decide) (fun c_73 => absurd c_73 (by decide)) (fun c_73 => ?_)
              refine lv_aload_n hx hb dX9_open_123 rfl (lv_at hl 3 rfl) ?_
              refine va_get (D := D) (ci := 9) (v := .ref m_all) (C := RX9) (T := TX9) (N := 25) hx hb hu in_X9 hown hK.1 hP 1 rfl rfl 1 (by decide) (hu _ u_1081) (fun _ h9 => h9) rfl dX9_open_124 ?_
              refine lv_iload hx hb dX9_open_127 (lv_at hl 1 rfl) ?_
              refine lv_iconst (v := 2) hx hb dX9_open_129 (by decide) ?_
              refine lv_iadd hx hb dX9_open_130 ?_
              refine tpi (y := 61) (by decide) ?_
              refine lv_iload hx hb dX9_open_131 (lv_at hl 0 rfl) ?_
              refine lv_iadd hx hb dX9_open_133 ?_
              refine tpi (y := 67) (by decide) ?_
              refine lv_iload hx hb dX9_open_134 (lv_at hl 0 rfl) ?_
              refine lv_iload_n hx hb dX9_open_136 rfl (lv_at hl 5 rfl) ?_
              refine lv_icmp_ge (tgt := 150) hx hb dX9_open_137 (by decide) (fun c_74 => ?_) (fun c_74 => absurd (by decide) c_74)
              refine lv_iconst (v := 0) hx hb dX9_open_150 (by decide) ?_
              refine va_iast hx hb hK.1 hP hD hS 0 0 rfl rfl (vin_c _ _ rfl) dX9_open_151 (fun H locs hP hD hS => ?_)
              have hP : va_P D vwCl [(m_all, aI cs 51207 (upd g_71 (67 : Int32).toNatClampNeg 0)), (md, .inr (9, [.int 0, .ref m_all, .ref m_deeds, .ref m_trial, .int 1, .ref m_hasImage, .ref m_tape, .ref m_key, .ref m_answered, .int 0, .int 0, .int 0, .ref m_goes, .int 0, .ref m_hotOnes, .ref m_indexed, .ref m_isChanged, .int 0, .ref m_valueNow, .int 0, .int (-1), .int 0, .ref m_didSome, .ref m_sizes, .ref m_ends]))] H := hP
              have hD : va_D A [(m_all, aI cs 51207 (upd g_71 (67 : Int32).toNatClampNeg 0)), (md, .inr (9, [.int 0, .ref m_all, .ref m_deeds, .ref m_trial, .int 1, .ref m_hasImage, .ref m_tape, .ref m_key, .ref m_answered, .int 0, .int 0, .int 0, .ref m_goes, .int 0, .ref m_hotOnes, .ref m_indexed, .ref m_isChanged, .int 0, .ref m_valueNow, .int 0, .int (-1), .int 0, .ref m_didSome, .ref m_sizes, .ref m_ends]))] := hD
              have za_75 : ∀ j, j < 51207 → j ≠ 59 → (upd g_71 (67 : Int32).toNatClampNeg 0) j = AL j := upd_ALy za_70 (by decide +kernel)
              obtain ⟨g_76, eg_77⟩ : ∃ g9 : Nat → Int32, upd g_71 (67 : Int32).toNatClampNeg 0 = g9 := ⟨_, rfl⟩
              rw [eg_77] at hP hD za_75
              refine lv_iinc (v := 7) (lv' := [(6, .int 7), (5, .int 59), (4, .int 0), (0, .ref md), (1, .int 0), (2, .int 0), (3, .int z)]) hx hb dX9_open_152 hl (k := 0) rfl (by decide) (by decide) rfl (fun ls hl => ?_)
              refine lv_goto (tgt := 116) hx hb dX9_open_155 (by decide) ?_
              refine lv_iload hx hb dX9_open_116 (lv_at hl 0 rfl) ?_
              refine lv_bipush (v := 8) hx hb dX9_open_118 (by decide) ?_
              refine lv_icmp_ge (tgt := 158) hx hb dX9_open_120 (by decide) (fun c_78 => absurd c_78 (by decide)) (fun c_78 => ?_)
              refine lv_aload_n hx hb dX9_open_123 rfl (lv_at hl 3 rfl) ?_
              refine va_get (D := D) (ci := 9) (v := .ref m_all) (C := RX9) (T := TX9) (N := 25) hx hb hu in_X9 hown hK.1 hP 1 rfl rfl 1 (by decide) (hu _ u_1081) (fun _ h9 => h9) rfl dX9_open_124 ?_
              refine lv_iload hx hb dX9_open_127 (lv_at hl 1 rfl) ?_
              refine lv_iconst (v := 2) hx hb dX9_open_129 (by decide) ?_
              refine lv_iadd hx hb dX9_open_130 ?_
              refine tpi (y := 61) (by decide) ?_
              refine lv_iload hx hb dX9_open_131 (lv_at hl 0 rfl) ?_
              refine lv_iadd hx hb dX9_open_133 ?_
              refine tpi (y := 68) (by decide) ?_
              refine lv_iload hx hb dX9_open_134 (lv_at hl 0 rfl) ?_
              refine lv_iload_n hx hb dX9_open_136 rfl (lv_at hl 5 rfl) ?_
              refine lv_icmp_ge (tgt := 150) hx hb dX9_open_137 (by decide) (fun c_79 => ?_) (fun c_79 => absurd (by decide) c_79)
              refine lv_iconst (v := 0) hx hb dX9_open_150 (by decide) ?_
              refine va_iast hx hb hK.1 hP hD hS 0 0 rfl rfl (vin_c _ _ rfl) dX9_open_151 (fun H locs hP hD hS => ?_)
              have hP : va_P D vwCl [(m_all, aI cs 51207 (upd g_76 (68 : Int32).toNatClampNeg 0)), (md, .inr (9, [.int 0, .ref m_all, .ref m_deeds, .ref m_trial, .int 1, .ref m_hasImage, .ref m_tape, .ref m_key, .ref m_answered, .int 0, .int 0, .int 0, .ref m_goes, .int 0, .ref m_hotOnes, .ref m_indexed, .ref m_isChanged, .int 0, .ref m_valueNow, .int 0, .int (-1), .int 0, .ref m_didSome, .ref m_sizes, .ref m_ends]))] H := hP
              have hD : va_D A [(m_all, aI cs 51207 (upd g_76 (68 : Int32).toNatClampNeg 0)), (md, .inr (9, [.int 0, .ref m_all, .ref m_deeds, .ref m_trial, .int 1, .ref m_hasImage, .ref m_tape, .ref m_key, .ref m_answered, .int 0, .int 0, .int 0, .ref m_goes, .int 0, .ref m_hotOnes, .ref m_indexed, .ref m_isChanged, .int 0, .ref m_valueNow, .int 0, .int (-1), .int 0, .ref m_didSome, .ref m_sizes, .ref m_ends]))] := hD
              have za_80 : ∀ j, j < 51207 → j ≠ 59 → (upd g_76 (68 : Int32).toNatClampNeg 0) j = AL j := upd_ALy za_75 (by decide +kernel)
              obtain ⟨g_81, eg_82⟩ : ∃ g9 : Nat → Int32, upd g_76 (68 : Int32).toNatClampNeg 0 = g9 := ⟨_, rfl⟩
              rw [eg_82] at hP hD za_80
              refine lv_iinc (v := 8) (lv' := [(6, .int 8), (5, .int 59), (4, .int 0), (0, .ref md), (1, .int 0), (2, .int 0), (3, .int z)]) hx hb dX9_open_152 hl (k := 0) rfl (by decide) (by decide) rfl (fun ls hl => ?_)
              refine lv_goto (tgt := 116) hx hb dX9_open_155 (by decide) ?_
              refine lv_iload hx hb dX9_open_116 (lv_at hl 0 rfl) ?_
              refine lv_bipush (v := 8) hx hb dX9_open_118 (by decide) ?_
              refine lv_icmp_ge (tgt := 158) hx hb dX9_open_120 (by decide) (fun c_83 => ?_) (fun c_83 => absurd (by decide) c_83)
              refine lv_aload_n hx hb dX9_open_158 rfl (lv_at hl 3 rfl) ?_
              refine va_get (D := D) (ci := 9) (v := .ref m_all) (C := RX9) (T := TX9) (N := 25) hx hb hu in_X9 hown hK.1 hP 1 rfl rfl 1 (by decide) (hu _ u_1081) (fun _ h9 => h9) rfl dX9_open_159 ?_
              refine lv_iload hx hb dX9_open_162 (lv_at hl 1 rfl) ?_
              refine lv_bipush (v := 10) hx hb dX9_open_164 (by decide) ?_
              refine lv_iadd hx hb dX9_open_166 ?_
              refine tpi (y := 69) (by decide) ?_
              refine lv_iconst (v := 0) hx hb dX9_open_167 (by decide) ?_
              refine va_iast hx hb hK.1 hP hD hS 0 0 rfl rfl (vin_c _ _ rfl) dX9_open_168 (fun H locs hP hD hS => ?_)
              have hP : va_P D vwCl [(m_all, aI cs 51207 (upd g_81 (69 : Int32).toNatClampNeg 0)), (md, .inr (9, [.int 0, .ref m_all, .ref m_deeds, .ref m_trial, .int 1, .ref m_hasImage, .ref m_tape, .ref m_key, .ref m_answered, .int 0, .int 0, .int 0, .ref m_goes, .int 0, .ref m_hotOnes, .ref m_indexed, .ref m_isChanged, .int 0, .ref m_valueNow, .int 0, .int (-1), .int 0, .ref m_didSome, .ref m_sizes, .ref m_ends]))] H := hP
              have hD : va_D A [(m_all, aI cs 51207 (upd g_81 (69 : Int32).toNatClampNeg 0)), (md, .inr (9, [.int 0, .ref m_all, .ref m_deeds, .ref m_trial, .int 1, .ref m_hasImage, .ref m_tape, .ref m_key, .ref m_answered, .int 0, .int 0, .int 0, .ref m_goes, .int 0, .ref m_hotOnes, .ref m_indexed, .ref m_isChanged, .int 0, .ref m_valueNow, .int 0, .int (-1), .int 0, .ref m_didSome, .ref m_sizes, .ref m_ends]))] := hD
              have za_84 : ∀ j, j < 51207 → j ≠ 59 → (upd g_81 (69 : Int32).toNatClampNeg 0) j = AL j := upd_ALy za_80 (by decide +kernel)
              obtain ⟨g_85, eg_86⟩ : ∃ g9 : Nat → Int32, upd g_81 (69 : Int32).toNatClampNeg 0 = g9 := ⟨_, rfl⟩
              rw [eg_86] at hP hD za_84
              refine lv_aload_n hx hb dX9_open_169 rfl (lv_at hl 3 rfl) ?_
              refine lv_iconst (v := 0) hx hb dX9_open_170 (by decide) ?_
              refine va_put (D := D) (ci := 9) (v := .int 0) (ty := tyX9 9) (C := RX9) (T := TX9) (N := 25) hx hb hu in_X9 tyX9 tyX9_ok nmX9 hown hK.1 hP hD hS 1 rfl rfl 9 (by decide) (hu _ u_1089) (fun _ h9 => h9) rfl (tyX9_ok 9 (by decide)) rfl rfl (Nat.le_of_ble_eq_true rfl) dX9_open_171 (fun H locs hP hD hS => ?_)
              have hP : va_P D vwCl [(m_all, aI cs 51207 g_85), (md, .inr (9, [.int 0, .ref m_all, .ref m_deeds, .ref m_trial, .int 1, .ref m_hasImage, .ref m_tape, .ref m_key, .ref m_answered, .int 0, .int 0, .int 0, .ref m_goes, .int 0, .ref m_hotOnes, .ref m_indexed, .ref m_isChanged, .int 0, .ref m_valueNow, .int 0, .int (-1), .int 0, .ref m_didSome, .ref m_sizes, .ref m_ends]))] H := hP
              have hD : va_D A [(m_all, aI cs 51207 g_85), (md, .inr (9, [.int 0, .ref m_all, .ref m_deeds, .ref m_trial, .int 1, .ref m_hasImage, .ref m_tape, .ref m_key, .ref m_answered, .int 0, .int 0, .int 0, .ref m_goes, .int 0, .ref m_hotOnes, .ref m_indexed, .ref m_isChanged, .int 0, .ref m_valueNow, .int 0, .int (-1), .int 0, .ref m_didSome, .ref m_sizes, .ref m_ends]))] := hD
              refine lv_aload_n hx hb dX9_open_174 rfl (lv_at hl 3 rfl) ?_
              refine lv_iload_n hx hb dX9_open_175 rfl (lv_at hl 4 rfl) ?_
              refine kV_i (ci := 9) (As := [.int 0]) (rest := []) (wc := [(md, .inr (9, [.int 0, .ref m_all, .ref m_deeds, .ref m_trial, .int 1, .ref m_hasImage, .ref m_tape, .ref m_key, .ref m_answered, .int 0, .int 0, .int 0, .ref m_goes, .int 0, .ref m_hotOnes, .ref m_indexed, .ref m_isChanged, .int 0, .ref m_valueNow, .int 0, .int (-1), .int 0, .ref m_didSome, .ref m_sizes, .ref m_ends])), (m_all, aI cs 51207 g_85)]) (wr := []) hx hb hml hown hu hK hP hD hS hA hl.1 (c_X9_leftOf0 l D cs H.size md m_all m_deeds m_trial m_hasImage m_tape m_key m_answered m_goes m_hotOnes m_indexed m_isChanged m_valueNow m_didSome m_sizes m_ends 1 0 0 g_85 za_84) (gV u_1448 u_1450 u_57 u_76 u_1451) hd_X9_leftOf ⟨(Nat.le_of_ble_eq_true rfl), (Nat.le_of_ble_eq_true rfl)⟩ [1, 0] [] rfl rfl rfl rfl (by decide) rfl 0 rfl rfl rfl (Nat.le_of_ble_eq_true rfl) dX9_open_176 ⟨(Nat.le_of_ble_eq_true rfl), (Nat.le_of_ble_eq_true rfl)⟩ (fun r_87 ut_88 H locs hw_89 hP hD hS => ?_)
              have hP : va_P D vwCl [] H := hP
              have hD : va_D A [] := hD
              have er_90 := hw_89
              subst er_90
              exact hz () hP hD hS (by grind) [] rfl rfl (Nat.le_of_ble_eq_true rfl) (Nat.le_of_ble_eq_true rfl) .int rfl rfl dX9_open_179
            · subst c_33
              refine lv_aload_n hx hb dX9_open_79 rfl (lv_at hl 1 rfl) ?_
              refine kV_v (ci := 9) (As := []) (rest := []) (wc := [(md, .inr (9, [.int 0, .ref m_all, .ref m_deeds, .ref m_trial, .int 0, .ref m_hasImage, .ref m_tape, .ref m_key, .ref m_answered, .int 0, .int 0, .int 0, .ref m_goes, .int 0, .ref m_hotOnes, .ref m_indexed, .ref m_isChanged, .int 0, .ref m_valueNow, .int 0, .int (-1), .int 0, .ref m_didSome, .ref m_sizes, .ref m_ends])), (m_all, aI cs 51207 f_m_all), (m_deeds, aI cs 170690 f_m_deeds), (m_trial, aI cs 17069 f_m_trial)]) (wr := []) hx hb hml hown hu hK hP hD hS hA hl.1 (c_X9_notes l D cs H.size md m_all f_m_all m_deeds f_m_deeds m_trial f_m_trial m_hasImage m_tape m_key m_answered m_goes m_hotOnes m_indexed m_isChanged m_valueNow m_didSome m_sizes m_ends 0 0 z_all) (gV u_1331 u_1333 u_45 u_76 u_1334) hd_X9_notes ⟨(Nat.le_of_ble_eq_true rfl), (Nat.le_of_ble_eq_true rfl)⟩ [2, 3, 0, 1] [] rfl rfl rfl rfl (by decide) rfl 0 rfl rfl rfl (Nat.le_of_ble_eq_true rfl) dX9_open_80 ⟨(Nat.le_of_ble_eq_true rfl), (Nat.le_of_ble_eq_true rfl)⟩ (fun ut_92 H locs hw_93 hP hD hS => ?_)
              have hP : va_P D vwCl [(m_all, aI cs 51207 f_m_all), (md, .inr (9, [.int 0, .ref m_all, .ref m_deeds, .ref m_trial, .int 1, .ref m_hasImage, .ref m_tape, .ref m_key, .ref m_answered, .int 0, .int 0, .int 0, .ref m_goes, .int 0, .ref m_hotOnes, .ref m_indexed, .ref m_isChanged, .int 0, .ref m_valueNow, .int 0, .int (-1), .int 0, .ref m_didSome, .ref m_sizes, .ref m_ends]))] H := hP
              have hD : va_D A [(m_all, aI cs 51207 f_m_all), (md, .inr (9, [.int 0, .ref m_all, .ref m_deeds, .ref m_trial, .int 1, .ref m_hasImage, .ref m_tape, .ref m_key, .ref m_answered, .int 0, .int 0, .int 0, .ref m_goes, .int 0, .ref m_hotOnes, .ref m_indexed, .ref m_isChanged, .int 0, .ref m_valueNow, .int 0, .int (-1), .int 0, .ref m_didSome, .ref m_sizes, .ref m_ends]))] := hD
              refine lv_bipush (v := 59) hx hb dX9_open_83 (by decide) ?_
              refine lv_bipush (v := 11) hx hb dX9_open_85 (by decide) ?_
              refine lv_iload_n hx hb dX9_open_87 rfl (lv_at hl 2 rfl) ?_
              refine lv_imul hx hb dX9_open_88 ?_
              refine tpi (y := 11) (by decide) ?_
              refine lv_iadd hx hb dX9_open_89 ?_
              refine tpi (y := 70) (by decide) ?_
              refine lv_istore (lv' := [(5, .int 70), (4, .int 0), (0, .ref md), (1, .int 1), (2, .int 0), (3, .int z)]) hx hb dX9_open_90 hl (by decide) rfl (fun ls hl => ?_)
              refine lv_aload_n hx hb dX9_open_92 rfl (lv_at hl 2 rfl) ?_
              refine va_get (D := D) (ci := 9) (v := .ref m_all) (C := RX9) (T := TX9) (N := 25) hx hb hu in_X9 hown hK.1 hP 1 rfl rfl 1 (by decide) (hu _ u_1081) (fun _ h9 => h9) rfl dX9_open_93 ?_
              refine lv_iload hx hb dX9_open_96 (lv_at hl 0 rfl) ?_
              refine lv_iconst (v := 0) hx hb dX9_open_98 (by decide) ?_
              refine lv_iadd hx hb dX9_open_99 ?_
              refine tpi (y := 70) (by decide) ?_
              refine lv_iload hx hb dX9_open_100 (lv_at hl 1 rfl) ?_
              refine va_iast hx hb hK.1 hP hD hS 0 0 rfl rfl (vin_c _ _ rfl) dX9_open_102 (fun H locs hP hD hS => ?_)
              have hP : va_P D vwCl [(m_all, aI cs 51207 (upd f_m_all (70 : Int32).toNatClampNeg 0)), (md, .inr (9, [.int 0, .ref m_all, .ref m_deeds, .ref m_trial, .int 1, .ref m_hasImage, .ref m_tape, .ref m_key, .ref m_answered, .int 0, .int 0, .int 0, .ref m_goes, .int 0, .ref m_hotOnes, .ref m_indexed, .ref m_isChanged, .int 0, .ref m_valueNow, .int 0, .int (-1), .int 0, .ref m_didSome, .ref m_sizes, .ref m_ends]))] H := hP
              have hD : va_D A [(m_all, aI cs 51207 (upd f_m_all (70 : Int32).toNatClampNeg 0)), (md, .inr (9, [.int 0, .ref m_all, .ref m_deeds, .ref m_trial, .int 1, .ref m_hasImage, .ref m_tape, .ref m_key, .ref m_answered, .int 0, .int 0, .int 0, .ref m_goes, .int 0, .ref m_hotOnes, .ref m_indexed, .ref m_isChanged, .int 0, .ref m_valueNow, .int 0, .int (-1), .int 0, .ref m_didSome, .ref m_sizes, .ref m_ends]))] := hD
              have za_94 : ∀ j, j < 51207 → j ≠ 70 → (upd f_m_all (70 : Int32).toNatClampNeg 0) j = AL j := upd_ALx z_all
              obtain ⟨g_95, eg_96⟩ : ∃ g9 : Nat → Int32, upd f_m_all (70 : Int32).toNatClampNeg 0 = g9 := ⟨_, rfl⟩
              rw [eg_96] at hP hD za_94
              refine lv_aload_n hx hb dX9_open_103 rfl (lv_at hl 2 rfl) ?_
              refine va_get (D := D) (ci := 9) (v := .ref m_all) (C := RX9) (T := TX9) (N := 25) hx hb hu in_X9 hown hK.1 hP 1 rfl rfl 1 (by decide) (hu _ u_1081) (fun _ h9 => h9) rfl dX9_open_104 ?_
              refine lv_iload hx hb dX9_open_107 (lv_at hl 0 rfl) ?_
              refine lv_iconst (v := 1) hx hb dX9_open_109 (by decide) ?_
              refine lv_iadd hx hb dX9_open_110 ?_
              refine tpi (y := 71) (by decide) ?_
              refine lv_iload_n hx hb dX9_open_111 rfl (lv_at hl 4 rfl) ?_
              refine va_iast hx hb hK.1 hP hD hS 0 0 rfl rfl (vin_c _ _ rfl) dX9_open_112 (fun H locs hP hD hS => ?_)
              have hP : va_P D vwCl [(m_all, aI cs 51207 (upd g_95 (71 : Int32).toNatClampNeg 0)), (md, .inr (9, [.int 0, .ref m_all, .ref m_deeds, .ref m_trial, .int 1, .ref m_hasImage, .ref m_tape, .ref m_key, .ref m_answered, .int 0, .int 0, .int 0, .ref m_goes, .int 0, .ref m_hotOnes, .ref m_indexed, .ref m_isChanged, .int 0, .ref m_valueNow, .int 0, .int (-1), .int 0, .ref m_didSome, .ref m_sizes, .ref m_ends]))] H := hP
              have hD : va_D A [(m_all, aI cs 51207 (upd g_95 (71 : Int32).toNatClampNeg 0)), (md, .inr (9, [.int 0, .ref m_all, .ref m_deeds, .ref m_trial, .int 1, .ref m_hasImage, .ref m_tape, .ref m_key, .ref m_answered, .int 0, .int 0, .int 0, .ref m_goes, .int 0, .ref m_hotOnes, .ref m_indexed, .ref m_isChanged, .int 0, .ref m_valueNow, .int 0, .int (-1), .int 0, .ref m_didSome, .ref m_sizes, .ref m_ends]))] := hD
              have za_97 : ∀ j, j < 51207 → j ≠ 70 → (upd g_95 (71 : Int32).toNatClampNeg 0) j = AL j := upd_ALy za_94 (by decide +kernel)
              obtain ⟨g_98, eg_99⟩ : ∃ g9 : Nat → Int32, upd g_95 (71 : Int32).toNatClampNeg 0 = g9 := ⟨_, rfl⟩
              rw [eg_99] at hP hD za_97
              refine lv_iconst (v := 0) hx hb dX9_open_113 (by decide) ?_
              refine lv_istore (lv' := [(6, .int 0), (5, .int 70), (4, .int 0), (0, .ref md), (1, .int 1), (2, .int 0), (3, .int z)]) hx hb dX9_open_114 hl (by decide) rfl (fun ls hl => ?_)
              refine lv_iload hx hb dX9_open_116 (lv_at hl 0 rfl) ?_
              refine lv_bipush (v := 8) hx hb dX9_open_118 (by decide) ?_
              refine lv_icmp_ge (tgt := 158) hx hb dX9_open_120 (by decide) (fun c_100 => absurd c_100 (by decide)) (fun c_100 => ?_)
              refine lv_aload_n hx hb dX9_open_123 rfl (lv_at hl 3 rfl) ?_
              refine va_get (D := D) (ci := 9) (v := .ref m_all) (C := RX9) (T := TX9) (N := 25) hx hb hu in_X9 hown hK.1 hP 1 rfl rfl 1 (by decide) (hu _ u_1081) (fun _ h9 => h9) rfl dX9_open_124 ?_
              refine lv_iload hx hb dX9_open_127 (lv_at hl 1 rfl) ?_
              refine lv_iconst (v := 2) hx hb dX9_open_129 (by decide) ?_
              refine lv_iadd hx hb dX9_open_130 ?_
              refine tpi (y := 72) (by decide) ?_
              refine lv_iload hx hb dX9_open_131 (lv_at hl 0 rfl) ?_
              refine lv_iadd hx hb dX9_open_133 ?_
              refine tpi (y := 72) (by decide) ?_
              refine lv_iload hx hb dX9_open_134 (lv_at hl 0 rfl) ?_
              refine lv_iload_n hx hb dX9_open_136 rfl (lv_at hl 5 rfl) ?_
              refine lv_icmp_ge (tgt := 150) hx hb dX9_open_137 (by decide) (fun c_101 => ?_) (fun c_101 => absurd (by decide) c_101)
              refine lv_iconst (v := 0) hx hb dX9_open_150 (by decide) ?_
              refine va_iast hx hb hK.1 hP hD hS 0 0 rfl rfl (vin_c _ _ rfl) dX9_open_151 (fun H locs hP hD hS => ?_)
              have hP : va_P D vwCl [(m_all, aI cs 51207 (upd g_98 (72 : Int32).toNatClampNeg 0)), (md, .inr (9, [.int 0, .ref m_all, .ref m_deeds, .ref m_trial, .int 1, .ref m_hasImage, .ref m_tape, .ref m_key, .ref m_answered, .int 0, .int 0, .int 0, .ref m_goes, .int 0, .ref m_hotOnes, .ref m_indexed, .ref m_isChanged, .int 0, .ref m_valueNow, .int 0, .int (-1), .int 0, .ref m_didSome, .ref m_sizes, .ref m_ends]))] H := hP
              have hD : va_D A [(m_all, aI cs 51207 (upd g_98 (72 : Int32).toNatClampNeg 0)), (md, .inr (9, [.int 0, .ref m_all, .ref m_deeds, .ref m_trial, .int 1, .ref m_hasImage, .ref m_tape, .ref m_key, .ref m_answered, .int 0, .int 0, .int 0, .ref m_goes, .int 0, .ref m_hotOnes, .ref m_indexed, .ref m_isChanged, .int 0, .ref m_valueNow, .int 0, .int (-1), .int 0, .ref m_didSome, .ref m_sizes, .ref m_ends]))] := hD
              have za_102 : ∀ j, j < 51207 → j ≠ 70 → (upd g_98 (72 : Int32).toNatClampNeg 0) j = AL j := upd_ALy za_97 (by decide +kernel)
              obtain ⟨g_103, eg_104⟩ : ∃ g9 : Nat → Int32, upd g_98 (72 : Int32).toNatClampNeg 0 = g9 := ⟨_, rfl⟩
              rw [eg_104] at hP hD za_102
              refine lv_iinc (v := 1) (lv' := [(6, .int 1), (5, .int 70), (4, .int 0), (0, .ref md), (1, .int 1), (2, .int 0), (3, .int z)]) hx hb dX9_open_152 hl (k := 0) rfl (by decide) (by decide) rfl (fun ls hl => ?_)
              refine lv_goto (tgt := 116) hx hb dX9_open_155 (by decide) ?_
              refine lv_iload hx hb dX9_open_116 (lv_at hl 0 rfl) ?_
              refine lv_bipush (v := 8) hx hb dX9_open_118 (by decide) ?_
              refine lv_icmp_ge (tgt := 158) hx hb dX9_open_120 (by decide) (fun c_105 => absurd c_105 (by decide)) (fun c_105 => ?_)
              refine lv_aload_n hx hb dX9_open_123 rfl (lv_at hl 3 rfl) ?_
              refine va_get (D := D) (ci := 9) (v := .ref m_all) (C := RX9) (T := TX9) (N := 25) hx hb hu in_X9 hown hK.1 hP 1 rfl rfl 1 (by decide) (hu _ u_1081) (fun _ h9 => h9) rfl dX9_open_124 ?_
              refine lv_iload hx hb dX9_open_127 (lv_at hl 1 rfl) ?_
              refine lv_iconst (v := 2) hx hb dX9_open_129 (by decide) ?_
              refine lv_iadd hx hb dX9_open_130 ?_
              refine tpi (y := 72) (by decide) ?_
              refine lv_iload hx hb dX9_open_131 (lv_at hl 0 rfl) ?_
              refine lv_iadd hx hb dX9_open_133 ?_
              refine tpi (y := 73) (by decide) ?_
              refine lv_iload hx hb dX9_open_134 (lv_at hl 0 rfl) ?_
              refine lv_iload_n hx hb dX9_open_136 rfl (lv_at hl 5 rfl) ?_
              refine lv_icmp_ge (tgt := 150) hx hb dX9_open_137 (by decide) (fun c_106 => ?_) (fun c_106 => absurd (by decide) c_106)
              refine lv_iconst (v := 0) hx hb dX9_open_150 (by decide) ?_
              refine va_iast hx hb hK.1 hP hD hS 0 0 rfl rfl (vin_c _ _ rfl) dX9_open_151 (fun H locs hP hD hS => ?_)
              have hP : va_P D vwCl [(m_all, aI cs 51207 (upd g_103 (73 : Int32).toNatClampNeg 0)), (md, .inr (9, [.int 0, .ref m_all, .ref m_deeds, .ref m_trial, .int 1, .ref m_hasImage, .ref m_tape, .ref m_key, .ref m_answered, .int 0, .int 0, .int 0, .ref m_goes, .int 0, .ref m_hotOnes, .ref m_indexed, .ref m_isChanged, .int 0, .ref m_valueNow, .int 0, .int (-1), .int 0, .ref m_didSome, .ref m_sizes, .ref m_ends]))] H := hP
              have hD : va_D A [(m_all, aI cs 51207 (upd g_103 (73 : Int32).toNatClampNeg 0)), (md, .inr (9, [.int 0, .ref m_all, .ref m_deeds, .ref m_trial, .int 1, .ref m_hasImage, .ref m_tape, .ref m_key, .ref m_answered, .int 0, .int 0, .int 0, .ref m_goes, .int 0, .ref m_hotOnes, .ref m_indexed, .ref m_isChanged, .int 0, .ref m_valueNow, .int 0, .int (-1), .int 0, .ref m_didSome, .ref m_sizes, .ref m_ends]))] := hD
              have za_107 : ∀ j, j < 51207 → j ≠ 70 → (upd g_103 (73 : Int32).toNatClampNeg 0) j = AL j := upd_ALy za_102 (by decide +kernel)
              obtain ⟨g_108, eg_109⟩ : ∃ g9 : Nat → Int32, upd g_103 (73 : Int32).toNatClampNeg 0 = g9 := ⟨_, rfl⟩
              rw [eg_109] at hP hD za_107
              refine lv_iinc (v := 2) (lv' := [(6, .int 2), (5, .int 70), (4, .int 0), (0, .ref md), (1, .int 1), (2, .int 0), (3, .int z)]) hx hb dX9_open_152 hl (k := 0) rfl (by decide) (by decide) rfl (fun ls hl => ?_)
              refine lv_goto (tgt := 116) hx hb dX9_open_155 (by decide) ?_
              refine lv_iload hx hb dX9_open_116 (lv_at hl 0 rfl) ?_
              refine lv_bipush (v := 8) hx hb dX9_open_118 (by decide) ?_
              refine lv_icmp_ge (tgt := 158) hx hb dX9_open_120 (by decide) (fun c_110 => absurd c_110 (by decide)) (fun c_110 => ?_)
              refine lv_aload_n hx hb dX9_open_123 rfl (lv_at hl 3 rfl) ?_
              refine va_get (D := D) (ci := 9) (v := .ref m_all) (C := RX9) (T := TX9) (N := 25) hx hb hu in_X9 hown hK.1 hP 1 rfl rfl 1 (by decide) (hu _ u_1081) (fun _ h9 => h9) rfl dX9_open_124 ?_
              refine lv_iload hx hb dX9_open_127 (lv_at hl 1 rfl) ?_
              refine lv_iconst (v := 2) hx hb dX9_open_129 (by decide) ?_
              refine lv_iadd hx hb dX9_open_130 ?_
              refine tpi (y := 72) (by decide) ?_
              refine lv_iload hx hb dX9_open_131 (lv_at hl 0 rfl) ?_
              refine lv_iadd hx hb dX9_open_133 ?_
              refine tpi (y := 74) (by decide) ?_
              refine lv_iload hx hb dX9_open_134 (lv_at hl 0 rfl) ?_
              refine lv_iload_n hx hb dX9_open_136 rfl (lv_at hl 5 rfl) ?_
              refine lv_icmp_ge (tgt := 150) hx hb dX9_open_137 (by decide) (fun c_111 => ?_) (fun c_111 => absurd (by decide) c_111)
              refine lv_iconst (v := 0) hx hb dX9_open_150 (by decide) ?_
              refine va_iast hx hb hK.1 hP hD hS 0 0 rfl rfl (vin_c _ _ rfl) dX9_open_151 (fun H locs hP hD hS => ?_)
              have hP : va_P D vwCl [(m_all, aI cs 51207 (upd g_108 (74 : Int32).toNatClampNeg 0)), (md, .inr (9, [.int 0, .ref m_all, .ref m_deeds, .ref m_trial, .int 1, .ref m_hasImage, .ref m_tape, .ref m_key, .ref m_answered, .int 0, .int 0, .int 0, .ref m_goes, .int 0, .ref m_hotOnes, .ref m_indexed, .ref m_isChanged, .int 0, .ref m_valueNow, .int 0, .int (-1), .int 0, .ref m_didSome, .ref m_sizes, .ref m_ends]))] H := hP
              have hD : va_D A [(m_all, aI cs 51207 (upd g_108 (74 : Int32).toNatClampNeg 0)), (md, .inr (9, [.int 0, .ref m_all, .ref m_deeds, .ref m_trial, .int 1, .ref m_hasImage, .ref m_tape, .ref m_key, .ref m_answered, .int 0, .int 0, .int 0, .ref m_goes, .int 0, .ref m_hotOnes, .ref m_indexed, .ref m_isChanged, .int 0, .ref m_valueNow, .int 0, .int (-1), .int 0, .ref m_didSome, .ref m_sizes, .ref m_ends]))] := hD
              have za_112 : ∀ j, j < 51207 → j ≠ 70 → (upd g_108 (74 : Int32).toNatClampNeg 0) j = AL j := upd_ALy za_107 (by decide +kernel)
              obtain ⟨g_113, eg_114⟩ : ∃ g9 : Nat → Int32, upd g_108 (74 : Int32).toNatClampNeg 0 = g9 := ⟨_, rfl⟩
              rw [eg_114] at hP hD za_112
              refine lv_iinc (v := 3) (lv' := [(6, .int 3), (5, .int 70), (4, .int 0), (0, .ref md), (1, .int 1), (2, .int 0), (3, .int z)]) hx hb dX9_open_152 hl (k := 0) rfl (by decide) (by decide) rfl (fun ls hl => ?_)
              refine lv_goto (tgt := 116) hx hb dX9_open_155 (by decide) ?_
              refine lv_iload hx hb dX9_open_116 (lv_at hl 0 rfl) ?_
              refine lv_bipush (v := 8) hx hb dX9_open_118 (by decide) ?_
              refine lv_icmp_ge (tgt := 158) hx hb dX9_open_120 (by decide) (fun c_115 => absurd c_115 (by decide)) (fun c_115 => ?_)
              refine lv_aload_n hx hb dX9_open_123 rfl (lv_at hl 3 rfl) ?_
              refine va_get (D := D) (ci := 9) (v := .ref m_all) (C := RX9) (T := TX9) (N := 25) hx hb hu in_X9 hown hK.1 hP 1 rfl rfl 1 (by decide) (hu _ u_1081) (fun _ h9 => h9) rfl dX9_open_124 ?_
              refine lv_iload hx hb dX9_open_127 (lv_at hl 1 rfl) ?_
              refine lv_iconst (v := 2) hx hb dX9_open_129 (by decide) ?_
              refine lv_iadd hx hb dX9_open_130 ?_
              refine tpi (y := 72) (by decide) ?_
              refine lv_iload hx hb dX9_open_131 (lv_at hl 0 rfl) ?_
              refine lv_iadd hx hb dX9_open_133 ?_
              refine tpi (y := 75) (by decide) ?_
              refine lv_iload hx hb dX9_open_134 (lv_at hl 0 rfl) ?_
              refine lv_iload_n hx hb dX9_open_136 rfl (lv_at hl 5 rfl) ?_
              refine lv_icmp_ge (tgt := 150) hx hb dX9_open_137 (by decide) (fun c_116 => ?_) (fun c_116 => absurd (by decide) c_116)
              refine lv_iconst (v := 0) hx hb dX9_open_150 (by decide) ?_
              refine va_iast hx hb hK.1 hP hD hS 0 0 rfl rfl (vin_c _ _ rfl) dX9_open_151 (fun H locs hP hD hS => ?_)
              have hP : va_P D vwCl [(m_all, aI cs 51207 (upd g_113 (75 : Int32).toNatClampNeg 0)), (md, .inr (9, [.int 0, .ref m_all, .ref m_deeds, .ref m_trial, .int 1, .ref m_hasImage, .ref m_tape, .ref m_key, .ref m_answered, .int 0, .int 0, .int 0, .ref m_goes, .int 0, .ref m_hotOnes, .ref m_indexed, .ref m_isChanged, .int 0, .ref m_valueNow, .int 0, .int (-1), .int 0, .ref m_didSome, .ref m_sizes, .ref m_ends]))] H := hP
              have hD : va_D A [(m_all, aI cs 51207 (upd g_113 (75 : Int32).toNatClampNeg 0)), (md, .inr (9, [.int 0, .ref m_all, .ref m_deeds, .ref m_trial, .int 1, .ref m_hasImage, .ref m_tape, .ref m_key, .ref m_answered, .int 0, .int 0, .int 0, .ref m_goes, .int 0, .ref m_hotOnes, .ref m_indexed, .ref m_isChanged, .int 0, .ref m_valueNow, .int 0, .int (-1), .int 0, .ref m_didSome, .ref m_sizes, .ref m_ends]))] := hD
              have za_117 : ∀ j, j < 51207 → j ≠ 70 → (upd g_113 (75 : Int32).toNatClampNeg 0) j = AL j := upd_ALy za_112 (by decide +kernel)
              obtain ⟨g_118, eg_119⟩ : ∃ g9 : Nat → Int32, upd g_113 (75 : Int32).toNatClampNeg 0 = g9 := ⟨_, rfl⟩
              rw [eg_119] at hP hD za_117
              refine lv_iinc (v := 4) (lv' := [(6, .int 4), (5, .int 70), (4, .int 0), (0, .ref md), (1, .int 1), (2, .int 0), (3, .int z)]) hx hb dX9_open_152 hl (k := 0) rfl (by decide) (by decide) rfl (fun ls hl => ?_)
              refine lv_goto (tgt := 116) hx hb dX9_open_155 (by decide) ?_
              refine lv_iload hx hb dX9_open_116 (lv_at hl 0 rfl) ?_
              refine lv_bipush (v := 8) hx hb dX9_open_118 (by decide) ?_
              refine lv_icmp_ge (tgt := 158) hx hb dX9_open_120 (by decide) (fun c_120 => absurd c_120 (by decide)) (fun c_120 => ?_)
              refine lv_aload_n hx hb dX9_open_123 rfl (lv_at hl 3 rfl) ?_
              refine va_get (D := D) (ci := 9) (v := .ref m_all) (C := RX9) (T := TX9) (N := 25) hx hb hu in_X9 hown hK.1 hP 1 rfl rfl 1 (by decide) (hu _ u_1081) (fun _ h9 => h9) rfl dX9_open_124 ?_
              refine lv_iload hx hb dX9_open_127 (lv_at hl 1 rfl) ?_
              refine lv_iconst (v := 2) hx hb dX9_open_129 (by decide) ?_
              refine lv_iadd hx hb dX9_open_130 ?_
              refine tpi (y := 72) (by decide) ?_
              refine lv_iload hx hb dX9_open_131 (lv_at hl 0 rfl) ?_
              refine lv_iadd hx hb dX9_open_133 ?_
              refine tpi (y := 76) (by decide) ?_
              refine lv_iload hx hb dX9_open_134 (lv_at hl 0 rfl) ?_
              refine lv_iload_n hx hb dX9_open_136 rfl (lv_at hl 5 rfl) ?_
              refine lv_icmp_ge (tgt := 150) hx hb dX9_open_137 (by decide) (fun c_121 => ?_) (fun c_121 => absurd (by decide) c_121)
              refine lv_iconst (v := 0) hx hb dX9_open_150 (by decide) ?_
              refine va_iast hx hb hK.1 hP hD hS 0 0 rfl rfl (vin_c _ _ rfl) dX9_open_151 (fun H locs hP hD hS => ?_)
              have hP : va_P D vwCl [(m_all, aI cs 51207 (upd g_118 (76 : Int32).toNatClampNeg 0)), (md, .inr (9, [.int 0, .ref m_all, .ref m_deeds, .ref m_trial, .int 1, .ref m_hasImage, .ref m_tape, .ref m_key, .ref m_answered, .int 0, .int 0, .int 0, .ref m_goes, .int 0, .ref m_hotOnes, .ref m_indexed, .ref m_isChanged, .int 0, .ref m_valueNow, .int 0, .int (-1), .int 0, .ref m_didSome, .ref m_sizes, .ref m_ends]))] H := hP
              have hD : va_D A [(m_all, aI cs 51207 (upd g_118 (76 : Int32).toNatClampNeg 0)), (md, .inr (9, [.int 0, .ref m_all, .ref m_deeds, .ref m_trial, .int 1, .ref m_hasImage, .ref m_tape, .ref m_key, .ref m_answered, .int 0, .int 0, .int 0, .ref m_goes, .int 0, .ref m_hotOnes, .ref m_indexed, .ref m_isChanged, .int 0, .ref m_valueNow, .int 0, .int (-1), .int 0, .ref m_didSome, .ref m_sizes, .ref m_ends]))] := hD
              have za_122 : ∀ j, j < 51207 → j ≠ 70 → (upd g_118 (76 : Int32).toNatClampNeg 0) j = AL j := upd_ALy za_117 (by decide +kernel)
              obtain ⟨g_123, eg_124⟩ : ∃ g9 : Nat → Int32, upd g_118 (76 : Int32).toNatClampNeg 0 = g9 := ⟨_, rfl⟩
              rw [eg_124] at hP hD za_122
              refine lv_iinc (v := 5) (lv' := [(6, .int 5), (5, .int 70), (4, .int 0), (0, .ref md), (1, .int 1), (2, .int 0), (3, .int z)]) hx hb dX9_open_152 hl (k := 0) rfl (by decide) (by decide) rfl (fun ls hl => ?_)
              refine lv_goto (tgt := 116) hx hb dX9_open_155 (by decide) ?_
              refine lv_iload hx hb dX9_open_116 (lv_at hl 0 rfl) ?_
              refine lv_bipush (v := 8) hx hb dX9_open_118 (by decide) ?_
              refine lv_icmp_ge (tgt := 158) hx hb dX9_open_120 (by decide) (fun c_125 => absurd c_125 (by decide)) (fun c_125 => ?_)
              refine lv_aload_n hx hb dX9_open_123 rfl (lv_at hl 3 rfl) ?_
              refine va_get (D := D) (ci := 9) (v := .ref m_all) (C := RX9) (T := TX9) (N := 25) hx hb hu in_X9 hown hK.1 hP 1 rfl rfl 1 (by decide) (hu _ u_1081) (fun _ h9 => h9) rfl dX9_open_124 ?_
              refine lv_iload hx hb dX9_open_127 (lv_at hl 1 rfl) ?_
              refine lv_iconst (v := 2) hx hb dX9_open_129 (by decide) ?_
              refine lv_iadd hx hb dX9_open_130 ?_
              refine tpi (y := 72) (by decide) ?_
              refine lv_iload hx hb dX9_open_131 (lv_at hl 0 rfl) ?_
              refine lv_iadd hx hb dX9_open_133 ?_
              refine tpi (y := 77) (by decide) ?_
              refine lv_iload hx hb dX9_open_134 (lv_at hl 0 rfl) ?_
              refine lv_iload_n hx hb dX9_open_136 rfl (lv_at hl 5 rfl) ?_
              refine lv_icmp_ge (tgt := 150) hx hb dX9_open_137 (by decide) (fun c_126 => ?_) (fun c_126 => absurd (by decide) c_126)
              refine lv_iconst (v := 0) hx hb dX9_open_150 (by decide) ?_
              refine va_iast hx hb hK.1 hP hD hS 0 0 rfl rfl (vin_c _ _ rfl) dX9_open_151 (fun H locs hP hD hS => ?_)
              have hP : va_P D vwCl [(m_all, aI cs 51207 (upd g_123 (77 : Int32).toNatClampNeg 0)), (md, .inr (9, [.int 0, .ref m_all, .ref m_deeds, .ref m_trial, .int 1, .ref m_hasImage, .ref m_tape, .ref m_key, .ref m_answered, .int 0, .int 0, .int 0, .ref m_goes, .int 0, .ref m_hotOnes, .ref m_indexed, .ref m_isChanged, .int 0, .ref m_valueNow, .int 0, .int (-1), .int 0, .ref m_didSome, .ref m_sizes, .ref m_ends]))] H := hP
              have hD : va_D A [(m_all, aI cs 51207 (upd g_123 (77 : Int32).toNatClampNeg 0)), (md, .inr (9, [.int 0, .ref m_all, .ref m_deeds, .ref m_trial, .int 1, .ref m_hasImage, .ref m_tape, .ref m_key, .ref m_answered, .int 0, .int 0, .int 0, .ref m_goes, .int 0, .ref m_hotOnes, .ref m_indexed, .ref m_isChanged, .int 0, .ref m_valueNow, .int 0, .int (-1), .int 0, .ref m_didSome, .ref m_sizes, .ref m_ends]))] := hD
              have za_127 : ∀ j, j < 51207 → j ≠ 70 → (upd g_123 (77 : Int32).toNatClampNeg 0) j = AL j := upd_ALy za_122 (by decide +kernel)
              obtain ⟨g_128, eg_129⟩ : ∃ g9 : Nat → Int32, upd g_123 (77 : Int32).toNatClampNeg 0 = g9 := ⟨_, rfl⟩
              rw [eg_129] at hP hD za_127
              refine lv_iinc (v := 6) (lv' := [(6, .int 6), (5, .int 70), (4, .int 0), (0, .ref md), (1, .int 1), (2, .int 0), (3, .int z)]) hx hb dX9_open_152 hl (k := 0) rfl (by decide) (by decide) rfl (fun ls hl => ?_)
              refine lv_goto (tgt := 116) hx hb dX9_open_155 (by decide) ?_
              refine lv_iload hx hb dX9_open_116 (lv_at hl 0 rfl) ?_
              refine lv_bipush (v := 8) hx hb dX9_open_118 (by decide) ?_
              refine lv_icmp_ge (tgt := 158) hx hb dX9_open_120 (by decide) (fun c_130 => absurd c_130 (by decide)) (fun c_130 => ?_)
              refine lv_aload_n hx hb dX9_open_123 rfl (lv_at hl 3 rfl) ?_
              refine va_get (D := D) (ci := 9) (v := .ref m_all) (C := RX9) (T := TX9) (N := 25) hx hb hu in_X9 hown hK.1 hP 1 rfl rfl 1 (by decide) (hu _ u_1081) (fun _ h9 => h9) rfl dX9_open_124 ?_
              refine lv_iload hx hb dX9_open_127 (lv_at hl 1 rfl) ?_
              refine lv_iconst (v := 2) hx hb dX9_open_129 (by decide) ?_
              refine lv_iadd hx hb dX9_open_130 ?_
              refine tpi (y := 72) (by decide) ?_
              refine lv_iload hx hb dX9_open_131 (lv_at hl 0 rfl) ?_
              refine lv_iadd hx hb dX9_open_133 ?_
              refine tpi (y := 78) (by decide) ?_
              refine lv_iload hx hb dX9_open_134 (lv_at hl 0 rfl) ?_
              refine lv_iload_n hx hb dX9_open_136 rfl (lv_at hl 5 rfl) ?_
              refine lv_icmp_ge (tgt := 150) hx hb dX9_open_137 (by decide) (fun c_131 => ?_) (fun c_131 => absurd (by decide) c_131)
              refine lv_iconst (v := 0) hx hb dX9_open_150 (by decide) ?_
              refine va_iast hx hb hK.1 hP hD hS 0 0 rfl rfl (vin_c _ _ rfl) dX9_open_151 (fun H locs hP hD hS => ?_)
              have hP : va_P D vwCl [(m_all, aI cs 51207 (upd g_128 (78 : Int32).toNatClampNeg 0)), (md, .inr (9, [.int 0, .ref m_all, .ref m_deeds, .ref m_trial, .int 1, .ref m_hasImage, .ref m_tape, .ref m_key, .ref m_answered, .int 0, .int 0, .int 0, .ref m_goes, .int 0, .ref m_hotOnes, .ref m_indexed, .ref m_isChanged, .int 0, .ref m_valueNow, .int 0, .int (-1), .int 0, .ref m_didSome, .ref m_sizes, .ref m_ends]))] H := hP
              have hD : va_D A [(m_all, aI cs 51207 (upd g_128 (78 : Int32).toNatClampNeg 0)), (md, .inr (9, [.int 0, .ref m_all, .ref m_deeds, .ref m_trial, .int 1, .ref m_hasImage, .ref m_tape, .ref m_key, .ref m_answered, .int 0, .int 0, .int 0, .ref m_goes, .int 0, .ref m_hotOnes, .ref m_indexed, .ref m_isChanged, .int 0, .ref m_valueNow, .int 0, .int (-1), .int 0, .ref m_didSome, .ref m_sizes, .ref m_ends]))] := hD
              have za_132 : ∀ j, j < 51207 → j ≠ 70 → (upd g_128 (78 : Int32).toNatClampNeg 0) j = AL j := upd_ALy za_127 (by decide +kernel)
              obtain ⟨g_133, eg_134⟩ : ∃ g9 : Nat → Int32, upd g_128 (78 : Int32).toNatClampNeg 0 = g9 := ⟨_, rfl⟩
              rw [eg_134] at hP hD za_132
              refine lv_iinc (v := 7) (lv' := [(6, .int 7), (5, .int 70), (4, .int 0), (0, .ref md), (1, .int 1), (2, .int 0), (3, .int z)]) hx hb dX9_open_152 hl (k := 0) rfl (by decide) (by decide) rfl (fun ls hl => ?_)
              refine lv_goto (tgt := 116) hx hb dX9_open_155 (by decide) ?_
              refine lv_iload hx hb dX9_open_116 (lv_at hl 0 rfl) ?_
              refine lv_bipush (v := 8) hx hb dX9_open_118 (by decide) ?_
              refine lv_icmp_ge (tgt := 158) hx hb dX9_open_120 (by decide) (fun c_135 => absurd c_135 (by decide)) (fun c_135 => ?_)
              refine lv_aload_n hx hb dX9_open_123 rfl (lv_at hl 3 rfl) ?_
              refine va_get (D := D) (ci := 9) (v := .ref m_all) (C := RX9) (T := TX9) (N := 25) hx hb hu in_X9 hown hK.1 hP 1 rfl rfl 1 (by decide) (hu _ u_1081) (fun _ h9 => h9) rfl dX9_open_124 ?_
              refine lv_iload hx hb dX9_open_127 (lv_at hl 1 rfl) ?_
              refine lv_iconst (v := 2) hx hb dX9_open_129 (by decide) ?_
              refine lv_iadd hx hb dX9_open_130 ?_
              refine tpi (y := 72) (by decide) ?_
              refine lv_iload hx hb dX9_open_131 (lv_at hl 0 rfl) ?_
              refine lv_iadd hx hb dX9_open_133 ?_
              refine tpi (y := 79) (by decide) ?_
              refine lv_iload hx hb dX9_open_134 (lv_at hl 0 rfl) ?_
              refine lv_iload_n hx hb dX9_open_136 rfl (lv_at hl 5 rfl) ?_
              refine lv_icmp_ge (tgt := 150) hx hb dX9_open_137 (by decide) (fun c_136 => ?_) (fun c_136 => absurd (by decide) c_136)
              refine lv_iconst (v := 0) hx hb dX9_open_150 (by decide) ?_
              refine va_iast hx hb hK.1 hP hD hS 0 0 rfl rfl (vin_c _ _ rfl) dX9_open_151 (fun H locs hP hD hS => ?_)
              have hP : va_P D vwCl [(m_all, aI cs 51207 (upd g_133 (79 : Int32).toNatClampNeg 0)), (md, .inr (9, [.int 0, .ref m_all, .ref m_deeds, .ref m_trial, .int 1, .ref m_hasImage, .ref m_tape, .ref m_key, .ref m_answered, .int 0, .int 0, .int 0, .ref m_goes, .int 0, .ref m_hotOnes, .ref m_indexed, .ref m_isChanged, .int 0, .ref m_valueNow, .int 0, .int (-1), .int 0, .ref m_didSome, .ref m_sizes, .ref m_ends]))] H := hP
              have hD : va_D A [(m_all, aI cs 51207 (upd g_133 (79 : Int32).toNatClampNeg 0)), (md, .inr (9, [.int 0, .ref m_all, .ref m_deeds, .ref m_trial, .int 1, .ref m_hasImage, .ref m_tape, .ref m_key, .ref m_answered, .int 0, .int 0, .int 0, .ref m_goes, .int 0, .ref m_hotOnes, .ref m_indexed, .ref m_isChanged, .int 0, .ref m_valueNow, .int 0, .int (-1), .int 0, .ref m_didSome, .ref m_sizes, .ref m_ends]))] := hD
              have za_137 : ∀ j, j < 51207 → j ≠ 70 → (upd g_133 (79 : Int32).toNatClampNeg 0) j = AL j := upd_ALy za_132 (by decide +kernel)
              obtain ⟨g_138, eg_139⟩ : ∃ g9 : Nat → Int32, upd g_133 (79 : Int32).toNatClampNeg 0 = g9 := ⟨_, rfl⟩
              rw [eg_139] at hP hD za_137
              refine lv_iinc (v := 8) (lv' := [(6, .int 8), (5, .int 70), (4, .int 0), (0, .ref md), (1, .int 1), (2, .int 0), (3, .int z)]) hx hb dX9_open_152 hl (k := 0) rfl (by decide) (by decide) rfl (fun ls hl => ?_)
              refine lv_goto (tgt := 116) hx hb dX9_open_155 (by decide) ?_
              refine lv_iload hx hb dX9_open_116 (lv_at hl 0 rfl) ?_
              refine lv_bipush (v := 8) hx hb dX9_open_118 (by decide) ?_
              refine lv_icmp_ge (tgt := 158) hx hb dX9_open_120 (by decide) (fun c_140 => ?_) (fun c_140 => absurd (by decide) c_140)
              refine lv_aload_n hx hb dX9_open_158 rfl (lv_at hl 3 rfl) ?_
              refine va_get (D := D) (ci := 9) (v := .ref m_all) (C := RX9) (T := TX9) (N := 25) hx hb hu in_X9 hown hK.1 hP 1 rfl rfl 1 (by decide) (hu _ u_1081) (fun _ h9 => h9) rfl dX9_open_159 ?_
              refine lv_iload hx hb dX9_open_162 (lv_at hl 1 rfl) ?_
              refine lv_bipush (v := 10) hx hb dX9_open_164 (by decide) ?_
              refine lv_iadd hx hb dX9_open_166 ?_
              refine tpi (y := 80) (by decide) ?_
              refine lv_iconst (v := 0) hx hb dX9_open_167 (by decide) ?_
              refine va_iast hx hb hK.1 hP hD hS 0 0 rfl rfl (vin_c _ _ rfl) dX9_open_168 (fun H locs hP hD hS => ?_)
              have hP : va_P D vwCl [(m_all, aI cs 51207 (upd g_138 (80 : Int32).toNatClampNeg 0)), (md, .inr (9, [.int 0, .ref m_all, .ref m_deeds, .ref m_trial, .int 1, .ref m_hasImage, .ref m_tape, .ref m_key, .ref m_answered, .int 0, .int 0, .int 0, .ref m_goes, .int 0, .ref m_hotOnes, .ref m_indexed, .ref m_isChanged, .int 0, .ref m_valueNow, .int 0, .int (-1), .int 0, .ref m_didSome, .ref m_sizes, .ref m_ends]))] H := hP
              have hD : va_D A [(m_all, aI cs 51207 (upd g_138 (80 : Int32).toNatClampNeg 0)), (md, .inr (9, [.int 0, .ref m_all, .ref m_deeds, .ref m_trial, .int 1, .ref m_hasImage, .ref m_tape, .ref m_key, .ref m_answered, .int 0, .int 0, .int 0, .ref m_goes, .int 0, .ref m_hotOnes, .ref m_indexed, .ref m_isChanged, .int 0, .ref m_valueNow, .int 0, .int (-1), .int 0, .ref m_didSome, .ref m_sizes, .ref m_ends]))] := hD
              have za_141 : ∀ j, j < 51207 → j ≠ 70 → (upd g_138 (80 : Int32).toNatClampNeg 0) j = AL j := upd_ALy za_137 (by decide +kernel)
              obtain ⟨g_142, eg_143⟩ : ∃ g9 : Nat → Int32, upd g_138 (80 : Int32).toNatClampNeg 0 = g9 := ⟨_, rfl⟩
              rw [eg_143] at hP hD za_141
              refine lv_aload_n hx hb dX9_open_169 rfl (lv_at hl 3 rfl) ?_
              refine lv_iconst (v := 0) hx hb dX9_open_170 (by decide) ?_
              refine va_put (D := D) (ci := 9) (v := .int 0) (ty := tyX9 9) (C := RX9) (T := TX9) (N := 25) hx hb hu in_X9 tyX9 tyX9_ok nmX9 hown hK.1 hP hD hS 1 rfl rfl 9 (by decide) (hu _ u_1089) (fun _ h9 => h9) rfl (tyX9_ok 9 (by decide)) rfl rfl (Nat.le_of_ble_eq_true rfl) dX9_open_171 (fun H locs hP hD hS => ?_)
              have hP : va_P D vwCl [(m_all, aI cs 51207 g_142), (md, .inr (9, [.int 0, .ref m_all, .ref m_deeds, .ref m_trial, .int 1, .ref m_hasImage, .ref m_tape, .ref m_key, .ref m_answered, .int 0, .int 0, .int 0, .ref m_goes, .int 0, .ref m_hotOnes, .ref m_indexed, .ref m_isChanged, .int 0, .ref m_valueNow, .int 0, .int (-1), .int 0, .ref m_didSome, .ref m_sizes, .ref m_ends]))] H := hP
              have hD : va_D A [(m_all, aI cs 51207 g_142), (md, .inr (9, [.int 0, .ref m_all, .ref m_deeds, .ref m_trial, .int 1, .ref m_hasImage, .ref m_tape, .ref m_key, .ref m_answered, .int 0, .int 0, .int 0, .ref m_goes, .int 0, .ref m_hotOnes, .ref m_indexed, .ref m_isChanged, .int 0, .ref m_valueNow, .int 0, .int (-1), .int 0, .ref m_didSome, .ref m_sizes, .ref m_ends]))] := hD
              refine lv_aload_n hx hb dX9_open_174 rfl (lv_at hl 3 rfl) ?_
              refine lv_iload_n hx hb dX9_open_175 rfl (lv_at hl 4 rfl) ?_
              refine kV_i (ci := 9) (As := [.int 1]) (rest := []) (wc := [(md, .inr (9, [.int 0, .ref m_all, .ref m_deeds, .ref m_trial, .int 1, .ref m_hasImage, .ref m_tape, .ref m_key, .ref m_answered, .int 0, .int 0, .int 0, .ref m_goes, .int 0, .ref m_hotOnes, .ref m_indexed, .ref m_isChanged, .int 0, .ref m_valueNow, .int 0, .int (-1), .int 0, .ref m_didSome, .ref m_sizes, .ref m_ends])), (m_all, aI cs 51207 g_142)]) (wr := []) hx hb hml hown hu hK hP hD hS hA hl.1 (c_X9_leftOf1 l D cs H.size md m_all m_deeds m_trial m_hasImage m_tape m_key m_answered m_goes m_hotOnes m_indexed m_isChanged m_valueNow m_didSome m_sizes m_ends 1 0 0 g_142 za_141) (gV u_1448 u_1450 u_57 u_76 u_1451) hd_X9_leftOf ⟨(Nat.le_of_ble_eq_true rfl), (Nat.le_of_ble_eq_true rfl)⟩ [1, 0] [] rfl rfl rfl rfl (by decide) rfl 0 rfl rfl rfl (Nat.le_of_ble_eq_true rfl) dX9_open_176 ⟨(Nat.le_of_ble_eq_true rfl), (Nat.le_of_ble_eq_true rfl)⟩ (fun r_144 ut_145 H locs hw_146 hP hD hS => ?_)
              have hP : va_P D vwCl [] H := hP
              have hD : va_D A [] := hD
              have er_147 := hw_146
              subst er_147
              exact hz () hP hD hS (by grind) [] rfl rfl (Nat.le_of_ble_eq_true rfl) (Nat.le_of_ble_eq_true rfl) .int rfl rfl dX9_open_179
            · subst c_33
              refine lv_aload_n hx hb dX9_open_79 rfl (lv_at hl 1 rfl) ?_
              refine kV_v (ci := 9) (As := []) (rest := []) (wc := [(md, .inr (9, [.int 0, .ref m_all, .ref m_deeds, .ref m_trial, .int 0, .ref m_hasImage, .ref m_tape, .ref m_key, .ref m_answered, .int 0, .int 0, .int 0, .ref m_goes, .int 0, .ref m_hotOnes, .ref m_indexed, .ref m_isChanged, .int 0, .ref m_valueNow, .int 0, .int (-1), .int 0, .ref m_didSome, .ref m_sizes, .ref m_ends])), (m_all, aI cs 51207 f_m_all), (m_deeds, aI cs 170690 f_m_deeds), (m_trial, aI cs 17069 f_m_trial)]) (wr := []) hx hb hml hown hu hK hP hD hS hA hl.1 (c_X9_notes l D cs H.size md m_all f_m_all m_deeds f_m_deeds m_trial f_m_trial m_hasImage m_tape m_key m_answered m_goes m_hotOnes m_indexed m_isChanged m_valueNow m_didSome m_sizes m_ends 0 0 z_all) (gV u_1331 u_1333 u_45 u_76 u_1334) hd_X9_notes ⟨(Nat.le_of_ble_eq_true rfl), (Nat.le_of_ble_eq_true rfl)⟩ [2, 3, 0, 1] [] rfl rfl rfl rfl (by decide) rfl 0 rfl rfl rfl (Nat.le_of_ble_eq_true rfl) dX9_open_80 ⟨(Nat.le_of_ble_eq_true rfl), (Nat.le_of_ble_eq_true rfl)⟩ (fun ut_149 H locs hw_150 hP hD hS => ?_)
              have hP : va_P D vwCl [(m_all, aI cs 51207 f_m_all), (md, .inr (9, [.int 0, .ref m_all, .ref m_deeds, .ref m_trial, .int 1, .ref m_hasImage, .ref m_tape, .ref m_key, .ref m_answered, .int 0, .int 0, .int 0, .ref m_goes, .int 0, .ref m_hotOnes, .ref m_indexed, .ref m_isChanged, .int 0, .ref m_valueNow, .int 0, .int (-1), .int 0, .ref m_didSome, .ref m_sizes, .ref m_ends]))] H := hP
              have hD : va_D A [(m_all, aI cs 51207 f_m_all), (md, .inr (9, [.int 0, .ref m_all, .ref m_deeds, .ref m_trial, .int 1, .ref m_hasImage, .ref m_tape, .ref m_key, .ref m_answered, .int 0, .int 0, .int 0, .ref m_goes, .int 0, .ref m_hotOnes, .ref m_indexed, .ref m_isChanged, .int 0, .ref m_valueNow, .int 0, .int (-1), .int 0, .ref m_didSome, .ref m_sizes, .ref m_ends]))] := hD
              refine lv_bipush (v := 59) hx hb dX9_open_83 (by decide) ?_
              refine lv_bipush (v := 11) hx hb dX9_open_85 (by decide) ?_
              refine lv_iload_n hx hb dX9_open_87 rfl (lv_at hl 2 rfl) ?_
              refine lv_imul hx hb dX9_open_88 ?_
              refine tpi (y := 22) (by decide) ?_
              refine lv_iadd hx hb dX9_open_89 ?_
              refine tpi (y := 81) (by decide) ?_
              refine lv_istore (lv' := [(5, .int 81), (4, .int 0), (0, .ref md), (1, .int 2), (2, .int 0), (3, .int z)]) hx hb dX9_open_90 hl (by decide) rfl (fun ls hl => ?_)
              refine lv_aload_n hx hb dX9_open_92 rfl (lv_at hl 2 rfl) ?_
              refine va_get (D := D) (ci := 9) (v := .ref m_all) (C := RX9) (T := TX9) (N := 25) hx hb hu in_X9 hown hK.1 hP 1 rfl rfl 1 (by decide) (hu _ u_1081) (fun _ h9 => h9) rfl dX9_open_93 ?_
              refine lv_iload hx hb dX9_open_96 (lv_at hl 0 rfl) ?_
              refine lv_iconst (v := 0) hx hb dX9_open_98 (by decide) ?_
              refine lv_iadd hx hb dX9_open_99 ?_
              refine tpi (y := 81) (by decide) ?_
              refine lv_iload hx hb dX9_open_100 (lv_at hl 1 rfl) ?_
              refine va_iast hx hb hK.1 hP hD hS 0 0 rfl rfl (vin_c _ _ rfl) dX9_open_102 (fun H locs hP hD hS => ?_)
              have hP : va_P D vwCl [(m_all, aI cs 51207 (upd f_m_all (81 : Int32).toNatClampNeg 0)), (md, .inr (9, [.int 0, .ref m_all, .ref m_deeds, .ref m_trial, .int 1, .ref m_hasImage, .ref m_tape, .ref m_key, .ref m_answered, .int 0, .int 0, .int 0, .ref m_goes, .int 0, .ref m_hotOnes, .ref m_indexed, .ref m_isChanged, .int 0, .ref m_valueNow, .int 0, .int (-1), .int 0, .ref m_didSome, .ref m_sizes, .ref m_ends]))] H := hP
              have hD : va_D A [(m_all, aI cs 51207 (upd f_m_all (81 : Int32).toNatClampNeg 0)), (md, .inr (9, [.int 0, .ref m_all, .ref m_deeds, .ref m_trial, .int 1, .ref m_hasImage, .ref m_tape, .ref m_key, .ref m_answered, .int 0, .int 0, .int 0, .ref m_goes, .int 0, .ref m_hotOnes, .ref m_indexed, .ref m_isChanged, .int 0, .ref m_valueNow, .int 0, .int (-1), .int 0, .ref m_didSome, .ref m_sizes, .ref m_ends]))] := hD
              have za_151 : ∀ j, j < 51207 → j ≠ 81 → (upd f_m_all (81 : Int32).toNatClampNeg 0) j = AL j := upd_ALx z_all
              obtain ⟨g_152, eg_153⟩ : ∃ g9 : Nat → Int32, upd f_m_all (81 : Int32).toNatClampNeg 0 = g9 := ⟨_, rfl⟩
              rw [eg_153] at hP hD za_151
              refine lv_aload_n hx hb dX9_open_103 rfl (lv_at hl 2 rfl) ?_
              refine va_get (D := D) (ci := 9) (v := .ref m_all) (C := RX9) (T := TX9) (N := 25) hx hb hu in_X9 hown hK.1 hP 1 rfl rfl 1 (by decide) (hu _ u_1081) (fun _ h9 => h9) rfl dX9_open_104 ?_
              refine lv_iload hx hb dX9_open_107 (lv_at hl 0 rfl) ?_
              refine lv_iconst (v := 1) hx hb dX9_open_109 (by decide) ?_
              refine lv_iadd hx hb dX9_open_110 ?_
              refine tpi (y := 82) (by decide) ?_
              refine lv_iload_n hx hb dX9_open_111 rfl (lv_at hl 4 rfl) ?_
              refine va_iast hx hb hK.1 hP hD hS 0 0 rfl rfl (vin_c _ _ rfl) dX9_open_112 (fun H locs hP hD hS => ?_)
              have hP : va_P D vwCl [(m_all, aI cs 51207 (upd g_152 (82 : Int32).toNatClampNeg 0)), (md, .inr (9, [.int 0, .ref m_all, .ref m_deeds, .ref m_trial, .int 1, .ref m_hasImage, .ref m_tape, .ref m_key, .ref m_answered, .int 0, .int 0, .int 0, .ref m_goes, .int 0, .ref m_hotOnes, .ref m_indexed, .ref m_isChanged, .int 0, .ref m_valueNow, .int 0, .int (-1), .int 0, .ref m_didSome, .ref m_sizes, .ref m_ends]))] H := hP
              have hD : va_D A [(m_all, aI cs 51207 (upd g_152 (82 : Int32).toNatClampNeg 0)), (md, .inr (9, [.int 0, .ref m_all, .ref m_deeds, .ref m_trial, .int 1, .ref m_hasImage, .ref m_tape, .ref m_key, .ref m_answered, .int 0, .int 0, .int 0, .ref m_goes, .int 0, .ref m_hotOnes, .ref m_indexed, .ref m_isChanged, .int 0, .ref m_valueNow, .int 0, .int (-1), .int 0, .ref m_didSome, .ref m_sizes, .ref m_ends]))] := hD
              have za_154 : ∀ j, j < 51207 → j ≠ 81 → (upd g_152 (82 : Int32).toNatClampNeg 0) j = AL j := upd_ALy za_151 (by decide +kernel)
              obtain ⟨g_155, eg_156⟩ : ∃ g9 : Nat → Int32, upd g_152 (82 : Int32).toNatClampNeg 0 = g9 := ⟨_, rfl⟩
              rw [eg_156] at hP hD za_154
              refine lv_iconst (v := 0) hx hb dX9_open_113 (by decide) ?_
              refine lv_istore (lv' := [(6, .int 0), (5, .int 81), (4, .int 0), (0, .ref md), (1, .int 2), (2, .int 0), (3, .int z)]) hx hb dX9_open_114 hl (by decide) rfl (fun ls hl => ?_)
              refine lv_iload hx hb dX9_open_116 (lv_at hl 0 rfl) ?_
              refine lv_bipush (v := 8) hx hb dX9_open_118 (by decide) ?_
              refine lv_icmp_ge (tgt := 158) hx hb dX9_open_120 (by decide) (fun c_157 => absurd c_157 (by decide)) (fun c_157 => ?_)
              refine lv_aload_n hx hb dX9_open_123 rfl (lv_at hl 3 rfl) ?_
              refine va_get (D := D) (ci := 9) (v := .ref m_all) (C := RX9) (T := TX9) (N := 25) hx hb hu in_X9 hown hK.1 hP 1 rfl rfl 1 (by decide) (hu _ u_1081) (fun _ h9 => h9) rfl dX9_open_124 ?_
              refine lv_iload hx hb dX9_open_127 (lv_at hl 1 rfl) ?_
              refine lv_iconst (v := 2) hx hb dX9_open_129 (by decide) ?_
              refine lv_iadd hx hb dX9_open_130 ?_
              refine tpi (y := 83) (by decide) ?_
              refine lv_iload hx hb dX9_open_131 (lv_at hl 0 rfl) ?_
              refine lv_iadd hx hb dX9_open_133 ?_
              refine tpi (y := 83) (by decide) ?_
              refine lv_iload hx hb dX9_open_134 (lv_at hl 0 rfl) ?_
              refine lv_iload_n hx hb dX9_open_136 rfl (lv_at hl 5 rfl) ?_
              refine lv_icmp_ge (tgt := 150) hx hb dX9_open_137 (by decide) (fun c_158 => ?_) (fun c_158 => absurd (by decide) c_158)
              refine lv_iconst (v := 0) hx hb dX9_open_150 (by decide) ?_
              refine va_iast hx hb hK.1 hP hD hS 0 0 rfl rfl (vin_c _ _ rfl) dX9_open_151 (fun H locs hP hD hS => ?_)
              have hP : va_P D vwCl [(m_all, aI cs 51207 (upd g_155 (83 : Int32).toNatClampNeg 0)), (md, .inr (9, [.int 0, .ref m_all, .ref m_deeds, .ref m_trial, .int 1, .ref m_hasImage, .ref m_tape, .ref m_key, .ref m_answered, .int 0, .int 0, .int 0, .ref m_goes, .int 0, .ref m_hotOnes, .ref m_indexed, .ref m_isChanged, .int 0, .ref m_valueNow, .int 0, .int (-1), .int 0, .ref m_didSome, .ref m_sizes, .ref m_ends]))] H := hP
              have hD : va_D A [(m_all, aI cs 51207 (upd g_155 (83 : Int32).toNatClampNeg 0)), (md, .inr (9, [.int 0, .ref m_all, .ref m_deeds, .ref m_trial, .int 1, .ref m_hasImage, .ref m_tape, .ref m_key, .ref m_answered, .int 0, .int 0, .int 0, .ref m_goes, .int 0, .ref m_hotOnes, .ref m_indexed, .ref m_isChanged, .int 0, .ref m_valueNow, .int 0, .int (-1), .int 0, .ref m_didSome, .ref m_sizes, .ref m_ends]))] := hD
              have za_159 : ∀ j, j < 51207 → j ≠ 81 → (upd g_155 (83 : Int32).toNatClampNeg 0) j = AL j := upd_ALy za_154 (by decide +kernel)
              obtain ⟨g_160, eg_161⟩ : ∃ g9 : Nat → Int32, upd g_155 (83 : Int32).toNatClampNeg 0 = g9 := ⟨_, rfl⟩
              rw [eg_161] at hP hD za_159
              refine lv_iinc (v := 1) (lv' := [(6, .int 1), (5, .int 81), (4, .int 0), (0, .ref md), (1, .int 2), (2, .int 0), (3, .int z)]) hx hb dX9_open_152 hl (k := 0) rfl (by decide) (by decide) rfl (fun ls hl => ?_)
              refine lv_goto (tgt := 116) hx hb dX9_open_155 (by decide) ?_
              refine lv_iload hx hb dX9_open_116 (lv_at hl 0 rfl) ?_
              refine lv_bipush (v := 8) hx hb dX9_open_118 (by decide) ?_
              refine lv_icmp_ge (tgt := 158) hx hb dX9_open_120 (by decide) (fun c_162 => absurd c_162 (by decide)) (fun c_162 => ?_)
              refine lv_aload_n hx hb dX9_open_123 rfl (lv_at hl 3 rfl) ?_
              refine va_get (D := D) (ci := 9) (v := .ref m_all) (C := RX9) (T := TX9) (N := 25) hx hb hu in_X9 hown hK.1 hP 1 rfl rfl 1 (by decide) (hu _ u_1081) (fun _ h9 => h9) rfl dX9_open_124 ?_
              refine lv_iload hx hb dX9_open_127 (lv_at hl 1 rfl) ?_
              refine lv_iconst (v := 2) hx hb dX9_open_129 (by decide) ?_
              refine lv_iadd hx hb dX9_open_130 ?_
              refine tpi (y := 83) (by decide) ?_
              refine lv_iload hx hb dX9_open_131 (lv_at hl 0 rfl) ?_
              refine lv_iadd hx hb dX9_open_133 ?_
              refine tpi (y := 84) (by decide) ?_
              refine lv_iload hx hb dX9_open_134 (lv_at hl 0 rfl) ?_
              refine lv_iload_n hx hb dX9_open_136 rfl (lv_at hl 5 rfl) ?_
              refine lv_icmp_ge (tgt := 150) hx hb dX9_open_137 (by decide) (fun c_163 => ?_) (fun c_163 => absurd (by decide) c_163)
              refine lv_iconst (v := 0) hx hb dX9_open_150 (by decide) ?_
              refine va_iast hx hb hK.1 hP hD hS 0 0 rfl rfl (vin_c _ _ rfl) dX9_open_151 (fun H locs hP hD hS => ?_)
              have hP : va_P D vwCl [(m_all, aI cs 51207 (upd g_160 (84 : Int32).toNatClampNeg 0)), (md, .inr (9, [.int 0, .ref m_all, .ref m_deeds, .ref m_trial, .int 1, .ref m_hasImage, .ref m_tape, .ref m_key, .ref m_answered, .int 0, .int 0, .int 0, .ref m_goes, .int 0, .ref m_hotOnes, .ref m_indexed, .ref m_isChanged, .int 0, .ref m_valueNow, .int 0, .int (-1), .int 0, .ref m_didSome, .ref m_sizes, .ref m_ends]))] H := hP
              have hD : va_D A [(m_all, aI cs 51207 (upd g_160 (84 : Int32).toNatClampNeg 0)), (md, .inr (9, [.int 0, .ref m_all, .ref m_deeds, .ref m_trial, .int 1, .ref m_hasImage, .ref m_tape, .ref m_key, .ref m_answered, .int 0, .int 0, .int 0, .ref m_goes, .int 0, .ref m_hotOnes, .ref m_indexed, .ref m_isChanged, .int 0, .ref m_valueNow, .int 0, .int (-1), .int 0, .ref m_didSome, .ref m_sizes, .ref m_ends]))] := hD
              have za_164 : ∀ j, j < 51207 → j ≠ 81 → (upd g_160 (84 : Int32).toNatClampNeg 0) j = AL j := upd_ALy za_159 (by decide +kernel)
              obtain ⟨g_165, eg_166⟩ : ∃ g9 : Nat → Int32, upd g_160 (84 : Int32).toNatClampNeg 0 = g9 := ⟨_, rfl⟩
              rw [eg_166] at hP hD za_164
              refine lv_iinc (v := 2) (lv' := [(6, .int 2), (5, .int 81), (4, .int 0), (0, .ref md), (1, .int 2), (2, .int 0), (3, .int z)]) hx hb dX9_open_152 hl (k := 0) rfl (by decide) (by decide) rfl (fun ls hl => ?_)
              refine lv_goto (tgt := 116) hx hb dX9_open_155 (by decide) ?_
              refine lv_iload hx hb dX9_open_116 (lv_at hl 0 rfl) ?_
              refine lv_bipush (v := 8) hx hb dX9_open_118 (by decide) ?_
              refine lv_icmp_ge (tgt := 158) hx hb dX9_open_120 (by decide) (fun c_167 => absurd c_167 (by decide)) (fun c_167 => ?_)
              refine lv_aload_n hx hb dX9_open_123 rfl (lv_at hl 3 rfl) ?_
              refine va_get (D := D) (ci := 9) (v := .ref m_all) (C := RX9) (T := TX9) (N := 25) hx hb hu in_X9 hown hK.1 hP 1 rfl rfl 1 (by decide) (hu _ u_1081) (fun _ h9 => h9) rfl dX9_open_124 ?_
              refine lv_iload hx hb dX9_open_127 (lv_at hl 1 rfl) ?_
              refine lv_iconst (v := 2) hx hb dX9_open_129 (by decide) ?_
              refine lv_iadd hx hb dX9_open_130 ?_
              refine tpi (y := 83) (by decide) ?_
              refine lv_iload hx hb dX9_open_131 (lv_at hl 0 rfl) ?_
              refine lv_iadd hx hb dX9_open_133 ?_
              refine tpi (y := 85) (by decide) ?_
              refine lv_iload hx hb dX9_open_134 (lv_at hl 0 rfl) ?_
              refine lv_iload_n hx hb dX9_open_136 rfl (lv_at hl 5 rfl) ?_
              refine lv_icmp_ge (tgt := 150) hx hb dX9_open_137 (by decide) (fun c_168 => ?_) (fun c_168 => absurd (by decide) c_168)
              refine lv_iconst (v := 0) hx hb dX9_open_150 (by decide) ?_
              refine va_iast hx hb hK.1 hP hD hS 0 0 rfl rfl (vin_c _ _ rfl) dX9_open_151 (fun H locs hP hD hS => ?_)
              have hP : va_P D vwCl [(m_all, aI cs 51207 (upd g_165 (85 : Int32).toNatClampNeg 0)), (md, .inr (9, [.int 0, .ref m_all, .ref m_deeds, .ref m_trial, .int 1, .ref m_hasImage, .ref m_tape, .ref m_key, .ref m_answered, .int 0, .int 0, .int 0, .ref m_goes, .int 0, .ref m_hotOnes, .ref m_indexed, .ref m_isChanged, .int 0, .ref m_valueNow, .int 0, .int (-1), .int 0, .ref m_didSome, .ref m_sizes, .ref m_ends]))] H := hP
              have hD : va_D A [(m_all, aI cs 51207 (upd g_165 (85 : Int32).toNatClampNeg 0)), (md, .inr (9, [.int 0, .ref m_all, .ref m_deeds, .ref m_trial, .int 1, .ref m_hasImage, .ref m_tape, .ref m_key, .ref m_answered, .int 0, .int 0, .int 0, .ref m_goes, .int 0, .ref m_hotOnes, .ref m_indexed, .ref m_isChanged, .int 0, .ref m_valueNow, .int 0, .int (-1), .int 0, .ref m_didSome, .ref m_sizes, .ref m_ends]))] := hD
              have za_169 : ∀ j, j < 51207 → j ≠ 81 → (upd g_165 (85 : Int32).toNatClampNeg 0) j = AL j := upd_ALy za_164 (by decide +kernel)
              obtain ⟨g_170, eg_171⟩ : ∃ g9 : Nat → Int32, upd g_165 (85 : Int32).toNatClampNeg 0 = g9 := ⟨_, rfl⟩
              rw [eg_171] at hP hD za_169
              refine lv_iinc (v := 3) (lv' := [(6, .int 3), (5, .int 81), (4, .int 0), (0, .ref md), (1, .int 2), (2, .int 0), (3, .int z)]) hx hb dX9_open_152 hl (k := 0) rfl (by decide) (by decide) rfl (fun ls hl => ?_)
              refine lv_goto (tgt := 116) hx hb dX9_open_155 (by decide) ?_
              refine lv_iload hx hb dX9_open_116 (lv_at hl 0 rfl) ?_
              refine lv_bipush (v := 8) hx hb dX9_open_118 (by decide) ?_
              refine lv_icmp_ge (tgt := 158) hx hb dX9_open_120 (by decide) (fun c_172 => absurd c_172 (by decide)) (fun c_172 => ?_)
              refine lv_aload_n hx hb dX9_open_123 rfl (lv_at hl 3 rfl) ?_
              refine va_get (D := D) (ci := 9) (v := .ref m_all) (C := RX9) (T := TX9) (N := 25) hx hb hu in_X9 hown hK.1 hP 1 rfl rfl 1 (by decide) (hu _ u_1081) (fun _ h9 => h9) rfl dX9_open_124 ?_
              refine lv_iload hx hb dX9_open_127 (lv_at hl 1 rfl) ?_
              refine lv_iconst (v := 2) hx hb dX9_open_129 (by decide) ?_
              refine lv_iadd hx hb dX9_open_130 ?_
              refine tpi (y := 83) (by decide) ?_
              refine lv_iload hx hb dX9_open_131 (lv_at hl 0 rfl) ?_
              refine lv_iadd hx hb dX9_open_133 ?_
              refine tpi (y := 86) (by decide) ?_
              refine lv_iload hx hb dX9_open_134 (lv_at hl 0 rfl) ?_
              refine lv_iload_n hx hb dX9_open_136 rfl (lv_at hl 5 rfl) ?_
              refine lv_icmp_ge (tgt := 150) hx hb dX9_open_137 (by decide) (fun c_173 => ?_) (fun c_173 => absurd (by decide) c_173)
              refine lv_iconst (v := 0) hx hb dX9_open_150 (by decide) ?_
              refine va_iast hx hb hK.1 hP hD hS 0 0 rfl rfl (vin_c _ _ rfl) dX9_open_151 (fun H locs hP hD hS => ?_)
              have hP : va_P D vwCl [(m_all, aI cs 51207 (upd g_170 (86 : Int32).toNatClampNeg 0)), (md, .inr (9, [.int 0, .ref m_all, .ref m_deeds, .ref m_trial, .int 1, .ref m_hasImage, .ref m_tape, .ref m_key, .ref m_answered, .int 0, .int 0, .int 0, .ref m_goes, .int 0, .ref m_hotOnes, .ref m_indexed, .ref m_isChanged, .int 0, .ref m_valueNow, .int 0, .int (-1), .int 0, .ref m_didSome, .ref m_sizes, .ref m_ends]))] H := hP
              have hD : va_D A [(m_all, aI cs 51207 (upd g_170 (86 : Int32).toNatClampNeg 0)), (md, .inr (9, [.int 0, .ref m_all, .ref m_deeds, .ref m_trial, .int 1, .ref m_hasImage, .ref m_tape, .ref m_key, .ref m_answered, .int 0, .int 0, .int 0, .ref m_goes, .int 0, .ref m_hotOnes, .ref m_indexed, .ref m_isChanged, .int 0, .ref m_valueNow, .int 0, .int (-1), .int 0, .ref m_didSome, .ref m_sizes, .ref m_ends]))] := hD
              have za_174 : ∀ j, j < 51207 → j ≠ 81 → (upd g_170 (86 : Int32).toNatClampNeg 0) j = AL j := upd_ALy za_169 (by decide +kernel)
              obtain ⟨g_175, eg_176⟩ : ∃ g9 : Nat → Int32, upd g_170 (86 : Int32).toNatClampNeg 0 = g9 := ⟨_, rfl⟩
              rw [eg_176] at hP hD za_174
              refine lv_iinc (v := 4) (lv' := [(6, .int 4), (5, .int 81), (4, .int 0), (0, .ref md), (1, .int 2), (2, .int 0), (3, .int z)]) hx hb dX9_open_152 hl (k := 0) rfl (by decide) (by decide) rfl (fun ls hl => ?_)
              refine lv_goto (tgt := 116) hx hb dX9_open_155 (by decide) ?_
              refine lv_iload hx hb dX9_open_116 (lv_at hl 0 rfl) ?_
              refine lv_bipush (v := 8) hx hb dX9_open_118 (by decide) ?_
              refine lv_icmp_ge (tgt := 158) hx hb dX9_open_120 (by decide) (fun c_177 => absurd c_177 (by decide)) (fun c_177 => ?_)
              refine lv_aload_n hx hb dX9_open_123 rfl (lv_at hl 3 rfl) ?_
              refine va_get (D := D) (ci := 9) (v := .ref m_all) (C := RX9) (T := TX9) (N := 25) hx hb hu in_X9 hown hK.1 hP 1 rfl rfl 1 (by decide) (hu _ u_1081) (fun _ h9 => h9) rfl dX9_open_124 ?_
              refine lv_iload hx hb dX9_open_127 (lv_at hl 1 rfl) ?_
              refine lv_iconst (v := 2) hx hb dX9_open_129 (by decide) ?_
              refine lv_iadd hx hb dX9_open_130 ?_
              refine tpi (y := 83) (by decide) ?_
              refine lv_iload hx hb dX9_open_131 (lv_at hl 0 rfl) ?_
              refine lv_iadd hx hb dX9_open_133 ?_
              refine tpi (y := 87) (by decide) ?_
              refine lv_iload hx hb dX9_open_134 (lv_at hl 0 rfl) ?_
              refine lv_iload_n hx hb dX9_open_136 rfl (lv_at hl 5 rfl) ?_
              refine lv_icmp_ge (tgt := 150) hx hb dX9_open_137 (by decide) (fun c_178 => ?_) (fun c_178 => absurd (by decide) c_178)
              refine lv_iconst (v := 0) hx hb dX9_open_150 (by decide) ?_
              refine va_iast hx hb hK.1 hP hD hS 0 0 rfl rfl (vin_c _ _ rfl) dX9_open_151 (fun H locs hP hD hS => ?_)
              have hP : va_P D vwCl [(m_all, aI cs 51207 (upd g_175 (87 : Int32).toNatClampNeg 0)), (md, .inr (9, [.int 0, .ref m_all, .ref m_deeds, .ref m_trial, .int 1, .ref m_hasImage, .ref m_tape, .ref m_key, .ref m_answered, .int 0, .int 0, .int 0, .ref m_goes, .int 0, .ref m_hotOnes, .ref m_indexed, .ref m_isChanged, .int 0, .ref m_valueNow, .int 0, .int (-1), .int 0, .ref m_didSome, .ref m_sizes, .ref m_ends]))] H := hP
              have hD : va_D A [(m_all, aI cs 51207 (upd g_175 (87 : Int32).toNatClampNeg 0)), (md, .inr (9, [.int 0, .ref m_all, .ref m_deeds, .ref m_trial, .int 1, .ref m_hasImage, .ref m_tape, .ref m_key, .ref m_answered, .int 0, .int 0, .int 0, .ref m_goes, .int 0, .ref m_hotOnes, .ref m_indexed, .ref m_isChanged, .int 0, .ref m_valueNow, .int 0, .int (-1), .int 0, .ref m_didSome, .ref m_sizes, .ref m_ends]))] := hD
              have za_179 : ∀ j, j < 51207 → j ≠ 81 → (upd g_175 (87 : Int32).toNatClampNeg 0) j = AL j := upd_ALy za_174 (by decide +kernel)
              obtain ⟨g_180, eg_181⟩ : ∃ g9 : Nat → Int32, upd g_175 (87 : Int32).toNatClampNeg 0 = g9 := ⟨_, rfl⟩
              rw [eg_181] at hP hD za_179
              refine lv_iinc (v := 5) (lv' := [(6, .int 5), (5, .int 81), (4, .int 0), (0, .ref md), (1, .int 2), (2, .int 0), (3, .int z)]) hx hb dX9_open_152 hl (k := 0) rfl (by decide) (by decide) rfl (fun ls hl => ?_)
              refine lv_goto (tgt := 116) hx hb dX9_open_155 (by decide) ?_
              refine lv_iload hx hb dX9_open_116 (lv_at hl 0 rfl) ?_
              refine lv_bipush (v := 8) hx hb dX9_open_118 (by decide) ?_
              refine lv_icmp_ge (tgt := 158) hx hb dX9_open_120 (by decide) (fun c_182 => absurd c_182 (by decide)) (fun c_182 => ?_)
              refine lv_aload_n hx hb dX9_open_123 rfl (lv_at hl 3 rfl) ?_
              refine va_get (D := D) (ci := 9) (v := .ref m_all) (C := RX9) (T := TX9) (N := 25) hx hb hu in_X9 hown hK.1 hP 1 rfl rfl 1 (by decide) (hu _ u_1081) (fun _ h9 => h9) rfl dX9_open_124 ?_
              refine lv_iload hx hb dX9_open_127 (lv_at hl 1 rfl) ?_
              refine lv_iconst (v := 2) hx hb dX9_open_129 (by decide) ?_
              refine lv_iadd hx hb dX9_open_130 ?_
              refine tpi (y := 83) (by decide) ?_
              refine lv_iload hx hb dX9_open_131 (lv_at hl 0 rfl) ?_
              refine lv_iadd hx hb dX9_open_133 ?_
              refine tpi (y := 88) (by decide) ?_
              refine lv_iload hx hb dX9_open_134 (lv_at hl 0 rfl) ?_
              refine lv_iload_n hx hb dX9_open_136 rfl (lv_at hl 5 rfl) ?_
              refine lv_icmp_ge (tgt := 150) hx hb dX9_open_137 (by decide) (fun c_183 => ?_) (fun c_183 => absurd (by decide) c_183)
              refine lv_iconst (v := 0) hx hb dX9_open_150 (by decide) ?_
              refine va_iast hx hb hK.1 hP hD hS 0 0 rfl rfl (vin_c _ _ rfl) dX9_open_151 (fun H locs hP hD hS => ?_)
              have hP : va_P D vwCl [(m_all, aI cs 51207 (upd g_180 (88 : Int32).toNatClampNeg 0)), (md, .inr (9, [.int 0, .ref m_all, .ref m_deeds, .ref m_trial, .int 1, .ref m_hasImage, .ref m_tape, .ref m_key, .ref m_answered, .int 0, .int 0, .int 0, .ref m_goes, .int 0, .ref m_hotOnes, .ref m_indexed, .ref m_isChanged, .int 0, .ref m_valueNow, .int 0, .int (-1), .int 0, .ref m_didSome, .ref m_sizes, .ref m_ends]))] H := hP
              have hD : va_D A [(m_all, aI cs 51207 (upd g_180 (88 : Int32).toNatClampNeg 0)), (md, .inr (9, [.int 0, .ref m_all, .ref m_deeds, .ref m_trial, .int 1, .ref m_hasImage, .ref m_tape, .ref m_key, .ref m_answered, .int 0, .int 0, .int 0, .ref m_goes, .int 0, .ref m_hotOnes, .ref m_indexed, .ref m_isChanged, .int 0, .ref m_valueNow, .int 0, .int (-1), .int 0, .ref m_didSome, .ref m_sizes, .ref m_ends]))] := hD
              have za_184 : ∀ j, j < 51207 → j ≠ 81 → (upd g_180 (88 : Int32).toNatClampNeg 0) j = AL j := upd_ALy za_179 (by decide +kernel)
              obtain ⟨g_185, eg_186⟩ : ∃ g9 : Nat → Int32, upd g_180 (88 : Int32).toNatClampNeg 0 = g9 := ⟨_, rfl⟩
              rw [eg_186] at hP hD za_184
              refine lv_iinc (v := 6) (lv' := [(6, .int 6), (5, .int 81), (4, .int 0), (0, .ref md), (1, .int 2), (2, .int 0), (3, .int z)]) hx hb dX9_open_152 hl (k := 0) rfl (by decide) (by decide) rfl (fun ls hl => ?_)
              refine lv_goto (tgt := 116) hx hb dX9_open_155 (by decide) ?_
              refine lv_iload hx hb dX9_open_116 (lv_at hl 0 rfl) ?_
              refine lv_bipush (v := 8) hx hb dX9_open_118 (by decide) ?_
              refine lv_icmp_ge (tgt := 158) hx hb dX9_open_120 (by decide) (fun c_187 => absurd c_187 (by decide)) (fun c_187 => ?_)
              refine lv_aload_n hx hb dX9_open_123 rfl (lv_at hl 3 rfl) ?_
              refine va_get (D := D) (ci := 9) (v := .ref m_all) (C := RX9) (T := TX9) (N := 25) hx hb hu in_X9 hown hK.1 hP 1 rfl rfl 1 (by decide) (hu _ u_1081) (fun _ h9 => h9) rfl dX9_open_124 ?_
              refine lv_iload hx hb dX9_open_127 (lv_at hl 1 rfl) ?_
              refine lv_iconst (v := 2) hx hb dX9_open_129 (by decide) ?_
              refine lv_iadd hx hb dX9_open_130 ?_
              refine tpi (y := 83) (by decide) ?_
              refine lv_iload hx hb dX9_open_131 (lv_at hl 0 rfl) ?_
              refine lv_iadd hx hb dX9_open_133 ?_
              refine tpi (y := 89) (by decide) ?_
              refine lv_iload hx hb dX9_open_134 (lv_at hl 0 rfl) ?_
              refine lv_iload_n hx hb dX9_open_136 rfl (lv_at hl 5 rfl) ?_
              refine lv_icmp_ge (tgt := 150) hx hb dX9_open_137 (by decide) (fun c_188 => ?_) (fun c_188 => absurd (by decide) c_188)
              refine lv_iconst (v := 0) hx hb dX9_open_150 (by decide) ?_
              refine va_iast hx hb hK.1 hP hD hS 0 0 rfl rfl (vin_c _ _ rfl) dX9_open_151 (fun H locs hP hD hS => ?_)
              have hP : va_P D vwCl [(m_all, aI cs 51207 (upd g_185 (89 : Int32).toNatClampNeg 0)), (md, .inr (9, [.int 0, .ref m_all, .ref m_deeds, .ref m_trial, .int 1, .ref m_hasImage, .ref m_tape, .ref m_key, .ref m_answered, .int 0, .int 0, .int 0, .ref m_goes, .int 0, .ref m_hotOnes, .ref m_indexed, .ref m_isChanged, .int 0, .ref m_valueNow, .int 0, .int (-1), .int 0, .ref m_didSome, .ref m_sizes, .ref m_ends]))] H := hP
              have hD : va_D A [(m_all, aI cs 51207 (upd g_185 (89 : Int32).toNatClampNeg 0)), (md, .inr (9, [.int 0, .ref m_all, .ref m_deeds, .ref m_trial, .int 1, .ref m_hasImage, .ref m_tape, .ref m_key, .ref m_answered, .int 0, .int 0, .int 0, .ref m_goes, .int 0, .ref m_hotOnes, .ref m_indexed, .ref m_isChanged, .int 0, .ref m_valueNow, .int 0, .int (-1), .int 0, .ref m_didSome, .ref m_sizes, .ref m_ends]))] := hD
              have za_189 : ∀ j, j < 51207 → j ≠ 81 → (upd g_185 (89 : Int32).toNatClampNeg 0) j = AL j := upd_ALy za_184 (by decide +kernel)
              obtain ⟨g_190, eg_191⟩ : ∃ g9 : Nat → Int32, upd g_185 (89 : Int32).toNatClampNeg 0 = g9 := ⟨_, rfl⟩
              rw [eg_191] at hP hD za_189
              refine lv_iinc (v := 7) (lv' := [(6, .int 7), (5, .int 81), (4, .int 0), (0, .ref md), (1, .int 2), (2, .int 0), (3, .int z)]) hx hb dX9_open_152 hl (k := 0) rfl (by decide) (by decide) rfl (fun ls hl => ?_)
              refine lv_goto (tgt := 116) hx hb dX9_open_155 (by decide) ?_
              refine lv_iload hx hb dX9_open_116 (lv_at hl 0 rfl) ?_
              refine lv_bipush (v := 8) hx hb dX9_open_118 (by decide) ?_
              refine lv_icmp_ge (tgt := 158) hx hb dX9_open_120 (by decide) (fun c_192 => absurd c_192 (by decide)) (fun c_192 => ?_)
              refine lv_aload_n hx hb dX9_open_123 rfl (lv_at hl 3 rfl) ?_
              refine va_get (D := D) (ci := 9) (v := .ref m_all) (C := RX9) (T := TX9) (N := 25) hx hb hu in_X9 hown hK.1 hP 1 rfl rfl 1 (by decide) (hu _ u_1081) (fun _ h9 => h9) rfl dX9_open_124 ?_
              refine lv_iload hx hb dX9_open_127 (lv_at hl 1 rfl) ?_
              refine lv_iconst (v := 2) hx hb dX9_open_129 (by decide) ?_
              refine lv_iadd hx hb dX9_open_130 ?_
              refine tpi (y := 83) (by decide) ?_
              refine lv_iload hx hb dX9_open_131 (lv_at hl 0 rfl) ?_
              refine lv_iadd hx hb dX9_open_133 ?_
              refine tpi (y := 90) (by decide) ?_
              refine lv_iload hx hb dX9_open_134 (lv_at hl 0 rfl) ?_
              refine lv_iload_n hx hb dX9_open_136 rfl (lv_at hl 5 rfl) ?_
              refine lv_icmp_ge (tgt := 150) hx hb dX9_open_137 (by decide) (fun c_193 => ?_) (fun c_193 => absurd (by decide) c_193)
              refine lv_iconst (v := 0) hx hb dX9_open_150 (by decide) ?_
              refine va_iast hx hb hK.1 hP hD hS 0 0 rfl rfl (vin_c _ _ rfl) dX9_open_151 (fun H locs hP hD hS => ?_)
              have hP : va_P D vwCl [(m_all, aI cs 51207 (upd g_190 (90 : Int32).toNatClampNeg 0)), (md, .inr (9, [.int 0, .ref m_all, .ref m_deeds, .ref m_trial, .int 1, .ref m_hasImage, .ref m_tape, .ref m_key, .ref m_answered, .int 0, .int 0, .int 0, .ref m_goes, .int 0, .ref m_hotOnes, .ref m_indexed, .ref m_isChanged, .int 0, .ref m_valueNow, .int 0, .int (-1), .int 0, .ref m_didSome, .ref m_sizes, .ref m_ends]))] H := hP
              have hD : va_D A [(m_all, aI cs 51207 (upd g_190 (90 : Int32).toNatClampNeg 0)), (md, .inr (9, [.int 0, .ref m_all, .ref m_deeds, .ref m_trial, .int 1, .ref m_hasImage, .ref m_tape, .ref m_key, .ref m_answered, .int 0, .int 0, .int 0, .ref m_goes, .int 0, .ref m_hotOnes, .ref m_indexed, .ref m_isChanged, .int 0, .ref m_valueNow, .int 0, .int (-1), .int 0, .ref m_didSome, .ref m_sizes, .ref m_ends]))] := hD
              have za_194 : ∀ j, j < 51207 → j ≠ 81 → (upd g_190 (90 : Int32).toNatClampNeg 0) j = AL j := upd_ALy za_189 (by decide +kernel)
              obtain ⟨g_195, eg_196⟩ : ∃ g9 : Nat → Int32, upd g_190 (90 : Int32).toNatClampNeg 0 = g9 := ⟨_, rfl⟩
              rw [eg_196] at hP hD za_194
              refine lv_iinc (v := 8) (lv' := [(6, .int 8), (5, .int 81), (4, .int 0), (0, .ref md), (1, .int 2), (2, .int 0), (3, .int z)]) hx hb dX9_open_152 hl (k := 0) rfl (by decide) (by decide) rfl (fun ls hl => ?_)
              refine lv_goto (tgt := 116) hx hb dX9_open_155 (by decide) ?_
              refine lv_iload hx hb dX9_open_116 (lv_at hl 0 rfl) ?_
              refine lv_bipush (v := 8) hx hb dX9_open_118 (by decide) ?_
              refine lv_icmp_ge (tgt := 158) hx hb dX9_open_120 (by decide) (fun c_197 => ?_) (fun c_197 => absurd (by decide) c_197)
              refine lv_aload_n hx hb dX9_open_158 rfl (lv_at hl 3 rfl) ?_
              refine va_get (D := D) (ci := 9) (v := .ref m_all) (C := RX9) (T := TX9) (N := 25) hx hb hu in_X9 hown hK.1 hP 1 rfl rfl 1 (by decide) (hu _ u_1081) (fun _ h9 => h9) rfl dX9_open_159 ?_
              refine lv_iload hx hb dX9_open_162 (lv_at hl 1 rfl) ?_
              refine lv_bipush (v := 10) hx hb dX9_open_164 (by decide) ?_
              refine lv_iadd hx hb dX9_open_166 ?_
              refine tpi (y := 91) (by decide) ?_
              refine lv_iconst (v := 0) hx hb dX9_open_167 (by decide) ?_
              refine va_iast hx hb hK.1 hP hD hS 0 0 rfl rfl (vin_c _ _ rfl) dX9_open_168 (fun H locs hP hD hS => ?_)
              have hP : va_P D vwCl [(m_all, aI cs 51207 (upd g_195 (91 : Int32).toNatClampNeg 0)), (md, .inr (9, [.int 0, .ref m_all, .ref m_deeds, .ref m_trial, .int 1, .ref m_hasImage, .ref m_tape, .ref m_key, .ref m_answered, .int 0, .int 0, .int 0, .ref m_goes, .int 0, .ref m_hotOnes, .ref m_indexed, .ref m_isChanged, .int 0, .ref m_valueNow, .int 0, .int (-1), .int 0, .ref m_didSome, .ref m_sizes, .ref m_ends]))] H := hP
              have hD : va_D A [(m_all, aI cs 51207 (upd g_195 (91 : Int32).toNatClampNeg 0)), (md, .inr (9, [.int 0, .ref m_all, .ref m_deeds, .ref m_trial, .int 1, .ref m_hasImage, .ref m_tape, .ref m_key, .ref m_answered, .int 0, .int 0, .int 0, .ref m_goes, .int 0, .ref m_hotOnes, .ref m_indexed, .ref m_isChanged, .int 0, .ref m_valueNow, .int 0, .int (-1), .int 0, .ref m_didSome, .ref m_sizes, .ref m_ends]))] := hD
              have za_198 : ∀ j, j < 51207 → j ≠ 81 → (upd g_195 (91 : Int32).toNatClampNeg 0) j = AL j := upd_ALy za_194 (by decide +kernel)
              obtain ⟨g_199, eg_200⟩ : ∃ g9 : Nat → Int32, upd g_195 (91 : Int32).toNatClampNeg 0 = g9 := ⟨_, rfl⟩
              rw [eg_200] at hP hD za_198
              refine lv_aload_n hx hb dX9_open_169 rfl (lv_at hl 3 rfl) ?_
              refine lv_iconst (v := 0) hx hb dX9_open_170 (by decide) ?_
              refine va_put (D := D) (ci := 9) (v := .int 0) (ty := tyX9 9) (C := RX9) (T := TX9) (N := 25) hx hb hu in_X9 tyX9 tyX9_ok nmX9 hown hK.1 hP hD hS 1 rfl rfl 9 (by decide) (hu _ u_1089) (fun _ h9 => h9) rfl (tyX9_ok 9 (by decide)) rfl rfl (Nat.le_of_ble_eq_true rfl) dX9_open_171 (fun H locs hP hD hS => ?_)
              have hP : va_P D vwCl [(m_all, aI cs 51207 g_199), (md, .inr (9, [.int 0, .ref m_all, .ref m_deeds, .ref m_trial, .int 1, .ref m_hasImage, .ref m_tape, .ref m_key, .ref m_answered, .int 0, .int 0, .int 0, .ref m_goes, .int 0, .ref m_hotOnes, .ref m_indexed, .ref m_isChanged, .int 0, .ref m_valueNow, .int 0, .int (-1), .int 0, .ref m_didSome, .ref m_sizes, .ref m_ends]))] H := hP
              have hD : va_D A [(m_all, aI cs 51207 g_199), (md, .inr (9, [.int 0, .ref m_all, .ref m_deeds, .ref m_trial, .int 1, .ref m_hasImage, .ref m_tape, .ref m_key, .ref m_answered, .int 0, .int 0, .int 0, .ref m_goes, .int 0, .ref m_hotOnes, .ref m_indexed, .ref m_isChanged, .int 0, .ref m_valueNow, .int 0, .int (-1), .int 0, .ref m_didSome, .ref m_sizes, .ref m_ends]))] := hD
              refine lv_aload_n hx hb dX9_open_174 rfl (lv_at hl 3 rfl) ?_
              refine lv_iload_n hx hb dX9_open_175 rfl (lv_at hl 4 rfl) ?_
              refine kV_i (ci := 9) (As := [.int 2]) (rest := []) (wc := [(md, .inr (9, [.int 0, .ref m_all, .ref m_deeds, .ref m_trial, .int 1, .ref m_hasImage, .ref m_tape, .ref m_key, .ref m_answered, .int 0, .int 0, .int 0, .ref m_goes, .int 0, .ref m_hotOnes, .ref m_indexed, .ref m_isChanged, .int 0, .ref m_valueNow, .int 0, .int (-1), .int 0, .ref m_didSome, .ref m_sizes, .ref m_ends])), (m_all, aI cs 51207 g_199)]) (wr := []) hx hb hml hown hu hK hP hD hS hA hl.1 (c_X9_leftOf2 l D cs H.size md m_all m_deeds m_trial m_hasImage m_tape m_key m_answered m_goes m_hotOnes m_indexed m_isChanged m_valueNow m_didSome m_sizes m_ends 1 0 0 g_199 za_198) (gV u_1448 u_1450 u_57 u_76 u_1451) hd_X9_leftOf ⟨(Nat.le_of_ble_eq_true rfl), (Nat.le_of_ble_eq_true rfl)⟩ [1, 0] [] rfl rfl rfl rfl (by decide) rfl 0 rfl rfl rfl (Nat.le_of_ble_eq_true rfl) dX9_open_176 ⟨(Nat.le_of_ble_eq_true rfl), (Nat.le_of_ble_eq_true rfl)⟩ (fun r_201 ut_202 H locs hw_203 hP hD hS => ?_)
              have hP : va_P D vwCl [] H := hP
              have hD : va_D A [] := hD
              have er_204 := hw_203
              subst er_204
              exact hz () hP hD hS (by grind) [] rfl rfl (Nat.le_of_ble_eq_true rfl) (Nat.le_of_ble_eq_true rfl) .int rfl rfl dX9_open_179
          · obtain ⟨er_205, hf_206⟩ := hw_29
            subst er_205
            refine lv_istore (lv' := [(4, .int (-6)), (0, .ref md), (1, .int x), (2, .int y), (3, .int z)]) hx hb dX9_open_67 hl (by decide) rfl (fun ls hl => ?_)
            refine lv_iload hx hb dX9_open_69 (lv_at hl 0 rfl) ?_
            refine lv_bipush (v := (-6)) hx hb dX9_open_71 (by decide) ?_
            refine lv_icmp_ne (tgt := 79) hx hb dX9_open_73 (by decide) (fun c_207 => absurd (by decide) c_207) (fun c_207 => ?_)
            refine lv_bipush (v := (-6)) hx hb dX9_open_76 (by decide) ?_
            exact hz () hP hD hS (by grind) [] rfl rfl (Nat.le_of_ble_eq_true rfl) (Nat.le_of_ble_eq_true rfl) .int rfl rfl dX9_open_78
        · refine lv_bipush (v := (-3)) hx hb dX9_open_59 (by decide) ?_
          exact hz () hP hD hS (by grind) [] rfl rfl (Nat.le_of_ble_eq_true rfl) (Nat.le_of_ble_eq_true rfl) .int rfl rfl dX9_open_61
      · obtain ⟨er_208, hf_209⟩ := hw_21
        have hf_210 : ¬ (0 ≤ y ∧ y ≤ 8) := fun h => hf_209 ⟨(w_le (d := 0) (x := y) (by decide)).mpr h.1, (w_ge (d := 8) (x := y) (by decide)).mpr h.2⟩
        subst er_208
        refine lv_if_eq (tgt := 59) hx hb dX9_open_48 (by decide) (fun c_211 => ?_) (fun c_211 => absurd (by decide) c_211)
        refine lv_bipush (v := (-3)) hx hb dX9_open_59 (by decide) ?_
        exact hz () hP hD hS (by grind) [] rfl rfl (Nat.le_of_ble_eq_true rfl) (Nat.le_of_ble_eq_true rfl) .int rfl rfl dX9_open_61
    · obtain ⟨er_212, hf_213⟩ := hw_10
      subst er_212
      refine lv_if_ne (tgt := 27) hx hb dX9_open_21 (by decide) (fun c_214 => absurd (by decide) c_214) (fun c_214 => ?_)
      refine lv_bipush (v := (-2)) hx hb dX9_open_24 (by decide) ?_
      exact hz () hP hD hS (by grind) [] rfl rfl (Nat.le_of_ble_eq_true rfl) (Nat.le_of_ble_eq_true rfl) .int rfl rfl dX9_open_26
  · obtain ⟨er_215, hf_216⟩ := hw_3
    have hf_217 : ¬ (0 ≤ x ∧ x ≤ 2) := fun h => hf_216 ⟨(w_le (d := 0) (x := x) (by decide)).mpr h.1, (w_ge (d := 2) (x := x) (by decide)).mpr h.2⟩
    subst er_215
    refine lv_if_eq (tgt := 24) hx hb dX9_open_14 (by decide) (fun c_218 => ?_) (fun c_218 => absurd (by decide) c_218)
    refine lv_bipush (v := (-2)) hx hb dX9_open_24 (by decide) ?_
    exact hz () hP hD hS (by grind) [] rfl rfl (Nat.le_of_ble_eq_true rfl) (Nat.le_of_ble_eq_true rfl) .int rfl rfl dX9_open_26
abbrev rm_c_X9_next : Room := { frames := 1, cells := 0, slots := 0, locals := 25 }
set_option maxHeartbeats 4000000 in
set_option maxRecDepth 100000 in
theorem c_X9_next (l : Launch) (D : va_G) (cs : Nat → ClassId) (sz : Nat) (x : Int32) (md : Nat) (m_all : Nat) (f_m_all : Nat → Int32) (m_deeds : Nat) (m_trial : Nat) (m_hasImage : Nat) (m_tape : Nat) (m_key : Nat) (m_answered : Nat) (m_goes : Nat) (m_hotOnes : Nat) (m_indexed : Nat) (m_isChanged : Nat) (m_valueNow : Nat) (m_didSome : Nat) (m_sizes : Nat) (m_ends : Nat) (z_all : ∀ j, j < 51207 → f_m_all j = AL j) : cMi l yX9_next (Cond.code yX9_next cX9_next 5 (some .int)) (rm_c_X9_next) D cs [.ref md, .int x] sz [(md, .inr (9, [.int 0, .ref m_all, .ref m_deeds, .ref m_trial, .int 0, .ref m_hasImage, .ref m_tape, .ref m_key, .ref m_answered, .int 0, .int 0, .int 0, .ref m_goes, .int 0, .ref m_hotOnes, .ref m_indexed, .ref m_isChanged, .int 0, .ref m_valueNow, .int 0, .int (-1), .int 0, .ref m_didSome, .ref m_sizes, .ref m_ends])), (m_all, aI cs 51207 f_m_all)] (fun (r : Int32) (u : Unit) => ((r = (-2)) ∧ (x < 0 ∨ 3 ≤ x)) ∨ ((r = (-6)) ∧ (¬ x < 0 ∧ x < 3))) (fun (u : Unit) => []) := by
  refine kMet_i RX9 (by decide) rfl (Nat.le_of_ble_eq_true rfl) ?_
  intro p e s m below meth c ls A Qz H locs hx hb hml hown hin hu hK hsz hA hP hD hS hl hz
  subst hsz
  have hl : lv_has ls 5 [(0, .ref md), (1, .int x)] := hl
  refine lv_aload_n hx hb dX9_next_0 rfl (lv_at hl 0 rfl) ?_
  refine lv_iconst (v := 0) hx hb dX9_next_1 (by decide) ?_
  refine va_put (D := D) (ci := 9) (v := .int 0) (ty := tyX9 0) (C := RX9) (T := TX9) (N := 25) hx hb hu in_X9 tyX9 tyX9_ok nmX9 hown hK.1 hP hD hS 0 rfl rfl 0 (by decide) (hu _ u_1080) (fun _ h9 => h9) rfl (tyX9_ok 0 (by decide)) rfl rfl (Nat.le_of_ble_eq_true rfl) dX9_next_2 (fun H locs hP hD hS => ?_)
  have hP : va_P D vwCl [(md, .inr (9, [.int 0, .ref m_all, .ref m_deeds, .ref m_trial, .int 0, .ref m_hasImage, .ref m_tape, .ref m_key, .ref m_answered, .int 0, .int 0, .int 0, .ref m_goes, .int 0, .ref m_hotOnes, .ref m_indexed, .ref m_isChanged, .int 0, .ref m_valueNow, .int 0, .int (-1), .int 0, .ref m_didSome, .ref m_sizes, .ref m_ends])), (m_all, aI cs 51207 f_m_all)] H := hP
  have hD : va_D A [(md, .inr (9, [.int 0, .ref m_all, .ref m_deeds, .ref m_trial, .int 0, .ref m_hasImage, .ref m_tape, .ref m_key, .ref m_answered, .int 0, .int 0, .int 0, .ref m_goes, .int 0, .ref m_hotOnes, .ref m_indexed, .ref m_isChanged, .int 0, .ref m_valueNow, .int 0, .int (-1), .int 0, .ref m_didSome, .ref m_sizes, .ref m_ends])), (m_all, aI cs 51207 f_m_all)] := hD
  refine lv_iload_n hx hb dX9_next_5 rfl (lv_at hl 1 rfl) ?_
  refine lv_i2l (v := x.toInt64) hx hb dX9_next_6 rfl ?_
  refine lv_lconst (v := 0) hx hb dX9_next_7 (by decide) ?_
  refine lv_ldc2 (v := 2) hx hb hown (hu _ u_1347) dX9_next_8 ?_
  refine kS_i  (As := [.long x.toInt64, .long 0, .long 2]) (rest := []) (wc := []) (wr := [(md, .inr (9, [.int 0, .ref m_all, .ref m_deeds, .ref m_trial, .int 0, .ref m_hasImage, .ref m_tape, .ref m_key, .ref m_answered, .int 0, .int 0, .int 0, .ref m_goes, .int 0, .ref m_hotOnes, .ref m_indexed, .ref m_isChanged, .int 0, .ref m_valueNow, .int 0, .int (-1), .int 0, .ref m_didSome, .ref m_sizes, .ref m_ends])), (m_all, aI cs 51207 f_m_all)]) hx hb hml hown hu hK hP hD hS hA hl.1 (c_X9_within l D cs H.size x.toInt64 0 2) (gS u_1164 u_1165 u_76 u_1166) hd_X9_within ⟨(Nat.le_of_ble_eq_true rfl), (Nat.le_of_ble_eq_true rfl)⟩ [] [0, 1] rfl rfl rfl rfl (by decide) rfl rfl (Nat.le_of_ble_eq_true rfl) dX9_next_11 ⟨(Nat.le_of_ble_eq_true rfl), (Nat.le_of_ble_eq_true rfl)⟩ (fun r_1 ut_2 H locs hw_3 hP hD hS => ?_)
  have hP : va_P D vwCl [(md, .inr (9, [.int 0, .ref m_all, .ref m_deeds, .ref m_trial, .int 0, .ref m_hasImage, .ref m_tape, .ref m_key, .ref m_answered, .int 0, .int 0, .int 0, .ref m_goes, .int 0, .ref m_hotOnes, .ref m_indexed, .ref m_isChanged, .int 0, .ref m_valueNow, .int 0, .int (-1), .int 0, .ref m_didSome, .ref m_sizes, .ref m_ends])), (m_all, aI cs 51207 f_m_all)] H := hP
  have hD : va_D A [(md, .inr (9, [.int 0, .ref m_all, .ref m_deeds, .ref m_trial, .int 0, .ref m_hasImage, .ref m_tape, .ref m_key, .ref m_answered, .int 0, .int 0, .int 0, .ref m_goes, .int 0, .ref m_hotOnes, .ref m_indexed, .ref m_isChanged, .int 0, .ref m_valueNow, .int 0, .int (-1), .int 0, .ref m_didSome, .ref m_sizes, .ref m_ends])), (m_all, aI cs 51207 f_m_all)] := hD
  rcases hw_3 with hw_3 | hw_3
  · obtain ⟨er_4, hf_5⟩ := hw_3
    have hf_6 : 0 ≤ x ∧ x ≤ 2 := ⟨(w_le (d := 0) (x := x) (by decide)).mp hf_5.1, (w_ge (d := 2) (x := x) (by decide)).mp hf_5.2⟩
    subst er_4
    refine lv_if_ne (tgt := 20) hx hb dX9_next_14 (by decide) (fun c_7 => ?_) (fun c_7 => absurd c_7 (by decide))
    refine lv_aload_n hx hb dX9_next_20 rfl (lv_at hl 0 rfl) ?_
    refine lv_iload_n hx hb dX9_next_21 rfl (lv_at hl 1 rfl) ?_
    refine kV_i (ci := 9) (As := [.int x]) (rest := []) (wc := [(md, .inr (9, [.int 0, .ref m_all, .ref m_deeds, .ref m_trial, .int 0, .ref m_hasImage, .ref m_tape, .ref m_key, .ref m_answered, .int 0, .int 0, .int 0, .ref m_goes, .int 0, .ref m_hotOnes, .ref m_indexed, .ref m_isChanged, .int 0, .ref m_valueNow, .int 0, .int (-1), .int 0, .ref m_didSome, .ref m_sizes, .ref m_ends])), (m_all, aI cs 51207 f_m_all)]) (wr := []) hx hb hml hown hu hK hP hD hS hA hl.1 (c_X9_momentOf l D cs H.size x md m_all f_m_all m_deeds m_trial m_hasImage m_tape m_key m_answered m_goes m_hotOnes m_indexed m_isChanged m_valueNow m_didSome m_sizes m_ends 0 0 0 z_all (by first | decide | grind)) (gV u_1278 u_1280 u_35 u_76 u_1281) hd_X9_momentOf ⟨(Nat.le_of_ble_eq_true rfl), (Nat.le_of_ble_eq_true rfl)⟩ [0, 1] [] rfl rfl rfl rfl (by decide) rfl 0 rfl rfl rfl (Nat.le_of_ble_eq_true rfl) dX9_next_22 ⟨(Nat.le_of_ble_eq_true rfl), (Nat.le_of_ble_eq_true rfl)⟩ (fun r_8 ut_9 H locs hw_10 hP hD hS => ?_)
    have hP : va_P D vwCl [(md, .inr (9, [.int 0, .ref m_all, .ref m_deeds, .ref m_trial, .int 0, .ref m_hasImage, .ref m_tape, .ref m_key, .ref m_answered, .int 0, .int 0, .int 0, .ref m_goes, .int 0, .ref m_hotOnes, .ref m_indexed, .ref m_isChanged, .int 0, .ref m_valueNow, .int 0, .int (-1), .int 0, .ref m_didSome, .ref m_sizes, .ref m_ends])), (m_all, aI cs 51207 f_m_all)] H := hP
    have hD : va_D A [(md, .inr (9, [.int 0, .ref m_all, .ref m_deeds, .ref m_trial, .int 0, .ref m_hasImage, .ref m_tape, .ref m_key, .ref m_answered, .int 0, .int 0, .int 0, .ref m_goes, .int 0, .ref m_hotOnes, .ref m_indexed, .ref m_isChanged, .int 0, .ref m_valueNow, .int 0, .int (-1), .int 0, .ref m_didSome, .ref m_sizes, .ref m_ends])), (m_all, aI cs 51207 f_m_all)] := hD
    have er_11 := hw_10
    subst er_11
    refine lv_iconst (v := (-1)) hx hb dX9_next_25 (by decide) ?_
    refine lv_icmp_ne (tgt := 32) hx hb dX9_next_26 (by decide) (fun c_12 => absurd (by decide) c_12) (fun c_12 => ?_)
    refine lv_bipush (v := (-6)) hx hb dX9_next_29 (by decide) ?_
    exact hz () hP hD hS (by grind) [] rfl rfl (Nat.le_of_ble_eq_true rfl) (Nat.le_of_ble_eq_true rfl) .int rfl rfl dX9_next_31
  · obtain ⟨er_13, hf_14⟩ := hw_3
    have hf_15 : ¬ (0 ≤ x ∧ x ≤ 2) := fun h => hf_14 ⟨(w_le (d := 0) (x := x) (by decide)).mpr h.1, (w_ge (d := 2) (x := x) (by decide)).mpr h.2⟩
    subst er_13
    refine lv_if_ne (tgt := 20) hx hb dX9_next_14 (by decide) (fun c_16 => absurd (by decide) c_16) (fun c_16 => ?_)
    refine lv_bipush (v := (-2)) hx hb dX9_next_17 (by decide) ?_
    exact hz () hP hD hS (by grind) [] rfl rfl (Nat.le_of_ble_eq_true rfl) (Nat.le_of_ble_eq_true rfl) .int rfl rfl dX9_next_19
abbrev rm_c_X9_left : Room := { frames := 1, cells := 0, slots := 0, locals := 25 }
set_option maxHeartbeats 4000000 in
set_option maxRecDepth 100000 in
theorem c_X9_left (l : Launch) (D : va_G) (cs : Nat → ClassId) (sz : Nat) (x : Int32) (md : Nat) (m_all : Nat) (f_m_all : Nat → Int32) (m_deeds : Nat) (m_trial : Nat) (m_hasImage : Nat) (m_tape : Nat) (m_key : Nat) (m_answered : Nat) (m_goes : Nat) (m_hotOnes : Nat) (m_indexed : Nat) (m_isChanged : Nat) (m_valueNow : Nat) (m_didSome : Nat) (m_sizes : Nat) (m_ends : Nat) (z_all : ∀ j, j < 51207 → f_m_all j = AL j) : cMi l yX9_left (Cond.code yX9_left cX9_left 2 (some .int)) (rm_c_X9_left) D cs [.ref md, .int x] sz [(md, .inr (9, [.int 0, .ref m_all, .ref m_deeds, .ref m_trial, .int 0, .ref m_hasImage, .ref m_tape, .ref m_key, .ref m_answered, .int 0, .int 0, .int 0, .ref m_goes, .int 0, .ref m_hotOnes, .ref m_indexed, .ref m_isChanged, .int 0, .ref m_valueNow, .int 0, .int (-1), .int 0, .ref m_didSome, .ref m_sizes, .ref m_ends])), (m_all, aI cs 51207 f_m_all)] (fun (r : Int32) (u : Unit) => ((r = (-2)) ∧ (x < 0 ∨ 3 ≤ x)) ∨ ((r = (-6)) ∧ (¬ x < 0 ∧ x < 3))) (fun (u : Unit) => []) := by
  refine kMet_i RX9 (by decide) rfl (Nat.le_of_ble_eq_true rfl) ?_
  intro p e s m below meth c ls A Qz H locs hx hb hml hown hin hu hK hsz hA hP hD hS hl hz
  subst hsz
  have hl : lv_has ls 2 [(0, .ref md), (1, .int x)] := hl
  refine lv_aload_n hx hb dX9_left_0 rfl (lv_at hl 0 rfl) ?_
  refine lv_iconst (v := 0) hx hb dX9_left_1 (by decide) ?_
  refine va_put (D := D) (ci := 9) (v := .int 0) (ty := tyX9 0) (C := RX9) (T := TX9) (N := 25) hx hb hu in_X9 tyX9 tyX9_ok nmX9 hown hK.1 hP hD hS 0 rfl rfl 0 (by decide) (hu _ u_1080) (fun _ h9 => h9) rfl (tyX9_ok 0 (by decide)) rfl rfl (Nat.le_of_ble_eq_true rfl) dX9_left_2 (fun H locs hP hD hS => ?_)
  have hP : va_P D vwCl [(md, .inr (9, [.int 0, .ref m_all, .ref m_deeds, .ref m_trial, .int 0, .ref m_hasImage, .ref m_tape, .ref m_key, .ref m_answered, .int 0, .int 0, .int 0, .ref m_goes, .int 0, .ref m_hotOnes, .ref m_indexed, .ref m_isChanged, .int 0, .ref m_valueNow, .int 0, .int (-1), .int 0, .ref m_didSome, .ref m_sizes, .ref m_ends])), (m_all, aI cs 51207 f_m_all)] H := hP
  have hD : va_D A [(md, .inr (9, [.int 0, .ref m_all, .ref m_deeds, .ref m_trial, .int 0, .ref m_hasImage, .ref m_tape, .ref m_key, .ref m_answered, .int 0, .int 0, .int 0, .ref m_goes, .int 0, .ref m_hotOnes, .ref m_indexed, .ref m_isChanged, .int 0, .ref m_valueNow, .int 0, .int (-1), .int 0, .ref m_didSome, .ref m_sizes, .ref m_ends])), (m_all, aI cs 51207 f_m_all)] := hD
  refine lv_iload_n hx hb dX9_left_5 rfl (lv_at hl 1 rfl) ?_
  refine lv_i2l (v := x.toInt64) hx hb dX9_left_6 rfl ?_
  refine lv_lconst (v := 0) hx hb dX9_left_7 (by decide) ?_
  refine lv_ldc2 (v := 2) hx hb hown (hu _ u_1347) dX9_left_8 ?_
  refine kS_i  (As := [.long x.toInt64, .long 0, .long 2]) (rest := []) (wc := []) (wr := [(md, .inr (9, [.int 0, .ref m_all, .ref m_deeds, .ref m_trial, .int 0, .ref m_hasImage, .ref m_tape, .ref m_key, .ref m_answered, .int 0, .int 0, .int 0, .ref m_goes, .int 0, .ref m_hotOnes, .ref m_indexed, .ref m_isChanged, .int 0, .ref m_valueNow, .int 0, .int (-1), .int 0, .ref m_didSome, .ref m_sizes, .ref m_ends])), (m_all, aI cs 51207 f_m_all)]) hx hb hml hown hu hK hP hD hS hA hl.1 (c_X9_within l D cs H.size x.toInt64 0 2) (gS u_1164 u_1165 u_76 u_1166) hd_X9_within ⟨(Nat.le_of_ble_eq_true rfl), (Nat.le_of_ble_eq_true rfl)⟩ [] [0, 1] rfl rfl rfl rfl (by decide) rfl rfl (Nat.le_of_ble_eq_true rfl) dX9_left_11 ⟨(Nat.le_of_ble_eq_true rfl), (Nat.le_of_ble_eq_true rfl)⟩ (fun r_1 ut_2 H locs hw_3 hP hD hS => ?_)
  have hP : va_P D vwCl [(md, .inr (9, [.int 0, .ref m_all, .ref m_deeds, .ref m_trial, .int 0, .ref m_hasImage, .ref m_tape, .ref m_key, .ref m_answered, .int 0, .int 0, .int 0, .ref m_goes, .int 0, .ref m_hotOnes, .ref m_indexed, .ref m_isChanged, .int 0, .ref m_valueNow, .int 0, .int (-1), .int 0, .ref m_didSome, .ref m_sizes, .ref m_ends])), (m_all, aI cs 51207 f_m_all)] H := hP
  have hD : va_D A [(md, .inr (9, [.int 0, .ref m_all, .ref m_deeds, .ref m_trial, .int 0, .ref m_hasImage, .ref m_tape, .ref m_key, .ref m_answered, .int 0, .int 0, .int 0, .ref m_goes, .int 0, .ref m_hotOnes, .ref m_indexed, .ref m_isChanged, .int 0, .ref m_valueNow, .int 0, .int (-1), .int 0, .ref m_didSome, .ref m_sizes, .ref m_ends])), (m_all, aI cs 51207 f_m_all)] := hD
  rcases hw_3 with hw_3 | hw_3
  · obtain ⟨er_4, hf_5⟩ := hw_3
    have hf_6 : 0 ≤ x ∧ x ≤ 2 := ⟨(w_le (d := 0) (x := x) (by decide)).mp hf_5.1, (w_ge (d := 2) (x := x) (by decide)).mp hf_5.2⟩
    subst er_4
    refine lv_if_ne (tgt := 20) hx hb dX9_left_14 (by decide) (fun c_7 => ?_) (fun c_7 => absurd c_7 (by decide))
    refine lv_aload_n hx hb dX9_left_20 rfl (lv_at hl 0 rfl) ?_
    refine lv_iload_n hx hb dX9_left_21 rfl (lv_at hl 1 rfl) ?_
    refine kV_i (ci := 9) (As := [.int x]) (rest := []) (wc := [(md, .inr (9, [.int 0, .ref m_all, .ref m_deeds, .ref m_trial, .int 0, .ref m_hasImage, .ref m_tape, .ref m_key, .ref m_answered, .int 0, .int 0, .int 0, .ref m_goes, .int 0, .ref m_hotOnes, .ref m_indexed, .ref m_isChanged, .int 0, .ref m_valueNow, .int 0, .int (-1), .int 0, .ref m_didSome, .ref m_sizes, .ref m_ends])), (m_all, aI cs 51207 f_m_all)]) (wr := []) hx hb hml hown hu hK hP hD hS hA hl.1 (c_X9_momentOf l D cs H.size x md m_all f_m_all m_deeds m_trial m_hasImage m_tape m_key m_answered m_goes m_hotOnes m_indexed m_isChanged m_valueNow m_didSome m_sizes m_ends 0 0 0 z_all (by first | decide | grind)) (gV u_1278 u_1280 u_35 u_76 u_1281) hd_X9_momentOf ⟨(Nat.le_of_ble_eq_true rfl), (Nat.le_of_ble_eq_true rfl)⟩ [0, 1] [] rfl rfl rfl rfl (by decide) rfl 0 rfl rfl rfl (Nat.le_of_ble_eq_true rfl) dX9_left_22 ⟨(Nat.le_of_ble_eq_true rfl), (Nat.le_of_ble_eq_true rfl)⟩ (fun r_8 ut_9 H locs hw_10 hP hD hS => ?_)
    have hP : va_P D vwCl [(md, .inr (9, [.int 0, .ref m_all, .ref m_deeds, .ref m_trial, .int 0, .ref m_hasImage, .ref m_tape, .ref m_key, .ref m_answered, .int 0, .int 0, .int 0, .ref m_goes, .int 0, .ref m_hotOnes, .ref m_indexed, .ref m_isChanged, .int 0, .ref m_valueNow, .int 0, .int (-1), .int 0, .ref m_didSome, .ref m_sizes, .ref m_ends])), (m_all, aI cs 51207 f_m_all)] H := hP
    have hD : va_D A [(md, .inr (9, [.int 0, .ref m_all, .ref m_deeds, .ref m_trial, .int 0, .ref m_hasImage, .ref m_tape, .ref m_key, .ref m_answered, .int 0, .int 0, .int 0, .ref m_goes, .int 0, .ref m_hotOnes, .ref m_indexed, .ref m_isChanged, .int 0, .ref m_valueNow, .int 0, .int (-1), .int 0, .ref m_didSome, .ref m_sizes, .ref m_ends])), (m_all, aI cs 51207 f_m_all)] := hD
    have er_11 := hw_10
    subst er_11
    refine lv_iconst (v := (-1)) hx hb dX9_left_25 (by decide) ?_
    refine lv_icmp_ne (tgt := 34) hx hb dX9_left_26 (by decide) (fun c_12 => absurd (by decide) c_12) (fun c_12 => ?_)
    refine lv_bipush (v := (-6)) hx hb dX9_left_29 (by decide) ?_
    refine lv_goto (tgt := 39) hx hb dX9_left_31 (by decide) ?_
    exact hz () hP hD hS (by grind) [] rfl rfl (Nat.le_of_ble_eq_true rfl) (Nat.le_of_ble_eq_true rfl) .int rfl rfl dX9_left_39
  · obtain ⟨er_13, hf_14⟩ := hw_3
    have hf_15 : ¬ (0 ≤ x ∧ x ≤ 2) := fun h => hf_14 ⟨(w_le (d := 0) (x := x) (by decide)).mpr h.1, (w_ge (d := 2) (x := x) (by decide)).mpr h.2⟩
    subst er_13
    refine lv_if_ne (tgt := 20) hx hb dX9_left_14 (by decide) (fun c_16 => absurd (by decide) c_16) (fun c_16 => ?_)
    refine lv_bipush (v := (-2)) hx hb dX9_left_17 (by decide) ?_
    exact hz () hP hD hS (by grind) [] rfl rfl (Nat.le_of_ble_eq_true rfl) (Nat.le_of_ble_eq_true rfl) .int rfl rfl dX9_left_19
abbrev rm_c_X9_close : Room := { frames := 1, cells := 0, slots := 0, locals := 25 }
set_option maxHeartbeats 4000000 in
set_option maxRecDepth 100000 in
theorem c_X9_close (l : Launch) (D : va_G) (cs : Nat → ClassId) (sz : Nat) (x : Int32) (md : Nat) (m_all : Nat) (f_m_all : Nat → Int32) (m_deeds : Nat) (m_trial : Nat) (m_hasImage : Nat) (m_tape : Nat) (m_key : Nat) (m_answered : Nat) (m_goes : Nat) (m_hotOnes : Nat) (m_indexed : Nat) (m_isChanged : Nat) (m_valueNow : Nat) (m_didSome : Nat) (m_sizes : Nat) (m_ends : Nat) (z_all : ∀ j, j < 51207 → f_m_all j = AL j) : cMi l yX9_close (Cond.code yX9_close cX9_close 2 (some .int)) (rm_c_X9_close) D cs [.ref md, .int x] sz [(md, .inr (9, [.int 0, .ref m_all, .ref m_deeds, .ref m_trial, .int 0, .ref m_hasImage, .ref m_tape, .ref m_key, .ref m_answered, .int 0, .int 0, .int 0, .ref m_goes, .int 0, .ref m_hotOnes, .ref m_indexed, .ref m_isChanged, .int 0, .ref m_valueNow, .int 0, .int (-1), .int 0, .ref m_didSome, .ref m_sizes, .ref m_ends])), (m_all, aI cs 51207 f_m_all)] (fun (r : Int32) (u : Unit) => ((r = (-2)) ∧ (x < 0 ∨ 3 ≤ x)) ∨ ((r = (-6)) ∧ (¬ x < 0 ∧ x < 3))) (fun (u : Unit) => []) := by
  refine kMet_i RX9 (by decide) rfl (Nat.le_of_ble_eq_true rfl) ?_
  intro p e s m below meth c ls A Qz H locs hx hb hml hown hin hu hK hsz hA hP hD hS hl hz
  subst hsz
  have hl : lv_has ls 2 [(0, .ref md), (1, .int x)] := hl
  refine lv_aload_n hx hb dX9_close_0 rfl (lv_at hl 0 rfl) ?_
  refine lv_iconst (v := 0) hx hb dX9_close_1 (by decide) ?_
  refine va_put (D := D) (ci := 9) (v := .int 0) (ty := tyX9 0) (C := RX9) (T := TX9) (N := 25) hx hb hu in_X9 tyX9 tyX9_ok nmX9 hown hK.1 hP hD hS 0 rfl rfl 0 (by decide) (hu _ u_1080) (fun _ h9 => h9) rfl (tyX9_ok 0 (by decide)) rfl rfl (Nat.le_of_ble_eq_true rfl) dX9_close_2 (fun H locs hP hD hS => ?_)
  have hP : va_P D vwCl [(md, .inr (9, [.int 0, .ref m_all, .ref m_deeds, .ref m_trial, .int 0, .ref m_hasImage, .ref m_tape, .ref m_key, .ref m_answered, .int 0, .int 0, .int 0, .ref m_goes, .int 0, .ref m_hotOnes, .ref m_indexed, .ref m_isChanged, .int 0, .ref m_valueNow, .int 0, .int (-1), .int 0, .ref m_didSome, .ref m_sizes, .ref m_ends])), (m_all, aI cs 51207 f_m_all)] H := hP
  have hD : va_D A [(md, .inr (9, [.int 0, .ref m_all, .ref m_deeds, .ref m_trial, .int 0, .ref m_hasImage, .ref m_tape, .ref m_key, .ref m_answered, .int 0, .int 0, .int 0, .ref m_goes, .int 0, .ref m_hotOnes, .ref m_indexed, .ref m_isChanged, .int 0, .ref m_valueNow, .int 0, .int (-1), .int 0, .ref m_didSome, .ref m_sizes, .ref m_ends])), (m_all, aI cs 51207 f_m_all)] := hD
  refine lv_iload_n hx hb dX9_close_5 rfl (lv_at hl 1 rfl) ?_
  refine lv_i2l (v := x.toInt64) hx hb dX9_close_6 rfl ?_
  refine lv_lconst (v := 0) hx hb dX9_close_7 (by decide) ?_
  refine lv_ldc2 (v := 2) hx hb hown (hu _ u_1347) dX9_close_8 ?_
  refine kS_i  (As := [.long x.toInt64, .long 0, .long 2]) (rest := []) (wc := []) (wr := [(md, .inr (9, [.int 0, .ref m_all, .ref m_deeds, .ref m_trial, .int 0, .ref m_hasImage, .ref m_tape, .ref m_key, .ref m_answered, .int 0, .int 0, .int 0, .ref m_goes, .int 0, .ref m_hotOnes, .ref m_indexed, .ref m_isChanged, .int 0, .ref m_valueNow, .int 0, .int (-1), .int 0, .ref m_didSome, .ref m_sizes, .ref m_ends])), (m_all, aI cs 51207 f_m_all)]) hx hb hml hown hu hK hP hD hS hA hl.1 (c_X9_within l D cs H.size x.toInt64 0 2) (gS u_1164 u_1165 u_76 u_1166) hd_X9_within ⟨(Nat.le_of_ble_eq_true rfl), (Nat.le_of_ble_eq_true rfl)⟩ [] [0, 1] rfl rfl rfl rfl (by decide) rfl rfl (Nat.le_of_ble_eq_true rfl) dX9_close_11 ⟨(Nat.le_of_ble_eq_true rfl), (Nat.le_of_ble_eq_true rfl)⟩ (fun r_1 ut_2 H locs hw_3 hP hD hS => ?_)
  have hP : va_P D vwCl [(md, .inr (9, [.int 0, .ref m_all, .ref m_deeds, .ref m_trial, .int 0, .ref m_hasImage, .ref m_tape, .ref m_key, .ref m_answered, .int 0, .int 0, .int 0, .ref m_goes, .int 0, .ref m_hotOnes, .ref m_indexed, .ref m_isChanged, .int 0, .ref m_valueNow, .int 0, .int (-1), .int 0, .ref m_didSome, .ref m_sizes, .ref m_ends])), (m_all, aI cs 51207 f_m_all)] H := hP
  have hD : va_D A [(md, .inr (9, [.int 0, .ref m_all, .ref m_deeds, .ref m_trial, .int 0, .ref m_hasImage, .ref m_tape, .ref m_key, .ref m_answered, .int 0, .int 0, .int 0, .ref m_goes, .int 0, .ref m_hotOnes, .ref m_indexed, .ref m_isChanged, .int 0, .ref m_valueNow, .int 0, .int (-1), .int 0, .ref m_didSome, .ref m_sizes, .ref m_ends])), (m_all, aI cs 51207 f_m_all)] := hD
  rcases hw_3 with hw_3 | hw_3
  · obtain ⟨er_4, hf_5⟩ := hw_3
    have hf_6 : 0 ≤ x ∧ x ≤ 2 := ⟨(w_le (d := 0) (x := x) (by decide)).mp hf_5.1, (w_ge (d := 2) (x := x) (by decide)).mp hf_5.2⟩
    subst er_4
    refine lv_if_ne (tgt := 20) hx hb dX9_close_14 (by decide) (fun c_7 => ?_) (fun c_7 => absurd c_7 (by decide))
    refine lv_aload_n hx hb dX9_close_20 rfl (lv_at hl 0 rfl) ?_
    refine lv_iload_n hx hb dX9_close_21 rfl (lv_at hl 1 rfl) ?_
    refine kV_i (ci := 9) (As := [.int x]) (rest := []) (wc := [(md, .inr (9, [.int 0, .ref m_all, .ref m_deeds, .ref m_trial, .int 0, .ref m_hasImage, .ref m_tape, .ref m_key, .ref m_answered, .int 0, .int 0, .int 0, .ref m_goes, .int 0, .ref m_hotOnes, .ref m_indexed, .ref m_isChanged, .int 0, .ref m_valueNow, .int 0, .int (-1), .int 0, .ref m_didSome, .ref m_sizes, .ref m_ends])), (m_all, aI cs 51207 f_m_all)]) (wr := []) hx hb hml hown hu hK hP hD hS hA hl.1 (c_X9_momentOf l D cs H.size x md m_all f_m_all m_deeds m_trial m_hasImage m_tape m_key m_answered m_goes m_hotOnes m_indexed m_isChanged m_valueNow m_didSome m_sizes m_ends 0 0 0 z_all (by first | decide | grind)) (gV u_1278 u_1280 u_35 u_76 u_1281) hd_X9_momentOf ⟨(Nat.le_of_ble_eq_true rfl), (Nat.le_of_ble_eq_true rfl)⟩ [0, 1] [] rfl rfl rfl rfl (by decide) rfl 0 rfl rfl rfl (Nat.le_of_ble_eq_true rfl) dX9_close_22 ⟨(Nat.le_of_ble_eq_true rfl), (Nat.le_of_ble_eq_true rfl)⟩ (fun r_8 ut_9 H locs hw_10 hP hD hS => ?_)
    have hP : va_P D vwCl [(md, .inr (9, [.int 0, .ref m_all, .ref m_deeds, .ref m_trial, .int 0, .ref m_hasImage, .ref m_tape, .ref m_key, .ref m_answered, .int 0, .int 0, .int 0, .ref m_goes, .int 0, .ref m_hotOnes, .ref m_indexed, .ref m_isChanged, .int 0, .ref m_valueNow, .int 0, .int (-1), .int 0, .ref m_didSome, .ref m_sizes, .ref m_ends])), (m_all, aI cs 51207 f_m_all)] H := hP
    have hD : va_D A [(md, .inr (9, [.int 0, .ref m_all, .ref m_deeds, .ref m_trial, .int 0, .ref m_hasImage, .ref m_tape, .ref m_key, .ref m_answered, .int 0, .int 0, .int 0, .ref m_goes, .int 0, .ref m_hotOnes, .ref m_indexed, .ref m_isChanged, .int 0, .ref m_valueNow, .int 0, .int (-1), .int 0, .ref m_didSome, .ref m_sizes, .ref m_ends])), (m_all, aI cs 51207 f_m_all)] := hD
    have er_11 := hw_10
    subst er_11
    refine lv_iconst (v := (-1)) hx hb dX9_close_25 (by decide) ?_
    refine lv_icmp_ne (tgt := 32) hx hb dX9_close_26 (by decide) (fun c_12 => absurd (by decide) c_12) (fun c_12 => ?_)
    refine lv_bipush (v := (-6)) hx hb dX9_close_29 (by decide) ?_
    exact hz () hP hD hS (by grind) [] rfl rfl (Nat.le_of_ble_eq_true rfl) (Nat.le_of_ble_eq_true rfl) .int rfl rfl dX9_close_31
  · obtain ⟨er_13, hf_14⟩ := hw_3
    have hf_15 : ¬ (0 ≤ x ∧ x ≤ 2) := fun h => hf_14 ⟨(w_le (d := 0) (x := x) (by decide)).mpr h.1, (w_ge (d := 2) (x := x) (by decide)).mpr h.2⟩
    subst er_13
    refine lv_if_ne (tgt := 20) hx hb dX9_close_14 (by decide) (fun c_16 => absurd (by decide) c_16) (fun c_16 => ?_)
    refine lv_bipush (v := (-2)) hx hb dX9_close_17 (by decide) ?_
    exact hz () hP hD hS (by grind) [] rfl rfl (Nat.le_of_ble_eq_true rfl) (Nat.le_of_ble_eq_true rfl) .int rfl rfl dX9_close_19
abbrev rm_c_X9_terms : Room := { frames := 2, cells := 0, slots := 0, locals := 41 }
set_option maxHeartbeats 4000000 in
set_option maxRecDepth 100000 in
theorem c_X9_terms (l : Launch) (D : va_G) (cs : Nat → ClassId) (sz : Nat) (x : Int32) (y : Int32) (md : Nat) (m_all : Nat) (f_m_all : Nat → Int32) (m_deeds : Nat) (f_m_deeds : Nat → Int32) (m_trial : Nat) (f_m_trial : Nat → Int32) (m_hasImage : Nat) (m_tape : Nat) (m_key : Nat) (m_answered : Nat) (m_goes : Nat) (m_hotOnes : Nat) (m_indexed : Nat) (m_isChanged : Nat) (m_valueNow : Nat) (m_didSome : Nat) (m_sizes : Nat) (m_ends : Nat) (z_all : ∀ j, j < 51207 → f_m_all j = AL j) : cMi l yX9_terms (Cond.code yX9_terms cX9_terms 4 (some .int)) (rm_c_X9_terms) D cs [.ref md, .int x, .int y] sz [(md, .inr (9, [.int 0, .ref m_all, .ref m_deeds, .ref m_trial, .int 0, .ref m_hasImage, .ref m_tape, .ref m_key, .ref m_answered, .int 0, .int 0, .int 0, .ref m_goes, .int 0, .ref m_hotOnes, .ref m_indexed, .ref m_isChanged, .int 0, .ref m_valueNow, .int 0, .int (-1), .int 0, .ref m_didSome, .ref m_sizes, .ref m_ends])), (m_all, aI cs 51207 f_m_all), (m_deeds, aI cs 170690 f_m_deeds), (m_trial, aI cs 17069 f_m_trial)] (fun (r : Int32) (u : Unit) => ((r = (-2)) ∧ (x < 0 ∨ 1 < x)) ∨ ((r = (-3)) ∧ (¬ x < 0 ∧ ¬ 1 < x ∧ (y < 0 ∨ 3 ≤ y))) ∨ ((r = 0) ∧ (¬ x < 0 ∧ ¬ 1 < x ∧ ¬ y < 0 ∧ y < 3))) (fun (u : Unit) => []) := by
  refine kMet_i RX9 (by decide) rfl (Nat.le_of_ble_eq_true rfl) ?_
  intro p e s m below meth c ls A Qz H locs hx hb hml hown hin hu hK hsz hA hP hD hS hl hz
  subst hsz
  have hl : lv_has ls 4 [(0, .ref md), (1, .int x), (2, .int y)] := hl
  refine lv_aload_n hx hb dX9_terms_0 rfl (lv_at hl 0 rfl) ?_
  refine lv_iconst (v := 0) hx hb dX9_terms_1 (by decide) ?_
  refine va_put (D := D) (ci := 9) (v := .int 0) (ty := tyX9 0) (C := RX9) (T := TX9) (N := 25) hx hb hu in_X9 tyX9 tyX9_ok nmX9 hown hK.1 hP hD hS 0 rfl rfl 0 (by decide) (hu _ u_1080) (fun _ h9 => h9) rfl (tyX9_ok 0 (by decide)) rfl rfl (Nat.le_of_ble_eq_true rfl) dX9_terms_2 (fun H locs hP hD hS => ?_)
  have hP : va_P D vwCl [(md, .inr (9, [.int 0, .ref m_all, .ref m_deeds, .ref m_trial, .int 0, .ref m_hasImage, .ref m_tape, .ref m_key, .ref m_answered, .int 0, .int 0, .int 0, .ref m_goes, .int 0, .ref m_hotOnes, .ref m_indexed, .ref m_isChanged, .int 0, .ref m_valueNow, .int 0, .int (-1), .int 0, .ref m_didSome, .ref m_sizes, .ref m_ends])), (m_all, aI cs 51207 f_m_all), (m_deeds, aI cs 170690 f_m_deeds), (m_trial, aI cs 17069 f_m_trial)] H := hP
  have hD : va_D A [(md, .inr (9, [.int 0, .ref m_all, .ref m_deeds, .ref m_trial, .int 0, .ref m_hasImage, .ref m_tape, .ref m_key, .ref m_answered, .int 0, .int 0, .int 0, .ref m_goes, .int 0, .ref m_hotOnes, .ref m_indexed, .ref m_isChanged, .int 0, .ref m_valueNow, .int 0, .int (-1), .int 0, .ref m_didSome, .ref m_sizes, .ref m_ends])), (m_all, aI cs 51207 f_m_all), (m_deeds, aI cs 170690 f_m_deeds), (m_trial, aI cs 17069 f_m_trial)] := hD
  refine lv_iload_n hx hb dX9_terms_5 rfl (lv_at hl 1 rfl) ?_
  refine lv_i2l (v := x.toInt64) hx hb dX9_terms_6 rfl ?_
  refine lv_lconst (v := 0) hx hb dX9_terms_7 (by decide) ?_
  refine lv_lconst (v := 1) hx hb dX9_terms_8 (by decide) ?_
  refine kS_i  (As := [.long x.toInt64, .long 0, .long 1]) (rest := []) (wc := []) (wr := [(md, .inr (9, [.int 0, .ref m_all, .ref m_deeds, .ref m_trial, .int 0, .ref m_hasImage, .ref m_tape, .ref m_key, .ref m_answered, .int 0, .int 0, .int 0, .ref m_goes, .int 0, .ref m_hotOnes, .ref m_indexed, .ref m_isChanged, .int 0, .ref m_valueNow, .int 0, .int (-1), .int 0, .ref m_didSome, .ref m_sizes, .ref m_ends])), (m_all, aI cs 51207 f_m_all), (m_deeds, aI cs 170690 f_m_deeds), (m_trial, aI cs 17069 f_m_trial)]) hx hb hml hown hu hK hP hD hS hA hl.1 (c_X9_within l D cs H.size x.toInt64 0 1) (gS u_1164 u_1165 u_76 u_1166) hd_X9_within ⟨(Nat.le_of_ble_eq_true rfl), (Nat.le_of_ble_eq_true rfl)⟩ [] [0, 1, 2, 3] rfl rfl rfl rfl (by decide) rfl rfl (Nat.le_of_ble_eq_true rfl) dX9_terms_9 ⟨(Nat.le_of_ble_eq_true rfl), (Nat.le_of_ble_eq_true rfl)⟩ (fun r_1 ut_2 H locs hw_3 hP hD hS => ?_)
  have hP : va_P D vwCl [(md, .inr (9, [.int 0, .ref m_all, .ref m_deeds, .ref m_trial, .int 0, .ref m_hasImage, .ref m_tape, .ref m_key, .ref m_answered, .int 0, .int 0, .int 0, .ref m_goes, .int 0, .ref m_hotOnes, .ref m_indexed, .ref m_isChanged, .int 0, .ref m_valueNow, .int 0, .int (-1), .int 0, .ref m_didSome, .ref m_sizes, .ref m_ends])), (m_all, aI cs 51207 f_m_all), (m_deeds, aI cs 170690 f_m_deeds), (m_trial, aI cs 17069 f_m_trial)] H := hP
  have hD : va_D A [(md, .inr (9, [.int 0, .ref m_all, .ref m_deeds, .ref m_trial, .int 0, .ref m_hasImage, .ref m_tape, .ref m_key, .ref m_answered, .int 0, .int 0, .int 0, .ref m_goes, .int 0, .ref m_hotOnes, .ref m_indexed, .ref m_isChanged, .int 0, .ref m_valueNow, .int 0, .int (-1), .int 0, .ref m_didSome, .ref m_sizes, .ref m_ends])), (m_all, aI cs 51207 f_m_all), (m_deeds, aI cs 170690 f_m_deeds), (m_trial, aI cs 17069 f_m_trial)] := hD
  rcases hw_3 with hw_3 | hw_3
  · obtain ⟨er_4, hf_5⟩ := hw_3
    have hf_6 : 0 ≤ x ∧ x ≤ 1 := ⟨(w_le (d := 0) (x := x) (by decide)).mp hf_5.1, (w_ge (d := 1) (x := x) (by decide)).mp hf_5.2⟩
    subst er_4
    refine lv_if_ne (tgt := 18) hx hb dX9_terms_12 (by decide) (fun c_7 => ?_) (fun c_7 => absurd c_7 (by decide))
    refine lv_iload_n hx hb dX9_terms_18 rfl (lv_at hl 2 rfl) ?_
    refine lv_i2l (v := y.toInt64) hx hb dX9_terms_19 rfl ?_
    refine lv_lconst (v := 0) hx hb dX9_terms_20 (by decide) ?_
    refine lv_ldc2 (v := 2) hx hb hown (hu _ u_1347) dX9_terms_21 ?_
    refine kS_i  (As := [.long y.toInt64, .long 0, .long 2]) (rest := []) (wc := []) (wr := [(md, .inr (9, [.int 0, .ref m_all, .ref m_deeds, .ref m_trial, .int 0, .ref m_hasImage, .ref m_tape, .ref m_key, .ref m_answered, .int 0, .int 0, .int 0, .ref m_goes, .int 0, .ref m_hotOnes, .ref m_indexed, .ref m_isChanged, .int 0, .ref m_valueNow, .int 0, .int (-1), .int 0, .ref m_didSome, .ref m_sizes, .ref m_ends])), (m_all, aI cs 51207 f_m_all), (m_deeds, aI cs 170690 f_m_deeds), (m_trial, aI cs 17069 f_m_trial)]) hx hb hml hown hu hK hP hD hS hA hl.1 (c_X9_within l D cs H.size y.toInt64 0 2) (gS u_1164 u_1165 u_76 u_1166) hd_X9_within ⟨(Nat.le_of_ble_eq_true rfl), (Nat.le_of_ble_eq_true rfl)⟩ [] [0, 1, 2, 3] rfl rfl rfl rfl (by decide) rfl rfl (Nat.le_of_ble_eq_true rfl) dX9_terms_24 ⟨(Nat.le_of_ble_eq_true rfl), (Nat.le_of_ble_eq_true rfl)⟩ (fun r_8 ut_9 H locs hw_10 hP hD hS => ?_)
    have hP : va_P D vwCl [(md, .inr (9, [.int 0, .ref m_all, .ref m_deeds, .ref m_trial, .int 0, .ref m_hasImage, .ref m_tape, .ref m_key, .ref m_answered, .int 0, .int 0, .int 0, .ref m_goes, .int 0, .ref m_hotOnes, .ref m_indexed, .ref m_isChanged, .int 0, .ref m_valueNow, .int 0, .int (-1), .int 0, .ref m_didSome, .ref m_sizes, .ref m_ends])), (m_all, aI cs 51207 f_m_all), (m_deeds, aI cs 170690 f_m_deeds), (m_trial, aI cs 17069 f_m_trial)] H := hP
    have hD : va_D A [(md, .inr (9, [.int 0, .ref m_all, .ref m_deeds, .ref m_trial, .int 0, .ref m_hasImage, .ref m_tape, .ref m_key, .ref m_answered, .int 0, .int 0, .int 0, .ref m_goes, .int 0, .ref m_hotOnes, .ref m_indexed, .ref m_isChanged, .int 0, .ref m_valueNow, .int 0, .int (-1), .int 0, .ref m_didSome, .ref m_sizes, .ref m_ends])), (m_all, aI cs 51207 f_m_all), (m_deeds, aI cs 170690 f_m_deeds), (m_trial, aI cs 17069 f_m_trial)] := hD
    rcases hw_10 with hw_10 | hw_10
    · obtain ⟨er_11, hf_12⟩ := hw_10
      have hf_13 : 0 ≤ y ∧ y ≤ 2 := ⟨(w_le (d := 0) (x := y) (by decide)).mp hf_12.1, (w_ge (d := 2) (x := y) (by decide)).mp hf_12.2⟩
      subst er_11
      refine lv_if_ne (tgt := 33) hx hb dX9_terms_27 (by decide) (fun c_14 => ?_) (fun c_14 => absurd c_14 (by decide))
      refine lv_aload_n hx hb dX9_terms_33 rfl (lv_at hl 0 rfl) ?_
      refine kV_v (ci := 9) (As := []) (rest := []) (wc := [(md, .inr (9, [.int 0, .ref m_all, .ref m_deeds, .ref m_trial, .int 0, .ref m_hasImage, .ref m_tape, .ref m_key, .ref m_answered, .int 0, .int 0, .int 0, .ref m_goes, .int 0, .ref m_hotOnes, .ref m_indexed, .ref m_isChanged, .int 0, .ref m_valueNow, .int 0, .int (-1), .int 0, .ref m_didSome, .ref m_sizes, .ref m_ends])), (m_all, aI cs 51207 f_m_all), (m_deeds, aI cs 170690 f_m_deeds), (m_trial, aI cs 17069 f_m_trial)]) (wr := []) hx hb hml hown hu hK hP hD hS hA hl.1 (c_X9_notes l D cs H.size md m_all f_m_all m_deeds f_m_deeds m_trial f_m_trial m_hasImage m_tape m_key m_answered m_goes m_hotOnes m_indexed m_isChanged m_valueNow m_didSome m_sizes m_ends 0 0 z_all) (gV u_1331 u_1333 u_45 u_76 u_1334) hd_X9_notes ⟨(Nat.le_of_ble_eq_true rfl), (Nat.le_of_ble_eq_true rfl)⟩ [0, 1, 2, 3] [] rfl rfl rfl rfl (by decide) rfl 0 rfl rfl rfl (Nat.le_of_ble_eq_true rfl) dX9_terms_34 ⟨(Nat.le_of_ble_eq_true rfl), (Nat.le_of_ble_eq_true rfl)⟩ (fun ut_16 H locs hw_17 hP hD hS => ?_)
      have hP : va_P D vwCl [(m_all, aI cs 51207 f_m_all), (md, .inr (9, [.int 0, .ref m_all, .ref m_deeds, .ref m_trial, .int 1, .ref m_hasImage, .ref m_tape, .ref m_key, .ref m_answered, .int 0, .int 0, .int 0, .ref m_goes, .int 0, .ref m_hotOnes, .ref m_indexed, .ref m_isChanged, .int 0, .ref m_valueNow, .int 0, .int (-1), .int 0, .ref m_didSome, .ref m_sizes, .ref m_ends]))] H := hP
      have hD : va_D A [(m_all, aI cs 51207 f_m_all), (md, .inr (9, [.int 0, .ref m_all, .ref m_deeds, .ref m_trial, .int 1, .ref m_hasImage, .ref m_tape, .ref m_key, .ref m_answered, .int 0, .int 0, .int 0, .ref m_goes, .int 0, .ref m_hotOnes, .ref m_indexed, .ref m_isChanged, .int 0, .ref m_valueNow, .int 0, .int (-1), .int 0, .ref m_didSome, .ref m_sizes, .ref m_ends]))] := hD
      refine lv_aload_n hx hb dX9_terms_37 rfl (lv_at hl 0 rfl) ?_
      refine va_get (D := D) (ci := 9) (v := .ref m_all) (C := RX9) (T := TX9) (N := 25) hx hb hu in_X9 hown hK.1 hP 1 rfl rfl 1 (by decide) (hu _ u_1081) (fun _ h9 => h9) rfl dX9_terms_38 ?_
      refine lv_iconst (v := 2) hx hb dX9_terms_41 (by decide) ?_
      refine lv_iload_n hx hb dX9_terms_42 rfl (lv_at hl 1 rfl) ?_
      refine lv_iadd hx hb dX9_terms_43 ?_
      refine va_iald hx hb hK.1 hP 0 0 rfl rfl (vin_of (N := 51207) (by grind) (by grind) rfl) dX9_terms_44 ?_
      refine tpi (y := 0) ((z_all _ (cl_lt (vin_of (N := 51207) (by grind) (by grind) rfl))).trans (AL_z _ (by grind) (by grind))) ?_
      refine lv_istore_n (lv' := [(3, .int 0), (0, .ref md), (1, .int x), (2, .int y)]) hx hb dX9_terms_45 rfl hl (by decide) rfl (fun ls hl => ?_)
      refine lv_aload_n hx hb dX9_terms_46 rfl (lv_at hl 1 rfl) ?_
      refine va_get (D := D) (ci := 9) (v := .ref m_all) (C := RX9) (T := TX9) (N := 25) hx hb hu in_X9 hown hK.1 hP 1 rfl rfl 1 (by decide) (hu _ u_1081) (fun _ h9 => h9) rfl dX9_terms_47 ?_
      refine lv_iconst (v := 2) hx hb dX9_terms_50 (by decide) ?_
      refine lv_iload_n hx hb dX9_terms_51 rfl (lv_at hl 2 rfl) ?_
      refine lv_iadd hx hb dX9_terms_52 ?_
      refine lv_iload_n hx hb dX9_terms_53 rfl (lv_at hl 3 rfl) ?_
      refine va_iast hx hb hK.1 hP hD hS 0 0 rfl rfl (vin_of (N := 51207) (by grind) (by grind) rfl) dX9_terms_54 (fun H locs hP hD hS => ?_)
      have hP : va_P D vwCl [(m_all, aI cs 51207 (upd f_m_all (2 + x).toNatClampNeg y)), (md, .inr (9, [.int 0, .ref m_all, .ref m_deeds, .ref m_trial, .int 1, .ref m_hasImage, .ref m_tape, .ref m_key, .ref m_answered, .int 0, .int 0, .int 0, .ref m_goes, .int 0, .ref m_hotOnes, .ref m_indexed, .ref m_isChanged, .int 0, .ref m_valueNow, .int 0, .int (-1), .int 0, .ref m_didSome, .ref m_sizes, .ref m_ends]))] H := hP
      have hD : va_D A [(m_all, aI cs 51207 (upd f_m_all (2 + x).toNatClampNeg y)), (md, .inr (9, [.int 0, .ref m_all, .ref m_deeds, .ref m_trial, .int 1, .ref m_hasImage, .ref m_tape, .ref m_key, .ref m_answered, .int 0, .int 0, .int 0, .ref m_goes, .int 0, .ref m_hotOnes, .ref m_indexed, .ref m_isChanged, .int 0, .ref m_valueNow, .int 0, .int (-1), .int 0, .ref m_didSome, .ref m_sizes, .ref m_ends]))] := hD
      refine lv_iload_n hx hb dX9_terms_55 rfl (lv_at hl 0 rfl) ?_
      exact hz () hP hD hS (by grind) [] rfl rfl (Nat.le_of_ble_eq_true rfl) (Nat.le_of_ble_eq_true rfl) .int rfl rfl dX9_terms_56
    · obtain ⟨er_18, hf_19⟩ := hw_10
      have hf_20 : ¬ (0 ≤ y ∧ y ≤ 2) := fun h => hf_19 ⟨(w_le (d := 0) (x := y) (by decide)).mpr h.1, (w_ge (d := 2) (x := y) (by decide)).mpr h.2⟩
      subst er_18
      refine lv_if_ne (tgt := 33) hx hb dX9_terms_27 (by decide) (fun c_21 => absurd (by decide) c_21) (fun c_21 => ?_)
      refine lv_bipush (v := (-3)) hx hb dX9_terms_30 (by decide) ?_
      exact hz () hP hD hS (by grind) [] rfl rfl (Nat.le_of_ble_eq_true rfl) (Nat.le_of_ble_eq_true rfl) .int rfl rfl dX9_terms_32
  · obtain ⟨er_22, hf_23⟩ := hw_3
    have hf_24 : ¬ (0 ≤ x ∧ x ≤ 1) := fun h => hf_23 ⟨(w_le (d := 0) (x := x) (by decide)).mpr h.1, (w_ge (d := 1) (x := x) (by decide)).mpr h.2⟩
    subst er_22
    refine lv_if_ne (tgt := 18) hx hb dX9_terms_12 (by decide) (fun c_25 => absurd (by decide) c_25) (fun c_25 => ?_)
    refine lv_bipush (v := (-2)) hx hb dX9_terms_15 (by decide) ?_
    exact hz () hP hD hS (by grind) [] rfl rfl (Nat.le_of_ble_eq_true rfl) (Nat.le_of_ble_eq_true rfl) .int rfl rfl dX9_terms_17
abbrev rm_c_X9_page : Room := { frames := 2, cells := 0, slots := 0, locals := 44 }
set_option maxHeartbeats 4000000 in
set_option maxRecDepth 100000 in
theorem c_X9_page (l : Launch) (D : va_G) (cs : Nat → ClassId) (sz : Nat) (x : Int32) (y : Int32) (md : Nat) (m_all : Nat) (f_m_all : Nat → Int32) (m_deeds : Nat) (m_trial : Nat) (m_hasImage : Nat) (m_tape : Nat) (m_key : Nat) (m_answered : Nat) (m_goes : Nat) (m_hotOnes : Nat) (m_indexed : Nat) (m_isChanged : Nat) (m_valueNow : Nat) (m_didSome : Nat) (m_sizes : Nat) (m_ends : Nat) (z_all : ∀ j, j < 51207 → f_m_all j = AL j) : cMi l yX9_page (Cond.code yX9_page cX9_page 5 (some .int)) (rm_c_X9_page) D cs [.ref md, .int x, .int y] sz [(md, .inr (9, [.int 0, .ref m_all, .ref m_deeds, .ref m_trial, .int 0, .ref m_hasImage, .ref m_tape, .ref m_key, .ref m_answered, .int 0, .int 0, .int 0, .ref m_goes, .int 0, .ref m_hotOnes, .ref m_indexed, .ref m_isChanged, .int 0, .ref m_valueNow, .int 0, .int (-1), .int 0, .ref m_didSome, .ref m_sizes, .ref m_ends])), (m_all, aI cs 51207 f_m_all)] (fun (r : Int32) (u : Unit) => ((r = (-2)) ∧ (x < 0 ∨ 24 ≤ x ∨ y < 0 ∨ 5 < y)) ∨ ((r = 0) ∧ (¬ x < 0 ∧ x < 24 ∧ ¬ y < 0 ∧ ¬ 5 < y))) (fun (u : Unit) => []) := by
  refine kMet_i RX9 (by decide) rfl (Nat.le_of_ble_eq_true rfl) ?_
  intro p e s m below meth c ls A Qz H locs hx hb hml hown hin hu hK hsz hA hP hD hS hl hz
  subst hsz
  have hl : lv_has ls 5 [(0, .ref md), (1, .int x), (2, .int y)] := hl
  refine lv_aload_n hx hb dX9_page_0 rfl (lv_at hl 0 rfl) ?_
  refine lv_iconst (v := 0) hx hb dX9_page_1 (by decide) ?_
  refine va_put (D := D) (ci := 9) (v := .int 0) (ty := tyX9 0) (C := RX9) (T := TX9) (N := 25) hx hb hu in_X9 tyX9 tyX9_ok nmX9 hown hK.1 hP hD hS 0 rfl rfl 0 (by decide) (hu _ u_1080) (fun _ h9 => h9) rfl (tyX9_ok 0 (by decide)) rfl rfl (Nat.le_of_ble_eq_true rfl) dX9_page_2 (fun H locs hP hD hS => ?_)
  have hP : va_P D vwCl [(md, .inr (9, [.int 0, .ref m_all, .ref m_deeds, .ref m_trial, .int 0, .ref m_hasImage, .ref m_tape, .ref m_key, .ref m_answered, .int 0, .int 0, .int 0, .ref m_goes, .int 0, .ref m_hotOnes, .ref m_indexed, .ref m_isChanged, .int 0, .ref m_valueNow, .int 0, .int (-1), .int 0, .ref m_didSome, .ref m_sizes, .ref m_ends])), (m_all, aI cs 51207 f_m_all)] H := hP
  have hD : va_D A [(md, .inr (9, [.int 0, .ref m_all, .ref m_deeds, .ref m_trial, .int 0, .ref m_hasImage, .ref m_tape, .ref m_key, .ref m_answered, .int 0, .int 0, .int 0, .ref m_goes, .int 0, .ref m_hotOnes, .ref m_indexed, .ref m_isChanged, .int 0, .ref m_valueNow, .int 0, .int (-1), .int 0, .ref m_didSome, .ref m_sizes, .ref m_ends])), (m_all, aI cs 51207 f_m_all)] := hD
  refine lv_iload_n hx hb dX9_page_5 rfl (lv_at hl 1 rfl) ?_
  refine lv_i2l (v := x.toInt64) hx hb dX9_page_6 rfl ?_
  refine lv_lconst (v := 0) hx hb dX9_page_7 (by decide) ?_
  refine lv_ldc2 (v := 23) hx hb hown (hu _ u_1480) dX9_page_8 ?_
  refine kS_i  (As := [.long x.toInt64, .long 0, .long 23]) (rest := []) (wc := []) (wr := [(md, .inr (9, [.int 0, .ref m_all, .ref m_deeds, .ref m_trial, .int 0, .ref m_hasImage, .ref m_tape, .ref m_key, .ref m_answered, .int 0, .int 0, .int 0, .ref m_goes, .int 0, .ref m_hotOnes, .ref m_indexed, .ref m_isChanged, .int 0, .ref m_valueNow, .int 0, .int (-1), .int 0, .ref m_didSome, .ref m_sizes, .ref m_ends])), (m_all, aI cs 51207 f_m_all)]) hx hb hml hown hu hK hP hD hS hA hl.1 (c_X9_within l D cs H.size x.toInt64 0 23) (gS u_1164 u_1165 u_76 u_1166) hd_X9_within ⟨(Nat.le_of_ble_eq_true rfl), (Nat.le_of_ble_eq_true rfl)⟩ [] [0, 1] rfl rfl rfl rfl (by decide) rfl rfl (Nat.le_of_ble_eq_true rfl) dX9_page_11 ⟨(Nat.le_of_ble_eq_true rfl), (Nat.le_of_ble_eq_true rfl)⟩ (fun r_1 ut_2 H locs hw_3 hP hD hS => ?_)
  have hP : va_P D vwCl [(md, .inr (9, [.int 0, .ref m_all, .ref m_deeds, .ref m_trial, .int 0, .ref m_hasImage, .ref m_tape, .ref m_key, .ref m_answered, .int 0, .int 0, .int 0, .ref m_goes, .int 0, .ref m_hotOnes, .ref m_indexed, .ref m_isChanged, .int 0, .ref m_valueNow, .int 0, .int (-1), .int 0, .ref m_didSome, .ref m_sizes, .ref m_ends])), (m_all, aI cs 51207 f_m_all)] H := hP
  have hD : va_D A [(md, .inr (9, [.int 0, .ref m_all, .ref m_deeds, .ref m_trial, .int 0, .ref m_hasImage, .ref m_tape, .ref m_key, .ref m_answered, .int 0, .int 0, .int 0, .ref m_goes, .int 0, .ref m_hotOnes, .ref m_indexed, .ref m_isChanged, .int 0, .ref m_valueNow, .int 0, .int (-1), .int 0, .ref m_didSome, .ref m_sizes, .ref m_ends])), (m_all, aI cs 51207 f_m_all)] := hD
  rcases hw_3 with hw_3 | hw_3
  · obtain ⟨er_4, hf_5⟩ := hw_3
    have hf_6 : 0 ≤ x ∧ x ≤ 23 := ⟨(w_le (d := 0) (x := x) (by decide)).mp hf_5.1, (w_ge (d := 23) (x := x) (by decide)).mp hf_5.2⟩
    subst er_4
    refine lv_if_eq (tgt := 29) hx hb dX9_page_14 (by decide) (fun c_7 => absurd c_7 (by decide)) (fun c_7 => ?_)
    refine lv_iload_n hx hb dX9_page_17 rfl (lv_at hl 2 rfl) ?_
    refine lv_i2l (v := y.toInt64) hx hb dX9_page_18 rfl ?_
    refine lv_lconst (v := 0) hx hb dX9_page_19 (by decide) ?_
    refine lv_ldc2 (v := 5) hx hb hown (hu _ u_1481) dX9_page_20 ?_
    refine kS_i  (As := [.long y.toInt64, .long 0, .long 5]) (rest := []) (wc := []) (wr := [(md, .inr (9, [.int 0, .ref m_all, .ref m_deeds, .ref m_trial, .int 0, .ref m_hasImage, .ref m_tape, .ref m_key, .ref m_answered, .int 0, .int 0, .int 0, .ref m_goes, .int 0, .ref m_hotOnes, .ref m_indexed, .ref m_isChanged, .int 0, .ref m_valueNow, .int 0, .int (-1), .int 0, .ref m_didSome, .ref m_sizes, .ref m_ends])), (m_all, aI cs 51207 f_m_all)]) hx hb hml hown hu hK hP hD hS hA hl.1 (c_X9_within l D cs H.size y.toInt64 0 5) (gS u_1164 u_1165 u_76 u_1166) hd_X9_within ⟨(Nat.le_of_ble_eq_true rfl), (Nat.le_of_ble_eq_true rfl)⟩ [] [0, 1] rfl rfl rfl rfl (by decide) rfl rfl (Nat.le_of_ble_eq_true rfl) dX9_page_23 ⟨(Nat.le_of_ble_eq_true rfl), (Nat.le_of_ble_eq_true rfl)⟩ (fun r_8 ut_9 H locs hw_10 hP hD hS => ?_)
    have hP : va_P D vwCl [(md, .inr (9, [.int 0, .ref m_all, .ref m_deeds, .ref m_trial, .int 0, .ref m_hasImage, .ref m_tape, .ref m_key, .ref m_answered, .int 0, .int 0, .int 0, .ref m_goes, .int 0, .ref m_hotOnes, .ref m_indexed, .ref m_isChanged, .int 0, .ref m_valueNow, .int 0, .int (-1), .int 0, .ref m_didSome, .ref m_sizes, .ref m_ends])), (m_all, aI cs 51207 f_m_all)] H := hP
    have hD : va_D A [(md, .inr (9, [.int 0, .ref m_all, .ref m_deeds, .ref m_trial, .int 0, .ref m_hasImage, .ref m_tape, .ref m_key, .ref m_answered, .int 0, .int 0, .int 0, .ref m_goes, .int 0, .ref m_hotOnes, .ref m_indexed, .ref m_isChanged, .int 0, .ref m_valueNow, .int 0, .int (-1), .int 0, .ref m_didSome, .ref m_sizes, .ref m_ends])), (m_all, aI cs 51207 f_m_all)] := hD
    rcases hw_10 with hw_10 | hw_10
    · obtain ⟨er_11, hf_12⟩ := hw_10
      have hf_13 : 0 ≤ y ∧ y ≤ 5 := ⟨(w_le (d := 0) (x := y) (by decide)).mp hf_12.1, (w_ge (d := 5) (x := y) (by decide)).mp hf_12.2⟩
      subst er_11
      refine lv_if_ne (tgt := 32) hx hb dX9_page_26 (by decide) (fun c_14 => ?_) (fun c_14 => absurd c_14 (by decide))
      refine lv_iload_n hx hb dX9_page_32 rfl (lv_at hl 2 rfl) ?_
      rcases (sw_5 y) with c_15 | c_15 | c_15 | c_15 | c_15 | c_15
      · refine lv_tableIn (tgt := 68) hx hb dX9_page_33 (by rw [c_15]; decide) (by rw [c_15]; decide) (off := 35) (by rw [c_15]; rfl) (by decide) ?_
        refine lv_aload_n hx hb dX9_page_68 rfl (lv_at hl 0 rfl) ?_
        refine va_get (D := D) (ci := 9) (v := .ref m_all) (C := RX9) (T := TX9) (N := 25) hx hb hu in_X9 hown hK.1 hP 0 rfl rfl 1 (by decide) (hu _ u_1081) (fun _ h9 => h9) rfl dX9_page_69 ?_
        refine lv_bipush (v := 7) hx hb dX9_page_72 (by decide) ?_
        refine lv_iload_n hx hb dX9_page_74 rfl (lv_at hl 1 rfl) ?_
        refine lv_iadd hx hb dX9_page_75 ?_
        refine va_iald hx hb hK.1 hP 1 0 rfl rfl (vin_of (N := 51207) (by grind) (by grind) rfl) dX9_page_76 ?_
        refine tpi (y := 0) ((z_all _ (cl_lt (vin_of (N := 51207) (by grind) (by grind) rfl))).trans (AL_z _ (by grind) (by grind))) ?_
        exact hz () hP hD hS (by grind) [] rfl rfl (Nat.le_of_ble_eq_true rfl) (Nat.le_of_ble_eq_true rfl) .int rfl rfl dX9_page_77
      · refine lv_tableIn (tgt := 78) hx hb dX9_page_33 (by rw [c_15]; decide) (by rw [c_15]; decide) (off := 45) (by rw [c_15]; rfl) (by decide) ?_
        refine lv_aload_n hx hb dX9_page_78 rfl (lv_at hl 0 rfl) ?_
        refine lv_iload_n hx hb dX9_page_79 rfl (lv_at hl 1 rfl) ?_
        refine kV_i (ci := 9) (As := [.int x]) (rest := []) (wc := [(md, .inr (9, [.int 0, .ref m_all, .ref m_deeds, .ref m_trial, .int 0, .ref m_hasImage, .ref m_tape, .ref m_key, .ref m_answered, .int 0, .int 0, .int 0, .ref m_goes, .int 0, .ref m_hotOnes, .ref m_indexed, .ref m_isChanged, .int 0, .ref m_valueNow, .int 0, .int (-1), .int 0, .ref m_didSome, .ref m_sizes, .ref m_ends])), (m_all, aI cs 51207 f_m_all)]) (wr := []) hx hb hml hown hu hK hP hD hS hA hl.1 (c_X9_liveOn l D cs H.size x md m_all f_m_all m_deeds m_trial m_hasImage m_tape m_key m_answered m_goes m_hotOnes m_indexed m_isChanged m_valueNow m_didSome m_sizes m_ends 0 0 0 z_all) (gV u_1482 u_1484 u_60 u_76 u_1485) hd_X9_liveOn ⟨(Nat.le_of_ble_eq_true rfl), (Nat.le_of_ble_eq_true rfl)⟩ [0, 1] [] rfl rfl rfl rfl (by decide) rfl 0 rfl rfl rfl (Nat.le_of_ble_eq_true rfl) dX9_page_80 ⟨(Nat.le_of_ble_eq_true rfl), (Nat.le_of_ble_eq_true rfl)⟩ (fun r_16 ut_17 H locs hw_18 hP hD hS => ?_)
        have hP : va_P D vwCl [(md, .inr (9, [.int 0, .ref m_all, .ref m_deeds, .ref m_trial, .int 0, .ref m_hasImage, .ref m_tape, .ref m_key, .ref m_answered, .int 0, .int 0, .int 0, .ref m_goes, .int 0, .ref m_hotOnes, .ref m_indexed, .ref m_isChanged, .int 0, .ref m_valueNow, .int 0, .int (-1), .int 0, .ref m_didSome, .ref m_sizes, .ref m_ends])), (m_all, aI cs 51207 f_m_all)] H := hP
        have hD : va_D A [(md, .inr (9, [.int 0, .ref m_all, .ref m_deeds, .ref m_trial, .int 0, .ref m_hasImage, .ref m_tape, .ref m_key, .ref m_answered, .int 0, .int 0, .int 0, .ref m_goes, .int 0, .ref m_hotOnes, .ref m_indexed, .ref m_isChanged, .int 0, .ref m_valueNow, .int 0, .int (-1), .int 0, .ref m_didSome, .ref m_sizes, .ref m_ends])), (m_all, aI cs 51207 f_m_all)] := hD
        have er_19 := hw_18
        subst er_19
        exact hz () hP hD hS (by grind) [] rfl rfl (Nat.le_of_ble_eq_true rfl) (Nat.le_of_ble_eq_true rfl) .int rfl rfl dX9_page_83
      · refine lv_tableIn (tgt := 84) hx hb dX9_page_33 (by rw [c_15]; decide) (by rw [c_15]; decide) (off := 51) (by rw [c_15]; rfl) (by decide) ?_
        refine lv_aload_n hx hb dX9_page_84 rfl (lv_at hl 0 rfl) ?_
        refine lv_iload_n hx hb dX9_page_85 rfl (lv_at hl 1 rfl) ?_
        refine kV_i (ci := 9) (As := [.int x]) (rest := []) (wc := [(md, .inr (9, [.int 0, .ref m_all, .ref m_deeds, .ref m_trial, .int 0, .ref m_hasImage, .ref m_tape, .ref m_key, .ref m_answered, .int 0, .int 0, .int 0, .ref m_goes, .int 0, .ref m_hotOnes, .ref m_indexed, .ref m_isChanged, .int 0, .ref m_valueNow, .int 0, .int (-1), .int 0, .ref m_didSome, .ref m_sizes, .ref m_ends])), (m_all, aI cs 51207 f_m_all)]) (wr := []) hx hb hml hown hu hK hP hD hS hA hl.1 (c_X9_stayingOn l D cs H.size x md m_all f_m_all m_deeds m_trial m_hasImage m_tape m_key m_answered m_goes m_hotOnes m_indexed m_isChanged m_valueNow m_didSome m_sizes m_ends 0 0 0 z_all) (gV u_1204 u_1206 u_17 u_76 u_1207) hd_X9_stayingOn ⟨(Nat.le_of_ble_eq_true rfl), (Nat.le_of_ble_eq_true rfl)⟩ [0, 1] [] rfl rfl rfl rfl (by decide) rfl 0 rfl rfl rfl (Nat.le_of_ble_eq_true rfl) dX9_page_86 ⟨(Nat.le_of_ble_eq_true rfl), (Nat.le_of_ble_eq_true rfl)⟩ (fun r_20 ut_21 H locs hw_22 hP hD hS => ?_)
        have hP : va_P D vwCl [(md, .inr (9, [.int 0, .ref m_all, .ref m_deeds, .ref m_trial, .int 0, .ref m_hasImage, .ref m_tape, .ref m_key, .ref m_answered, .int 0, .int 0, .int 0, .ref m_goes, .int 0, .ref m_hotOnes, .ref m_indexed, .ref m_isChanged, .int 0, .ref m_valueNow, .int 0, .int (-1), .int 0, .ref m_didSome, .ref m_sizes, .ref m_ends])), (m_all, aI cs 51207 f_m_all)] H := hP
        have hD : va_D A [(md, .inr (9, [.int 0, .ref m_all, .ref m_deeds, .ref m_trial, .int 0, .ref m_hasImage, .ref m_tape, .ref m_key, .ref m_answered, .int 0, .int 0, .int 0, .ref m_goes, .int 0, .ref m_hotOnes, .ref m_indexed, .ref m_isChanged, .int 0, .ref m_valueNow, .int 0, .int (-1), .int 0, .ref m_didSome, .ref m_sizes, .ref m_ends])), (m_all, aI cs 51207 f_m_all)] := hD
        have er_23 := hw_22
        subst er_23
        refine lv_aload_n hx hb dX9_page_89 rfl (lv_at hl 0 rfl) ?_
        refine lv_iload_n hx hb dX9_page_90 rfl (lv_at hl 1 rfl) ?_
        refine kV_i (ci := 9) (As := [.int x]) (rest := [.int 0]) (wc := [(md, .inr (9, [.int 0, .ref m_all, .ref m_deeds, .ref m_trial, .int 0, .ref m_hasImage, .ref m_tape, .ref m_key, .ref m_answered, .int 0, .int 0, .int 0, .ref m_goes, .int 0, .ref m_hotOnes, .ref m_indexed, .ref m_isChanged, .int 0, .ref m_valueNow, .int 0, .int (-1), .int 0, .ref m_didSome, .ref m_sizes, .ref m_ends])), (m_all, aI cs 51207 f_m_all)]) (wr := []) hx hb hml hown hu hK hP hD hS hA hl.1 (c_X9_liveOn l D cs H.size x md m_all f_m_all m_deeds m_trial m_hasImage m_tape m_key m_answered m_goes m_hotOnes m_indexed m_isChanged m_valueNow m_didSome m_sizes m_ends 0 0 0 z_all) (gV u_1482 u_1484 u_60 u_76 u_1485) hd_X9_liveOn ⟨(Nat.le_of_ble_eq_true rfl), (Nat.le_of_ble_eq_true rfl)⟩ [0, 1] [] rfl rfl rfl rfl (by decide) rfl 0 rfl rfl rfl (Nat.le_of_ble_eq_true rfl) dX9_page_91 ⟨(Nat.le_of_ble_eq_true rfl), (Nat.le_of_ble_eq_true rfl)⟩ (fun r_24 ut_25 H locs hw_26 hP hD hS => ?_)
        have hP : va_P D vwCl [(md, .inr (9, [.int 0, .ref m_all, .ref m_deeds, .ref m_trial, .int 0, .ref m_hasImage, .ref m_tape, .ref m_key, .ref m_answered, .int 0, .int 0, .int 0, .ref m_goes, .int 0, .ref m_hotOnes, .ref m_indexed, .ref m_isChanged, .int 0, .ref m_valueNow, .int 0, .int (-1), .int 0, .ref m_didSome, .ref m_sizes, .ref m_ends])), (m_all, aI cs 51207 f_m_all)] H := hP
        have hD : va_D A [(md, .inr (9, [.int 0, .ref m_all, .ref m_deeds, .ref m_trial, .int 0, .ref m_hasImage, .ref m_tape, .ref m_key, .ref m_answered, .int 0, .int 0, .int 0, .ref m_goes, .int 0, .ref m_hotOnes, .ref m_indexed, .ref m_isChanged, .int 0, .ref m_valueNow, .int 0, .int (-1), .int 0, .ref m_didSome, .ref m_sizes, .ref m_ends])), (m_all, aI cs 51207 f_m_all)] := hD
        have er_27 := hw_26
        subst er_27
        refine lv_isub hx hb dX9_page_94 ?_
        refine tpi (y := 0) (by decide) ?_
        exact hz () hP hD hS (by grind) [] rfl rfl (Nat.le_of_ble_eq_true rfl) (Nat.le_of_ble_eq_true rfl) .int rfl rfl dX9_page_95
      · refine lv_tableIn (tgt := 96) hx hb dX9_page_33 (by rw [c_15]; decide) (by rw [c_15]; decide) (off := 63) (by rw [c_15]; rfl) (by decide) ?_
        refine lv_aload_n hx hb dX9_page_96 rfl (lv_at hl 0 rfl) ?_
        refine lv_iload_n hx hb dX9_page_97 rfl (lv_at hl 1 rfl) ?_
        refine kV_i (ci := 9) (As := [.int x]) (rest := []) (wc := [(md, .inr (9, [.int 0, .ref m_all, .ref m_deeds, .ref m_trial, .int 0, .ref m_hasImage, .ref m_tape, .ref m_key, .ref m_answered, .int 0, .int 0, .int 0, .ref m_goes, .int 0, .ref m_hotOnes, .ref m_indexed, .ref m_isChanged, .int 0, .ref m_valueNow, .int 0, .int (-1), .int 0, .ref m_didSome, .ref m_sizes, .ref m_ends])), (m_all, aI cs 51207 f_m_all)]) (wr := []) hx hb hml hown hu hK hP hD hS hA hl.1 (c_X9_deadOn l D cs H.size x md m_all f_m_all m_deeds m_trial m_hasImage m_tape m_key m_answered m_goes m_hotOnes m_indexed m_isChanged m_valueNow m_didSome m_sizes m_ends 0 0 0 z_all (by first | decide | grind)) (gV u_1200 u_1202 u_16 u_76 u_1203) hd_X9_deadOn ⟨(Nat.le_of_ble_eq_true rfl), (Nat.le_of_ble_eq_true rfl)⟩ [0, 1] [] rfl rfl rfl rfl (by decide) rfl 0 rfl rfl rfl (Nat.le_of_ble_eq_true rfl) dX9_page_98 ⟨(Nat.le_of_ble_eq_true rfl), (Nat.le_of_ble_eq_true rfl)⟩ (fun r_28 ut_29 H locs hw_30 hP hD hS => ?_)
        have hP : va_P D vwCl [(md, .inr (9, [.int 0, .ref m_all, .ref m_deeds, .ref m_trial, .int 0, .ref m_hasImage, .ref m_tape, .ref m_key, .ref m_answered, .int 0, .int 0, .int 0, .ref m_goes, .int 0, .ref m_hotOnes, .ref m_indexed, .ref m_isChanged, .int 0, .ref m_valueNow, .int 0, .int (-1), .int 0, .ref m_didSome, .ref m_sizes, .ref m_ends])), (m_all, aI cs 51207 f_m_all)] H := hP
        have hD : va_D A [(md, .inr (9, [.int 0, .ref m_all, .ref m_deeds, .ref m_trial, .int 0, .ref m_hasImage, .ref m_tape, .ref m_key, .ref m_answered, .int 0, .int 0, .int 0, .ref m_goes, .int 0, .ref m_hotOnes, .ref m_indexed, .ref m_isChanged, .int 0, .ref m_valueNow, .int 0, .int (-1), .int 0, .ref m_didSome, .ref m_sizes, .ref m_ends])), (m_all, aI cs 51207 f_m_all)] := hD
        have er_31 := hw_30
        subst er_31
        exact hz () hP hD hS (by grind) [] rfl rfl (Nat.le_of_ble_eq_true rfl) (Nat.le_of_ble_eq_true rfl) .int rfl rfl dX9_page_101
      · refine lv_tableIn (tgt := 102) hx hb dX9_page_33 (by rw [c_15]; decide) (by rw [c_15]; decide) (off := 69) (by rw [c_15]; rfl) (by decide) ?_
        refine lv_iconst (v := 0) hx hb dX9_page_102 (by decide) ?_
        refine lv_istore_n (lv' := [(3, .int 0), (0, .ref md), (1, .int x), (2, .int y)]) hx hb dX9_page_103 rfl hl (by decide) rfl (fun ls hl => ?_)
        refine lv_iconst (v := 0) hx hb dX9_page_104 (by decide) ?_
        refine lv_istore (lv' := [(4, .int 0), (3, .int 0), (0, .ref md), (1, .int x), (2, .int y)]) hx hb dX9_page_105 hl (by decide) rfl (fun ls hl => ?_)
        refine lv_iload hx hb dX9_page_107 (lv_at hl 0 rfl) ?_
        refine lv_aload_n hx hb dX9_page_109 rfl (lv_at hl 2 rfl) ?_
        refine va_get (D := D) (ci := 9) (v := .ref m_all) (C := RX9) (T := TX9) (N := 25) hx hb hu in_X9 hown hK.1 hP 0 rfl rfl 1 (by decide) (hu _ u_1081) (fun _ h9 => h9) rfl dX9_page_110 ?_
        refine lv_sipush (v := 1628) hx hb dX9_page_113 (by decide) ?_
        refine va_iald hx hb hK.1 hP 1 0 rfl rfl (vin_c _ _ rfl) dX9_page_116 ?_
        refine tpi (y := 0) ((z_all _ (cl_lt (vin_c _ _ rfl))).trans (by decide +kernel)) ?_
        refine lv_icmp_ge (tgt := 145) hx hb dX9_page_117 (by decide) (fun c_32 => ?_) (fun c_32 => absurd (by decide) c_32)
        refine lv_iload_n hx hb dX9_page_145 rfl (lv_at hl 1 rfl) ?_
        exact hz () hP hD hS (by grind) [] rfl rfl (Nat.le_of_ble_eq_true rfl) (Nat.le_of_ble_eq_true rfl) .int rfl rfl dX9_page_146
      · refine lv_tableOut (tgt := 147) hx hb dX9_page_33 c_15.1 (by decide) ?_
        refine lv_aload_n hx hb dX9_page_147 rfl (lv_at hl 0 rfl) ?_
        refine va_get (D := D) (ci := 9) (v := .ref m_all) (C := RX9) (T := TX9) (N := 25) hx hb hu in_X9 hown hK.1 hP 0 rfl rfl 1 (by decide) (hu _ u_1081) (fun _ h9 => h9) rfl dX9_page_148 ?_
        refine lv_bipush (v := 31) hx hb dX9_page_151 (by decide) ?_
        refine lv_iload_n hx hb dX9_page_153 rfl (lv_at hl 1 rfl) ?_
        refine lv_iadd hx hb dX9_page_154 ?_
        refine va_iald hx hb hK.1 hP 1 0 rfl rfl (vin_of (N := 51207) (by grind) (by grind) rfl) dX9_page_155 ?_
        refine tpi (y := 0) ((z_all _ (cl_lt (vin_of (N := 51207) (by grind) (by grind) rfl))).trans (AL_z _ (by grind) (by grind))) ?_
        exact hz () hP hD hS (by grind) [] rfl rfl (Nat.le_of_ble_eq_true rfl) (Nat.le_of_ble_eq_true rfl) .int rfl rfl dX9_page_156
    · obtain ⟨er_33, hf_34⟩ := hw_10
      have hf_35 : ¬ (0 ≤ y ∧ y ≤ 5) := fun h => hf_34 ⟨(w_le (d := 0) (x := y) (by decide)).mpr h.1, (w_ge (d := 5) (x := y) (by decide)).mpr h.2⟩
      subst er_33
      refine lv_if_ne (tgt := 32) hx hb dX9_page_26 (by decide) (fun c_36 => absurd (by decide) c_36) (fun c_36 => ?_)
      refine lv_bipush (v := (-2)) hx hb dX9_page_29 (by decide) ?_
      exact hz () hP hD hS (by grind) [] rfl rfl (Nat.le_of_ble_eq_true rfl) (Nat.le_of_ble_eq_true rfl) .int rfl rfl dX9_page_31
  · obtain ⟨er_37, hf_38⟩ := hw_3
    have hf_39 : ¬ (0 ≤ x ∧ x ≤ 23) := fun h => hf_38 ⟨(w_le (d := 0) (x := x) (by decide)).mpr h.1, (w_ge (d := 23) (x := x) (by decide)).mpr h.2⟩
    subst er_37
    refine lv_if_eq (tgt := 29) hx hb dX9_page_14 (by decide) (fun c_40 => ?_) (fun c_40 => absurd (by decide) c_40)
    refine lv_bipush (v := (-2)) hx hb dX9_page_29 (by decide) ?_
    exact hz () hP hD hS (by grind) [] rfl rfl (Nat.le_of_ble_eq_true rfl) (Nat.le_of_ble_eq_true rfl) .int rfl rfl dX9_page_31
abbrev rm_c_X9_space : Room := { frames := 2, cells := 0, slots := 0, locals := 44 }
set_option maxHeartbeats 4000000 in
set_option maxRecDepth 100000 in
theorem c_X9_space (l : Launch) (D : va_G) (cs : Nat → ClassId) (sz : Nat) (x : Int32) (md : Nat) (m_all : Nat) (f_m_all : Nat → Int32) (m_deeds : Nat) (m_trial : Nat) (m_hasImage : Nat) (m_tape : Nat) (m_key : Nat) (m_answered : Nat) (m_goes : Nat) (m_hotOnes : Nat) (m_indexed : Nat) (m_isChanged : Nat) (m_valueNow : Nat) (m_didSome : Nat) (m_sizes : Nat) (m_ends : Nat) (z_all : ∀ j, j < 51207 → f_m_all j = AL j) : cMi l yX9_space (Cond.code yX9_space cX9_space 4 (some .int)) (rm_c_X9_space) D cs [.ref md, .int x] sz [(md, .inr (9, [.int 0, .ref m_all, .ref m_deeds, .ref m_trial, .int 0, .ref m_hasImage, .ref m_tape, .ref m_key, .ref m_answered, .int 0, .int 0, .int 0, .ref m_goes, .int 0, .ref m_hotOnes, .ref m_indexed, .ref m_isChanged, .int 0, .ref m_valueNow, .int 0, .int (-1), .int 0, .ref m_didSome, .ref m_sizes, .ref m_ends])), (m_all, aI cs 51207 f_m_all)] (fun (r : Int32) (u : Unit) => ((r = (-2)) ∧ (x < 0 ∨ 4 < x)) ∨ ((r = 0) ∧ (¬ x < 0 ∧ x < 4)) ∨ ((r = 1536) ∧ (x = 4))) (fun (u : Unit) => []) := by
  refine kMet_i RX9 (by decide) rfl (Nat.le_of_ble_eq_true rfl) ?_
  intro p e s m below meth c ls A Qz H locs hx hb hml hown hin hu hK hsz hA hP hD hS hl hz
  subst hsz
  have hl : lv_has ls 4 [(0, .ref md), (1, .int x)] := hl
  refine lv_aload_n hx hb dX9_space_0 rfl (lv_at hl 0 rfl) ?_
  refine lv_iconst (v := 0) hx hb dX9_space_1 (by decide) ?_
  refine va_put (D := D) (ci := 9) (v := .int 0) (ty := tyX9 0) (C := RX9) (T := TX9) (N := 25) hx hb hu in_X9 tyX9 tyX9_ok nmX9 hown hK.1 hP hD hS 0 rfl rfl 0 (by decide) (hu _ u_1080) (fun _ h9 => h9) rfl (tyX9_ok 0 (by decide)) rfl rfl (Nat.le_of_ble_eq_true rfl) dX9_space_2 (fun H locs hP hD hS => ?_)
  have hP : va_P D vwCl [(md, .inr (9, [.int 0, .ref m_all, .ref m_deeds, .ref m_trial, .int 0, .ref m_hasImage, .ref m_tape, .ref m_key, .ref m_answered, .int 0, .int 0, .int 0, .ref m_goes, .int 0, .ref m_hotOnes, .ref m_indexed, .ref m_isChanged, .int 0, .ref m_valueNow, .int 0, .int (-1), .int 0, .ref m_didSome, .ref m_sizes, .ref m_ends])), (m_all, aI cs 51207 f_m_all)] H := hP
  have hD : va_D A [(md, .inr (9, [.int 0, .ref m_all, .ref m_deeds, .ref m_trial, .int 0, .ref m_hasImage, .ref m_tape, .ref m_key, .ref m_answered, .int 0, .int 0, .int 0, .ref m_goes, .int 0, .ref m_hotOnes, .ref m_indexed, .ref m_isChanged, .int 0, .ref m_valueNow, .int 0, .int (-1), .int 0, .ref m_didSome, .ref m_sizes, .ref m_ends])), (m_all, aI cs 51207 f_m_all)] := hD
  refine lv_iload_n hx hb dX9_space_5 rfl (lv_at hl 1 rfl) ?_
  refine lv_i2l (v := x.toInt64) hx hb dX9_space_6 rfl ?_
  refine lv_lconst (v := 0) hx hb dX9_space_7 (by decide) ?_
  refine lv_ldc2 (v := 4) hx hb hown (hu _ u_1490) dX9_space_8 ?_
  refine kS_i  (As := [.long x.toInt64, .long 0, .long 4]) (rest := []) (wc := []) (wr := [(md, .inr (9, [.int 0, .ref m_all, .ref m_deeds, .ref m_trial, .int 0, .ref m_hasImage, .ref m_tape, .ref m_key, .ref m_answered, .int 0, .int 0, .int 0, .ref m_goes, .int 0, .ref m_hotOnes, .ref m_indexed, .ref m_isChanged, .int 0, .ref m_valueNow, .int 0, .int (-1), .int 0, .ref m_didSome, .ref m_sizes, .ref m_ends])), (m_all, aI cs 51207 f_m_all)]) hx hb hml hown hu hK hP hD hS hA hl.1 (c_X9_within l D cs H.size x.toInt64 0 4) (gS u_1164 u_1165 u_76 u_1166) hd_X9_within ⟨(Nat.le_of_ble_eq_true rfl), (Nat.le_of_ble_eq_true rfl)⟩ [] [0, 1] rfl rfl rfl rfl (by decide) rfl rfl (Nat.le_of_ble_eq_true rfl) dX9_space_11 ⟨(Nat.le_of_ble_eq_true rfl), (Nat.le_of_ble_eq_true rfl)⟩ (fun r_1 ut_2 H locs hw_3 hP hD hS => ?_)
  have hP : va_P D vwCl [(md, .inr (9, [.int 0, .ref m_all, .ref m_deeds, .ref m_trial, .int 0, .ref m_hasImage, .ref m_tape, .ref m_key, .ref m_answered, .int 0, .int 0, .int 0, .ref m_goes, .int 0, .ref m_hotOnes, .ref m_indexed, .ref m_isChanged, .int 0, .ref m_valueNow, .int 0, .int (-1), .int 0, .ref m_didSome, .ref m_sizes, .ref m_ends])), (m_all, aI cs 51207 f_m_all)] H := hP
  have hD : va_D A [(md, .inr (9, [.int 0, .ref m_all, .ref m_deeds, .ref m_trial, .int 0, .ref m_hasImage, .ref m_tape, .ref m_key, .ref m_answered, .int 0, .int 0, .int 0, .ref m_goes, .int 0, .ref m_hotOnes, .ref m_indexed, .ref m_isChanged, .int 0, .ref m_valueNow, .int 0, .int (-1), .int 0, .ref m_didSome, .ref m_sizes, .ref m_ends])), (m_all, aI cs 51207 f_m_all)] := hD
  rcases hw_3 with hw_3 | hw_3
  · obtain ⟨er_4, hf_5⟩ := hw_3
    have hf_6 : 0 ≤ x ∧ x ≤ 4 := ⟨(w_le (d := 0) (x := x) (by decide)).mp hf_5.1, (w_ge (d := 4) (x := x) (by decide)).mp hf_5.2⟩
    subst er_4
    refine lv_if_ne (tgt := 20) hx hb dX9_space_14 (by decide) (fun c_7 => ?_) (fun c_7 => absurd c_7 (by decide))
    rcases (by grind : x = 0 ∨ x = 1 ∨ x = 2 ∨ x = 3 ∨ x = 4) with c_8 | c_8 | c_8 | c_8 | c_8
    · subst c_8
      refine lv_iconst (v := 0) hx hb dX9_space_20 (by decide) ?_
      refine lv_istore_n (lv' := [(2, .int 0), (0, .ref md), (1, .int 0)]) hx hb dX9_space_21 rfl hl (by decide) rfl (fun ls hl => ?_)
      refine lv_iconst (v := 0) hx hb dX9_space_22 (by decide) ?_
      refine lv_istore_n (lv' := [(3, .int 0), (2, .int 0), (0, .ref md), (1, .int 0)]) hx hb dX9_space_23 rfl hl (by decide) rfl (fun ls hl => ?_)
      refine lv_iload_n hx hb dX9_space_24 rfl (lv_at hl 0 rfl) ?_
      refine lv_bipush (v := 24) hx hb dX9_space_25 (by decide) ?_
      refine lv_icmp_ge (tgt := 152) hx hb dX9_space_27 (by decide) (fun c_9 => absurd c_9 (by decide)) (fun c_9 => ?_)
      refine lv_iload_n hx hb dX9_space_30 rfl (lv_at hl 3 rfl) ?_
      refine lv_tableIn (tgt := 60) hx hb dX9_space_31 (by decide) (by decide) (off := 29) (by decide) (by decide) ?_
      refine lv_iload_n hx hb dX9_space_60 rfl (lv_at hl 1 rfl) ?_
      refine lv_aload_n hx hb dX9_space_61 rfl (lv_at hl 2 rfl) ?_
      refine lv_iload_n hx hb dX9_space_62 rfl (lv_at hl 0 rfl) ?_
      refine kV_i (ci := 9) (As := [.int 0]) (rest := [.int 0]) (wc := [(md, .inr (9, [.int 0, .ref m_all, .ref m_deeds, .ref m_trial, .int 0, .ref m_hasImage, .ref m_tape, .ref m_key, .ref m_answered, .int 0, .int 0, .int 0, .ref m_goes, .int 0, .ref m_hotOnes, .ref m_indexed, .ref m_isChanged, .int 0, .ref m_valueNow, .int 0, .int (-1), .int 0, .ref m_didSome, .ref m_sizes, .ref m_ends])), (m_all, aI cs 51207 f_m_all)]) (wr := []) hx hb hml hown hu hK hP hD hS hA hl.1 (c_X9_liveOn l D cs H.size 0 md m_all f_m_all m_deeds m_trial m_hasImage m_tape m_key m_answered m_goes m_hotOnes m_indexed m_isChanged m_valueNow m_didSome m_sizes m_ends 0 0 0 z_all) (gV u_1482 u_1484 u_60 u_76 u_1485) hd_X9_liveOn ⟨(Nat.le_of_ble_eq_true rfl), (Nat.le_of_ble_eq_true rfl)⟩ [0, 1] [] rfl rfl rfl rfl (by decide) rfl 0 rfl rfl rfl (Nat.le_of_ble_eq_true rfl) dX9_space_63 ⟨(Nat.le_of_ble_eq_true rfl), (Nat.le_of_ble_eq_true rfl)⟩ (fun r_10 ut_11 H locs hw_12 hP hD hS => ?_)
      have hP : va_P D vwCl [(md, .inr (9, [.int 0, .ref m_all, .ref m_deeds, .ref m_trial, .int 0, .ref m_hasImage, .ref m_tape, .ref m_key, .ref m_answered, .int 0, .int 0, .int 0, .ref m_goes, .int 0, .ref m_hotOnes, .ref m_indexed, .ref m_isChanged, .int 0, .ref m_valueNow, .int 0, .int (-1), .int 0, .ref m_didSome, .ref m_sizes, .ref m_ends])), (m_all, aI cs 51207 f_m_all)] H := hP
      have hD : va_D A [(md, .inr (9, [.int 0, .ref m_all, .ref m_deeds, .ref m_trial, .int 0, .ref m_hasImage, .ref m_tape, .ref m_key, .ref m_answered, .int 0, .int 0, .int 0, .ref m_goes, .int 0, .ref m_hotOnes, .ref m_indexed, .ref m_isChanged, .int 0, .ref m_valueNow, .int 0, .int (-1), .int 0, .ref m_didSome, .ref m_sizes, .ref m_ends])), (m_all, aI cs 51207 f_m_all)] := hD
      have er_13 := hw_12
      subst er_13
      refine lv_iadd hx hb dX9_space_66 ?_
      refine tpi (y := 0) (by decide) ?_
      refine lv_istore_n (lv' := [(2, .int 0), (3, .int 0), (0, .ref md), (1, .int 0)]) hx hb dX9_space_67 rfl hl (by decide) rfl (fun ls hl => ?_)
      refine lv_goto (tgt := 146) hx hb dX9_space_68 (by decide) ?_
      refine lv_iinc (v := 1) (lv' := [(3, .int 1), (2, .int 0), (0, .ref md), (1, .int 0)]) hx hb dX9_space_146 hl (k := 1) rfl (by decide) (by decide) rfl (fun ls hl => ?_)
      refine lv_goto (tgt := 24) hx hb dX9_space_149 (by decide) ?_
      refine lv_iload_n hx hb dX9_space_24 rfl (lv_at hl 0 rfl) ?_
      refine lv_bipush (v := 24) hx hb dX9_space_25 (by decide) ?_
      refine lv_icmp_ge (tgt := 152) hx hb dX9_space_27 (by decide) (fun c_14 => absurd c_14 (by decide)) (fun c_14 => ?_)
      refine lv_iload_n hx hb dX9_space_30 rfl (lv_at hl 3 rfl) ?_
      refine lv_tableIn (tgt := 60) hx hb dX9_space_31 (by decide) (by decide) (off := 29) (by decide) (by decide) ?_
      refine lv_iload_n hx hb dX9_space_60 rfl (lv_at hl 1 rfl) ?_
      refine lv_aload_n hx hb dX9_space_61 rfl (lv_at hl 2 rfl) ?_
      refine lv_iload_n hx hb dX9_space_62 rfl (lv_at hl 0 rfl) ?_
      refine kV_i (ci := 9) (As := [.int 1]) (rest := [.int 0]) (wc := [(md, .inr (9, [.int 0, .ref m_all, .ref m_deeds, .ref m_trial, .int 0, .ref m_hasImage, .ref m_tape, .ref m_key, .ref m_answered, .int 0, .int 0, .int 0, .ref m_goes, .int 0, .ref m_hotOnes, .ref m_indexed, .ref m_isChanged, .int 0, .ref m_valueNow, .int 0, .int (-1), .int 0, .ref m_didSome, .ref m_sizes, .ref m_ends])), (m_all, aI cs 51207 f_m_all)]) (wr := []) hx hb hml hown hu hK hP hD hS hA hl.1 (c_X9_liveOn l D cs H.size 1 md m_all f_m_all m_deeds m_trial m_hasImage m_tape m_key m_answered m_goes m_hotOnes m_indexed m_isChanged m_valueNow m_didSome m_sizes m_ends 0 0 0 z_all) (gV u_1482 u_1484 u_60 u_76 u_1485) hd_X9_liveOn ⟨(Nat.le_of_ble_eq_true rfl), (Nat.le_of_ble_eq_true rfl)⟩ [0, 1] [] rfl rfl rfl rfl (by decide) rfl 0 rfl rfl rfl (Nat.le_of_ble_eq_true rfl) dX9_space_63 ⟨(Nat.le_of_ble_eq_true rfl), (Nat.le_of_ble_eq_true rfl)⟩ (fun r_15 ut_16 H locs hw_17 hP hD hS => ?_)
      have hP : va_P D vwCl [(md, .inr (9, [.int 0, .ref m_all, .ref m_deeds, .ref m_trial, .int 0, .ref m_hasImage, .ref m_tape, .ref m_key, .ref m_answered, .int 0, .int 0, .int 0, .ref m_goes, .int 0, .ref m_hotOnes, .ref m_indexed, .ref m_isChanged, .int 0, .ref m_valueNow, .int 0, .int (-1), .int 0, .ref m_didSome, .ref m_sizes, .ref m_ends])), (m_all, aI cs 51207 f_m_all)] H := hP
      have hD : va_D A [(md, .inr (9, [.int 0, .ref m_all, .ref m_deeds, .ref m_trial, .int 0, .ref m_hasImage, .ref m_tape, .ref m_key, .ref m_answered, .int 0, .int 0, .int 0, .ref m_goes, .int 0, .ref m_hotOnes, .ref m_indexed, .ref m_isChanged, .int 0, .ref m_valueNow, .int 0, .int (-1), .int 0, .ref m_didSome, .ref m_sizes, .ref m_ends])), (m_all, aI cs 51207 f_m_all)] := hD
      have er_18 := hw_17
      subst er_18
      refine lv_iadd hx hb dX9_space_66 ?_
      refine tpi (y := 0) (by decide) ?_
      refine lv_istore_n (lv' := [(2, .int 0), (3, .int 1), (0, .ref md), (1, .int 0)]) hx hb dX9_space_67 rfl hl (by decide) rfl (fun ls hl => ?_)
      refine lv_goto (tgt := 146) hx hb dX9_space_68 (by decide) ?_
      refine lv_iinc (v := 2) (lv' := [(3, .int 2), (2, .int 0), (0, .ref md), (1, .int 0)]) hx hb dX9_space_146 hl (k := 1) rfl (by decide) (by decide) rfl (fun ls hl => ?_)
      refine lv_goto (tgt := 24) hx hb dX9_space_149 (by decide) ?_
      refine lv_iload_n hx hb dX9_space_24 rfl (lv_at hl 0 rfl) ?_
      refine lv_bipush (v := 24) hx hb dX9_space_25 (by decide) ?_
      refine lv_icmp_ge (tgt := 152) hx hb dX9_space_27 (by decide) (fun c_19 => absurd c_19 (by decide)) (fun c_19 => ?_)
      refine lv_iload_n hx hb dX9_space_30 rfl (lv_at hl 3 rfl) ?_
      refine lv_tableIn (tgt := 60) hx hb dX9_space_31 (by decide) (by decide) (off := 29) (by decide) (by decide) ?_
      refine lv_iload_n hx hb dX9_space_60 rfl (lv_at hl 1 rfl) ?_
      refine lv_aload_n hx hb dX9_space_61 rfl (lv_at hl 2 rfl) ?_
      refine lv_iload_n hx hb dX9_space_62 rfl (lv_at hl 0 rfl) ?_
      refine kV_i (ci := 9) (As := [.int 2]) (rest := [.int 0]) (wc := [(md, .inr (9, [.int 0, .ref m_all, .ref m_deeds, .ref m_trial, .int 0, .ref m_hasImage, .ref m_tape, .ref m_key, .ref m_answered, .int 0, .int 0, .int 0, .ref m_goes, .int 0, .ref m_hotOnes, .ref m_indexed, .ref m_isChanged, .int 0, .ref m_valueNow, .int 0, .int (-1), .int 0, .ref m_didSome, .ref m_sizes, .ref m_ends])), (m_all, aI cs 51207 f_m_all)]) (wr := []) hx hb hml hown hu hK hP hD hS hA hl.1 (c_X9_liveOn l D cs H.size 2 md m_all f_m_all m_deeds m_trial m_hasImage m_tape m_key m_answered m_goes m_hotOnes m_indexed m_isChanged m_valueNow m_didSome m_sizes m_ends 0 0 0 z_all) (gV u_1482 u_1484 u_60 u_76 u_1485) hd_X9_liveOn ⟨(Nat.le_of_ble_eq_true rfl), (Nat.le_of_ble_eq_true rfl)⟩ [0, 1] [] rfl rfl rfl rfl (by decide) rfl 0 rfl rfl rfl (Nat.le_of_ble_eq_true rfl) dX9_space_63 ⟨(Nat.le_of_ble_eq_true rfl), (Nat.le_of_ble_eq_true rfl)⟩ (fun r_20 ut_21 H locs hw_22 hP hD hS => ?_)
      have hP : va_P D vwCl [(md, .inr (9, [.int 0, .ref m_all, .ref m_deeds, .ref m_trial, .int 0, .ref m_hasImage, .ref m_tape, .ref m_key, .ref m_answered, .int 0, .int 0, .int 0, .ref m_goes, .int 0, .ref m_hotOnes, .ref m_indexed, .ref m_isChanged, .int 0, .ref m_valueNow, .int 0, .int (-1), .int 0, .ref m_didSome, .ref m_sizes, .ref m_ends])), (m_all, aI cs 51207 f_m_all)] H := hP
      have hD : va_D A [(md, .inr (9, [.int 0, .ref m_all, .ref m_deeds, .ref m_trial, .int 0, .ref m_hasImage, .ref m_tape, .ref m_key, .ref m_answered, .int 0, .int 0, .int 0, .ref m_goes, .int 0, .ref m_hotOnes, .ref m_indexed, .ref m_isChanged, .int 0, .ref m_valueNow, .int 0, .int (-1), .int 0, .ref m_didSome, .ref m_sizes, .ref m_ends])), (m_all, aI cs 51207 f_m_all)] := hD
      have er_23 := hw_22
      subst er_23
      refine lv_iadd hx hb dX9_space_66 ?_
      refine tpi (y := 0) (by decide) ?_
      refine lv_istore_n (lv' := [(2, .int 0), (3, .int 2), (0, .ref md), (1, .int 0)]) hx hb dX9_space_67 rfl hl (by decide) rfl (fun ls hl => ?_)
      refine lv_goto (tgt := 146) hx hb dX9_space_68 (by decide) ?_
      refine lv_iinc (v := 3) (lv' := [(3, .int 3), (2, .int 0), (0, .ref md), (1, .int 0)]) hx hb dX9_space_146 hl (k := 1) rfl (by decide) (by decide) rfl (fun ls hl => ?_)
      refine lv_goto (tgt := 24) hx hb dX9_space_149 (by decide) ?_
      refine lv_iload_n hx hb dX9_space_24 rfl (lv_at hl 0 rfl) ?_
      refine lv_bipush (v := 24) hx hb dX9_space_25 (by decide) ?_
      refine lv_icmp_ge (tgt := 152) hx hb dX9_space_27 (by decide) (fun c_24 => absurd c_24 (by decide)) (fun c_24 => ?_)
      refine lv_iload_n hx hb dX9_space_30 rfl (lv_at hl 3 rfl) ?_
      refine lv_tableIn (tgt := 60) hx hb dX9_space_31 (by decide) (by decide) (off := 29) (by decide) (by decide) ?_
      refine lv_iload_n hx hb dX9_space_60 rfl (lv_at hl 1 rfl) ?_
      refine lv_aload_n hx hb dX9_space_61 rfl (lv_at hl 2 rfl) ?_
      refine lv_iload_n hx hb dX9_space_62 rfl (lv_at hl 0 rfl) ?_
      refine kV_i (ci := 9) (As := [.int 3]) (rest := [.int 0]) (wc := [(md, .inr (9, [.int 0, .ref m_all, .ref m_deeds, .ref m_trial, .int 0, .ref m_hasImage, .ref m_tape, .ref m_key, .ref m_answered, .int 0, .int 0, .int 0, .ref m_goes, .int 0, .ref m_hotOnes, .ref m_indexed, .ref m_isChanged, .int 0, .ref m_valueNow, .int 0, .int (-1), .int 0, .ref m_didSome, .ref m_sizes, .ref m_ends])), (m_all, aI cs 51207 f_m_all)]) (wr := []) hx hb hml hown hu hK hP hD hS hA hl.1 (c_X9_liveOn l D cs H.size 3 md m_all f_m_all m_deeds m_trial m_hasImage m_tape m_key m_answered m_goes m_hotOnes m_indexed m_isChanged m_valueNow m_didSome m_sizes m_ends 0 0 0 z_all) (gV u_1482 u_1484 u_60 u_76 u_1485) hd_X9_liveOn ⟨(Nat.le_of_ble_eq_true rfl), (Nat.le_of_ble_eq_true rfl)⟩ [0, 1] [] rfl rfl rfl rfl (by decide) rfl 0 rfl rfl rfl (Nat.le_of_ble_eq_true rfl) dX9_space_63 ⟨(Nat.le_of_ble_eq_true rfl), (Nat.le_of_ble_eq_true rfl)⟩ (fun r_25 ut_26 H locs hw_27 hP hD hS => ?_)
      have hP : va_P D vwCl [(md, .inr (9, [.int 0, .ref m_all, .ref m_deeds, .ref m_trial, .int 0, .ref m_hasImage, .ref m_tape, .ref m_key, .ref m_answered, .int 0, .int 0, .int 0, .ref m_goes, .int 0, .ref m_hotOnes, .ref m_indexed, .ref m_isChanged, .int 0, .ref m_valueNow, .int 0, .int (-1), .int 0, .ref m_didSome, .ref m_sizes, .ref m_ends])), (m_all, aI cs 51207 f_m_all)] H := hP
      have hD : va_D A [(md, .inr (9, [.int 0, .ref m_all, .ref m_deeds, .ref m_trial, .int 0, .ref m_hasImage, .ref m_tape, .ref m_key, .ref m_answered, .int 0, .int 0, .int 0, .ref m_goes, .int 0, .ref m_hotOnes, .ref m_indexed, .ref m_isChanged, .int 0, .ref m_valueNow, .int 0, .int (-1), .int 0, .ref m_didSome, .ref m_sizes, .ref m_ends])), (m_all, aI cs 51207 f_m_all)] := hD
      have er_28 := hw_27
      subst er_28
      refine lv_iadd hx hb dX9_space_66 ?_
      refine tpi (y := 0) (by decide) ?_
      refine lv_istore_n (lv' := [(2, .int 0), (3, .int 3), (0, .ref md), (1, .int 0)]) hx hb dX9_space_67 rfl hl (by decide) rfl (fun ls hl => ?_)
      refine lv_goto (tgt := 146) hx hb dX9_space_68 (by decide) ?_
      refine lv_iinc (v := 4) (lv' := [(3, .int 4), (2, .int 0), (0, .ref md), (1, .int 0)]) hx hb dX9_space_146 hl (k := 1) rfl (by decide) (by decide) rfl (fun ls hl => ?_)
      refine lv_goto (tgt := 24) hx hb dX9_space_149 (by decide) ?_
      refine lv_iload_n hx hb dX9_space_24 rfl (lv_at hl 0 rfl) ?_
      refine lv_bipush (v := 24) hx hb dX9_space_25 (by decide) ?_
      refine lv_icmp_ge (tgt := 152) hx hb dX9_space_27 (by decide) (fun c_29 => absurd c_29 (by decide)) (fun c_29 => ?_)
      refine lv_iload_n hx hb dX9_space_30 rfl (lv_at hl 3 rfl) ?_
      refine lv_tableIn (tgt := 60) hx hb dX9_space_31 (by decide) (by decide) (off := 29) (by decide) (by decide) ?_
      refine lv_iload_n hx hb dX9_space_60 rfl (lv_at hl 1 rfl) ?_
      refine lv_aload_n hx hb dX9_space_61 rfl (lv_at hl 2 rfl) ?_
      refine lv_iload_n hx hb dX9_space_62 rfl (lv_at hl 0 rfl) ?_
      refine kV_i (ci := 9) (As := [.int 4]) (rest := [.int 0]) (wc := [(md, .inr (9, [.int 0, .ref m_all, .ref m_deeds, .ref m_trial, .int 0, .ref m_hasImage, .ref m_tape, .ref m_key, .ref m_answered, .int 0, .int 0, .int 0, .ref m_goes, .int 0, .ref m_hotOnes, .ref m_indexed, .ref m_isChanged, .int 0, .ref m_valueNow, .int 0, .int (-1), .int 0, .ref m_didSome, .ref m_sizes, .ref m_ends])), (m_all, aI cs 51207 f_m_all)]) (wr := []) hx hb hml hown hu hK hP hD hS hA hl.1 (c_X9_liveOn l D cs H.size 4 md m_all f_m_all m_deeds m_trial m_hasImage m_tape m_key m_answered m_goes m_hotOnes m_indexed m_isChanged m_valueNow m_didSome m_sizes m_ends 0 0 0 z_all) (gV u_1482 u_1484 u_60 u_76 u_1485) hd_X9_liveOn ⟨(Nat.le_of_ble_eq_true rfl), (Nat.le_of_ble_eq_true rfl)⟩ [0, 1] [] rfl rfl rfl rfl (by decide) rfl 0 rfl rfl rfl (Nat.le_of_ble_eq_true rfl) dX9_space_63 ⟨(Nat.le_of_ble_eq_true rfl), (Nat.le_of_ble_eq_true rfl)⟩ (fun r_30 ut_31 H locs hw_32 hP hD hS => ?_)
      have hP : va_P D vwCl [(md, .inr (9, [.int 0, .ref m_all, .ref m_deeds, .ref m_trial, .int 0, .ref m_hasImage, .ref m_tape, .ref m_key, .ref m_answered, .int 0, .int 0, .int 0, .ref m_goes, .int 0, .ref m_hotOnes, .ref m_indexed, .ref m_isChanged, .int 0, .ref m_valueNow, .int 0, .int (-1), .int 0, .ref m_didSome, .ref m_sizes, .ref m_ends])), (m_all, aI cs 51207 f_m_all)] H := hP
      have hD : va_D A [(md, .inr (9, [.int 0, .ref m_all, .ref m_deeds, .ref m_trial, .int 0, .ref m_hasImage, .ref m_tape, .ref m_key, .ref m_answered, .int 0, .int 0, .int 0, .ref m_goes, .int 0, .ref m_hotOnes, .ref m_indexed, .ref m_isChanged, .int 0, .ref m_valueNow, .int 0, .int (-1), .int 0, .ref m_didSome, .ref m_sizes, .ref m_ends])), (m_all, aI cs 51207 f_m_all)] := hD
      have er_33 := hw_32
      subst er_33
      refine lv_iadd hx hb dX9_space_66 ?_
      refine tpi (y := 0) (by decide) ?_
      refine lv_istore_n (lv' := [(2, .int 0), (3, .int 4), (0, .ref md), (1, .int 0)]) hx hb dX9_space_67 rfl hl (by decide) rfl (fun ls hl => ?_)
      refine lv_goto (tgt := 146) hx hb dX9_space_68 (by decide) ?_
      refine lv_iinc (v := 5) (lv' := [(3, .int 5), (2, .int 0), (0, .ref md), (1, .int 0)]) hx hb dX9_space_146 hl (k := 1) rfl (by decide) (by decide) rfl (fun ls hl => ?_)
      refine lv_goto (tgt := 24) hx hb dX9_space_149 (by decide) ?_
      refine lv_iload_n hx hb dX9_space_24 rfl (lv_at hl 0 rfl) ?_
      refine lv_bipush (v := 24) hx hb dX9_space_25 (by decide) ?_
      refine lv_icmp_ge (tgt := 152) hx hb dX9_space_27 (by decide) (fun c_34 => absurd c_34 (by decide)) (fun c_34 => ?_)
      refine lv_iload_n hx hb dX9_space_30 rfl (lv_at hl 3 rfl) ?_
      refine lv_tableIn (tgt := 60) hx hb dX9_space_31 (by decide) (by decide) (off := 29) (by decide) (by decide) ?_
      refine lv_iload_n hx hb dX9_space_60 rfl (lv_at hl 1 rfl) ?_
      refine lv_aload_n hx hb dX9_space_61 rfl (lv_at hl 2 rfl) ?_
      refine lv_iload_n hx hb dX9_space_62 rfl (lv_at hl 0 rfl) ?_
      refine kV_i (ci := 9) (As := [.int 5]) (rest := [.int 0]) (wc := [(md, .inr (9, [.int 0, .ref m_all, .ref m_deeds, .ref m_trial, .int 0, .ref m_hasImage, .ref m_tape, .ref m_key, .ref m_answered, .int 0, .int 0, .int 0, .ref m_goes, .int 0, .ref m_hotOnes, .ref m_indexed, .ref m_isChanged, .int 0, .ref m_valueNow, .int 0, .int (-1), .int 0, .ref m_didSome, .ref m_sizes, .ref m_ends])), (m_all, aI cs 51207 f_m_all)]) (wr := []) hx hb hml hown hu hK hP hD hS hA hl.1 (c_X9_liveOn l D cs H.size 5 md m_all f_m_all m_deeds m_trial m_hasImage m_tape m_key m_answered m_goes m_hotOnes m_indexed m_isChanged m_valueNow m_didSome m_sizes m_ends 0 0 0 z_all) (gV u_1482 u_1484 u_60 u_76 u_1485) hd_X9_liveOn ⟨(Nat.le_of_ble_eq_true rfl), (Nat.le_of_ble_eq_true rfl)⟩ [0, 1] [] rfl rfl rfl rfl (by decide) rfl 0 rfl rfl rfl (Nat.le_of_ble_eq_true rfl) dX9_space_63 ⟨(Nat.le_of_ble_eq_true rfl), (Nat.le_of_ble_eq_true rfl)⟩ (fun r_35 ut_36 H locs hw_37 hP hD hS => ?_)
      have hP : va_P D vwCl [(md, .inr (9, [.int 0, .ref m_all, .ref m_deeds, .ref m_trial, .int 0, .ref m_hasImage, .ref m_tape, .ref m_key, .ref m_answered, .int 0, .int 0, .int 0, .ref m_goes, .int 0, .ref m_hotOnes, .ref m_indexed, .ref m_isChanged, .int 0, .ref m_valueNow, .int 0, .int (-1), .int 0, .ref m_didSome, .ref m_sizes, .ref m_ends])), (m_all, aI cs 51207 f_m_all)] H := hP
      have hD : va_D A [(md, .inr (9, [.int 0, .ref m_all, .ref m_deeds, .ref m_trial, .int 0, .ref m_hasImage, .ref m_tape, .ref m_key, .ref m_answered, .int 0, .int 0, .int 0, .ref m_goes, .int 0, .ref m_hotOnes, .ref m_indexed, .ref m_isChanged, .int 0, .ref m_valueNow, .int 0, .int (-1), .int 0, .ref m_didSome, .ref m_sizes, .ref m_ends])), (m_all, aI cs 51207 f_m_all)] := hD
      have er_38 := hw_37
      subst er_38
      refine lv_iadd hx hb dX9_space_66 ?_
      refine tpi (y := 0) (by decide) ?_
      refine lv_istore_n (lv' := [(2, .int 0), (3, .int 5), (0, .ref md), (1, .int 0)]) hx hb dX9_space_67 rfl hl (by decide) rfl (fun ls hl => ?_)
      refine lv_goto (tgt := 146) hx hb dX9_space_68 (by decide) ?_
      refine lv_iinc (v := 6) (lv' := [(3, .int 6), (2, .int 0), (0, .ref md), (1, .int 0)]) hx hb dX9_space_146 hl (k := 1) rfl (by decide) (by decide) rfl (fun ls hl => ?_)
      refine lv_goto (tgt := 24) hx hb dX9_space_149 (by decide) ?_
      refine lv_iload_n hx hb dX9_space_24 rfl (lv_at hl 0 rfl) ?_
      refine lv_bipush (v := 24) hx hb dX9_space_25 (by decide) ?_
      refine lv_icmp_ge (tgt := 152) hx hb dX9_space_27 (by decide) (fun c_39 => absurd c_39 (by decide)) (fun c_39 => ?_)
      refine lv_iload_n hx hb dX9_space_30 rfl (lv_at hl 3 rfl) ?_
      refine lv_tableIn (tgt := 60) hx hb dX9_space_31 (by decide) (by decide) (off := 29) (by decide) (by decide) ?_
      refine lv_iload_n hx hb dX9_space_60 rfl (lv_at hl 1 rfl) ?_
      refine lv_aload_n hx hb dX9_space_61 rfl (lv_at hl 2 rfl) ?_
      refine lv_iload_n hx hb dX9_space_62 rfl (lv_at hl 0 rfl) ?_
      refine kV_i (ci := 9) (As := [.int 6]) (rest := [.int 0]) (wc := [(md, .inr (9, [.int 0, .ref m_all, .ref m_deeds, .ref m_trial, .int 0, .ref m_hasImage, .ref m_tape, .ref m_key, .ref m_answered, .int 0, .int 0, .int 0, .ref m_goes, .int 0, .ref m_hotOnes, .ref m_indexed, .ref m_isChanged, .int 0, .ref m_valueNow, .int 0, .int (-1), .int 0, .ref m_didSome, .ref m_sizes, .ref m_ends])), (m_all, aI cs 51207 f_m_all)]) (wr := []) hx hb hml hown hu hK hP hD hS hA hl.1 (c_X9_liveOn l D cs H.size 6 md m_all f_m_all m_deeds m_trial m_hasImage m_tape m_key m_answered m_goes m_hotOnes m_indexed m_isChanged m_valueNow m_didSome m_sizes m_ends 0 0 0 z_all) (gV u_1482 u_1484 u_60 u_76 u_1485) hd_X9_liveOn ⟨(Nat.le_of_ble_eq_true rfl), (Nat.le_of_ble_eq_true rfl)⟩ [0, 1] [] rfl rfl rfl rfl (by decide) rfl 0 rfl rfl rfl (Nat.le_of_ble_eq_true rfl) dX9_space_63 ⟨(Nat.le_of_ble_eq_true rfl), (Nat.le_of_ble_eq_true rfl)⟩ (fun r_40 ut_41 H locs hw_42 hP hD hS => ?_)
      have hP : va_P D vwCl [(md, .inr (9, [.int 0, .ref m_all, .ref m_deeds, .ref m_trial, .int 0, .ref m_hasImage, .ref m_tape, .ref m_key, .ref m_answered, .int 0, .int 0, .int 0, .ref m_goes, .int 0, .ref m_hotOnes, .ref m_indexed, .ref m_isChanged, .int 0, .ref m_valueNow, .int 0, .int (-1), .int 0, .ref m_didSome, .ref m_sizes, .ref m_ends])), (m_all, aI cs 51207 f_m_all)] H := hP
      have hD : va_D A [(md, .inr (9, [.int 0, .ref m_all, .ref m_deeds, .ref m_trial, .int 0, .ref m_hasImage, .ref m_tape, .ref m_key, .ref m_answered, .int 0, .int 0, .int 0, .ref m_goes, .int 0, .ref m_hotOnes, .ref m_indexed, .ref m_isChanged, .int 0, .ref m_valueNow, .int 0, .int (-1), .int 0, .ref m_didSome, .ref m_sizes, .ref m_ends])), (m_all, aI cs 51207 f_m_all)] := hD
      have er_43 := hw_42
      subst er_43
      refine lv_iadd hx hb dX9_space_66 ?_
      refine tpi (y := 0) (by decide) ?_
      refine lv_istore_n (lv' := [(2, .int 0), (3, .int 6), (0, .ref md), (1, .int 0)]) hx hb dX9_space_67 rfl hl (by decide) rfl (fun ls hl => ?_)
      refine lv_goto (tgt := 146) hx hb dX9_space_68 (by decide) ?_
      refine lv_iinc (v := 7) (lv' := [(3, .int 7), (2, .int 0), (0, .ref md), (1, .int 0)]) hx hb dX9_space_146 hl (k := 1) rfl (by decide) (by decide) rfl (fun ls hl => ?_)
      refine lv_goto (tgt := 24) hx hb dX9_space_149 (by decide) ?_
      refine lv_iload_n hx hb dX9_space_24 rfl (lv_at hl 0 rfl) ?_
      refine lv_bipush (v := 24) hx hb dX9_space_25 (by decide) ?_
      refine lv_icmp_ge (tgt := 152) hx hb dX9_space_27 (by decide) (fun c_44 => absurd c_44 (by decide)) (fun c_44 => ?_)
      refine lv_iload_n hx hb dX9_space_30 rfl (lv_at hl 3 rfl) ?_
      refine lv_tableIn (tgt := 60) hx hb dX9_space_31 (by decide) (by decide) (off := 29) (by decide) (by decide) ?_
      refine lv_iload_n hx hb dX9_space_60 rfl (lv_at hl 1 rfl) ?_
      refine lv_aload_n hx hb dX9_space_61 rfl (lv_at hl 2 rfl) ?_
      refine lv_iload_n hx hb dX9_space_62 rfl (lv_at hl 0 rfl) ?_
      refine kV_i (ci := 9) (As := [.int 7]) (rest := [.int 0]) (wc := [(md, .inr (9, [.int 0, .ref m_all, .ref m_deeds, .ref m_trial, .int 0, .ref m_hasImage, .ref m_tape, .ref m_key, .ref m_answered, .int 0, .int 0, .int 0, .ref m_goes, .int 0, .ref m_hotOnes, .ref m_indexed, .ref m_isChanged, .int 0, .ref m_valueNow, .int 0, .int (-1), .int 0, .ref m_didSome, .ref m_sizes, .ref m_ends])), (m_all, aI cs 51207 f_m_all)]) (wr := []) hx hb hml hown hu hK hP hD hS hA hl.1 (c_X9_liveOn l D cs H.size 7 md m_all f_m_all m_deeds m_trial m_hasImage m_tape m_key m_answered m_goes m_hotOnes m_indexed m_isChanged m_valueNow m_didSome m_sizes m_ends 0 0 0 z_all) (gV u_1482 u_1484 u_60 u_76 u_1485) hd_X9_liveOn ⟨(Nat.le_of_ble_eq_true rfl), (Nat.le_of_ble_eq_true rfl)⟩ [0, 1] [] rfl rfl rfl rfl (by decide) rfl 0 rfl rfl rfl (Nat.le_of_ble_eq_true rfl) dX9_space_63 ⟨(Nat.le_of_ble_eq_true rfl), (Nat.le_of_ble_eq_true rfl)⟩ (fun r_45 ut_46 H locs hw_47 hP hD hS => ?_)
      have hP : va_P D vwCl [(md, .inr (9, [.int 0, .ref m_all, .ref m_deeds, .ref m_trial, .int 0, .ref m_hasImage, .ref m_tape, .ref m_key, .ref m_answered, .int 0, .int 0, .int 0, .ref m_goes, .int 0, .ref m_hotOnes, .ref m_indexed, .ref m_isChanged, .int 0, .ref m_valueNow, .int 0, .int (-1), .int 0, .ref m_didSome, .ref m_sizes, .ref m_ends])), (m_all, aI cs 51207 f_m_all)] H := hP
      have hD : va_D A [(md, .inr (9, [.int 0, .ref m_all, .ref m_deeds, .ref m_trial, .int 0, .ref m_hasImage, .ref m_tape, .ref m_key, .ref m_answered, .int 0, .int 0, .int 0, .ref m_goes, .int 0, .ref m_hotOnes, .ref m_indexed, .ref m_isChanged, .int 0, .ref m_valueNow, .int 0, .int (-1), .int 0, .ref m_didSome, .ref m_sizes, .ref m_ends])), (m_all, aI cs 51207 f_m_all)] := hD
      have er_48 := hw_47
      subst er_48
      refine lv_iadd hx hb dX9_space_66 ?_
      refine tpi (y := 0) (by decide) ?_
      refine lv_istore_n (lv' := [(2, .int 0), (3, .int 7), (0, .ref md), (1, .int 0)]) hx hb dX9_space_67 rfl hl (by decide) rfl (fun ls hl => ?_)
      refine lv_goto (tgt := 146) hx hb dX9_space_68 (by decide) ?_
      refine lv_iinc (v := 8) (lv' := [(3, .int 8), (2, .int 0), (0, .ref md), (1, .int 0)]) hx hb dX9_space_146 hl (k := 1) rfl (by decide) (by decide) rfl (fun ls hl => ?_)
      refine lv_goto (tgt := 24) hx hb dX9_space_149 (by decide) ?_
      refine lv_iload_n hx hb dX9_space_24 rfl (lv_at hl 0 rfl) ?_
      refine lv_bipush (v := 24) hx hb dX9_space_25 (by decide) ?_
      refine lv_icmp_ge (tgt := 152) hx hb dX9_space_27 (by decide) (fun c_49 => absurd c_49 (by decide)) (fun c_49 => ?_)
      refine lv_iload_n hx hb dX9_space_30 rfl (lv_at hl 3 rfl) ?_
      refine lv_tableIn (tgt := 60) hx hb dX9_space_31 (by decide) (by decide) (off := 29) (by decide) (by decide) ?_
      refine lv_iload_n hx hb dX9_space_60 rfl (lv_at hl 1 rfl) ?_
      refine lv_aload_n hx hb dX9_space_61 rfl (lv_at hl 2 rfl) ?_
      refine lv_iload_n hx hb dX9_space_62 rfl (lv_at hl 0 rfl) ?_
      refine kV_i (ci := 9) (As := [.int 8]) (rest := [.int 0]) (wc := [(md, .inr (9, [.int 0, .ref m_all, .ref m_deeds, .ref m_trial, .int 0, .ref m_hasImage, .ref m_tape, .ref m_key, .ref m_answered, .int 0, .int 0, .int 0, .ref m_goes, .int 0, .ref m_hotOnes, .ref m_indexed, .ref m_isChanged, .int 0, .ref m_valueNow, .int 0, .int (-1), .int 0, .ref m_didSome, .ref m_sizes, .ref m_ends])), (m_all, aI cs 51207 f_m_all)]) (wr := []) hx hb hml hown hu hK hP hD hS hA hl.1 (c_X9_liveOn l D cs H.size 8 md m_all f_m_all m_deeds m_trial m_hasImage m_tape m_key m_answered m_goes m_hotOnes m_indexed m_isChanged m_valueNow m_didSome m_sizes m_ends 0 0 0 z_all) (gV u_1482 u_1484 u_60 u_76 u_1485) hd_X9_liveOn ⟨(Nat.le_of_ble_eq_true rfl), (Nat.le_of_ble_eq_true rfl)⟩ [0, 1] [] rfl rfl rfl rfl (by decide) rfl 0 rfl rfl rfl (Nat.le_of_ble_eq_true rfl) dX9_space_63 ⟨(Nat.le_of_ble_eq_true rfl), (Nat.le_of_ble_eq_true rfl)⟩ (fun r_50 ut_51 H locs hw_52 hP hD hS => ?_)
      have hP : va_P D vwCl [(md, .inr (9, [.int 0, .ref m_all, .ref m_deeds, .ref m_trial, .int 0, .ref m_hasImage, .ref m_tape, .ref m_key, .ref m_answered, .int 0, .int 0, .int 0, .ref m_goes, .int 0, .ref m_hotOnes, .ref m_indexed, .ref m_isChanged, .int 0, .ref m_valueNow, .int 0, .int (-1), .int 0, .ref m_didSome, .ref m_sizes, .ref m_ends])), (m_all, aI cs 51207 f_m_all)] H := hP
      have hD : va_D A [(md, .inr (9, [.int 0, .ref m_all, .ref m_deeds, .ref m_trial, .int 0, .ref m_hasImage, .ref m_tape, .ref m_key, .ref m_answered, .int 0, .int 0, .int 0, .ref m_goes, .int 0, .ref m_hotOnes, .ref m_indexed, .ref m_isChanged, .int 0, .ref m_valueNow, .int 0, .int (-1), .int 0, .ref m_didSome, .ref m_sizes, .ref m_ends])), (m_all, aI cs 51207 f_m_all)] := hD
      have er_53 := hw_52
      subst er_53
      refine lv_iadd hx hb dX9_space_66 ?_
      refine tpi (y := 0) (by decide) ?_
      refine lv_istore_n (lv' := [(2, .int 0), (3, .int 8), (0, .ref md), (1, .int 0)]) hx hb dX9_space_67 rfl hl (by decide) rfl (fun ls hl => ?_)
      refine lv_goto (tgt := 146) hx hb dX9_space_68 (by decide) ?_
      refine lv_iinc (v := 9) (lv' := [(3, .int 9), (2, .int 0), (0, .ref md), (1, .int 0)]) hx hb dX9_space_146 hl (k := 1) rfl (by decide) (by decide) rfl (fun ls hl => ?_)
      refine lv_goto (tgt := 24) hx hb dX9_space_149 (by decide) ?_
      refine lv_iload_n hx hb dX9_space_24 rfl (lv_at hl 0 rfl) ?_
      refine lv_bipush (v := 24) hx hb dX9_space_25 (by decide) ?_
      refine lv_icmp_ge (tgt := 152) hx hb dX9_space_27 (by decide) (fun c_54 => absurd c_54 (by decide)) (fun c_54 => ?_)
      refine lv_iload_n hx hb dX9_space_30 rfl (lv_at hl 3 rfl) ?_
      refine lv_tableIn (tgt := 60) hx hb dX9_space_31 (by decide) (by decide) (off := 29) (by decide) (by decide) ?_
      refine lv_iload_n hx hb dX9_space_60 rfl (lv_at hl 1 rfl) ?_
      refine lv_aload_n hx hb dX9_space_61 rfl (lv_at hl 2 rfl) ?_
      refine lv_iload_n hx hb dX9_space_62 rfl (lv_at hl 0 rfl) ?_
      refine kV_i (ci := 9) (As := [.int 9]) (rest := [.int 0]) (wc := [(md, .inr (9, [.int 0, .ref m_all, .ref m_deeds, .ref m_trial, .int 0, .ref m_hasImage, .ref m_tape, .ref m_key, .ref m_answered, .int 0, .int 0, .int 0, .ref m_goes, .int 0, .ref m_hotOnes, .ref m_indexed, .ref m_isChanged, .int 0, .ref m_valueNow, .int 0, .int (-1), .int 0, .ref m_didSome, .ref m_sizes, .ref m_ends])), (m_all, aI cs 51207 f_m_all)]) (wr := []) hx hb hml hown hu hK hP hD hS hA hl.1 (c_X9_liveOn l D cs H.size 9 md m_all f_m_all m_deeds m_trial m_hasImage m_tape m_key m_answered m_goes m_hotOnes m_indexed m_isChanged m_valueNow m_didSome m_sizes m_ends 0 0 0 z_all) (gV u_1482 u_1484 u_60 u_76 u_1485) hd_X9_liveOn ⟨(Nat.le_of_ble_eq_true rfl), (Nat.le_of_ble_eq_true rfl)⟩ [0, 1] [] rfl rfl rfl rfl (by decide) rfl 0 rfl rfl rfl (Nat.le_of_ble_eq_true rfl) dX9_space_63 ⟨(Nat.le_of_ble_eq_true rfl), (Nat.le_of_ble_eq_true rfl)⟩ (fun r_55 ut_56 H locs hw_57 hP hD hS => ?_)
      have hP : va_P D vwCl [(md, .inr (9, [.int 0, .ref m_all, .ref m_deeds, .ref m_trial, .int 0, .ref m_hasImage, .ref m_tape, .ref m_key, .ref m_answered, .int 0, .int 0, .int 0, .ref m_goes, .int 0, .ref m_hotOnes, .ref m_indexed, .ref m_isChanged, .int 0, .ref m_valueNow, .int 0, .int (-1), .int 0, .ref m_didSome, .ref m_sizes, .ref m_ends])), (m_all, aI cs 51207 f_m_all)] H := hP
      have hD : va_D A [(md, .inr (9, [.int 0, .ref m_all, .ref m_deeds, .ref m_trial, .int 0, .ref m_hasImage, .ref m_tape, .ref m_key, .ref m_answered, .int 0, .int 0, .int 0, .ref m_goes, .int 0, .ref m_hotOnes, .ref m_indexed, .ref m_isChanged, .int 0, .ref m_valueNow, .int 0, .int (-1), .int 0, .ref m_didSome, .ref m_sizes, .ref m_ends])), (m_all, aI cs 51207 f_m_all)] := hD
      have er_58 := hw_57
      subst er_58
      refine lv_iadd hx hb dX9_space_66 ?_
      refine tpi (y := 0) (by decide) ?_
      refine lv_istore_n (lv' := [(2, .int 0), (3, .int 9), (0, .ref md), (1, .int 0)]) hx hb dX9_space_67 rfl hl (by decide) rfl (fun ls hl => ?_)
      refine lv_goto (tgt := 146) hx hb dX9_space_68 (by decide) ?_
      refine lv_iinc (v := 10) (lv' := [(3, .int 10), (2, .int 0), (0, .ref md), (1, .int 0)]) hx hb dX9_space_146 hl (k := 1) rfl (by decide) (by decide) rfl (fun ls hl => ?_)
      refine lv_goto (tgt := 24) hx hb dX9_space_149 (by decide) ?_
      refine lv_iload_n hx hb dX9_space_24 rfl (lv_at hl 0 rfl) ?_
      refine lv_bipush (v := 24) hx hb dX9_space_25 (by decide) ?_
      refine lv_icmp_ge (tgt := 152) hx hb dX9_space_27 (by decide) (fun c_59 => absurd c_59 (by decide)) (fun c_59 => ?_)
      refine lv_iload_n hx hb dX9_space_30 rfl (lv_at hl 3 rfl) ?_
      refine lv_tableIn (tgt := 60) hx hb dX9_space_31 (by decide) (by decide) (off := 29) (by decide) (by decide) ?_
      refine lv_iload_n hx hb dX9_space_60 rfl (lv_at hl 1 rfl) ?_
      refine lv_aload_n hx hb dX9_space_61 rfl (lv_at hl 2 rfl) ?_
      refine lv_iload_n hx hb dX9_space_62 rfl (lv_at hl 0 rfl) ?_
      refine kV_i (ci := 9) (As := [.int 10]) (rest := [.int 0]) (wc := [(md, .inr (9, [.int 0, .ref m_all, .ref m_deeds, .ref m_trial, .int 0, .ref m_hasImage, .ref m_tape, .ref m_key, .ref m_answered, .int 0, .int 0, .int 0, .ref m_goes, .int 0, .ref m_hotOnes, .ref m_indexed, .ref m_isChanged, .int 0, .ref m_valueNow, .int 0, .int (-1), .int 0, .ref m_didSome, .ref m_sizes, .ref m_ends])), (m_all, aI cs 51207 f_m_all)]) (wr := []) hx hb hml hown hu hK hP hD hS hA hl.1 (c_X9_liveOn l D cs H.size 10 md m_all f_m_all m_deeds m_trial m_hasImage m_tape m_key m_answered m_goes m_hotOnes m_indexed m_isChanged m_valueNow m_didSome m_sizes m_ends 0 0 0 z_all) (gV u_1482 u_1484 u_60 u_76 u_1485) hd_X9_liveOn ⟨(Nat.le_of_ble_eq_true rfl), (Nat.le_of_ble_eq_true rfl)⟩ [0, 1] [] rfl rfl rfl rfl (by decide) rfl 0 rfl rfl rfl (Nat.le_of_ble_eq_true rfl) dX9_space_63 ⟨(Nat.le_of_ble_eq_true rfl), (Nat.le_of_ble_eq_true rfl)⟩ (fun r_60 ut_61 H locs hw_62 hP hD hS => ?_)
      have hP : va_P D vwCl [(md, .inr (9, [.int 0, .ref m_all, .ref m_deeds, .ref m_trial, .int 0, .ref m_hasImage, .ref m_tape, .ref m_key, .ref m_answered, .int 0, .int 0, .int 0, .ref m_goes, .int 0, .ref m_hotOnes, .ref m_indexed, .ref m_isChanged, .int 0, .ref m_valueNow, .int 0, .int (-1), .int 0, .ref m_didSome, .ref m_sizes, .ref m_ends])), (m_all, aI cs 51207 f_m_all)] H := hP
      have hD : va_D A [(md, .inr (9, [.int 0, .ref m_all, .ref m_deeds, .ref m_trial, .int 0, .ref m_hasImage, .ref m_tape, .ref m_key, .ref m_answered, .int 0, .int 0, .int 0, .ref m_goes, .int 0, .ref m_hotOnes, .ref m_indexed, .ref m_isChanged, .int 0, .ref m_valueNow, .int 0, .int (-1), .int 0, .ref m_didSome, .ref m_sizes, .ref m_ends])), (m_all, aI cs 51207 f_m_all)] := hD
      have er_63 := hw_62
      subst er_63
      refine lv_iadd hx hb dX9_space_66 ?_
      refine tpi (y := 0) (by decide) ?_
      refine lv_istore_n (lv' := [(2, .int 0), (3, .int 10), (0, .ref md), (1, .int 0)]) hx hb dX9_space_67 rfl hl (by decide) rfl (fun ls hl => ?_)
      refine lv_goto (tgt := 146) hx hb dX9_space_68 (by decide) ?_
      refine lv_iinc (v := 11) (lv' := [(3, .int 11), (2, .int 0), (0, .ref md), (1, .int 0)]) hx hb dX9_space_146 hl (k := 1) rfl (by decide) (by decide) rfl (fun ls hl => ?_)
      refine lv_goto (tgt := 24) hx hb dX9_space_149 (by decide) ?_
      refine lv_iload_n hx hb dX9_space_24 rfl (lv_at hl 0 rfl) ?_
      refine lv_bipush (v := 24) hx hb dX9_space_25 (by decide) ?_
      refine lv_icmp_ge (tgt := 152) hx hb dX9_space_27 (by decide) (fun c_64 => absurd c_64 (by decide)) (fun c_64 => ?_)
      refine lv_iload_n hx hb dX9_space_30 rfl (lv_at hl 3 rfl) ?_
      refine lv_tableIn (tgt := 60) hx hb dX9_space_31 (by decide) (by decide) (off := 29) (by decide) (by decide) ?_
      refine lv_iload_n hx hb dX9_space_60 rfl (lv_at hl 1 rfl) ?_
      refine lv_aload_n hx hb dX9_space_61 rfl (lv_at hl 2 rfl) ?_
      refine lv_iload_n hx hb dX9_space_62 rfl (lv_at hl 0 rfl) ?_
      refine kV_i (ci := 9) (As := [.int 11]) (rest := [.int 0]) (wc := [(md, .inr (9, [.int 0, .ref m_all, .ref m_deeds, .ref m_trial, .int 0, .ref m_hasImage, .ref m_tape, .ref m_key, .ref m_answered, .int 0, .int 0, .int 0, .ref m_goes, .int 0, .ref m_hotOnes, .ref m_indexed, .ref m_isChanged, .int 0, .ref m_valueNow, .int 0, .int (-1), .int 0, .ref m_didSome, .ref m_sizes, .ref m_ends])), (m_all, aI cs 51207 f_m_all)]) (wr := []) hx hb hml hown hu hK hP hD hS hA hl.1 (c_X9_liveOn l D cs H.size 11 md m_all f_m_all m_deeds m_trial m_hasImage m_tape m_key m_answered m_goes m_hotOnes m_indexed m_isChanged m_valueNow m_didSome m_sizes m_ends 0 0 0 z_all) (gV u_1482 u_1484 u_60 u_76 u_1485) hd_X9_liveOn ⟨(Nat.le_of_ble_eq_true rfl), (Nat.le_of_ble_eq_true rfl)⟩ [0, 1] [] rfl rfl rfl rfl (by decide) rfl 0 rfl rfl rfl (Nat.le_of_ble_eq_true rfl) dX9_space_63 ⟨(Nat.le_of_ble_eq_true rfl), (Nat.le_of_ble_eq_true rfl)⟩ (fun r_65 ut_66 H locs hw_67 hP hD hS => ?_)
      have hP : va_P D vwCl [(md, .inr (9, [.int 0, .ref m_all, .ref m_deeds, .ref m_trial, .int 0, .ref m_hasImage, .ref m_tape, .ref m_key, .ref m_answered, .int 0, .int 0, .int 0, .ref m_goes, .int 0, .ref m_hotOnes, .ref m_indexed, .ref m_isChanged, .int 0, .ref m_valueNow, .int 0, .int (-1), .int 0, .ref m_didSome, .ref m_sizes, .ref m_ends])), (m_all, aI cs 51207 f_m_all)] H := hP
      have hD : va_D A [(md, .inr (9, [.int 0, .ref m_all, .ref m_deeds, .ref m_trial, .int 0, .ref m_hasImage, .ref m_tape, .ref m_key, .ref m_answered, .int 0, .int 0, .int 0, .ref m_goes, .int 0, .ref m_hotOnes, .ref m_indexed, .ref m_isChanged, .int 0, .ref m_valueNow, .int 0, .int (-1), .int 0, .ref m_didSome, .ref m_sizes, .ref m_ends])), (m_all, aI cs 51207 f_m_all)] := hD
      have er_68 := hw_67
      subst er_68
      refine lv_iadd hx hb dX9_space_66 ?_
      refine tpi (y := 0) (by decide) ?_
      refine lv_istore_n (lv' := [(2, .int 0), (3, .int 11), (0, .ref md), (1, .int 0)]) hx hb dX9_space_67 rfl hl (by decide) rfl (fun ls hl => ?_)
      refine lv_goto (tgt := 146) hx hb dX9_space_68 (by decide) ?_
      refine lv_iinc (v := 12) (lv' := [(3, .int 12), (2, .int 0), (0, .ref md), (1, .int 0)]) hx hb dX9_space_146 hl (k := 1) rfl (by decide) (by decide) rfl (fun ls hl => ?_)
      refine lv_goto (tgt := 24) hx hb dX9_space_149 (by decide) ?_
      refine lv_iload_n hx hb dX9_space_24 rfl (lv_at hl 0 rfl) ?_
      refine lv_bipush (v := 24) hx hb dX9_space_25 (by decide) ?_
      refine lv_icmp_ge (tgt := 152) hx hb dX9_space_27 (by decide) (fun c_69 => absurd c_69 (by decide)) (fun c_69 => ?_)
      refine lv_iload_n hx hb dX9_space_30 rfl (lv_at hl 3 rfl) ?_
      refine lv_tableIn (tgt := 60) hx hb dX9_space_31 (by decide) (by decide) (off := 29) (by decide) (by decide) ?_
      refine lv_iload_n hx hb dX9_space_60 rfl (lv_at hl 1 rfl) ?_
      refine lv_aload_n hx hb dX9_space_61 rfl (lv_at hl 2 rfl) ?_
      refine lv_iload_n hx hb dX9_space_62 rfl (lv_at hl 0 rfl) ?_
      refine kV_i (ci := 9) (As := [.int 12]) (rest := [.int 0]) (wc := [(md, .inr (9, [.int 0, .ref m_all, .ref m_deeds, .ref m_trial, .int 0, .ref m_hasImage, .ref m_tape, .ref m_key, .ref m_answered, .int 0, .int 0, .int 0, .ref m_goes, .int 0, .ref m_hotOnes, .ref m_indexed, .ref m_isChanged, .int 0, .ref m_valueNow, .int 0, .int (-1), .int 0, .ref m_didSome, .ref m_sizes, .ref m_ends])), (m_all, aI cs 51207 f_m_all)]) (wr := []) hx hb hml hown hu hK hP hD hS hA hl.1 (c_X9_liveOn l D cs H.size 12 md m_all f_m_all m_deeds m_trial m_hasImage m_tape m_key m_answered m_goes m_hotOnes m_indexed m_isChanged m_valueNow m_didSome m_sizes m_ends 0 0 0 z_all) (gV u_1482 u_1484 u_60 u_76 u_1485) hd_X9_liveOn ⟨(Nat.le_of_ble_eq_true rfl), (Nat.le_of_ble_eq_true rfl)⟩ [0, 1] [] rfl rfl rfl rfl (by decide) rfl 0 rfl rfl rfl (Nat.le_of_ble_eq_true rfl) dX9_space_63 ⟨(Nat.le_of_ble_eq_true rfl), (Nat.le_of_ble_eq_true rfl)⟩ (fun r_70 ut_71 H locs hw_72 hP hD hS => ?_)
      have hP : va_P D vwCl [(md, .inr (9, [.int 0, .ref m_all, .ref m_deeds, .ref m_trial, .int 0, .ref m_hasImage, .ref m_tape, .ref m_key, .ref m_answered, .int 0, .int 0, .int 0, .ref m_goes, .int 0, .ref m_hotOnes, .ref m_indexed, .ref m_isChanged, .int 0, .ref m_valueNow, .int 0, .int (-1), .int 0, .ref m_didSome, .ref m_sizes, .ref m_ends])), (m_all, aI cs 51207 f_m_all)] H := hP
      have hD : va_D A [(md, .inr (9, [.int 0, .ref m_all, .ref m_deeds, .ref m_trial, .int 0, .ref m_hasImage, .ref m_tape, .ref m_key, .ref m_answered, .int 0, .int 0, .int 0, .ref m_goes, .int 0, .ref m_hotOnes, .ref m_indexed, .ref m_isChanged, .int 0, .ref m_valueNow, .int 0, .int (-1), .int 0, .ref m_didSome, .ref m_sizes, .ref m_ends])), (m_all, aI cs 51207 f_m_all)] := hD
      have er_73 := hw_72
      subst er_73
      refine lv_iadd hx hb dX9_space_66 ?_
      refine tpi (y := 0) (by decide) ?_
      refine lv_istore_n (lv' := [(2, .int 0), (3, .int 12), (0, .ref md), (1, .int 0)]) hx hb dX9_space_67 rfl hl (by decide) rfl (fun ls hl => ?_)
      refine lv_goto (tgt := 146) hx hb dX9_space_68 (by decide) ?_
      refine lv_iinc (v := 13) (lv' := [(3, .int 13), (2, .int 0), (0, .ref md), (1, .int 0)]) hx hb dX9_space_146 hl (k := 1) rfl (by decide) (by decide) rfl (fun ls hl => ?_)
      refine lv_goto (tgt := 24) hx hb dX9_space_149 (by decide) ?_
      refine lv_iload_n hx hb dX9_space_24 rfl (lv_at hl 0 rfl) ?_
      refine lv_bipush (v := 24) hx hb dX9_space_25 (by decide) ?_
      refine lv_icmp_ge (tgt := 152) hx hb dX9_space_27 (by decide) (fun c_74 => absurd c_74 (by decide)) (fun c_74 => ?_)
      refine lv_iload_n hx hb dX9_space_30 rfl (lv_at hl 3 rfl) ?_
      refine lv_tableIn (tgt := 60) hx hb dX9_space_31 (by decide) (by decide) (off := 29) (by decide) (by decide) ?_
      refine lv_iload_n hx hb dX9_space_60 rfl (lv_at hl 1 rfl) ?_
      refine lv_aload_n hx hb dX9_space_61 rfl (lv_at hl 2 rfl) ?_
      refine lv_iload_n hx hb dX9_space_62 rfl (lv_at hl 0 rfl) ?_
      refine kV_i (ci := 9) (As := [.int 13]) (rest := [.int 0]) (wc := [(md, .inr (9, [.int 0, .ref m_all, .ref m_deeds, .ref m_trial, .int 0, .ref m_hasImage, .ref m_tape, .ref m_key, .ref m_answered, .int 0, .int 0, .int 0, .ref m_goes, .int 0, .ref m_hotOnes, .ref m_indexed, .ref m_isChanged, .int 0, .ref m_valueNow, .int 0, .int (-1), .int 0, .ref m_didSome, .ref m_sizes, .ref m_ends])), (m_all, aI cs 51207 f_m_all)]) (wr := []) hx hb hml hown hu hK hP hD hS hA hl.1 (c_X9_liveOn l D cs H.size 13 md m_all f_m_all m_deeds m_trial m_hasImage m_tape m_key m_answered m_goes m_hotOnes m_indexed m_isChanged m_valueNow m_didSome m_sizes m_ends 0 0 0 z_all) (gV u_1482 u_1484 u_60 u_76 u_1485) hd_X9_liveOn ⟨(Nat.le_of_ble_eq_true rfl), (Nat.le_of_ble_eq_true rfl)⟩ [0, 1] [] rfl rfl rfl rfl (by decide) rfl 0 rfl rfl rfl (Nat.le_of_ble_eq_true rfl) dX9_space_63 ⟨(Nat.le_of_ble_eq_true rfl), (Nat.le_of_ble_eq_true rfl)⟩ (fun r_75 ut_76 H locs hw_77 hP hD hS => ?_)
      have hP : va_P D vwCl [(md, .inr (9, [.int 0, .ref m_all, .ref m_deeds, .ref m_trial, .int 0, .ref m_hasImage, .ref m_tape, .ref m_key, .ref m_answered, .int 0, .int 0, .int 0, .ref m_goes, .int 0, .ref m_hotOnes, .ref m_indexed, .ref m_isChanged, .int 0, .ref m_valueNow, .int 0, .int (-1), .int 0, .ref m_didSome, .ref m_sizes, .ref m_ends])), (m_all, aI cs 51207 f_m_all)] H := hP
      have hD : va_D A [(md, .inr (9, [.int 0, .ref m_all, .ref m_deeds, .ref m_trial, .int 0, .ref m_hasImage, .ref m_tape, .ref m_key, .ref m_answered, .int 0, .int 0, .int 0, .ref m_goes, .int 0, .ref m_hotOnes, .ref m_indexed, .ref m_isChanged, .int 0, .ref m_valueNow, .int 0, .int (-1), .int 0, .ref m_didSome, .ref m_sizes, .ref m_ends])), (m_all, aI cs 51207 f_m_all)] := hD
      have er_78 := hw_77
      subst er_78
      refine lv_iadd hx hb dX9_space_66 ?_
      refine tpi (y := 0) (by decide) ?_
      refine lv_istore_n (lv' := [(2, .int 0), (3, .int 13), (0, .ref md), (1, .int 0)]) hx hb dX9_space_67 rfl hl (by decide) rfl (fun ls hl => ?_)
      refine lv_goto (tgt := 146) hx hb dX9_space_68 (by decide) ?_
      refine lv_iinc (v := 14) (lv' := [(3, .int 14), (2, .int 0), (0, .ref md), (1, .int 0)]) hx hb dX9_space_146 hl (k := 1) rfl (by decide) (by decide) rfl (fun ls hl => ?_)
      refine lv_goto (tgt := 24) hx hb dX9_space_149 (by decide) ?_
      refine lv_iload_n hx hb dX9_space_24 rfl (lv_at hl 0 rfl) ?_
      refine lv_bipush (v := 24) hx hb dX9_space_25 (by decide) ?_
      refine lv_icmp_ge (tgt := 152) hx hb dX9_space_27 (by decide) (fun c_79 => absurd c_79 (by decide)) (fun c_79 => ?_)
      refine lv_iload_n hx hb dX9_space_30 rfl (lv_at hl 3 rfl) ?_
      refine lv_tableIn (tgt := 60) hx hb dX9_space_31 (by decide) (by decide) (off := 29) (by decide) (by decide) ?_
      refine lv_iload_n hx hb dX9_space_60 rfl (lv_at hl 1 rfl) ?_
      refine lv_aload_n hx hb dX9_space_61 rfl (lv_at hl 2 rfl) ?_
      refine lv_iload_n hx hb dX9_space_62 rfl (lv_at hl 0 rfl) ?_
      refine kV_i (ci := 9) (As := [.int 14]) (rest := [.int 0]) (wc := [(md, .inr (9, [.int 0, .ref m_all, .ref m_deeds, .ref m_trial, .int 0, .ref m_hasImage, .ref m_tape, .ref m_key, .ref m_answered, .int 0, .int 0, .int 0, .ref m_goes, .int 0, .ref m_hotOnes, .ref m_indexed, .ref m_isChanged, .int 0, .ref m_valueNow, .int 0, .int (-1), .int 0, .ref m_didSome, .ref m_sizes, .ref m_ends])), (m_all, aI cs 51207 f_m_all)]) (wr := []) hx hb hml hown hu hK hP hD hS hA hl.1 (c_X9_liveOn l D cs H.size 14 md m_all f_m_all m_deeds m_trial m_hasImage m_tape m_key m_answered m_goes m_hotOnes m_indexed m_isChanged m_valueNow m_didSome m_sizes m_ends 0 0 0 z_all) (gV u_1482 u_1484 u_60 u_76 u_1485) hd_X9_liveOn ⟨(Nat.le_of_ble_eq_true rfl), (Nat.le_of_ble_eq_true rfl)⟩ [0, 1] [] rfl rfl rfl rfl (by decide) rfl 0 rfl rfl rfl (Nat.le_of_ble_eq_true rfl) dX9_space_63 ⟨(Nat.le_of_ble_eq_true rfl), (Nat.le_of_ble_eq_true rfl)⟩ (fun r_80 ut_81 H locs hw_82 hP hD hS => ?_)
      have hP : va_P D vwCl [(md, .inr (9, [.int 0, .ref m_all, .ref m_deeds, .ref m_trial, .int 0, .ref m_hasImage, .ref m_tape, .ref m_key, .ref m_answered, .int 0, .int 0, .int 0, .ref m_goes, .int 0, .ref m_hotOnes, .ref m_indexed, .ref m_isChanged, .int 0, .ref m_valueNow, .int 0, .int (-1), .int 0, .ref m_didSome, .ref m_sizes, .ref m_ends])), (m_all, aI cs 51207 f_m_all)] H := hP
      have hD : va_D A [(md, .inr (9, [.int 0, .ref m_all, .ref m_deeds, .ref m_trial, .int 0, .ref m_hasImage, .ref m_tape, .ref m_key, .ref m_answered, .int 0, .int 0, .int 0, .ref m_goes, .int 0, .ref m_hotOnes, .ref m_indexed, .ref m_isChanged, .int 0, .ref m_valueNow, .int 0, .int (-1), .int 0, .ref m_didSome, .ref m_sizes, .ref m_ends])), (m_all, aI cs 51207 f_m_all)] := hD
      have er_83 := hw_82
      subst er_83
      refine lv_iadd hx hb dX9_space_66 ?_
      refine tpi (y := 0) (by decide) ?_
      refine lv_istore_n (lv' := [(2, .int 0), (3, .int 14), (0, .ref md), (1, .int 0)]) hx hb dX9_space_67 rfl hl (by decide) rfl (fun ls hl => ?_)
      refine lv_goto (tgt := 146) hx hb dX9_space_68 (by decide) ?_
      refine lv_iinc (v := 15) (lv' := [(3, .int 15), (2, .int 0), (0, .ref md), (1, .int 0)]) hx hb dX9_space_146 hl (k := 1) rfl (by decide) (by decide) rfl (fun ls hl => ?_)
      refine lv_goto (tgt := 24) hx hb dX9_space_149 (by decide) ?_
      refine lv_iload_n hx hb dX9_space_24 rfl (lv_at hl 0 rfl) ?_
      refine lv_bipush (v := 24) hx hb dX9_space_25 (by decide) ?_
      refine lv_icmp_ge (tgt := 152) hx hb dX9_space_27 (by decide) (fun c_84 => absurd c_84 (by decide)) (fun c_84 => ?_)
      refine lv_iload_n hx hb dX9_space_30 rfl (lv_at hl 3 rfl) ?_
      refine lv_tableIn (tgt := 60) hx hb dX9_space_31 (by decide) (by decide) (off := 29) (by decide) (by decide) ?_
      refine lv_iload_n hx hb dX9_space_60 rfl (lv_at hl 1 rfl) ?_
      refine lv_aload_n hx hb dX9_space_61 rfl (lv_at hl 2 rfl) ?_
      refine lv_iload_n hx hb dX9_space_62 rfl (lv_at hl 0 rfl) ?_
      refine kV_i (ci := 9) (As := [.int 15]) (rest := [.int 0]) (wc := [(md, .inr (9, [.int 0, .ref m_all, .ref m_deeds, .ref m_trial, .int 0, .ref m_hasImage, .ref m_tape, .ref m_key, .ref m_answered, .int 0, .int 0, .int 0, .ref m_goes, .int 0, .ref m_hotOnes, .ref m_indexed, .ref m_isChanged, .int 0, .ref m_valueNow, .int 0, .int (-1), .int 0, .ref m_didSome, .ref m_sizes, .ref m_ends])), (m_all, aI cs 51207 f_m_all)]) (wr := []) hx hb hml hown hu hK hP hD hS hA hl.1 (c_X9_liveOn l D cs H.size 15 md m_all f_m_all m_deeds m_trial m_hasImage m_tape m_key m_answered m_goes m_hotOnes m_indexed m_isChanged m_valueNow m_didSome m_sizes m_ends 0 0 0 z_all) (gV u_1482 u_1484 u_60 u_76 u_1485) hd_X9_liveOn ⟨(Nat.le_of_ble_eq_true rfl), (Nat.le_of_ble_eq_true rfl)⟩ [0, 1] [] rfl rfl rfl rfl (by decide) rfl 0 rfl rfl rfl (Nat.le_of_ble_eq_true rfl) dX9_space_63 ⟨(Nat.le_of_ble_eq_true rfl), (Nat.le_of_ble_eq_true rfl)⟩ (fun r_85 ut_86 H locs hw_87 hP hD hS => ?_)
      have hP : va_P D vwCl [(md, .inr (9, [.int 0, .ref m_all, .ref m_deeds, .ref m_trial, .int 0, .ref m_hasImage, .ref m_tape, .ref m_key, .ref m_answered, .int 0, .int 0, .int 0, .ref m_goes, .int 0, .ref m_hotOnes, .ref m_indexed, .ref m_isChanged, .int 0, .ref m_valueNow, .int 0, .int (-1), .int 0, .ref m_didSome, .ref m_sizes, .ref m_ends])), (m_all, aI cs 51207 f_m_all)] H := hP
      have hD : va_D A [(md, .inr (9, [.int 0, .ref m_all, .ref m_deeds, .ref m_trial, .int 0, .ref m_hasImage, .ref m_tape, .ref m_key, .ref m_answered, .int 0, .int 0, .int 0, .ref m_goes, .int 0, .ref m_hotOnes, .ref m_indexed, .ref m_isChanged, .int 0, .ref m_valueNow, .int 0, .int (-1), .int 0, .ref m_didSome, .ref m_sizes, .ref m_ends])), (m_all, aI cs 51207 f_m_all)] := hD
      have er_88 := hw_87
      subst er_88
      refine lv_iadd hx hb dX9_space_66 ?_
      refine tpi (y := 0) (by decide) ?_
      refine lv_istore_n (lv' := [(2, .int 0), (3, .int 15), (0, .ref md), (1, .int 0)]) hx hb dX9_space_67 rfl hl (by decide) rfl (fun ls hl => ?_)
      refine lv_goto (tgt := 146) hx hb dX9_space_68 (by decide) ?_
      refine lv_iinc (v := 16) (lv' := [(3, .int 16), (2, .int 0), (0, .ref md), (1, .int 0)]) hx hb dX9_space_146 hl (k := 1) rfl (by decide) (by decide) rfl (fun ls hl => ?_)
      refine lv_goto (tgt := 24) hx hb dX9_space_149 (by decide) ?_
      refine lv_iload_n hx hb dX9_space_24 rfl (lv_at hl 0 rfl) ?_
      refine lv_bipush (v := 24) hx hb dX9_space_25 (by decide) ?_
      refine lv_icmp_ge (tgt := 152) hx hb dX9_space_27 (by decide) (fun c_89 => absurd c_89 (by decide)) (fun c_89 => ?_)
      refine lv_iload_n hx hb dX9_space_30 rfl (lv_at hl 3 rfl) ?_
      refine lv_tableIn (tgt := 60) hx hb dX9_space_31 (by decide) (by decide) (off := 29) (by decide) (by decide) ?_
      refine lv_iload_n hx hb dX9_space_60 rfl (lv_at hl 1 rfl) ?_
      refine lv_aload_n hx hb dX9_space_61 rfl (lv_at hl 2 rfl) ?_
      refine lv_iload_n hx hb dX9_space_62 rfl (lv_at hl 0 rfl) ?_
      refine kV_i (ci := 9) (As := [.int 16]) (rest := [.int 0]) (wc := [(md, .inr (9, [.int 0, .ref m_all, .ref m_deeds, .ref m_trial, .int 0, .ref m_hasImage, .ref m_tape, .ref m_key, .ref m_answered, .int 0, .int 0, .int 0, .ref m_goes, .int 0, .ref m_hotOnes, .ref m_indexed, .ref m_isChanged, .int 0, .ref m_valueNow, .int 0, .int (-1), .int 0, .ref m_didSome, .ref m_sizes, .ref m_ends])), (m_all, aI cs 51207 f_m_all)]) (wr := []) hx hb hml hown hu hK hP hD hS hA hl.1 (c_X9_liveOn l D cs H.size 16 md m_all f_m_all m_deeds m_trial m_hasImage m_tape m_key m_answered m_goes m_hotOnes m_indexed m_isChanged m_valueNow m_didSome m_sizes m_ends 0 0 0 z_all) (gV u_1482 u_1484 u_60 u_76 u_1485) hd_X9_liveOn ⟨(Nat.le_of_ble_eq_true rfl), (Nat.le_of_ble_eq_true rfl)⟩ [0, 1] [] rfl rfl rfl rfl (by decide) rfl 0 rfl rfl rfl (Nat.le_of_ble_eq_true rfl) dX9_space_63 ⟨(Nat.le_of_ble_eq_true rfl), (Nat.le_of_ble_eq_true rfl)⟩ (fun r_90 ut_91 H locs hw_92 hP hD hS => ?_)
      have hP : va_P D vwCl [(md, .inr (9, [.int 0, .ref m_all, .ref m_deeds, .ref m_trial, .int 0, .ref m_hasImage, .ref m_tape, .ref m_key, .ref m_answered, .int 0, .int 0, .int 0, .ref m_goes, .int 0, .ref m_hotOnes, .ref m_indexed, .ref m_isChanged, .int 0, .ref m_valueNow, .int 0, .int (-1), .int 0, .ref m_didSome, .ref m_sizes, .ref m_ends])), (m_all, aI cs 51207 f_m_all)] H := hP
      have hD : va_D A [(md, .inr (9, [.int 0, .ref m_all, .ref m_deeds, .ref m_trial, .int 0, .ref m_hasImage, .ref m_tape, .ref m_key, .ref m_answered, .int 0, .int 0, .int 0, .ref m_goes, .int 0, .ref m_hotOnes, .ref m_indexed, .ref m_isChanged, .int 0, .ref m_valueNow, .int 0, .int (-1), .int 0, .ref m_didSome, .ref m_sizes, .ref m_ends])), (m_all, aI cs 51207 f_m_all)] := hD
      have er_93 := hw_92
      subst er_93
      refine lv_iadd hx hb dX9_space_66 ?_
      refine tpi (y := 0) (by decide) ?_
      refine lv_istore_n (lv' := [(2, .int 0), (3, .int 16), (0, .ref md), (1, .int 0)]) hx hb dX9_space_67 rfl hl (by decide) rfl (fun ls hl => ?_)
      refine lv_goto (tgt := 146) hx hb dX9_space_68 (by decide) ?_
      refine lv_iinc (v := 17) (lv' := [(3, .int 17), (2, .int 0), (0, .ref md), (1, .int 0)]) hx hb dX9_space_146 hl (k := 1) rfl (by decide) (by decide) rfl (fun ls hl => ?_)
      refine lv_goto (tgt := 24) hx hb dX9_space_149 (by decide) ?_
      refine lv_iload_n hx hb dX9_space_24 rfl (lv_at hl 0 rfl) ?_
      refine lv_bipush (v := 24) hx hb dX9_space_25 (by decide) ?_
      refine lv_icmp_ge (tgt := 152) hx hb dX9_space_27 (by decide) (fun c_94 => absurd c_94 (by decide)) (fun c_94 => ?_)
      refine lv_iload_n hx hb dX9_space_30 rfl (lv_at hl 3 rfl) ?_
      refine lv_tableIn (tgt := 60) hx hb dX9_space_31 (by decide) (by decide) (off := 29) (by decide) (by decide) ?_
      refine lv_iload_n hx hb dX9_space_60 rfl (lv_at hl 1 rfl) ?_
      refine lv_aload_n hx hb dX9_space_61 rfl (lv_at hl 2 rfl) ?_
      refine lv_iload_n hx hb dX9_space_62 rfl (lv_at hl 0 rfl) ?_
      refine kV_i (ci := 9) (As := [.int 17]) (rest := [.int 0]) (wc := [(md, .inr (9, [.int 0, .ref m_all, .ref m_deeds, .ref m_trial, .int 0, .ref m_hasImage, .ref m_tape, .ref m_key, .ref m_answered, .int 0, .int 0, .int 0, .ref m_goes, .int 0, .ref m_hotOnes, .ref m_indexed, .ref m_isChanged, .int 0, .ref m_valueNow, .int 0, .int (-1), .int 0, .ref m_didSome, .ref m_sizes, .ref m_ends])), (m_all, aI cs 51207 f_m_all)]) (wr := []) hx hb hml hown hu hK hP hD hS hA hl.1 (c_X9_liveOn l D cs H.size 17 md m_all f_m_all m_deeds m_trial m_hasImage m_tape m_key m_answered m_goes m_hotOnes m_indexed m_isChanged m_valueNow m_didSome m_sizes m_ends 0 0 0 z_all) (gV u_1482 u_1484 u_60 u_76 u_1485) hd_X9_liveOn ⟨(Nat.le_of_ble_eq_true rfl), (Nat.le_of_ble_eq_true rfl)⟩ [0, 1] [] rfl rfl rfl rfl (by decide) rfl 0 rfl rfl rfl (Nat.le_of_ble_eq_true rfl) dX9_space_63 ⟨(Nat.le_of_ble_eq_true rfl), (Nat.le_of_ble_eq_true rfl)⟩ (fun r_95 ut_96 H locs hw_97 hP hD hS => ?_)
      have hP : va_P D vwCl [(md, .inr (9, [.int 0, .ref m_all, .ref m_deeds, .ref m_trial, .int 0, .ref m_hasImage, .ref m_tape, .ref m_key, .ref m_answered, .int 0, .int 0, .int 0, .ref m_goes, .int 0, .ref m_hotOnes, .ref m_indexed, .ref m_isChanged, .int 0, .ref m_valueNow, .int 0, .int (-1), .int 0, .ref m_didSome, .ref m_sizes, .ref m_ends])), (m_all, aI cs 51207 f_m_all)] H := hP
      have hD : va_D A [(md, .inr (9, [.int 0, .ref m_all, .ref m_deeds, .ref m_trial, .int 0, .ref m_hasImage, .ref m_tape, .ref m_key, .ref m_answered, .int 0, .int 0, .int 0, .ref m_goes, .int 0, .ref m_hotOnes, .ref m_indexed, .ref m_isChanged, .int 0, .ref m_valueNow, .int 0, .int (-1), .int 0, .ref m_didSome, .ref m_sizes, .ref m_ends])), (m_all, aI cs 51207 f_m_all)] := hD
      have er_98 := hw_97
      subst er_98
      refine lv_iadd hx hb dX9_space_66 ?_
      refine tpi (y := 0) (by decide) ?_
      refine lv_istore_n (lv' := [(2, .int 0), (3, .int 17), (0, .ref md), (1, .int 0)]) hx hb dX9_space_67 rfl hl (by decide) rfl (fun ls hl => ?_)
      refine lv_goto (tgt := 146) hx hb dX9_space_68 (by decide) ?_
      refine lv_iinc (v := 18) (lv' := [(3, .int 18), (2, .int 0), (0, .ref md), (1, .int 0)]) hx hb dX9_space_146 hl (k := 1) rfl (by decide) (by decide) rfl (fun ls hl => ?_)
      refine lv_goto (tgt := 24) hx hb dX9_space_149 (by decide) ?_
      refine lv_iload_n hx hb dX9_space_24 rfl (lv_at hl 0 rfl) ?_
      refine lv_bipush (v := 24) hx hb dX9_space_25 (by decide) ?_
      refine lv_icmp_ge (tgt := 152) hx hb dX9_space_27 (by decide) (fun c_99 => absurd c_99 (by decide)) (fun c_99 => ?_)
      refine lv_iload_n hx hb dX9_space_30 rfl (lv_at hl 3 rfl) ?_
      refine lv_tableIn (tgt := 60) hx hb dX9_space_31 (by decide) (by decide) (off := 29) (by decide) (by decide) ?_
      refine lv_iload_n hx hb dX9_space_60 rfl (lv_at hl 1 rfl) ?_
      refine lv_aload_n hx hb dX9_space_61 rfl (lv_at hl 2 rfl) ?_
      refine lv_iload_n hx hb dX9_space_62 rfl (lv_at hl 0 rfl) ?_
      refine kV_i (ci := 9) (As := [.int 18]) (rest := [.int 0]) (wc := [(md, .inr (9, [.int 0, .ref m_all, .ref m_deeds, .ref m_trial, .int 0, .ref m_hasImage, .ref m_tape, .ref m_key, .ref m_answered, .int 0, .int 0, .int 0, .ref m_goes, .int 0, .ref m_hotOnes, .ref m_indexed, .ref m_isChanged, .int 0, .ref m_valueNow, .int 0, .int (-1), .int 0, .ref m_didSome, .ref m_sizes, .ref m_ends])), (m_all, aI cs 51207 f_m_all)]) (wr := []) hx hb hml hown hu hK hP hD hS hA hl.1 (c_X9_liveOn l D cs H.size 18 md m_all f_m_all m_deeds m_trial m_hasImage m_tape m_key m_answered m_goes m_hotOnes m_indexed m_isChanged m_valueNow m_didSome m_sizes m_ends 0 0 0 z_all) (gV u_1482 u_1484 u_60 u_76 u_1485) hd_X9_liveOn ⟨(Nat.le_of_ble_eq_true rfl), (Nat.le_of_ble_eq_true rfl)⟩ [0, 1] [] rfl rfl rfl rfl (by decide) rfl 0 rfl rfl rfl (Nat.le_of_ble_eq_true rfl) dX9_space_63 ⟨(Nat.le_of_ble_eq_true rfl), (Nat.le_of_ble_eq_true rfl)⟩ (fun r_100 ut_101 H locs hw_102 hP hD hS => ?_)
      have hP : va_P D vwCl [(md, .inr (9, [.int 0, .ref m_all, .ref m_deeds, .ref m_trial, .int 0, .ref m_hasImage, .ref m_tape, .ref m_key, .ref m_answered, .int 0, .int 0, .int 0, .ref m_goes, .int 0, .ref m_hotOnes, .ref m_indexed, .ref m_isChanged, .int 0, .ref m_valueNow, .int 0, .int (-1), .int 0, .ref m_didSome, .ref m_sizes, .ref m_ends])), (m_all, aI cs 51207 f_m_all)] H := hP
      have hD : va_D A [(md, .inr (9, [.int 0, .ref m_all, .ref m_deeds, .ref m_trial, .int 0, .ref m_hasImage, .ref m_tape, .ref m_key, .ref m_answered, .int 0, .int 0, .int 0, .ref m_goes, .int 0, .ref m_hotOnes, .ref m_indexed, .ref m_isChanged, .int 0, .ref m_valueNow, .int 0, .int (-1), .int 0, .ref m_didSome, .ref m_sizes, .ref m_ends])), (m_all, aI cs 51207 f_m_all)] := hD
      have er_103 := hw_102
      subst er_103
      refine lv_iadd hx hb dX9_space_66 ?_
      refine tpi (y := 0) (by decide) ?_
      refine lv_istore_n (lv' := [(2, .int 0), (3, .int 18), (0, .ref md), (1, .int 0)]) hx hb dX9_space_67 rfl hl (by decide) rfl (fun ls hl => ?_)
      refine lv_goto (tgt := 146) hx hb dX9_space_68 (by decide) ?_
      refine lv_iinc (v := 19) (lv' := [(3, .int 19), (2, .int 0), (0, .ref md), (1, .int 0)]) hx hb dX9_space_146 hl (k := 1) rfl (by decide) (by decide) rfl (fun ls hl => ?_)
      refine lv_goto (tgt := 24) hx hb dX9_space_149 (by decide) ?_
      refine lv_iload_n hx hb dX9_space_24 rfl (lv_at hl 0 rfl) ?_
      refine lv_bipush (v := 24) hx hb dX9_space_25 (by decide) ?_
      refine lv_icmp_ge (tgt := 152) hx hb dX9_space_27 (by decide) (fun c_104 => absurd c_104 (by decide)) (fun c_104 => ?_)
      refine lv_iload_n hx hb dX9_space_30 rfl (lv_at hl 3 rfl) ?_
      refine lv_tableIn (tgt := 60) hx hb dX9_space_31 (by decide) (by decide) (off := 29) (by decide) (by decide) ?_
      refine lv_iload_n hx hb dX9_space_60 rfl (lv_at hl 1 rfl) ?_
      refine lv_aload_n hx hb dX9_space_61 rfl (lv_at hl 2 rfl) ?_
      refine lv_iload_n hx hb dX9_space_62 rfl (lv_at hl 0 rfl) ?_
      refine kV_i (ci := 9) (As := [.int 19]) (rest := [.int 0]) (wc := [(md, .inr (9, [.int 0, .ref m_all, .ref m_deeds, .ref m_trial, .int 0, .ref m_hasImage, .ref m_tape, .ref m_key, .ref m_answered, .int 0, .int 0, .int 0, .ref m_goes, .int 0, .ref m_hotOnes, .ref m_indexed, .ref m_isChanged, .int 0, .ref m_valueNow, .int 0, .int (-1), .int 0, .ref m_didSome, .ref m_sizes, .ref m_ends])), (m_all, aI cs 51207 f_m_all)]) (wr := []) hx hb hml hown hu hK hP hD hS hA hl.1 (c_X9_liveOn l D cs H.size 19 md m_all f_m_all m_deeds m_trial m_hasImage m_tape m_key m_answered m_goes m_hotOnes m_indexed m_isChanged m_valueNow m_didSome m_sizes m_ends 0 0 0 z_all) (gV u_1482 u_1484 u_60 u_76 u_1485) hd_X9_liveOn ⟨(Nat.le_of_ble_eq_true rfl), (Nat.le_of_ble_eq_true rfl)⟩ [0, 1] [] rfl rfl rfl rfl (by decide) rfl 0 rfl rfl rfl (Nat.le_of_ble_eq_true rfl) dX9_space_63 ⟨(Nat.le_of_ble_eq_true rfl), (Nat.le_of_ble_eq_true rfl)⟩ (fun r_105 ut_106 H locs hw_107 hP hD hS => ?_)
      have hP : va_P D vwCl [(md, .inr (9, [.int 0, .ref m_all, .ref m_deeds, .ref m_trial, .int 0, .ref m_hasImage, .ref m_tape, .ref m_key, .ref m_answered, .int 0, .int 0, .int 0, .ref m_goes, .int 0, .ref m_hotOnes, .ref m_indexed, .ref m_isChanged, .int 0, .ref m_valueNow, .int 0, .int (-1), .int 0, .ref m_didSome, .ref m_sizes, .ref m_ends])), (m_all, aI cs 51207 f_m_all)] H := hP
      have hD : va_D A [(md, .inr (9, [.int 0, .ref m_all, .ref m_deeds, .ref m_trial, .int 0, .ref m_hasImage, .ref m_tape, .ref m_key, .ref m_answered, .int 0, .int 0, .int 0, .ref m_goes, .int 0, .ref m_hotOnes, .ref m_indexed, .ref m_isChanged, .int 0, .ref m_valueNow, .int 0, .int (-1), .int 0, .ref m_didSome, .ref m_sizes, .ref m_ends])), (m_all, aI cs 51207 f_m_all)] := hD
      have er_108 := hw_107
      subst er_108
      refine lv_iadd hx hb dX9_space_66 ?_
      refine tpi (y := 0) (by decide) ?_
      refine lv_istore_n (lv' := [(2, .int 0), (3, .int 19), (0, .ref md), (1, .int 0)]) hx hb dX9_space_67 rfl hl (by decide) rfl (fun ls hl => ?_)
      refine lv_goto (tgt := 146) hx hb dX9_space_68 (by decide) ?_
      refine lv_iinc (v := 20) (lv' := [(3, .int 20), (2, .int 0), (0, .ref md), (1, .int 0)]) hx hb dX9_space_146 hl (k := 1) rfl (by decide) (by decide) rfl (fun ls hl => ?_)
      refine lv_goto (tgt := 24) hx hb dX9_space_149 (by decide) ?_
      refine lv_iload_n hx hb dX9_space_24 rfl (lv_at hl 0 rfl) ?_
      refine lv_bipush (v := 24) hx hb dX9_space_25 (by decide) ?_
      refine lv_icmp_ge (tgt := 152) hx hb dX9_space_27 (by decide) (fun c_109 => absurd c_109 (by decide)) (fun c_109 => ?_)
      refine lv_iload_n hx hb dX9_space_30 rfl (lv_at hl 3 rfl) ?_
      refine lv_tableIn (tgt := 60) hx hb dX9_space_31 (by decide) (by decide) (off := 29) (by decide) (by decide) ?_
      refine lv_iload_n hx hb dX9_space_60 rfl (lv_at hl 1 rfl) ?_
      refine lv_aload_n hx hb dX9_space_61 rfl (lv_at hl 2 rfl) ?_
      refine lv_iload_n hx hb dX9_space_62 rfl (lv_at hl 0 rfl) ?_
      refine kV_i (ci := 9) (As := [.int 20]) (rest := [.int 0]) (wc := [(md, .inr (9, [.int 0, .ref m_all, .ref m_deeds, .ref m_trial, .int 0, .ref m_hasImage, .ref m_tape, .ref m_key, .ref m_answered, .int 0, .int 0, .int 0, .ref m_goes, .int 0, .ref m_hotOnes, .ref m_indexed, .ref m_isChanged, .int 0, .ref m_valueNow, .int 0, .int (-1), .int 0, .ref m_didSome, .ref m_sizes, .ref m_ends])), (m_all, aI cs 51207 f_m_all)]) (wr := []) hx hb hml hown hu hK hP hD hS hA hl.1 (c_X9_liveOn l D cs H.size 20 md m_all f_m_all m_deeds m_trial m_hasImage m_tape m_key m_answered m_goes m_hotOnes m_indexed m_isChanged m_valueNow m_didSome m_sizes m_ends 0 0 0 z_all) (gV u_1482 u_1484 u_60 u_76 u_1485) hd_X9_liveOn ⟨(Nat.le_of_ble_eq_true rfl), (Nat.le_of_ble_eq_true rfl)⟩ [0, 1] [] rfl rfl rfl rfl (by decide) rfl 0 rfl rfl rfl (Nat.le_of_ble_eq_true rfl) dX9_space_63 ⟨(Nat.le_of_ble_eq_true rfl), (Nat.le_of_ble_eq_true rfl)⟩ (fun r_110 ut_111 H locs hw_112 hP hD hS => ?_)
      have hP : va_P D vwCl [(md, .inr (9, [.int 0, .ref m_all, .ref m_deeds, .ref m_trial, .int 0, .ref m_hasImage, .ref m_tape, .ref m_key, .ref m_answered, .int 0, .int 0, .int 0, .ref m_goes, .int 0, .ref m_hotOnes, .ref m_indexed, .ref m_isChanged, .int 0, .ref m_valueNow, .int 0, .int (-1), .int 0, .ref m_didSome, .ref m_sizes, .ref m_ends])), (m_all, aI cs 51207 f_m_all)] H := hP
      have hD : va_D A [(md, .inr (9, [.int 0, .ref m_all, .ref m_deeds, .ref m_trial, .int 0, .ref m_hasImage, .ref m_tape, .ref m_key, .ref m_answered, .int 0, .int 0, .int 0, .ref m_goes, .int 0, .ref m_hotOnes, .ref m_indexed, .ref m_isChanged, .int 0, .ref m_valueNow, .int 0, .int (-1), .int 0, .ref m_didSome, .ref m_sizes, .ref m_ends])), (m_all, aI cs 51207 f_m_all)] := hD
      have er_113 := hw_112
      subst er_113
      refine lv_iadd hx hb dX9_space_66 ?_
      refine tpi (y := 0) (by decide) ?_
      refine lv_istore_n (lv' := [(2, .int 0), (3, .int 20), (0, .ref md), (1, .int 0)]) hx hb dX9_space_67 rfl hl (by decide) rfl (fun ls hl => ?_)
      refine lv_goto (tgt := 146) hx hb dX9_space_68 (by decide) ?_
      refine lv_iinc (v := 21) (lv' := [(3, .int 21), (2, .int 0), (0, .ref md), (1, .int 0)]) hx hb dX9_space_146 hl (k := 1) rfl (by decide) (by decide) rfl (fun ls hl => ?_)
      refine lv_goto (tgt := 24) hx hb dX9_space_149 (by decide) ?_
      refine lv_iload_n hx hb dX9_space_24 rfl (lv_at hl 0 rfl) ?_
      refine lv_bipush (v := 24) hx hb dX9_space_25 (by decide) ?_
      refine lv_icmp_ge (tgt := 152) hx hb dX9_space_27 (by decide) (fun c_114 => absurd c_114 (by decide)) (fun c_114 => ?_)
      refine lv_iload_n hx hb dX9_space_30 rfl (lv_at hl 3 rfl) ?_
      refine lv_tableIn (tgt := 60) hx hb dX9_space_31 (by decide) (by decide) (off := 29) (by decide) (by decide) ?_
      refine lv_iload_n hx hb dX9_space_60 rfl (lv_at hl 1 rfl) ?_
      refine lv_aload_n hx hb dX9_space_61 rfl (lv_at hl 2 rfl) ?_
      refine lv_iload_n hx hb dX9_space_62 rfl (lv_at hl 0 rfl) ?_
      refine kV_i (ci := 9) (As := [.int 21]) (rest := [.int 0]) (wc := [(md, .inr (9, [.int 0, .ref m_all, .ref m_deeds, .ref m_trial, .int 0, .ref m_hasImage, .ref m_tape, .ref m_key, .ref m_answered, .int 0, .int 0, .int 0, .ref m_goes, .int 0, .ref m_hotOnes, .ref m_indexed, .ref m_isChanged, .int 0, .ref m_valueNow, .int 0, .int (-1), .int 0, .ref m_didSome, .ref m_sizes, .ref m_ends])), (m_all, aI cs 51207 f_m_all)]) (wr := []) hx hb hml hown hu hK hP hD hS hA hl.1 (c_X9_liveOn l D cs H.size 21 md m_all f_m_all m_deeds m_trial m_hasImage m_tape m_key m_answered m_goes m_hotOnes m_indexed m_isChanged m_valueNow m_didSome m_sizes m_ends 0 0 0 z_all) (gV u_1482 u_1484 u_60 u_76 u_1485) hd_X9_liveOn ⟨(Nat.le_of_ble_eq_true rfl), (Nat.le_of_ble_eq_true rfl)⟩ [0, 1] [] rfl rfl rfl rfl (by decide) rfl 0 rfl rfl rfl (Nat.le_of_ble_eq_true rfl) dX9_space_63 ⟨(Nat.le_of_ble_eq_true rfl), (Nat.le_of_ble_eq_true rfl)⟩ (fun r_115 ut_116 H locs hw_117 hP hD hS => ?_)
      have hP : va_P D vwCl [(md, .inr (9, [.int 0, .ref m_all, .ref m_deeds, .ref m_trial, .int 0, .ref m_hasImage, .ref m_tape, .ref m_key, .ref m_answered, .int 0, .int 0, .int 0, .ref m_goes, .int 0, .ref m_hotOnes, .ref m_indexed, .ref m_isChanged, .int 0, .ref m_valueNow, .int 0, .int (-1), .int 0, .ref m_didSome, .ref m_sizes, .ref m_ends])), (m_all, aI cs 51207 f_m_all)] H := hP
      have hD : va_D A [(md, .inr (9, [.int 0, .ref m_all, .ref m_deeds, .ref m_trial, .int 0, .ref m_hasImage, .ref m_tape, .ref m_key, .ref m_answered, .int 0, .int 0, .int 0, .ref m_goes, .int 0, .ref m_hotOnes, .ref m_indexed, .ref m_isChanged, .int 0, .ref m_valueNow, .int 0, .int (-1), .int 0, .ref m_didSome, .ref m_sizes, .ref m_ends])), (m_all, aI cs 51207 f_m_all)] := hD
      have er_118 := hw_117
      subst er_118
      refine lv_iadd hx hb dX9_space_66 ?_
      refine tpi (y := 0) (by decide) ?_
      refine lv_istore_n (lv' := [(2, .int 0), (3, .int 21), (0, .ref md), (1, .int 0)]) hx hb dX9_space_67 rfl hl (by decide) rfl (fun ls hl => ?_)
      refine lv_goto (tgt := 146) hx hb dX9_space_68 (by decide) ?_
      refine lv_iinc (v := 22) (lv' := [(3, .int 22), (2, .int 0), (0, .ref md), (1, .int 0)]) hx hb dX9_space_146 hl (k := 1) rfl (by decide) (by decide) rfl (fun ls hl => ?_)
      refine lv_goto (tgt := 24) hx hb dX9_space_149 (by decide) ?_
      refine lv_iload_n hx hb dX9_space_24 rfl (lv_at hl 0 rfl) ?_
      refine lv_bipush (v := 24) hx hb dX9_space_25 (by decide) ?_
      refine lv_icmp_ge (tgt := 152) hx hb dX9_space_27 (by decide) (fun c_119 => absurd c_119 (by decide)) (fun c_119 => ?_)
      refine lv_iload_n hx hb dX9_space_30 rfl (lv_at hl 3 rfl) ?_
      refine lv_tableIn (tgt := 60) hx hb dX9_space_31 (by decide) (by decide) (off := 29) (by decide) (by decide) ?_
      refine lv_iload_n hx hb dX9_space_60 rfl (lv_at hl 1 rfl) ?_
      refine lv_aload_n hx hb dX9_space_61 rfl (lv_at hl 2 rfl) ?_
      refine lv_iload_n hx hb dX9_space_62 rfl (lv_at hl 0 rfl) ?_
      refine kV_i (ci := 9) (As := [.int 22]) (rest := [.int 0]) (wc := [(md, .inr (9, [.int 0, .ref m_all, .ref m_deeds, .ref m_trial, .int 0, .ref m_hasImage, .ref m_tape, .ref m_key, .ref m_answered, .int 0, .int 0, .int 0, .ref m_goes, .int 0, .ref m_hotOnes, .ref m_indexed, .ref m_isChanged, .int 0, .ref m_valueNow, .int 0, .int (-1), .int 0, .ref m_didSome, .ref m_sizes, .ref m_ends])), (m_all, aI cs 51207 f_m_all)]) (wr := []) hx hb hml hown hu hK hP hD hS hA hl.1 (c_X9_liveOn l D cs H.size 22 md m_all f_m_all m_deeds m_trial m_hasImage m_tape m_key m_answered m_goes m_hotOnes m_indexed m_isChanged m_valueNow m_didSome m_sizes m_ends 0 0 0 z_all) (gV u_1482 u_1484 u_60 u_76 u_1485) hd_X9_liveOn ⟨(Nat.le_of_ble_eq_true rfl), (Nat.le_of_ble_eq_true rfl)⟩ [0, 1] [] rfl rfl rfl rfl (by decide) rfl 0 rfl rfl rfl (Nat.le_of_ble_eq_true rfl) dX9_space_63 ⟨(Nat.le_of_ble_eq_true rfl), (Nat.le_of_ble_eq_true rfl)⟩ (fun r_120 ut_121 H locs hw_122 hP hD hS => ?_)
      have hP : va_P D vwCl [(md, .inr (9, [.int 0, .ref m_all, .ref m_deeds, .ref m_trial, .int 0, .ref m_hasImage, .ref m_tape, .ref m_key, .ref m_answered, .int 0, .int 0, .int 0, .ref m_goes, .int 0, .ref m_hotOnes, .ref m_indexed, .ref m_isChanged, .int 0, .ref m_valueNow, .int 0, .int (-1), .int 0, .ref m_didSome, .ref m_sizes, .ref m_ends])), (m_all, aI cs 51207 f_m_all)] H := hP
      have hD : va_D A [(md, .inr (9, [.int 0, .ref m_all, .ref m_deeds, .ref m_trial, .int 0, .ref m_hasImage, .ref m_tape, .ref m_key, .ref m_answered, .int 0, .int 0, .int 0, .ref m_goes, .int 0, .ref m_hotOnes, .ref m_indexed, .ref m_isChanged, .int 0, .ref m_valueNow, .int 0, .int (-1), .int 0, .ref m_didSome, .ref m_sizes, .ref m_ends])), (m_all, aI cs 51207 f_m_all)] := hD
      have er_123 := hw_122
      subst er_123
      refine lv_iadd hx hb dX9_space_66 ?_
      refine tpi (y := 0) (by decide) ?_
      refine lv_istore_n (lv' := [(2, .int 0), (3, .int 22), (0, .ref md), (1, .int 0)]) hx hb dX9_space_67 rfl hl (by decide) rfl (fun ls hl => ?_)
      refine lv_goto (tgt := 146) hx hb dX9_space_68 (by decide) ?_
      refine lv_iinc (v := 23) (lv' := [(3, .int 23), (2, .int 0), (0, .ref md), (1, .int 0)]) hx hb dX9_space_146 hl (k := 1) rfl (by decide) (by decide) rfl (fun ls hl => ?_)
      refine lv_goto (tgt := 24) hx hb dX9_space_149 (by decide) ?_
      refine lv_iload_n hx hb dX9_space_24 rfl (lv_at hl 0 rfl) ?_
      refine lv_bipush (v := 24) hx hb dX9_space_25 (by decide) ?_
      refine lv_icmp_ge (tgt := 152) hx hb dX9_space_27 (by decide) (fun c_124 => absurd c_124 (by decide)) (fun c_124 => ?_)
      refine lv_iload_n hx hb dX9_space_30 rfl (lv_at hl 3 rfl) ?_
      refine lv_tableIn (tgt := 60) hx hb dX9_space_31 (by decide) (by decide) (off := 29) (by decide) (by decide) ?_
      refine lv_iload_n hx hb dX9_space_60 rfl (lv_at hl 1 rfl) ?_
      refine lv_aload_n hx hb dX9_space_61 rfl (lv_at hl 2 rfl) ?_
      refine lv_iload_n hx hb dX9_space_62 rfl (lv_at hl 0 rfl) ?_
      refine kV_i (ci := 9) (As := [.int 23]) (rest := [.int 0]) (wc := [(md, .inr (9, [.int 0, .ref m_all, .ref m_deeds, .ref m_trial, .int 0, .ref m_hasImage, .ref m_tape, .ref m_key, .ref m_answered, .int 0, .int 0, .int 0, .ref m_goes, .int 0, .ref m_hotOnes, .ref m_indexed, .ref m_isChanged, .int 0, .ref m_valueNow, .int 0, .int (-1), .int 0, .ref m_didSome, .ref m_sizes, .ref m_ends])), (m_all, aI cs 51207 f_m_all)]) (wr := []) hx hb hml hown hu hK hP hD hS hA hl.1 (c_X9_liveOn l D cs H.size 23 md m_all f_m_all m_deeds m_trial m_hasImage m_tape m_key m_answered m_goes m_hotOnes m_indexed m_isChanged m_valueNow m_didSome m_sizes m_ends 0 0 0 z_all) (gV u_1482 u_1484 u_60 u_76 u_1485) hd_X9_liveOn ⟨(Nat.le_of_ble_eq_true rfl), (Nat.le_of_ble_eq_true rfl)⟩ [0, 1] [] rfl rfl rfl rfl (by decide) rfl 0 rfl rfl rfl (Nat.le_of_ble_eq_true rfl) dX9_space_63 ⟨(Nat.le_of_ble_eq_true rfl), (Nat.le_of_ble_eq_true rfl)⟩ (fun r_125 ut_126 H locs hw_127 hP hD hS => ?_)
      have hP : va_P D vwCl [(md, .inr (9, [.int 0, .ref m_all, .ref m_deeds, .ref m_trial, .int 0, .ref m_hasImage, .ref m_tape, .ref m_key, .ref m_answered, .int 0, .int 0, .int 0, .ref m_goes, .int 0, .ref m_hotOnes, .ref m_indexed, .ref m_isChanged, .int 0, .ref m_valueNow, .int 0, .int (-1), .int 0, .ref m_didSome, .ref m_sizes, .ref m_ends])), (m_all, aI cs 51207 f_m_all)] H := hP
      have hD : va_D A [(md, .inr (9, [.int 0, .ref m_all, .ref m_deeds, .ref m_trial, .int 0, .ref m_hasImage, .ref m_tape, .ref m_key, .ref m_answered, .int 0, .int 0, .int 0, .ref m_goes, .int 0, .ref m_hotOnes, .ref m_indexed, .ref m_isChanged, .int 0, .ref m_valueNow, .int 0, .int (-1), .int 0, .ref m_didSome, .ref m_sizes, .ref m_ends])), (m_all, aI cs 51207 f_m_all)] := hD
      have er_128 := hw_127
      subst er_128
      refine lv_iadd hx hb dX9_space_66 ?_
      refine tpi (y := 0) (by decide) ?_
      refine lv_istore_n (lv' := [(2, .int 0), (3, .int 23), (0, .ref md), (1, .int 0)]) hx hb dX9_space_67 rfl hl (by decide) rfl (fun ls hl => ?_)
      refine lv_goto (tgt := 146) hx hb dX9_space_68 (by decide) ?_
      refine lv_iinc (v := 24) (lv' := [(3, .int 24), (2, .int 0), (0, .ref md), (1, .int 0)]) hx hb dX9_space_146 hl (k := 1) rfl (by decide) (by decide) rfl (fun ls hl => ?_)
      refine lv_goto (tgt := 24) hx hb dX9_space_149 (by decide) ?_
      refine lv_iload_n hx hb dX9_space_24 rfl (lv_at hl 0 rfl) ?_
      refine lv_bipush (v := 24) hx hb dX9_space_25 (by decide) ?_
      refine lv_icmp_ge (tgt := 152) hx hb dX9_space_27 (by decide) (fun c_129 => ?_) (fun c_129 => absurd (by decide) c_129)
      refine lv_iload_n hx hb dX9_space_152 rfl (lv_at hl 1 rfl) ?_
      exact hz () hP hD hS (by grind) [] rfl rfl (Nat.le_of_ble_eq_true rfl) (Nat.le_of_ble_eq_true rfl) .int rfl rfl dX9_space_153
    · subst c_8
      refine lv_iconst (v := 0) hx hb dX9_space_20 (by decide) ?_
      refine lv_istore_n (lv' := [(2, .int 0), (0, .ref md), (1, .int 1)]) hx hb dX9_space_21 rfl hl (by decide) rfl (fun ls hl => ?_)
      refine lv_iconst (v := 0) hx hb dX9_space_22 (by decide) ?_
      refine lv_istore_n (lv' := [(3, .int 0), (2, .int 0), (0, .ref md), (1, .int 1)]) hx hb dX9_space_23 rfl hl (by decide) rfl (fun ls hl => ?_)
      refine lv_iload_n hx hb dX9_space_24 rfl (lv_at hl 0 rfl) ?_
      refine lv_bipush (v := 24) hx hb dX9_space_25 (by decide) ?_
      refine lv_icmp_ge (tgt := 152) hx hb dX9_space_27 (by decide) (fun c_130 => absurd c_130 (by decide)) (fun c_130 => ?_)
      refine lv_iload_n hx hb dX9_space_30 rfl (lv_at hl 3 rfl) ?_
      refine lv_tableIn (tgt := 71) hx hb dX9_space_31 (by decide) (by decide) (off := 40) (by decide) (by decide) ?_
      refine lv_iload_n hx hb dX9_space_71 rfl (lv_at hl 1 rfl) ?_
      refine lv_aload_n hx hb dX9_space_72 rfl (lv_at hl 2 rfl) ?_
      refine lv_iload_n hx hb dX9_space_73 rfl (lv_at hl 0 rfl) ?_
      refine kV_i (ci := 9) (As := [.int 0]) (rest := [.int 0]) (wc := [(md, .inr (9, [.int 0, .ref m_all, .ref m_deeds, .ref m_trial, .int 0, .ref m_hasImage, .ref m_tape, .ref m_key, .ref m_answered, .int 0, .int 0, .int 0, .ref m_goes, .int 0, .ref m_hotOnes, .ref m_indexed, .ref m_isChanged, .int 0, .ref m_valueNow, .int 0, .int (-1), .int 0, .ref m_didSome, .ref m_sizes, .ref m_ends])), (m_all, aI cs 51207 f_m_all)]) (wr := []) hx hb hml hown hu hK hP hD hS hA hl.1 (c_X9_stayingOn l D cs H.size 0 md m_all f_m_all m_deeds m_trial m_hasImage m_tape m_key m_answered m_goes m_hotOnes m_indexed m_isChanged m_valueNow m_didSome m_sizes m_ends 0 0 0 z_all) (gV u_1204 u_1206 u_17 u_76 u_1207) hd_X9_stayingOn ⟨(Nat.le_of_ble_eq_true rfl), (Nat.le_of_ble_eq_true rfl)⟩ [0, 1] [] rfl rfl rfl rfl (by decide) rfl 0 rfl rfl rfl (Nat.le_of_ble_eq_true rfl) dX9_space_74 ⟨(Nat.le_of_ble_eq_true rfl), (Nat.le_of_ble_eq_true rfl)⟩ (fun r_131 ut_132 H locs hw_133 hP hD hS => ?_)
      have hP : va_P D vwCl [(md, .inr (9, [.int 0, .ref m_all, .ref m_deeds, .ref m_trial, .int 0, .ref m_hasImage, .ref m_tape, .ref m_key, .ref m_answered, .int 0, .int 0, .int 0, .ref m_goes, .int 0, .ref m_hotOnes, .ref m_indexed, .ref m_isChanged, .int 0, .ref m_valueNow, .int 0, .int (-1), .int 0, .ref m_didSome, .ref m_sizes, .ref m_ends])), (m_all, aI cs 51207 f_m_all)] H := hP
      have hD : va_D A [(md, .inr (9, [.int 0, .ref m_all, .ref m_deeds, .ref m_trial, .int 0, .ref m_hasImage, .ref m_tape, .ref m_key, .ref m_answered, .int 0, .int 0, .int 0, .ref m_goes, .int 0, .ref m_hotOnes, .ref m_indexed, .ref m_isChanged, .int 0, .ref m_valueNow, .int 0, .int (-1), .int 0, .ref m_didSome, .ref m_sizes, .ref m_ends])), (m_all, aI cs 51207 f_m_all)] := hD
      have er_134 := hw_133
      subst er_134
      refine lv_aload_n hx hb dX9_space_77 rfl (lv_at hl 2 rfl) ?_
      refine lv_iload_n hx hb dX9_space_78 rfl (lv_at hl 0 rfl) ?_
      refine kV_i (ci := 9) (As := [.int 0]) (rest := [.int 0, .int 0]) (wc := [(md, .inr (9, [.int 0, .ref m_all, .ref m_deeds, .ref m_trial, .int 0, .ref m_hasImage, .ref m_tape, .ref m_key, .ref m_answered, .int 0, .int 0, .int 0, .ref m_goes, .int 0, .ref m_hotOnes, .ref m_indexed, .ref m_isChanged, .int 0, .ref m_valueNow, .int 0, .int (-1), .int 0, .ref m_didSome, .ref m_sizes, .ref m_ends])), (m_all, aI cs 51207 f_m_all)]) (wr := []) hx hb hml hown hu hK hP hD hS hA hl.1 (c_X9_liveOn l D cs H.size 0 md m_all f_m_all m_deeds m_trial m_hasImage m_tape m_key m_answered m_goes m_hotOnes m_indexed m_isChanged m_valueNow m_didSome m_sizes m_ends 0 0 0 z_all) (gV u_1482 u_1484 u_60 u_76 u_1485) hd_X9_liveOn ⟨(Nat.le_of_ble_eq_true rfl), (Nat.le_of_ble_eq_true rfl)⟩ [0, 1] [] rfl rfl rfl rfl (by decide) rfl 0 rfl rfl rfl (Nat.le_of_ble_eq_true rfl) dX9_space_79 ⟨(Nat.le_of_ble_eq_true rfl), (Nat.le_of_ble_eq_true rfl)⟩ (fun r_135 ut_136 H locs hw_137 hP hD hS => ?_)
      have hP : va_P D vwCl [(md, .inr (9, [.int 0, .ref m_all, .ref m_deeds, .ref m_trial, .int 0, .ref m_hasImage, .ref m_tape, .ref m_key, .ref m_answered, .int 0, .int 0, .int 0, .ref m_goes, .int 0, .ref m_hotOnes, .ref m_indexed, .ref m_isChanged, .int 0, .ref m_valueNow, .int 0, .int (-1), .int 0, .ref m_didSome, .ref m_sizes, .ref m_ends])), (m_all, aI cs 51207 f_m_all)] H := hP
      have hD : va_D A [(md, .inr (9, [.int 0, .ref m_all, .ref m_deeds, .ref m_trial, .int 0, .ref m_hasImage, .ref m_tape, .ref m_key, .ref m_answered, .int 0, .int 0, .int 0, .ref m_goes, .int 0, .ref m_hotOnes, .ref m_indexed, .ref m_isChanged, .int 0, .ref m_valueNow, .int 0, .int (-1), .int 0, .ref m_didSome, .ref m_sizes, .ref m_ends])), (m_all, aI cs 51207 f_m_all)] := hD
      have er_138 := hw_137
      subst er_138
      refine lv_isub hx hb dX9_space_82 ?_
      refine tpi (y := 0) (by decide) ?_
      refine lv_iadd hx hb dX9_space_83 ?_
      refine tpi (y := 0) (by decide) ?_
      refine lv_istore_n (lv' := [(2, .int 0), (3, .int 0), (0, .ref md), (1, .int 1)]) hx hb dX9_space_84 rfl hl (by decide) rfl (fun ls hl => ?_)
      refine lv_goto (tgt := 146) hx hb dX9_space_85 (by decide) ?_
      refine lv_iinc (v := 1) (lv' := [(3, .int 1), (2, .int 0), (0, .ref md), (1, .int 1)]) hx hb dX9_space_146 hl (k := 1) rfl (by decide) (by decide) rfl (fun ls hl => ?_)
      refine lv_goto (tgt := 24) hx hb dX9_space_149 (by decide) ?_
      refine lv_iload_n hx hb dX9_space_24 rfl (lv_at hl 0 rfl) ?_
      refine lv_bipush (v := 24) hx hb dX9_space_25 (by decide) ?_
      refine lv_icmp_ge (tgt := 152) hx hb dX9_space_27 (by decide) (fun c_139 => absurd c_139 (by decide)) (fun c_139 => ?_)
      refine lv_iload_n hx hb dX9_space_30 rfl (lv_at hl 3 rfl) ?_
      refine lv_tableIn (tgt := 71) hx hb dX9_space_31 (by decide) (by decide) (off := 40) (by decide) (by decide) ?_
      refine lv_iload_n hx hb dX9_space_71 rfl (lv_at hl 1 rfl) ?_
      refine lv_aload_n hx hb dX9_space_72 rfl (lv_at hl 2 rfl) ?_
      refine lv_iload_n hx hb dX9_space_73 rfl (lv_at hl 0 rfl) ?_
      refine kV_i (ci := 9) (As := [.int 1]) (rest := [.int 0]) (wc := [(md, .inr (9, [.int 0, .ref m_all, .ref m_deeds, .ref m_trial, .int 0, .ref m_hasImage, .ref m_tape, .ref m_key, .ref m_answered, .int 0, .int 0, .int 0, .ref m_goes, .int 0, .ref m_hotOnes, .ref m_indexed, .ref m_isChanged, .int 0, .ref m_valueNow, .int 0, .int (-1), .int 0, .ref m_didSome, .ref m_sizes, .ref m_ends])), (m_all, aI cs 51207 f_m_all)]) (wr := []) hx hb hml hown hu hK hP hD hS hA hl.1 (c_X9_stayingOn l D cs H.size 1 md m_all f_m_all m_deeds m_trial m_hasImage m_tape m_key m_answered m_goes m_hotOnes m_indexed m_isChanged m_valueNow m_didSome m_sizes m_ends 0 0 0 z_all) (gV u_1204 u_1206 u_17 u_76 u_1207) hd_X9_stayingOn ⟨(Nat.le_of_ble_eq_true rfl), (Nat.le_of_ble_eq_true rfl)⟩ [0, 1] [] rfl rfl rfl rfl (by decide) rfl 0 rfl rfl rfl (Nat.le_of_ble_eq_true rfl) dX9_space_74 ⟨(Nat.le_of_ble_eq_true rfl), (Nat.le_of_ble_eq_true rfl)⟩ (fun r_140 ut_141 H locs hw_142 hP hD hS => ?_)
      have hP : va_P D vwCl [(md, .inr (9, [.int 0, .ref m_all, .ref m_deeds, .ref m_trial, .int 0, .ref m_hasImage, .ref m_tape, .ref m_key, .ref m_answered, .int 0, .int 0, .int 0, .ref m_goes, .int 0, .ref m_hotOnes, .ref m_indexed, .ref m_isChanged, .int 0, .ref m_valueNow, .int 0, .int (-1), .int 0, .ref m_didSome, .ref m_sizes, .ref m_ends])), (m_all, aI cs 51207 f_m_all)] H := hP
      have hD : va_D A [(md, .inr (9, [.int 0, .ref m_all, .ref m_deeds, .ref m_trial, .int 0, .ref m_hasImage, .ref m_tape, .ref m_key, .ref m_answered, .int 0, .int 0, .int 0, .ref m_goes, .int 0, .ref m_hotOnes, .ref m_indexed, .ref m_isChanged, .int 0, .ref m_valueNow, .int 0, .int (-1), .int 0, .ref m_didSome, .ref m_sizes, .ref m_ends])), (m_all, aI cs 51207 f_m_all)] := hD
      have er_143 := hw_142
      subst er_143
      refine lv_aload_n hx hb dX9_space_77 rfl (lv_at hl 2 rfl) ?_
      refine lv_iload_n hx hb dX9_space_78 rfl (lv_at hl 0 rfl) ?_
      refine kV_i (ci := 9) (As := [.int 1]) (rest := [.int 0, .int 0]) (wc := [(md, .inr (9, [.int 0, .ref m_all, .ref m_deeds, .ref m_trial, .int 0, .ref m_hasImage, .ref m_tape, .ref m_key, .ref m_answered, .int 0, .int 0, .int 0, .ref m_goes, .int 0, .ref m_hotOnes, .ref m_indexed, .ref m_isChanged, .int 0, .ref m_valueNow, .int 0, .int (-1), .int 0, .ref m_didSome, .ref m_sizes, .ref m_ends])), (m_all, aI cs 51207 f_m_all)]) (wr := []) hx hb hml hown hu hK hP hD hS hA hl.1 (c_X9_liveOn l D cs H.size 1 md m_all f_m_all m_deeds m_trial m_hasImage m_tape m_key m_answered m_goes m_hotOnes m_indexed m_isChanged m_valueNow m_didSome m_sizes m_ends 0 0 0 z_all) (gV u_1482 u_1484 u_60 u_76 u_1485) hd_X9_liveOn ⟨(Nat.le_of_ble_eq_true rfl), (Nat.le_of_ble_eq_true rfl)⟩ [0, 1] [] rfl rfl rfl rfl (by decide) rfl 0 rfl rfl rfl (Nat.le_of_ble_eq_true rfl) dX9_space_79 ⟨(Nat.le_of_ble_eq_true rfl), (Nat.le_of_ble_eq_true rfl)⟩ (fun r_144 ut_145 H locs hw_146 hP hD hS => ?_)
      have hP : va_P D vwCl [(md, .inr (9, [.int 0, .ref m_all, .ref m_deeds, .ref m_trial, .int 0, .ref m_hasImage, .ref m_tape, .ref m_key, .ref m_answered, .int 0, .int 0, .int 0, .ref m_goes, .int 0, .ref m_hotOnes, .ref m_indexed, .ref m_isChanged, .int 0, .ref m_valueNow, .int 0, .int (-1), .int 0, .ref m_didSome, .ref m_sizes, .ref m_ends])), (m_all, aI cs 51207 f_m_all)] H := hP
      have hD : va_D A [(md, .inr (9, [.int 0, .ref m_all, .ref m_deeds, .ref m_trial, .int 0, .ref m_hasImage, .ref m_tape, .ref m_key, .ref m_answered, .int 0, .int 0, .int 0, .ref m_goes, .int 0, .ref m_hotOnes, .ref m_indexed, .ref m_isChanged, .int 0, .ref m_valueNow, .int 0, .int (-1), .int 0, .ref m_didSome, .ref m_sizes, .ref m_ends])), (m_all, aI cs 51207 f_m_all)] := hD
      have er_147 := hw_146
      subst er_147
      refine lv_isub hx hb dX9_space_82 ?_
      refine tpi (y := 0) (by decide) ?_
      refine lv_iadd hx hb dX9_space_83 ?_
      refine tpi (y := 0) (by decide) ?_
      refine lv_istore_n (lv' := [(2, .int 0), (3, .int 1), (0, .ref md), (1, .int 1)]) hx hb dX9_space_84 rfl hl (by decide) rfl (fun ls hl => ?_)
      refine lv_goto (tgt := 146) hx hb dX9_space_85 (by decide) ?_
      refine lv_iinc (v := 2) (lv' := [(3, .int 2), (2, .int 0), (0, .ref md), (1, .int 1)]) hx hb dX9_space_146 hl (k := 1) rfl (by decide) (by decide) rfl (fun ls hl => ?_)
      refine lv_goto (tgt := 24) hx hb dX9_space_149 (by decide) ?_
      refine lv_iload_n hx hb dX9_space_24 rfl (lv_at hl 0 rfl) ?_
      refine lv_bipush (v := 24) hx hb dX9_space_25 (by decide) ?_
      refine lv_icmp_ge (tgt := 152) hx hb dX9_space_27 (by decide) (fun c_148 => absurd c_148 (by decide)) (fun c_148 => ?_)
      refine lv_iload_n hx hb dX9_space_30 rfl (lv_at hl 3 rfl) ?_
      refine lv_tableIn (tgt := 71) hx hb dX9_space_31 (by decide) (by decide) (off := 40) (by decide) (by decide) ?_
      refine lv_iload_n hx hb dX9_space_71 rfl (lv_at hl 1 rfl) ?_
      refine lv_aload_n hx hb dX9_space_72 rfl (lv_at hl 2 rfl) ?_
      refine lv_iload_n hx hb dX9_space_73 rfl (lv_at hl 0 rfl) ?_
      refine kV_i (ci := 9) (As := [.int 2]) (rest := [.int 0]) (wc := [(md, .inr (9, [.int 0, .ref m_all, .ref m_deeds, .ref m_trial, .int 0, .ref m_hasImage, .ref m_tape, .ref m_key, .ref m_answered, .int 0, .int 0, .int 0, .ref m_goes, .int 0, .ref m_hotOnes, .ref m_indexed, .ref m_isChanged, .int 0, .ref m_valueNow, .int 0, .int (-1), .int 0, .ref m_didSome, .ref m_sizes, .ref m_ends])), (m_all, aI cs 51207 f_m_all)]) (wr := []) hx hb hml hown hu hK hP hD hS hA hl.1 (c_X9_stayingOn l D cs H.size 2 md m_all f_m_all m_deeds m_trial m_hasImage m_tape m_key m_answered m_goes m_hotOnes m_indexed m_isChanged m_valueNow m_didSome m_sizes m_ends 0 0 0 z_all) (gV u_1204 u_1206 u_17 u_76 u_1207) hd_X9_stayingOn ⟨(Nat.le_of_ble_eq_true rfl), (Nat.le_of_ble_eq_true rfl)⟩ [0, 1] [] rfl rfl rfl rfl (by decide) rfl 0 rfl rfl rfl (Nat.le_of_ble_eq_true rfl) dX9_space_74 ⟨(Nat.le_of_ble_eq_true rfl), (Nat.le_of_ble_eq_true rfl)⟩ (fun r_149 ut_150 H locs hw_151 hP hD hS => ?_)
      have hP : va_P D vwCl [(md, .inr (9, [.int 0, .ref m_all, .ref m_deeds, .ref m_trial, .int 0, .ref m_hasImage, .ref m_tape, .ref m_key, .ref m_answered, .int 0, .int 0, .int 0, .ref m_goes, .int 0, .ref m_hotOnes, .ref m_indexed, .ref m_isChanged, .int 0, .ref m_valueNow, .int 0, .int (-1), .int 0, .ref m_didSome, .ref m_sizes, .ref m_ends])), (m_all, aI cs 51207 f_m_all)] H := hP
      have hD : va_D A [(md, .inr (9, [.int 0, .ref m_all, .ref m_deeds, .ref m_trial, .int 0, .ref m_hasImage, .ref m_tape, .ref m_key, .ref m_answered, .int 0, .int 0, .int 0, .ref m_goes, .int 0, .ref m_hotOnes, .ref m_indexed, .ref m_isChanged, .int 0, .ref m_valueNow, .int 0, .int (-1), .int 0, .ref m_didSome, .ref m_sizes, .ref m_ends])), (m_all, aI cs 51207 f_m_all)] := hD
      have er_152 := hw_151
      subst er_152
      refine lv_aload_n hx hb dX9_space_77 rfl (lv_at hl 2 rfl) ?_
      refine lv_iload_n hx hb dX9_space_78 rfl (lv_at hl 0 rfl) ?_
      refine kV_i (ci := 9) (As := [.int 2]) (rest := [.int 0, .int 0]) (wc := [(md, .inr (9, [.int 0, .ref m_all, .ref m_deeds, .ref m_trial, .int 0, .ref m_hasImage, .ref m_tape, .ref m_key, .ref m_answered, .int 0, .int 0, .int 0, .ref m_goes, .int 0, .ref m_hotOnes, .ref m_indexed, .ref m_isChanged, .int 0, .ref m_valueNow, .int 0, .int (-1), .int 0, .ref m_didSome, .ref m_sizes, .ref m_ends])), (m_all, aI cs 51207 f_m_all)]) (wr := []) hx hb hml hown hu hK hP hD hS hA hl.1 (c_X9_liveOn l D cs H.size 2 md m_all f_m_all m_deeds m_trial m_hasImage m_tape m_key m_answered m_goes m_hotOnes m_indexed m_isChanged m_valueNow m_didSome m_sizes m_ends 0 0 0 z_all) (gV u_1482 u_1484 u_60 u_76 u_1485) hd_X9_liveOn ⟨(Nat.le_of_ble_eq_true rfl), (Nat.le_of_ble_eq_true rfl)⟩ [0, 1] [] rfl rfl rfl rfl (by decide) rfl 0 rfl rfl rfl (Nat.le_of_ble_eq_true rfl) dX9_space_79 ⟨(Nat.le_of_ble_eq_true rfl), (Nat.le_of_ble_eq_true rfl)⟩ (fun r_153 ut_154 H locs hw_155 hP hD hS => ?_)
      have hP : va_P D vwCl [(md, .inr (9, [.int 0, .ref m_all, .ref m_deeds, .ref m_trial, .int 0, .ref m_hasImage, .ref m_tape, .ref m_key, .ref m_answered, .int 0, .int 0, .int 0, .ref m_goes, .int 0, .ref m_hotOnes, .ref m_indexed, .ref m_isChanged, .int 0, .ref m_valueNow, .int 0, .int (-1), .int 0, .ref m_didSome, .ref m_sizes, .ref m_ends])), (m_all, aI cs 51207 f_m_all)] H := hP
      have hD : va_D A [(md, .inr (9, [.int 0, .ref m_all, .ref m_deeds, .ref m_trial, .int 0, .ref m_hasImage, .ref m_tape, .ref m_key, .ref m_answered, .int 0, .int 0, .int 0, .ref m_goes, .int 0, .ref m_hotOnes, .ref m_indexed, .ref m_isChanged, .int 0, .ref m_valueNow, .int 0, .int (-1), .int 0, .ref m_didSome, .ref m_sizes, .ref m_ends])), (m_all, aI cs 51207 f_m_all)] := hD
      have er_156 := hw_155
      subst er_156
      refine lv_isub hx hb dX9_space_82 ?_
      refine tpi (y := 0) (by decide) ?_
      refine lv_iadd hx hb dX9_space_83 ?_
      refine tpi (y := 0) (by decide) ?_
      refine lv_istore_n (lv' := [(2, .int 0), (3, .int 2), (0, .ref md), (1, .int 1)]) hx hb dX9_space_84 rfl hl (by decide) rfl (fun ls hl => ?_)
      refine lv_goto (tgt := 146) hx hb dX9_space_85 (by decide) ?_
      refine lv_iinc (v := 3) (lv' := [(3, .int 3), (2, .int 0), (0, .ref md), (1, .int 1)]) hx hb dX9_space_146 hl (k := 1) rfl (by decide) (by decide) rfl (fun ls hl => ?_)
      refine lv_goto (tgt := 24) hx hb dX9_space_149 (by decide) ?_
      refine lv_iload_n hx hb dX9_space_24 rfl (lv_at hl 0 rfl) ?_
      refine lv_bipush (v := 24) hx hb dX9_space_25 (by decide) ?_
      refine lv_icmp_ge (tgt := 152) hx hb dX9_space_27 (by decide) (fun c_157 => absurd c_157 (by decide)) (fun c_157 => ?_)
      refine lv_iload_n hx hb dX9_space_30 rfl (lv_at hl 3 rfl) ?_
      refine lv_tableIn (tgt := 71) hx hb dX9_space_31 (by decide) (by decide) (off := 40) (by decide) (by decide) ?_
      refine lv_iload_n hx hb dX9_space_71 rfl (lv_at hl 1 rfl) ?_
      refine lv_aload_n hx hb dX9_space_72 rfl (lv_at hl 2 rfl) ?_
      refine lv_iload_n hx hb dX9_space_73 rfl (lv_at hl 0 rfl) ?_
      refine kV_i (ci := 9) (As := [.int 3]) (rest := [.int 0]) (wc := [(md, .inr (9, [.int 0, .ref m_all, .ref m_deeds, .ref m_trial, .int 0, .ref m_hasImage, .ref m_tape, .ref m_key, .ref m_answered, .int 0, .int 0, .int 0, .ref m_goes, .int 0, .ref m_hotOnes, .ref m_indexed, .ref m_isChanged, .int 0, .ref m_valueNow, .int 0, .int (-1), .int 0, .ref m_didSome, .ref m_sizes, .ref m_ends])), (m_all, aI cs 51207 f_m_all)]) (wr := []) hx hb hml hown hu hK hP hD hS hA hl.1 (c_X9_stayingOn l D cs H.size 3 md m_all f_m_all m_deeds m_trial m_hasImage m_tape m_key m_answered m_goes m_hotOnes m_indexed m_isChanged m_valueNow m_didSome m_sizes m_ends 0 0 0 z_all) (gV u_1204 u_1206 u_17 u_76 u_1207) hd_X9_stayingOn ⟨(Nat.le_of_ble_eq_true rfl), (Nat.le_of_ble_eq_true rfl)⟩ [0, 1] [] rfl rfl rfl rfl (by decide) rfl 0 rfl rfl rfl (Nat.le_of_ble_eq_true rfl) dX9_space_74 ⟨(Nat.le_of_ble_eq_true rfl), (Nat.le_of_ble_eq_true rfl)⟩ (fun r_158 ut_159 H locs hw_160 hP hD hS => ?_)
      have hP : va_P D vwCl [(md, .inr (9, [.int 0, .ref m_all, .ref m_deeds, .ref m_trial, .int 0, .ref m_hasImage, .ref m_tape, .ref m_key, .ref m_answered, .int 0, .int 0, .int 0, .ref m_goes, .int 0, .ref m_hotOnes, .ref m_indexed, .ref m_isChanged, .int 0, .ref m_valueNow, .int 0, .int (-1), .int 0, .ref m_didSome, .ref m_sizes, .ref m_ends])), (m_all, aI cs 51207 f_m_all)] H := hP
      have hD : va_D A [(md, .inr (9, [.int 0, .ref m_all, .ref m_deeds, .ref m_trial, .int 0, .ref m_hasImage, .ref m_tape, .ref m_key, .ref m_answered, .int 0, .int 0, .int 0, .ref m_goes, .int 0, .ref m_hotOnes, .ref m_indexed, .ref m_isChanged, .int 0, .ref m_valueNow, .int 0, .int (-1), .int 0, .ref m_didSome, .ref m_sizes, .ref m_ends])), (m_all, aI cs 51207 f_m_all)] := hD
      have er_161 := hw_160
      subst er_161
      refine lv_aload_n hx hb dX9_space_77 rfl (lv_at hl 2 rfl) ?_
      refine lv_iload_n hx hb dX9_space_78 rfl (lv_at hl 0 rfl) ?_
      refine kV_i (ci := 9) (As := [.int 3]) (rest := [.int 0, .int 0]) (wc := [(md, .inr (9, [.int 0, .ref m_all, .ref m_deeds, .ref m_trial, .int 0, .ref m_hasImage, .ref m_tape, .ref m_key, .ref m_answered, .int 0, .int 0, .int 0, .ref m_goes, .int 0, .ref m_hotOnes, .ref m_indexed, .ref m_isChanged, .int 0, .ref m_valueNow, .int 0, .int (-1), .int 0, .ref m_didSome, .ref m_sizes, .ref m_ends])), (m_all, aI cs 51207 f_m_all)]) (wr := []) hx hb hml hown hu hK hP hD hS hA hl.1 (c_X9_liveOn l D cs H.size 3 md m_all f_m_all m_deeds m_trial m_hasImage m_tape m_key m_answered m_goes m_hotOnes m_indexed m_isChanged m_valueNow m_didSome m_sizes m_ends 0 0 0 z_all) (gV u_1482 u_1484 u_60 u_76 u_1485) hd_X9_liveOn ⟨(Nat.le_of_ble_eq_true rfl), (Nat.le_of_ble_eq_true rfl)⟩ [0, 1] [] rfl rfl rfl rfl (by decide) rfl 0 rfl rfl rfl (Nat.le_of_ble_eq_true rfl) dX9_space_79 ⟨(Nat.le_of_ble_eq_true rfl), (Nat.le_of_ble_eq_true rfl)⟩ (fun r_162 ut_163 H locs hw_164 hP hD hS => ?_)
      have hP : va_P D vwCl [(md, .inr (9, [.int 0, .ref m_all, .ref m_deeds, .ref m_trial, .int 0, .ref m_hasImage, .ref m_tape, .ref m_key, .ref m_answered, .int 0, .int 0, .int 0, .ref m_goes, .int 0, .ref m_hotOnes, .ref m_indexed, .ref m_isChanged, .int 0, .ref m_valueNow, .int 0, .int (-1), .int 0, .ref m_didSome, .ref m_sizes, .ref m_ends])), (m_all, aI cs 51207 f_m_all)] H := hP
      have hD : va_D A [(md, .inr (9, [.int 0, .ref m_all, .ref m_deeds, .ref m_trial, .int 0, .ref m_hasImage, .ref m_tape, .ref m_key, .ref m_answered, .int 0, .int 0, .int 0, .ref m_goes, .int 0, .ref m_hotOnes, .ref m_indexed, .ref m_isChanged, .int 0, .ref m_valueNow, .int 0, .int (-1), .int 0, .ref m_didSome, .ref m_sizes, .ref m_ends])), (m_all, aI cs 51207 f_m_all)] := hD
      have er_165 := hw_164
      subst er_165
      refine lv_isub hx hb dX9_space_82 ?_
      refine tpi (y := 0) (by decide) ?_
      refine lv_iadd hx hb dX9_space_83 ?_
      refine tpi (y := 0) (by decide) ?_
      refine lv_istore_n (lv' := [(2, .int 0), (3, .int 3), (0, .ref md), (1, .int 1)]) hx hb dX9_space_84 rfl hl (by decide) rfl (fun ls hl => ?_)
      refine lv_goto (tgt := 146) hx hb dX9_space_85 (by decide) ?_
      refine lv_iinc (v := 4) (lv' := [(3, .int 4), (2, .int 0), (0, .ref md), (1, .int 1)]) hx hb dX9_space_146 hl (k := 1) rfl (by decide) (by decide) rfl (fun ls hl => ?_)
      refine lv_goto (tgt := 24) hx hb dX9_space_149 (by decide) ?_
      refine lv_iload_n hx hb dX9_space_24 rfl (lv_at hl 0 rfl) ?_
      refine lv_bipush (v := 24) hx hb dX9_space_25 (by decide) ?_
      refine lv_icmp_ge (tgt := 152) hx hb dX9_space_27 (by decide) (fun c_166 => absurd c_166 (by decide)) (fun c_166 => ?_)
      refine lv_iload_n hx hb dX9_space_30 rfl (lv_at hl 3 rfl) ?_
      refine lv_tableIn (tgt := 71) hx hb dX9_space_31 (by decide) (by decide) (off := 40) (by decide) (by decide) ?_
      refine lv_iload_n hx hb dX9_space_71 rfl (lv_at hl 1 rfl) ?_
      refine lv_aload_n hx hb dX9_space_72 rfl (lv_at hl 2 rfl) ?_
      refine lv_iload_n hx hb dX9_space_73 rfl (lv_at hl 0 rfl) ?_
      refine kV_i (ci := 9) (As := [.int 4]) (rest := [.int 0]) (wc := [(md, .inr (9, [.int 0, .ref m_all, .ref m_deeds, .ref m_trial, .int 0, .ref m_hasImage, .ref m_tape, .ref m_key, .ref m_answered, .int 0, .int 0, .int 0, .ref m_goes, .int 0, .ref m_hotOnes, .ref m_indexed, .ref m_isChanged, .int 0, .ref m_valueNow, .int 0, .int (-1), .int 0, .ref m_didSome, .ref m_sizes, .ref m_ends])), (m_all, aI cs 51207 f_m_all)]) (wr := []) hx hb hml hown hu hK hP hD hS hA hl.1 (c_X9_stayingOn l D cs H.size 4 md m_all f_m_all m_deeds m_trial m_hasImage m_tape m_key m_answered m_goes m_hotOnes m_indexed m_isChanged m_valueNow m_didSome m_sizes m_ends 0 0 0 z_all) (gV u_1204 u_1206 u_17 u_76 u_1207) hd_X9_stayingOn ⟨(Nat.le_of_ble_eq_true rfl), (Nat.le_of_ble_eq_true rfl)⟩ [0, 1] [] rfl rfl rfl rfl (by decide) rfl 0 rfl rfl rfl (Nat.le_of_ble_eq_true rfl) dX9_space_74 ⟨(Nat.le_of_ble_eq_true rfl), (Nat.le_of_ble_eq_true rfl)⟩ (fun r_167 ut_168 H locs hw_169 hP hD hS => ?_)
      have hP : va_P D vwCl [(md, .inr (9, [.int 0, .ref m_all, .ref m_deeds, .ref m_trial, .int 0, .ref m_hasImage, .ref m_tape, .ref m_key, .ref m_answered, .int 0, .int 0, .int 0, .ref m_goes, .int 0, .ref m_hotOnes, .ref m_indexed, .ref m_isChanged, .int 0, .ref m_valueNow, .int 0, .int (-1), .int 0, .ref m_didSome, .ref m_sizes, .ref m_ends])), (m_all, aI cs 51207 f_m_all)] H := hP
      have hD : va_D A [(md, .inr (9, [.int 0, .ref m_all, .ref m_deeds, .ref m_trial, .int 0, .ref m_hasImage, .ref m_tape, .ref m_key, .ref m_answered, .int 0, .int 0, .int 0, .ref m_goes, .int 0, .ref m_hotOnes, .ref m_indexed, .ref m_isChanged, .int 0, .ref m_valueNow, .int 0, .int (-1), .int 0, .ref m_didSome, .ref m_sizes, .ref m_ends])), (m_all, aI cs 51207 f_m_all)] := hD
      have er_170 := hw_169
      subst er_170
      refine lv_aload_n hx hb dX9_space_77 rfl (lv_at hl 2 rfl) ?_
      refine lv_iload_n hx hb dX9_space_78 rfl (lv_at hl 0 rfl) ?_
      refine kV_i (ci := 9) (As := [.int 4]) (rest := [.int 0, .int 0]) (wc := [(md, .inr (9, [.int 0, .ref m_all, .ref m_deeds, .ref m_trial, .int 0, .ref m_hasImage, .ref m_tape, .ref m_key, .ref m_answered, .int 0, .int 0, .int 0, .ref m_goes, .int 0, .ref m_hotOnes, .ref m_indexed, .ref m_isChanged, .int 0, .ref m_valueNow, .int 0, .int (-1), .int 0, .ref m_didSome, .ref m_sizes, .ref m_ends])), (m_all, aI cs 51207 f_m_all)]) (wr := []) hx hb hml hown hu hK hP hD hS hA hl.1 (c_X9_liveOn l D cs H.size 4 md m_all f_m_all m_deeds m_trial m_hasImage m_tape m_key m_answered m_goes m_hotOnes m_indexed m_isChanged m_valueNow m_didSome m_sizes m_ends 0 0 0 z_all) (gV u_1482 u_1484 u_60 u_76 u_1485) hd_X9_liveOn ⟨(Nat.le_of_ble_eq_true rfl), (Nat.le_of_ble_eq_true rfl)⟩ [0, 1] [] rfl rfl rfl rfl (by decide) rfl 0 rfl rfl rfl (Nat.le_of_ble_eq_true rfl) dX9_space_79 ⟨(Nat.le_of_ble_eq_true rfl), (Nat.le_of_ble_eq_true rfl)⟩ (fun r_171 ut_172 H locs hw_173 hP hD hS => ?_)
      have hP : va_P D vwCl [(md, .inr (9, [.int 0, .ref m_all, .ref m_deeds, .ref m_trial, .int 0, .ref m_hasImage, .ref m_tape, .ref m_key, .ref m_answered, .int 0, .int 0, .int 0, .ref m_goes, .int 0, .ref m_hotOnes, .ref m_indexed, .ref m_isChanged, .int 0, .ref m_valueNow, .int 0, .int (-1), .int 0, .ref m_didSome, .ref m_sizes, .ref m_ends])), (m_all, aI cs 51207 f_m_all)] H := hP
      have hD : va_D A [(md, .inr (9, [.int 0, .ref m_all, .ref m_deeds, .ref m_trial, .int 0, .ref m_hasImage, .ref m_tape, .ref m_key, .ref m_answered, .int 0, .int 0, .int 0, .ref m_goes, .int 0, .ref m_hotOnes, .ref m_indexed, .ref m_isChanged, .int 0, .ref m_valueNow, .int 0, .int (-1), .int 0, .ref m_didSome, .ref m_sizes, .ref m_ends])), (m_all, aI cs 51207 f_m_all)] := hD
      have er_174 := hw_173
      subst er_174
      refine lv_isub hx hb dX9_space_82 ?_
      refine tpi (y := 0) (by decide) ?_
      refine lv_iadd hx hb dX9_space_83 ?_
      refine tpi (y := 0) (by decide) ?_
      refine lv_istore_n (lv' := [(2, .int 0), (3, .int 4), (0, .ref md), (1, .int 1)]) hx hb dX9_space_84 rfl hl (by decide) rfl (fun ls hl => ?_)
      refine lv_goto (tgt := 146) hx hb dX9_space_85 (by decide) ?_
      refine lv_iinc (v := 5) (lv' := [(3, .int 5), (2, .int 0), (0, .ref md), (1, .int 1)]) hx hb dX9_space_146 hl (k := 1) rfl (by decide) (by decide) rfl (fun ls hl => ?_)
      refine lv_goto (tgt := 24) hx hb dX9_space_149 (by decide) ?_
      refine lv_iload_n hx hb dX9_space_24 rfl (lv_at hl 0 rfl) ?_
      refine lv_bipush (v := 24) hx hb dX9_space_25 (by decide) ?_
      refine lv_icmp_ge (tgt := 152) hx hb dX9_space_27 (by decide) (fun c_175 => absurd c_175 (by decide)) (fun c_175 => ?_)
      refine lv_iload_n hx hb dX9_space_30 rfl (lv_at hl 3 rfl) ?_
      refine lv_tableIn (tgt := 71) hx hb dX9_space_31 (by decide) (by decide) (off := 40) (by decide) (by decide) ?_
      refine lv_iload_n hx hb dX9_space_71 rfl (lv_at hl 1 rfl) ?_
      refine lv_aload_n hx hb dX9_space_72 rfl (lv_at hl 2 rfl) ?_
      refine lv_iload_n hx hb dX9_space_73 rfl (lv_at hl 0 rfl) ?_
      refine kV_i (ci := 9) (As := [.int 5]) (rest := [.int 0]) (wc := [(md, .inr (9, [.int 0, .ref m_all, .ref m_deeds, .ref m_trial, .int 0, .ref m_hasImage, .ref m_tape, .ref m_key, .ref m_answered, .int 0, .int 0, .int 0, .ref m_goes, .int 0, .ref m_hotOnes, .ref m_indexed, .ref m_isChanged, .int 0, .ref m_valueNow, .int 0, .int (-1), .int 0, .ref m_didSome, .ref m_sizes, .ref m_ends])), (m_all, aI cs 51207 f_m_all)]) (wr := []) hx hb hml hown hu hK hP hD hS hA hl.1 (c_X9_stayingOn l D cs H.size 5 md m_all f_m_all m_deeds m_trial m_hasImage m_tape m_key m_answered m_goes m_hotOnes m_indexed m_isChanged m_valueNow m_didSome m_sizes m_ends 0 0 0 z_all) (gV u_1204 u_1206 u_17 u_76 u_1207) hd_X9_stayingOn ⟨(Nat.le_of_ble_eq_true rfl), (Nat.le_of_ble_eq_true rfl)⟩ [0, 1] [] rfl rfl rfl rfl (by decide) rfl 0 rfl rfl rfl (Nat.le_of_ble_eq_true rfl) dX9_space_74 ⟨(Nat.le_of_ble_eq_true rfl), (Nat.le_of_ble_eq_true rfl)⟩ (fun r_176 ut_177 H locs hw_178 hP hD hS => ?_)
      have hP : va_P D vwCl [(md, .inr (9, [.int 0, .ref m_all, .ref m_deeds, .ref m_trial, .int 0, .ref m_hasImage, .ref m_tape, .ref m_key, .ref m_answered, .int 0, .int 0, .int 0, .ref m_goes, .int 0, .ref m_hotOnes, .ref m_indexed, .ref m_isChanged, .int 0, .ref m_valueNow, .int 0, .int (-1), .int 0, .ref m_didSome, .ref m_sizes, .ref m_ends])), (m_all, aI cs 51207 f_m_all)] H := hP
      have hD : va_D A [(md, .inr (9, [.int 0, .ref m_all, .ref m_deeds, .ref m_trial, .int 0, .ref m_hasImage, .ref m_tape, .ref m_key, .ref m_answered, .int 0, .int 0, .int 0, .ref m_goes, .int 0, .ref m_hotOnes, .ref m_indexed, .ref m_isChanged, .int 0, .ref m_valueNow, .int 0, .int (-1), .int 0, .ref m_didSome, .ref m_sizes, .ref m_ends])), (m_all, aI cs 51207 f_m_all)] := hD
      have er_179 := hw_178
      subst er_179
      refine lv_aload_n hx hb dX9_space_77 rfl (lv_at hl 2 rfl) ?_
      refine lv_iload_n hx hb dX9_space_78 rfl (lv_at hl 0 rfl) ?_
      refine kV_i (ci := 9) (As := [.int 5]) (rest := [.int 0, .int 0]) (wc := [(md, .inr (9, [.int 0, .ref m_all, .ref m_deeds, .ref m_trial, .int 0, .ref m_hasImage, .ref m_tape, .ref m_key, .ref m_answered, .int 0, .int 0, .int 0, .ref m_goes, .int 0, .ref m_hotOnes, .ref m_indexed, .ref m_isChanged, .int 0, .ref m_valueNow, .int 0, .int (-1), .int 0, .ref m_didSome, .ref m_sizes, .ref m_ends])), (m_all, aI cs 51207 f_m_all)]) (wr := []) hx hb hml hown hu hK hP hD hS hA hl.1 (c_X9_liveOn l D cs H.size 5 md m_all f_m_all m_deeds m_trial m_hasImage m_tape m_key m_answered m_goes m_hotOnes m_indexed m_isChanged m_valueNow m_didSome m_sizes m_ends 0 0 0 z_all) (gV u_1482 u_1484 u_60 u_76 u_1485) hd_X9_liveOn ⟨(Nat.le_of_ble_eq_true rfl), (Nat.le_of_ble_eq_true rfl)⟩ [0, 1] [] rfl rfl rfl rfl (by decide) rfl 0 rfl rfl rfl (Nat.le_of_ble_eq_true rfl) dX9_space_79 ⟨(Nat.le_of_ble_eq_true rfl), (Nat.le_of_ble_eq_true rfl)⟩ (fun r_180 ut_181 H locs hw_182 hP hD hS => ?_)
      have hP : va_P D vwCl [(md, .inr (9, [.int 0, .ref m_all, .ref m_deeds, .ref m_trial, .int 0, .ref m_hasImage, .ref m_tape, .ref m_key, .ref m_answered, .int 0, .int 0, .int 0, .ref m_goes, .int 0, .ref m_hotOnes, .ref m_indexed, .ref m_isChanged, .int 0, .ref m_valueNow, .int 0, .int (-1), .int 0, .ref m_didSome, .ref m_sizes, .ref m_ends])), (m_all, aI cs 51207 f_m_all)] H := hP
      have hD : va_D A [(md, .inr (9, [.int 0, .ref m_all, .ref m_deeds, .ref m_trial, .int 0, .ref m_hasImage, .ref m_tape, .ref m_key, .ref m_answered, .int 0, .int 0, .int 0, .ref m_goes, .int 0, .ref m_hotOnes, .ref m_indexed, .ref m_isChanged, .int 0, .ref m_valueNow, .int 0, .int (-1), .int 0, .ref m_didSome, .ref m_sizes, .ref m_ends])), (m_all, aI cs 51207 f_m_all)] := hD
      have er_183 := hw_182
      subst er_183
      refine lv_isub hx hb dX9_space_82 ?_
      refine tpi (y := 0) (by decide) ?_
      refine lv_iadd hx hb dX9_space_83 ?_
      refine tpi (y := 0) (by decide) ?_
      refine lv_istore_n (lv' := [(2, .int 0), (3, .int 5), (0, .ref md), (1, .int 1)]) hx hb dX9_space_84 rfl hl (by decide) rfl (fun ls hl => ?_)
      refine lv_goto (tgt := 146) hx hb dX9_space_85 (by decide) ?_
      refine lv_iinc (v := 6) (lv' := [(3, .int 6), (2, .int 0), (0, .ref md), (1, .int 1)]) hx hb dX9_space_146 hl (k := 1) rfl (by decide) (by decide) rfl (fun ls hl => ?_)
      refine lv_goto (tgt := 24) hx hb dX9_space_149 (by decide) ?_
      refine lv_iload_n hx hb dX9_space_24 rfl (lv_at hl 0 rfl) ?_
      refine lv_bipush (v := 24) hx hb dX9_space_25 (by decide) ?_
      refine lv_icmp_ge (tgt := 152) hx hb dX9_space_27 (by decide) (fun c_184 => absurd c_184 (by decide)) (fun c_184 => ?_)
      refine lv_iload_n hx hb dX9_space_30 rfl (lv_at hl 3 rfl) ?_
      refine lv_tableIn (tgt := 71) hx hb dX9_space_31 (by decide) (by decide) (off := 40) (by decide) (by decide) ?_
      refine lv_iload_n hx hb dX9_space_71 rfl (lv_at hl 1 rfl) ?_
      refine lv_aload_n hx hb dX9_space_72 rfl (lv_at hl 2 rfl) ?_
      refine lv_iload_n hx hb dX9_space_73 rfl (lv_at hl 0 rfl) ?_
      refine kV_i (ci := 9) (As := [.int 6]) (rest := [.int 0]) (wc := [(md, .inr (9, [.int 0, .ref m_all, .ref m_deeds, .ref m_trial, .int 0, .ref m_hasImage, .ref m_tape, .ref m_key, .ref m_answered, .int 0, .int 0, .int 0, .ref m_goes, .int 0, .ref m_hotOnes, .ref m_indexed, .ref m_isChanged, .int 0, .ref m_valueNow, .int 0, .int (-1), .int 0, .ref m_didSome, .ref m_sizes, .ref m_ends])), (m_all, aI cs 51207 f_m_all)]) (wr := []) hx hb hml hown hu hK hP hD hS hA hl.1 (c_X9_stayingOn l D cs H.size 6 md m_all f_m_all m_deeds m_trial m_hasImage m_tape m_key m_answered m_goes m_hotOnes m_indexed m_isChanged m_valueNow m_didSome m_sizes m_ends 0 0 0 z_all) (gV u_1204 u_1206 u_17 u_76 u_1207) hd_X9_stayingOn ⟨(Nat.le_of_ble_eq_true rfl), (Nat.le_of_ble_eq_true rfl)⟩ [0, 1] [] rfl rfl rfl rfl (by decide) rfl 0 rfl rfl rfl (Nat.le_of_ble_eq_true rfl) dX9_space_74 ⟨(Nat.le_of_ble_eq_true rfl), (Nat.le_of_ble_eq_true rfl)⟩ (fun r_185 ut_186 H locs hw_187 hP hD hS => ?_)
      have hP : va_P D vwCl [(md, .inr (9, [.int 0, .ref m_all, .ref m_deeds, .ref m_trial, .int 0, .ref m_hasImage, .ref m_tape, .ref m_key, .ref m_answered, .int 0, .int 0, .int 0, .ref m_goes, .int 0, .ref m_hotOnes, .ref m_indexed, .ref m_isChanged, .int 0, .ref m_valueNow, .int 0, .int (-1), .int 0, .ref m_didSome, .ref m_sizes, .ref m_ends])), (m_all, aI cs 51207 f_m_all)] H := hP
      have hD : va_D A [(md, .inr (9, [.int 0, .ref m_all, .ref m_deeds, .ref m_trial, .int 0, .ref m_hasImage, .ref m_tape, .ref m_key, .ref m_answered, .int 0, .int 0, .int 0, .ref m_goes, .int 0, .ref m_hotOnes, .ref m_indexed, .ref m_isChanged, .int 0, .ref m_valueNow, .int 0, .int (-1), .int 0, .ref m_didSome, .ref m_sizes, .ref m_ends])), (m_all, aI cs 51207 f_m_all)] := hD
      have er_188 := hw_187
      subst er_188
      refine lv_aload_n hx hb dX9_space_77 rfl (lv_at hl 2 rfl) ?_
      refine lv_iload_n hx hb dX9_space_78 rfl (lv_at hl 0 rfl) ?_
      refine kV_i (ci := 9) (As := [.int 6]) (rest := [.int 0, .int 0]) (wc := [(md, .inr (9, [.int 0, .ref m_all, .ref m_deeds, .ref m_trial, .int 0, .ref m_hasImage, .ref m_tape, .ref m_key, .ref m_answered, .int 0, .int 0, .int 0, .ref m_goes, .int 0, .ref m_hotOnes, .ref m_indexed, .ref m_isChanged, .int 0, .ref m_valueNow, .int 0, .int (-1), .int 0, .ref m_didSome, .ref m_sizes, .ref m_ends])), (m_all, aI cs 51207 f_m_all)]) (wr := []) hx hb hml hown hu hK hP hD hS hA hl.1 (c_X9_liveOn l D cs H.size 6 md m_all f_m_all m_deeds m_trial m_hasImage m_tape m_key m_answered m_goes m_hotOnes m_indexed m_isChanged m_valueNow m_didSome m_sizes m_ends 0 0 0 z_all) (gV u_1482 u_1484 u_60 u_76 u_1485) hd_X9_liveOn ⟨(Nat.le_of_ble_eq_true rfl), (Nat.le_of_ble_eq_true rfl)⟩ [0, 1] [] rfl rfl rfl rfl (by decide) rfl 0 rfl rfl rfl (Nat.le_of_ble_eq_true rfl) dX9_space_79 ⟨(Nat.le_of_ble_eq_true rfl), (Nat.le_of_ble_eq_true rfl)⟩ (fun r_189 ut_190 H locs hw_191 hP hD hS => ?_)
      have hP : va_P D vwCl [(md, .inr (9, [.int 0, .ref m_all, .ref m_deeds, .ref m_trial, .int 0, .ref m_hasImage, .ref m_tape, .ref m_key, .ref m_answered, .int 0, .int 0, .int 0, .ref m_goes, .int 0, .ref m_hotOnes, .ref m_indexed, .ref m_isChanged, .int 0, .ref m_valueNow, .int 0, .int (-1), .int 0, .ref m_didSome, .ref m_sizes, .ref m_ends])), (m_all, aI cs 51207 f_m_all)] H := hP
      have hD : va_D A [(md, .inr (9, [.int 0, .ref m_all, .ref m_deeds, .ref m_trial, .int 0, .ref m_hasImage, .ref m_tape, .ref m_key, .ref m_answered, .int 0, .int 0, .int 0, .ref m_goes, .int 0, .ref m_hotOnes, .ref m_indexed, .ref m_isChanged, .int 0, .ref m_valueNow, .int 0, .int (-1), .int 0, .ref m_didSome, .ref m_sizes, .ref m_ends])), (m_all, aI cs 51207 f_m_all)] := hD
      have er_192 := hw_191
      subst er_192
      refine lv_isub hx hb dX9_space_82 ?_
      refine tpi (y := 0) (by decide) ?_
      refine lv_iadd hx hb dX9_space_83 ?_
      refine tpi (y := 0) (by decide) ?_
      refine lv_istore_n (lv' := [(2, .int 0), (3, .int 6), (0, .ref md), (1, .int 1)]) hx hb dX9_space_84 rfl hl (by decide) rfl (fun ls hl => ?_)
      refine lv_goto (tgt := 146) hx hb dX9_space_85 (by decide) ?_
      refine lv_iinc (v := 7) (lv' := [(3, .int 7), (2, .int 0), (0, .ref md), (1, .int 1)]) hx hb dX9_space_146 hl (k := 1) rfl (by decide) (by decide) rfl (fun ls hl => ?_)
      refine lv_goto (tgt := 24) hx hb dX9_space_149 (by decide) ?_
      refine lv_iload_n hx hb dX9_space_24 rfl (lv_at hl 0 rfl) ?_
      refine lv_bipush (v := 24) hx hb dX9_space_25 (by decide) ?_
      refine lv_icmp_ge (tgt := 152) hx hb dX9_space_27 (by decide) (fun c_193 => absurd c_193 (by decide)) (fun c_193 => ?_)
      refine lv_iload_n hx hb dX9_space_30 rfl (lv_at hl 3 rfl) ?_
      refine lv_tableIn (tgt := 71) hx hb dX9_space_31 (by decide) (by decide) (off := 40) (by decide) (by decide) ?_
      refine lv_iload_n hx hb dX9_space_71 rfl (lv_at hl 1 rfl) ?_
      refine lv_aload_n hx hb dX9_space_72 rfl (lv_at hl 2 rfl) ?_
      refine lv_iload_n hx hb dX9_space_73 rfl (lv_at hl 0 rfl) ?_
      refine kV_i (ci := 9) (As := [.int 7]) (rest := [.int 0]) (wc := [(md, .inr (9, [.int 0, .ref m_all, .ref m_deeds, .ref m_trial, .int 0, .ref m_hasImage, .ref m_tape, .ref m_key, .ref m_answered, .int 0, .int 0, .int 0, .ref m_goes, .int 0, .ref m_hotOnes, .ref m_indexed, .ref m_isChanged, .int 0, .ref m_valueNow, .int 0, .int (-1), .int 0, .ref m_didSome, .ref m_sizes, .ref m_ends])), (m_all, aI cs 51207 f_m_all)]) (wr := []) hx hb hml hown hu hK hP hD hS hA hl.1 (c_X9_stayingOn l D cs H.size 7 md m_all f_m_all m_deeds m_trial m_hasImage m_tape m_key m_answered m_goes m_hotOnes m_indexed m_isChanged m_valueNow m_didSome m_sizes m_ends 0 0 0 z_all) (gV u_1204 u_1206 u_17 u_76 u_1207) hd_X9_stayingOn ⟨(Nat.le_of_ble_eq_true rfl), (Nat.le_of_ble_eq_true rfl)⟩ [0, 1] [] rfl rfl rfl rfl (by decide) rfl 0 rfl rfl rfl (Nat.le_of_ble_eq_true rfl) dX9_space_74 ⟨(Nat.le_of_ble_eq_true rfl), (Nat.le_of_ble_eq_true rfl)⟩ (fun r_194 ut_195 H locs hw_196 hP hD hS => ?_)
      have hP : va_P D vwCl [(md, .inr (9, [.int 0, .ref m_all, .ref m_deeds, .ref m_trial, .int 0, .ref m_hasImage, .ref m_tape, .ref m_key, .ref m_answered, .int 0, .int 0, .int 0, .ref m_goes, .int 0, .ref m_hotOnes, .ref m_indexed, .ref m_isChanged, .int 0, .ref m_valueNow, .int 0, .int (-1), .int 0, .ref m_didSome, .ref m_sizes, .ref m_ends])), (m_all, aI cs 51207 f_m_all)] H := hP
      have hD : va_D A [(md, .inr (9, [.int 0, .ref m_all, .ref m_deeds, .ref m_trial, .int 0, .ref m_hasImage, .ref m_tape, .ref m_key, .ref m_answered, .int 0, .int 0, .int 0, .ref m_goes, .int 0, .ref m_hotOnes, .ref m_indexed, .ref m_isChanged, .int 0, .ref m_valueNow, .int 0, .int (-1), .int 0, .ref m_didSome, .ref m_sizes, .ref m_ends])), (m_all, aI cs 51207 f_m_all)] := hD
      have er_197 := hw_196
      subst er_197
      refine lv_aload_n hx hb dX9_space_77 rfl (lv_at hl 2 rfl) ?_
      refine lv_iload_n hx hb dX9_space_78 rfl (lv_at hl 0 rfl) ?_
      refine kV_i (ci := 9) (As := [.int 7]) (rest := [.int 0, .int 0]) (wc := [(md, .inr (9, [.int 0, .ref m_all, .ref m_deeds, .ref m_trial, .int 0, .ref m_hasImage, .ref m_tape, .ref m_key, .ref m_answered, .int 0, .int 0, .int 0, .ref m_goes, .int 0, .ref m_hotOnes, .ref m_indexed, .ref m_isChanged, .int 0, .ref m_valueNow, .int 0, .int (-1), .int 0, .ref m_didSome, .ref m_sizes, .ref m_ends])), (m_all, aI cs 51207 f_m_all)]) (wr := []) hx hb hml hown hu hK hP hD hS hA hl.1 (c_X9_liveOn l D cs H.size 7 md m_all f_m_all m_deeds m_trial m_hasImage m_tape m_key m_answered m_goes m_hotOnes m_indexed m_isChanged m_valueNow m_didSome m_sizes m_ends 0 0 0 z_all) (gV u_1482 u_1484 u_60 u_76 u_1485) hd_X9_liveOn ⟨(Nat.le_of_ble_eq_true rfl), (Nat.le_of_ble_eq_true rfl)⟩ [0, 1] [] rfl rfl rfl rfl (by decide) rfl 0 rfl rfl rfl (Nat.le_of_ble_eq_true rfl) dX9_space_79 ⟨(Nat.le_of_ble_eq_true rfl), (Nat.le_of_ble_eq_true rfl)⟩ (fun r_198 ut_199 H locs hw_200 hP hD hS => ?_)
      have hP : va_P D vwCl [(md, .inr (9, [.int 0, .ref m_all, .ref m_deeds, .ref m_trial, .int 0, .ref m_hasImage, .ref m_tape, .ref m_key, .ref m_answered, .int 0, .int 0, .int 0, .ref m_goes, .int 0, .ref m_hotOnes, .ref m_indexed, .ref m_isChanged, .int 0, .ref m_valueNow, .int 0, .int (-1), .int 0, .ref m_didSome, .ref m_sizes, .ref m_ends])), (m_all, aI cs 51207 f_m_all)] H := hP
      have hD : va_D A [(md, .inr (9, [.int 0, .ref m_all, .ref m_deeds, .ref m_trial, .int 0, .ref m_hasImage, .ref m_tape, .ref m_key, .ref m_answered, .int 0, .int 0, .int 0, .ref m_goes, .int 0, .ref m_hotOnes, .ref m_indexed, .ref m_isChanged, .int 0, .ref m_valueNow, .int 0, .int (-1), .int 0, .ref m_didSome, .ref m_sizes, .ref m_ends])), (m_all, aI cs 51207 f_m_all)] := hD
      have er_201 := hw_200
      subst er_201
      refine lv_isub hx hb dX9_space_82 ?_
      refine tpi (y := 0) (by decide) ?_
      refine lv_iadd hx hb dX9_space_83 ?_
      refine tpi (y := 0) (by decide) ?_
      refine lv_istore_n (lv' := [(2, .int 0), (3, .int 7), (0, .ref md), (1, .int 1)]) hx hb dX9_space_84 rfl hl (by decide) rfl (fun ls hl => ?_)
      refine lv_goto (tgt := 146) hx hb dX9_space_85 (by decide) ?_
      refine lv_iinc (v := 8) (lv' := [(3, .int 8), (2, .int 0), (0, .ref md), (1, .int 1)]) hx hb dX9_space_146 hl (k := 1) rfl (by decide) (by decide) rfl (fun ls hl => ?_)
      refine lv_goto (tgt := 24) hx hb dX9_space_149 (by decide) ?_
      refine lv_iload_n hx hb dX9_space_24 rfl (lv_at hl 0 rfl) ?_
      refine lv_bipush (v := 24) hx hb dX9_space_25 (by decide) ?_
      refine lv_icmp_ge (tgt := 152) hx hb dX9_space_27 (by decide) (fun c_202 => absurd c_202 (by decide)) (fun c_202 => ?_)
      refine lv_iload_n hx hb dX9_space_30 rfl (lv_at hl 3 rfl) ?_
      refine lv_tableIn (tgt := 71) hx hb dX9_space_31 (by decide) (by decide) (off := 40) (by decide) (by decide) ?_
      refine lv_iload_n hx hb dX9_space_71 rfl (lv_at hl 1 rfl) ?_
      refine lv_aload_n hx hb dX9_space_72 rfl (lv_at hl 2 rfl) ?_
      refine lv_iload_n hx hb dX9_space_73 rfl (lv_at hl 0 rfl) ?_
      refine kV_i (ci := 9) (As := [.int 8]) (rest := [.int 0]) (wc := [(md, .inr (9, [.int 0, .ref m_all, .ref m_deeds, .ref m_trial, .int 0, .ref m_hasImage, .ref m_tape, .ref m_key, .ref m_answered, .int 0, .int 0, .int 0, .ref m_goes, .int 0, .ref m_hotOnes, .ref m_indexed, .ref m_isChanged, .int 0, .ref m_valueNow, .int 0, .int (-1), .int 0, .ref m_didSome, .ref m_sizes, .ref m_ends])), (m_all, aI cs 51207 f_m_all)]) (wr := []) hx hb hml hown hu hK hP hD hS hA hl.1 (c_X9_stayingOn l D cs H.size 8 md m_all f_m_all m_deeds m_trial m_hasImage m_tape m_key m_answered m_goes m_hotOnes m_indexed m_isChanged m_valueNow m_didSome m_sizes m_ends 0 0 0 z_all) (gV u_1204 u_1206 u_17 u_76 u_1207) hd_X9_stayingOn ⟨(Nat.le_of_ble_eq_true rfl), (Nat.le_of_ble_eq_true rfl)⟩ [0, 1] [] rfl rfl rfl rfl (by decide) rfl 0 rfl rfl rfl (Nat.le_of_ble_eq_true rfl) dX9_space_74 ⟨(Nat.le_of_ble_eq_true rfl), (Nat.le_of_ble_eq_true rfl)⟩ (fun r_203 ut_204 H locs hw_205 hP hD hS => ?_)
      have hP : va_P D vwCl [(md, .inr (9, [.int 0, .ref m_all, .ref m_deeds, .ref m_trial, .int 0, .ref m_hasImage, .ref m_tape, .ref m_key, .ref m_answered, .int 0, .int 0, .int 0, .ref m_goes, .int 0, .ref m_hotOnes, .ref m_indexed, .ref m_isChanged, .int 0, .ref m_valueNow, .int 0, .int (-1), .int 0, .ref m_didSome, .ref m_sizes, .ref m_ends])), (m_all, aI cs 51207 f_m_all)] H := hP
      have hD : va_D A [(md, .inr (9, [.int 0, .ref m_all, .ref m_deeds, .ref m_trial, .int 0, .ref m_hasImage, .ref m_tape, .ref m_key, .ref m_answered, .int 0, .int 0, .int 0, .ref m_goes, .int 0, .ref m_hotOnes, .ref m_indexed, .ref m_isChanged, .int 0, .ref m_valueNow, .int 0, .int (-1), .int 0, .ref m_didSome, .ref m_sizes, .ref m_ends])), (m_all, aI cs 51207 f_m_all)] := hD
      have er_206 := hw_205
      subst er_206
      refine lv_aload_n hx hb dX9_space_77 rfl (lv_at hl 2 rfl) ?_
      refine lv_iload_n hx hb dX9_space_78 rfl (lv_at hl 0 rfl) ?_
      refine kV_i (ci := 9) (As := [.int 8]) (rest := [.int 0, .int 0]) (wc := [(md, .inr (9, [.int 0, .ref m_all, .ref m_deeds, .ref m_trial, .int 0, .ref m_hasImage, .ref m_tape, .ref m_key, .ref m_answered, .int 0, .int 0, .int 0, .ref m_goes, .int 0, .ref m_hotOnes, .ref m_indexed, .ref m_isChanged, .int 0, .ref m_valueNow, .int 0, .int (-1), .int 0, .ref m_didSome, .ref m_sizes, .ref m_ends])), (m_all, aI cs 51207 f_m_all)]) (wr := []) hx hb hml hown hu hK hP hD hS hA hl.1 (c_X9_liveOn l D cs H.size 8 md m_all f_m_all m_deeds m_trial m_hasImage m_tape m_key m_answered m_goes m_hotOnes m_indexed m_isChanged m_valueNow m_didSome m_sizes m_ends 0 0 0 z_all) (gV u_1482 u_1484 u_60 u_76 u_1485) hd_X9_liveOn ⟨(Nat.le_of_ble_eq_true rfl), (Nat.le_of_ble_eq_true rfl)⟩ [0, 1] [] rfl rfl rfl rfl (by decide) rfl 0 rfl rfl rfl (Nat.le_of_ble_eq_true rfl) dX9_space_79 ⟨(Nat.le_of_ble_eq_true rfl), (Nat.le_of_ble_eq_true rfl)⟩ (fun r_207 ut_208 H locs hw_209 hP hD hS => ?_)
      have hP : va_P D vwCl [(md, .inr (9, [.int 0, .ref m_all, .ref m_deeds, .ref m_trial, .int 0, .ref m_hasImage, .ref m_tape, .ref m_key, .ref m_answered, .int 0, .int 0, .int 0, .ref m_goes, .int 0, .ref m_hotOnes, .ref m_indexed, .ref m_isChanged, .int 0, .ref m_valueNow, .int 0, .int (-1), .int 0, .ref m_didSome, .ref m_sizes, .ref m_ends])), (m_all, aI cs 51207 f_m_all)] H := hP
      have hD : va_D A [(md, .inr (9, [.int 0, .ref m_all, .ref m_deeds, .ref m_trial, .int 0, .ref m_hasImage, .ref m_tape, .ref m_key, .ref m_answered, .int 0, .int 0, .int 0, .ref m_goes, .int 0, .ref m_hotOnes, .ref m_indexed, .ref m_isChanged, .int 0, .ref m_valueNow, .int 0, .int (-1), .int 0, .ref m_didSome, .ref m_sizes, .ref m_ends])), (m_all, aI cs 51207 f_m_all)] := hD
      have er_210 := hw_209
      subst er_210
      refine lv_isub hx hb dX9_space_82 ?_
      refine tpi (y := 0) (by decide) ?_
      refine lv_iadd hx hb dX9_space_83 ?_
      refine tpi (y := 0) (by decide) ?_
      refine lv_istore_n (lv' := [(2, .int 0), (3, .int 8), (0, .ref md), (1, .int 1)]) hx hb dX9_space_84 rfl hl (by decide) rfl (fun ls hl => ?_)
      refine lv_goto (tgt := 146) hx hb dX9_space_85 (by decide) ?_
      refine lv_iinc (v := 9) (lv' := [(3, .int 9), (2, .int 0), (0, .ref md), (1, .int 1)]) hx hb dX9_space_146 hl (k := 1) rfl (by decide) (by decide) rfl (fun ls hl => ?_)
      refine lv_goto (tgt := 24) hx hb dX9_space_149 (by decide) ?_
      refine lv_iload_n hx hb dX9_space_24 rfl (lv_at hl 0 rfl) ?_
      refine lv_bipush (v := 24) hx hb dX9_space_25 (by decide) ?_
      refine lv_icmp_ge (tgt := 152) hx hb dX9_space_27 (by decide) (fun c_211 => absurd c_211 (by decide)) (fun c_211 => ?_)
      refine lv_iload_n hx hb dX9_space_30 rfl (lv_at hl 3 rfl) ?_
      refine lv_tableIn (tgt := 71) hx hb dX9_space_31 (by decide) (by decide) (off := 40) (by decide) (by decide) ?_
      refine lv_iload_n hx hb dX9_space_71 rfl (lv_at hl 1 rfl) ?_
      refine lv_aload_n hx hb dX9_space_72 rfl (lv_at hl 2 rfl) ?_
      refine lv_iload_n hx hb dX9_space_73 rfl (lv_at hl 0 rfl) ?_
      refine kV_i (ci := 9) (As := [.int 9]) (rest := [.int 0]) (wc := [(md, .inr (9, [.int 0, .ref m_all, .ref m_deeds, .ref m_trial, .int 0, .ref m_hasImage, .ref m_tape, .ref m_key, .ref m_answered, .int 0, .int 0, .int 0, .ref m_goes, .int 0, .ref m_hotOnes, .ref m_indexed, .ref m_isChanged, .int 0, .ref m_valueNow, .int 0, .int (-1), .int 0, .ref m_didSome, .ref m_sizes, .ref m_ends])), (m_all, aI cs 51207 f_m_all)]) (wr := []) hx hb hml hown hu hK hP hD hS hA hl.1 (c_X9_stayingOn l D cs H.size 9 md m_all f_m_all m_deeds m_trial m_hasImage m_tape m_key m_answered m_goes m_hotOnes m_indexed m_isChanged m_valueNow m_didSome m_sizes m_ends 0 0 0 z_all) (gV u_1204 u_1206 u_17 u_76 u_1207) hd_X9_stayingOn ⟨(Nat.le_of_ble_eq_true rfl), (Nat.le_of_ble_eq_true rfl)⟩ [0, 1] [] rfl rfl rfl rfl (by decide) rfl 0 rfl rfl rfl (Nat.le_of_ble_eq_true rfl) dX9_space_74 ⟨(Nat.le_of_ble_eq_true rfl), (Nat.le_of_ble_eq_true rfl)⟩ (fun r_212 ut_213 H locs hw_214 hP hD hS => ?_)
      have hP : va_P D vwCl [(md, .inr (9, [.int 0, .ref m_all, .ref m_deeds, .ref m_trial, .int 0, .ref m_hasImage, .ref m_tape, .ref m_key, .ref m_answered, .int 0, .int 0, .int 0, .ref m_goes, .int 0, .ref m_hotOnes, .ref m_indexed, .ref m_isChanged, .int 0, .ref m_valueNow, .int 0, .int (-1), .int 0, .ref m_didSome, .ref m_sizes, .ref m_ends])), (m_all, aI cs 51207 f_m_all)] H := hP
      have hD : va_D A [(md, .inr (9, [.int 0, .ref m_all, .ref m_deeds, .ref m_trial, .int 0, .ref m_hasImage, .ref m_tape, .ref m_key, .ref m_answered, .int 0, .int 0, .int 0, .ref m_goes, .int 0, .ref m_hotOnes, .ref m_indexed, .ref m_isChanged, .int 0, .ref m_valueNow, .int 0, .int (-1), .int 0, .ref m_didSome, .ref m_sizes, .ref m_ends])), (m_all, aI cs 51207 f_m_all)] := hD
      have er_215 := hw_214
      subst er_215
      refine lv_aload_n hx hb dX9_space_77 rfl (lv_at hl 2 rfl) ?_
      refine lv_iload_n hx hb dX9_space_78 rfl (lv_at hl 0 rfl) ?_
      refine kV_i (ci := 9) (As := [.int 9]) (rest := [.int 0, .int 0]) (wc := [(md, .inr (9, [.int 0, .ref m_all, .ref m_deeds, .ref m_trial, .int 0, .ref m_hasImage, .ref m_tape, .ref m_key, .ref m_answered, .int 0, .int 0, .int 0, .ref m_goes, .int 0, .ref m_hotOnes, .ref m_indexed, .ref m_isChanged, .int 0, .ref m_valueNow, .int 0, .int (-1), .int 0, .ref m_didSome, .ref m_sizes, .ref m_ends])), (m_all, aI cs 51207 f_m_all)]) (wr := []) hx hb hml hown hu hK hP hD hS hA hl.1 (c_X9_liveOn l D cs H.size 9 md m_all f_m_all m_deeds m_trial m_hasImage m_tape m_key m_answered m_goes m_hotOnes m_indexed m_isChanged m_valueNow m_didSome m_sizes m_ends 0 0 0 z_all) (gV u_1482 u_1484 u_60 u_76 u_1485) hd_X9_liveOn ⟨(Nat.le_of_ble_eq_true rfl), (Nat.le_of_ble_eq_true rfl)⟩ [0, 1] [] rfl rfl rfl rfl (by decide) rfl 0 rfl rfl rfl (Nat.le_of_ble_eq_true rfl) dX9_space_79 ⟨(Nat.le_of_ble_eq_true rfl), (Nat.le_of_ble_eq_true rfl)⟩ (fun r_216 ut_217 H locs hw_218 hP hD hS => ?_)
      have hP : va_P D vwCl [(md, .inr (9, [.int 0, .ref m_all, .ref m_deeds, .ref m_trial, .int 0, .ref m_hasImage, .ref m_tape, .ref m_key, .ref m_answered, .int 0, .int 0, .int 0, .ref m_goes, .int 0, .ref m_hotOnes, .ref m_indexed, .ref m_isChanged, .int 0, .ref m_valueNow, .int 0, .int (-1), .int 0, .ref m_didSome, .ref m_sizes, .ref m_ends])), (m_all, aI cs 51207 f_m_all)] H := hP
      have hD : va_D A [(md, .inr (9, [.int 0, .ref m_all, .ref m_deeds, .ref m_trial, .int 0, .ref m_hasImage, .ref m_tape, .ref m_key, .ref m_answered, .int 0, .int 0, .int 0, .ref m_goes, .int 0, .ref m_hotOnes, .ref m_indexed, .ref m_isChanged, .int 0, .ref m_valueNow, .int 0, .int (-1), .int 0, .ref m_didSome, .ref m_sizes, .ref m_ends])), (m_all, aI cs 51207 f_m_all)] := hD
      have er_219 := hw_218
      subst er_219
      refine lv_isub hx hb dX9_space_82 ?_
      refine tpi (y := 0) (by decide) ?_
      refine lv_iadd hx hb dX9_space_83 ?_
      refine tpi (y := 0) (by decide) ?_
      refine lv_istore_n (lv' := [(2, .int 0), (3, .int 9), (0, .ref md), (1, .int 1)]) hx hb dX9_space_84 rfl hl (by decide) rfl (fun ls hl => ?_)
      refine lv_goto (tgt := 146) hx hb dX9_space_85 (by decide) ?_
      refine lv_iinc (v := 10) (lv' := [(3, .int 10), (2, .int 0), (0, .ref md), (1, .int 1)]) hx hb dX9_space_146 hl (k := 1) rfl (by decide) (by decide) rfl (fun ls hl => ?_)
      refine lv_goto (tgt := 24) hx hb dX9_space_149 (by decide) ?_
      refine lv_iload_n hx hb dX9_space_24 rfl (lv_at hl 0 rfl) ?_
      refine lv_bipush (v := 24) hx hb dX9_space_25 (by decide) ?_
      refine lv_icmp_ge (tgt := 152) hx hb dX9_space_27 (by decide) (fun c_220 => absurd c_220 (by decide)) (fun c_220 => ?_)
      refine lv_iload_n hx hb dX9_space_30 rfl (lv_at hl 3 rfl) ?_
      refine lv_tableIn (tgt := 71) hx hb dX9_space_31 (by decide) (by decide) (off := 40) (by decide) (by decide) ?_
      refine lv_iload_n hx hb dX9_space_71 rfl (lv_at hl 1 rfl) ?_
      refine lv_aload_n hx hb dX9_space_72 rfl (lv_at hl 2 rfl) ?_
      refine lv_iload_n hx hb dX9_space_73 rfl (lv_at hl 0 rfl) ?_
      refine kV_i (ci := 9) (As := [.int 10]) (rest := [.int 0]) (wc := [(md, .inr (9, [.int 0, .ref m_all, .ref m_deeds, .ref m_trial, .int 0, .ref m_hasImage, .ref m_tape, .ref m_key, .ref m_answered, .int 0, .int 0, .int 0, .ref m_goes, .int 0, .ref m_hotOnes, .ref m_indexed, .ref m_isChanged, .int 0, .ref m_valueNow, .int 0, .int (-1), .int 0, .ref m_didSome, .ref m_sizes, .ref m_ends])), (m_all, aI cs 51207 f_m_all)]) (wr := []) hx hb hml hown hu hK hP hD hS hA hl.1 (c_X9_stayingOn l D cs H.size 10 md m_all f_m_all m_deeds m_trial m_hasImage m_tape m_key m_answered m_goes m_hotOnes m_indexed m_isChanged m_valueNow m_didSome m_sizes m_ends 0 0 0 z_all) (gV u_1204 u_1206 u_17 u_76 u_1207) hd_X9_stayingOn ⟨(Nat.le_of_ble_eq_true rfl), (Nat.le_of_ble_eq_true rfl)⟩ [0, 1] [] rfl rfl rfl rfl (by decide) rfl 0 rfl rfl rfl (Nat.le_of_ble_eq_true rfl) dX9_space_74 ⟨(Nat.le_of_ble_eq_true rfl), (Nat.le_of_ble_eq_true rfl)⟩ (fun r_221 ut_222 H locs hw_223 hP hD hS => ?_)
      have hP : va_P D vwCl [(md, .inr (9, [.int 0, .ref m_all, .ref m_deeds, .ref m_trial, .int 0, .ref m_hasImage, .ref m_tape, .ref m_key, .ref m_answered, .int 0, .int 0, .int 0, .ref m_goes, .int 0, .ref m_hotOnes, .ref m_indexed, .ref m_isChanged, .int 0, .ref m_valueNow, .int 0, .int (-1), .int 0, .ref m_didSome, .ref m_sizes, .ref m_ends])), (m_all, aI cs 51207 f_m_all)] H := hP
      have hD : va_D A [(md, .inr (9, [.int 0, .ref m_all, .ref m_deeds, .ref m_trial, .int 0, .ref m_hasImage, .ref m_tape, .ref m_key, .ref m_answered, .int 0, .int 0, .int 0, .ref m_goes, .int 0, .ref m_hotOnes, .ref m_indexed, .ref m_isChanged, .int 0, .ref m_valueNow, .int 0, .int (-1), .int 0, .ref m_didSome, .ref m_sizes, .ref m_ends])), (m_all, aI cs 51207 f_m_all)] := hD
      have er_224 := hw_223
      subst er_224
      refine lv_aload_n hx hb dX9_space_77 rfl (lv_at hl 2 rfl) ?_
      refine lv_iload_n hx hb dX9_space_78 rfl (lv_at hl 0 rfl) ?_
      refine kV_i (ci := 9) (As := [.int 10]) (rest := [.int 0, .int 0]) (wc := [(md, .inr (9, [.int 0, .ref m_all, .ref m_deeds, .ref m_trial, .int 0, .ref m_hasImage, .ref m_tape, .ref m_key, .ref m_answered, .int 0, .int 0, .int 0, .ref m_goes, .int 0, .ref m_hotOnes, .ref m_indexed, .ref m_isChanged, .int 0, .ref m_valueNow, .int 0, .int (-1), .int 0, .ref m_didSome, .ref m_sizes, .ref m_ends])), (m_all, aI cs 51207 f_m_all)]) (wr := []) hx hb hml hown hu hK hP hD hS hA hl.1 (c_X9_liveOn l D cs H.size 10 md m_all f_m_all m_deeds m_trial m_hasImage m_tape m_key m_answered m_goes m_hotOnes m_indexed m_isChanged m_valueNow m_didSome m_sizes m_ends 0 0 0 z_all) (gV u_1482 u_1484 u_60 u_76 u_1485) hd_X9_liveOn ⟨(Nat.le_of_ble_eq_true rfl), (Nat.le_of_ble_eq_true rfl)⟩ [0, 1] [] rfl rfl rfl rfl (by decide) rfl 0 rfl rfl rfl (Nat.le_of_ble_eq_true rfl) dX9_space_79 ⟨(Nat.le_of_ble_eq_true rfl), (Nat.le_of_ble_eq_true rfl)⟩ (fun r_225 ut_226 H locs hw_227 hP hD hS => ?_)
      have hP : va_P D vwCl [(md, .inr (9, [.int 0, .ref m_all, .ref m_deeds, .ref m_trial, .int 0, .ref m_hasImage, .ref m_tape, .ref m_key, .ref m_answered, .int 0, .int 0, .int 0, .ref m_goes, .int 0, .ref m_hotOnes, .ref m_indexed, .ref m_isChanged, .int 0, .ref m_valueNow, .int 0, .int (-1), .int 0, .ref m_didSome, .ref m_sizes, .ref m_ends])), (m_all, aI cs 51207 f_m_all)] H := hP
      have hD : va_D A [(md, .inr (9, [.int 0, .ref m_all, .ref m_deeds, .ref m_trial, .int 0, .ref m_hasImage, .ref m_tape, .ref m_key, .ref m_answered, .int 0, .int 0, .int 0, .ref m_goes, .int 0, .ref m_hotOnes, .ref m_indexed, .ref m_isChanged, .int 0, .ref m_valueNow, .int 0, .int (-1), .int 0, .ref m_didSome, .ref m_sizes, .ref m_ends])), (m_all, aI cs 51207 f_m_all)] := hD
      have er_228 := hw_227
      subst er_228
      refine lv_isub hx hb dX9_space_82 ?_
      refine tpi (y := 0) (by decide) ?_
      refine lv_iadd hx hb dX9_space_83 ?_
      refine tpi (y := 0) (by decide) ?_
      refine lv_istore_n (lv' := [(2, .int 0), (3, .int 10), (0, .ref md), (1, .int 1)]) hx hb dX9_space_84 rfl hl (by decide) rfl (fun ls hl => ?_)
      refine lv_goto (tgt := 146) hx hb dX9_space_85 (by decide) ?_
      refine lv_iinc (v := 11) (lv' := [(3, .int 11), (2, .int 0), (0, .ref md), (1, .int 1)]) hx hb dX9_space_146 hl (k := 1) rfl (by decide) (by decide) rfl (fun ls hl => ?_)
      refine lv_goto (tgt := 24) hx hb dX9_space_149 (by decide) ?_
      refine lv_iload_n hx hb dX9_space_24 rfl (lv_at hl 0 rfl) ?_
      refine lv_bipush (v := 24) hx hb dX9_space_25 (by decide) ?_
      refine lv_icmp_ge (tgt := 152) hx hb dX9_space_27 (by decide) (fun c_229 => absurd c_229 (by decide)) (fun c_229 => ?_)
      refine lv_iload_n hx hb dX9_space_30 rfl (lv_at hl 3 rfl) ?_
      refine lv_tableIn (tgt := 71) hx hb dX9_space_31 (by decide) (by decide) (off := 40) (by decide) (by decide) ?_
      refine lv_iload_n hx hb dX9_space_71 rfl (lv_at hl 1 rfl) ?_
      refine lv_aload_n hx hb dX9_space_72 rfl (lv_at hl 2 rfl) ?_
      refine lv_iload_n hx hb dX9_space_73 rfl (lv_at hl 0 rfl) ?_
      refine kV_i (ci := 9) (As := [.int 11]) (rest := [.int 0]) (wc := [(md, .inr (9, [.int 0, .ref m_all, .ref m_deeds, .ref m_trial, .int 0, .ref m_hasImage, .ref m_tape, .ref m_key, .ref m_answered, .int 0, .int 0, .int 0, .ref m_goes, .int 0, .ref m_hotOnes, .ref m_indexed, .ref m_isChanged, .int 0, .ref m_valueNow, .int 0, .int (-1), .int 0, .ref m_didSome, .ref m_sizes, .ref m_ends])), (m_all, aI cs 51207 f_m_all)]) (wr := []) hx hb hml hown hu hK hP hD hS hA hl.1 (c_X9_stayingOn l D cs H.size 11 md m_all f_m_all m_deeds m_trial m_hasImage m_tape m_key m_answered m_goes m_hotOnes m_indexed m_isChanged m_valueNow m_didSome m_sizes m_ends 0 0 0 z_all) (gV u_1204 u_1206 u_17 u_76 u_1207) hd_X9_stayingOn ⟨(Nat.le_of_ble_eq_true rfl), (Nat.le_of_ble_eq_true rfl)⟩ [0, 1] [] rfl rfl rfl rfl (by decide) rfl 0 rfl rfl rfl (Nat.le_of_ble_eq_true rfl) dX9_space_74 ⟨(Nat.le_of_ble_eq_true rfl), (Nat.le_of_ble_eq_true rfl)⟩ (fun r_230 ut_231 H locs hw_232 hP hD hS => ?_)
      have hP : va_P D vwCl [(md, .inr (9, [.int 0, .ref m_all, .ref m_deeds, .ref m_trial, .int 0, .ref m_hasImage, .ref m_tape, .ref m_key, .ref m_answered, .int 0, .int 0, .int 0, .ref m_goes, .int 0, .ref m_hotOnes, .ref m_indexed, .ref m_isChanged, .int 0, .ref m_valueNow, .int 0, .int (-1), .int 0, .ref m_didSome, .ref m_sizes, .ref m_ends])), (m_all, aI cs 51207 f_m_all)] H := hP
      have hD : va_D A [(md, .inr (9, [.int 0, .ref m_all, .ref m_deeds, .ref m_trial, .int 0, .ref m_hasImage, .ref m_tape, .ref m_key, .ref m_answered, .int 0, .int 0, .int 0, .ref m_goes, .int 0, .ref m_hotOnes, .ref m_indexed, .ref m_isChanged, .int 0, .ref m_valueNow, .int 0, .int (-1), .int 0, .ref m_didSome, .ref m_sizes, .ref m_ends])), (m_all, aI cs 51207 f_m_all)] := hD
      have er_233 := hw_232
      subst er_233
      refine lv_aload_n hx hb dX9_space_77 rfl (lv_at hl 2 rfl) ?_
      refine lv_iload_n hx hb dX9_space_78 rfl (lv_at hl 0 rfl) ?_
      refine kV_i (ci := 9) (As := [.int 11]) (rest := [.int 0, .int 0]) (wc := [(md, .inr (9, [.int 0, .ref m_all, .ref m_deeds, .ref m_trial, .int 0, .ref m_hasImage, .ref m_tape, .ref m_key, .ref m_answered, .int 0, .int 0, .int 0, .ref m_goes, .int 0, .ref m_hotOnes, .ref m_indexed, .ref m_isChanged, .int 0, .ref m_valueNow, .int 0, .int (-1), .int 0, .ref m_didSome, .ref m_sizes, .ref m_ends])), (m_all, aI cs 51207 f_m_all)]) (wr := []) hx hb hml hown hu hK hP hD hS hA hl.1 (c_X9_liveOn l D cs H.size 11 md m_all f_m_all m_deeds m_trial m_hasImage m_tape m_key m_answered m_goes m_hotOnes m_indexed m_isChanged m_valueNow m_didSome m_sizes m_ends 0 0 0 z_all) (gV u_1482 u_1484 u_60 u_76 u_1485) hd_X9_liveOn ⟨(Nat.le_of_ble_eq_true rfl), (Nat.le_of_ble_eq_true rfl)⟩ [0, 1] [] rfl rfl rfl rfl (by decide) rfl 0 rfl rfl rfl (Nat.le_of_ble_eq_true rfl) dX9_space_79 ⟨(Nat.le_of_ble_eq_true rfl), (Nat.le_of_ble_eq_true rfl)⟩ (fun r_234 ut_235 H locs hw_236 hP hD hS => ?_)
      have hP : va_P D vwCl [(md, .inr (9, [.int 0, .ref m_all, .ref m_deeds, .ref m_trial, .int 0, .ref m_hasImage, .ref m_tape, .ref m_key, .ref m_answered, .int 0, .int 0, .int 0, .ref m_goes, .int 0, .ref m_hotOnes, .ref m_indexed, .ref m_isChanged, .int 0, .ref m_valueNow, .int 0, .int (-1), .int 0, .ref m_didSome, .ref m_sizes, .ref m_ends])), (m_all, aI cs 51207 f_m_all)] H := hP
      have hD : va_D A [(md, .inr (9, [.int 0, .ref m_all, .ref m_deeds, .ref m_trial, .int 0, .ref m_hasImage, .ref m_tape, .ref m_key, .ref m_answered, .int 0, .int 0, .int 0, .ref m_goes, .int 0, .ref m_hotOnes, .ref m_indexed, .ref m_isChanged, .int 0, .ref m_valueNow, .int 0, .int (-1), .int 0, .ref m_didSome, .ref m_sizes, .ref m_ends])), (m_all, aI cs 51207 f_m_all)] := hD
      have er_237 := hw_236
      subst er_237
      refine lv_isub hx hb dX9_space_82 ?_
      refine tpi (y := 0) (by decide) ?_
      refine lv_iadd hx hb dX9_space_83 ?_
      refine tpi (y := 0) (by decide) ?_
      refine lv_istore_n (lv' := [(2, .int 0), (3, .int 11), (0, .ref md), (1, .int 1)]) hx hb dX9_space_84 rfl hl (by decide) rfl (fun ls hl => ?_)
      refine lv_goto (tgt := 146) hx hb dX9_space_85 (by decide) ?_
      refine lv_iinc (v := 12) (lv' := [(3, .int 12), (2, .int 0), (0, .ref md), (1, .int 1)]) hx hb dX9_space_146 hl (k := 1) rfl (by decide) (by decide) rfl (fun ls hl => ?_)
      refine lv_goto (tgt := 24) hx hb dX9_space_149 (by decide) ?_
      refine lv_iload_n hx hb dX9_space_24 rfl (lv_at hl 0 rfl) ?_
      refine lv_bipush (v := 24) hx hb dX9_space_25 (by decide) ?_
      refine lv_icmp_ge (tgt := 152) hx hb dX9_space_27 (by decide) (fun c_238 => absurd c_238 (by decide)) (fun c_238 => ?_)
      refine lv_iload_n hx hb dX9_space_30 rfl (lv_at hl 3 rfl) ?_
      refine lv_tableIn (tgt := 71) hx hb dX9_space_31 (by decide) (by decide) (off := 40) (by decide) (by decide) ?_
      refine lv_iload_n hx hb dX9_space_71 rfl (lv_at hl 1 rfl) ?_
      refine lv_aload_n hx hb dX9_space_72 rfl (lv_at hl 2 rfl) ?_
      refine lv_iload_n hx hb dX9_space_73 rfl (lv_at hl 0 rfl) ?_
      refine kV_i (ci := 9) (As := [.int 12]) (rest := [.int 0]) (wc := [(md, .inr (9, [.int 0, .ref m_all, .ref m_deeds, .ref m_trial, .int 0, .ref m_hasImage, .ref m_tape, .ref m_key, .ref m_answered, .int 0, .int 0, .int 0, .ref m_goes, .int 0, .ref m_hotOnes, .ref m_indexed, .ref m_isChanged, .int 0, .ref m_valueNow, .int 0, .int (-1), .int 0, .ref m_didSome, .ref m_sizes, .ref m_ends])), (m_all, aI cs 51207 f_m_all)]) (wr := []) hx hb hml hown hu hK hP hD hS hA hl.1 (c_X9_stayingOn l D cs H.size 12 md m_all f_m_all m_deeds m_trial m_hasImage m_tape m_key m_answered m_goes m_hotOnes m_indexed m_isChanged m_valueNow m_didSome m_sizes m_ends 0 0 0 z_all) (gV u_1204 u_1206 u_17 u_76 u_1207) hd_X9_stayingOn ⟨(Nat.le_of_ble_eq_true rfl), (Nat.le_of_ble_eq_true rfl)⟩ [0, 1] [] rfl rfl rfl rfl (by decide) rfl 0 rfl rfl rfl (Nat.le_of_ble_eq_true rfl) dX9_space_74 ⟨(Nat.le_of_ble_eq_true rfl), (Nat.le_of_ble_eq_true rfl)⟩ (fun r_239 ut_240 H locs hw_241 hP hD hS => ?_)
      have hP : va_P D vwCl [(md, .inr (9, [.int 0, .ref m_all, .ref m_deeds, .ref m_trial, .int 0, .ref m_hasImage, .ref m_tape, .ref m_key, .ref m_answered, .int 0, .int 0, .int 0, .ref m_goes, .int 0, .ref m_hotOnes, .ref m_indexed, .ref m_isChanged, .int 0, .ref m_valueNow, .int 0, .int (-1), .int 0, .ref m_didSome, .ref m_sizes, .ref m_ends])), (m_all, aI cs 51207 f_m_all)] H := hP
      have hD : va_D A [(md, .inr (9, [.int 0, .ref m_all, .ref m_deeds, .ref m_trial, .int 0, .ref m_hasImage, .ref m_tape, .ref m_key, .ref m_answered, .int 0, .int 0, .int 0, .ref m_goes, .int 0, .ref m_hotOnes, .ref m_indexed, .ref m_isChanged, .int 0, .ref m_valueNow, .int 0, .int (-1), .int 0, .ref m_didSome, .ref m_sizes, .ref m_ends])), (m_all, aI cs 51207 f_m_all)] := hD
      have er_242 := hw_241
      subst er_242
      refine lv_aload_n hx hb dX9_space_77 rfl (lv_at hl 2 rfl) ?_
      refine lv_iload_n hx hb dX9_space_78 rfl (lv_at hl 0 rfl) ?_
      refine kV_i (ci := 9) (As := [.int 12]) (rest := [.int 0, .int 0]) (wc := [(md, .inr (9, [.int 0, .ref m_all, .ref m_deeds, .ref m_trial, .int 0, .ref m_hasImage, .ref m_tape, .ref m_key, .ref m_answered, .int 0, .int 0, .int 0, .ref m_goes, .int 0, .ref m_hotOnes, .ref m_indexed, .ref m_isChanged, .int 0, .ref m_valueNow, .int 0, .int (-1), .int 0, .ref m_didSome, .ref m_sizes, .ref m_ends])), (m_all, aI cs 51207 f_m_all)]) (wr := []) hx hb hml hown hu hK hP hD hS hA hl.1 (c_X9_liveOn l D cs H.size 12 md m_all f_m_all m_deeds m_trial m_hasImage m_tape m_key m_answered m_goes m_hotOnes m_indexed m_isChanged m_valueNow m_didSome m_sizes m_ends 0 0 0 z_all) (gV u_1482 u_1484 u_60 u_76 u_1485) hd_X9_liveOn ⟨(Nat.le_of_ble_eq_true rfl), (Nat.le_of_ble_eq_true rfl)⟩ [0, 1] [] rfl rfl rfl rfl (by decide) rfl 0 rfl rfl rfl (Nat.le_of_ble_eq_true rfl) dX9_space_79 ⟨(Nat.le_of_ble_eq_true rfl), (Nat.le_of_ble_eq_true rfl)⟩ (fun r_243 ut_244 H locs hw_245 hP hD hS => ?_)
      have hP : va_P D vwCl [(md, .inr (9, [.int 0, .ref m_all, .ref m_deeds, .ref m_trial, .int 0, .ref m_hasImage, .ref m_tape, .ref m_key, .ref m_answered, .int 0, .int 0, .int 0, .ref m_goes, .int 0, .ref m_hotOnes, .ref m_indexed, .ref m_isChanged, .int 0, .ref m_valueNow, .int 0, .int (-1), .int 0, .ref m_didSome, .ref m_sizes, .ref m_ends])), (m_all, aI cs 51207 f_m_all)] H := hP
      have hD : va_D A [(md, .inr (9, [.int 0, .ref m_all, .ref m_deeds, .ref m_trial, .int 0, .ref m_hasImage, .ref m_tape, .ref m_key, .ref m_answered, .int 0, .int 0, .int 0, .ref m_goes, .int 0, .ref m_hotOnes, .ref m_indexed, .ref m_isChanged, .int 0, .ref m_valueNow, .int 0, .int (-1), .int 0, .ref m_didSome, .ref m_sizes, .ref m_ends])), (m_all, aI cs 51207 f_m_all)] := hD
      have er_246 := hw_245
      subst er_246
      refine lv_isub hx hb dX9_space_82 ?_
      refine tpi (y := 0) (by decide) ?_
      refine lv_iadd hx hb dX9_space_83 ?_
      refine tpi (y := 0) (by decide) ?_
      refine lv_istore_n (lv' := [(2, .int 0), (3, .int 12), (0, .ref md), (1, .int 1)]) hx hb dX9_space_84 rfl hl (by decide) rfl (fun ls hl => ?_)
      refine lv_goto (tgt := 146) hx hb dX9_space_85 (by decide) ?_
      refine lv_iinc (v := 13) (lv' := [(3, .int 13), (2, .int 0), (0, .ref md), (1, .int 1)]) hx hb dX9_space_146 hl (k := 1) rfl (by decide) (by decide) rfl (fun ls hl => ?_)
      refine lv_goto (tgt := 24) hx hb dX9_space_149 (by decide) ?_
      refine lv_iload_n hx hb dX9_space_24 rfl (lv_at hl 0 rfl) ?_
      refine lv_bipush (v := 24) hx hb dX9_space_25 (by decide) ?_
      refine lv_icmp_ge (tgt := 152) hx hb dX9_space_27 (by decide) (fun c_247 => absurd c_247 (by decide)) (fun c_247 => ?_)
      refine lv_iload_n hx hb dX9_space_30 rfl (lv_at hl 3 rfl) ?_
      refine lv_tableIn (tgt := 71) hx hb dX9_space_31 (by decide) (by decide) (off := 40) (by decide) (by decide) ?_
      refine lv_iload_n hx hb dX9_space_71 rfl (lv_at hl 1 rfl) ?_
      refine lv_aload_n hx hb dX9_space_72 rfl (lv_at hl 2 rfl) ?_
      refine lv_iload_n hx hb dX9_space_73 rfl (lv_at hl 0 rfl) ?_
      refine kV_i (ci := 9) (As := [.int 13]) (rest := [.int 0]) (wc := [(md, .inr (9, [.int 0, .ref m_all, .ref m_deeds, .ref m_trial, .int 0, .ref m_hasImage, .ref m_tape, .ref m_key, .ref m_answered, .int 0, .int 0, .int 0, .ref m_goes, .int 0, .ref m_hotOnes, .ref m_indexed, .ref m_isChanged, .int 0, .ref m_valueNow, .int 0, .int (-1), .int 0, .ref m_didSome, .ref m_sizes, .ref m_ends])), (m_all, aI cs 51207 f_m_all)]) (wr := []) hx hb hml hown hu hK hP hD hS hA hl.1 (c_X9_stayingOn l D cs H.size 13 md m_all f_m_all m_deeds m_trial m_hasImage m_tape m_key m_answered m_goes m_hotOnes m_indexed m_isChanged m_valueNow m_didSome m_sizes m_ends 0 0 0 z_all) (gV u_1204 u_1206 u_17 u_76 u_1207) hd_X9_stayingOn ⟨(Nat.le_of_ble_eq_true rfl), (Nat.le_of_ble_eq_true rfl)⟩ [0, 1] [] rfl rfl rfl rfl (by decide) rfl 0 rfl rfl rfl (Nat.le_of_ble_eq_true rfl) dX9_space_74 ⟨(Nat.le_of_ble_eq_true rfl), (Nat.le_of_ble_eq_true rfl)⟩ (fun r_248 ut_249 H locs hw_250 hP hD hS => ?_)
      have hP : va_P D vwCl [(md, .inr (9, [.int 0, .ref m_all, .ref m_deeds, .ref m_trial, .int 0, .ref m_hasImage, .ref m_tape, .ref m_key, .ref m_answered, .int 0, .int 0, .int 0, .ref m_goes, .int 0, .ref m_hotOnes, .ref m_indexed, .ref m_isChanged, .int 0, .ref m_valueNow, .int 0, .int (-1), .int 0, .ref m_didSome, .ref m_sizes, .ref m_ends])), (m_all, aI cs 51207 f_m_all)] H := hP
      have hD : va_D A [(md, .inr (9, [.int 0, .ref m_all, .ref m_deeds, .ref m_trial, .int 0, .ref m_hasImage, .ref m_tape, .ref m_key, .ref m_answered, .int 0, .int 0, .int 0, .ref m_goes, .int 0, .ref m_hotOnes, .ref m_indexed, .ref m_isChanged, .int 0, .ref m_valueNow, .int 0, .int (-1), .int 0, .ref m_didSome, .ref m_sizes, .ref m_ends])), (m_all, aI cs 51207 f_m_all)] := hD
      have er_251 := hw_250
      subst er_251
      refine lv_aload_n hx hb dX9_space_77 rfl (lv_at hl 2 rfl) ?_
      refine lv_iload_n hx hb dX9_space_78 rfl (lv_at hl 0 rfl) ?_
      refine kV_i (ci := 9) (As := [.int 13]) (rest := [.int 0, .int 0]) (wc := [(md, .inr (9, [.int 0, .ref m_all, .ref m_deeds, .ref m_trial, .int 0, .ref m_hasImage, .ref m_tape, .ref m_key, .ref m_answered, .int 0, .int 0, .int 0, .ref m_goes, .int 0, .ref m_hotOnes, .ref m_indexed, .ref m_isChanged, .int 0, .ref m_valueNow, .int 0, .int (-1), .int 0, .ref m_didSome, .ref m_sizes, .ref m_ends])), (m_all, aI cs 51207 f_m_all)]) (wr := []) hx hb hml hown hu hK hP hD hS hA hl.1 (c_X9_liveOn l D cs H.size 13 md m_all f_m_all m_deeds m_trial m_hasImage m_tape m_key m_answered m_goes m_hotOnes m_indexed m_isChanged m_valueNow m_didSome m_sizes m_ends 0 0 0 z_all) (gV u_1482 u_1484 u_60 u_76 u_1485) hd_X9_liveOn ⟨(Nat.le_of_ble_eq_true rfl), (Nat.le_of_ble_eq_true rfl)⟩ [0, 1] [] rfl rfl rfl rfl (by decide) rfl 0 rfl rfl rfl (Nat.le_of_ble_eq_true rfl) dX9_space_79 ⟨(Nat.le_of_ble_eq_true rfl), (Nat.le_of_ble_eq_true rfl)⟩ (fun r_252 ut_253 H locs hw_254 hP hD hS => ?_)
      have hP : va_P D vwCl [(md, .inr (9, [.int 0, .ref m_all, .ref m_deeds, .ref m_trial, .int 0, .ref m_hasImage, .ref m_tape, .ref m_key, .ref m_answered, .int 0, .int 0, .int 0, .ref m_goes, .int 0, .ref m_hotOnes, .ref m_indexed, .ref m_isChanged, .int 0, .ref m_valueNow, .int 0, .int (-1), .int 0, .ref m_didSome, .ref m_sizes, .ref m_ends])), (m_all, aI cs 51207 f_m_all)] H := hP
      have hD : va_D A [(md, .inr (9, [.int 0, .ref m_all, .ref m_deeds, .ref m_trial, .int 0, .ref m_hasImage, .ref m_tape, .ref m_key, .ref m_answered, .int 0, .int 0, .int 0, .ref m_goes, .int 0, .ref m_hotOnes, .ref m_indexed, .ref m_isChanged, .int 0, .ref m_valueNow, .int 0, .int (-1), .int 0, .ref m_didSome, .ref m_sizes, .ref m_ends])), (m_all, aI cs 51207 f_m_all)] := hD
      have er_255 := hw_254
      subst er_255
      refine lv_isub hx hb dX9_space_82 ?_
      refine tpi (y := 0) (by decide) ?_
      refine lv_iadd hx hb dX9_space_83 ?_
      refine tpi (y := 0) (by decide) ?_
      refine lv_istore_n (lv' := [(2, .int 0), (3, .int 13), (0, .ref md), (1, .int 1)]) hx hb dX9_space_84 rfl hl (by decide) rfl (fun ls hl => ?_)
      refine lv_goto (tgt := 146) hx hb dX9_space_85 (by decide) ?_
      refine lv_iinc (v := 14) (lv' := [(3, .int 14), (2, .int 0), (0, .ref md), (1, .int 1)]) hx hb dX9_space_146 hl (k := 1) rfl (by decide) (by decide) rfl (fun ls hl => ?_)
      refine lv_goto (tgt := 24) hx hb dX9_space_149 (by decide) ?_
      refine lv_iload_n hx hb dX9_space_24 rfl (lv_at hl 0 rfl) ?_
      refine lv_bipush (v := 24) hx hb dX9_space_25 (by decide) ?_
      refine lv_icmp_ge (tgt := 152) hx hb dX9_space_27 (by decide) (fun c_256 => absurd c_256 (by decide)) (fun c_256 => ?_)
      refine lv_iload_n hx hb dX9_space_30 rfl (lv_at hl 3 rfl) ?_
      refine lv_tableIn (tgt := 71) hx hb dX9_space_31 (by decide) (by decide) (off := 40) (by decide) (by decide) ?_
      refine lv_iload_n hx hb dX9_space_71 rfl (lv_at hl 1 rfl) ?_
      refine lv_aload_n hx hb dX9_space_72 rfl (lv_at hl 2 rfl) ?_
      refine lv_iload_n hx hb dX9_space_73 rfl (lv_at hl 0 rfl) ?_
      refine kV_i (ci := 9) (As := [.int 14]) (rest := [.int 0]) (wc := [(md, .inr (9, [.int 0, .ref m_all, .ref m_deeds, .ref m_trial, .int 0, .ref m_hasImage, .ref m_tape, .ref m_key, .ref m_answered, .int 0, .int 0, .int 0, .ref m_goes, .int 0, .ref m_hotOnes, .ref m_indexed, .ref m_isChanged, .int 0, .ref m_valueNow, .int 0, .int (-1), .int 0, .ref m_didSome, .ref m_sizes, .ref m_ends])), (m_all, aI cs 51207 f_m_all)]) (wr := []) hx hb hml hown hu hK hP hD hS hA hl.1 (c_X9_stayingOn l D cs H.size 14 md m_all f_m_all m_deeds m_trial m_hasImage m_tape m_key m_answered m_goes m_hotOnes m_indexed m_isChanged m_valueNow m_didSome m_sizes m_ends 0 0 0 z_all) (gV u_1204 u_1206 u_17 u_76 u_1207) hd_X9_stayingOn ⟨(Nat.le_of_ble_eq_true rfl), (Nat.le_of_ble_eq_true rfl)⟩ [0, 1] [] rfl rfl rfl rfl (by decide) rfl 0 rfl rfl rfl (Nat.le_of_ble_eq_true rfl) dX9_space_74 ⟨(Nat.le_of_ble_eq_true rfl), (Nat.le_of_ble_eq_true rfl)⟩ (fun r_257 ut_258 H locs hw_259 hP hD hS => ?_)
      have hP : va_P D vwCl [(md, .inr (9, [.int 0, .ref m_all, .ref m_deeds, .ref m_trial, .int 0, .ref m_hasImage, .ref m_tape, .ref m_key, .ref m_answered, .int 0, .int 0, .int 0, .ref m_goes, .int 0, .ref m_hotOnes, .ref m_indexed, .ref m_isChanged, .int 0, .ref m_valueNow, .int 0, .int (-1), .int 0, .ref m_didSome, .ref m_sizes, .ref m_ends])), (m_all, aI cs 51207 f_m_all)] H := hP
      have hD : va_D A [(md, .inr (9, [.int 0, .ref m_all, .ref m_deeds, .ref m_trial, .int 0, .ref m_hasImage, .ref m_tape, .ref m_key, .ref m_answered, .int 0, .int 0, .int 0, .ref m_goes, .int 0, .ref m_hotOnes, .ref m_indexed, .ref m_isChanged, .int 0, .ref m_valueNow, .int 0, .int (-1), .int 0, .ref m_didSome, .ref m_sizes, .ref m_ends])), (m_all, aI cs 51207 f_m_all)] := hD
      have er_260 := hw_259
      subst er_260
      refine lv_aload_n hx hb dX9_space_77 rfl (lv_at hl 2 rfl) ?_
      refine lv_iload_n hx hb dX9_space_78 rfl (lv_at hl 0 rfl) ?_
      refine kV_i (ci := 9) (As := [.int 14]) (rest := [.int 0, .int 0]) (wc := [(md, .inr (9, [.int 0, .ref m_all, .ref m_deeds, .ref m_trial, .int 0, .ref m_hasImage, .ref m_tape, .ref m_key, .ref m_answered, .int 0, .int 0, .int 0, .ref m_goes, .int 0, .ref m_hotOnes, .ref m_indexed, .ref m_isChanged, .int 0, .ref m_valueNow, .int 0, .int (-1), .int 0, .ref m_didSome, .ref m_sizes, .ref m_ends])), (m_all, aI cs 51207 f_m_all)]) (wr := []) hx hb hml hown hu hK hP hD hS hA hl.1 (c_X9_liveOn l D cs H.size 14 md m_all f_m_all m_deeds m_trial m_hasImage m_tape m_key m_answered m_goes m_hotOnes m_indexed m_isChanged m_valueNow m_didSome m_sizes m_ends 0 0 0 z_all) (gV u_1482 u_1484 u_60 u_76 u_1485) hd_X9_liveOn ⟨(Nat.le_of_ble_eq_true rfl), (Nat.le_of_ble_eq_true rfl)⟩ [0, 1] [] rfl rfl rfl rfl (by decide) rfl 0 rfl rfl rfl (Nat.le_of_ble_eq_true rfl) dX9_space_79 ⟨(Nat.le_of_ble_eq_true rfl), (Nat.le_of_ble_eq_true rfl)⟩ (fun r_261 ut_262 H locs hw_263 hP hD hS => ?_)
      have hP : va_P D vwCl [(md, .inr (9, [.int 0, .ref m_all, .ref m_deeds, .ref m_trial, .int 0, .ref m_hasImage, .ref m_tape, .ref m_key, .ref m_answered, .int 0, .int 0, .int 0, .ref m_goes, .int 0, .ref m_hotOnes, .ref m_indexed, .ref m_isChanged, .int 0, .ref m_valueNow, .int 0, .int (-1), .int 0, .ref m_didSome, .ref m_sizes, .ref m_ends])), (m_all, aI cs 51207 f_m_all)] H := hP
      have hD : va_D A [(md, .inr (9, [.int 0, .ref m_all, .ref m_deeds, .ref m_trial, .int 0, .ref m_hasImage, .ref m_tape, .ref m_key, .ref m_answered, .int 0, .int 0, .int 0, .ref m_goes, .int 0, .ref m_hotOnes, .ref m_indexed, .ref m_isChanged, .int 0, .ref m_valueNow, .int 0, .int (-1), .int 0, .ref m_didSome, .ref m_sizes, .ref m_ends])), (m_all, aI cs 51207 f_m_all)] := hD
      have er_264 := hw_263
      subst er_264
      refine lv_isub hx hb dX9_space_82 ?_
      refine tpi (y := 0) (by decide) ?_
      refine lv_iadd hx hb dX9_space_83 ?_
      refine tpi (y := 0) (by decide) ?_
      refine lv_istore_n (lv' := [(2, .int 0), (3, .int 14), (0, .ref md), (1, .int 1)]) hx hb dX9_space_84 rfl hl (by decide) rfl (fun ls hl => ?_)
      refine lv_goto (tgt := 146) hx hb dX9_space_85 (by decide) ?_
      refine lv_iinc (v := 15) (lv' := [(3, .int 15), (2, .int 0), (0, .ref md), (1, .int 1)]) hx hb dX9_space_146 hl (k := 1) rfl (by decide) (by decide) rfl (fun ls hl => ?_)
      refine lv_goto (tgt := 24) hx hb dX9_space_149 (by decide) ?_
      refine lv_iload_n hx hb dX9_space_24 rfl (lv_at hl 0 rfl) ?_
      refine lv_bipush (v := 24) hx hb dX9_space_25 (by decide) ?_
      refine lv_icmp_ge (tgt := 152) hx hb dX9_space_27 (by decide) (fun c_265 => absurd c_265 (by decide)) (fun c_265 => ?_)
      refine lv_iload_n hx hb dX9_space_30 rfl (lv_at hl 3 rfl) ?_
      refine lv_tableIn (tgt := 71) hx hb dX9_space_31 (by decide) (by decide) (off := 40) (by decide) (by decide) ?_
      refine lv_iload_n hx hb dX9_space_71 rfl (lv_at hl 1 rfl) ?_
      refine lv_aload_n hx hb dX9_space_72 rfl (lv_at hl 2 rfl) ?_
      refine lv_iload_n hx hb dX9_space_73 rfl (lv_at hl 0 rfl) ?_
      refine kV_i (ci := 9) (As := [.int 15]) (rest := [.int 0]) (wc := [(md, .inr (9, [.int 0, .ref m_all, .ref m_deeds, .ref m_trial, .int 0, .ref m_hasImage, .ref m_tape, .ref m_key, .ref m_answered, .int 0, .int 0, .int 0, .ref m_goes, .int 0, .ref m_hotOnes, .ref m_indexed, .ref m_isChanged, .int 0, .ref m_valueNow, .int 0, .int (-1), .int 0, .ref m_didSome, .ref m_sizes, .ref m_ends])), (m_all, aI cs 51207 f_m_all)]) (wr := []) hx hb hml hown hu hK hP hD hS hA hl.1 (c_X9_stayingOn l D cs H.size 15 md m_all f_m_all m_deeds m_trial m_hasImage m_tape m_key m_answered m_goes m_hotOnes m_indexed m_isChanged m_valueNow m_didSome m_sizes m_ends 0 0 0 z_all) (gV u_1204 u_1206 u_17 u_76 u_1207) hd_X9_stayingOn ⟨(Nat.le_of_ble_eq_true rfl), (Nat.le_of_ble_eq_true rfl)⟩ [0, 1] [] rfl rfl rfl rfl (by decide) rfl 0 rfl rfl rfl (Nat.le_of_ble_eq_true rfl) dX9_space_74 ⟨(Nat.le_of_ble_eq_true rfl), (Nat.le_of_ble_eq_true rfl)⟩ (fun r_266 ut_267 H locs hw_268 hP hD hS => ?_)
      have hP : va_P D vwCl [(md, .inr (9, [.int 0, .ref m_all, .ref m_deeds, .ref m_trial, .int 0, .ref m_hasImage, .ref m_tape, .ref m_key, .ref m_answered, .int 0, .int 0, .int 0, .ref m_goes, .int 0, .ref m_hotOnes, .ref m_indexed, .ref m_isChanged, .int 0, .ref m_valueNow, .int 0, .int (-1), .int 0, .ref m_didSome, .ref m_sizes, .ref m_ends])), (m_all, aI cs 51207 f_m_all)] H := hP
      have hD : va_D A [(md, .inr (9, [.int 0, .ref m_all, .ref m_deeds, .ref m_trial, .int 0, .ref m_hasImage, .ref m_tape, .ref m_key, .ref m_answered, .int 0, .int 0, .int 0, .ref m_goes, .int 0, .ref m_hotOnes, .ref m_indexed, .ref m_isChanged, .int 0, .ref m_valueNow, .int 0, .int (-1), .int 0, .ref m_didSome, .ref m_sizes, .ref m_ends])), (m_all, aI cs 51207 f_m_all)] := hD
      have er_269 := hw_268
      subst er_269
      refine lv_aload_n hx hb dX9_space_77 rfl (lv_at hl 2 rfl) ?_
      refine lv_iload_n hx hb dX9_space_78 rfl (lv_at hl 0 rfl) ?_
      refine kV_i (ci := 9) (As := [.int 15]) (rest := [.int 0, .int 0]) (wc := [(md, .inr (9, [.int 0, .ref m_all, .ref m_deeds, .ref m_trial, .int 0, .ref m_hasImage, .ref m_tape, .ref m_key, .ref m_answered, .int 0, .int 0, .int 0, .ref m_goes, .int 0, .ref m_hotOnes, .ref m_indexed, .ref m_isChanged, .int 0, .ref m_valueNow, .int 0, .int (-1), .int 0, .ref m_didSome, .ref m_sizes, .ref m_ends])), (m_all, aI cs 51207 f_m_all)]) (wr := []) hx hb hml hown hu hK hP hD hS hA hl.1 (c_X9_liveOn l D cs H.size 15 md m_all f_m_all m_deeds m_trial m_hasImage m_tape m_key m_answered m_goes m_hotOnes m_indexed m_isChanged m_valueNow m_didSome m_sizes m_ends 0 0 0 z_all) (gV u_1482 u_1484 u_60 u_76 u_1485) hd_X9_liveOn ⟨(Nat.le_of_ble_eq_true rfl), (Nat.le_of_ble_eq_true rfl)⟩ [0, 1] [] rfl rfl rfl rfl (by decide) rfl 0 rfl rfl rfl (Nat.le_of_ble_eq_true rfl) dX9_space_79 ⟨(Nat.le_of_ble_eq_true rfl), (Nat.le_of_ble_eq_true rfl)⟩ (fun r_270 ut_271 H locs hw_272 hP hD hS => ?_)
      have hP : va_P D vwCl [(md, .inr (9, [.int 0, .ref m_all, .ref m_deeds, .ref m_trial, .int 0, .ref m_hasImage, .ref m_tape, .ref m_key, .ref m_answered, .int 0, .int 0, .int 0, .ref m_goes, .int 0, .ref m_hotOnes, .ref m_indexed, .ref m_isChanged, .int 0, .ref m_valueNow, .int 0, .int (-1), .int 0, .ref m_didSome, .ref m_sizes, .ref m_ends])), (m_all, aI cs 51207 f_m_all)] H := hP
      have hD : va_D A [(md, .inr (9, [.int 0, .ref m_all, .ref m_deeds, .ref m_trial, .int 0, .ref m_hasImage, .ref m_tape, .ref m_key, .ref m_answered, .int 0, .int 0, .int 0, .ref m_goes, .int 0, .ref m_hotOnes, .ref m_indexed, .ref m_isChanged, .int 0, .ref m_valueNow, .int 0, .int (-1), .int 0, .ref m_didSome, .ref m_sizes, .ref m_ends])), (m_all, aI cs 51207 f_m_all)] := hD
      have er_273 := hw_272
      subst er_273
      refine lv_isub hx hb dX9_space_82 ?_
      refine tpi (y := 0) (by decide) ?_
      refine lv_iadd hx hb dX9_space_83 ?_
      refine tpi (y := 0) (by decide) ?_
      refine lv_istore_n (lv' := [(2, .int 0), (3, .int 15), (0, .ref md), (1, .int 1)]) hx hb dX9_space_84 rfl hl (by decide) rfl (fun ls hl => ?_)
      refine lv_goto (tgt := 146) hx hb dX9_space_85 (by decide) ?_
      refine lv_iinc (v := 16) (lv' := [(3, .int 16), (2, .int 0), (0, .ref md), (1, .int 1)]) hx hb dX9_space_146 hl (k := 1) rfl (by decide) (by decide) rfl (fun ls hl => ?_)
      refine lv_goto (tgt := 24) hx hb dX9_space_149 (by decide) ?_
      refine lv_iload_n hx hb dX9_space_24 rfl (lv_at hl 0 rfl) ?_
      refine lv_bipush (v := 24) hx hb dX9_space_25 (by decide) ?_
      refine lv_icmp_ge (tgt := 152) hx hb dX9_space_27 (by decide) (fun c_274 => absurd c_274 (by decide)) (fun c_274 => ?_)
      refine lv_iload_n hx hb dX9_space_30 rfl (lv_at hl 3 rfl) ?_
      refine lv_tableIn (tgt := 71) hx hb dX9_space_31 (by decide) (by decide) (off := 40) (by decide) (by decide) ?_
      refine lv_iload_n hx hb dX9_space_71 rfl (lv_at hl 1 rfl) ?_
      refine lv_aload_n hx hb dX9_space_72 rfl (lv_at hl 2 rfl) ?_
      refine lv_iload_n hx hb dX9_space_73 rfl (lv_at hl 0 rfl) ?_
      refine kV_i (ci := 9) (As := [.int 16]) (rest := [.int 0]) (wc := [(md, .inr (9, [.int 0, .ref m_all, .ref m_deeds, .ref m_trial, .int 0, .ref m_hasImage, .ref m_tape, .ref m_key, .ref m_answered, .int 0, .int 0, .int 0, .ref m_goes, .int 0, .ref m_hotOnes, .ref m_indexed, .ref m_isChanged, .int 0, .ref m_valueNow, .int 0, .int (-1), .int 0, .ref m_didSome, .ref m_sizes, .ref m_ends])), (m_all, aI cs 51207 f_m_all)]) (wr := []) hx hb hml hown hu hK hP hD hS hA hl.1 (c_X9_stayingOn l D cs H.size 16 md m_all f_m_all m_deeds m_trial m_hasImage m_tape m_key m_answered m_goes m_hotOnes m_indexed m_isChanged m_valueNow m_didSome m_sizes m_ends 0 0 0 z_all) (gV u_1204 u_1206 u_17 u_76 u_1207) hd_X9_stayingOn ⟨(Nat.le_of_ble_eq_true rfl), (Nat.le_of_ble_eq_true rfl)⟩ [0, 1] [] rfl rfl rfl rfl (by decide) rfl 0 rfl rfl rfl (Nat.le_of_ble_eq_true rfl) dX9_space_74 ⟨(Nat.le_of_ble_eq_true rfl), (Nat.le_of_ble_eq_true rfl)⟩ (fun r_275 ut_276 H locs hw_277 hP hD hS => ?_)
      have hP : va_P D vwCl [(md, .inr (9, [.int 0, .ref m_all, .ref m_deeds, .ref m_trial, .int 0, .ref m_hasImage, .ref m_tape, .ref m_key, .ref m_answered, .int 0, .int 0, .int 0, .ref m_goes, .int 0, .ref m_hotOnes, .ref m_indexed, .ref m_isChanged, .int 0, .ref m_valueNow, .int 0, .int (-1), .int 0, .ref m_didSome, .ref m_sizes, .ref m_ends])), (m_all, aI cs 51207 f_m_all)] H := hP
      have hD : va_D A [(md, .inr (9, [.int 0, .ref m_all, .ref m_deeds, .ref m_trial, .int 0, .ref m_hasImage, .ref m_tape, .ref m_key, .ref m_answered, .int 0, .int 0, .int 0, .ref m_goes, .int 0, .ref m_hotOnes, .ref m_indexed, .ref m_isChanged, .int 0, .ref m_valueNow, .int 0, .int (-1), .int 0, .ref m_didSome, .ref m_sizes, .ref m_ends])), (m_all, aI cs 51207 f_m_all)] := hD
      have er_278 := hw_277
      subst er_278
      refine lv_aload_n hx hb dX9_space_77 rfl (lv_at hl 2 rfl) ?_
      refine lv_iload_n hx hb dX9_space_78 rfl (lv_at hl 0 rfl) ?_
      refine kV_i (ci := 9) (As := [.int 16]) (rest := [.int 0, .int 0]) (wc := [(md, .inr (9, [.int 0, .ref m_all, .ref m_deeds, .ref m_trial, .int 0, .ref m_hasImage, .ref m_tape, .ref m_key, .ref m_answered, .int 0, .int 0, .int 0, .ref m_goes, .int 0, .ref m_hotOnes, .ref m_indexed, .ref m_isChanged, .int 0, .ref m_valueNow, .int 0, .int (-1), .int 0, .ref m_didSome, .ref m_sizes, .ref m_ends])), (m_all, aI cs 51207 f_m_all)]) (wr := []) hx hb hml hown hu hK hP hD hS hA hl.1 (c_X9_liveOn l D cs H.size 16 md m_all f_m_all m_deeds m_trial m_hasImage m_tape m_key m_answered m_goes m_hotOnes m_indexed m_isChanged m_valueNow m_didSome m_sizes m_ends 0 0 0 z_all) (gV u_1482 u_1484 u_60 u_76 u_1485) hd_X9_liveOn ⟨(Nat.le_of_ble_eq_true rfl), (Nat.le_of_ble_eq_true rfl)⟩ [0, 1] [] rfl rfl rfl rfl (by decide) rfl 0 rfl rfl rfl (Nat.le_of_ble_eq_true rfl) dX9_space_79 ⟨(Nat.le_of_ble_eq_true rfl), (Nat.le_of_ble_eq_true rfl)⟩ (fun r_279 ut_280 H locs hw_281 hP hD hS => ?_)
      have hP : va_P D vwCl [(md, .inr (9, [.int 0, .ref m_all, .ref m_deeds, .ref m_trial, .int 0, .ref m_hasImage, .ref m_tape, .ref m_key, .ref m_answered, .int 0, .int 0, .int 0, .ref m_goes, .int 0, .ref m_hotOnes, .ref m_indexed, .ref m_isChanged, .int 0, .ref m_valueNow, .int 0, .int (-1), .int 0, .ref m_didSome, .ref m_sizes, .ref m_ends])), (m_all, aI cs 51207 f_m_all)] H := hP
      have hD : va_D A [(md, .inr (9, [.int 0, .ref m_all, .ref m_deeds, .ref m_trial, .int 0, .ref m_hasImage, .ref m_tape, .ref m_key, .ref m_answered, .int 0, .int 0, .int 0, .ref m_goes, .int 0, .ref m_hotOnes, .ref m_indexed, .ref m_isChanged, .int 0, .ref m_valueNow, .int 0, .int (-1), .int 0, .ref m_didSome, .ref m_sizes, .ref m_ends])), (m_all, aI cs 51207 f_m_all)] := hD
      have er_282 := hw_281
      subst er_282
      refine lv_isub hx hb dX9_space_82 ?_
      refine tpi (y := 0) (by decide) ?_
      refine lv_iadd hx hb dX9_space_83 ?_
      refine tpi (y := 0) (by decide) ?_
      refine lv_istore_n (lv' := [(2, .int 0), (3, .int 16), (0, .ref md), (1, .int 1)]) hx hb dX9_space_84 rfl hl (by decide) rfl (fun ls hl => ?_)
      refine lv_goto (tgt := 146) hx hb dX9_space_85 (by decide) ?_
      refine lv_iinc (v := 17) (lv' := [(3, .int 17), (2, .int 0), (0, .ref md), (1, .int 1)]) hx hb dX9_space_146 hl (k := 1) rfl (by decide) (by decide) rfl (fun ls hl => ?_)
      refine lv_goto (tgt := 24) hx hb dX9_space_149 (by decide) ?_
      refine lv_iload_n hx hb dX9_space_24 rfl (lv_at hl 0 rfl) ?_
      refine lv_bipush (v := 24) hx hb dX9_space_25 (by decide) ?_
      refine lv_icmp_ge (tgt := 152) hx hb dX9_space_27 (by decide) (fun c_283 => absurd c_283 (by decide)) (fun c_283 => ?_)
      refine lv_iload_n hx hb dX9_space_30 rfl (lv_at hl 3 rfl) ?_
      refine lv_tableIn (tgt := 71) hx hb dX9_space_31 (by decide) (by decide) (off := 40) (by decide) (by decide) ?_
      refine lv_iload_n hx hb dX9_space_71 rfl (lv_at hl 1 rfl) ?_
      refine lv_aload_n hx hb dX9_space_72 rfl (lv_at hl 2 rfl) ?_
      refine lv_iload_n hx hb dX9_space_73 rfl (lv_at hl 0 rfl) ?_
      refine kV_i (ci := 9) (As := [.int 17]) (rest := [.int 0]) (wc := [(md, .inr (9, [.int 0, .ref m_all, .ref m_deeds, .ref m_trial, .int 0, .ref m_hasImage, .ref m_tape, .ref m_key, .ref m_answered, .int 0, .int 0, .int 0, .ref m_goes, .int 0, .ref m_hotOnes, .ref m_indexed, .ref m_isChanged, .int 0, .ref m_valueNow, .int 0, .int (-1), .int 0, .ref m_didSome, .ref m_sizes, .ref m_ends])), (m_all, aI cs 51207 f_m_all)]) (wr := []) hx hb hml hown hu hK hP hD hS hA hl.1 (c_X9_stayingOn l D cs H.size 17 md m_all f_m_all m_deeds m_trial m_hasImage m_tape m_key m_answered m_goes m_hotOnes m_indexed m_isChanged m_valueNow m_didSome m_sizes m_ends 0 0 0 z_all) (gV u_1204 u_1206 u_17 u_76 u_1207) hd_X9_stayingOn ⟨(Nat.le_of_ble_eq_true rfl), (Nat.le_of_ble_eq_true rfl)⟩ [0, 1] [] rfl rfl rfl rfl (by decide) rfl 0 rfl rfl rfl (Nat.le_of_ble_eq_true rfl) dX9_space_74 ⟨(Nat.le_of_ble_eq_true rfl), (Nat.le_of_ble_eq_true rfl)⟩ (fun r_284 ut_285 H locs hw_286 hP hD hS => ?_)
      have hP : va_P D vwCl [(md, .inr (9, [.int 0, .ref m_all, .ref m_deeds, .ref m_trial, .int 0, .ref m_hasImage, .ref m_tape, .ref m_key, .ref m_answered, .int 0, .int 0, .int 0, .ref m_goes, .int 0, .ref m_hotOnes, .ref m_indexed, .ref m_isChanged, .int 0, .ref m_valueNow, .int 0, .int (-1), .int 0, .ref m_didSome, .ref m_sizes, .ref m_ends])), (m_all, aI cs 51207 f_m_all)] H := hP
      have hD : va_D A [(md, .inr (9, [.int 0, .ref m_all, .ref m_deeds, .ref m_trial, .int 0, .ref m_hasImage, .ref m_tape, .ref m_key, .ref m_answered, .int 0, .int 0, .int 0, .ref m_goes, .int 0, .ref m_hotOnes, .ref m_indexed, .ref m_isChanged, .int 0, .ref m_valueNow, .int 0, .int (-1), .int 0, .ref m_didSome, .ref m_sizes, .ref m_ends])), (m_all, aI cs 51207 f_m_all)] := hD
      have er_287 := hw_286
      subst er_287
      refine lv_aload_n hx hb dX9_space_77 rfl (lv_at hl 2 rfl) ?_
      refine lv_iload_n hx hb dX9_space_78 rfl (lv_at hl 0 rfl) ?_
      refine kV_i (ci := 9) (As := [.int 17]) (rest := [.int 0, .int 0]) (wc := [(md, .inr (9, [.int 0, .ref m_all, .ref m_deeds, .ref m_trial, .int 0, .ref m_hasImage, .ref m_tape, .ref m_key, .ref m_answered, .int 0, .int 0, .int 0, .ref m_goes, .int 0, .ref m_hotOnes, .ref m_indexed, .ref m_isChanged, .int 0, .ref m_valueNow, .int 0, .int (-1), .int 0, .ref m_didSome, .ref m_sizes, .ref m_ends])), (m_all, aI cs 51207 f_m_all)]) (wr := []) hx hb hml hown hu hK hP hD hS hA hl.1 (c_X9_liveOn l D cs H.size 17 md m_all f_m_all m_deeds m_trial m_hasImage m_tape m_key m_answered m_goes m_hotOnes m_indexed m_isChanged m_valueNow m_didSome m_sizes m_ends 0 0 0 z_all) (gV u_1482 u_1484 u_60 u_76 u_1485) hd_X9_liveOn ⟨(Nat.le_of_ble_eq_true rfl), (Nat.le_of_ble_eq_true rfl)⟩ [0, 1] [] rfl rfl rfl rfl (by decide) rfl 0 rfl rfl rfl (Nat.le_of_ble_eq_true rfl) dX9_space_79 ⟨(Nat.le_of_ble_eq_true rfl), (Nat.le_of_ble_eq_true rfl)⟩ (fun r_288 ut_289 H locs hw_290 hP hD hS => ?_)
      have hP : va_P D vwCl [(md, .inr (9, [.int 0, .ref m_all, .ref m_deeds, .ref m_trial, .int 0, .ref m_hasImage, .ref m_tape, .ref m_key, .ref m_answered, .int 0, .int 0, .int 0, .ref m_goes, .int 0, .ref m_hotOnes, .ref m_indexed, .ref m_isChanged, .int 0, .ref m_valueNow, .int 0, .int (-1), .int 0, .ref m_didSome, .ref m_sizes, .ref m_ends])), (m_all, aI cs 51207 f_m_all)] H := hP
      have hD : va_D A [(md, .inr (9, [.int 0, .ref m_all, .ref m_deeds, .ref m_trial, .int 0, .ref m_hasImage, .ref m_tape, .ref m_key, .ref m_answered, .int 0, .int 0, .int 0, .ref m_goes, .int 0, .ref m_hotOnes, .ref m_indexed, .ref m_isChanged, .int 0, .ref m_valueNow, .int 0, .int (-1), .int 0, .ref m_didSome, .ref m_sizes, .ref m_ends])), (m_all, aI cs 51207 f_m_all)] := hD
      have er_291 := hw_290
      subst er_291
      refine lv_isub hx hb dX9_space_82 ?_
      refine tpi (y := 0) (by decide) ?_
      refine lv_iadd hx hb dX9_space_83 ?_
      refine tpi (y := 0) (by decide) ?_
      refine lv_istore_n (lv' := [(2, .int 0), (3, .int 17), (0, .ref md), (1, .int 1)]) hx hb dX9_space_84 rfl hl (by decide) rfl (fun ls hl => ?_)
      refine lv_goto (tgt := 146) hx hb dX9_space_85 (by decide) ?_
      refine lv_iinc (v := 18) (lv' := [(3, .int 18), (2, .int 0), (0, .ref md), (1, .int 1)]) hx hb dX9_space_146 hl (k := 1) rfl (by decide) (by decide) rfl (fun ls hl => ?_)
      refine lv_goto (tgt := 24) hx hb dX9_space_149 (by decide) ?_
      refine lv_iload_n hx hb dX9_space_24 rfl (lv_at hl 0 rfl) ?_
      refine lv_bipush (v := 24) hx hb dX9_space_25 (by decide) ?_
      refine lv_icmp_ge (tgt := 152) hx hb dX9_space_27 (by decide) (fun c_292 => absurd c_292 (by decide)) (fun c_292 => ?_)
      refine lv_iload_n hx hb dX9_space_30 rfl (lv_at hl 3 rfl) ?_
      refine lv_tableIn (tgt := 71) hx hb dX9_space_31 (by decide) (by decide) (off := 40) (by decide) (by decide) ?_
      refine lv_iload_n hx hb dX9_space_71 rfl (lv_at hl 1 rfl) ?_
      refine lv_aload_n hx hb dX9_space_72 rfl (lv_at hl 2 rfl) ?_
      refine lv_iload_n hx hb dX9_space_73 rfl (lv_at hl 0 rfl) ?_
      refine kV_i (ci := 9) (As := [.int 18]) (rest := [.int 0]) (wc := [(md, .inr (9, [.int 0, .ref m_all, .ref m_deeds, .ref m_trial, .int 0, .ref m_hasImage, .ref m_tape, .ref m_key, .ref m_answered, .int 0, .int 0, .int 0, .ref m_goes, .int 0, .ref m_hotOnes, .ref m_indexed, .ref m_isChanged, .int 0, .ref m_valueNow, .int 0, .int (-1), .int 0, .ref m_didSome, .ref m_sizes, .ref m_ends])), (m_all, aI cs 51207 f_m_all)]) (wr := []) hx hb hml hown hu hK hP hD hS hA hl.1 (c_X9_stayingOn l D cs H.size 18 md m_all f_m_all m_deeds m_trial m_hasImage m_tape m_key m_answered m_goes m_hotOnes m_indexed m_isChanged m_valueNow m_didSome m_sizes m_ends 0 0 0 z_all) (gV u_1204 u_1206 u_17 u_76 u_1207) hd_X9_stayingOn ⟨(Nat.le_of_ble_eq_true rfl), (Nat.le_of_ble_eq_true rfl)⟩ [0, 1] [] rfl rfl rfl rfl (by decide) rfl 0 rfl rfl rfl (Nat.le_of_ble_eq_true rfl) dX9_space_74 ⟨(Nat.le_of_ble_eq_true rfl), (Nat.le_of_ble_eq_true rfl)⟩ (fun r_293 ut_294 H locs hw_295 hP hD hS => ?_)
      have hP : va_P D vwCl [(md, .inr (9, [.int 0, .ref m_all, .ref m_deeds, .ref m_trial, .int 0, .ref m_hasImage, .ref m_tape, .ref m_key, .ref m_answered, .int 0, .int 0, .int 0, .ref m_goes, .int 0, .ref m_hotOnes, .ref m_indexed, .ref m_isChanged, .int 0, .ref m_valueNow, .int 0, .int (-1), .int 0, .ref m_didSome, .ref m_sizes, .ref m_ends])), (m_all, aI cs 51207 f_m_all)] H := hP
      have hD : va_D A [(md, .inr (9, [.int 0, .ref m_all, .ref m_deeds, .ref m_trial, .int 0, .ref m_hasImage, .ref m_tape, .ref m_key, .ref m_answered, .int 0, .int 0, .int 0, .ref m_goes, .int 0, .ref m_hotOnes, .ref m_indexed, .ref m_isChanged, .int 0, .ref m_valueNow, .int 0, .int (-1), .int 0, .ref m_didSome, .ref m_sizes, .ref m_ends])), (m_all, aI cs 51207 f_m_all)] := hD
      have er_296 := hw_295
      subst er_296
      refine lv_aload_n hx hb dX9_space_77 rfl (lv_at hl 2 rfl) ?_
      refine lv_iload_n hx hb dX9_space_78 rfl (lv_at hl 0 rfl) ?_
      refine kV_i (ci := 9) (As := [.int 18]) (rest := [.int 0, .int 0]) (wc := [(md, .inr (9, [.int 0, .ref m_all, .ref m_deeds, .ref m_trial, .int 0, .ref m_hasImage, .ref m_tape, .ref m_key, .ref m_answered, .int 0, .int 0, .int 0, .ref m_goes, .int 0, .ref m_hotOnes, .ref m_indexed, .ref m_isChanged, .int 0, .ref m_valueNow, .int 0, .int (-1), .int 0, .ref m_didSome, .ref m_sizes, .ref m_ends])), (m_all, aI cs 51207 f_m_all)]) (wr := []) hx hb hml hown hu hK hP hD hS hA hl.1 (c_X9_liveOn l D cs H.size 18 md m_all f_m_all m_deeds m_trial m_hasImage m_tape m_key m_answered m_goes m_hotOnes m_indexed m_isChanged m_valueNow m_didSome m_sizes m_ends 0 0 0 z_all) (gV u_1482 u_1484 u_60 u_76 u_1485) hd_X9_liveOn ⟨(Nat.le_of_ble_eq_true rfl), (Nat.le_of_ble_eq_true rfl)⟩ [0, 1] [] rfl rfl rfl rfl (by decide) rfl 0 rfl rfl rfl (Nat.le_of_ble_eq_true rfl) dX9_space_79 ⟨(Nat.le_of_ble_eq_true rfl), (Nat.le_of_ble_eq_true rfl)⟩ (fun r_297 ut_298 H locs hw_299 hP hD hS => ?_)
      have hP : va_P D vwCl [(md, .inr (9, [.int 0, .ref m_all, .ref m_deeds, .ref m_trial, .int 0, .ref m_hasImage, .ref m_tape, .ref m_key, .ref m_answered, .int 0, .int 0, .int 0, .ref m_goes, .int 0, .ref m_hotOnes, .ref m_indexed, .ref m_isChanged, .int 0, .ref m_valueNow, .int 0, .int (-1), .int 0, .ref m_didSome, .ref m_sizes, .ref m_ends])), (m_all, aI cs 51207 f_m_all)] H := hP
      have hD : va_D A [(md, .inr (9, [.int 0, .ref m_all, .ref m_deeds, .ref m_trial, .int 0, .ref m_hasImage, .ref m_tape, .ref m_key, .ref m_answered, .int 0, .int 0, .int 0, .ref m_goes, .int 0, .ref m_hotOnes, .ref m_indexed, .ref m_isChanged, .int 0, .ref m_valueNow, .int 0, .int (-1), .int 0, .ref m_didSome, .ref m_sizes, .ref m_ends])), (m_all, aI cs 51207 f_m_all)] := hD
      have er_300 := hw_299
      subst er_300
      refine lv_isub hx hb dX9_space_82 ?_
      refine tpi (y := 0) (by decide) ?_
      refine lv_iadd hx hb dX9_space_83 ?_
      refine tpi (y := 0) (by decide) ?_
      refine lv_istore_n (lv' := [(2, .int 0), (3, .int 18), (0, .ref md), (1, .int 1)]) hx hb dX9_space_84 rfl hl (by decide) rfl (fun ls hl => ?_)
      refine lv_goto (tgt := 146) hx hb dX9_space_85 (by decide) ?_
      refine lv_iinc (v := 19) (lv' := [(3, .int 19), (2, .int 0), (0, .ref md), (1, .int 1)]) hx hb dX9_space_146 hl (k := 1) rfl (by decide) (by decide) rfl (fun ls hl => ?_)
      refine lv_goto (tgt := 24) hx hb dX9_space_149 (by decide) ?_
      refine lv_iload_n hx hb dX9_space_24 rfl (lv_at hl 0 rfl) ?_
      refine lv_bipush (v := 24) hx hb dX9_space_25 (by decide) ?_
      refine lv_icmp_ge (tgt := 152) hx hb dX9_space_27 (by decide) (fun c_301 => absurd c_301 (by decide)) (fun c_301 => ?_)
      refine lv_iload_n hx hb dX9_space_30 rfl (lv_at hl 3 rfl) ?_
      refine lv_tableIn (tgt := 71) hx hb dX9_space_31 (by decide) (by decide) (off := 40) (by decide) (by decide) ?_
      refine lv_iload_n hx hb dX9_space_71 rfl (lv_at hl 1 rfl) ?_
      refine lv_aload_n hx hb dX9_space_72 rfl (lv_at hl 2 rfl) ?_
      refine lv_iload_n hx hb dX9_space_73 rfl (lv_at hl 0 rfl) ?_
      refine kV_i (ci := 9) (As := [.int 19]) (rest := [.int 0]) (wc := [(md, .inr (9, [.int 0, .ref m_all, .ref m_deeds, .ref m_trial, .int 0, .ref m_hasImage, .ref m_tape, .ref m_key, .ref m_answered, .int 0, .int 0, .int 0, .ref m_goes, .int 0, .ref m_hotOnes, .ref m_indexed, .ref m_isChanged, .int 0, .ref m_valueNow, .int 0, .int (-1), .int 0, .ref m_didSome, .ref m_sizes, .ref m_ends])), (m_all, aI cs 51207 f_m_all)]) (wr := []) hx hb hml hown hu hK hP hD hS hA hl.1 (c_X9_stayingOn l D cs H.size 19 md m_all f_m_all m_deeds m_trial m_hasImage m_tape m_key m_answered m_goes m_hotOnes m_indexed m_isChanged m_valueNow m_didSome m_sizes m_ends 0 0 0 z_all) (gV u_1204 u_1206 u_17 u_76 u_1207) hd_X9_stayingOn ⟨(Nat.le_of_ble_eq_true rfl), (Nat.le_of_ble_eq_true rfl)⟩ [0, 1] [] rfl rfl rfl rfl (by decide) rfl 0 rfl rfl rfl (Nat.le_of_ble_eq_true rfl) dX9_space_74 ⟨(Nat.le_of_ble_eq_true rfl), (Nat.le_of_ble_eq_true rfl)⟩ (fun r_302 ut_303 H locs hw_304 hP hD hS => ?_)
      have hP : va_P D vwCl [(md, .inr (9, [.int 0, .ref m_all, .ref m_deeds, .ref m_trial, .int 0, .ref m_hasImage, .ref m_tape, .ref m_key, .ref m_answered, .int 0, .int 0, .int 0, .ref m_goes, .int 0, .ref m_hotOnes, .ref m_indexed, .ref m_isChanged, .int 0, .ref m_valueNow, .int 0, .int (-1), .int 0, .ref m_didSome, .ref m_sizes, .ref m_ends])), (m_all, aI cs 51207 f_m_all)] H := hP
      have hD : va_D A [(md, .inr (9, [.int 0, .ref m_all, .ref m_deeds, .ref m_trial, .int 0, .ref m_hasImage, .ref m_tape, .ref m_key, .ref m_answered, .int 0, .int 0, .int 0, .ref m_goes, .int 0, .ref m_hotOnes, .ref m_indexed, .ref m_isChanged, .int 0, .ref m_valueNow, .int 0, .int (-1), .int 0, .ref m_didSome, .ref m_sizes, .ref m_ends])), (m_all, aI cs 51207 f_m_all)] := hD
      have er_305 := hw_304
      subst er_305
      refine lv_aload_n hx hb dX9_space_77 rfl (lv_at hl 2 rfl) ?_
      refine lv_iload_n hx hb dX9_space_78 rfl (lv_at hl 0 rfl) ?_
      refine kV_i (ci := 9) (As := [.int 19]) (rest := [.int 0, .int 0]) (wc := [(md, .inr (9, [.int 0, .ref m_all, .ref m_deeds, .ref m_trial, .int 0, .ref m_hasImage, .ref m_tape, .ref m_key, .ref m_answered, .int 0, .int 0, .int 0, .ref m_goes, .int 0, .ref m_hotOnes, .ref m_indexed, .ref m_isChanged, .int 0, .ref m_valueNow, .int 0, .int (-1), .int 0, .ref m_didSome, .ref m_sizes, .ref m_ends])), (m_all, aI cs 51207 f_m_all)]) (wr := []) hx hb hml hown hu hK hP hD hS hA hl.1 (c_X9_liveOn l D cs H.size 19 md m_all f_m_all m_deeds m_trial m_hasImage m_tape m_key m_answered m_goes m_hotOnes m_indexed m_isChanged m_valueNow m_didSome m_sizes m_ends 0 0 0 z_all) (gV u_1482 u_1484 u_60 u_76 u_1485) hd_X9_liveOn ⟨(Nat.le_of_ble_eq_true rfl), (Nat.le_of_ble_eq_true rfl)⟩ [0, 1] [] rfl rfl rfl rfl (by decide) rfl 0 rfl rfl rfl (Nat.le_of_ble_eq_true rfl) dX9_space_79 ⟨(Nat.le_of_ble_eq_true rfl), (Nat.le_of_ble_eq_true rfl)⟩ (fun r_306 ut_307 H locs hw_308 hP hD hS => ?_)
      have hP : va_P D vwCl [(md, .inr (9, [.int 0, .ref m_all, .ref m_deeds, .ref m_trial, .int 0, .ref m_hasImage, .ref m_tape, .ref m_key, .ref m_answered, .int 0, .int 0, .int 0, .ref m_goes, .int 0, .ref m_hotOnes, .ref m_indexed, .ref m_isChanged, .int 0, .ref m_valueNow, .int 0, .int (-1), .int 0, .ref m_didSome, .ref m_sizes, .ref m_ends])), (m_all, aI cs 51207 f_m_all)] H := hP
      have hD : va_D A [(md, .inr (9, [.int 0, .ref m_all, .ref m_deeds, .ref m_trial, .int 0, .ref m_hasImage, .ref m_tape, .ref m_key, .ref m_answered, .int 0, .int 0, .int 0, .ref m_goes, .int 0, .ref m_hotOnes, .ref m_indexed, .ref m_isChanged, .int 0, .ref m_valueNow, .int 0, .int (-1), .int 0, .ref m_didSome, .ref m_sizes, .ref m_ends])), (m_all, aI cs 51207 f_m_all)] := hD
      have er_309 := hw_308
      subst er_309
      refine lv_isub hx hb dX9_space_82 ?_
      refine tpi (y := 0) (by decide) ?_
      refine lv_iadd hx hb dX9_space_83 ?_
      refine tpi (y := 0) (by decide) ?_
      refine lv_istore_n (lv' := [(2, .int 0), (3, .int 19), (0, .ref md), (1, .int 1)]) hx hb dX9_space_84 rfl hl (by decide) rfl (fun ls hl => ?_)
      refine lv_goto (tgt := 146) hx hb dX9_space_85 (by decide) ?_
      refine lv_iinc (v := 20) (lv' := [(3, .int 20), (2, .int 0), (0, .ref md), (1, .int 1)]) hx hb dX9_space_146 hl (k := 1) rfl (by decide) (by decide) rfl (fun ls hl => ?_)
      refine lv_goto (tgt := 24) hx hb dX9_space_149 (by decide) ?_
      refine lv_iload_n hx hb dX9_space_24 rfl (lv_at hl 0 rfl) ?_
      refine lv_bipush (v := 24) hx hb dX9_space_25 (by decide) ?_
      refine lv_icmp_ge (tgt := 152) hx hb dX9_space_27 (by decide) (fun c_310 => absurd c_310 (by decide)) (fun c_310 => ?_)
      refine lv_iload_n hx hb dX9_space_30 rfl (lv_at hl 3 rfl) ?_
      refine lv_tableIn (tgt := 71) hx hb dX9_space_31 (by decide) (by decide) (off := 40) (by decide) (by decide) ?_
      refine lv_iload_n hx hb dX9_space_71 rfl (lv_at hl 1 rfl) ?_
      refine lv_aload_n hx hb dX9_space_72 rfl (lv_at hl 2 rfl) ?_
      refine lv_iload_n hx hb dX9_space_73 rfl (lv_at hl 0 rfl) ?_
      refine kV_i (ci := 9) (As := [.int 20]) (rest := [.int 0]) (wc := [(md, .inr (9, [.int 0, .ref m_all, .ref m_deeds, .ref m_trial, .int 0, .ref m_hasImage, .ref m_tape, .ref m_key, .ref m_answered, .int 0, .int 0, .int 0, .ref m_goes, .int 0, .ref m_hotOnes, .ref m_indexed, .ref m_isChanged, .int 0, .ref m_valueNow, .int 0, .int (-1), .int 0, .ref m_didSome, .ref m_sizes, .ref m_ends])), (m_all, aI cs 51207 f_m_all)]) (wr := []) hx hb hml hown hu hK hP hD hS hA hl.1 (c_X9_stayingOn l D cs H.size 20 md m_all f_m_all m_deeds m_trial m_hasImage m_tape m_key m_answered m_goes m_hotOnes m_indexed m_isChanged m_valueNow m_didSome m_sizes m_ends 0 0 0 z_all) (gV u_1204 u_1206 u_17 u_76 u_1207) hd_X9_stayingOn ⟨(Nat.le_of_ble_eq_true rfl), (Nat.le_of_ble_eq_true rfl)⟩ [0, 1] [] rfl rfl rfl rfl (by decide) rfl 0 rfl rfl rfl (Nat.le_of_ble_eq_true rfl) dX9_space_74 ⟨(Nat.le_of_ble_eq_true rfl), (Nat.le_of_ble_eq_true rfl)⟩ (fun r_311 ut_312 H locs hw_313 hP hD hS => ?_)
      have hP : va_P D vwCl [(md, .inr (9, [.int 0, .ref m_all, .ref m_deeds, .ref m_trial, .int 0, .ref m_hasImage, .ref m_tape, .ref m_key, .ref m_answered, .int 0, .int 0, .int 0, .ref m_goes, .int 0, .ref m_hotOnes, .ref m_indexed, .ref m_isChanged, .int 0, .ref m_valueNow, .int 0, .int (-1), .int 0, .ref m_didSome, .ref m_sizes, .ref m_ends])), (m_all, aI cs 51207 f_m_all)] H := hP
      have hD : va_D A [(md, .inr (9, [.int 0, .ref m_all, .ref m_deeds, .ref m_trial, .int 0, .ref m_hasImage, .ref m_tape, .ref m_key, .ref m_answered, .int 0, .int 0, .int 0, .ref m_goes, .int 0, .ref m_hotOnes, .ref m_indexed, .ref m_isChanged, .int 0, .ref m_valueNow, .int 0, .int (-1), .int 0, .ref m_didSome, .ref m_sizes, .ref m_ends])), (m_all, aI cs 51207 f_m_all)] := hD
      have er_314 := hw_313
      subst er_314
      refine lv_aload_n hx hb dX9_space_77 rfl (lv_at hl 2 rfl) ?_
      refine lv_iload_n hx hb dX9_space_78 rfl (lv_at hl 0 rfl) ?_
      refine kV_i (ci := 9) (As := [.int 20]) (rest := [.int 0, .int 0]) (wc := [(md, .inr (9, [.int 0, .ref m_all, .ref m_deeds, .ref m_trial, .int 0, .ref m_hasImage, .ref m_tape, .ref m_key, .ref m_answered, .int 0, .int 0, .int 0, .ref m_goes, .int 0, .ref m_hotOnes, .ref m_indexed, .ref m_isChanged, .int 0, .ref m_valueNow, .int 0, .int (-1), .int 0, .ref m_didSome, .ref m_sizes, .ref m_ends])), (m_all, aI cs 51207 f_m_all)]) (wr := []) hx hb hml hown hu hK hP hD hS hA hl.1 (c_X9_liveOn l D cs H.size 20 md m_all f_m_all m_deeds m_trial m_hasImage m_tape m_key m_answered m_goes m_hotOnes m_indexed m_isChanged m_valueNow m_didSome m_sizes m_ends 0 0 0 z_all) (gV u_1482 u_1484 u_60 u_76 u_1485) hd_X9_liveOn ⟨(Nat.le_of_ble_eq_true rfl), (Nat.le_of_ble_eq_true rfl)⟩ [0, 1] [] rfl rfl rfl rfl (by decide) rfl 0 rfl rfl rfl (Nat.le_of_ble_eq_true rfl) dX9_space_79 ⟨(Nat.le_of_ble_eq_true rfl), (Nat.le_of_ble_eq_true rfl)⟩ (fun r_315 ut_316 H locs hw_317 hP hD hS => ?_)
      have hP : va_P D vwCl [(md, .inr (9, [.int 0, .ref m_all, .ref m_deeds, .ref m_trial, .int 0, .ref m_hasImage, .ref m_tape, .ref m_key, .ref m_answered, .int 0, .int 0, .int 0, .ref m_goes, .int 0, .ref m_hotOnes, .ref m_indexed, .ref m_isChanged, .int 0, .ref m_valueNow, .int 0, .int (-1), .int 0, .ref m_didSome, .ref m_sizes, .ref m_ends])), (m_all, aI cs 51207 f_m_all)] H := hP
      have hD : va_D A [(md, .inr (9, [.int 0, .ref m_all, .ref m_deeds, .ref m_trial, .int 0, .ref m_hasImage, .ref m_tape, .ref m_key, .ref m_answered, .int 0, .int 0, .int 0, .ref m_goes, .int 0, .ref m_hotOnes, .ref m_indexed, .ref m_isChanged, .int 0, .ref m_valueNow, .int 0, .int (-1), .int 0, .ref m_didSome, .ref m_sizes, .ref m_ends])), (m_all, aI cs 51207 f_m_all)] := hD
      have er_318 := hw_317
      subst er_318
      refine lv_isub hx hb dX9_space_82 ?_
      refine tpi (y := 0) (by decide) ?_
      refine lv_iadd hx hb dX9_space_83 ?_
      refine tpi (y := 0) (by decide) ?_
      refine lv_istore_n (lv' := [(2, .int 0), (3, .int 20), (0, .ref md), (1, .int 1)]) hx hb dX9_space_84 rfl hl (by decide) rfl (fun ls hl => ?_)
      refine lv_goto (tgt := 146) hx hb dX9_space_85 (by decide) ?_
      refine lv_iinc (v := 21) (lv' := [(3, .int 21), (2, .int 0), (0, .ref md), (1, .int 1)]) hx hb dX9_space_146 hl (k := 1) rfl (by decide) (by decide) rfl (fun ls hl => ?_)
      refine lv_goto (tgt := 24) hx hb dX9_space_149 (by decide) ?_
      refine lv_iload_n hx hb dX9_space_24 rfl (lv_at hl 0 rfl) ?_
      refine lv_bipush (v := 24) hx hb dX9_space_25 (by decide) ?_
      refine lv_icmp_ge (tgt := 152) hx hb dX9_space_27 (by decide) (fun c_319 => absurd c_319 (by decide)) (fun c_319 => ?_)
      refine lv_iload_n hx hb dX9_space_30 rfl (lv_at hl 3 rfl) ?_
      refine lv_tableIn (tgt := 71) hx hb dX9_space_31 (by decide) (by decide) (off := 40) (by decide) (by decide) ?_
      refine lv_iload_n hx hb dX9_space_71 rfl (lv_at hl 1 rfl) ?_
      refine lv_aload_n hx hb dX9_space_72 rfl (lv_at hl 2 rfl) ?_
      refine lv_iload_n hx hb dX9_space_73 rfl (lv_at hl 0 rfl) ?_
      refine kV_i (ci := 9) (As := [.int 21]) (rest := [.int 0]) (wc := [(md, .inr (9, [.int 0, .ref m_all, .ref m_deeds, .ref m_trial, .int 0, .ref m_hasImage, .ref m_tape, .ref m_key, .ref m_answered, .int 0, .int 0, .int 0, .ref m_goes, .int 0, .ref m_hotOnes, .ref m_indexed, .ref m_isChanged, .int 0, .ref m_valueNow, .int 0, .int (-1), .int 0, .ref m_didSome, .ref m_sizes, .ref m_ends])), (m_all, aI cs 51207 f_m_all)]) (wr := []) hx hb hml hown hu hK hP hD hS hA hl.1 (c_X9_stayingOn l D cs H.size 21 md m_all f_m_all m_deeds m_trial m_hasImage m_tape m_key m_answered m_goes m_hotOnes m_indexed m_isChanged m_valueNow m_didSome m_sizes m_ends 0 0 0 z_all) (gV u_1204 u_1206 u_17 u_76 u_1207) hd_X9_stayingOn ⟨(Nat.le_of_ble_eq_true rfl), (Nat.le_of_ble_eq_true rfl)⟩ [0, 1] [] rfl rfl rfl rfl (by decide) rfl 0 rfl rfl rfl (Nat.le_of_ble_eq_true rfl) dX9_space_74 ⟨(Nat.le_of_ble_eq_true rfl), (Nat.le_of_ble_eq_true rfl)⟩ (fun r_320 ut_321 H locs hw_322 hP hD hS => ?_)
      have hP : va_P D vwCl [(md, .inr (9, [.int 0, .ref m_all, .ref m_deeds, .ref m_trial, .int 0, .ref m_hasImage, .ref m_tape, .ref m_key, .ref m_answered, .int 0, .int 0, .int 0, .ref m_goes, .int 0, .ref m_hotOnes, .ref m_indexed, .ref m_isChanged, .int 0, .ref m_valueNow, .int 0, .int (-1), .int 0, .ref m_didSome, .ref m_sizes, .ref m_ends])), (m_all, aI cs 51207 f_m_all)] H := hP
      have hD : va_D A [(md, .inr (9, [.int 0, .ref m_all, .ref m_deeds, .ref m_trial, .int 0, .ref m_hasImage, .ref m_tape, .ref m_key, .ref m_answered, .int 0, .int 0, .int 0, .ref m_goes, .int 0, .ref m_hotOnes, .ref m_indexed, .ref m_isChanged, .int 0, .ref m_valueNow, .int 0, .int (-1), .int 0, .ref m_didSome, .ref m_sizes, .ref m_ends])), (m_all, aI cs 51207 f_m_all)] := hD
      have er_323 := hw_322
      subst er_323
      refine lv_aload_n hx hb dX9_space_77 rfl (lv_at hl 2 rfl) ?_
      refine lv_iload_n hx hb dX9_space_78 rfl (lv_at hl 0 rfl) ?_
      refine kV_i (ci := 9) (As := [.int 21]) (rest := [.int 0, .int 0]) (wc := [(md, .inr (9, [.int 0, .ref m_all, .ref m_deeds, .ref m_trial, .int 0, .ref m_hasImage, .ref m_tape, .ref m_key, .ref m_answered, .int 0, .int 0, .int 0, .ref m_goes, .int 0, .ref m_hotOnes, .ref m_indexed, .ref m_isChanged, .int 0, .ref m_valueNow, .int 0, .int (-1), .int 0, .ref m_didSome, .ref m_sizes, .ref m_ends])), (m_all, aI cs 51207 f_m_all)]) (wr := []) hx hb hml hown hu hK hP hD hS hA hl.1 (c_X9_liveOn l D cs H.size 21 md m_all f_m_all m_deeds m_trial m_hasImage m_tape m_key m_answered m_goes m_hotOnes m_indexed m_isChanged m_valueNow m_didSome m_sizes m_ends 0 0 0 z_all) (gV u_1482 u_1484 u_60 u_76 u_1485) hd_X9_liveOn ⟨(Nat.le_of_ble_eq_true rfl), (Nat.le_of_ble_eq_true rfl)⟩ [0, 1] [] rfl rfl rfl rfl (by decide) rfl 0 rfl rfl rfl (Nat.le_of_ble_eq_true rfl) dX9_space_79 ⟨(Nat.le_of_ble_eq_true rfl), (Nat.le_of_ble_eq_true rfl)⟩ (fun r_324 ut_325 H locs hw_326 hP hD hS => ?_)
      have hP : va_P D vwCl [(md, .inr (9, [.int 0, .ref m_all, .ref m_deeds, .ref m_trial, .int 0, .ref m_hasImage, .ref m_tape, .ref m_key, .ref m_answered, .int 0, .int 0, .int 0, .ref m_goes, .int 0, .ref m_hotOnes, .ref m_indexed, .ref m_isChanged, .int 0, .ref m_valueNow, .int 0, .int (-1), .int 0, .ref m_didSome, .ref m_sizes, .ref m_ends])), (m_all, aI cs 51207 f_m_all)] H := hP
      have hD : va_D A [(md, .inr (9, [.int 0, .ref m_all, .ref m_deeds, .ref m_trial, .int 0, .ref m_hasImage, .ref m_tape, .ref m_key, .ref m_answered, .int 0, .int 0, .int 0, .ref m_goes, .int 0, .ref m_hotOnes, .ref m_indexed, .ref m_isChanged, .int 0, .ref m_valueNow, .int 0, .int (-1), .int 0, .ref m_didSome, .ref m_sizes, .ref m_ends])), (m_all, aI cs 51207 f_m_all)] := hD
      have er_327 := hw_326
      subst er_327
      refine lv_isub hx hb dX9_space_82 ?_
      refine tpi (y := 0) (by decide) ?_
      refine lv_iadd hx hb dX9_space_83 ?_
      refine tpi (y := 0) (by decide) ?_
      refine lv_istore_n (lv' := [(2, .int 0), (3, .int 21), (0, .ref md), (1, .int 1)]) hx hb dX9_space_84 rfl hl (by decide) rfl (fun ls hl => ?_)
      refine lv_goto (tgt := 146) hx hb dX9_space_85 (by decide) ?_
      refine lv_iinc (v := 22) (lv' := [(3, .int 22), (2, .int 0), (0, .ref md), (1, .int 1)]) hx hb dX9_space_146 hl (k := 1) rfl (by decide) (by decide) rfl (fun ls hl => ?_)
      refine lv_goto (tgt := 24) hx hb dX9_space_149 (by decide) ?_
      refine lv_iload_n hx hb dX9_space_24 rfl (lv_at hl 0 rfl) ?_
      refine lv_bipush (v := 24) hx hb dX9_space_25 (by decide) ?_
      refine lv_icmp_ge (tgt := 152) hx hb dX9_space_27 (by decide) (fun c_328 => absurd c_328 (by decide)) (fun c_328 => ?_)
      refine lv_iload_n hx hb dX9_space_30 rfl (lv_at hl 3 rfl) ?_
      refine lv_tableIn (tgt := 71) hx hb dX9_space_31 (by decide) (by decide) (off := 40) (by decide) (by decide) ?_
      refine lv_iload_n hx hb dX9_space_71 rfl (lv_at hl 1 rfl) ?_
      refine lv_aload_n hx hb dX9_space_72 rfl (lv_at hl 2 rfl) ?_
      refine lv_iload_n hx hb dX9_space_73 rfl (lv_at hl 0 rfl) ?_
      refine kV_i (ci := 9) (As := [.int 22]) (rest := [.int 0]) (wc := [(md, .inr (9, [.int 0, .ref m_all, .ref m_deeds, .ref m_trial, .int 0, .ref m_hasImage, .ref m_tape, .ref m_key, .ref m_answered, .int 0, .int 0, .int 0, .ref m_goes, .int 0, .ref m_hotOnes, .ref m_indexed, .ref m_isChanged, .int 0, .ref m_valueNow, .int 0, .int (-1), .int 0, .ref m_didSome, .ref m_sizes, .ref m_ends])), (m_all, aI cs 51207 f_m_all)]) (wr := []) hx hb hml hown hu hK hP hD hS hA hl.1 (c_X9_stayingOn l D cs H.size 22 md m_all f_m_all m_deeds m_trial m_hasImage m_tape m_key m_answered m_goes m_hotOnes m_indexed m_isChanged m_valueNow m_didSome m_sizes m_ends 0 0 0 z_all) (gV u_1204 u_1206 u_17 u_76 u_1207) hd_X9_stayingOn ⟨(Nat.le_of_ble_eq_true rfl), (Nat.le_of_ble_eq_true rfl)⟩ [0, 1] [] rfl rfl rfl rfl (by decide) rfl 0 rfl rfl rfl (Nat.le_of_ble_eq_true rfl) dX9_space_74 ⟨(Nat.le_of_ble_eq_true rfl), (Nat.le_of_ble_eq_true rfl)⟩ (fun r_329 ut_330 H locs hw_331 hP hD hS => ?_)
      have hP : va_P D vwCl [(md, .inr (9, [.int 0, .ref m_all, .ref m_deeds, .ref m_trial, .int 0, .ref m_hasImage, .ref m_tape, .ref m_key, .ref m_answered, .int 0, .int 0, .int 0, .ref m_goes, .int 0, .ref m_hotOnes, .ref m_indexed, .ref m_isChanged, .int 0, .ref m_valueNow, .int 0, .int (-1), .int 0, .ref m_didSome, .ref m_sizes, .ref m_ends])), (m_all, aI cs 51207 f_m_all)] H := hP
      have hD : va_D A [(md, .inr (9, [.int 0, .ref m_all, .ref m_deeds, .ref m_trial, .int 0, .ref m_hasImage, .ref m_tape, .ref m_key, .ref m_answered, .int 0, .int 0, .int 0, .ref m_goes, .int 0, .ref m_hotOnes, .ref m_indexed, .ref m_isChanged, .int 0, .ref m_valueNow, .int 0, .int (-1), .int 0, .ref m_didSome, .ref m_sizes, .ref m_ends])), (m_all, aI cs 51207 f_m_all)] := hD
      have er_332 := hw_331
      subst er_332
      refine lv_aload_n hx hb dX9_space_77 rfl (lv_at hl 2 rfl) ?_
      refine lv_iload_n hx hb dX9_space_78 rfl (lv_at hl 0 rfl) ?_
      refine kV_i (ci := 9) (As := [.int 22]) (rest := [.int 0, .int 0]) (wc := [(md, .inr (9, [.int 0, .ref m_all, .ref m_deeds, .ref m_trial, .int 0, .ref m_hasImage, .ref m_tape, .ref m_key, .ref m_answered, .int 0, .int 0, .int 0, .ref m_goes, .int 0, .ref m_hotOnes, .ref m_indexed, .ref m_isChanged, .int 0, .ref m_valueNow, .int 0, .int (-1), .int 0, .ref m_didSome, .ref m_sizes, .ref m_ends])), (m_all, aI cs 51207 f_m_all)]) (wr := []) hx hb hml hown hu hK hP hD hS hA hl.1 (c_X9_liveOn l D cs H.size 22 md m_all f_m_all m_deeds m_trial m_hasImage m_tape m_key m_answered m_goes m_hotOnes m_indexed m_isChanged m_valueNow m_didSome m_sizes m_ends 0 0 0 z_all) (gV u_1482 u_1484 u_60 u_76 u_1485) hd_X9_liveOn ⟨(Nat.le_of_ble_eq_true rfl), (Nat.le_of_ble_eq_true rfl)⟩ [0, 1] [] rfl rfl rfl rfl (by decide) rfl 0 rfl rfl rfl (Nat.le_of_ble_eq_true rfl) dX9_space_79 ⟨(Nat.le_of_ble_eq_true rfl), (Nat.le_of_ble_eq_true rfl)⟩ (fun r_333 ut_334 H locs hw_335 hP hD hS => ?_)
      have hP : va_P D vwCl [(md, .inr (9, [.int 0, .ref m_all, .ref m_deeds, .ref m_trial, .int 0, .ref m_hasImage, .ref m_tape, .ref m_key, .ref m_answered, .int 0, .int 0, .int 0, .ref m_goes, .int 0, .ref m_hotOnes, .ref m_indexed, .ref m_isChanged, .int 0, .ref m_valueNow, .int 0, .int (-1), .int 0, .ref m_didSome, .ref m_sizes, .ref m_ends])), (m_all, aI cs 51207 f_m_all)] H := hP
      have hD : va_D A [(md, .inr (9, [.int 0, .ref m_all, .ref m_deeds, .ref m_trial, .int 0, .ref m_hasImage, .ref m_tape, .ref m_key, .ref m_answered, .int 0, .int 0, .int 0, .ref m_goes, .int 0, .ref m_hotOnes, .ref m_indexed, .ref m_isChanged, .int 0, .ref m_valueNow, .int 0, .int (-1), .int 0, .ref m_didSome, .ref m_sizes, .ref m_ends])), (m_all, aI cs 51207 f_m_all)] := hD
      have er_336 := hw_335
      subst er_336
      refine lv_isub hx hb dX9_space_82 ?_
      refine tpi (y := 0) (by decide) ?_
      refine lv_iadd hx hb dX9_space_83 ?_
      refine tpi (y := 0) (by decide) ?_
      refine lv_istore_n (lv' := [(2, .int 0), (3, .int 22), (0, .ref md), (1, .int 1)]) hx hb dX9_space_84 rfl hl (by decide) rfl (fun ls hl => ?_)
      refine lv_goto (tgt := 146) hx hb dX9_space_85 (by decide) ?_
      refine lv_iinc (v := 23) (lv' := [(3, .int 23), (2, .int 0), (0, .ref md), (1, .int 1)]) hx hb dX9_space_146 hl (k := 1) rfl (by decide) (by decide) rfl (fun ls hl => ?_)
      refine lv_goto (tgt := 24) hx hb dX9_space_149 (by decide) ?_
      refine lv_iload_n hx hb dX9_space_24 rfl (lv_at hl 0 rfl) ?_
      refine lv_bipush (v := 24) hx hb dX9_space_25 (by decide) ?_
      refine lv_icmp_ge (tgt := 152) hx hb dX9_space_27 (by decide) (fun c_337 => absurd c_337 (by decide)) (fun c_337 => ?_)
      refine lv_iload_n hx hb dX9_space_30 rfl (lv_at hl 3 rfl) ?_
      refine lv_tableIn (tgt := 71) hx hb dX9_space_31 (by decide) (by decide) (off := 40) (by decide) (by decide) ?_
      refine lv_iload_n hx hb dX9_space_71 rfl (lv_at hl 1 rfl) ?_
      refine lv_aload_n hx hb dX9_space_72 rfl (lv_at hl 2 rfl) ?_
      refine lv_iload_n hx hb dX9_space_73 rfl (lv_at hl 0 rfl) ?_
      refine kV_i (ci := 9) (As := [.int 23]) (rest := [.int 0]) (wc := [(md, .inr (9, [.int 0, .ref m_all, .ref m_deeds, .ref m_trial, .int 0, .ref m_hasImage, .ref m_tape, .ref m_key, .ref m_answered, .int 0, .int 0, .int 0, .ref m_goes, .int 0, .ref m_hotOnes, .ref m_indexed, .ref m_isChanged, .int 0, .ref m_valueNow, .int 0, .int (-1), .int 0, .ref m_didSome, .ref m_sizes, .ref m_ends])), (m_all, aI cs 51207 f_m_all)]) (wr := []) hx hb hml hown hu hK hP hD hS hA hl.1 (c_X9_stayingOn l D cs H.size 23 md m_all f_m_all m_deeds m_trial m_hasImage m_tape m_key m_answered m_goes m_hotOnes m_indexed m_isChanged m_valueNow m_didSome m_sizes m_ends 0 0 0 z_all) (gV u_1204 u_1206 u_17 u_76 u_1207) hd_X9_stayingOn ⟨(Nat.le_of_ble_eq_true rfl), (Nat.le_of_ble_eq_true rfl)⟩ [0, 1] [] rfl rfl rfl rfl (by decide) rfl 0 rfl rfl rfl (Nat.le_of_ble_eq_true rfl) dX9_space_74 ⟨(Nat.le_of_ble_eq_true rfl), (Nat.le_of_ble_eq_true rfl)⟩ (fun r_338 ut_339 H locs hw_340 hP hD hS => ?_)
      have hP : va_P D vwCl [(md, .inr (9, [.int 0, .ref m_all, .ref m_deeds, .ref m_trial, .int 0, .ref m_hasImage, .ref m_tape, .ref m_key, .ref m_answered, .int 0, .int 0, .int 0, .ref m_goes, .int 0, .ref m_hotOnes, .ref m_indexed, .ref m_isChanged, .int 0, .ref m_valueNow, .int 0, .int (-1), .int 0, .ref m_didSome, .ref m_sizes, .ref m_ends])), (m_all, aI cs 51207 f_m_all)] H := hP
      have hD : va_D A [(md, .inr (9, [.int 0, .ref m_all, .ref m_deeds, .ref m_trial, .int 0, .ref m_hasImage, .ref m_tape, .ref m_key, .ref m_answered, .int 0, .int 0, .int 0, .ref m_goes, .int 0, .ref m_hotOnes, .ref m_indexed, .ref m_isChanged, .int 0, .ref m_valueNow, .int 0, .int (-1), .int 0, .ref m_didSome, .ref m_sizes, .ref m_ends])), (m_all, aI cs 51207 f_m_all)] := hD
      have er_341 := hw_340
      subst er_341
      refine lv_aload_n hx hb dX9_space_77 rfl (lv_at hl 2 rfl) ?_
      refine lv_iload_n hx hb dX9_space_78 rfl (lv_at hl 0 rfl) ?_
      refine kV_i (ci := 9) (As := [.int 23]) (rest := [.int 0, .int 0]) (wc := [(md, .inr (9, [.int 0, .ref m_all, .ref m_deeds, .ref m_trial, .int 0, .ref m_hasImage, .ref m_tape, .ref m_key, .ref m_answered, .int 0, .int 0, .int 0, .ref m_goes, .int 0, .ref m_hotOnes, .ref m_indexed, .ref m_isChanged, .int 0, .ref m_valueNow, .int 0, .int (-1), .int 0, .ref m_didSome, .ref m_sizes, .ref m_ends])), (m_all, aI cs 51207 f_m_all)]) (wr := []) hx hb hml hown hu hK hP hD hS hA hl.1 (c_X9_liveOn l D cs H.size 23 md m_all f_m_all m_deeds m_trial m_hasImage m_tape m_key m_answered m_goes m_hotOnes m_indexed m_isChanged m_valueNow m_didSome m_sizes m_ends 0 0 0 z_all) (gV u_1482 u_1484 u_60 u_76 u_1485) hd_X9_liveOn ⟨(Nat.le_of_ble_eq_true rfl), (Nat.le_of_ble_eq_true rfl)⟩ [0, 1] [] rfl rfl rfl rfl (by decide) rfl 0 rfl rfl rfl (Nat.le_of_ble_eq_true rfl) dX9_space_79 ⟨(Nat.le_of_ble_eq_true rfl), (Nat.le_of_ble_eq_true rfl)⟩ (fun r_342 ut_343 H locs hw_344 hP hD hS => ?_)
      have hP : va_P D vwCl [(md, .inr (9, [.int 0, .ref m_all, .ref m_deeds, .ref m_trial, .int 0, .ref m_hasImage, .ref m_tape, .ref m_key, .ref m_answered, .int 0, .int 0, .int 0, .ref m_goes, .int 0, .ref m_hotOnes, .ref m_indexed, .ref m_isChanged, .int 0, .ref m_valueNow, .int 0, .int (-1), .int 0, .ref m_didSome, .ref m_sizes, .ref m_ends])), (m_all, aI cs 51207 f_m_all)] H := hP
      have hD : va_D A [(md, .inr (9, [.int 0, .ref m_all, .ref m_deeds, .ref m_trial, .int 0, .ref m_hasImage, .ref m_tape, .ref m_key, .ref m_answered, .int 0, .int 0, .int 0, .ref m_goes, .int 0, .ref m_hotOnes, .ref m_indexed, .ref m_isChanged, .int 0, .ref m_valueNow, .int 0, .int (-1), .int 0, .ref m_didSome, .ref m_sizes, .ref m_ends])), (m_all, aI cs 51207 f_m_all)] := hD
      have er_345 := hw_344
      subst er_345
      refine lv_isub hx hb dX9_space_82 ?_
      refine tpi (y := 0) (by decide) ?_
      refine lv_iadd hx hb dX9_space_83 ?_
      refine tpi (y := 0) (by decide) ?_
      refine lv_istore_n (lv' := [(2, .int 0), (3, .int 23), (0, .ref md), (1, .int 1)]) hx hb dX9_space_84 rfl hl (by decide) rfl (fun ls hl => ?_)
      refine lv_goto (tgt := 146) hx hb dX9_space_85 (by decide) ?_
      refine lv_iinc (v := 24) (lv' := [(3, .int 24), (2, .int 0), (0, .ref md), (1, .int 1)]) hx hb dX9_space_146 hl (k := 1) rfl (by decide) (by decide) rfl (fun ls hl => ?_)
      refine lv_goto (tgt := 24) hx hb dX9_space_149 (by decide) ?_
      refine lv_iload_n hx hb dX9_space_24 rfl (lv_at hl 0 rfl) ?_
      refine lv_bipush (v := 24) hx hb dX9_space_25 (by decide) ?_
      refine lv_icmp_ge (tgt := 152) hx hb dX9_space_27 (by decide) (fun c_346 => ?_) (fun c_346 => absurd (by decide) c_346)
      refine lv_iload_n hx hb dX9_space_152 rfl (lv_at hl 1 rfl) ?_
      exact hz () hP hD hS (by grind) [] rfl rfl (Nat.le_of_ble_eq_true rfl) (Nat.le_of_ble_eq_true rfl) .int rfl rfl dX9_space_153
    · subst c_8
      refine lv_iconst (v := 0) hx hb dX9_space_20 (by decide) ?_
      refine lv_istore_n (lv' := [(2, .int 0), (0, .ref md), (1, .int 2)]) hx hb dX9_space_21 rfl hl (by decide) rfl (fun ls hl => ?_)
      refine lv_iconst (v := 0) hx hb dX9_space_22 (by decide) ?_
      refine lv_istore_n (lv' := [(3, .int 0), (2, .int 0), (0, .ref md), (1, .int 2)]) hx hb dX9_space_23 rfl hl (by decide) rfl (fun ls hl => ?_)
      refine lv_iload_n hx hb dX9_space_24 rfl (lv_at hl 0 rfl) ?_
      refine lv_bipush (v := 24) hx hb dX9_space_25 (by decide) ?_
      refine lv_icmp_ge (tgt := 152) hx hb dX9_space_27 (by decide) (fun c_347 => absurd c_347 (by decide)) (fun c_347 => ?_)
      refine lv_iload_n hx hb dX9_space_30 rfl (lv_at hl 3 rfl) ?_
      refine lv_tableIn (tgt := 88) hx hb dX9_space_31 (by decide) (by decide) (off := 57) (by decide) (by decide) ?_
      refine lv_iload_n hx hb dX9_space_88 rfl (lv_at hl 1 rfl) ?_
      refine lv_aload_n hx hb dX9_space_89 rfl (lv_at hl 2 rfl) ?_
      refine lv_iload_n hx hb dX9_space_90 rfl (lv_at hl 0 rfl) ?_
      refine kV_i (ci := 9) (As := [.int 0]) (rest := [.int 0]) (wc := [(md, .inr (9, [.int 0, .ref m_all, .ref m_deeds, .ref m_trial, .int 0, .ref m_hasImage, .ref m_tape, .ref m_key, .ref m_answered, .int 0, .int 0, .int 0, .ref m_goes, .int 0, .ref m_hotOnes, .ref m_indexed, .ref m_isChanged, .int 0, .ref m_valueNow, .int 0, .int (-1), .int 0, .ref m_didSome, .ref m_sizes, .ref m_ends])), (m_all, aI cs 51207 f_m_all)]) (wr := []) hx hb hml hown hu hK hP hD hS hA hl.1 (c_X9_deadOn l D cs H.size 0 md m_all f_m_all m_deeds m_trial m_hasImage m_tape m_key m_answered m_goes m_hotOnes m_indexed m_isChanged m_valueNow m_didSome m_sizes m_ends 0 0 0 z_all (by first | decide | grind)) (gV u_1200 u_1202 u_16 u_76 u_1203) hd_X9_deadOn ⟨(Nat.le_of_ble_eq_true rfl), (Nat.le_of_ble_eq_true rfl)⟩ [0, 1] [] rfl rfl rfl rfl (by decide) rfl 0 rfl rfl rfl (Nat.le_of_ble_eq_true rfl) dX9_space_91 ⟨(Nat.le_of_ble_eq_true rfl), (Nat.le_of_ble_eq_true rfl)⟩ (fun r_348 ut_349 H locs hw_350 hP hD hS => ?_)
      have hP : va_P D vwCl [(md, .inr (9, [.int 0, .ref m_all, .ref m_deeds, .ref m_trial, .int 0, .ref m_hasImage, .ref m_tape, .ref m_key, .ref m_answered, .int 0, .int 0, .int 0, .ref m_goes, .int 0, .ref m_hotOnes, .ref m_indexed, .ref m_isChanged, .int 0, .ref m_valueNow, .int 0, .int (-1), .int 0, .ref m_didSome, .ref m_sizes, .ref m_ends])), (m_all, aI cs 51207 f_m_all)] H := hP
      have hD : va_D A [(md, .inr (9, [.int 0, .ref m_all, .ref m_deeds, .ref m_trial, .int 0, .ref m_hasImage, .ref m_tape, .ref m_key, .ref m_answered, .int 0, .int 0, .int 0, .ref m_goes, .int 0, .ref m_hotOnes, .ref m_indexed, .ref m_isChanged, .int 0, .ref m_valueNow, .int 0, .int (-1), .int 0, .ref m_didSome, .ref m_sizes, .ref m_ends])), (m_all, aI cs 51207 f_m_all)] := hD
      have er_351 := hw_350
      subst er_351
      refine lv_iadd hx hb dX9_space_94 ?_
      refine tpi (y := 0) (by decide) ?_
      refine lv_istore_n (lv' := [(2, .int 0), (3, .int 0), (0, .ref md), (1, .int 2)]) hx hb dX9_space_95 rfl hl (by decide) rfl (fun ls hl => ?_)
      refine lv_goto (tgt := 146) hx hb dX9_space_96 (by decide) ?_
      refine lv_iinc (v := 1) (lv' := [(3, .int 1), (2, .int 0), (0, .ref md), (1, .int 2)]) hx hb dX9_space_146 hl (k := 1) rfl (by decide) (by decide) rfl (fun ls hl => ?_)
      refine lv_goto (tgt := 24) hx hb dX9_space_149 (by decide) ?_
      refine lv_iload_n hx hb dX9_space_24 rfl (lv_at hl 0 rfl) ?_
      refine lv_bipush (v := 24) hx hb dX9_space_25 (by decide) ?_
      refine lv_icmp_ge (tgt := 152) hx hb dX9_space_27 (by decide) (fun c_352 => absurd c_352 (by decide)) (fun c_352 => ?_)
      refine lv_iload_n hx hb dX9_space_30 rfl (lv_at hl 3 rfl) ?_
      refine lv_tableIn (tgt := 88) hx hb dX9_space_31 (by decide) (by decide) (off := 57) (by decide) (by decide) ?_
      refine lv_iload_n hx hb dX9_space_88 rfl (lv_at hl 1 rfl) ?_
      refine lv_aload_n hx hb dX9_space_89 rfl (lv_at hl 2 rfl) ?_
      refine lv_iload_n hx hb dX9_space_90 rfl (lv_at hl 0 rfl) ?_
      refine kV_i (ci := 9) (As := [.int 1]) (rest := [.int 0]) (wc := [(md, .inr (9, [.int 0, .ref m_all, .ref m_deeds, .ref m_trial, .int 0, .ref m_hasImage, .ref m_tape, .ref m_key, .ref m_answered, .int 0, .int 0, .int 0, .ref m_goes, .int 0, .ref m_hotOnes, .ref m_indexed, .ref m_isChanged, .int 0, .ref m_valueNow, .int 0, .int (-1), .int 0, .ref m_didSome, .ref m_sizes, .ref m_ends])), (m_all, aI cs 51207 f_m_all)]) (wr := []) hx hb hml hown hu hK hP hD hS hA hl.1 (c_X9_deadOn l D cs H.size 1 md m_all f_m_all m_deeds m_trial m_hasImage m_tape m_key m_answered m_goes m_hotOnes m_indexed m_isChanged m_valueNow m_didSome m_sizes m_ends 0 0 0 z_all (by first | decide | grind)) (gV u_1200 u_1202 u_16 u_76 u_1203) hd_X9_deadOn ⟨(Nat.le_of_ble_eq_true rfl), (Nat.le_of_ble_eq_true rfl)⟩ [0, 1] [] rfl rfl rfl rfl (by decide) rfl 0 rfl rfl rfl (Nat.le_of_ble_eq_true rfl) dX9_space_91 ⟨(Nat.le_of_ble_eq_true rfl), (Nat.le_of_ble_eq_true rfl)⟩ (fun r_353 ut_354 H locs hw_355 hP hD hS => ?_)
      have hP : va_P D vwCl [(md, .inr (9, [.int 0, .ref m_all, .ref m_deeds, .ref m_trial, .int 0, .ref m_hasImage, .ref m_tape, .ref m_key, .ref m_answered, .int 0, .int 0, .int 0, .ref m_goes, .int 0, .ref m_hotOnes, .ref m_indexed, .ref m_isChanged, .int 0, .ref m_valueNow, .int 0, .int (-1), .int 0, .ref m_didSome, .ref m_sizes, .ref m_ends])), (m_all, aI cs 51207 f_m_all)] H := hP
      have hD : va_D A [(md, .inr (9, [.int 0, .ref m_all, .ref m_deeds, .ref m_trial, .int 0, .ref m_hasImage, .ref m_tape, .ref m_key, .ref m_answered, .int 0, .int 0, .int 0, .ref m_goes, .int 0, .ref m_hotOnes, .ref m_indexed, .ref m_isChanged, .int 0, .ref m_valueNow, .int 0, .int (-1), .int 0, .ref m_didSome, .ref m_sizes, .ref m_ends])), (m_all, aI cs 51207 f_m_all)] := hD
      have er_356 := hw_355
      subst er_356
      refine lv_iadd hx hb dX9_space_94 ?_
      refine tpi (y := 0) (by decide) ?_
      refine lv_istore_n (lv' := [(2, .int 0), (3, .int 1), (0, .ref md), (1, .int 2)]) hx hb dX9_space_95 rfl hl (by decide) rfl (fun ls hl => ?_)
      refine lv_goto (tgt := 146) hx hb dX9_space_96 (by decide) ?_
      refine lv_iinc (v := 2) (lv' := [(3, .int 2), (2, .int 0), (0, .ref md), (1, .int 2)]) hx hb dX9_space_146 hl (k := 1) rfl (by decide) (by decide) rfl (fun ls hl => ?_)
      refine lv_goto (tgt := 24) hx hb dX9_space_149 (by decide) ?_
      refine lv_iload_n hx hb dX9_space_24 rfl (lv_at hl 0 rfl) ?_
      refine lv_bipush (v := 24) hx hb dX9_space_25 (by decide) ?_
      refine lv_icmp_ge (tgt := 152) hx hb dX9_space_27 (by decide) (fun c_357 => absurd c_357 (by decide)) (fun c_357 => ?_)
      refine lv_iload_n hx hb dX9_space_30 rfl (lv_at hl 3 rfl) ?_
      refine lv_tableIn (tgt := 88) hx hb dX9_space_31 (by decide) (by decide) (off := 57) (by decide) (by decide) ?_
      refine lv_iload_n hx hb dX9_space_88 rfl (lv_at hl 1 rfl) ?_
      refine lv_aload_n hx hb dX9_space_89 rfl (lv_at hl 2 rfl) ?_
      refine lv_iload_n hx hb dX9_space_90 rfl (lv_at hl 0 rfl) ?_
      refine kV_i (ci := 9) (As := [.int 2]) (rest := [.int 0]) (wc := [(md, .inr (9, [.int 0, .ref m_all, .ref m_deeds, .ref m_trial, .int 0, .ref m_hasImage, .ref m_tape, .ref m_key, .ref m_answered, .int 0, .int 0, .int 0, .ref m_goes, .int 0, .ref m_hotOnes, .ref m_indexed, .ref m_isChanged, .int 0, .ref m_valueNow, .int 0, .int (-1), .int 0, .ref m_didSome, .ref m_sizes, .ref m_ends])), (m_all, aI cs 51207 f_m_all)]) (wr := []) hx hb hml hown hu hK hP hD hS hA hl.1 (c_X9_deadOn l D cs H.size 2 md m_all f_m_all m_deeds m_trial m_hasImage m_tape m_key m_answered m_goes m_hotOnes m_indexed m_isChanged m_valueNow m_didSome m_sizes m_ends 0 0 0 z_all (by first | decide | grind)) (gV u_1200 u_1202 u_16 u_76 u_1203) hd_X9_deadOn ⟨(Nat.le_of_ble_eq_true rfl), (Nat.le_of_ble_eq_true rfl)⟩ [0, 1] [] rfl rfl rfl rfl (by decide) rfl 0 rfl rfl rfl (Nat.le_of_ble_eq_true rfl) dX9_space_91 ⟨(Nat.le_of_ble_eq_true rfl), (Nat.le_of_ble_eq_true rfl)⟩ (fun r_358 ut_359 H locs hw_360 hP hD hS => ?_)
      have hP : va_P D vwCl [(md, .inr (9, [.int 0, .ref m_all, .ref m_deeds, .ref m_trial, .int 0, .ref m_hasImage, .ref m_tape, .ref m_key, .ref m_answered, .int 0, .int 0, .int 0, .ref m_goes, .int 0, .ref m_hotOnes, .ref m_indexed, .ref m_isChanged, .int 0, .ref m_valueNow, .int 0, .int (-1), .int 0, .ref m_didSome, .ref m_sizes, .ref m_ends])), (m_all, aI cs 51207 f_m_all)] H := hP
      have hD : va_D A [(md, .inr (9, [.int 0, .ref m_all, .ref m_deeds, .ref m_trial, .int 0, .ref m_hasImage, .ref m_tape, .ref m_key, .ref m_answered, .int 0, .int 0, .int 0, .ref m_goes, .int 0, .ref m_hotOnes, .ref m_indexed, .ref m_isChanged, .int 0, .ref m_valueNow, .int 0, .int (-1), .int 0, .ref m_didSome, .ref m_sizes, .ref m_ends])), (m_all, aI cs 51207 f_m_all)] := hD
      have er_361 := hw_360
      subst er_361
      refine lv_iadd hx hb dX9_space_94 ?_
      refine tpi (y := 0) (by decide) ?_
      refine lv_istore_n (lv' := [(2, .int 0), (3, .int 2), (0, .ref md), (1, .int 2)]) hx hb dX9_space_95 rfl hl (by decide) rfl (fun ls hl => ?_)
      refine lv_goto (tgt := 146) hx hb dX9_space_96 (by decide) ?_
      refine lv_iinc (v := 3) (lv' := [(3, .int 3), (2, .int 0), (0, .ref md), (1, .int 2)]) hx hb dX9_space_146 hl (k := 1) rfl (by decide) (by decide) rfl (fun ls hl => ?_)
      refine lv_goto (tgt := 24) hx hb dX9_space_149 (by decide) ?_
      refine lv_iload_n hx hb dX9_space_24 rfl (lv_at hl 0 rfl) ?_
      refine lv_bipush (v := 24) hx hb dX9_space_25 (by decide) ?_
      refine lv_icmp_ge (tgt := 152) hx hb dX9_space_27 (by decide) (fun c_362 => absurd c_362 (by decide)) (fun c_362 => ?_)
      refine lv_iload_n hx hb dX9_space_30 rfl (lv_at hl 3 rfl) ?_
      refine lv_tableIn (tgt := 88) hx hb dX9_space_31 (by decide) (by decide) (off := 57) (by decide) (by decide) ?_
      refine lv_iload_n hx hb dX9_space_88 rfl (lv_at hl 1 rfl) ?_
      refine lv_aload_n hx hb dX9_space_89 rfl (lv_at hl 2 rfl) ?_
      refine lv_iload_n hx hb dX9_space_90 rfl (lv_at hl 0 rfl) ?_
      refine kV_i (ci := 9) (As := [.int 3]) (rest := [.int 0]) (wc := [(md, .inr (9, [.int 0, .ref m_all, .ref m_deeds, .ref m_trial, .int 0, .ref m_hasImage, .ref m_tape, .ref m_key, .ref m_answered, .int 0, .int 0, .int 0, .ref m_goes, .int 0, .ref m_hotOnes, .ref m_indexed, .ref m_isChanged, .int 0, .ref m_valueNow, .int 0, .int (-1), .int 0, .ref m_didSome, .ref m_sizes, .ref m_ends])), (m_all, aI cs 51207 f_m_all)]) (wr := []) hx hb hml hown hu hK hP hD hS hA hl.1 (c_X9_deadOn l D cs H.size 3 md m_all f_m_all m_deeds m_trial m_hasImage m_tape m_key m_answered m_goes m_hotOnes m_indexed m_isChanged m_valueNow m_didSome m_sizes m_ends 0 0 0 z_all (by first | decide | grind)) (gV u_1200 u_1202 u_16 u_76 u_1203) hd_X9_deadOn ⟨(Nat.le_of_ble_eq_true rfl), (Nat.le_of_ble_eq_true rfl)⟩ [0, 1] [] rfl rfl rfl rfl (by decide) rfl 0 rfl rfl rfl (Nat.le_of_ble_eq_true rfl) dX9_space_91 ⟨(Nat.le_of_ble_eq_true rfl), (Nat.le_of_ble_eq_true rfl)⟩ (fun r_363 ut_364 H locs hw_365 hP hD hS => ?_)
      have hP : va_P D vwCl [(md, .inr (9, [.int 0, .ref m_all, .ref m_deeds, .ref m_trial, .int 0, .ref m_hasImage, .ref m_tape, .ref m_key, .ref m_answered, .int 0, .int 0, .int 0, .ref m_goes, .int 0, .ref m_hotOnes, .ref m_indexed, .ref m_isChanged, .int 0, .ref m_valueNow, .int 0, .int (-1), .int 0, .ref m_didSome, .ref m_sizes, .ref m_ends])), (m_all, aI cs 51207 f_m_all)] H := hP
      have hD : va_D A [(md, .inr (9, [.int 0, .ref m_all, .ref m_deeds, .ref m_trial, .int 0, .ref m_hasImage, .ref m_tape, .ref m_key, .ref m_answered, .int 0, .int 0, .int 0, .ref m_goes, .int 0, .ref m_hotOnes, .ref m_indexed, .ref m_isChanged, .int 0, .ref m_valueNow, .int 0, .int (-1), .int 0, .ref m_didSome, .ref m_sizes, .ref m_ends])), (m_all, aI cs 51207 f_m_all)] := hD
      have er_366 := hw_365
      subst er_366
      refine lv_iadd hx hb dX9_space_94 ?_
      refine tpi (y := 0) (by decide) ?_
      refine lv_istore_n (lv' := [(2, .int 0), (3, .int 3), (0, .ref md), (1, .int 2)]) hx hb dX9_space_95 rfl hl (by decide) rfl (fun ls hl => ?_)
      refine lv_goto (tgt := 146) hx hb dX9_space_96 (by decide) ?_
      refine lv_iinc (v := 4) (lv' := [(3, .int 4), (2, .int 0), (0, .ref md), (1, .int 2)]) hx hb dX9_space_146 hl (k := 1) rfl (by decide) (by decide) rfl (fun ls hl => ?_)
      refine lv_goto (tgt := 24) hx hb dX9_space_149 (by decide) ?_
      refine lv_iload_n hx hb dX9_space_24 rfl (lv_at hl 0 rfl) ?_
      refine lv_bipush (v := 24) hx hb dX9_space_25 (by decide) ?_
      refine lv_icmp_ge (tgt := 152) hx hb dX9_space_27 (by decide) (fun c_367 => absurd c_367 (by decide)) (fun c_367 => ?_)
      refine lv_iload_n hx hb dX9_space_30 rfl (lv_at hl 3 rfl) ?_
      refine lv_tableIn (tgt := 88) hx hb dX9_space_31 (by decide) (by decide) (off := 57) (by decide) (by decide) ?_
      refine lv_iload_n hx hb dX9_space_88 rfl (lv_at hl 1 rfl) ?_
      refine lv_aload_n hx hb dX9_space_89 rfl (lv_at hl 2 rfl) ?_
      refine lv_iload_n hx hb dX9_space_90 rfl (lv_at hl 0 rfl) ?_
      refine kV_i (ci := 9) (As := [.int 4]) (rest := [.int 0]) (wc := [(md, .inr (9, [.int 0, .ref m_all, .ref m_deeds, .ref m_trial, .int 0, .ref m_hasImage, .ref m_tape, .ref m_key, .ref m_answered, .int 0, .int 0, .int 0, .ref m_goes, .int 0, .ref m_hotOnes, .ref m_indexed, .ref m_isChanged, .int 0, .ref m_valueNow, .int 0, .int (-1), .int 0, .ref m_didSome, .ref m_sizes, .ref m_ends])), (m_all, aI cs 51207 f_m_all)]) (wr := []) hx hb hml hown hu hK hP hD hS hA hl.1 (c_X9_deadOn l D cs H.size 4 md m_all f_m_all m_deeds m_trial m_hasImage m_tape m_key m_answered m_goes m_hotOnes m_indexed m_isChanged m_valueNow m_didSome m_sizes m_ends 0 0 0 z_all (by first | decide | grind)) (gV u_1200 u_1202 u_16 u_76 u_1203) hd_X9_deadOn ⟨(Nat.le_of_ble_eq_true rfl), (Nat.le_of_ble_eq_true rfl)⟩ [0, 1] [] rfl rfl rfl rfl (by decide) rfl 0 rfl rfl rfl (Nat.le_of_ble_eq_true rfl) dX9_space_91 ⟨(Nat.le_of_ble_eq_true rfl), (Nat.le_of_ble_eq_true rfl)⟩ (fun r_368 ut_369 H locs hw_370 hP hD hS => ?_)
      have hP : va_P D vwCl [(md, .inr (9, [.int 0, .ref m_all, .ref m_deeds, .ref m_trial, .int 0, .ref m_hasImage, .ref m_tape, .ref m_key, .ref m_answered, .int 0, .int 0, .int 0, .ref m_goes, .int 0, .ref m_hotOnes, .ref m_indexed, .ref m_isChanged, .int 0, .ref m_valueNow, .int 0, .int (-1), .int 0, .ref m_didSome, .ref m_sizes, .ref m_ends])), (m_all, aI cs 51207 f_m_all)] H := hP
      have hD : va_D A [(md, .inr (9, [.int 0, .ref m_all, .ref m_deeds, .ref m_trial, .int 0, .ref m_hasImage, .ref m_tape, .ref m_key, .ref m_answered, .int 0, .int 0, .int 0, .ref m_goes, .int 0, .ref m_hotOnes, .ref m_indexed, .ref m_isChanged, .int 0, .ref m_valueNow, .int 0, .int (-1), .int 0, .ref m_didSome, .ref m_sizes, .ref m_ends])), (m_all, aI cs 51207 f_m_all)] := hD
      have er_371 := hw_370
      subst er_371
      refine lv_iadd hx hb dX9_space_94 ?_
      refine tpi (y := 0) (by decide) ?_
      refine lv_istore_n (lv' := [(2, .int 0), (3, .int 4), (0, .ref md), (1, .int 2)]) hx hb dX9_space_95 rfl hl (by decide) rfl (fun ls hl => ?_)
      refine lv_goto (tgt := 146) hx hb dX9_space_96 (by decide) ?_
      refine lv_iinc (v := 5) (lv' := [(3, .int 5), (2, .int 0), (0, .ref md), (1, .int 2)]) hx hb dX9_space_146 hl (k := 1) rfl (by decide) (by decide) rfl (fun ls hl => ?_)
      refine lv_goto (tgt := 24) hx hb dX9_space_149 (by decide) ?_
      refine lv_iload_n hx hb dX9_space_24 rfl (lv_at hl 0 rfl) ?_
      refine lv_bipush (v := 24) hx hb dX9_space_25 (by decide) ?_
      refine lv_icmp_ge (tgt := 152) hx hb dX9_space_27 (by decide) (fun c_372 => absurd c_372 (by decide)) (fun c_372 => ?_)
      refine lv_iload_n hx hb dX9_space_30 rfl (lv_at hl 3 rfl) ?_
      refine lv_tableIn (tgt := 88) hx hb dX9_space_31 (by decide) (by decide) (off := 57) (by decide) (by decide) ?_
      refine lv_iload_n hx hb dX9_space_88 rfl (lv_at hl 1 rfl) ?_
      refine lv_aload_n hx hb dX9_space_89 rfl (lv_at hl 2 rfl) ?_
      refine lv_iload_n hx hb dX9_space_90 rfl (lv_at hl 0 rfl) ?_
      refine kV_i (ci := 9) (As := [.int 5]) (rest := [.int 0]) (wc := [(md, .inr (9, [.int 0, .ref m_all, .ref m_deeds, .ref m_trial, .int 0, .ref m_hasImage, .ref m_tape, .ref m_key, .ref m_answered, .int 0, .int 0, .int 0, .ref m_goes, .int 0, .ref m_hotOnes, .ref m_indexed, .ref m_isChanged, .int 0, .ref m_valueNow, .int 0, .int (-1), .int 0, .ref m_didSome, .ref m_sizes, .ref m_ends])), (m_all, aI cs 51207 f_m_all)]) (wr := []) hx hb hml hown hu hK hP hD hS hA hl.1 (c_X9_deadOn l D cs H.size 5 md m_all f_m_all m_deeds m_trial m_hasImage m_tape m_key m_answered m_goes m_hotOnes m_indexed m_isChanged m_valueNow m_didSome m_sizes m_ends 0 0 0 z_all (by first | decide | grind)) (gV u_1200 u_1202 u_16 u_76 u_1203) hd_X9_deadOn ⟨(Nat.le_of_ble_eq_true rfl), (Nat.le_of_ble_eq_true rfl)⟩ [0, 1] [] rfl rfl rfl rfl (by decide) rfl 0 rfl rfl rfl (Nat.le_of_ble_eq_true rfl) dX9_space_91 ⟨(Nat.le_of_ble_eq_true rfl), (Nat.le_of_ble_eq_true rfl)⟩ (fun r_373 ut_374 H locs hw_375 hP hD hS => ?_)
      have hP : va_P D vwCl [(md, .inr (9, [.int 0, .ref m_all, .ref m_deeds, .ref m_trial, .int 0, .ref m_hasImage, .ref m_tape, .ref m_key, .ref m_answered, .int 0, .int 0, .int 0, .ref m_goes, .int 0, .ref m_hotOnes, .ref m_indexed, .ref m_isChanged, .int 0, .ref m_valueNow, .int 0, .int (-1), .int 0, .ref m_didSome, .ref m_sizes, .ref m_ends])), (m_all, aI cs 51207 f_m_all)] H := hP
      have hD : va_D A [(md, .inr (9, [.int 0, .ref m_all, .ref m_deeds, .ref m_trial, .int 0, .ref m_hasImage, .ref m_tape, .ref m_key, .ref m_answered, .int 0, .int 0, .int 0, .ref m_goes, .int 0, .ref m_hotOnes, .ref m_indexed, .ref m_isChanged, .int 0, .ref m_valueNow, .int 0, .int (-1), .int 0, .ref m_didSome, .ref m_sizes, .ref m_ends])), (m_all, aI cs 51207 f_m_all)] := hD
      have er_376 := hw_375
      subst er_376
      refine lv_iadd hx hb dX9_space_94 ?_
      refine tpi (y := 0) (by decide) ?_
      refine lv_istore_n (lv' := [(2, .int 0), (3, .int 5), (0, .ref md), (1, .int 2)]) hx hb dX9_space_95 rfl hl (by decide) rfl (fun ls hl => ?_)
      refine lv_goto (tgt := 146) hx hb dX9_space_96 (by decide) ?_
      refine lv_iinc (v := 6) (lv' := [(3, .int 6), (2, .int 0), (0, .ref md), (1, .int 2)]) hx hb dX9_space_146 hl (k := 1) rfl (by decide) (by decide) rfl (fun ls hl => ?_)
      refine lv_goto (tgt := 24) hx hb dX9_space_149 (by decide) ?_
      refine lv_iload_n hx hb dX9_space_24 rfl (lv_at hl 0 rfl) ?_
      refine lv_bipush (v := 24) hx hb dX9_space_25 (by decide) ?_
      refine lv_icmp_ge (tgt := 152) hx hb dX9_space_27 (by decide) (fun c_377 => absurd c_377 (by decide)) (fun c_377 => ?_)
      refine lv_iload_n hx hb dX9_space_30 rfl (lv_at hl 3 rfl) ?_
      refine lv_tableIn (tgt := 88) hx hb dX9_space_31 (by decide) (by decide) (off := 57) (by decide) (by decide) ?_
      refine lv_iload_n hx hb dX9_space_88 rfl (lv_at hl 1 rfl) ?_
      refine lv_aload_n hx hb dX9_space_89 rfl (lv_at hl 2 rfl) ?_
      refine lv_iload_n hx hb dX9_space_90 rfl (lv_at hl 0 rfl) ?_
      refine kV_i (ci := 9) (As := [.int 6]) (rest := [.int 0]) (wc := [(md, .inr (9, [.int 0, .ref m_all, .ref m_deeds, .ref m_trial, .int 0, .ref m_hasImage, .ref m_tape, .ref m_key, .ref m_answered, .int 0, .int 0, .int 0, .ref m_goes, .int 0, .ref m_hotOnes, .ref m_indexed, .ref m_isChanged, .int 0, .ref m_valueNow, .int 0, .int (-1), .int 0, .ref m_didSome, .ref m_sizes, .ref m_ends])), (m_all, aI cs 51207 f_m_all)]) (wr := []) hx hb hml hown hu hK hP hD hS hA hl.1 (c_X9_deadOn l D cs H.size 6 md m_all f_m_all m_deeds m_trial m_hasImage m_tape m_key m_answered m_goes m_hotOnes m_indexed m_isChanged m_valueNow m_didSome m_sizes m_ends 0 0 0 z_all (by first | decide | grind)) (gV u_1200 u_1202 u_16 u_76 u_1203) hd_X9_deadOn ⟨(Nat.le_of_ble_eq_true rfl), (Nat.le_of_ble_eq_true rfl)⟩ [0, 1] [] rfl rfl rfl rfl (by decide) rfl 0 rfl rfl rfl (Nat.le_of_ble_eq_true rfl) dX9_space_91 ⟨(Nat.le_of_ble_eq_true rfl), (Nat.le_of_ble_eq_true rfl)⟩ (fun r_378 ut_379 H locs hw_380 hP hD hS => ?_)
      have hP : va_P D vwCl [(md, .inr (9, [.int 0, .ref m_all, .ref m_deeds, .ref m_trial, .int 0, .ref m_hasImage, .ref m_tape, .ref m_key, .ref m_answered, .int 0, .int 0, .int 0, .ref m_goes, .int 0, .ref m_hotOnes, .ref m_indexed, .ref m_isChanged, .int 0, .ref m_valueNow, .int 0, .int (-1), .int 0, .ref m_didSome, .ref m_sizes, .ref m_ends])), (m_all, aI cs 51207 f_m_all)] H := hP
      have hD : va_D A [(md, .inr (9, [.int 0, .ref m_all, .ref m_deeds, .ref m_trial, .int 0, .ref m_hasImage, .ref m_tape, .ref m_key, .ref m_answered, .int 0, .int 0, .int 0, .ref m_goes, .int 0, .ref m_hotOnes, .ref m_indexed, .ref m_isChanged, .int 0, .ref m_valueNow, .int 0, .int (-1), .int 0, .ref m_didSome, .ref m_sizes, .ref m_ends])), (m_all, aI cs 51207 f_m_all)] := hD
      have er_381 := hw_380
      subst er_381
      refine lv_iadd hx hb dX9_space_94 ?_
      refine tpi (y := 0) (by decide) ?_
      refine lv_istore_n (lv' := [(2, .int 0), (3, .int 6), (0, .ref md), (1, .int 2)]) hx hb dX9_space_95 rfl hl (by decide) rfl (fun ls hl => ?_)
      refine lv_goto (tgt := 146) hx hb dX9_space_96 (by decide) ?_
      refine lv_iinc (v := 7) (lv' := [(3, .int 7), (2, .int 0), (0, .ref md), (1, .int 2)]) hx hb dX9_space_146 hl (k := 1) rfl (by decide) (by decide) rfl (fun ls hl => ?_)
      refine lv_goto (tgt := 24) hx hb dX9_space_149 (by decide) ?_
      refine lv_iload_n hx hb dX9_space_24 rfl (lv_at hl 0 rfl) ?_
      refine lv_bipush (v := 24) hx hb dX9_space_25 (by decide) ?_
      refine lv_icmp_ge (tgt := 152) hx hb dX9_space_27 (by decide) (fun c_382 => absurd c_382 (by decide)) (fun c_382 => ?_)
      refine lv_iload_n hx hb dX9_space_30 rfl (lv_at hl 3 rfl) ?_
      refine lv_tableIn (tgt := 88) hx hb dX9_space_31 (by decide) (by decide) (off := 57) (by decide) (by decide) ?_
      refine lv_iload_n hx hb dX9_space_88 rfl (lv_at hl 1 rfl) ?_
      refine lv_aload_n hx hb dX9_space_89 rfl (lv_at hl 2 rfl) ?_
      refine lv_iload_n hx hb dX9_space_90 rfl (lv_at hl 0 rfl) ?_
      refine kV_i (ci := 9) (As := [.int 7]) (rest := [.int 0]) (wc := [(md, .inr (9, [.int 0, .ref m_all, .ref m_deeds, .ref m_trial, .int 0, .ref m_hasImage, .ref m_tape, .ref m_key, .ref m_answered, .int 0, .int 0, .int 0, .ref m_goes, .int 0, .ref m_hotOnes, .ref m_indexed, .ref m_isChanged, .int 0, .ref m_valueNow, .int 0, .int (-1), .int 0, .ref m_didSome, .ref m_sizes, .ref m_ends])), (m_all, aI cs 51207 f_m_all)]) (wr := []) hx hb hml hown hu hK hP hD hS hA hl.1 (c_X9_deadOn l D cs H.size 7 md m_all f_m_all m_deeds m_trial m_hasImage m_tape m_key m_answered m_goes m_hotOnes m_indexed m_isChanged m_valueNow m_didSome m_sizes m_ends 0 0 0 z_all (by first | decide | grind)) (gV u_1200 u_1202 u_16 u_76 u_1203) hd_X9_deadOn ⟨(Nat.le_of_ble_eq_true rfl), (Nat.le_of_ble_eq_true rfl)⟩ [0, 1] [] rfl rfl rfl rfl (by decide) rfl 0 rfl rfl rfl (Nat.le_of_ble_eq_true rfl) dX9_space_91 ⟨(Nat.le_of_ble_eq_true rfl), (Nat.le_of_ble_eq_true rfl)⟩ (fun r_383 ut_384 H locs hw_385 hP hD hS => ?_)
      have hP : va_P D vwCl [(md, .inr (9, [.int 0, .ref m_all, .ref m_deeds, .ref m_trial, .int 0, .ref m_hasImage, .ref m_tape, .ref m_key, .ref m_answered, .int 0, .int 0, .int 0, .ref m_goes, .int 0, .ref m_hotOnes, .ref m_indexed, .ref m_isChanged, .int 0, .ref m_valueNow, .int 0, .int (-1), .int 0, .ref m_didSome, .ref m_sizes, .ref m_ends])), (m_all, aI cs 51207 f_m_all)] H := hP
      have hD : va_D A [(md, .inr (9, [.int 0, .ref m_all, .ref m_deeds, .ref m_trial, .int 0, .ref m_hasImage, .ref m_tape, .ref m_key, .ref m_answered, .int 0, .int 0, .int 0, .ref m_goes, .int 0, .ref m_hotOnes, .ref m_indexed, .ref m_isChanged, .int 0, .ref m_valueNow, .int 0, .int (-1), .int 0, .ref m_didSome, .ref m_sizes, .ref m_ends])), (m_all, aI cs 51207 f_m_all)] := hD
      have er_386 := hw_385
      subst er_386
      refine lv_iadd hx hb dX9_space_94 ?_
      refine tpi (y := 0) (by decide) ?_
      refine lv_istore_n (lv' := [(2, .int 0), (3, .int 7), (0, .ref md), (1, .int 2)]) hx hb dX9_space_95 rfl hl (by decide) rfl (fun ls hl => ?_)
      refine lv_goto (tgt := 146) hx hb dX9_space_96 (by decide) ?_
      refine lv_iinc (v := 8) (lv' := [(3, .int 8), (2, .int 0), (0, .ref md), (1, .int 2)]) hx hb dX9_space_146 hl (k := 1) rfl (by decide) (by decide) rfl (fun ls hl => ?_)
      refine lv_goto (tgt := 24) hx hb dX9_space_149 (by decide) ?_
      refine lv_iload_n hx hb dX9_space_24 rfl (lv_at hl 0 rfl) ?_
      refine lv_bipush (v := 24) hx hb dX9_space_25 (by decide) ?_
      refine lv_icmp_ge (tgt := 152) hx hb dX9_space_27 (by decide) (fun c_387 => absurd c_387 (by decide)) (fun c_387 => ?_)
      refine lv_iload_n hx hb dX9_space_30 rfl (lv_at hl 3 rfl) ?_
      refine lv_tableIn (tgt := 88) hx hb dX9_space_31 (by decide) (by decide) (off := 57) (by decide) (by decide) ?_
      refine lv_iload_n hx hb dX9_space_88 rfl (lv_at hl 1 rfl) ?_
      refine lv_aload_n hx hb dX9_space_89 rfl (lv_at hl 2 rfl) ?_
      refine lv_iload_n hx hb dX9_space_90 rfl (lv_at hl 0 rfl) ?_
      refine kV_i (ci := 9) (As := [.int 8]) (rest := [.int 0]) (wc := [(md, .inr (9, [.int 0, .ref m_all, .ref m_deeds, .ref m_trial, .int 0, .ref m_hasImage, .ref m_tape, .ref m_key, .ref m_answered, .int 0, .int 0, .int 0, .ref m_goes, .int 0, .ref m_hotOnes, .ref m_indexed, .ref m_isChanged, .int 0, .ref m_valueNow, .int 0, .int (-1), .int 0, .ref m_didSome, .ref m_sizes, .ref m_ends])), (m_all, aI cs 51207 f_m_all)]) (wr := []) hx hb hml hown hu hK hP hD hS hA hl.1 (c_X9_deadOn l D cs H.size 8 md m_all f_m_all m_deeds m_trial m_hasImage m_tape m_key m_answered m_goes m_hotOnes m_indexed m_isChanged m_valueNow m_didSome m_sizes m_ends 0 0 0 z_all (by first | decide | grind)) (gV u_1200 u_1202 u_16 u_76 u_1203) hd_X9_deadOn ⟨(Nat.le_of_ble_eq_true rfl), (Nat.le_of_ble_eq_true rfl)⟩ [0, 1] [] rfl rfl rfl rfl (by decide) rfl 0 rfl rfl rfl (Nat.le_of_ble_eq_true rfl) dX9_space_91 ⟨(Nat.le_of_ble_eq_true rfl), (Nat.le_of_ble_eq_true rfl)⟩ (fun r_388 ut_389 H locs hw_390 hP hD hS => ?_)
      have hP : va_P D vwCl [(md, .inr (9, [.int 0, .ref m_all, .ref m_deeds, .ref m_trial, .int 0, .ref m_hasImage, .ref m_tape, .ref m_key, .ref m_answered, .int 0, .int 0, .int 0, .ref m_goes, .int 0, .ref m_hotOnes, .ref m_indexed, .ref m_isChanged, .int 0, .ref m_valueNow, .int 0, .int (-1), .int 0, .ref m_didSome, .ref m_sizes, .ref m_ends])), (m_all, aI cs 51207 f_m_all)] H := hP
      have hD : va_D A [(md, .inr (9, [.int 0, .ref m_all, .ref m_deeds, .ref m_trial, .int 0, .ref m_hasImage, .ref m_tape, .ref m_key, .ref m_answered, .int 0, .int 0, .int 0, .ref m_goes, .int 0, .ref m_hotOnes, .ref m_indexed, .ref m_isChanged, .int 0, .ref m_valueNow, .int 0, .int (-1), .int 0, .ref m_didSome, .ref m_sizes, .ref m_ends])), (m_all, aI cs 51207 f_m_all)] := hD
      have er_391 := hw_390
      subst er_391
      refine lv_iadd hx hb dX9_space_94 ?_
      refine tpi (y := 0) (by decide) ?_
      refine lv_istore_n (lv' := [(2, .int 0), (3, .int 8), (0, .ref md), (1, .int 2)]) hx hb dX9_space_95 rfl hl (by decide) rfl (fun ls hl => ?_)
      refine lv_goto (tgt := 146) hx hb dX9_space_96 (by decide) ?_
      refine lv_iinc (v := 9) (lv' := [(3, .int 9), (2, .int 0), (0, .ref md), (1, .int 2)]) hx hb dX9_space_146 hl (k := 1) rfl (by decide) (by decide) rfl (fun ls hl => ?_)
      refine lv_goto (tgt := 24) hx hb dX9_space_149 (by decide) ?_
      refine lv_iload_n hx hb dX9_space_24 rfl (lv_at hl 0 rfl) ?_
      refine lv_bipush (v := 24) hx hb dX9_space_25 (by decide) ?_
      refine lv_icmp_ge (tgt := 152) hx hb dX9_space_27 (by decide) (fun c_392 => absurd c_392 (by decide)) (fun c_392 => ?_)
      refine lv_iload_n hx hb dX9_space_30 rfl (lv_at hl 3 rfl) ?_
      refine lv_tableIn (tgt := 88) hx hb dX9_space_31 (by decide) (by decide) (off := 57) (by decide) (by decide) ?_
      refine lv_iload_n hx hb dX9_space_88 rfl (lv_at hl 1 rfl) ?_
      refine lv_aload_n hx hb dX9_space_89 rfl (lv_at hl 2 rfl) ?_
      refine lv_iload_n hx hb dX9_space_90 rfl (lv_at hl 0 rfl) ?_
      refine kV_i (ci := 9) (As := [.int 9]) (rest := [.int 0]) (wc := [(md, .inr (9, [.int 0, .ref m_all, .ref m_deeds, .ref m_trial, .int 0, .ref m_hasImage, .ref m_tape, .ref m_key, .ref m_answered, .int 0, .int 0, .int 0, .ref m_goes, .int 0, .ref m_hotOnes, .ref m_indexed, .ref m_isChanged, .int 0, .ref m_valueNow, .int 0, .int (-1), .int 0, .ref m_didSome, .ref m_sizes, .ref m_ends])), (m_all, aI cs 51207 f_m_all)]) (wr := []) hx hb hml hown hu hK hP hD hS hA hl.1 (c_X9_deadOn l D cs H.size 9 md m_all f_m_all m_deeds m_trial m_hasImage m_tape m_key m_answered m_goes m_hotOnes m_indexed m_isChanged m_valueNow m_didSome m_sizes m_ends 0 0 0 z_all (by first | decide | grind)) (gV u_1200 u_1202 u_16 u_76 u_1203) hd_X9_deadOn ⟨(Nat.le_of_ble_eq_true rfl), (Nat.le_of_ble_eq_true rfl)⟩ [0, 1] [] rfl rfl rfl rfl (by decide) rfl 0 rfl rfl rfl (Nat.le_of_ble_eq_true rfl) dX9_space_91 ⟨(Nat.le_of_ble_eq_true rfl), (Nat.le_of_ble_eq_true rfl)⟩ (fun r_393 ut_394 H locs hw_395 hP hD hS => ?_)
      have hP : va_P D vwCl [(md, .inr (9, [.int 0, .ref m_all, .ref m_deeds, .ref m_trial, .int 0, .ref m_hasImage, .ref m_tape, .ref m_key, .ref m_answered, .int 0, .int 0, .int 0, .ref m_goes, .int 0, .ref m_hotOnes, .ref m_indexed, .ref m_isChanged, .int 0, .ref m_valueNow, .int 0, .int (-1), .int 0, .ref m_didSome, .ref m_sizes, .ref m_ends])), (m_all, aI cs 51207 f_m_all)] H := hP
      have hD : va_D A [(md, .inr (9, [.int 0, .ref m_all, .ref m_deeds, .ref m_trial, .int 0, .ref m_hasImage, .ref m_tape, .ref m_key, .ref m_answered, .int 0, .int 0, .int 0, .ref m_goes, .int 0, .ref m_hotOnes, .ref m_indexed, .ref m_isChanged, .int 0, .ref m_valueNow, .int 0, .int (-1), .int 0, .ref m_didSome, .ref m_sizes, .ref m_ends])), (m_all, aI cs 51207 f_m_all)] := hD
      have er_396 := hw_395
      subst er_396
      refine lv_iadd hx hb dX9_space_94 ?_
      refine tpi (y := 0) (by decide) ?_
      refine lv_istore_n (lv' := [(2, .int 0), (3, .int 9), (0, .ref md), (1, .int 2)]) hx hb dX9_space_95 rfl hl (by decide) rfl (fun ls hl => ?_)
      refine lv_goto (tgt := 146) hx hb dX9_space_96 (by decide) ?_
      refine lv_iinc (v := 10) (lv' := [(3, .int 10), (2, .int 0), (0, .ref md), (1, .int 2)]) hx hb dX9_space_146 hl (k := 1) rfl (by decide) (by decide) rfl (fun ls hl => ?_)
      refine lv_goto (tgt := 24) hx hb dX9_space_149 (by decide) ?_
      refine lv_iload_n hx hb dX9_space_24 rfl (lv_at hl 0 rfl) ?_
      refine lv_bipush (v := 24) hx hb dX9_space_25 (by decide) ?_
      refine lv_icmp_ge (tgt := 152) hx hb dX9_space_27 (by decide) (fun c_397 => absurd c_397 (by decide)) (fun c_397 => ?_)
      refine lv_iload_n hx hb dX9_space_30 rfl (lv_at hl 3 rfl) ?_
      refine lv_tableIn (tgt := 88) hx hb dX9_space_31 (by decide) (by decide) (off := 57) (by decide) (by decide) ?_
      refine lv_iload_n hx hb dX9_space_88 rfl (lv_at hl 1 rfl) ?_
      refine lv_aload_n hx hb dX9_space_89 rfl (lv_at hl 2 rfl) ?_
      refine lv_iload_n hx hb dX9_space_90 rfl (lv_at hl 0 rfl) ?_
      refine kV_i (ci := 9) (As := [.int 10]) (rest := [.int 0]) (wc := [(md, .inr (9, [.int 0, .ref m_all, .ref m_deeds, .ref m_trial, .int 0, .ref m_hasImage, .ref m_tape, .ref m_key, .ref m_answered, .int 0, .int 0, .int 0, .ref m_goes, .int 0, .ref m_hotOnes, .ref m_indexed, .ref m_isChanged, .int 0, .ref m_valueNow, .int 0, .int (-1), .int 0, .ref m_didSome, .ref m_sizes, .ref m_ends])), (m_all, aI cs 51207 f_m_all)]) (wr := []) hx hb hml hown hu hK hP hD hS hA hl.1 (c_X9_deadOn l D cs H.size 10 md m_all f_m_all m_deeds m_trial m_hasImage m_tape m_key m_answered m_goes m_hotOnes m_indexed m_isChanged m_valueNow m_didSome m_sizes m_ends 0 0 0 z_all (by first | decide | grind)) (gV u_1200 u_1202 u_16 u_76 u_1203) hd_X9_deadOn ⟨(Nat.le_of_ble_eq_true rfl), (Nat.le_of_ble_eq_true rfl)⟩ [0, 1] [] rfl rfl rfl rfl (by decide) rfl 0 rfl rfl rfl (Nat.le_of_ble_eq_true rfl) dX9_space_91 ⟨(Nat.le_of_ble_eq_true rfl), (Nat.le_of_ble_eq_true rfl)⟩ (fun r_398 ut_399 H locs hw_400 hP hD hS => ?_)
      have hP : va_P D vwCl [(md, .inr (9, [.int 0, .ref m_all, .ref m_deeds, .ref m_trial, .int 0, .ref m_hasImage, .ref m_tape, .ref m_key, .ref m_answered, .int 0, .int 0, .int 0, .ref m_goes, .int 0, .ref m_hotOnes, .ref m_indexed, .ref m_isChanged, .int 0, .ref m_valueNow, .int 0, .int (-1), .int 0, .ref m_didSome, .ref m_sizes, .ref m_ends])), (m_all, aI cs 51207 f_m_all)] H := hP
      have hD : va_D A [(md, .inr (9, [.int 0, .ref m_all, .ref m_deeds, .ref m_trial, .int 0, .ref m_hasImage, .ref m_tape, .ref m_key, .ref m_answered, .int 0, .int 0, .int 0, .ref m_goes, .int 0, .ref m_hotOnes, .ref m_indexed, .ref m_isChanged, .int 0, .ref m_valueNow, .int 0, .int (-1), .int 0, .ref m_didSome, .ref m_sizes, .ref m_ends])), (m_all, aI cs 51207 f_m_all)] := hD
      have er_401 := hw_400
      subst er_401
      refine lv_iadd hx hb dX9_space_94 ?_
      refine tpi (y := 0) (by decide) ?_
      refine lv_istore_n (lv' := [(2, .int 0), (3, .int 10), (0, .ref md), (1, .int 2)]) hx hb dX9_space_95 rfl hl (by decide) rfl (fun ls hl => ?_)
      refine lv_goto (tgt := 146) hx hb dX9_space_96 (by decide) ?_
      refine lv_iinc (v := 11) (lv' := [(3, .int 11), (2, .int 0), (0, .ref md), (1, .int 2)]) hx hb dX9_space_146 hl (k := 1) rfl (by decide) (by decide) rfl (fun ls hl => ?_)
      refine lv_goto (tgt := 24) hx hb dX9_space_149 (by decide) ?_
      refine lv_iload_n hx hb dX9_space_24 rfl (lv_at hl 0 rfl) ?_
      refine lv_bipush (v := 24) hx hb dX9_space_25 (by decide) ?_
      refine lv_icmp_ge (tgt := 152) hx hb dX9_space_27 (by decide) (fun c_402 => absurd c_402 (by decide)) (fun c_402 => ?_)
      refine lv_iload_n hx hb dX9_space_30 rfl (lv_at hl 3 rfl) ?_
      refine lv_tableIn (tgt := 88) hx hb dX9_space_31 (by decide) (by decide) (off := 57) (by decide) (by decide) ?_
      refine lv_iload_n hx hb dX9_space_88 rfl (lv_at hl 1 rfl) ?_
      refine lv_aload_n hx hb dX9_space_89 rfl (lv_at hl 2 rfl) ?_
      refine lv_iload_n hx hb dX9_space_90 rfl (lv_at hl 0 rfl) ?_
      refine kV_i (ci := 9) (As := [.int 11]) (rest := [.int 0]) (wc := [(md, .inr (9, [.int 0, .ref m_all, .ref m_deeds, .ref m_trial, .int 0, .ref m_hasImage, .ref m_tape, .ref m_key, .ref m_answered, .int 0, .int 0, .int 0, .ref m_goes, .int 0, .ref m_hotOnes, .ref m_indexed, .ref m_isChanged, .int 0, .ref m_valueNow, .int 0, .int (-1), .int 0, .ref m_didSome, .ref m_sizes, .ref m_ends])), (m_all, aI cs 51207 f_m_all)]) (wr := []) hx hb hml hown hu hK hP hD hS hA hl.1 (c_X9_deadOn l D cs H.size 11 md m_all f_m_all m_deeds m_trial m_hasImage m_tape m_key m_answered m_goes m_hotOnes m_indexed m_isChanged m_valueNow m_didSome m_sizes m_ends 0 0 0 z_all (by first | decide | grind)) (gV u_1200 u_1202 u_16 u_76 u_1203) hd_X9_deadOn ⟨(Nat.le_of_ble_eq_true rfl), (Nat.le_of_ble_eq_true rfl)⟩ [0, 1] [] rfl rfl rfl rfl (by decide) rfl 0 rfl rfl rfl (Nat.le_of_ble_eq_true rfl) dX9_space_91 ⟨(Nat.le_of_ble_eq_true rfl), (Nat.le_of_ble_eq_true rfl)⟩ (fun r_403 ut_404 H locs hw_405 hP hD hS => ?_)
      have hP : va_P D vwCl [(md, .inr (9, [.int 0, .ref m_all, .ref m_deeds, .ref m_trial, .int 0, .ref m_hasImage, .ref m_tape, .ref m_key, .ref m_answered, .int 0, .int 0, .int 0, .ref m_goes, .int 0, .ref m_hotOnes, .ref m_indexed, .ref m_isChanged, .int 0, .ref m_valueNow, .int 0, .int (-1), .int 0, .ref m_didSome, .ref m_sizes, .ref m_ends])), (m_all, aI cs 51207 f_m_all)] H := hP
      have hD : va_D A [(md, .inr (9, [.int 0, .ref m_all, .ref m_deeds, .ref m_trial, .int 0, .ref m_hasImage, .ref m_tape, .ref m_key, .ref m_answered, .int 0, .int 0, .int 0, .ref m_goes, .int 0, .ref m_hotOnes, .ref m_indexed, .ref m_isChanged, .int 0, .ref m_valueNow, .int 0, .int (-1), .int 0, .ref m_didSome, .ref m_sizes, .ref m_ends])), (m_all, aI cs 51207 f_m_all)] := hD
      have er_406 := hw_405
      subst er_406
      refine lv_iadd hx hb dX9_space_94 ?_
      refine tpi (y := 0) (by decide) ?_
      refine lv_istore_n (lv' := [(2, .int 0), (3, .int 11), (0, .ref md), (1, .int 2)]) hx hb dX9_space_95 rfl hl (by decide) rfl (fun ls hl => ?_)
      refine lv_goto (tgt := 146) hx hb dX9_space_96 (by decide) ?_
      refine lv_iinc (v := 12) (lv' := [(3, .int 12), (2, .int 0), (0, .ref md), (1, .int 2)]) hx hb dX9_space_146 hl (k := 1) rfl (by decide) (by decide) rfl (fun ls hl => ?_)
      refine lv_goto (tgt := 24) hx hb dX9_space_149 (by decide) ?_
      refine lv_iload_n hx hb dX9_space_24 rfl (lv_at hl 0 rfl) ?_
      refine lv_bipush (v := 24) hx hb dX9_space_25 (by decide) ?_
      refine lv_icmp_ge (tgt := 152) hx hb dX9_space_27 (by decide) (fun c_407 => absurd c_407 (by decide)) (fun c_407 => ?_)
      refine lv_iload_n hx hb dX9_space_30 rfl (lv_at hl 3 rfl) ?_
      refine lv_tableIn (tgt := 88) hx hb dX9_space_31 (by decide) (by decide) (off := 57) (by decide) (by decide) ?_
      refine lv_iload_n hx hb dX9_space_88 rfl (lv_at hl 1 rfl) ?_
      refine lv_aload_n hx hb dX9_space_89 rfl (lv_at hl 2 rfl) ?_
      refine lv_iload_n hx hb dX9_space_90 rfl (lv_at hl 0 rfl) ?_
      refine kV_i (ci := 9) (As := [.int 12]) (rest := [.int 0]) (wc := [(md, .inr (9, [.int 0, .ref m_all, .ref m_deeds, .ref m_trial, .int 0, .ref m_hasImage, .ref m_tape, .ref m_key, .ref m_answered, .int 0, .int 0, .int 0, .ref m_goes, .int 0, .ref m_hotOnes, .ref m_indexed, .ref m_isChanged, .int 0, .ref m_valueNow, .int 0, .int (-1), .int 0, .ref m_didSome, .ref m_sizes, .ref m_ends])), (m_all, aI cs 51207 f_m_all)]) (wr := []) hx hb hml hown hu hK hP hD hS hA hl.1 (c_X9_deadOn l D cs H.size 12 md m_all f_m_all m_deeds m_trial m_hasImage m_tape m_key m_answered m_goes m_hotOnes m_indexed m_isChanged m_valueNow m_didSome m_sizes m_ends 0 0 0 z_all (by first | decide | grind)) (gV u_1200 u_1202 u_16 u_76 u_1203) hd_X9_deadOn ⟨(Nat.le_of_ble_eq_true rfl), (Nat.le_of_ble_eq_true rfl)⟩ [0, 1] [] rfl rfl rfl rfl (by decide) rfl 0 rfl rfl rfl (Nat.le_of_ble_eq_true rfl) dX9_space_91 ⟨(Nat.le_of_ble_eq_true rfl), (Nat.le_of_ble_eq_true rfl)⟩ (fun r_408 ut_409 H locs hw_410 hP hD hS => ?_)
      have hP : va_P D vwCl [(md, .inr (9, [.int 0, .ref m_all, .ref m_deeds, .ref m_trial, .int 0, .ref m_hasImage, .ref m_tape, .ref m_key, .ref m_answered, .int 0, .int 0, .int 0, .ref m_goes, .int 0, .ref m_hotOnes, .ref m_indexed, .ref m_isChanged, .int 0, .ref m_valueNow, .int 0, .int (-1), .int 0, .ref m_didSome, .ref m_sizes, .ref m_ends])), (m_all, aI cs 51207 f_m_all)] H := hP
      have hD : va_D A [(md, .inr (9, [.int 0, .ref m_all, .ref m_deeds, .ref m_trial, .int 0, .ref m_hasImage, .ref m_tape, .ref m_key, .ref m_answered, .int 0, .int 0, .int 0, .ref m_goes, .int 0, .ref m_hotOnes, .ref m_indexed, .ref m_isChanged, .int 0, .ref m_valueNow, .int 0, .int (-1), .int 0, .ref m_didSome, .ref m_sizes, .ref m_ends])), (m_all, aI cs 51207 f_m_all)] := hD
      have er_411 := hw_410
      subst er_411
      refine lv_iadd hx hb dX9_space_94 ?_
      refine tpi (y := 0) (by decide) ?_
      refine lv_istore_n (lv' := [(2, .int 0), (3, .int 12), (0, .ref md), (1, .int 2)]) hx hb dX9_space_95 rfl hl (by decide) rfl (fun ls hl => ?_)
      refine lv_goto (tgt := 146) hx hb dX9_space_96 (by decide) ?_
      refine lv_iinc (v := 13) (lv' := [(3, .int 13), (2, .int 0), (0, .ref md), (1, .int 2)]) hx hb dX9_space_146 hl (k := 1) rfl (by decide) (by decide) rfl (fun ls hl => ?_)
      refine lv_goto (tgt := 24) hx hb dX9_space_149 (by decide) ?_
      refine lv_iload_n hx hb dX9_space_24 rfl (lv_at hl 0 rfl) ?_
      refine lv_bipush (v := 24) hx hb dX9_space_25 (by decide) ?_
      refine lv_icmp_ge (tgt := 152) hx hb dX9_space_27 (by decide) (fun c_412 => absurd c_412 (by decide)) (fun c_412 => ?_)
      refine lv_iload_n hx hb dX9_space_30 rfl (lv_at hl 3 rfl) ?_
      refine lv_tableIn (tgt := 88) hx hb dX9_space_31 (by decide) (by decide) (off := 57) (by decide) (by decide) ?_
      refine lv_iload_n hx hb dX9_space_88 rfl (lv_at hl 1 rfl) ?_
      refine lv_aload_n hx hb dX9_space_89 rfl (lv_at hl 2 rfl) ?_
      refine lv_iload_n hx hb dX9_space_90 rfl (lv_at hl 0 rfl) ?_
      refine kV_i (ci := 9) (As := [.int 13]) (rest := [.int 0]) (wc := [(md, .inr (9, [.int 0, .ref m_all, .ref m_deeds, .ref m_trial, .int 0, .ref m_hasImage, .ref m_tape, .ref m_key, .ref m_answered, .int 0, .int 0, .int 0, .ref m_goes, .int 0, .ref m_hotOnes, .ref m_indexed, .ref m_isChanged, .int 0, .ref m_valueNow, .int 0, .int (-1), .int 0, .ref m_didSome, .ref m_sizes, .ref m_ends])), (m_all, aI cs 51207 f_m_all)]) (wr := []) hx hb hml hown hu hK hP hD hS hA hl.1 (c_X9_deadOn l D cs H.size 13 md m_all f_m_all m_deeds m_trial m_hasImage m_tape m_key m_answered m_goes m_hotOnes m_indexed m_isChanged m_valueNow m_didSome m_sizes m_ends 0 0 0 z_all (by first | decide | grind)) (gV u_1200 u_1202 u_16 u_76 u_1203) hd_X9_deadOn ⟨(Nat.le_of_ble_eq_true rfl), (Nat.le_of_ble_eq_true rfl)⟩ [0, 1] [] rfl rfl rfl rfl (by decide) rfl 0 rfl rfl rfl (Nat.le_of_ble_eq_true rfl) dX9_space_91 ⟨(Nat.le_of_ble_eq_true rfl), (Nat.le_of_ble_eq_true rfl)⟩ (fun r_413 ut_414 H locs hw_415 hP hD hS => ?_)
      have hP : va_P D vwCl [(md, .inr (9, [.int 0, .ref m_all, .ref m_deeds, .ref m_trial, .int 0, .ref m_hasImage, .ref m_tape, .ref m_key, .ref m_answered, .int 0, .int 0, .int 0, .ref m_goes, .int 0, .ref m_hotOnes, .ref m_indexed, .ref m_isChanged, .int 0, .ref m_valueNow, .int 0, .int (-1), .int 0, .ref m_didSome, .ref m_sizes, .ref m_ends])), (m_all, aI cs 51207 f_m_all)] H := hP
      have hD : va_D A [(md, .inr (9, [.int 0, .ref m_all, .ref m_deeds, .ref m_trial, .int 0, .ref m_hasImage, .ref m_tape, .ref m_key, .ref m_answered, .int 0, .int 0, .int 0, .ref m_goes, .int 0, .ref m_hotOnes, .ref m_indexed, .ref m_isChanged, .int 0, .ref m_valueNow, .int 0, .int (-1), .int 0, .ref m_didSome, .ref m_sizes, .ref m_ends])), (m_all, aI cs 51207 f_m_all)] := hD
      have er_416 := hw_415
      subst er_416
      refine lv_iadd hx hb dX9_space_94 ?_
      refine tpi (y := 0) (by decide) ?_
      refine lv_istore_n (lv' := [(2, .int 0), (3, .int 13), (0, .ref md), (1, .int 2)]) hx hb dX9_space_95 rfl hl (by decide) rfl (fun ls hl => ?_)
      refine lv_goto (tgt := 146) hx hb dX9_space_96 (by decide) ?_
      refine lv_iinc (v := 14) (lv' := [(3, .int 14), (2, .int 0), (0, .ref md), (1, .int 2)]) hx hb dX9_space_146 hl (k := 1) rfl (by decide) (by decide) rfl (fun ls hl => ?_)
      refine lv_goto (tgt := 24) hx hb dX9_space_149 (by decide) ?_
      refine lv_iload_n hx hb dX9_space_24 rfl (lv_at hl 0 rfl) ?_
      refine lv_bipush (v := 24) hx hb dX9_space_25 (by decide) ?_
      refine lv_icmp_ge (tgt := 152) hx hb dX9_space_27 (by decide) (fun c_417 => absurd c_417 (by decide)) (fun c_417 => ?_)
      refine lv_iload_n hx hb dX9_space_30 rfl (lv_at hl 3 rfl) ?_
      refine lv_tableIn (tgt := 88) hx hb dX9_space_31 (by decide) (by decide) (off := 57) (by decide) (by decide) ?_
      refine lv_iload_n hx hb dX9_space_88 rfl (lv_at hl 1 rfl) ?_
      refine lv_aload_n hx hb dX9_space_89 rfl (lv_at hl 2 rfl) ?_
      refine lv_iload_n hx hb dX9_space_90 rfl (lv_at hl 0 rfl) ?_
      refine kV_i (ci := 9) (As := [.int 14]) (rest := [.int 0]) (wc := [(md, .inr (9, [.int 0, .ref m_all, .ref m_deeds, .ref m_trial, .int 0, .ref m_hasImage, .ref m_tape, .ref m_key, .ref m_answered, .int 0, .int 0, .int 0, .ref m_goes, .int 0, .ref m_hotOnes, .ref m_indexed, .ref m_isChanged, .int 0, .ref m_valueNow, .int 0, .int (-1), .int 0, .ref m_didSome, .ref m_sizes, .ref m_ends])), (m_all, aI cs 51207 f_m_all)]) (wr := []) hx hb hml hown hu hK hP hD hS hA hl.1 (c_X9_deadOn l D cs H.size 14 md m_all f_m_all m_deeds m_trial m_hasImage m_tape m_key m_answered m_goes m_hotOnes m_indexed m_isChanged m_valueNow m_didSome m_sizes m_ends 0 0 0 z_all (by first | decide | grind)) (gV u_1200 u_1202 u_16 u_76 u_1203) hd_X9_deadOn ⟨(Nat.le_of_ble_eq_true rfl), (Nat.le_of_ble_eq_true rfl)⟩ [0, 1] [] rfl rfl rfl rfl (by decide) rfl 0 rfl rfl rfl (Nat.le_of_ble_eq_true rfl) dX9_space_91 ⟨(Nat.le_of_ble_eq_true rfl), (Nat.le_of_ble_eq_true rfl)⟩ (fun r_418 ut_419 H locs hw_420 hP hD hS => ?_)
      have hP : va_P D vwCl [(md, .inr (9, [.int 0, .ref m_all, .ref m_deeds, .ref m_trial, .int 0, .ref m_hasImage, .ref m_tape, .ref m_key, .ref m_answered, .int 0, .int 0, .int 0, .ref m_goes, .int 0, .ref m_hotOnes, .ref m_indexed, .ref m_isChanged, .int 0, .ref m_valueNow, .int 0, .int (-1), .int 0, .ref m_didSome, .ref m_sizes, .ref m_ends])), (m_all, aI cs 51207 f_m_all)] H := hP
      have hD : va_D A [(md, .inr (9, [.int 0, .ref m_all, .ref m_deeds, .ref m_trial, .int 0, .ref m_hasImage, .ref m_tape, .ref m_key, .ref m_answered, .int 0, .int 0, .int 0, .ref m_goes, .int 0, .ref m_hotOnes, .ref m_indexed, .ref m_isChanged, .int 0, .ref m_valueNow, .int 0, .int (-1), .int 0, .ref m_didSome, .ref m_sizes, .ref m_ends])), (m_all, aI cs 51207 f_m_all)] := hD
      have er_421 := hw_420
      subst er_421
      refine lv_iadd hx hb dX9_space_94 ?_
      refine tpi (y := 0) (by decide) ?_
      refine lv_istore_n (lv' := [(2, .int 0), (3, .int 14), (0, .ref md), (1, .int 2)]) hx hb dX9_space_95 rfl hl (by decide) rfl (fun ls hl => ?_)
      refine lv_goto (tgt := 146) hx hb dX9_space_96 (by decide) ?_
      refine lv_iinc (v := 15) (lv' := [(3, .int 15), (2, .int 0), (0, .ref md), (1, .int 2)]) hx hb dX9_space_146 hl (k := 1) rfl (by decide) (by decide) rfl (fun ls hl => ?_)
      refine lv_goto (tgt := 24) hx hb dX9_space_149 (by decide) ?_
      refine lv_iload_n hx hb dX9_space_24 rfl (lv_at hl 0 rfl) ?_
      refine lv_bipush (v := 24) hx hb dX9_space_25 (by decide) ?_
      refine lv_icmp_ge (tgt := 152) hx hb dX9_space_27 (by decide) (fun c_422 => absurd c_422 (by decide)) (fun c_422 => ?_)
      refine lv_iload_n hx hb dX9_space_30 rfl (lv_at hl 3 rfl) ?_
      refine lv_tableIn (tgt := 88) hx hb dX9_space_31 (by decide) (by decide) (off := 57) (by decide) (by decide) ?_
      refine lv_iload_n hx hb dX9_space_88 rfl (lv_at hl 1 rfl) ?_
      refine lv_aload_n hx hb dX9_space_89 rfl (lv_at hl 2 rfl) ?_
      refine lv_iload_n hx hb dX9_space_90 rfl (lv_at hl 0 rfl) ?_
      refine kV_i (ci := 9) (As := [.int 15]) (rest := [.int 0]) (wc := [(md, .inr (9, [.int 0, .ref m_all, .ref m_deeds, .ref m_trial, .int 0, .ref m_hasImage, .ref m_tape, .ref m_key, .ref m_answered, .int 0, .int 0, .int 0, .ref m_goes, .int 0, .ref m_hotOnes, .ref m_indexed, .ref m_isChanged, .int 0, .ref m_valueNow, .int 0, .int (-1), .int 0, .ref m_didSome, .ref m_sizes, .ref m_ends])), (m_all, aI cs 51207 f_m_all)]) (wr := []) hx hb hml hown hu hK hP hD hS hA hl.1 (c_X9_deadOn l D cs H.size 15 md m_all f_m_all m_deeds m_trial m_hasImage m_tape m_key m_answered m_goes m_hotOnes m_indexed m_isChanged m_valueNow m_didSome m_sizes m_ends 0 0 0 z_all (by first | decide | grind)) (gV u_1200 u_1202 u_16 u_76 u_1203) hd_X9_deadOn ⟨(Nat.le_of_ble_eq_true rfl), (Nat.le_of_ble_eq_true rfl)⟩ [0, 1] [] rfl rfl rfl rfl (by decide) rfl 0 rfl rfl rfl (Nat.le_of_ble_eq_true rfl) dX9_space_91 ⟨(Nat.le_of_ble_eq_true rfl), (Nat.le_of_ble_eq_true rfl)⟩ (fun r_423 ut_424 H locs hw_425 hP hD hS => ?_)
      have hP : va_P D vwCl [(md, .inr (9, [.int 0, .ref m_all, .ref m_deeds, .ref m_trial, .int 0, .ref m_hasImage, .ref m_tape, .ref m_key, .ref m_answered, .int 0, .int 0, .int 0, .ref m_goes, .int 0, .ref m_hotOnes, .ref m_indexed, .ref m_isChanged, .int 0, .ref m_valueNow, .int 0, .int (-1), .int 0, .ref m_didSome, .ref m_sizes, .ref m_ends])), (m_all, aI cs 51207 f_m_all)] H := hP
      have hD : va_D A [(md, .inr (9, [.int 0, .ref m_all, .ref m_deeds, .ref m_trial, .int 0, .ref m_hasImage, .ref m_tape, .ref m_key, .ref m_answered, .int 0, .int 0, .int 0, .ref m_goes, .int 0, .ref m_hotOnes, .ref m_indexed, .ref m_isChanged, .int 0, .ref m_valueNow, .int 0, .int (-1), .int 0, .ref m_didSome, .ref m_sizes, .ref m_ends])), (m_all, aI cs 51207 f_m_all)] := hD
      have er_426 := hw_425
      subst er_426
      refine lv_iadd hx hb dX9_space_94 ?_
      refine tpi (y := 0) (by decide) ?_
      refine lv_istore_n (lv' := [(2, .int 0), (3, .int 15), (0, .ref md), (1, .int 2)]) hx hb dX9_space_95 rfl hl (by decide) rfl (fun ls hl => ?_)
      refine lv_goto (tgt := 146) hx hb dX9_space_96 (by decide) ?_
      refine lv_iinc (v := 16) (lv' := [(3, .int 16), (2, .int 0), (0, .ref md), (1, .int 2)]) hx hb dX9_space_146 hl (k := 1) rfl (by decide) (by decide) rfl (fun ls hl => ?_)
      refine lv_goto (tgt := 24) hx hb dX9_space_149 (by decide) ?_
      refine lv_iload_n hx hb dX9_space_24 rfl (lv_at hl 0 rfl) ?_
      refine lv_bipush (v := 24) hx hb dX9_space_25 (by decide) ?_
      refine lv_icmp_ge (tgt := 152) hx hb dX9_space_27 (by decide) (fun c_427 => absurd c_427 (by decide)) (fun c_427 => ?_)
      refine lv_iload_n hx hb dX9_space_30 rfl (lv_at hl 3 rfl) ?_
      refine lv_tableIn (tgt := 88) hx hb dX9_space_31 (by decide) (by decide) (off := 57) (by decide) (by decide) ?_
      refine lv_iload_n hx hb dX9_space_88 rfl (lv_at hl 1 rfl) ?_
      refine lv_aload_n hx hb dX9_space_89 rfl (lv_at hl 2 rfl) ?_
      refine lv_iload_n hx hb dX9_space_90 rfl (lv_at hl 0 rfl) ?_
      refine kV_i (ci := 9) (As := [.int 16]) (rest := [.int 0]) (wc := [(md, .inr (9, [.int 0, .ref m_all, .ref m_deeds, .ref m_trial, .int 0, .ref m_hasImage, .ref m_tape, .ref m_key, .ref m_answered, .int 0, .int 0, .int 0, .ref m_goes, .int 0, .ref m_hotOnes, .ref m_indexed, .ref m_isChanged, .int 0, .ref m_valueNow, .int 0, .int (-1), .int 0, .ref m_didSome, .ref m_sizes, .ref m_ends])), (m_all, aI cs 51207 f_m_all)]) (wr := []) hx hb hml hown hu hK hP hD hS hA hl.1 (c_X9_deadOn l D cs H.size 16 md m_all f_m_all m_deeds m_trial m_hasImage m_tape m_key m_answered m_goes m_hotOnes m_indexed m_isChanged m_valueNow m_didSome m_sizes m_ends 0 0 0 z_all (by first | decide | grind)) (gV u_1200 u_1202 u_16 u_76 u_1203) hd_X9_deadOn ⟨(Nat.le_of_ble_eq_true rfl), (Nat.le_of_ble_eq_true rfl)⟩ [0, 1] [] rfl rfl rfl rfl (by decide) rfl 0 rfl rfl rfl (Nat.le_of_ble_eq_true rfl) dX9_space_91 ⟨(Nat.le_of_ble_eq_true rfl), (Nat.le_of_ble_eq_true rfl)⟩ (fun r_428 ut_429 H locs hw_430 hP hD hS => ?_)
      have hP : va_P D vwCl [(md, .inr (9, [.int 0, .ref m_all, .ref m_deeds, .ref m_trial, .int 0, .ref m_hasImage, .ref m_tape, .ref m_key, .ref m_answered, .int 0, .int 0, .int 0, .ref m_goes, .int 0, .ref m_hotOnes, .ref m_indexed, .ref m_isChanged, .int 0, .ref m_valueNow, .int 0, .int (-1), .int 0, .ref m_didSome, .ref m_sizes, .ref m_ends])), (m_all, aI cs 51207 f_m_all)] H := hP
      have hD : va_D A [(md, .inr (9, [.int 0, .ref m_all, .ref m_deeds, .ref m_trial, .int 0, .ref m_hasImage, .ref m_tape, .ref m_key, .ref m_answered, .int 0, .int 0, .int 0, .ref m_goes, .int 0, .ref m_hotOnes, .ref m_indexed, .ref m_isChanged, .int 0, .ref m_valueNow, .int 0, .int (-1), .int 0, .ref m_didSome, .ref m_sizes, .ref m_ends])), (m_all, aI cs 51207 f_m_all)] := hD
      have er_431 := hw_430
      subst er_431
      refine lv_iadd hx hb dX9_space_94 ?_
      refine tpi (y := 0) (by decide) ?_
      refine lv_istore_n (lv' := [(2, .int 0), (3, .int 16), (0, .ref md), (1, .int 2)]) hx hb dX9_space_95 rfl hl (by decide) rfl (fun ls hl => ?_)
      refine lv_goto (tgt := 146) hx hb dX9_space_96 (by decide) ?_
      refine lv_iinc (v := 17) (lv' := [(3, .int 17), (2, .int 0), (0, .ref md), (1, .int 2)]) hx hb dX9_space_146 hl (k := 1) rfl (by decide) (by decide) rfl (fun ls hl => ?_)
      refine lv_goto (tgt := 24) hx hb dX9_space_149 (by decide) ?_
      refine lv_iload_n hx hb dX9_space_24 rfl (lv_at hl 0 rfl) ?_
      refine lv_bipush (v := 24) hx hb dX9_space_25 (by decide) ?_
      refine lv_icmp_ge (tgt := 152) hx hb dX9_space_27 (by decide) (fun c_432 => absurd c_432 (by decide)) (fun c_432 => ?_)
      refine lv_iload_n hx hb dX9_space_30 rfl (lv_at hl 3 rfl) ?_
      refine lv_tableIn (tgt := 88) hx hb dX9_space_31 (by decide) (by decide) (off := 57) (by decide) (by decide) ?_
      refine lv_iload_n hx hb dX9_space_88 rfl (lv_at hl 1 rfl) ?_
      refine lv_aload_n hx hb dX9_space_89 rfl (lv_at hl 2 rfl) ?_
      refine lv_iload_n hx hb dX9_space_90 rfl (lv_at hl 0 rfl) ?_
      refine kV_i (ci := 9) (As := [.int 17]) (rest := [.int 0]) (wc := [(md, .inr (9, [.int 0, .ref m_all, .ref m_deeds, .ref m_trial, .int 0, .ref m_hasImage, .ref m_tape, .ref m_key, .ref m_answered, .int 0, .int 0, .int 0, .ref m_goes, .int 0, .ref m_hotOnes, .ref m_indexed, .ref m_isChanged, .int 0, .ref m_valueNow, .int 0, .int (-1), .int 0, .ref m_didSome, .ref m_sizes, .ref m_ends])), (m_all, aI cs 51207 f_m_all)]) (wr := []) hx hb hml hown hu hK hP hD hS hA hl.1 (c_X9_deadOn l D cs H.size 17 md m_all f_m_all m_deeds m_trial m_hasImage m_tape m_key m_answered m_goes m_hotOnes m_indexed m_isChanged m_valueNow m_didSome m_sizes m_ends 0 0 0 z_all (by first | decide | grind)) (gV u_1200 u_1202 u_16 u_76 u_1203) hd_X9_deadOn ⟨(Nat.le_of_ble_eq_true rfl), (Nat.le_of_ble_eq_true rfl)⟩ [0, 1] [] rfl rfl rfl rfl (by decide) rfl 0 rfl rfl rfl (Nat.le_of_ble_eq_true rfl) dX9_space_91 ⟨(Nat.le_of_ble_eq_true rfl), (Nat.le_of_ble_eq_true rfl)⟩ (fun r_433 ut_434 H locs hw_435 hP hD hS => ?_)
      have hP : va_P D vwCl [(md, .inr (9, [.int 0, .ref m_all, .ref m_deeds, .ref m_trial, .int 0, .ref m_hasImage, .ref m_tape, .ref m_key, .ref m_answered, .int 0, .int 0, .int 0, .ref m_goes, .int 0, .ref m_hotOnes, .ref m_indexed, .ref m_isChanged, .int 0, .ref m_valueNow, .int 0, .int (-1), .int 0, .ref m_didSome, .ref m_sizes, .ref m_ends])), (m_all, aI cs 51207 f_m_all)] H := hP
      have hD : va_D A [(md, .inr (9, [.int 0, .ref m_all, .ref m_deeds, .ref m_trial, .int 0, .ref m_hasImage, .ref m_tape, .ref m_key, .ref m_answered, .int 0, .int 0, .int 0, .ref m_goes, .int 0, .ref m_hotOnes, .ref m_indexed, .ref m_isChanged, .int 0, .ref m_valueNow, .int 0, .int (-1), .int 0, .ref m_didSome, .ref m_sizes, .ref m_ends])), (m_all, aI cs 51207 f_m_all)] := hD
      have er_436 := hw_435
      subst er_436
      refine lv_iadd hx hb dX9_space_94 ?_
      refine tpi (y := 0) (by decide) ?_
      refine lv_istore_n (lv' := [(2, .int 0), (3, .int 17), (0, .ref md), (1, .int 2)]) hx hb dX9_space_95 rfl hl (by decide) rfl (fun ls hl => ?_)
      refine lv_goto (tgt := 146) hx hb dX9_space_96 (by decide) ?_
      refine lv_iinc (v := 18) (lv' := [(3, .int 18), (2, .int 0), (0, .ref md), (1, .int 2)]) hx hb dX9_space_146 hl (k := 1) rfl (by decide) (by decide) rfl (fun ls hl => ?_)
      refine lv_goto (tgt := 24) hx hb dX9_space_149 (by decide) ?_
      refine lv_iload_n hx hb dX9_space_24 rfl (lv_at hl 0 rfl) ?_
      refine lv_bipush (v := 24) hx hb dX9_space_25 (by decide) ?_
      refine lv_icmp_ge (tgt := 152) hx hb dX9_space_27 (by decide) (fun c_437 => absurd c_437 (by decide)) (fun c_437 => ?_)
      refine lv_iload_n hx hb dX9_space_30 rfl (lv_at hl 3 rfl) ?_
      refine lv_tableIn (tgt := 88) hx hb dX9_space_31 (by decide) (by decide) (off := 57) (by decide) (by decide) ?_
      refine lv_iload_n hx hb dX9_space_88 rfl (lv_at hl 1 rfl) ?_
      refine lv_aload_n hx hb dX9_space_89 rfl (lv_at hl 2 rfl) ?_
      refine lv_iload_n hx hb dX9_space_90 rfl (lv_at hl 0 rfl) ?_
      refine kV_i (ci := 9) (As := [.int 18]) (rest := [.int 0]) (wc := [(md, .inr (9, [.int 0, .ref m_all, .ref m_deeds, .ref m_trial, .int 0, .ref m_hasImage, .ref m_tape, .ref m_key, .ref m_answered, .int 0, .int 0, .int 0, .ref m_goes, .int 0, .ref m_hotOnes, .ref m_indexed, .ref m_isChanged, .int 0, .ref m_valueNow, .int 0, .int (-1), .int 0, .ref m_didSome, .ref m_sizes, .ref m_ends])), (m_all, aI cs 51207 f_m_all)]) (wr := []) hx hb hml hown hu hK hP hD hS hA hl.1 (c_X9_deadOn l D cs H.size 18 md m_all f_m_all m_deeds m_trial m_hasImage m_tape m_key m_answered m_goes m_hotOnes m_indexed m_isChanged m_valueNow m_didSome m_sizes m_ends 0 0 0 z_all (by first | decide | grind)) (gV u_1200 u_1202 u_16 u_76 u_1203) hd_X9_deadOn ⟨(Nat.le_of_ble_eq_true rfl), (Nat.le_of_ble_eq_true rfl)⟩ [0, 1] [] rfl rfl rfl rfl (by decide) rfl 0 rfl rfl rfl (Nat.le_of_ble_eq_true rfl) dX9_space_91 ⟨(Nat.le_of_ble_eq_true rfl), (Nat.le_of_ble_eq_true rfl)⟩ (fun r_438 ut_439 H locs hw_440 hP hD hS => ?_)
      have hP : va_P D vwCl [(md, .inr (9, [.int 0, .ref m_all, .ref m_deeds, .ref m_trial, .int 0, .ref m_hasImage, .ref m_tape, .ref m_key, .ref m_answered, .int 0, .int 0, .int 0, .ref m_goes, .int 0, .ref m_hotOnes, .ref m_indexed, .ref m_isChanged, .int 0, .ref m_valueNow, .int 0, .int (-1), .int 0, .ref m_didSome, .ref m_sizes, .ref m_ends])), (m_all, aI cs 51207 f_m_all)] H := hP
      have hD : va_D A [(md, .inr (9, [.int 0, .ref m_all, .ref m_deeds, .ref m_trial, .int 0, .ref m_hasImage, .ref m_tape, .ref m_key, .ref m_answered, .int 0, .int 0, .int 0, .ref m_goes, .int 0, .ref m_hotOnes, .ref m_indexed, .ref m_isChanged, .int 0, .ref m_valueNow, .int 0, .int (-1), .int 0, .ref m_didSome, .ref m_sizes, .ref m_ends])), (m_all, aI cs 51207 f_m_all)] := hD
      have er_441 := hw_440
      subst er_441
      refine lv_iadd hx hb dX9_space_94 ?_
      refine tpi (y := 0) (by decide) ?_
      refine lv_istore_n (lv' := [(2, .int 0), (3, .int 18), (0, .ref md), (1, .int 2)]) hx hb dX9_space_95 rfl hl (by decide) rfl (fun ls hl => ?_)
      refine lv_goto (tgt := 146) hx hb dX9_space_96 (by decide) ?_
      refine lv_iinc (v := 19) (lv' := [(3, .int 19), (2, .int 0), (0, .ref md), (1, .int 2)]) hx hb dX9_space_146 hl (k := 1) rfl (by decide) (by decide) rfl (fun ls hl => ?_)
      refine lv_goto (tgt := 24) hx hb dX9_space_149 (by decide) ?_
      refine lv_iload_n hx hb dX9_space_24 rfl (lv_at hl 0 rfl) ?_
      refine lv_bipush (v := 24) hx hb dX9_space_25 (by decide) ?_
      refine lv_icmp_ge (tgt := 152) hx hb dX9_space_27 (by decide) (fun c_442 => absurd c_442 (by decide)) (fun c_442 => ?_)
      refine lv_iload_n hx hb dX9_space_30 rfl (lv_at hl 3 rfl) ?_
      refine lv_tableIn (tgt := 88) hx hb dX9_space_31 (by decide) (by decide) (off := 57) (by decide) (by decide) ?_
      refine lv_iload_n hx hb dX9_space_88 rfl (lv_at hl 1 rfl) ?_
      refine lv_aload_n hx hb dX9_space_89 rfl (lv_at hl 2 rfl) ?_
      refine lv_iload_n hx hb dX9_space_90 rfl (lv_at hl 0 rfl) ?_
      refine kV_i (ci := 9) (As := [.int 19]) (rest := [.int 0]) (wc := [(md, .inr (9, [.int 0, .ref m_all, .ref m_deeds, .ref m_trial, .int 0, .ref m_hasImage, .ref m_tape, .ref m_key, .ref m_answered, .int 0, .int 0, .int 0, .ref m_goes, .int 0, .ref m_hotOnes, .ref m_indexed, .ref m_isChanged, .int 0, .ref m_valueNow, .int 0, .int (-1), .int 0, .ref m_didSome, .ref m_sizes, .ref m_ends])), (m_all, aI cs 51207 f_m_all)]) (wr := []) hx hb hml hown hu hK hP hD hS hA hl.1 (c_X9_deadOn l D cs H.size 19 md m_all f_m_all m_deeds m_trial m_hasImage m_tape m_key m_answered m_goes m_hotOnes m_indexed m_isChanged m_valueNow m_didSome m_sizes m_ends 0 0 0 z_all (by first | decide | grind)) (gV u_1200 u_1202 u_16 u_76 u_1203) hd_X9_deadOn ⟨(Nat.le_of_ble_eq_true rfl), (Nat.le_of_ble_eq_true rfl)⟩ [0, 1] [] rfl rfl rfl rfl (by decide) rfl 0 rfl rfl rfl (Nat.le_of_ble_eq_true rfl) dX9_space_91 ⟨(Nat.le_of_ble_eq_true rfl), (Nat.le_of_ble_eq_true rfl)⟩ (fun r_443 ut_444 H locs hw_445 hP hD hS => ?_)
      have hP : va_P D vwCl [(md, .inr (9, [.int 0, .ref m_all, .ref m_deeds, .ref m_trial, .int 0, .ref m_hasImage, .ref m_tape, .ref m_key, .ref m_answered, .int 0, .int 0, .int 0, .ref m_goes, .int 0, .ref m_hotOnes, .ref m_indexed, .ref m_isChanged, .int 0, .ref m_valueNow, .int 0, .int (-1), .int 0, .ref m_didSome, .ref m_sizes, .ref m_ends])), (m_all, aI cs 51207 f_m_all)] H := hP
      have hD : va_D A [(md, .inr (9, [.int 0, .ref m_all, .ref m_deeds, .ref m_trial, .int 0, .ref m_hasImage, .ref m_tape, .ref m_key, .ref m_answered, .int 0, .int 0, .int 0, .ref m_goes, .int 0, .ref m_hotOnes, .ref m_indexed, .ref m_isChanged, .int 0, .ref m_valueNow, .int 0, .int (-1), .int 0, .ref m_didSome, .ref m_sizes, .ref m_ends])), (m_all, aI cs 51207 f_m_all)] := hD
      have er_446 := hw_445
      subst er_446
      refine lv_iadd hx hb dX9_space_94 ?_
      refine tpi (y := 0) (by decide) ?_
      refine lv_istore_n (lv' := [(2, .int 0), (3, .int 19), (0, .ref md), (1, .int 2)]) hx hb dX9_space_95 rfl hl (by decide) rfl (fun ls hl => ?_)
      refine lv_goto (tgt := 146) hx hb dX9_space_96 (by decide) ?_
      refine lv_iinc (v := 20) (lv' := [(3, .int 20), (2, .int 0), (0, .ref md), (1, .int 2)]) hx hb dX9_space_146 hl (k := 1) rfl (by decide) (by decide) rfl (fun ls hl => ?_)
      refine lv_goto (tgt := 24) hx hb dX9_space_149 (by decide) ?_
      refine lv_iload_n hx hb dX9_space_24 rfl (lv_at hl 0 rfl) ?_
      refine lv_bipush (v := 24) hx hb dX9_space_25 (by decide) ?_
      refine lv_icmp_ge (tgt := 152) hx hb dX9_space_27 (by decide) (fun c_447 => absurd c_447 (by decide)) (fun c_447 => ?_)
      refine lv_iload_n hx hb dX9_space_30 rfl (lv_at hl 3 rfl) ?_
      refine lv_tableIn (tgt := 88) hx hb dX9_space_31 (by decide) (by decide) (off := 57) (by decide) (by decide) ?_
      refine lv_iload_n hx hb dX9_space_88 rfl (lv_at hl 1 rfl) ?_
      refine lv_aload_n hx hb dX9_space_89 rfl (lv_at hl 2 rfl) ?_
      refine lv_iload_n hx hb dX9_space_90 rfl (lv_at hl 0 rfl) ?_
      refine kV_i (ci := 9) (As := [.int 20]) (rest := [.int 0]) (wc := [(md, .inr (9, [.int 0, .ref m_all, .ref m_deeds, .ref m_trial, .int 0, .ref m_hasImage, .ref m_tape, .ref m_key, .ref m_answered, .int 0, .int 0, .int 0, .ref m_goes, .int 0, .ref m_hotOnes, .ref m_indexed, .ref m_isChanged, .int 0, .ref m_valueNow, .int 0, .int (-1), .int 0, .ref m_didSome, .ref m_sizes, .ref m_ends])), (m_all, aI cs 51207 f_m_all)]) (wr := []) hx hb hml hown hu hK hP hD hS hA hl.1 (c_X9_deadOn l D cs H.size 20 md m_all f_m_all m_deeds m_trial m_hasImage m_tape m_key m_answered m_goes m_hotOnes m_indexed m_isChanged m_valueNow m_didSome m_sizes m_ends 0 0 0 z_all (by first | decide | grind)) (gV u_1200 u_1202 u_16 u_76 u_1203) hd_X9_deadOn ⟨(Nat.le_of_ble_eq_true rfl), (Nat.le_of_ble_eq_true rfl)⟩ [0, 1] [] rfl rfl rfl rfl (by decide) rfl 0 rfl rfl rfl (Nat.le_of_ble_eq_true rfl) dX9_space_91 ⟨(Nat.le_of_ble_eq_true rfl), (Nat.le_of_ble_eq_true rfl)⟩ (fun r_448 ut_449 H locs hw_450 hP hD hS => ?_)
      have hP : va_P D vwCl [(md, .inr (9, [.int 0, .ref m_all, .ref m_deeds, .ref m_trial, .int 0, .ref m_hasImage, .ref m_tape, .ref m_key, .ref m_answered, .int 0, .int 0, .int 0, .ref m_goes, .int 0, .ref m_hotOnes, .ref m_indexed, .ref m_isChanged, .int 0, .ref m_valueNow, .int 0, .int (-1), .int 0, .ref m_didSome, .ref m_sizes, .ref m_ends])), (m_all, aI cs 51207 f_m_all)] H := hP
      have hD : va_D A [(md, .inr (9, [.int 0, .ref m_all, .ref m_deeds, .ref m_trial, .int 0, .ref m_hasImage, .ref m_tape, .ref m_key, .ref m_answered, .int 0, .int 0, .int 0, .ref m_goes, .int 0, .ref m_hotOnes, .ref m_indexed, .ref m_isChanged, .int 0, .ref m_valueNow, .int 0, .int (-1), .int 0, .ref m_didSome, .ref m_sizes, .ref m_ends])), (m_all, aI cs 51207 f_m_all)] := hD
      have er_451 := hw_450
      subst er_451
      refine lv_iadd hx hb dX9_space_94 ?_
      refine tpi (y := 0) (by decide) ?_
      refine lv_istore_n (lv' := [(2, .int 0), (3, .int 20), (0, .ref md), (1, .int 2)]) hx hb dX9_space_95 rfl hl (by decide) rfl (fun ls hl => ?_)
      refine lv_goto (tgt := 146) hx hb dX9_space_96 (by decide) ?_
      refine lv_iinc (v := 21) (lv' := [(3, .int 21), (2, .int 0), (0, .ref md), (1, .int 2)]) hx hb dX9_space_146 hl (k := 1) rfl (by decide) (by decide) rfl (fun ls hl => ?_)
      refine lv_goto (tgt := 24) hx hb dX9_space_149 (by decide) ?_
      refine lv_iload_n hx hb dX9_space_24 rfl (lv_at hl 0 rfl) ?_
      refine lv_bipush (v := 24) hx hb dX9_space_25 (by decide) ?_
      refine lv_icmp_ge (tgt := 152) hx hb dX9_space_27 (by decide) (fun c_452 => absurd c_452 (by decide)) (fun c_452 => ?_)
      refine lv_iload_n hx hb dX9_space_30 rfl (lv_at hl 3 rfl) ?_
      refine lv_tableIn (tgt := 88) hx hb dX9_space_31 (by decide) (by decide) (off := 57) (by decide) (by decide) ?_
      refine lv_iload_n hx hb dX9_space_88 rfl (lv_at hl 1 rfl) ?_
      refine lv_aload_n hx hb dX9_space_89 rfl (lv_at hl 2 rfl) ?_
      refine lv_iload_n hx hb dX9_space_90 rfl (lv_at hl 0 rfl) ?_
      refine kV_i (ci := 9) (As := [.int 21]) (rest := [.int 0]) (wc := [(md, .inr (9, [.int 0, .ref m_all, .ref m_deeds, .ref m_trial, .int 0, .ref m_hasImage, .ref m_tape, .ref m_key, .ref m_answered, .int 0, .int 0, .int 0, .ref m_goes, .int 0, .ref m_hotOnes, .ref m_indexed, .ref m_isChanged, .int 0, .ref m_valueNow, .int 0, .int (-1), .int 0, .ref m_didSome, .ref m_sizes, .ref m_ends])), (m_all, aI cs 51207 f_m_all)]) (wr := []) hx hb hml hown hu hK hP hD hS hA hl.1 (c_X9_deadOn l D cs H.size 21 md m_all f_m_all m_deeds m_trial m_hasImage m_tape m_key m_answered m_goes m_hotOnes m_indexed m_isChanged m_valueNow m_didSome m_sizes m_ends 0 0 0 z_all (by first | decide | grind)) (gV u_1200 u_1202 u_16 u_76 u_1203) hd_X9_deadOn ⟨(Nat.le_of_ble_eq_true rfl), (Nat.le_of_ble_eq_true rfl)⟩ [0, 1] [] rfl rfl rfl rfl (by decide) rfl 0 rfl rfl rfl (Nat.le_of_ble_eq_true rfl) dX9_space_91 ⟨(Nat.le_of_ble_eq_true rfl), (Nat.le_of_ble_eq_true rfl)⟩ (fun r_453 ut_454 H locs hw_455 hP hD hS => ?_)
      have hP : va_P D vwCl [(md, .inr (9, [.int 0, .ref m_all, .ref m_deeds, .ref m_trial, .int 0, .ref m_hasImage, .ref m_tape, .ref m_key, .ref m_answered, .int 0, .int 0, .int 0, .ref m_goes, .int 0, .ref m_hotOnes, .ref m_indexed, .ref m_isChanged, .int 0, .ref m_valueNow, .int 0, .int (-1), .int 0, .ref m_didSome, .ref m_sizes, .ref m_ends])), (m_all, aI cs 51207 f_m_all)] H := hP
      have hD : va_D A [(md, .inr (9, [.int 0, .ref m_all, .ref m_deeds, .ref m_trial, .int 0, .ref m_hasImage, .ref m_tape, .ref m_key, .ref m_answered, .int 0, .int 0, .int 0, .ref m_goes, .int 0, .ref m_hotOnes, .ref m_indexed, .ref m_isChanged, .int 0, .ref m_valueNow, .int 0, .int (-1), .int 0, .ref m_didSome, .ref m_sizes, .ref m_ends])), (m_all, aI cs 51207 f_m_all)] := hD
      have er_456 := hw_455
      subst er_456
      refine lv_iadd hx hb dX9_space_94 ?_
      refine tpi (y := 0) (by decide) ?_
      refine lv_istore_n (lv' := [(2, .int 0), (3, .int 21), (0, .ref md), (1, .int 2)]) hx hb dX9_space_95 rfl hl (by decide) rfl (fun ls hl => ?_)
      refine lv_goto (tgt := 146) hx hb dX9_space_96 (by decide) ?_
      refine lv_iinc (v := 22) (lv' := [(3, .int 22), (2, .int 0), (0, .ref md), (1, .int 2)]) hx hb dX9_space_146 hl (k := 1) rfl (by decide) (by decide) rfl (fun ls hl => ?_)
      refine lv_goto (tgt := 24) hx hb dX9_space_149 (by decide) ?_
      refine lv_iload_n hx hb dX9_space_24 rfl (lv_at hl 0 rfl) ?_
      refine lv_bipush (v := 24) hx hb dX9_space_25 (by decide) ?_
      refine lv_icmp_ge (tgt := 152) hx hb dX9_space_27 (by decide) (fun c_457 => absurd c_457 (by decide)) (fun c_457 => ?_)
      refine lv_iload_n hx hb dX9_space_30 rfl (lv_at hl 3 rfl) ?_
      refine lv_tableIn (tgt := 88) hx hb dX9_space_31 (by decide) (by decide) (off := 57) (by decide) (by decide) ?_
      refine lv_iload_n hx hb dX9_space_88 rfl (lv_at hl 1 rfl) ?_
      refine lv_aload_n hx hb dX9_space_89 rfl (lv_at hl 2 rfl) ?_
      refine lv_iload_n hx hb dX9_space_90 rfl (lv_at hl 0 rfl) ?_
      refine kV_i (ci := 9) (As := [.int 22]) (rest := [.int 0]) (wc := [(md, .inr (9, [.int 0, .ref m_all, .ref m_deeds, .ref m_trial, .int 0, .ref m_hasImage, .ref m_tape, .ref m_key, .ref m_answered, .int 0, .int 0, .int 0, .ref m_goes, .int 0, .ref m_hotOnes, .ref m_indexed, .ref m_isChanged, .int 0, .ref m_valueNow, .int 0, .int (-1), .int 0, .ref m_didSome, .ref m_sizes, .ref m_ends])), (m_all, aI cs 51207 f_m_all)]) (wr := []) hx hb hml hown hu hK hP hD hS hA hl.1 (c_X9_deadOn l D cs H.size 22 md m_all f_m_all m_deeds m_trial m_hasImage m_tape m_key m_answered m_goes m_hotOnes m_indexed m_isChanged m_valueNow m_didSome m_sizes m_ends 0 0 0 z_all (by first | decide | grind)) (gV u_1200 u_1202 u_16 u_76 u_1203) hd_X9_deadOn ⟨(Nat.le_of_ble_eq_true rfl), (Nat.le_of_ble_eq_true rfl)⟩ [0, 1] [] rfl rfl rfl rfl (by decide) rfl 0 rfl rfl rfl (Nat.le_of_ble_eq_true rfl) dX9_space_91 ⟨(Nat.le_of_ble_eq_true rfl), (Nat.le_of_ble_eq_true rfl)⟩ (fun r_458 ut_459 H locs hw_460 hP hD hS => ?_)
      have hP : va_P D vwCl [(md, .inr (9, [.int 0, .ref m_all, .ref m_deeds, .ref m_trial, .int 0, .ref m_hasImage, .ref m_tape, .ref m_key, .ref m_answered, .int 0, .int 0, .int 0, .ref m_goes, .int 0, .ref m_hotOnes, .ref m_indexed, .ref m_isChanged, .int 0, .ref m_valueNow, .int 0, .int (-1), .int 0, .ref m_didSome, .ref m_sizes, .ref m_ends])), (m_all, aI cs 51207 f_m_all)] H := hP
      have hD : va_D A [(md, .inr (9, [.int 0, .ref m_all, .ref m_deeds, .ref m_trial, .int 0, .ref m_hasImage, .ref m_tape, .ref m_key, .ref m_answered, .int 0, .int 0, .int 0, .ref m_goes, .int 0, .ref m_hotOnes, .ref m_indexed, .ref m_isChanged, .int 0, .ref m_valueNow, .int 0, .int (-1), .int 0, .ref m_didSome, .ref m_sizes, .ref m_ends])), (m_all, aI cs 51207 f_m_all)] := hD
      have er_461 := hw_460
      subst er_461
      refine lv_iadd hx hb dX9_space_94 ?_
      refine tpi (y := 0) (by decide) ?_
      refine lv_istore_n (lv' := [(2, .int 0), (3, .int 22), (0, .ref md), (1, .int 2)]) hx hb dX9_space_95 rfl hl (by decide) rfl (fun ls hl => ?_)
      refine lv_goto (tgt := 146) hx hb dX9_space_96 (by decide) ?_
      refine lv_iinc (v := 23) (lv' := [(3, .int 23), (2, .int 0), (0, .ref md), (1, .int 2)]) hx hb dX9_space_146 hl (k := 1) rfl (by decide) (by decide) rfl (fun ls hl => ?_)
      refine lv_goto (tgt := 24) hx hb dX9_space_149 (by decide) ?_
      refine lv_iload_n hx hb dX9_space_24 rfl (lv_at hl 0 rfl) ?_
      refine lv_bipush (v := 24) hx hb dX9_space_25 (by decide) ?_
      refine lv_icmp_ge (tgt := 152) hx hb dX9_space_27 (by decide) (fun c_462 => absurd c_462 (by decide)) (fun c_462 => ?_)
      refine lv_iload_n hx hb dX9_space_30 rfl (lv_at hl 3 rfl) ?_
      refine lv_tableIn (tgt := 88) hx hb dX9_space_31 (by decide) (by decide) (off := 57) (by decide) (by decide) ?_
      refine lv_iload_n hx hb dX9_space_88 rfl (lv_at hl 1 rfl) ?_
      refine lv_aload_n hx hb dX9_space_89 rfl (lv_at hl 2 rfl) ?_
      refine lv_iload_n hx hb dX9_space_90 rfl (lv_at hl 0 rfl) ?_
      refine kV_i (ci := 9) (As := [.int 23]) (rest := [.int 0]) (wc := [(md, .inr (9, [.int 0, .ref m_all, .ref m_deeds, .ref m_trial, .int 0, .ref m_hasImage, .ref m_tape, .ref m_key, .ref m_answered, .int 0, .int 0, .int 0, .ref m_goes, .int 0, .ref m_hotOnes, .ref m_indexed, .ref m_isChanged, .int 0, .ref m_valueNow, .int 0, .int (-1), .int 0, .ref m_didSome, .ref m_sizes, .ref m_ends])), (m_all, aI cs 51207 f_m_all)]) (wr := []) hx hb hml hown hu hK hP hD hS hA hl.1 (c_X9_deadOn l D cs H.size 23 md m_all f_m_all m_deeds m_trial m_hasImage m_tape m_key m_answered m_goes m_hotOnes m_indexed m_isChanged m_valueNow m_didSome m_sizes m_ends 0 0 0 z_all (by first | decide | grind)) (gV u_1200 u_1202 u_16 u_76 u_1203) hd_X9_deadOn ⟨(Nat.le_of_ble_eq_true rfl), (Nat.le_of_ble_eq_true rfl)⟩ [0, 1] [] rfl rfl rfl rfl (by decide) rfl 0 rfl rfl rfl (Nat.le_of_ble_eq_true rfl) dX9_space_91 ⟨(Nat.le_of_ble_eq_true rfl), (Nat.le_of_ble_eq_true rfl)⟩ (fun r_463 ut_464 H locs hw_465 hP hD hS => ?_)
      have hP : va_P D vwCl [(md, .inr (9, [.int 0, .ref m_all, .ref m_deeds, .ref m_trial, .int 0, .ref m_hasImage, .ref m_tape, .ref m_key, .ref m_answered, .int 0, .int 0, .int 0, .ref m_goes, .int 0, .ref m_hotOnes, .ref m_indexed, .ref m_isChanged, .int 0, .ref m_valueNow, .int 0, .int (-1), .int 0, .ref m_didSome, .ref m_sizes, .ref m_ends])), (m_all, aI cs 51207 f_m_all)] H := hP
      have hD : va_D A [(md, .inr (9, [.int 0, .ref m_all, .ref m_deeds, .ref m_trial, .int 0, .ref m_hasImage, .ref m_tape, .ref m_key, .ref m_answered, .int 0, .int 0, .int 0, .ref m_goes, .int 0, .ref m_hotOnes, .ref m_indexed, .ref m_isChanged, .int 0, .ref m_valueNow, .int 0, .int (-1), .int 0, .ref m_didSome, .ref m_sizes, .ref m_ends])), (m_all, aI cs 51207 f_m_all)] := hD
      have er_466 := hw_465
      subst er_466
      refine lv_iadd hx hb dX9_space_94 ?_
      refine tpi (y := 0) (by decide) ?_
      refine lv_istore_n (lv' := [(2, .int 0), (3, .int 23), (0, .ref md), (1, .int 2)]) hx hb dX9_space_95 rfl hl (by decide) rfl (fun ls hl => ?_)
      refine lv_goto (tgt := 146) hx hb dX9_space_96 (by decide) ?_
      refine lv_iinc (v := 24) (lv' := [(3, .int 24), (2, .int 0), (0, .ref md), (1, .int 2)]) hx hb dX9_space_146 hl (k := 1) rfl (by decide) (by decide) rfl (fun ls hl => ?_)
      refine lv_goto (tgt := 24) hx hb dX9_space_149 (by decide) ?_
      refine lv_iload_n hx hb dX9_space_24 rfl (lv_at hl 0 rfl) ?_
      refine lv_bipush (v := 24) hx hb dX9_space_25 (by decide) ?_
      refine lv_icmp_ge (tgt := 152) hx hb dX9_space_27 (by decide) (fun c_467 => ?_) (fun c_467 => absurd (by decide) c_467)
      refine lv_iload_n hx hb dX9_space_152 rfl (lv_at hl 1 rfl) ?_
      exact hz () hP hD hS (by grind) [] rfl rfl (Nat.le_of_ble_eq_true rfl) (Nat.le_of_ble_eq_true rfl) .int rfl rfl dX9_space_153
    · subst c_8
      refine lv_iconst (v := 0) hx hb dX9_space_20 (by decide) ?_
      refine lv_istore_n (lv' := [(2, .int 0), (0, .ref md), (1, .int 3)]) hx hb dX9_space_21 rfl hl (by decide) rfl (fun ls hl => ?_)
      refine lv_iconst (v := 0) hx hb dX9_space_22 (by decide) ?_
      refine lv_istore_n (lv' := [(3, .int 0), (2, .int 0), (0, .ref md), (1, .int 3)]) hx hb dX9_space_23 rfl hl (by decide) rfl (fun ls hl => ?_)
      refine lv_iload_n hx hb dX9_space_24 rfl (lv_at hl 0 rfl) ?_
      refine lv_bipush (v := 24) hx hb dX9_space_25 (by decide) ?_
      refine lv_icmp_ge (tgt := 152) hx hb dX9_space_27 (by decide) (fun c_468 => absurd c_468 (by decide)) (fun c_468 => ?_)
      refine lv_iload_n hx hb dX9_space_30 rfl (lv_at hl 3 rfl) ?_
      refine lv_tableIn (tgt := 99) hx hb dX9_space_31 (by decide) (by decide) (off := 68) (by decide) (by decide) ?_
      refine lv_iload_n hx hb dX9_space_99 rfl (lv_at hl 1 rfl) ?_
      refine lv_aload_n hx hb dX9_space_100 rfl (lv_at hl 2 rfl) ?_
      refine lv_iload_n hx hb dX9_space_101 rfl (lv_at hl 0 rfl) ?_
      refine kV_i (ci := 9) (As := [.int 0]) (rest := [.int 0]) (wc := [(md, .inr (9, [.int 0, .ref m_all, .ref m_deeds, .ref m_trial, .int 0, .ref m_hasImage, .ref m_tape, .ref m_key, .ref m_answered, .int 0, .int 0, .int 0, .ref m_goes, .int 0, .ref m_hotOnes, .ref m_indexed, .ref m_isChanged, .int 0, .ref m_valueNow, .int 0, .int (-1), .int 0, .ref m_didSome, .ref m_sizes, .ref m_ends])), (m_all, aI cs 51207 f_m_all)]) (wr := []) hx hb hml hown hu hK hP hD hS hA hl.1 (c_X9_isFree l D cs H.size 0 md m_all f_m_all m_deeds m_trial m_hasImage m_tape m_key m_answered m_goes m_hotOnes m_indexed m_isChanged m_valueNow m_didSome m_sizes m_ends 0 0 0 z_all (by first | decide | grind)) (gV u_1188 u_1190 u_13 u_76 u_1191) hd_X9_isFree ⟨(Nat.le_of_ble_eq_true rfl), (Nat.le_of_ble_eq_true rfl)⟩ [0, 1] [] rfl rfl rfl rfl (by decide) rfl 0 rfl rfl rfl (Nat.le_of_ble_eq_true rfl) dX9_space_102 ⟨(Nat.le_of_ble_eq_true rfl), (Nat.le_of_ble_eq_true rfl)⟩ (fun r_469 ut_470 H locs hw_471 hP hD hS => ?_)
      have hP : va_P D vwCl [(md, .inr (9, [.int 0, .ref m_all, .ref m_deeds, .ref m_trial, .int 0, .ref m_hasImage, .ref m_tape, .ref m_key, .ref m_answered, .int 0, .int 0, .int 0, .ref m_goes, .int 0, .ref m_hotOnes, .ref m_indexed, .ref m_isChanged, .int 0, .ref m_valueNow, .int 0, .int (-1), .int 0, .ref m_didSome, .ref m_sizes, .ref m_ends])), (m_all, aI cs 51207 f_m_all)] H := hP
      have hD : va_D A [(md, .inr (9, [.int 0, .ref m_all, .ref m_deeds, .ref m_trial, .int 0, .ref m_hasImage, .ref m_tape, .ref m_key, .ref m_answered, .int 0, .int 0, .int 0, .ref m_goes, .int 0, .ref m_hotOnes, .ref m_indexed, .ref m_isChanged, .int 0, .ref m_valueNow, .int 0, .int (-1), .int 0, .ref m_didSome, .ref m_sizes, .ref m_ends])), (m_all, aI cs 51207 f_m_all)] := hD
      have er_472 := hw_471
      subst er_472
      refine lv_if_eq (tgt := 112) hx hb dX9_space_105 (by decide) (fun c_473 => absurd c_473 (by decide)) (fun c_473 => ?_)
      refine lv_iconst (v := 0) hx hb dX9_space_108 (by decide) ?_
      refine lv_goto (tgt := 124) hx hb dX9_space_109 (by decide) ?_
      refine lv_iadd hx hb dX9_space_124 ?_
      refine tpi (y := 0) (by decide) ?_
      refine lv_istore_n (lv' := [(2, .int 0), (3, .int 0), (0, .ref md), (1, .int 3)]) hx hb dX9_space_125 rfl hl (by decide) rfl (fun ls hl => ?_)
      refine lv_goto (tgt := 146) hx hb dX9_space_126 (by decide) ?_
      refine lv_iinc (v := 1) (lv' := [(3, .int 1), (2, .int 0), (0, .ref md), (1, .int 3)]) hx hb dX9_space_146 hl (k := 1) rfl (by decide) (by decide) rfl (fun ls hl => ?_)
      refine lv_goto (tgt := 24) hx hb dX9_space_149 (by decide) ?_
      refine lv_iload_n hx hb dX9_space_24 rfl (lv_at hl 0 rfl) ?_
      refine lv_bipush (v := 24) hx hb dX9_space_25 (by decide) ?_
      refine lv_icmp_ge (tgt := 152) hx hb dX9_space_27 (by decide) (fun c_474 => absurd c_474 (by decide)) (fun c_474 => ?_)
      refine lv_iload_n hx hb dX9_space_30 rfl (lv_at hl 3 rfl) ?_
      refine lv_tableIn (tgt := 99) hx hb dX9_space_31 (by decide) (by decide) (off := 68) (by decide) (by decide) ?_
      refine lv_iload_n hx hb dX9_space_99 rfl (lv_at hl 1 rfl) ?_
      refine lv_aload_n hx hb dX9_space_100 rfl (lv_at hl 2 rfl) ?_
      refine lv_iload_n hx hb dX9_space_101 rfl (lv_at hl 0 rfl) ?_
      refine kV_i (ci := 9) (As := [.int 1]) (rest := [.int 0]) (wc := [(md, .inr (9, [.int 0, .ref m_all, .ref m_deeds, .ref m_trial, .int 0, .ref m_hasImage, .ref m_tape, .ref m_key, .ref m_answered, .int 0, .int 0, .int 0, .ref m_goes, .int 0, .ref m_hotOnes, .ref m_indexed, .ref m_isChanged, .int 0, .ref m_valueNow, .int 0, .int (-1), .int 0, .ref m_didSome, .ref m_sizes, .ref m_ends])), (m_all, aI cs 51207 f_m_all)]) (wr := []) hx hb hml hown hu hK hP hD hS hA hl.1 (c_X9_isFree l D cs H.size 1 md m_all f_m_all m_deeds m_trial m_hasImage m_tape m_key m_answered m_goes m_hotOnes m_indexed m_isChanged m_valueNow m_didSome m_sizes m_ends 0 0 0 z_all (by first | decide | grind)) (gV u_1188 u_1190 u_13 u_76 u_1191) hd_X9_isFree ⟨(Nat.le_of_ble_eq_true rfl), (Nat.le_of_ble_eq_true rfl)⟩ [0, 1] [] rfl rfl rfl rfl (by decide) rfl 0 rfl rfl rfl (Nat.le_of_ble_eq_true rfl) dX9_space_102 ⟨(Nat.le_of_ble_eq_true rfl), (Nat.le_of_ble_eq_true rfl)⟩ (fun r_475 ut_476 H locs hw_477 hP hD hS => ?_)
      have hP : va_P D vwCl [(md, .inr (9, [.int 0, .ref m_all, .ref m_deeds, .ref m_trial, .int 0, .ref m_hasImage, .ref m_tape, .ref m_key, .ref m_answered, .int 0, .int 0, .int 0, .ref m_goes, .int 0, .ref m_hotOnes, .ref m_indexed, .ref m_isChanged, .int 0, .ref m_valueNow, .int 0, .int (-1), .int 0, .ref m_didSome, .ref m_sizes, .ref m_ends])), (m_all, aI cs 51207 f_m_all)] H := hP
      have hD : va_D A [(md, .inr (9, [.int 0, .ref m_all, .ref m_deeds, .ref m_trial, .int 0, .ref m_hasImage, .ref m_tape, .ref m_key, .ref m_answered, .int 0, .int 0, .int 0, .ref m_goes, .int 0, .ref m_hotOnes, .ref m_indexed, .ref m_isChanged, .int 0, .ref m_valueNow, .int 0, .int (-1), .int 0, .ref m_didSome, .ref m_sizes, .ref m_ends])), (m_all, aI cs 51207 f_m_all)] := hD
      have er_478 := hw_477
      subst er_478
      refine lv_if_eq (tgt := 112) hx hb dX9_space_105 (by decide) (fun c_479 => absurd c_479 (by decide)) (fun c_479 => ?_)
      refine lv_iconst (v := 0) hx hb dX9_space_108 (by decide) ?_
      refine lv_goto (tgt := 124) hx hb dX9_space_109 (by decide) ?_
      refine lv_iadd hx hb dX9_space_124 ?_
      refine tpi (y := 0) (by decide) ?_
      refine lv_istore_n (lv' := [(2, .int 0), (3, .int 1), (0, .ref md), (1, .int 3)]) hx hb dX9_space_125 rfl hl (by decide) rfl (fun ls hl => ?_)
      refine lv_goto (tgt := 146) hx hb dX9_space_126 (by decide) ?_
      refine lv_iinc (v := 2) (lv' := [(3, .int 2), (2, .int 0), (0, .ref md), (1, .int 3)]) hx hb dX9_space_146 hl (k := 1) rfl (by decide) (by decide) rfl (fun ls hl => ?_)
      refine lv_goto (tgt := 24) hx hb dX9_space_149 (by decide) ?_
      refine lv_iload_n hx hb dX9_space_24 rfl (lv_at hl 0 rfl) ?_
      refine lv_bipush (v := 24) hx hb dX9_space_25 (by decide) ?_
      refine lv_icmp_ge (tgt := 152) hx hb dX9_space_27 (by decide) (fun c_480 => absurd c_480 (by decide)) (fun c_480 => ?_)
      refine lv_iload_n hx hb dX9_space_30 rfl (lv_at hl 3 rfl) ?_
      refine lv_tableIn (tgt := 99) hx hb dX9_space_31 (by decide) (by decide) (off := 68) (by decide) (by decide) ?_
      refine lv_iload_n hx hb dX9_space_99 rfl (lv_at hl 1 rfl) ?_
      refine lv_aload_n hx hb dX9_space_100 rfl (lv_at hl 2 rfl) ?_
      refine lv_iload_n hx hb dX9_space_101 rfl (lv_at hl 0 rfl) ?_
      refine kV_i (ci := 9) (As := [.int 2]) (rest := [.int 0]) (wc := [(md, .inr (9, [.int 0, .ref m_all, .ref m_deeds, .ref m_trial, .int 0, .ref m_hasImage, .ref m_tape, .ref m_key, .ref m_answered, .int 0, .int 0, .int 0, .ref m_goes, .int 0, .ref m_hotOnes, .ref m_indexed, .ref m_isChanged, .int 0, .ref m_valueNow, .int 0, .int (-1), .int 0, .ref m_didSome, .ref m_sizes, .ref m_ends])), (m_all, aI cs 51207 f_m_all)]) (wr := []) hx hb hml hown hu hK hP hD hS hA hl.1 (c_X9_isFree l D cs H.size 2 md m_all f_m_all m_deeds m_trial m_hasImage m_tape m_key m_answered m_goes m_hotOnes m_indexed m_isChanged m_valueNow m_didSome m_sizes m_ends 0 0 0 z_all (by first | decide | grind)) (gV u_1188 u_1190 u_13 u_76 u_1191) hd_X9_isFree ⟨(Nat.le_of_ble_eq_true rfl), (Nat.le_of_ble_eq_true rfl)⟩ [0, 1] [] rfl rfl rfl rfl (by decide) rfl 0 rfl rfl rfl (Nat.le_of_ble_eq_true rfl) dX9_space_102 ⟨(Nat.le_of_ble_eq_true rfl), (Nat.le_of_ble_eq_true rfl)⟩ (fun r_481 ut_482 H locs hw_483 hP hD hS => ?_)
      have hP : va_P D vwCl [(md, .inr (9, [.int 0, .ref m_all, .ref m_deeds, .ref m_trial, .int 0, .ref m_hasImage, .ref m_tape, .ref m_key, .ref m_answered, .int 0, .int 0, .int 0, .ref m_goes, .int 0, .ref m_hotOnes, .ref m_indexed, .ref m_isChanged, .int 0, .ref m_valueNow, .int 0, .int (-1), .int 0, .ref m_didSome, .ref m_sizes, .ref m_ends])), (m_all, aI cs 51207 f_m_all)] H := hP
      have hD : va_D A [(md, .inr (9, [.int 0, .ref m_all, .ref m_deeds, .ref m_trial, .int 0, .ref m_hasImage, .ref m_tape, .ref m_key, .ref m_answered, .int 0, .int 0, .int 0, .ref m_goes, .int 0, .ref m_hotOnes, .ref m_indexed, .ref m_isChanged, .int 0, .ref m_valueNow, .int 0, .int (-1), .int 0, .ref m_didSome, .ref m_sizes, .ref m_ends])), (m_all, aI cs 51207 f_m_all)] := hD
      have er_484 := hw_483
      subst er_484
      refine lv_if_eq (tgt := 112) hx hb dX9_space_105 (by decide) (fun c_485 => absurd c_485 (by decide)) (fun c_485 => ?_)
      refine lv_iconst (v := 0) hx hb dX9_space_108 (by decide) ?_
      refine lv_goto (tgt := 124) hx hb dX9_space_109 (by decide) ?_
      refine lv_iadd hx hb dX9_space_124 ?_
      refine tpi (y := 0) (by decide) ?_
      refine lv_istore_n (lv' := [(2, .int 0), (3, .int 2), (0, .ref md), (1, .int 3)]) hx hb dX9_space_125 rfl hl (by decide) rfl (fun ls hl => ?_)
      refine lv_goto (tgt := 146) hx hb dX9_space_126 (by decide) ?_
      refine lv_iinc (v := 3) (lv' := [(3, .int 3), (2, .int 0), (0, .ref md), (1, .int 3)]) hx hb dX9_space_146 hl (k := 1) rfl (by decide) (by decide) rfl (fun ls hl => ?_)
      refine lv_goto (tgt := 24) hx hb dX9_space_149 (by decide) ?_
      refine lv_iload_n hx hb dX9_space_24 rfl (lv_at hl 0 rfl) ?_
      refine lv_bipush (v := 24) hx hb dX9_space_25 (by decide) ?_
      refine lv_icmp_ge (tgt := 152) hx hb dX9_space_27 (by decide) (fun c_486 => absurd c_486 (by decide)) (fun c_486 => ?_)
      refine lv_iload_n hx hb dX9_space_30 rfl (lv_at hl 3 rfl) ?_
      refine lv_tableIn (tgt := 99) hx hb dX9_space_31 (by decide) (by decide) (off := 68) (by decide) (by decide) ?_
      refine lv_iload_n hx hb dX9_space_99 rfl (lv_at hl 1 rfl) ?_
      refine lv_aload_n hx hb dX9_space_100 rfl (lv_at hl 2 rfl) ?_
      refine lv_iload_n hx hb dX9_space_101 rfl (lv_at hl 0 rfl) ?_
      refine kV_i (ci := 9) (As := [.int 3]) (rest := [.int 0]) (wc := [(md, .inr (9, [.int 0, .ref m_all, .ref m_deeds, .ref m_trial, .int 0, .ref m_hasImage, .ref m_tape, .ref m_key, .ref m_answered, .int 0, .int 0, .int 0, .ref m_goes, .int 0, .ref m_hotOnes, .ref m_indexed, .ref m_isChanged, .int 0, .ref m_valueNow, .int 0, .int (-1), .int 0, .ref m_didSome, .ref m_sizes, .ref m_ends])), (m_all, aI cs 51207 f_m_all)]) (wr := []) hx hb hml hown hu hK hP hD hS hA hl.1 (c_X9_isFree l D cs H.size 3 md m_all f_m_all m_deeds m_trial m_hasImage m_tape m_key m_answered m_goes m_hotOnes m_indexed m_isChanged m_valueNow m_didSome m_sizes m_ends 0 0 0 z_all (by first | decide | grind)) (gV u_1188 u_1190 u_13 u_76 u_1191) hd_X9_isFree ⟨(Nat.le_of_ble_eq_true rfl), (Nat.le_of_ble_eq_true rfl)⟩ [0, 1] [] rfl rfl rfl rfl (by decide) rfl 0 rfl rfl rfl (Nat.le_of_ble_eq_true rfl) dX9_space_102 ⟨(Nat.le_of_ble_eq_true rfl), (Nat.le_of_ble_eq_true rfl)⟩ (fun r_487 ut_488 H locs hw_489 hP hD hS => ?_)
      have hP : va_P D vwCl [(md, .inr (9, [.int 0, .ref m_all, .ref m_deeds, .ref m_trial, .int 0, .ref m_hasImage, .ref m_tape, .ref m_key, .ref m_answered, .int 0, .int 0, .int 0, .ref m_goes, .int 0, .ref m_hotOnes, .ref m_indexed, .ref m_isChanged, .int 0, .ref m_valueNow, .int 0, .int (-1), .int 0, .ref m_didSome, .ref m_sizes, .ref m_ends])), (m_all, aI cs 51207 f_m_all)] H := hP
      have hD : va_D A [(md, .inr (9, [.int 0, .ref m_all, .ref m_deeds, .ref m_trial, .int 0, .ref m_hasImage, .ref m_tape, .ref m_key, .ref m_answered, .int 0, .int 0, .int 0, .ref m_goes, .int 0, .ref m_hotOnes, .ref m_indexed, .ref m_isChanged, .int 0, .ref m_valueNow, .int 0, .int (-1), .int 0, .ref m_didSome, .ref m_sizes, .ref m_ends])), (m_all, aI cs 51207 f_m_all)] := hD
      have er_490 := hw_489
      subst er_490
      refine lv_if_eq (tgt := 112) hx hb dX9_space_105 (by decide) (fun c_491 => absurd c_491 (by decide)) (fun c_491 => ?_)
      refine lv_iconst (v := 0) hx hb dX9_space_108 (by decide) ?_
      refine lv_goto (tgt := 124) hx hb dX9_space_109 (by decide) ?_
      refine lv_iadd hx hb dX9_space_124 ?_
      refine tpi (y := 0) (by decide) ?_
      refine lv_istore_n (lv' := [(2, .int 0), (3, .int 3), (0, .ref md), (1, .int 3)]) hx hb dX9_space_125 rfl hl (by decide) rfl (fun ls hl => ?_)
      refine lv_goto (tgt := 146) hx hb dX9_space_126 (by decide) ?_
      refine lv_iinc (v := 4) (lv' := [(3, .int 4), (2, .int 0), (0, .ref md), (1, .int 3)]) hx hb dX9_space_146 hl (k := 1) rfl (by decide) (by decide) rfl (fun ls hl => ?_)
      refine lv_goto (tgt := 24) hx hb dX9_space_149 (by decide) ?_
      refine lv_iload_n hx hb dX9_space_24 rfl (lv_at hl 0 rfl) ?_
      refine lv_bipush (v := 24) hx hb dX9_space_25 (by decide) ?_
      refine lv_icmp_ge (tgt := 152) hx hb dX9_space_27 (by decide) (fun c_492 => absurd c_492 (by decide)) (fun c_492 => ?_)
      refine lv_iload_n hx hb dX9_space_30 rfl (lv_at hl 3 rfl) ?_
      refine lv_tableIn (tgt := 99) hx hb dX9_space_31 (by decide) (by decide) (off := 68) (by decide) (by decide) ?_
      refine lv_iload_n hx hb dX9_space_99 rfl (lv_at hl 1 rfl) ?_
      refine lv_aload_n hx hb dX9_space_100 rfl (lv_at hl 2 rfl) ?_
      refine lv_iload_n hx hb dX9_space_101 rfl (lv_at hl 0 rfl) ?_
      refine kV_i (ci := 9) (As := [.int 4]) (rest := [.int 0]) (wc := [(md, .inr (9, [.int 0, .ref m_all, .ref m_deeds, .ref m_trial, .int 0, .ref m_hasImage, .ref m_tape, .ref m_key, .ref m_answered, .int 0, .int 0, .int 0, .ref m_goes, .int 0, .ref m_hotOnes, .ref m_indexed, .ref m_isChanged, .int 0, .ref m_valueNow, .int 0, .int (-1), .int 0, .ref m_didSome, .ref m_sizes, .ref m_ends])), (m_all, aI cs 51207 f_m_all)]) (wr := []) hx hb hml hown hu hK hP hD hS hA hl.1 (c_X9_isFree l D cs H.size 4 md m_all f_m_all m_deeds m_trial m_hasImage m_tape m_key m_answered m_goes m_hotOnes m_indexed m_isChanged m_valueNow m_didSome m_sizes m_ends 0 0 0 z_all (by first | decide | grind)) (gV u_1188 u_1190 u_13 u_76 u_1191) hd_X9_isFree ⟨(Nat.le_of_ble_eq_true rfl), (Nat.le_of_ble_eq_true rfl)⟩ [0, 1] [] rfl rfl rfl rfl (by decide) rfl 0 rfl rfl rfl (Nat.le_of_ble_eq_true rfl) dX9_space_102 ⟨(Nat.le_of_ble_eq_true rfl), (Nat.le_of_ble_eq_true rfl)⟩ (fun r_493 ut_494 H locs hw_495 hP hD hS => ?_)
      have hP : va_P D vwCl [(md, .inr (9, [.int 0, .ref m_all, .ref m_deeds, .ref m_trial, .int 0, .ref m_hasImage, .ref m_tape, .ref m_key, .ref m_answered, .int 0, .int 0, .int 0, .ref m_goes, .int 0, .ref m_hotOnes, .ref m_indexed, .ref m_isChanged, .int 0, .ref m_valueNow, .int 0, .int (-1), .int 0, .ref m_didSome, .ref m_sizes, .ref m_ends])), (m_all, aI cs 51207 f_m_all)] H := hP
      have hD : va_D A [(md, .inr (9, [.int 0, .ref m_all, .ref m_deeds, .ref m_trial, .int 0, .ref m_hasImage, .ref m_tape, .ref m_key, .ref m_answered, .int 0, .int 0, .int 0, .ref m_goes, .int 0, .ref m_hotOnes, .ref m_indexed, .ref m_isChanged, .int 0, .ref m_valueNow, .int 0, .int (-1), .int 0, .ref m_didSome, .ref m_sizes, .ref m_ends])), (m_all, aI cs 51207 f_m_all)] := hD
      have er_496 := hw_495
      subst er_496
      refine lv_if_eq (tgt := 112) hx hb dX9_space_105 (by decide) (fun c_497 => absurd c_497 (by decide)) (fun c_497 => ?_)
      refine lv_iconst (v := 0) hx hb dX9_space_108 (by decide) ?_
      refine lv_goto (tgt := 124) hx hb dX9_space_109 (by decide) ?_
      refine lv_iadd hx hb dX9_space_124 ?_
      refine tpi (y := 0) (by decide) ?_
      refine lv_istore_n (lv' := [(2, .int 0), (3, .int 4), (0, .ref md), (1, .int 3)]) hx hb dX9_space_125 rfl hl (by decide) rfl (fun ls hl => ?_)
      refine lv_goto (tgt := 146) hx hb dX9_space_126 (by decide) ?_
      refine lv_iinc (v := 5) (lv' := [(3, .int 5), (2, .int 0), (0, .ref md), (1, .int 3)]) hx hb dX9_space_146 hl (k := 1) rfl (by decide) (by decide) rfl (fun ls hl => ?_)
      refine lv_goto (tgt := 24) hx hb dX9_space_149 (by decide) ?_
      refine lv_iload_n hx hb dX9_space_24 rfl (lv_at hl 0 rfl) ?_
      refine lv_bipush (v := 24) hx hb dX9_space_25 (by decide) ?_
      refine lv_icmp_ge (tgt := 152) hx hb dX9_space_27 (by decide) (fun c_498 => absurd c_498 (by decide)) (fun c_498 => ?_)
      refine lv_iload_n hx hb dX9_space_30 rfl (lv_at hl 3 rfl) ?_
      refine lv_tableIn (tgt := 99) hx hb dX9_space_31 (by decide) (by decide) (off := 68) (by decide) (by decide) ?_
      refine lv_iload_n hx hb dX9_space_99 rfl (lv_at hl 1 rfl) ?_
      refine lv_aload_n hx hb dX9_space_100 rfl (lv_at hl 2 rfl) ?_
      refine lv_iload_n hx hb dX9_space_101 rfl (lv_at hl 0 rfl) ?_
      refine kV_i (ci := 9) (As := [.int 5]) (rest := [.int 0]) (wc := [(md, .inr (9, [.int 0, .ref m_all, .ref m_deeds, .ref m_trial, .int 0, .ref m_hasImage, .ref m_tape, .ref m_key, .ref m_answered, .int 0, .int 0, .int 0, .ref m_goes, .int 0, .ref m_hotOnes, .ref m_indexed, .ref m_isChanged, .int 0, .ref m_valueNow, .int 0, .int (-1), .int 0, .ref m_didSome, .ref m_sizes, .ref m_ends])), (m_all, aI cs 51207 f_m_all)]) (wr := []) hx hb hml hown hu hK hP hD hS hA hl.1 (c_X9_isFree l D cs H.size 5 md m_all f_m_all m_deeds m_trial m_hasImage m_tape m_key m_answered m_goes m_hotOnes m_indexed m_isChanged m_valueNow m_didSome m_sizes m_ends 0 0 0 z_all (by first | decide | grind)) (gV u_1188 u_1190 u_13 u_76 u_1191) hd_X9_isFree ⟨(Nat.le_of_ble_eq_true rfl), (Nat.le_of_ble_eq_true rfl)⟩ [0, 1] [] rfl rfl rfl rfl (by decide) rfl 0 rfl rfl rfl (Nat.le_of_ble_eq_true rfl) dX9_space_102 ⟨(Nat.le_of_ble_eq_true rfl), (Nat.le_of_ble_eq_true rfl)⟩ (fun r_499 ut_500 H locs hw_501 hP hD hS => ?_)
      have hP : va_P D vwCl [(md, .inr (9, [.int 0, .ref m_all, .ref m_deeds, .ref m_trial, .int 0, .ref m_hasImage, .ref m_tape, .ref m_key, .ref m_answered, .int 0, .int 0, .int 0, .ref m_goes, .int 0, .ref m_hotOnes, .ref m_indexed, .ref m_isChanged, .int 0, .ref m_valueNow, .int 0, .int (-1), .int 0, .ref m_didSome, .ref m_sizes, .ref m_ends])), (m_all, aI cs 51207 f_m_all)] H := hP
      have hD : va_D A [(md, .inr (9, [.int 0, .ref m_all, .ref m_deeds, .ref m_trial, .int 0, .ref m_hasImage, .ref m_tape, .ref m_key, .ref m_answered, .int 0, .int 0, .int 0, .ref m_goes, .int 0, .ref m_hotOnes, .ref m_indexed, .ref m_isChanged, .int 0, .ref m_valueNow, .int 0, .int (-1), .int 0, .ref m_didSome, .ref m_sizes, .ref m_ends])), (m_all, aI cs 51207 f_m_all)] := hD
      have er_502 := hw_501
      subst er_502
      refine lv_if_eq (tgt := 112) hx hb dX9_space_105 (by decide) (fun c_503 => absurd c_503 (by decide)) (fun c_503 => ?_)
      refine lv_iconst (v := 0) hx hb dX9_space_108 (by decide) ?_
      refine lv_goto (tgt := 124) hx hb dX9_space_109 (by decide) ?_
      refine lv_iadd hx hb dX9_space_124 ?_
      refine tpi (y := 0) (by decide) ?_
      refine lv_istore_n (lv' := [(2, .int 0), (3, .int 5), (0, .ref md), (1, .int 3)]) hx hb dX9_space_125 rfl hl (by decide) rfl (fun ls hl => ?_)
      refine lv_goto (tgt := 146) hx hb dX9_space_126 (by decide) ?_
      refine lv_iinc (v := 6) (lv' := [(3, .int 6), (2, .int 0), (0, .ref md), (1, .int 3)]) hx hb dX9_space_146 hl (k := 1) rfl (by decide) (by decide) rfl (fun ls hl => ?_)
      refine lv_goto (tgt := 24) hx hb dX9_space_149 (by decide) ?_
      refine lv_iload_n hx hb dX9_space_24 rfl (lv_at hl 0 rfl) ?_
      refine lv_bipush (v := 24) hx hb dX9_space_25 (by decide) ?_
      refine lv_icmp_ge (tgt := 152) hx hb dX9_space_27 (by decide) (fun c_504 => absurd c_504 (by decide)) (fun c_504 => ?_)
      refine lv_iload_n hx hb dX9_space_30 rfl (lv_at hl 3 rfl) ?_
      refine lv_tableIn (tgt := 99) hx hb dX9_space_31 (by decide) (by decide) (off := 68) (by decide) (by decide) ?_
      refine lv_iload_n hx hb dX9_space_99 rfl (lv_at hl 1 rfl) ?_
      refine lv_aload_n hx hb dX9_space_100 rfl (lv_at hl 2 rfl) ?_
      refine lv_iload_n hx hb dX9_space_101 rfl (lv_at hl 0 rfl) ?_
      refine kV_i (ci := 9) (As := [.int 6]) (rest := [.int 0]) (wc := [(md, .inr (9, [.int 0, .ref m_all, .ref m_deeds, .ref m_trial, .int 0, .ref m_hasImage, .ref m_tape, .ref m_key, .ref m_answered, .int 0, .int 0, .int 0, .ref m_goes, .int 0, .ref m_hotOnes, .ref m_indexed, .ref m_isChanged, .int 0, .ref m_valueNow, .int 0, .int (-1), .int 0, .ref m_didSome, .ref m_sizes, .ref m_ends])), (m_all, aI cs 51207 f_m_all)]) (wr := []) hx hb hml hown hu hK hP hD hS hA hl.1 (c_X9_isFree l D cs H.size 6 md m_all f_m_all m_deeds m_trial m_hasImage m_tape m_key m_answered m_goes m_hotOnes m_indexed m_isChanged m_valueNow m_didSome m_sizes m_ends 0 0 0 z_all (by first | decide | grind)) (gV u_1188 u_1190 u_13 u_76 u_1191) hd_X9_isFree ⟨(Nat.le_of_ble_eq_true rfl), (Nat.le_of_ble_eq_true rfl)⟩ [0, 1] [] rfl rfl rfl rfl (by decide) rfl 0 rfl rfl rfl (Nat.le_of_ble_eq_true rfl) dX9_space_102 ⟨(Nat.le_of_ble_eq_true rfl), (Nat.le_of_ble_eq_true rfl)⟩ (fun r_505 ut_506 H locs hw_507 hP hD hS => ?_)
      have hP : va_P D vwCl [(md, .inr (9, [.int 0, .ref m_all, .ref m_deeds, .ref m_trial, .int 0, .ref m_hasImage, .ref m_tape, .ref m_key, .ref m_answered, .int 0, .int 0, .int 0, .ref m_goes, .int 0, .ref m_hotOnes, .ref m_indexed, .ref m_isChanged, .int 0, .ref m_valueNow, .int 0, .int (-1), .int 0, .ref m_didSome, .ref m_sizes, .ref m_ends])), (m_all, aI cs 51207 f_m_all)] H := hP
      have hD : va_D A [(md, .inr (9, [.int 0, .ref m_all, .ref m_deeds, .ref m_trial, .int 0, .ref m_hasImage, .ref m_tape, .ref m_key, .ref m_answered, .int 0, .int 0, .int 0, .ref m_goes, .int 0, .ref m_hotOnes, .ref m_indexed, .ref m_isChanged, .int 0, .ref m_valueNow, .int 0, .int (-1), .int 0, .ref m_didSome, .ref m_sizes, .ref m_ends])), (m_all, aI cs 51207 f_m_all)] := hD
      have er_508 := hw_507
      subst er_508
      refine lv_if_eq (tgt := 112) hx hb dX9_space_105 (by decide) (fun c_509 => absurd c_509 (by decide)) (fun c_509 => ?_)
      refine lv_iconst (v := 0) hx hb dX9_space_108 (by decide) ?_
      refine lv_goto (tgt := 124) hx hb dX9_space_109 (by decide) ?_
      refine lv_iadd hx hb dX9_space_124 ?_
      refine tpi (y := 0) (by decide) ?_
      refine lv_istore_n (lv' := [(2, .int 0), (3, .int 6), (0, .ref md), (1, .int 3)]) hx hb dX9_space_125 rfl hl (by decide) rfl (fun ls hl => ?_)
      refine lv_goto (tgt := 146) hx hb dX9_space_126 (by decide) ?_
      refine lv_iinc (v := 7) (lv' := [(3, .int 7), (2, .int 0), (0, .ref md), (1, .int 3)]) hx hb dX9_space_146 hl (k := 1) rfl (by decide) (by decide) rfl (fun ls hl => ?_)
      refine lv_goto (tgt := 24) hx hb dX9_space_149 (by decide) ?_
      refine lv_iload_n hx hb dX9_space_24 rfl (lv_at hl 0 rfl) ?_
      refine lv_bipush (v := 24) hx hb dX9_space_25 (by decide) ?_
      refine lv_icmp_ge (tgt := 152) hx hb dX9_space_27 (by decide) (fun c_510 => absurd c_510 (by decide)) (fun c_510 => ?_)
      refine lv_iload_n hx hb dX9_space_30 rfl (lv_at hl 3 rfl) ?_
      refine lv_tableIn (tgt := 99) hx hb dX9_space_31 (by decide) (by decide) (off := 68) (by decide) (by decide) ?_
      refine lv_iload_n hx hb dX9_space_99 rfl (lv_at hl 1 rfl) ?_
      refine lv_aload_n hx hb dX9_space_100 rfl (lv_at hl 2 rfl) ?_
      refine lv_iload_n hx hb dX9_space_101 rfl (lv_at hl 0 rfl) ?_
      refine kV_i (ci := 9) (As := [.int 7]) (rest := [.int 0]) (wc := [(md, .inr (9, [.int 0, .ref m_all, .ref m_deeds, .ref m_trial, .int 0, .ref m_hasImage, .ref m_tape, .ref m_key, .ref m_answered, .int 0, .int 0, .int 0, .ref m_goes, .int 0, .ref m_hotOnes, .ref m_indexed, .ref m_isChanged, .int 0, .ref m_valueNow, .int 0, .int (-1), .int 0, .ref m_didSome, .ref m_sizes, .ref m_ends])), (m_all, aI cs 51207 f_m_all)]) (wr := []) hx hb hml hown hu hK hP hD hS hA hl.1 (c_X9_isFree l D cs H.size 7 md m_all f_m_all m_deeds m_trial m_hasImage m_tape m_key m_answered m_goes m_hotOnes m_indexed m_isChanged m_valueNow m_didSome m_sizes m_ends 0 0 0 z_all (by first | decide | grind)) (gV u_1188 u_1190 u_13 u_76 u_1191) hd_X9_isFree ⟨(Nat.le_of_ble_eq_true rfl), (Nat.le_of_ble_eq_true rfl)⟩ [0, 1] [] rfl rfl rfl rfl (by decide) rfl 0 rfl rfl rfl (Nat.le_of_ble_eq_true rfl) dX9_space_102 ⟨(Nat.le_of_ble_eq_true rfl), (Nat.le_of_ble_eq_true rfl)⟩ (fun r_511 ut_512 H locs hw_513 hP hD hS => ?_)
      have hP : va_P D vwCl [(md, .inr (9, [.int 0, .ref m_all, .ref m_deeds, .ref m_trial, .int 0, .ref m_hasImage, .ref m_tape, .ref m_key, .ref m_answered, .int 0, .int 0, .int 0, .ref m_goes, .int 0, .ref m_hotOnes, .ref m_indexed, .ref m_isChanged, .int 0, .ref m_valueNow, .int 0, .int (-1), .int 0, .ref m_didSome, .ref m_sizes, .ref m_ends])), (m_all, aI cs 51207 f_m_all)] H := hP
      have hD : va_D A [(md, .inr (9, [.int 0, .ref m_all, .ref m_deeds, .ref m_trial, .int 0, .ref m_hasImage, .ref m_tape, .ref m_key, .ref m_answered, .int 0, .int 0, .int 0, .ref m_goes, .int 0, .ref m_hotOnes, .ref m_indexed, .ref m_isChanged, .int 0, .ref m_valueNow, .int 0, .int (-1), .int 0, .ref m_didSome, .ref m_sizes, .ref m_ends])), (m_all, aI cs 51207 f_m_all)] := hD
      have er_514 := hw_513
      subst er_514
      refine lv_if_eq (tgt := 112) hx hb dX9_space_105 (by decide) (fun c_515 => absurd c_515 (by decide)) (fun c_515 => ?_)
      refine lv_iconst (v := 0) hx hb dX9_space_108 (by decide) ?_
      refine lv_goto (tgt := 124) hx hb dX9_space_109 (by decide) ?_
      refine lv_iadd hx hb dX9_space_124 ?_
      refine tpi (y := 0) (by decide) ?_
      refine lv_istore_n (lv' := [(2, .int 0), (3, .int 7), (0, .ref md), (1, .int 3)]) hx hb dX9_space_125 rfl hl (by decide) rfl (fun ls hl => ?_)
      refine lv_goto (tgt := 146) hx hb dX9_space_126 (by decide) ?_
      refine lv_iinc (v := 8) (lv' := [(3, .int 8), (2, .int 0), (0, .ref md), (1, .int 3)]) hx hb dX9_space_146 hl (k := 1) rfl (by decide) (by decide) rfl (fun ls hl => ?_)
      refine lv_goto (tgt := 24) hx hb dX9_space_149 (by decide) ?_
      refine lv_iload_n hx hb dX9_space_24 rfl (lv_at hl 0 rfl) ?_
      refine lv_bipush (v := 24) hx hb dX9_space_25 (by decide) ?_
      refine lv_icmp_ge (tgt := 152) hx hb dX9_space_27 (by decide) (fun c_516 => absurd c_516 (by decide)) (fun c_516 => ?_)
      refine lv_iload_n hx hb dX9_space_30 rfl (lv_at hl 3 rfl) ?_
      refine lv_tableIn (tgt := 99) hx hb dX9_space_31 (by decide) (by decide) (off := 68) (by decide) (by decide) ?_
      refine lv_iload_n hx hb dX9_space_99 rfl (lv_at hl 1 rfl) ?_
      refine lv_aload_n hx hb dX9_space_100 rfl (lv_at hl 2 rfl) ?_
      refine lv_iload_n hx hb dX9_space_101 rfl (lv_at hl 0 rfl) ?_
      refine kV_i (ci := 9) (As := [.int 8]) (rest := [.int 0]) (wc := [(md, .inr (9, [.int 0, .ref m_all, .ref m_deeds, .ref m_trial, .int 0, .ref m_hasImage, .ref m_tape, .ref m_key, .ref m_answered, .int 0, .int 0, .int 0, .ref m_goes, .int 0, .ref m_hotOnes, .ref m_indexed, .ref m_isChanged, .int 0, .ref m_valueNow, .int 0, .int (-1), .int 0, .ref m_didSome, .ref m_sizes, .ref m_ends])), (m_all, aI cs 51207 f_m_all)]) (wr := []) hx hb hml hown hu hK hP hD hS hA hl.1 (c_X9_isFree l D cs H.size 8 md m_all f_m_all m_deeds m_trial m_hasImage m_tape m_key m_answered m_goes m_hotOnes m_indexed m_isChanged m_valueNow m_didSome m_sizes m_ends 0 0 0 z_all (by first | decide | grind)) (gV u_1188 u_1190 u_13 u_76 u_1191) hd_X9_isFree ⟨(Nat.le_of_ble_eq_true rfl), (Nat.le_of_ble_eq_true rfl)⟩ [0, 1] [] rfl rfl rfl rfl (by decide) rfl 0 rfl rfl rfl (Nat.le_of_ble_eq_true rfl) dX9_space_102 ⟨(Nat.le_of_ble_eq_true rfl), (Nat.le_of_ble_eq_true rfl)⟩ (fun r_517 ut_518 H locs hw_519 hP hD hS => ?_)
      have hP : va_P D vwCl [(md, .inr (9, [.int 0, .ref m_all, .ref m_deeds, .ref m_trial, .int 0, .ref m_hasImage, .ref m_tape, .ref m_key, .ref m_answered, .int 0, .int 0, .int 0, .ref m_goes, .int 0, .ref m_hotOnes, .ref m_indexed, .ref m_isChanged, .int 0, .ref m_valueNow, .int 0, .int (-1), .int 0, .ref m_didSome, .ref m_sizes, .ref m_ends])), (m_all, aI cs 51207 f_m_all)] H := hP
      have hD : va_D A [(md, .inr (9, [.int 0, .ref m_all, .ref m_deeds, .ref m_trial, .int 0, .ref m_hasImage, .ref m_tape, .ref m_key, .ref m_answered, .int 0, .int 0, .int 0, .ref m_goes, .int 0, .ref m_hotOnes, .ref m_indexed, .ref m_isChanged, .int 0, .ref m_valueNow, .int 0, .int (-1), .int 0, .ref m_didSome, .ref m_sizes, .ref m_ends])), (m_all, aI cs 51207 f_m_all)] := hD
      have er_520 := hw_519
      subst er_520
      refine lv_if_eq (tgt := 112) hx hb dX9_space_105 (by decide) (fun c_521 => absurd c_521 (by decide)) (fun c_521 => ?_)
      refine lv_iconst (v := 0) hx hb dX9_space_108 (by decide) ?_
      refine lv_goto (tgt := 124) hx hb dX9_space_109 (by decide) ?_
      refine lv_iadd hx hb dX9_space_124 ?_
      refine tpi (y := 0) (by decide) ?_
      refine lv_istore_n (lv' := [(2, .int 0), (3, .int 8), (0, .ref md), (1, .int 3)]) hx hb dX9_space_125 rfl hl (by decide) rfl (fun ls hl => ?_)
      refine lv_goto (tgt := 146) hx hb dX9_space_126 (by decide) ?_
      refine lv_iinc (v := 9) (lv' := [(3, .int 9), (2, .int 0), (0, .ref md), (1, .int 3)]) hx hb dX9_space_146 hl (k := 1) rfl (by decide) (by decide) rfl (fun ls hl => ?_)
      refine lv_goto (tgt := 24) hx hb dX9_space_149 (by decide) ?_
      refine lv_iload_n hx hb dX9_space_24 rfl (lv_at hl 0 rfl) ?_
      refine lv_bipush (v := 24) hx hb dX9_space_25 (by decide) ?_
      refine lv_icmp_ge (tgt := 152) hx hb dX9_space_27 (by decide) (fun c_522 => absurd c_522 (by decide)) (fun c_522 => ?_)
      refine lv_iload_n hx hb dX9_space_30 rfl (lv_at hl 3 rfl) ?_
      refine lv_tableIn (tgt := 99) hx hb dX9_space_31 (by decide) (by decide) (off := 68) (by decide) (by decide) ?_
      refine lv_iload_n hx hb dX9_space_99 rfl (lv_at hl 1 rfl) ?_
      refine lv_aload_n hx hb dX9_space_100 rfl (lv_at hl 2 rfl) ?_
      refine lv_iload_n hx hb dX9_space_101 rfl (lv_at hl 0 rfl) ?_
      refine kV_i (ci := 9) (As := [.int 9]) (rest := [.int 0]) (wc := [(md, .inr (9, [.int 0, .ref m_all, .ref m_deeds, .ref m_trial, .int 0, .ref m_hasImage, .ref m_tape, .ref m_key, .ref m_answered, .int 0, .int 0, .int 0, .ref m_goes, .int 0, .ref m_hotOnes, .ref m_indexed, .ref m_isChanged, .int 0, .ref m_valueNow, .int 0, .int (-1), .int 0, .ref m_didSome, .ref m_sizes, .ref m_ends])), (m_all, aI cs 51207 f_m_all)]) (wr := []) hx hb hml hown hu hK hP hD hS hA hl.1 (c_X9_isFree l D cs H.size 9 md m_all f_m_all m_deeds m_trial m_hasImage m_tape m_key m_answered m_goes m_hotOnes m_indexed m_isChanged m_valueNow m_didSome m_sizes m_ends 0 0 0 z_all (by first | decide | grind)) (gV u_1188 u_1190 u_13 u_76 u_1191) hd_X9_isFree ⟨(Nat.le_of_ble_eq_true rfl), (Nat.le_of_ble_eq_true rfl)⟩ [0, 1] [] rfl rfl rfl rfl (by decide) rfl 0 rfl rfl rfl (Nat.le_of_ble_eq_true rfl) dX9_space_102 ⟨(Nat.le_of_ble_eq_true rfl), (Nat.le_of_ble_eq_true rfl)⟩ (fun r_523 ut_524 H locs hw_525 hP hD hS => ?_)
      have hP : va_P D vwCl [(md, .inr (9, [.int 0, .ref m_all, .ref m_deeds, .ref m_trial, .int 0, .ref m_hasImage, .ref m_tape, .ref m_key, .ref m_answered, .int 0, .int 0, .int 0, .ref m_goes, .int 0, .ref m_hotOnes, .ref m_indexed, .ref m_isChanged, .int 0, .ref m_valueNow, .int 0, .int (-1), .int 0, .ref m_didSome, .ref m_sizes, .ref m_ends])), (m_all, aI cs 51207 f_m_all)] H := hP
      have hD : va_D A [(md, .inr (9, [.int 0, .ref m_all, .ref m_deeds, .ref m_trial, .int 0, .ref m_hasImage, .ref m_tape, .ref m_key, .ref m_answered, .int 0, .int 0, .int 0, .ref m_goes, .int 0, .ref m_hotOnes, .ref m_indexed, .ref m_isChanged, .int 0, .ref m_valueNow, .int 0, .int (-1), .int 0, .ref m_didSome, .ref m_sizes, .ref m_ends])), (m_all, aI cs 51207 f_m_all)] := hD
      have er_526 := hw_525
      subst er_526
      refine lv_if_eq (tgt := 112) hx hb dX9_space_105 (by decide) (fun c_527 => absurd c_527 (by decide)) (fun c_527 => ?_)
      refine lv_iconst (v := 0) hx hb dX9_space_108 (by decide) ?_
      refine lv_goto (tgt := 124) hx hb dX9_space_109 (by decide) ?_
      refine lv_iadd hx hb dX9_space_124 ?_
      refine tpi (y := 0) (by decide) ?_
      refine lv_istore_n (lv' := [(2, .int 0), (3, .int 9), (0, .ref md), (1, .int 3)]) hx hb dX9_space_125 rfl hl (by decide) rfl (fun ls hl => ?_)
      refine lv_goto (tgt := 146) hx hb dX9_space_126 (by decide) ?_
      refine lv_iinc (v := 10) (lv' := [(3, .int 10), (2, .int 0), (0, .ref md), (1, .int 3)]) hx hb dX9_space_146 hl (k := 1) rfl (by decide) (by decide) rfl (fun ls hl => ?_)
      refine lv_goto (tgt := 24) hx hb dX9_space_149 (by decide) ?_
      refine lv_iload_n hx hb dX9_space_24 rfl (lv_at hl 0 rfl) ?_
      refine lv_bipush (v := 24) hx hb dX9_space_25 (by decide) ?_
      refine lv_icmp_ge (tgt := 152) hx hb dX9_space_27 (by decide) (fun c_528 => absurd c_528 (by decide)) (fun c_528 => ?_)
      refine lv_iload_n hx hb dX9_space_30 rfl (lv_at hl 3 rfl) ?_
      refine lv_tableIn (tgt := 99) hx hb dX9_space_31 (by decide) (by decide) (off := 68) (by decide) (by decide) ?_
      refine lv_iload_n hx hb dX9_space_99 rfl (lv_at hl 1 rfl) ?_
      refine lv_aload_n hx hb dX9_space_100 rfl (lv_at hl 2 rfl) ?_
      refine lv_iload_n hx hb dX9_space_101 rfl (lv_at hl 0 rfl) ?_
      refine kV_i (ci := 9) (As := [.int 10]) (rest := [.int 0]) (wc := [(md, .inr (9, [.int 0, .ref m_all, .ref m_deeds, .ref m_trial, .int 0, .ref m_hasImage, .ref m_tape, .ref m_key, .ref m_answered, .int 0, .int 0, .int 0, .ref m_goes, .int 0, .ref m_hotOnes, .ref m_indexed, .ref m_isChanged, .int 0, .ref m_valueNow, .int 0, .int (-1), .int 0, .ref m_didSome, .ref m_sizes, .ref m_ends])), (m_all, aI cs 51207 f_m_all)]) (wr := []) hx hb hml hown hu hK hP hD hS hA hl.1 (c_X9_isFree l D cs H.size 10 md m_all f_m_all m_deeds m_trial m_hasImage m_tape m_key m_answered m_goes m_hotOnes m_indexed m_isChanged m_valueNow m_didSome m_sizes m_ends 0 0 0 z_all (by first | decide | grind)) (gV u_1188 u_1190 u_13 u_76 u_1191) hd_X9_isFree ⟨(Nat.le_of_ble_eq_true rfl), (Nat.le_of_ble_eq_true rfl)⟩ [0, 1] [] rfl rfl rfl rfl (by decide) rfl 0 rfl rfl rfl (Nat.le_of_ble_eq_true rfl) dX9_space_102 ⟨(Nat.le_of_ble_eq_true rfl), (Nat.le_of_ble_eq_true rfl)⟩ (fun r_529 ut_530 H locs hw_531 hP hD hS => ?_)
      have hP : va_P D vwCl [(md, .inr (9, [.int 0, .ref m_all, .ref m_deeds, .ref m_trial, .int 0, .ref m_hasImage, .ref m_tape, .ref m_key, .ref m_answered, .int 0, .int 0, .int 0, .ref m_goes, .int 0, .ref m_hotOnes, .ref m_indexed, .ref m_isChanged, .int 0, .ref m_valueNow, .int 0, .int (-1), .int 0, .ref m_didSome, .ref m_sizes, .ref m_ends])), (m_all, aI cs 51207 f_m_all)] H := hP
      have hD : va_D A [(md, .inr (9, [.int 0, .ref m_all, .ref m_deeds, .ref m_trial, .int 0, .ref m_hasImage, .ref m_tape, .ref m_key, .ref m_answered, .int 0, .int 0, .int 0, .ref m_goes, .int 0, .ref m_hotOnes, .ref m_indexed, .ref m_isChanged, .int 0, .ref m_valueNow, .int 0, .int (-1), .int 0, .ref m_didSome, .ref m_sizes, .ref m_ends])), (m_all, aI cs 51207 f_m_all)] := hD
      have er_532 := hw_531
      subst er_532
      refine lv_if_eq (tgt := 112) hx hb dX9_space_105 (by decide) (fun c_533 => absurd c_533 (by decide)) (fun c_533 => ?_)
      refine lv_iconst (v := 0) hx hb dX9_space_108 (by decide) ?_
      refine lv_goto (tgt := 124) hx hb dX9_space_109 (by decide) ?_
      refine lv_iadd hx hb dX9_space_124 ?_
      refine tpi (y := 0) (by decide) ?_
      refine lv_istore_n (lv' := [(2, .int 0), (3, .int 10), (0, .ref md), (1, .int 3)]) hx hb dX9_space_125 rfl hl (by decide) rfl (fun ls hl => ?_)
      refine lv_goto (tgt := 146) hx hb dX9_space_126 (by decide) ?_
      refine lv_iinc (v := 11) (lv' := [(3, .int 11), (2, .int 0), (0, .ref md), (1, .int 3)]) hx hb dX9_space_146 hl (k := 1) rfl (by decide) (by decide) rfl (fun ls hl => ?_)
      refine lv_goto (tgt := 24) hx hb dX9_space_149 (by decide) ?_
      refine lv_iload_n hx hb dX9_space_24 rfl (lv_at hl 0 rfl) ?_
      refine lv_bipush (v := 24) hx hb dX9_space_25 (by decide) ?_
      refine lv_icmp_ge (tgt := 152) hx hb dX9_space_27 (by decide) (fun c_534 => absurd c_534 (by decide)) (fun c_534 => ?_)
      refine lv_iload_n hx hb dX9_space_30 rfl (lv_at hl 3 rfl) ?_
      refine lv_tableIn (tgt := 99) hx hb dX9_space_31 (by decide) (by decide) (off := 68) (by decide) (by decide) ?_
      refine lv_iload_n hx hb dX9_space_99 rfl (lv_at hl 1 rfl) ?_
      refine lv_aload_n hx hb dX9_space_100 rfl (lv_at hl 2 rfl) ?_
      refine lv_iload_n hx hb dX9_space_101 rfl (lv_at hl 0 rfl) ?_
      refine kV_i (ci := 9) (As := [.int 11]) (rest := [.int 0]) (wc := [(md, .inr (9, [.int 0, .ref m_all, .ref m_deeds, .ref m_trial, .int 0, .ref m_hasImage, .ref m_tape, .ref m_key, .ref m_answered, .int 0, .int 0, .int 0, .ref m_goes, .int 0, .ref m_hotOnes, .ref m_indexed, .ref m_isChanged, .int 0, .ref m_valueNow, .int 0, .int (-1), .int 0, .ref m_didSome, .ref m_sizes, .ref m_ends])), (m_all, aI cs 51207 f_m_all)]) (wr := []) hx hb hml hown hu hK hP hD hS hA hl.1 (c_X9_isFree l D cs H.size 11 md m_all f_m_all m_deeds m_trial m_hasImage m_tape m_key m_answered m_goes m_hotOnes m_indexed m_isChanged m_valueNow m_didSome m_sizes m_ends 0 0 0 z_all (by first | decide | grind)) (gV u_1188 u_1190 u_13 u_76 u_1191) hd_X9_isFree ⟨(Nat.le_of_ble_eq_true rfl), (Nat.le_of_ble_eq_true rfl)⟩ [0, 1] [] rfl rfl rfl rfl (by decide) rfl 0 rfl rfl rfl (Nat.le_of_ble_eq_true rfl) dX9_space_102 ⟨(Nat.le_of_ble_eq_true rfl), (Nat.le_of_ble_eq_true rfl)⟩ (fun r_535 ut_536 H locs hw_537 hP hD hS => ?_)
      have hP : va_P D vwCl [(md, .inr (9, [.int 0, .ref m_all, .ref m_deeds, .ref m_trial, .int 0, .ref m_hasImage, .ref m_tape, .ref m_key, .ref m_answered, .int 0, .int 0, .int 0, .ref m_goes, .int 0, .ref m_hotOnes, .ref m_indexed, .ref m_isChanged, .int 0, .ref m_valueNow, .int 0, .int (-1), .int 0, .ref m_didSome, .ref m_sizes, .ref m_ends])), (m_all, aI cs 51207 f_m_all)] H := hP
      have hD : va_D A [(md, .inr (9, [.int 0, .ref m_all, .ref m_deeds, .ref m_trial, .int 0, .ref m_hasImage, .ref m_tape, .ref m_key, .ref m_answered, .int 0, .int 0, .int 0, .ref m_goes, .int 0, .ref m_hotOnes, .ref m_indexed, .ref m_isChanged, .int 0, .ref m_valueNow, .int 0, .int (-1), .int 0, .ref m_didSome, .ref m_sizes, .ref m_ends])), (m_all, aI cs 51207 f_m_all)] := hD
      have er_538 := hw_537
      subst er_538
      refine lv_if_eq (tgt := 112) hx hb dX9_space_105 (by decide) (fun c_539 => absurd c_539 (by decide)) (fun c_539 => ?_)
      refine lv_iconst (v := 0) hx hb dX9_space_108 (by decide) ?_
      refine lv_goto (tgt := 124) hx hb dX9_space_109 (by decide) ?_
      refine lv_iadd hx hb dX9_space_124 ?_
      refine tpi (y := 0) (by decide) ?_
      refine lv_istore_n (lv' := [(2, .int 0), (3, .int 11), (0, .ref md), (1, .int 3)]) hx hb dX9_space_125 rfl hl (by decide) rfl (fun ls hl => ?_)
      refine lv_goto (tgt := 146) hx hb dX9_space_126 (by decide) ?_
      refine lv_iinc (v := 12) (lv' := [(3, .int 12), (2, .int 0), (0, .ref md), (1, .int 3)]) hx hb dX9_space_146 hl (k := 1) rfl (by decide) (by decide) rfl (fun ls hl => ?_)
      refine lv_goto (tgt := 24) hx hb dX9_space_149 (by decide) ?_
      refine lv_iload_n hx hb dX9_space_24 rfl (lv_at hl 0 rfl) ?_
      refine lv_bipush (v := 24) hx hb dX9_space_25 (by decide) ?_
      refine lv_icmp_ge (tgt := 152) hx hb dX9_space_27 (by decide) (fun c_540 => absurd c_540 (by decide)) (fun c_540 => ?_)
      refine lv_iload_n hx hb dX9_space_30 rfl (lv_at hl 3 rfl) ?_
      refine lv_tableIn (tgt := 99) hx hb dX9_space_31 (by decide) (by decide) (off := 68) (by decide) (by decide) ?_
      refine lv_iload_n hx hb dX9_space_99 rfl (lv_at hl 1 rfl) ?_
      refine lv_aload_n hx hb dX9_space_100 rfl (lv_at hl 2 rfl) ?_
      refine lv_iload_n hx hb dX9_space_101 rfl (lv_at hl 0 rfl) ?_
      refine kV_i (ci := 9) (As := [.int 12]) (rest := [.int 0]) (wc := [(md, .inr (9, [.int 0, .ref m_all, .ref m_deeds, .ref m_trial, .int 0, .ref m_hasImage, .ref m_tape, .ref m_key, .ref m_answered, .int 0, .int 0, .int 0, .ref m_goes, .int 0, .ref m_hotOnes, .ref m_indexed, .ref m_isChanged, .int 0, .ref m_valueNow, .int 0, .int (-1), .int 0, .ref m_didSome, .ref m_sizes, .ref m_ends])), (m_all, aI cs 51207 f_m_all)]) (wr := []) hx hb hml hown hu hK hP hD hS hA hl.1 (c_X9_isFree l D cs H.size 12 md m_all f_m_all m_deeds m_trial m_hasImage m_tape m_key m_answered m_goes m_hotOnes m_indexed m_isChanged m_valueNow m_didSome m_sizes m_ends 0 0 0 z_all (by first | decide | grind)) (gV u_1188 u_1190 u_13 u_76 u_1191) hd_X9_isFree ⟨(Nat.le_of_ble_eq_true rfl), (Nat.le_of_ble_eq_true rfl)⟩ [0, 1] [] rfl rfl rfl rfl (by decide) rfl 0 rfl rfl rfl (Nat.le_of_ble_eq_true rfl) dX9_space_102 ⟨(Nat.le_of_ble_eq_true rfl), (Nat.le_of_ble_eq_true rfl)⟩ (fun r_541 ut_542 H locs hw_543 hP hD hS => ?_)
      have hP : va_P D vwCl [(md, .inr (9, [.int 0, .ref m_all, .ref m_deeds, .ref m_trial, .int 0, .ref m_hasImage, .ref m_tape, .ref m_key, .ref m_answered, .int 0, .int 0, .int 0, .ref m_goes, .int 0, .ref m_hotOnes, .ref m_indexed, .ref m_isChanged, .int 0, .ref m_valueNow, .int 0, .int (-1), .int 0, .ref m_didSome, .ref m_sizes, .ref m_ends])), (m_all, aI cs 51207 f_m_all)] H := hP
      have hD : va_D A [(md, .inr (9, [.int 0, .ref m_all, .ref m_deeds, .ref m_trial, .int 0, .ref m_hasImage, .ref m_tape, .ref m_key, .ref m_answered, .int 0, .int 0, .int 0, .ref m_goes, .int 0, .ref m_hotOnes, .ref m_indexed, .ref m_isChanged, .int 0, .ref m_valueNow, .int 0, .int (-1), .int 0, .ref m_didSome, .ref m_sizes, .ref m_ends])), (m_all, aI cs 51207 f_m_all)] := hD
      have er_544 := hw_543
      subst er_544
      refine lv_if_eq (tgt := 112) hx hb dX9_space_105 (by decide) (fun c_545 => absurd c_545 (by decide)) (fun c_545 => ?_)
      refine lv_iconst (v := 0) hx hb dX9_space_108 (by decide) ?_
      refine lv_goto (tgt := 124) hx hb dX9_space_109 (by decide) ?_
      refine lv_iadd hx hb dX9_space_124 ?_
      refine tpi (y := 0) (by decide) ?_
      refine lv_istore_n (lv' := [(2, .int 0), (3, .int 12), (0, .ref md), (1, .int 3)]) hx hb dX9_space_125 rfl hl (by decide) rfl (fun ls hl => ?_)
      refine lv_goto (tgt := 146) hx hb dX9_space_126 (by decide) ?_
      refine lv_iinc (v := 13) (lv' := [(3, .int 13), (2, .int 0), (0, .ref md), (1, .int 3)]) hx hb dX9_space_146 hl (k := 1) rfl (by decide) (by decide) rfl (fun ls hl => ?_)
      refine lv_goto (tgt := 24) hx hb dX9_space_149 (by decide) ?_
      refine lv_iload_n hx hb dX9_space_24 rfl (lv_at hl 0 rfl) ?_
      refine lv_bipush (v := 24) hx hb dX9_space_25 (by decide) ?_
      refine lv_icmp_ge (tgt := 152) hx hb dX9_space_27 (by decide) (fun c_546 => absurd c_546 (by decide)) (fun c_546 => ?_)
      refine lv_iload_n hx hb dX9_space_30 rfl (lv_at hl 3 rfl) ?_
      refine lv_tableIn (tgt := 99) hx hb dX9_space_31 (by decide) (by decide) (off := 68) (by decide) (by decide) ?_
      refine lv_iload_n hx hb dX9_space_99 rfl (lv_at hl 1 rfl) ?_
      refine lv_aload_n hx hb dX9_space_100 rfl (lv_at hl 2 rfl) ?_
      refine lv_iload_n hx hb dX9_space_101 rfl (lv_at hl 0 rfl) ?_
      refine kV_i (ci := 9) (As := [.int 13]) (rest := [.int 0]) (wc := [(md, .inr (9, [.int 0, .ref m_all, .ref m_deeds, .ref m_trial, .int 0, .ref m_hasImage, .ref m_tape, .ref m_key, .ref m_answered, .int 0, .int 0, .int 0, .ref m_goes, .int 0, .ref m_hotOnes, .ref m_indexed, .ref m_isChanged, .int 0, .ref m_valueNow, .int 0, .int (-1), .int 0, .ref m_didSome, .ref m_sizes, .ref m_ends])), (m_all, aI cs 51207 f_m_all)]) (wr := []) hx hb hml hown hu hK hP hD hS hA hl.1 (c_X9_isFree l D cs H.size 13 md m_all f_m_all m_deeds m_trial m_hasImage m_tape m_key m_answered m_goes m_hotOnes m_indexed m_isChanged m_valueNow m_didSome m_sizes m_ends 0 0 0 z_all (by first | decide | grind)) (gV u_1188 u_1190 u_13 u_76 u_1191) hd_X9_isFree ⟨(Nat.le_of_ble_eq_true rfl), (Nat.le_of_ble_eq_true rfl)⟩ [0, 1] [] rfl rfl rfl rfl (by decide) rfl 0 rfl rfl rfl (Nat.le_of_ble_eq_true rfl) dX9_space_102 ⟨(Nat.le_of_ble_eq_true rfl), (Nat.le_of_ble_eq_true rfl)⟩ (fun r_547 ut_548 H locs hw_549 hP hD hS => ?_)
      have hP : va_P D vwCl [(md, .inr (9, [.int 0, .ref m_all, .ref m_deeds, .ref m_trial, .int 0, .ref m_hasImage, .ref m_tape, .ref m_key, .ref m_answered, .int 0, .int 0, .int 0, .ref m_goes, .int 0, .ref m_hotOnes, .ref m_indexed, .ref m_isChanged, .int 0, .ref m_valueNow, .int 0, .int (-1), .int 0, .ref m_didSome, .ref m_sizes, .ref m_ends])), (m_all, aI cs 51207 f_m_all)] H := hP
      have hD : va_D A [(md, .inr (9, [.int 0, .ref m_all, .ref m_deeds, .ref m_trial, .int 0, .ref m_hasImage, .ref m_tape, .ref m_key, .ref m_answered, .int 0, .int 0, .int 0, .ref m_goes, .int 0, .ref m_hotOnes, .ref m_indexed, .ref m_isChanged, .int 0, .ref m_valueNow, .int 0, .int (-1), .int 0, .ref m_didSome, .ref m_sizes, .ref m_ends])), (m_all, aI cs 51207 f_m_all)] := hD
      have er_550 := hw_549
      subst er_550
      refine lv_if_eq (tgt := 112) hx hb dX9_space_105 (by decide) (fun c_551 => absurd c_551 (by decide)) (fun c_551 => ?_)
      refine lv_iconst (v := 0) hx hb dX9_space_108 (by decide) ?_
      refine lv_goto (tgt := 124) hx hb dX9_space_109 (by decide) ?_
      refine lv_iadd hx hb dX9_space_124 ?_
      refine tpi (y := 0) (by decide) ?_
      refine lv_istore_n (lv' := [(2, .int 0), (3, .int 13), (0, .ref md), (1, .int 3)]) hx hb dX9_space_125 rfl hl (by decide) rfl (fun ls hl => ?_)
      refine lv_goto (tgt := 146) hx hb dX9_space_126 (by decide) ?_
      refine lv_iinc (v := 14) (lv' := [(3, .int 14), (2, .int 0), (0, .ref md), (1, .int 3)]) hx hb dX9_space_146 hl (k := 1) rfl (by decide) (by decide) rfl (fun ls hl => ?_)
      refine lv_goto (tgt := 24) hx hb dX9_space_149 (by decide) ?_
      refine lv_iload_n hx hb dX9_space_24 rfl (lv_at hl 0 rfl) ?_
      refine lv_bipush (v := 24) hx hb dX9_space_25 (by decide) ?_
      refine lv_icmp_ge (tgt := 152) hx hb dX9_space_27 (by decide) (fun c_552 => absurd c_552 (by decide)) (fun c_552 => ?_)
      refine lv_iload_n hx hb dX9_space_30 rfl (lv_at hl 3 rfl) ?_
      refine lv_tableIn (tgt := 99) hx hb dX9_space_31 (by decide) (by decide) (off := 68) (by decide) (by decide) ?_
      refine lv_iload_n hx hb dX9_space_99 rfl (lv_at hl 1 rfl) ?_
      refine lv_aload_n hx hb dX9_space_100 rfl (lv_at hl 2 rfl) ?_
      refine lv_iload_n hx hb dX9_space_101 rfl (lv_at hl 0 rfl) ?_
      refine kV_i (ci := 9) (As := [.int 14]) (rest := [.int 0]) (wc := [(md, .inr (9, [.int 0, .ref m_all, .ref m_deeds, .ref m_trial, .int 0, .ref m_hasImage, .ref m_tape, .ref m_key, .ref m_answered, .int 0, .int 0, .int 0, .ref m_goes, .int 0, .ref m_hotOnes, .ref m_indexed, .ref m_isChanged, .int 0, .ref m_valueNow, .int 0, .int (-1), .int 0, .ref m_didSome, .ref m_sizes, .ref m_ends])), (m_all, aI cs 51207 f_m_all)]) (wr := []) hx hb hml hown hu hK hP hD hS hA hl.1 (c_X9_isFree l D cs H.size 14 md m_all f_m_all m_deeds m_trial m_hasImage m_tape m_key m_answered m_goes m_hotOnes m_indexed m_isChanged m_valueNow m_didSome m_sizes m_ends 0 0 0 z_all (by first | decide | grind)) (gV u_1188 u_1190 u_13 u_76 u_1191) hd_X9_isFree ⟨(Nat.le_of_ble_eq_true rfl), (Nat.le_of_ble_eq_true rfl)⟩ [0, 1] [] rfl rfl rfl rfl (by decide) rfl 0 rfl rfl rfl (Nat.le_of_ble_eq_true rfl) dX9_space_102 ⟨(Nat.le_of_ble_eq_true rfl), (Nat.le_of_ble_eq_true rfl)⟩ (fun r_553 ut_554 H locs hw_555 hP hD hS => ?_)
      have hP : va_P D vwCl [(md, .inr (9, [.int 0, .ref m_all, .ref m_deeds, .ref m_trial, .int 0, .ref m_hasImage, .ref m_tape, .ref m_key, .ref m_answered, .int 0, .int 0, .int 0, .ref m_goes, .int 0, .ref m_hotOnes, .ref m_indexed, .ref m_isChanged, .int 0, .ref m_valueNow, .int 0, .int (-1), .int 0, .ref m_didSome, .ref m_sizes, .ref m_ends])), (m_all, aI cs 51207 f_m_all)] H := hP
      have hD : va_D A [(md, .inr (9, [.int 0, .ref m_all, .ref m_deeds, .ref m_trial, .int 0, .ref m_hasImage, .ref m_tape, .ref m_key, .ref m_answered, .int 0, .int 0, .int 0, .ref m_goes, .int 0, .ref m_hotOnes, .ref m_indexed, .ref m_isChanged, .int 0, .ref m_valueNow, .int 0, .int (-1), .int 0, .ref m_didSome, .ref m_sizes, .ref m_ends])), (m_all, aI cs 51207 f_m_all)] := hD
      have er_556 := hw_555
      subst er_556
      refine lv_if_eq (tgt := 112) hx hb dX9_space_105 (by decide) (fun c_557 => absurd c_557 (by decide)) (fun c_557 => ?_)
      refine lv_iconst (v := 0) hx hb dX9_space_108 (by decide) ?_
      refine lv_goto (tgt := 124) hx hb dX9_space_109 (by decide) ?_
      refine lv_iadd hx hb dX9_space_124 ?_
      refine tpi (y := 0) (by decide) ?_
      refine lv_istore_n (lv' := [(2, .int 0), (3, .int 14), (0, .ref md), (1, .int 3)]) hx hb dX9_space_125 rfl hl (by decide) rfl (fun ls hl => ?_)
      refine lv_goto (tgt := 146) hx hb dX9_space_126 (by decide) ?_
      refine lv_iinc (v := 15) (lv' := [(3, .int 15), (2, .int 0), (0, .ref md), (1, .int 3)]) hx hb dX9_space_146 hl (k := 1) rfl (by decide) (by decide) rfl (fun ls hl => ?_)
      refine lv_goto (tgt := 24) hx hb dX9_space_149 (by decide) ?_
      refine lv_iload_n hx hb dX9_space_24 rfl (lv_at hl 0 rfl) ?_
      refine lv_bipush (v := 24) hx hb dX9_space_25 (by decide) ?_
      refine lv_icmp_ge (tgt := 152) hx hb dX9_space_27 (by decide) (fun c_558 => absurd c_558 (by decide)) (fun c_558 => ?_)
      refine lv_iload_n hx hb dX9_space_30 rfl (lv_at hl 3 rfl) ?_
      refine lv_tableIn (tgt := 99) hx hb dX9_space_31 (by decide) (by decide) (off := 68) (by decide) (by decide) ?_
      refine lv_iload_n hx hb dX9_space_99 rfl (lv_at hl 1 rfl) ?_
      refine lv_aload_n hx hb dX9_space_100 rfl (lv_at hl 2 rfl) ?_
      refine lv_iload_n hx hb dX9_space_101 rfl (lv_at hl 0 rfl) ?_
      refine kV_i (ci := 9) (As := [.int 15]) (rest := [.int 0]) (wc := [(md, .inr (9, [.int 0, .ref m_all, .ref m_deeds, .ref m_trial, .int 0, .ref m_hasImage, .ref m_tape, .ref m_key, .ref m_answered, .int 0, .int 0, .int 0, .ref m_goes, .int 0, .ref m_hotOnes, .ref m_indexed, .ref m_isChanged, .int 0, .ref m_valueNow, .int 0, .int (-1), .int 0, .ref m_didSome, .ref m_sizes, .ref m_ends])), (m_all, aI cs 51207 f_m_all)]) (wr := []) hx hb hml hown hu hK hP hD hS hA hl.1 (c_X9_isFree l D cs H.size 15 md m_all f_m_all m_deeds m_trial m_hasImage m_tape m_key m_answered m_goes m_hotOnes m_indexed m_isChanged m_valueNow m_didSome m_sizes m_ends 0 0 0 z_all (by first | decide | grind)) (gV u_1188 u_1190 u_13 u_76 u_1191) hd_X9_isFree ⟨(Nat.le_of_ble_eq_true rfl), (Nat.le_of_ble_eq_true rfl)⟩ [0, 1] [] rfl rfl rfl rfl (by decide) rfl 0 rfl rfl rfl (Nat.le_of_ble_eq_true rfl) dX9_space_102 ⟨(Nat.le_of_ble_eq_true rfl), (Nat.le_of_ble_eq_true rfl)⟩ (fun r_559 ut_560 H locs hw_561 hP hD hS => ?_)
      have hP : va_P D vwCl [(md, .inr (9, [.int 0, .ref m_all, .ref m_deeds, .ref m_trial, .int 0, .ref m_hasImage, .ref m_tape, .ref m_key, .ref m_answered, .int 0, .int 0, .int 0, .ref m_goes, .int 0, .ref m_hotOnes, .ref m_indexed, .ref m_isChanged, .int 0, .ref m_valueNow, .int 0, .int (-1), .int 0, .ref m_didSome, .ref m_sizes, .ref m_ends])), (m_all, aI cs 51207 f_m_all)] H := hP
      have hD : va_D A [(md, .inr (9, [.int 0, .ref m_all, .ref m_deeds, .ref m_trial, .int 0, .ref m_hasImage, .ref m_tape, .ref m_key, .ref m_answered, .int 0, .int 0, .int 0, .ref m_goes, .int 0, .ref m_hotOnes, .ref m_indexed, .ref m_isChanged, .int 0, .ref m_valueNow, .int 0, .int (-1), .int 0, .ref m_didSome, .ref m_sizes, .ref m_ends])), (m_all, aI cs 51207 f_m_all)] := hD
      have er_562 := hw_561
      subst er_562
      refine lv_if_eq (tgt := 112) hx hb dX9_space_105 (by decide) (fun c_563 => absurd c_563 (by decide)) (fun c_563 => ?_)
      refine lv_iconst (v := 0) hx hb dX9_space_108 (by decide) ?_
      refine lv_goto (tgt := 124) hx hb dX9_space_109 (by decide) ?_
      refine lv_iadd hx hb dX9_space_124 ?_
      refine tpi (y := 0) (by decide) ?_
      refine lv_istore_n (lv' := [(2, .int 0), (3, .int 15), (0, .ref md), (1, .int 3)]) hx hb dX9_space_125 rfl hl (by decide) rfl (fun ls hl => ?_)
      refine lv_goto (tgt := 146) hx hb dX9_space_126 (by decide) ?_
      refine lv_iinc (v := 16) (lv' := [(3, .int 16), (2, .int 0), (0, .ref md), (1, .int 3)]) hx hb dX9_space_146 hl (k := 1) rfl (by decide) (by decide) rfl (fun ls hl => ?_)
      refine lv_goto (tgt := 24) hx hb dX9_space_149 (by decide) ?_
      refine lv_iload_n hx hb dX9_space_24 rfl (lv_at hl 0 rfl) ?_
      refine lv_bipush (v := 24) hx hb dX9_space_25 (by decide) ?_
      refine lv_icmp_ge (tgt := 152) hx hb dX9_space_27 (by decide) (fun c_564 => absurd c_564 (by decide)) (fun c_564 => ?_)
      refine lv_iload_n hx hb dX9_space_30 rfl (lv_at hl 3 rfl) ?_
      refine lv_tableIn (tgt := 99) hx hb dX9_space_31 (by decide) (by decide) (off := 68) (by decide) (by decide) ?_
      refine lv_iload_n hx hb dX9_space_99 rfl (lv_at hl 1 rfl) ?_
      refine lv_aload_n hx hb dX9_space_100 rfl (lv_at hl 2 rfl) ?_
      refine lv_iload_n hx hb dX9_space_101 rfl (lv_at hl 0 rfl) ?_
      refine kV_i (ci := 9) (As := [.int 16]) (rest := [.int 0]) (wc := [(md, .inr (9, [.int 0, .ref m_all, .ref m_deeds, .ref m_trial, .int 0, .ref m_hasImage, .ref m_tape, .ref m_key, .ref m_answered, .int 0, .int 0, .int 0, .ref m_goes, .int 0, .ref m_hotOnes, .ref m_indexed, .ref m_isChanged, .int 0, .ref m_valueNow, .int 0, .int (-1), .int 0, .ref m_didSome, .ref m_sizes, .ref m_ends])), (m_all, aI cs 51207 f_m_all)]) (wr := []) hx hb hml hown hu hK hP hD hS hA hl.1 (c_X9_isFree l D cs H.size 16 md m_all f_m_all m_deeds m_trial m_hasImage m_tape m_key m_answered m_goes m_hotOnes m_indexed m_isChanged m_valueNow m_didSome m_sizes m_ends 0 0 0 z_all (by first | decide | grind)) (gV u_1188 u_1190 u_13 u_76 u_1191) hd_X9_isFree ⟨(Nat.le_of_ble_eq_true rfl), (Nat.le_of_ble_eq_true rfl)⟩ [0, 1] [] rfl rfl rfl rfl (by decide) rfl 0 rfl rfl rfl (Nat.le_of_ble_eq_true rfl) dX9_space_102 ⟨(Nat.le_of_ble_eq_true rfl), (Nat.le_of_ble_eq_true rfl)⟩ (fun r_565 ut_566 H locs hw_567 hP hD hS => ?_)
      have hP : va_P D vwCl [(md, .inr (9, [.int 0, .ref m_all, .ref m_deeds, .ref m_trial, .int 0, .ref m_hasImage, .ref m_tape, .ref m_key, .ref m_answered, .int 0, .int 0, .int 0, .ref m_goes, .int 0, .ref m_hotOnes, .ref m_indexed, .ref m_isChanged, .int 0, .ref m_valueNow, .int 0, .int (-1), .int 0, .ref m_didSome, .ref m_sizes, .ref m_ends])), (m_all, aI cs 51207 f_m_all)] H := hP
      have hD : va_D A [(md, .inr (9, [.int 0, .ref m_all, .ref m_deeds, .ref m_trial, .int 0, .ref m_hasImage, .ref m_tape, .ref m_key, .ref m_answered, .int 0, .int 0, .int 0, .ref m_goes, .int 0, .ref m_hotOnes, .ref m_indexed, .ref m_isChanged, .int 0, .ref m_valueNow, .int 0, .int (-1), .int 0, .ref m_didSome, .ref m_sizes, .ref m_ends])), (m_all, aI cs 51207 f_m_all)] := hD
      have er_568 := hw_567
      subst er_568
      refine lv_if_eq (tgt := 112) hx hb dX9_space_105 (by decide) (fun c_569 => absurd c_569 (by decide)) (fun c_569 => ?_)
      refine lv_iconst (v := 0) hx hb dX9_space_108 (by decide) ?_
      refine lv_goto (tgt := 124) hx hb dX9_space_109 (by decide) ?_
      refine lv_iadd hx hb dX9_space_124 ?_
      refine tpi (y := 0) (by decide) ?_
      refine lv_istore_n (lv' := [(2, .int 0), (3, .int 16), (0, .ref md), (1, .int 3)]) hx hb dX9_space_125 rfl hl (by decide) rfl (fun ls hl => ?_)
      refine lv_goto (tgt := 146) hx hb dX9_space_126 (by decide) ?_
      refine lv_iinc (v := 17) (lv' := [(3, .int 17), (2, .int 0), (0, .ref md), (1, .int 3)]) hx hb dX9_space_146 hl (k := 1) rfl (by decide) (by decide) rfl (fun ls hl => ?_)
      refine lv_goto (tgt := 24) hx hb dX9_space_149 (by decide) ?_
      refine lv_iload_n hx hb dX9_space_24 rfl (lv_at hl 0 rfl) ?_
      refine lv_bipush (v := 24) hx hb dX9_space_25 (by decide) ?_
      refine lv_icmp_ge (tgt := 152) hx hb dX9_space_27 (by decide) (fun c_570 => absurd c_570 (by decide)) (fun c_570 => ?_)
      refine lv_iload_n hx hb dX9_space_30 rfl (lv_at hl 3 rfl) ?_
      refine lv_tableIn (tgt := 99) hx hb dX9_space_31 (by decide) (by decide) (off := 68) (by decide) (by decide) ?_
      refine lv_iload_n hx hb dX9_space_99 rfl (lv_at hl 1 rfl) ?_
      refine lv_aload_n hx hb dX9_space_100 rfl (lv_at hl 2 rfl) ?_
      refine lv_iload_n hx hb dX9_space_101 rfl (lv_at hl 0 rfl) ?_
      refine kV_i (ci := 9) (As := [.int 17]) (rest := [.int 0]) (wc := [(md, .inr (9, [.int 0, .ref m_all, .ref m_deeds, .ref m_trial, .int 0, .ref m_hasImage, .ref m_tape, .ref m_key, .ref m_answered, .int 0, .int 0, .int 0, .ref m_goes, .int 0, .ref m_hotOnes, .ref m_indexed, .ref m_isChanged, .int 0, .ref m_valueNow, .int 0, .int (-1), .int 0, .ref m_didSome, .ref m_sizes, .ref m_ends])), (m_all, aI cs 51207 f_m_all)]) (wr := []) hx hb hml hown hu hK hP hD hS hA hl.1 (c_X9_isFree l D cs H.size 17 md m_all f_m_all m_deeds m_trial m_hasImage m_tape m_key m_answered m_goes m_hotOnes m_indexed m_isChanged m_valueNow m_didSome m_sizes m_ends 0 0 0 z_all (by first | decide | grind)) (gV u_1188 u_1190 u_13 u_76 u_1191) hd_X9_isFree ⟨(Nat.le_of_ble_eq_true rfl), (Nat.le_of_ble_eq_true rfl)⟩ [0, 1] [] rfl rfl rfl rfl (by decide) rfl 0 rfl rfl rfl (Nat.le_of_ble_eq_true rfl) dX9_space_102 ⟨(Nat.le_of_ble_eq_true rfl), (Nat.le_of_ble_eq_true rfl)⟩ (fun r_571 ut_572 H locs hw_573 hP hD hS => ?_)
      have hP : va_P D vwCl [(md, .inr (9, [.int 0, .ref m_all, .ref m_deeds, .ref m_trial, .int 0, .ref m_hasImage, .ref m_tape, .ref m_key, .ref m_answered, .int 0, .int 0, .int 0, .ref m_goes, .int 0, .ref m_hotOnes, .ref m_indexed, .ref m_isChanged, .int 0, .ref m_valueNow, .int 0, .int (-1), .int 0, .ref m_didSome, .ref m_sizes, .ref m_ends])), (m_all, aI cs 51207 f_m_all)] H := hP
      have hD : va_D A [(md, .inr (9, [.int 0, .ref m_all, .ref m_deeds, .ref m_trial, .int 0, .ref m_hasImage, .ref m_tape, .ref m_key, .ref m_answered, .int 0, .int 0, .int 0, .ref m_goes, .int 0, .ref m_hotOnes, .ref m_indexed, .ref m_isChanged, .int 0, .ref m_valueNow, .int 0, .int (-1), .int 0, .ref m_didSome, .ref m_sizes, .ref m_ends])), (m_all, aI cs 51207 f_m_all)] := hD
      have er_574 := hw_573
      subst er_574
      refine lv_if_eq (tgt := 112) hx hb dX9_space_105 (by decide) (fun c_575 => absurd c_575 (by decide)) (fun c_575 => ?_)
      refine lv_iconst (v := 0) hx hb dX9_space_108 (by decide) ?_
      refine lv_goto (tgt := 124) hx hb dX9_space_109 (by decide) ?_
      refine lv_iadd hx hb dX9_space_124 ?_
      refine tpi (y := 0) (by decide) ?_
      refine lv_istore_n (lv' := [(2, .int 0), (3, .int 17), (0, .ref md), (1, .int 3)]) hx hb dX9_space_125 rfl hl (by decide) rfl (fun ls hl => ?_)
      refine lv_goto (tgt := 146) hx hb dX9_space_126 (by decide) ?_
      refine lv_iinc (v := 18) (lv' := [(3, .int 18), (2, .int 0), (0, .ref md), (1, .int 3)]) hx hb dX9_space_146 hl (k := 1) rfl (by decide) (by decide) rfl (fun ls hl => ?_)
      refine lv_goto (tgt := 24) hx hb dX9_space_149 (by decide) ?_
      refine lv_iload_n hx hb dX9_space_24 rfl (lv_at hl 0 rfl) ?_
      refine lv_bipush (v := 24) hx hb dX9_space_25 (by decide) ?_
      refine lv_icmp_ge (tgt := 152) hx hb dX9_space_27 (by decide) (fun c_576 => absurd c_576 (by decide)) (fun c_576 => ?_)
      refine lv_iload_n hx hb dX9_space_30 rfl (lv_at hl 3 rfl) ?_
      refine lv_tableIn (tgt := 99) hx hb dX9_space_31 (by decide) (by decide) (off := 68) (by decide) (by decide) ?_
      refine lv_iload_n hx hb dX9_space_99 rfl (lv_at hl 1 rfl) ?_
      refine lv_aload_n hx hb dX9_space_100 rfl (lv_at hl 2 rfl) ?_
      refine lv_iload_n hx hb dX9_space_101 rfl (lv_at hl 0 rfl) ?_
      refine kV_i (ci := 9) (As := [.int 18]) (rest := [.int 0]) (wc := [(md, .inr (9, [.int 0, .ref m_all, .ref m_deeds, .ref m_trial, .int 0, .ref m_hasImage, .ref m_tape, .ref m_key, .ref m_answered, .int 0, .int 0, .int 0, .ref m_goes, .int 0, .ref m_hotOnes, .ref m_indexed, .ref m_isChanged, .int 0, .ref m_valueNow, .int 0, .int (-1), .int 0, .ref m_didSome, .ref m_sizes, .ref m_ends])), (m_all, aI cs 51207 f_m_all)]) (wr := []) hx hb hml hown hu hK hP hD hS hA hl.1 (c_X9_isFree l D cs H.size 18 md m_all f_m_all m_deeds m_trial m_hasImage m_tape m_key m_answered m_goes m_hotOnes m_indexed m_isChanged m_valueNow m_didSome m_sizes m_ends 0 0 0 z_all (by first | decide | grind)) (gV u_1188 u_1190 u_13 u_76 u_1191) hd_X9_isFree ⟨(Nat.le_of_ble_eq_true rfl), (Nat.le_of_ble_eq_true rfl)⟩ [0, 1] [] rfl rfl rfl rfl (by decide) rfl 0 rfl rfl rfl (Nat.le_of_ble_eq_true rfl) dX9_space_102 ⟨(Nat.le_of_ble_eq_true rfl), (Nat.le_of_ble_eq_true rfl)⟩ (fun r_577 ut_578 H locs hw_579 hP hD hS => ?_)
      have hP : va_P D vwCl [(md, .inr (9, [.int 0, .ref m_all, .ref m_deeds, .ref m_trial, .int 0, .ref m_hasImage, .ref m_tape, .ref m_key, .ref m_answered, .int 0, .int 0, .int 0, .ref m_goes, .int 0, .ref m_hotOnes, .ref m_indexed, .ref m_isChanged, .int 0, .ref m_valueNow, .int 0, .int (-1), .int 0, .ref m_didSome, .ref m_sizes, .ref m_ends])), (m_all, aI cs 51207 f_m_all)] H := hP
      have hD : va_D A [(md, .inr (9, [.int 0, .ref m_all, .ref m_deeds, .ref m_trial, .int 0, .ref m_hasImage, .ref m_tape, .ref m_key, .ref m_answered, .int 0, .int 0, .int 0, .ref m_goes, .int 0, .ref m_hotOnes, .ref m_indexed, .ref m_isChanged, .int 0, .ref m_valueNow, .int 0, .int (-1), .int 0, .ref m_didSome, .ref m_sizes, .ref m_ends])), (m_all, aI cs 51207 f_m_all)] := hD
      have er_580 := hw_579
      subst er_580
      refine lv_if_eq (tgt := 112) hx hb dX9_space_105 (by decide) (fun c_581 => absurd c_581 (by decide)) (fun c_581 => ?_)
      refine lv_iconst (v := 0) hx hb dX9_space_108 (by decide) ?_
      refine lv_goto (tgt := 124) hx hb dX9_space_109 (by decide) ?_
      refine lv_iadd hx hb dX9_space_124 ?_
      refine tpi (y := 0) (by decide) ?_
      refine lv_istore_n (lv' := [(2, .int 0), (3, .int 18), (0, .ref md), (1, .int 3)]) hx hb dX9_space_125 rfl hl (by decide) rfl (fun ls hl => ?_)
      refine lv_goto (tgt := 146) hx hb dX9_space_126 (by decide) ?_
      refine lv_iinc (v := 19) (lv' := [(3, .int 19), (2, .int 0), (0, .ref md), (1, .int 3)]) hx hb dX9_space_146 hl (k := 1) rfl (by decide) (by decide) rfl (fun ls hl => ?_)
      refine lv_goto (tgt := 24) hx hb dX9_space_149 (by decide) ?_
      refine lv_iload_n hx hb dX9_space_24 rfl (lv_at hl 0 rfl) ?_
      refine lv_bipush (v := 24) hx hb dX9_space_25 (by decide) ?_
      refine lv_icmp_ge (tgt := 152) hx hb dX9_space_27 (by decide) (fun c_582 => absurd c_582 (by decide)) (fun c_582 => ?_)
      refine lv_iload_n hx hb dX9_space_30 rfl (lv_at hl 3 rfl) ?_
      refine lv_tableIn (tgt := 99) hx hb dX9_space_31 (by decide) (by decide) (off := 68) (by decide) (by decide) ?_
      refine lv_iload_n hx hb dX9_space_99 rfl (lv_at hl 1 rfl) ?_
      refine lv_aload_n hx hb dX9_space_100 rfl (lv_at hl 2 rfl) ?_
      refine lv_iload_n hx hb dX9_space_101 rfl (lv_at hl 0 rfl) ?_
      refine kV_i (ci := 9) (As := [.int 19]) (rest := [.int 0]) (wc := [(md, .inr (9, [.int 0, .ref m_all, .ref m_deeds, .ref m_trial, .int 0, .ref m_hasImage, .ref m_tape, .ref m_key, .ref m_answered, .int 0, .int 0, .int 0, .ref m_goes, .int 0, .ref m_hotOnes, .ref m_indexed, .ref m_isChanged, .int 0, .ref m_valueNow, .int 0, .int (-1), .int 0, .ref m_didSome, .ref m_sizes, .ref m_ends])), (m_all, aI cs 51207 f_m_all)]) (wr := []) hx hb hml hown hu hK hP hD hS hA hl.1 (c_X9_isFree l D cs H.size 19 md m_all f_m_all m_deeds m_trial m_hasImage m_tape m_key m_answered m_goes m_hotOnes m_indexed m_isChanged m_valueNow m_didSome m_sizes m_ends 0 0 0 z_all (by first | decide | grind)) (gV u_1188 u_1190 u_13 u_76 u_1191) hd_X9_isFree ⟨(Nat.le_of_ble_eq_true rfl), (Nat.le_of_ble_eq_true rfl)⟩ [0, 1] [] rfl rfl rfl rfl (by decide) rfl 0 rfl rfl rfl (Nat.le_of_ble_eq_true rfl) dX9_space_102 ⟨(Nat.le_of_ble_eq_true rfl), (Nat.le_of_ble_eq_true rfl)⟩ (fun r_583 ut_584 H locs hw_585 hP hD hS => ?_)
      have hP : va_P D vwCl [(md, .inr (9, [.int 0, .ref m_all, .ref m_deeds, .ref m_trial, .int 0, .ref m_hasImage, .ref m_tape, .ref m_key, .ref m_answered, .int 0, .int 0, .int 0, .ref m_goes, .int 0, .ref m_hotOnes, .ref m_indexed, .ref m_isChanged, .int 0, .ref m_valueNow, .int 0, .int (-1), .int 0, .ref m_didSome, .ref m_sizes, .ref m_ends])), (m_all, aI cs 51207 f_m_all)] H := hP
      have hD : va_D A [(md, .inr (9, [.int 0, .ref m_all, .ref m_deeds, .ref m_trial, .int 0, .ref m_hasImage, .ref m_tape, .ref m_key, .ref m_answered, .int 0, .int 0, .int 0, .ref m_goes, .int 0, .ref m_hotOnes, .ref m_indexed, .ref m_isChanged, .int 0, .ref m_valueNow, .int 0, .int (-1), .int 0, .ref m_didSome, .ref m_sizes, .ref m_ends])), (m_all, aI cs 51207 f_m_all)] := hD
      have er_586 := hw_585
      subst er_586
      refine lv_if_eq (tgt := 112) hx hb dX9_space_105 (by decide) (fun c_587 => absurd c_587 (by decide)) (fun c_587 => ?_)
      refine lv_iconst (v := 0) hx hb dX9_space_108 (by decide) ?_
      refine lv_goto (tgt := 124) hx hb dX9_space_109 (by decide) ?_
      refine lv_iadd hx hb dX9_space_124 ?_
      refine tpi (y := 0) (by decide) ?_
      refine lv_istore_n (lv' := [(2, .int 0), (3, .int 19), (0, .ref md), (1, .int 3)]) hx hb dX9_space_125 rfl hl (by decide) rfl (fun ls hl => ?_)
      refine lv_goto (tgt := 146) hx hb dX9_space_126 (by decide) ?_
      refine lv_iinc (v := 20) (lv' := [(3, .int 20), (2, .int 0), (0, .ref md), (1, .int 3)]) hx hb dX9_space_146 hl (k := 1) rfl (by decide) (by decide) rfl (fun ls hl => ?_)
      refine lv_goto (tgt := 24) hx hb dX9_space_149 (by decide) ?_
      refine lv_iload_n hx hb dX9_space_24 rfl (lv_at hl 0 rfl) ?_
      refine lv_bipush (v := 24) hx hb dX9_space_25 (by decide) ?_
      refine lv_icmp_ge (tgt := 152) hx hb dX9_space_27 (by decide) (fun c_588 => absurd c_588 (by decide)) (fun c_588 => ?_)
      refine lv_iload_n hx hb dX9_space_30 rfl (lv_at hl 3 rfl) ?_
      refine lv_tableIn (tgt := 99) hx hb dX9_space_31 (by decide) (by decide) (off := 68) (by decide) (by decide) ?_
      refine lv_iload_n hx hb dX9_space_99 rfl (lv_at hl 1 rfl) ?_
      refine lv_aload_n hx hb dX9_space_100 rfl (lv_at hl 2 rfl) ?_
      refine lv_iload_n hx hb dX9_space_101 rfl (lv_at hl 0 rfl) ?_
      refine kV_i (ci := 9) (As := [.int 20]) (rest := [.int 0]) (wc := [(md, .inr (9, [.int 0, .ref m_all, .ref m_deeds, .ref m_trial, .int 0, .ref m_hasImage, .ref m_tape, .ref m_key, .ref m_answered, .int 0, .int 0, .int 0, .ref m_goes, .int 0, .ref m_hotOnes, .ref m_indexed, .ref m_isChanged, .int 0, .ref m_valueNow, .int 0, .int (-1), .int 0, .ref m_didSome, .ref m_sizes, .ref m_ends])), (m_all, aI cs 51207 f_m_all)]) (wr := []) hx hb hml hown hu hK hP hD hS hA hl.1 (c_X9_isFree l D cs H.size 20 md m_all f_m_all m_deeds m_trial m_hasImage m_tape m_key m_answered m_goes m_hotOnes m_indexed m_isChanged m_valueNow m_didSome m_sizes m_ends 0 0 0 z_all (by first | decide | grind)) (gV u_1188 u_1190 u_13 u_76 u_1191) hd_X9_isFree ⟨(Nat.le_of_ble_eq_true rfl), (Nat.le_of_ble_eq_true rfl)⟩ [0, 1] [] rfl rfl rfl rfl (by decide) rfl 0 rfl rfl rfl (Nat.le_of_ble_eq_true rfl) dX9_space_102 ⟨(Nat.le_of_ble_eq_true rfl), (Nat.le_of_ble_eq_true rfl)⟩ (fun r_589 ut_590 H locs hw_591 hP hD hS => ?_)
      have hP : va_P D vwCl [(md, .inr (9, [.int 0, .ref m_all, .ref m_deeds, .ref m_trial, .int 0, .ref m_hasImage, .ref m_tape, .ref m_key, .ref m_answered, .int 0, .int 0, .int 0, .ref m_goes, .int 0, .ref m_hotOnes, .ref m_indexed, .ref m_isChanged, .int 0, .ref m_valueNow, .int 0, .int (-1), .int 0, .ref m_didSome, .ref m_sizes, .ref m_ends])), (m_all, aI cs 51207 f_m_all)] H := hP
      have hD : va_D A [(md, .inr (9, [.int 0, .ref m_all, .ref m_deeds, .ref m_trial, .int 0, .ref m_hasImage, .ref m_tape, .ref m_key, .ref m_answered, .int 0, .int 0, .int 0, .ref m_goes, .int 0, .ref m_hotOnes, .ref m_indexed, .ref m_isChanged, .int 0, .ref m_valueNow, .int 0, .int (-1), .int 0, .ref m_didSome, .ref m_sizes, .ref m_ends])), (m_all, aI cs 51207 f_m_all)] := hD
      have er_592 := hw_591
      subst er_592
      refine lv_if_eq (tgt := 112) hx hb dX9_space_105 (by decide) (fun c_593 => absurd c_593 (by decide)) (fun c_593 => ?_)
      refine lv_iconst (v := 0) hx hb dX9_space_108 (by decide) ?_
      refine lv_goto (tgt := 124) hx hb dX9_space_109 (by decide) ?_
      refine lv_iadd hx hb dX9_space_124 ?_
      refine tpi (y := 0) (by decide) ?_
      refine lv_istore_n (lv' := [(2, .int 0), (3, .int 20), (0, .ref md), (1, .int 3)]) hx hb dX9_space_125 rfl hl (by decide) rfl (fun ls hl => ?_)
      refine lv_goto (tgt := 146) hx hb dX9_space_126 (by decide) ?_
      refine lv_iinc (v := 21) (lv' := [(3, .int 21), (2, .int 0), (0, .ref md), (1, .int 3)]) hx hb dX9_space_146 hl (k := 1) rfl (by decide) (by decide) rfl (fun ls hl => ?_)
      refine lv_goto (tgt := 24) hx hb dX9_space_149 (by decide) ?_
      refine lv_iload_n hx hb dX9_space_24 rfl (lv_at hl 0 rfl) ?_
      refine lv_bipush (v := 24) hx hb dX9_space_25 (by decide) ?_
      refine lv_icmp_ge (tgt := 152) hx hb dX9_space_27 (by decide) (fun c_594 => absurd c_594 (by decide)) (fun c_594 => ?_)
      refine lv_iload_n hx hb dX9_space_30 rfl (lv_at hl 3 rfl) ?_
      refine lv_tableIn (tgt := 99) hx hb dX9_space_31 (by decide) (by decide) (off := 68) (by decide) (by decide) ?_
      refine lv_iload_n hx hb dX9_space_99 rfl (lv_at hl 1 rfl) ?_
      refine lv_aload_n hx hb dX9_space_100 rfl (lv_at hl 2 rfl) ?_
      refine lv_iload_n hx hb dX9_space_101 rfl (lv_at hl 0 rfl) ?_
      refine kV_i (ci := 9) (As := [.int 21]) (rest := [.int 0]) (wc := [(md, .inr (9, [.int 0, .ref m_all, .ref m_deeds, .ref m_trial, .int 0, .ref m_hasImage, .ref m_tape, .ref m_key, .ref m_answered, .int 0, .int 0, .int 0, .ref m_goes, .int 0, .ref m_hotOnes, .ref m_indexed, .ref m_isChanged, .int 0, .ref m_valueNow, .int 0, .int (-1), .int 0, .ref m_didSome, .ref m_sizes, .ref m_ends])), (m_all, aI cs 51207 f_m_all)]) (wr := []) hx hb hml hown hu hK hP hD hS hA hl.1 (c_X9_isFree l D cs H.size 21 md m_all f_m_all m_deeds m_trial m_hasImage m_tape m_key m_answered m_goes m_hotOnes m_indexed m_isChanged m_valueNow m_didSome m_sizes m_ends 0 0 0 z_all (by first | decide | grind)) (gV u_1188 u_1190 u_13 u_76 u_1191) hd_X9_isFree ⟨(Nat.le_of_ble_eq_true rfl), (Nat.le_of_ble_eq_true rfl)⟩ [0, 1] [] rfl rfl rfl rfl (by decide) rfl 0 rfl rfl rfl (Nat.le_of_ble_eq_true rfl) dX9_space_102 ⟨(Nat.le_of_ble_eq_true rfl), (Nat.le_of_ble_eq_true rfl)⟩ (fun r_595 ut_596 H locs hw_597 hP hD hS => ?_)
      have hP : va_P D vwCl [(md, .inr (9, [.int 0, .ref m_all, .ref m_deeds, .ref m_trial, .int 0, .ref m_hasImage, .ref m_tape, .ref m_key, .ref m_answered, .int 0, .int 0, .int 0, .ref m_goes, .int 0, .ref m_hotOnes, .ref m_indexed, .ref m_isChanged, .int 0, .ref m_valueNow, .int 0, .int (-1), .int 0, .ref m_didSome, .ref m_sizes, .ref m_ends])), (m_all, aI cs 51207 f_m_all)] H := hP
      have hD : va_D A [(md, .inr (9, [.int 0, .ref m_all, .ref m_deeds, .ref m_trial, .int 0, .ref m_hasImage, .ref m_tape, .ref m_key, .ref m_answered, .int 0, .int 0, .int 0, .ref m_goes, .int 0, .ref m_hotOnes, .ref m_indexed, .ref m_isChanged, .int 0, .ref m_valueNow, .int 0, .int (-1), .int 0, .ref m_didSome, .ref m_sizes, .ref m_ends])), (m_all, aI cs 51207 f_m_all)] := hD
      have er_598 := hw_597
      subst er_598
      refine lv_if_eq (tgt := 112) hx hb dX9_space_105 (by decide) (fun c_599 => absurd c_599 (by decide)) (fun c_599 => ?_)
      refine lv_iconst (v := 0) hx hb dX9_space_108 (by decide) ?_
      refine lv_goto (tgt := 124) hx hb dX9_space_109 (by decide) ?_
      refine lv_iadd hx hb dX9_space_124 ?_
      refine tpi (y := 0) (by decide) ?_
      refine lv_istore_n (lv' := [(2, .int 0), (3, .int 21), (0, .ref md), (1, .int 3)]) hx hb dX9_space_125 rfl hl (by decide) rfl (fun ls hl => ?_)
      refine lv_goto (tgt := 146) hx hb dX9_space_126 (by decide) ?_
      refine lv_iinc (v := 22) (lv' := [(3, .int 22), (2, .int 0), (0, .ref md), (1, .int 3)]) hx hb dX9_space_146 hl (k := 1) rfl (by decide) (by decide) rfl (fun ls hl => ?_)
      refine lv_goto (tgt := 24) hx hb dX9_space_149 (by decide) ?_
      refine lv_iload_n hx hb dX9_space_24 rfl (lv_at hl 0 rfl) ?_
      refine lv_bipush (v := 24) hx hb dX9_space_25 (by decide) ?_
      refine lv_icmp_ge (tgt := 152) hx hb dX9_space_27 (by decide) (fun c_600 => absurd c_600 (by decide)) (fun c_600 => ?_)
      refine lv_iload_n hx hb dX9_space_30 rfl (lv_at hl 3 rfl) ?_
      refine lv_tableIn (tgt := 99) hx hb dX9_space_31 (by decide) (by decide) (off := 68) (by decide) (by decide) ?_
      refine lv_iload_n hx hb dX9_space_99 rfl (lv_at hl 1 rfl) ?_
      refine lv_aload_n hx hb dX9_space_100 rfl (lv_at hl 2 rfl) ?_
      refine lv_iload_n hx hb dX9_space_101 rfl (lv_at hl 0 rfl) ?_
      refine kV_i (ci := 9) (As := [.int 22]) (rest := [.int 0]) (wc := [(md, .inr (9, [.int 0, .ref m_all, .ref m_deeds, .ref m_trial, .int 0, .ref m_hasImage, .ref m_tape, .ref m_key, .ref m_answered, .int 0, .int 0, .int 0, .ref m_goes, .int 0, .ref m_hotOnes, .ref m_indexed, .ref m_isChanged, .int 0, .ref m_valueNow, .int 0, .int (-1), .int 0, .ref m_didSome, .ref m_sizes, .ref m_ends])), (m_all, aI cs 51207 f_m_all)]) (wr := []) hx hb hml hown hu hK hP hD hS hA hl.1 (c_X9_isFree l D cs H.size 22 md m_all f_m_all m_deeds m_trial m_hasImage m_tape m_key m_answered m_goes m_hotOnes m_indexed m_isChanged m_valueNow m_didSome m_sizes m_ends 0 0 0 z_all (by first | decide | grind)) (gV u_1188 u_1190 u_13 u_76 u_1191) hd_X9_isFree ⟨(Nat.le_of_ble_eq_true rfl), (Nat.le_of_ble_eq_true rfl)⟩ [0, 1] [] rfl rfl rfl rfl (by decide) rfl 0 rfl rfl rfl (Nat.le_of_ble_eq_true rfl) dX9_space_102 ⟨(Nat.le_of_ble_eq_true rfl), (Nat.le_of_ble_eq_true rfl)⟩ (fun r_601 ut_602 H locs hw_603 hP hD hS => ?_)
      have hP : va_P D vwCl [(md, .inr (9, [.int 0, .ref m_all, .ref m_deeds, .ref m_trial, .int 0, .ref m_hasImage, .ref m_tape, .ref m_key, .ref m_answered, .int 0, .int 0, .int 0, .ref m_goes, .int 0, .ref m_hotOnes, .ref m_indexed, .ref m_isChanged, .int 0, .ref m_valueNow, .int 0, .int (-1), .int 0, .ref m_didSome, .ref m_sizes, .ref m_ends])), (m_all, aI cs 51207 f_m_all)] H := hP
      have hD : va_D A [(md, .inr (9, [.int 0, .ref m_all, .ref m_deeds, .ref m_trial, .int 0, .ref m_hasImage, .ref m_tape, .ref m_key, .ref m_answered, .int 0, .int 0, .int 0, .ref m_goes, .int 0, .ref m_hotOnes, .ref m_indexed, .ref m_isChanged, .int 0, .ref m_valueNow, .int 0, .int (-1), .int 0, .ref m_didSome, .ref m_sizes, .ref m_ends])), (m_all, aI cs 51207 f_m_all)] := hD
      have er_604 := hw_603
      subst er_604
      refine lv_if_eq (tgt := 112) hx hb dX9_space_105 (by decide) (fun c_605 => absurd c_605 (by decide)) (fun c_605 => ?_)
      refine lv_iconst (v := 0) hx hb dX9_space_108 (by decide) ?_
      refine lv_goto (tgt := 124) hx hb dX9_space_109 (by decide) ?_
      refine lv_iadd hx hb dX9_space_124 ?_
      refine tpi (y := 0) (by decide) ?_
      refine lv_istore_n (lv' := [(2, .int 0), (3, .int 22), (0, .ref md), (1, .int 3)]) hx hb dX9_space_125 rfl hl (by decide) rfl (fun ls hl => ?_)
      refine lv_goto (tgt := 146) hx hb dX9_space_126 (by decide) ?_
      refine lv_iinc (v := 23) (lv' := [(3, .int 23), (2, .int 0), (0, .ref md), (1, .int 3)]) hx hb dX9_space_146 hl (k := 1) rfl (by decide) (by decide) rfl (fun ls hl => ?_)
      refine lv_goto (tgt := 24) hx hb dX9_space_149 (by decide) ?_
      refine lv_iload_n hx hb dX9_space_24 rfl (lv_at hl 0 rfl) ?_
      refine lv_bipush (v := 24) hx hb dX9_space_25 (by decide) ?_
      refine lv_icmp_ge (tgt := 152) hx hb dX9_space_27 (by decide) (fun c_606 => absurd c_606 (by decide)) (fun c_606 => ?_)
      refine lv_iload_n hx hb dX9_space_30 rfl (lv_at hl 3 rfl) ?_
      refine lv_tableIn (tgt := 99) hx hb dX9_space_31 (by decide) (by decide) (off := 68) (by decide) (by decide) ?_
      refine lv_iload_n hx hb dX9_space_99 rfl (lv_at hl 1 rfl) ?_
      refine lv_aload_n hx hb dX9_space_100 rfl (lv_at hl 2 rfl) ?_
      refine lv_iload_n hx hb dX9_space_101 rfl (lv_at hl 0 rfl) ?_
      refine kV_i (ci := 9) (As := [.int 23]) (rest := [.int 0]) (wc := [(md, .inr (9, [.int 0, .ref m_all, .ref m_deeds, .ref m_trial, .int 0, .ref m_hasImage, .ref m_tape, .ref m_key, .ref m_answered, .int 0, .int 0, .int 0, .ref m_goes, .int 0, .ref m_hotOnes, .ref m_indexed, .ref m_isChanged, .int 0, .ref m_valueNow, .int 0, .int (-1), .int 0, .ref m_didSome, .ref m_sizes, .ref m_ends])), (m_all, aI cs 51207 f_m_all)]) (wr := []) hx hb hml hown hu hK hP hD hS hA hl.1 (c_X9_isFree l D cs H.size 23 md m_all f_m_all m_deeds m_trial m_hasImage m_tape m_key m_answered m_goes m_hotOnes m_indexed m_isChanged m_valueNow m_didSome m_sizes m_ends 0 0 0 z_all (by first | decide | grind)) (gV u_1188 u_1190 u_13 u_76 u_1191) hd_X9_isFree ⟨(Nat.le_of_ble_eq_true rfl), (Nat.le_of_ble_eq_true rfl)⟩ [0, 1] [] rfl rfl rfl rfl (by decide) rfl 0 rfl rfl rfl (Nat.le_of_ble_eq_true rfl) dX9_space_102 ⟨(Nat.le_of_ble_eq_true rfl), (Nat.le_of_ble_eq_true rfl)⟩ (fun r_607 ut_608 H locs hw_609 hP hD hS => ?_)
      have hP : va_P D vwCl [(md, .inr (9, [.int 0, .ref m_all, .ref m_deeds, .ref m_trial, .int 0, .ref m_hasImage, .ref m_tape, .ref m_key, .ref m_answered, .int 0, .int 0, .int 0, .ref m_goes, .int 0, .ref m_hotOnes, .ref m_indexed, .ref m_isChanged, .int 0, .ref m_valueNow, .int 0, .int (-1), .int 0, .ref m_didSome, .ref m_sizes, .ref m_ends])), (m_all, aI cs 51207 f_m_all)] H := hP
      have hD : va_D A [(md, .inr (9, [.int 0, .ref m_all, .ref m_deeds, .ref m_trial, .int 0, .ref m_hasImage, .ref m_tape, .ref m_key, .ref m_answered, .int 0, .int 0, .int 0, .ref m_goes, .int 0, .ref m_hotOnes, .ref m_indexed, .ref m_isChanged, .int 0, .ref m_valueNow, .int 0, .int (-1), .int 0, .ref m_didSome, .ref m_sizes, .ref m_ends])), (m_all, aI cs 51207 f_m_all)] := hD
      have er_610 := hw_609
      subst er_610
      refine lv_if_eq (tgt := 112) hx hb dX9_space_105 (by decide) (fun c_611 => absurd c_611 (by decide)) (fun c_611 => ?_)
      refine lv_iconst (v := 0) hx hb dX9_space_108 (by decide) ?_
      refine lv_goto (tgt := 124) hx hb dX9_space_109 (by decide) ?_
      refine lv_iadd hx hb dX9_space_124 ?_
      refine tpi (y := 0) (by decide) ?_
      refine lv_istore_n (lv' := [(2, .int 0), (3, .int 23), (0, .ref md), (1, .int 3)]) hx hb dX9_space_125 rfl hl (by decide) rfl (fun ls hl => ?_)
      refine lv_goto (tgt := 146) hx hb dX9_space_126 (by decide) ?_
      refine lv_iinc (v := 24) (lv' := [(3, .int 24), (2, .int 0), (0, .ref md), (1, .int 3)]) hx hb dX9_space_146 hl (k := 1) rfl (by decide) (by decide) rfl (fun ls hl => ?_)
      refine lv_goto (tgt := 24) hx hb dX9_space_149 (by decide) ?_
      refine lv_iload_n hx hb dX9_space_24 rfl (lv_at hl 0 rfl) ?_
      refine lv_bipush (v := 24) hx hb dX9_space_25 (by decide) ?_
      refine lv_icmp_ge (tgt := 152) hx hb dX9_space_27 (by decide) (fun c_612 => ?_) (fun c_612 => absurd (by decide) c_612)
      refine lv_iload_n hx hb dX9_space_152 rfl (lv_at hl 1 rfl) ?_
      exact hz () hP hD hS (by grind) [] rfl rfl (Nat.le_of_ble_eq_true rfl) (Nat.le_of_ble_eq_true rfl) .int rfl rfl dX9_space_153
    · subst c_8
      refine lv_iconst (v := 0) hx hb dX9_space_20 (by decide) ?_
      refine lv_istore_n (lv' := [(2, .int 0), (0, .ref md), (1, .int 4)]) hx hb dX9_space_21 rfl hl (by decide) rfl (fun ls hl => ?_)
      refine lv_iconst (v := 0) hx hb dX9_space_22 (by decide) ?_
      refine lv_istore_n (lv' := [(3, .int 0), (2, .int 0), (0, .ref md), (1, .int 4)]) hx hb dX9_space_23 rfl hl (by decide) rfl (fun ls hl => ?_)
      refine lv_iload_n hx hb dX9_space_24 rfl (lv_at hl 0 rfl) ?_
      refine lv_bipush (v := 24) hx hb dX9_space_25 (by decide) ?_
      refine lv_icmp_ge (tgt := 152) hx hb dX9_space_27 (by decide) (fun c_613 => absurd c_613 (by decide)) (fun c_613 => ?_)
      refine lv_iload_n hx hb dX9_space_30 rfl (lv_at hl 3 rfl) ?_
      refine lv_tableOut (tgt := 129) hx hb dX9_space_31 (by decide) (by decide) ?_
      refine lv_iload_n hx hb dX9_space_129 rfl (lv_at hl 1 rfl) ?_
      refine lv_aload_n hx hb dX9_space_130 rfl (lv_at hl 2 rfl) ?_
      refine lv_iload_n hx hb dX9_space_131 rfl (lv_at hl 0 rfl) ?_
      refine kV_i (ci := 9) (As := [.int 0]) (rest := [.int 0]) (wc := [(md, .inr (9, [.int 0, .ref m_all, .ref m_deeds, .ref m_trial, .int 0, .ref m_hasImage, .ref m_tape, .ref m_key, .ref m_answered, .int 0, .int 0, .int 0, .ref m_goes, .int 0, .ref m_hotOnes, .ref m_indexed, .ref m_isChanged, .int 0, .ref m_valueNow, .int 0, .int (-1), .int 0, .ref m_didSome, .ref m_sizes, .ref m_ends])), (m_all, aI cs 51207 f_m_all)]) (wr := []) hx hb hml hown hu hK hP hD hS hA hl.1 (c_X9_isFree l D cs H.size 0 md m_all f_m_all m_deeds m_trial m_hasImage m_tape m_key m_answered m_goes m_hotOnes m_indexed m_isChanged m_valueNow m_didSome m_sizes m_ends 0 0 0 z_all (by first | decide | grind)) (gV u_1188 u_1190 u_13 u_76 u_1191) hd_X9_isFree ⟨(Nat.le_of_ble_eq_true rfl), (Nat.le_of_ble_eq_true rfl)⟩ [0, 1] [] rfl rfl rfl rfl (by decide) rfl 0 rfl rfl rfl (Nat.le_of_ble_eq_true rfl) dX9_space_132 ⟨(Nat.le_of_ble_eq_true rfl), (Nat.le_of_ble_eq_true rfl)⟩ (fun r_614 ut_615 H locs hw_616 hP hD hS => ?_)
      have hP : va_P D vwCl [(md, .inr (9, [.int 0, .ref m_all, .ref m_deeds, .ref m_trial, .int 0, .ref m_hasImage, .ref m_tape, .ref m_key, .ref m_answered, .int 0, .int 0, .int 0, .ref m_goes, .int 0, .ref m_hotOnes, .ref m_indexed, .ref m_isChanged, .int 0, .ref m_valueNow, .int 0, .int (-1), .int 0, .ref m_didSome, .ref m_sizes, .ref m_ends])), (m_all, aI cs 51207 f_m_all)] H := hP
      have hD : va_D A [(md, .inr (9, [.int 0, .ref m_all, .ref m_deeds, .ref m_trial, .int 0, .ref m_hasImage, .ref m_tape, .ref m_key, .ref m_answered, .int 0, .int 0, .int 0, .ref m_goes, .int 0, .ref m_hotOnes, .ref m_indexed, .ref m_isChanged, .int 0, .ref m_valueNow, .int 0, .int (-1), .int 0, .ref m_didSome, .ref m_sizes, .ref m_ends])), (m_all, aI cs 51207 f_m_all)] := hD
      have er_617 := hw_616
      subst er_617
      refine lv_if_eq (tgt := 143) hx hb dX9_space_135 (by decide) (fun c_618 => absurd c_618 (by decide)) (fun c_618 => ?_)
      refine lv_bipush (v := 64) hx hb dX9_space_138 (by decide) ?_
      refine lv_goto (tgt := 144) hx hb dX9_space_140 (by decide) ?_
      refine lv_iadd hx hb dX9_space_144 ?_
      refine tpi (y := 64) (by decide) ?_
      refine lv_istore_n (lv' := [(2, .int 64), (3, .int 0), (0, .ref md), (1, .int 4)]) hx hb dX9_space_145 rfl hl (by decide) rfl (fun ls hl => ?_)
      refine lv_iinc (v := 1) (lv' := [(3, .int 1), (2, .int 64), (0, .ref md), (1, .int 4)]) hx hb dX9_space_146 hl (k := 1) rfl (by decide) (by decide) rfl (fun ls hl => ?_)
      refine lv_goto (tgt := 24) hx hb dX9_space_149 (by decide) ?_
      refine lv_iload_n hx hb dX9_space_24 rfl (lv_at hl 0 rfl) ?_
      refine lv_bipush (v := 24) hx hb dX9_space_25 (by decide) ?_
      refine lv_icmp_ge (tgt := 152) hx hb dX9_space_27 (by decide) (fun c_619 => absurd c_619 (by decide)) (fun c_619 => ?_)
      refine lv_iload_n hx hb dX9_space_30 rfl (lv_at hl 3 rfl) ?_
      refine lv_tableOut (tgt := 129) hx hb dX9_space_31 (by decide) (by decide) ?_
      refine lv_iload_n hx hb dX9_space_129 rfl (lv_at hl 1 rfl) ?_
      refine lv_aload_n hx hb dX9_space_130 rfl (lv_at hl 2 rfl) ?_
      refine lv_iload_n hx hb dX9_space_131 rfl (lv_at hl 0 rfl) ?_
      refine kV_i (ci := 9) (As := [.int 1]) (rest := [.int 64]) (wc := [(md, .inr (9, [.int 0, .ref m_all, .ref m_deeds, .ref m_trial, .int 0, .ref m_hasImage, .ref m_tape, .ref m_key, .ref m_answered, .int 0, .int 0, .int 0, .ref m_goes, .int 0, .ref m_hotOnes, .ref m_indexed, .ref m_isChanged, .int 0, .ref m_valueNow, .int 0, .int (-1), .int 0, .ref m_didSome, .ref m_sizes, .ref m_ends])), (m_all, aI cs 51207 f_m_all)]) (wr := []) hx hb hml hown hu hK hP hD hS hA hl.1 (c_X9_isFree l D cs H.size 1 md m_all f_m_all m_deeds m_trial m_hasImage m_tape m_key m_answered m_goes m_hotOnes m_indexed m_isChanged m_valueNow m_didSome m_sizes m_ends 0 0 0 z_all (by first | decide | grind)) (gV u_1188 u_1190 u_13 u_76 u_1191) hd_X9_isFree ⟨(Nat.le_of_ble_eq_true rfl), (Nat.le_of_ble_eq_true rfl)⟩ [0, 1] [] rfl rfl rfl rfl (by decide) rfl 0 rfl rfl rfl (Nat.le_of_ble_eq_true rfl) dX9_space_132 ⟨(Nat.le_of_ble_eq_true rfl), (Nat.le_of_ble_eq_true rfl)⟩ (fun r_620 ut_621 H locs hw_622 hP hD hS => ?_)
      have hP : va_P D vwCl [(md, .inr (9, [.int 0, .ref m_all, .ref m_deeds, .ref m_trial, .int 0, .ref m_hasImage, .ref m_tape, .ref m_key, .ref m_answered, .int 0, .int 0, .int 0, .ref m_goes, .int 0, .ref m_hotOnes, .ref m_indexed, .ref m_isChanged, .int 0, .ref m_valueNow, .int 0, .int (-1), .int 0, .ref m_didSome, .ref m_sizes, .ref m_ends])), (m_all, aI cs 51207 f_m_all)] H := hP
      have hD : va_D A [(md, .inr (9, [.int 0, .ref m_all, .ref m_deeds, .ref m_trial, .int 0, .ref m_hasImage, .ref m_tape, .ref m_key, .ref m_answered, .int 0, .int 0, .int 0, .ref m_goes, .int 0, .ref m_hotOnes, .ref m_indexed, .ref m_isChanged, .int 0, .ref m_valueNow, .int 0, .int (-1), .int 0, .ref m_didSome, .ref m_sizes, .ref m_ends])), (m_all, aI cs 51207 f_m_all)] := hD
      have er_623 := hw_622
      subst er_623
      refine lv_if_eq (tgt := 143) hx hb dX9_space_135 (by decide) (fun c_624 => absurd c_624 (by decide)) (fun c_624 => ?_)
      refine lv_bipush (v := 64) hx hb dX9_space_138 (by decide) ?_
      refine lv_goto (tgt := 144) hx hb dX9_space_140 (by decide) ?_
      refine lv_iadd hx hb dX9_space_144 ?_
      refine tpi (y := 128) (by decide) ?_
      refine lv_istore_n (lv' := [(2, .int 128), (3, .int 1), (0, .ref md), (1, .int 4)]) hx hb dX9_space_145 rfl hl (by decide) rfl (fun ls hl => ?_)
      refine lv_iinc (v := 2) (lv' := [(3, .int 2), (2, .int 128), (0, .ref md), (1, .int 4)]) hx hb dX9_space_146 hl (k := 1) rfl (by decide) (by decide) rfl (fun ls hl => ?_)
      refine lv_goto (tgt := 24) hx hb dX9_space_149 (by decide) ?_
      refine lv_iload_n hx hb dX9_space_24 rfl (lv_at hl 0 rfl) ?_
      refine lv_bipush (v := 24) hx hb dX9_space_25 (by decide) ?_
      refine lv_icmp_ge (tgt := 152) hx hb dX9_space_27 (by decide) (fun c_625 => absurd c_625 (by decide)) (fun c_625 => ?_)
      refine lv_iload_n hx hb dX9_space_30 rfl (lv_at hl 3 rfl) ?_
      refine lv_tableOut (tgt := 129) hx hb dX9_space_31 (by decide) (by decide) ?_
      refine lv_iload_n hx hb dX9_space_129 rfl (lv_at hl 1 rfl) ?_
      refine lv_aload_n hx hb dX9_space_130 rfl (lv_at hl 2 rfl) ?_
      refine lv_iload_n hx hb dX9_space_131 rfl (lv_at hl 0 rfl) ?_
      refine kV_i (ci := 9) (As := [.int 2]) (rest := [.int 128]) (wc := [(md, .inr (9, [.int 0, .ref m_all, .ref m_deeds, .ref m_trial, .int 0, .ref m_hasImage, .ref m_tape, .ref m_key, .ref m_answered, .int 0, .int 0, .int 0, .ref m_goes, .int 0, .ref m_hotOnes, .ref m_indexed, .ref m_isChanged, .int 0, .ref m_valueNow, .int 0, .int (-1), .int 0, .ref m_didSome, .ref m_sizes, .ref m_ends])), (m_all, aI cs 51207 f_m_all)]) (wr := []) hx hb hml hown hu hK hP hD hS hA hl.1 (c_X9_isFree l D cs H.size 2 md m_all f_m_all m_deeds m_trial m_hasImage m_tape m_key m_answered m_goes m_hotOnes m_indexed m_isChanged m_valueNow m_didSome m_sizes m_ends 0 0 0 z_all (by first | decide | grind)) (gV u_1188 u_1190 u_13 u_76 u_1191) hd_X9_isFree ⟨(Nat.le_of_ble_eq_true rfl), (Nat.le_of_ble_eq_true rfl)⟩ [0, 1] [] rfl rfl rfl rfl (by decide) rfl 0 rfl rfl rfl (Nat.le_of_ble_eq_true rfl) dX9_space_132 ⟨(Nat.le_of_ble_eq_true rfl), (Nat.le_of_ble_eq_true rfl)⟩ (fun r_626 ut_627 H locs hw_628 hP hD hS => ?_)
      have hP : va_P D vwCl [(md, .inr (9, [.int 0, .ref m_all, .ref m_deeds, .ref m_trial, .int 0, .ref m_hasImage, .ref m_tape, .ref m_key, .ref m_answered, .int 0, .int 0, .int 0, .ref m_goes, .int 0, .ref m_hotOnes, .ref m_indexed, .ref m_isChanged, .int 0, .ref m_valueNow, .int 0, .int (-1), .int 0, .ref m_didSome, .ref m_sizes, .ref m_ends])), (m_all, aI cs 51207 f_m_all)] H := hP
      have hD : va_D A [(md, .inr (9, [.int 0, .ref m_all, .ref m_deeds, .ref m_trial, .int 0, .ref m_hasImage, .ref m_tape, .ref m_key, .ref m_answered, .int 0, .int 0, .int 0, .ref m_goes, .int 0, .ref m_hotOnes, .ref m_indexed, .ref m_isChanged, .int 0, .ref m_valueNow, .int 0, .int (-1), .int 0, .ref m_didSome, .ref m_sizes, .ref m_ends])), (m_all, aI cs 51207 f_m_all)] := hD
      have er_629 := hw_628
      subst er_629
      refine lv_if_eq (tgt := 143) hx hb dX9_space_135 (by decide) (fun c_630 => absurd c_630 (by decide)) (fun c_630 => ?_)
      refine lv_bipush (v := 64) hx hb dX9_space_138 (by decide) ?_
      refine lv_goto (tgt := 144) hx hb dX9_space_140 (by decide) ?_
      refine lv_iadd hx hb dX9_space_144 ?_
      refine tpi (y := 192) (by decide) ?_
      refine lv_istore_n (lv' := [(2, .int 192), (3, .int 2), (0, .ref md), (1, .int 4)]) hx hb dX9_space_145 rfl hl (by decide) rfl (fun ls hl => ?_)
      refine lv_iinc (v := 3) (lv' := [(3, .int 3), (2, .int 192), (0, .ref md), (1, .int 4)]) hx hb dX9_space_146 hl (k := 1) rfl (by decide) (by decide) rfl (fun ls hl => ?_)
      refine lv_goto (tgt := 24) hx hb dX9_space_149 (by decide) ?_
      refine lv_iload_n hx hb dX9_space_24 rfl (lv_at hl 0 rfl) ?_
      refine lv_bipush (v := 24) hx hb dX9_space_25 (by decide) ?_
      refine lv_icmp_ge (tgt := 152) hx hb dX9_space_27 (by decide) (fun c_631 => absurd c_631 (by decide)) (fun c_631 => ?_)
      refine lv_iload_n hx hb dX9_space_30 rfl (lv_at hl 3 rfl) ?_
      refine lv_tableOut (tgt := 129) hx hb dX9_space_31 (by decide) (by decide) ?_
      refine lv_iload_n hx hb dX9_space_129 rfl (lv_at hl 1 rfl) ?_
      refine lv_aload_n hx hb dX9_space_130 rfl (lv_at hl 2 rfl) ?_
      refine lv_iload_n hx hb dX9_space_131 rfl (lv_at hl 0 rfl) ?_
      refine kV_i (ci := 9) (As := [.int 3]) (rest := [.int 192]) (wc := [(md, .inr (9, [.int 0, .ref m_all, .ref m_deeds, .ref m_trial, .int 0, .ref m_hasImage, .ref m_tape, .ref m_key, .ref m_answered, .int 0, .int 0, .int 0, .ref m_goes, .int 0, .ref m_hotOnes, .ref m_indexed, .ref m_isChanged, .int 0, .ref m_valueNow, .int 0, .int (-1), .int 0, .ref m_didSome, .ref m_sizes, .ref m_ends])), (m_all, aI cs 51207 f_m_all)]) (wr := []) hx hb hml hown hu hK hP hD hS hA hl.1 (c_X9_isFree l D cs H.size 3 md m_all f_m_all m_deeds m_trial m_hasImage m_tape m_key m_answered m_goes m_hotOnes m_indexed m_isChanged m_valueNow m_didSome m_sizes m_ends 0 0 0 z_all (by first | decide | grind)) (gV u_1188 u_1190 u_13 u_76 u_1191) hd_X9_isFree ⟨(Nat.le_of_ble_eq_true rfl), (Nat.le_of_ble_eq_true rfl)⟩ [0, 1] [] rfl rfl rfl rfl (by decide) rfl 0 rfl rfl rfl (Nat.le_of_ble_eq_true rfl) dX9_space_132 ⟨(Nat.le_of_ble_eq_true rfl), (Nat.le_of_ble_eq_true rfl)⟩ (fun r_632 ut_633 H locs hw_634 hP hD hS => ?_)
      have hP : va_P D vwCl [(md, .inr (9, [.int 0, .ref m_all, .ref m_deeds, .ref m_trial, .int 0, .ref m_hasImage, .ref m_tape, .ref m_key, .ref m_answered, .int 0, .int 0, .int 0, .ref m_goes, .int 0, .ref m_hotOnes, .ref m_indexed, .ref m_isChanged, .int 0, .ref m_valueNow, .int 0, .int (-1), .int 0, .ref m_didSome, .ref m_sizes, .ref m_ends])), (m_all, aI cs 51207 f_m_all)] H := hP
      have hD : va_D A [(md, .inr (9, [.int 0, .ref m_all, .ref m_deeds, .ref m_trial, .int 0, .ref m_hasImage, .ref m_tape, .ref m_key, .ref m_answered, .int 0, .int 0, .int 0, .ref m_goes, .int 0, .ref m_hotOnes, .ref m_indexed, .ref m_isChanged, .int 0, .ref m_valueNow, .int 0, .int (-1), .int 0, .ref m_didSome, .ref m_sizes, .ref m_ends])), (m_all, aI cs 51207 f_m_all)] := hD
      have er_635 := hw_634
      subst er_635
      refine lv_if_eq (tgt := 143) hx hb dX9_space_135 (by decide) (fun c_636 => absurd c_636 (by decide)) (fun c_636 => ?_)
      refine lv_bipush (v := 64) hx hb dX9_space_138 (by decide) ?_
      refine lv_goto (tgt := 144) hx hb dX9_space_140 (by decide) ?_
      refine lv_iadd hx hb dX9_space_144 ?_
      refine tpi (y := 256) (by decide) ?_
      refine lv_istore_n (lv' := [(2, .int 256), (3, .int 3), (0, .ref md), (1, .int 4)]) hx hb dX9_space_145 rfl hl (by decide) rfl (fun ls hl => ?_)
      refine lv_iinc (v := 4) (lv' := [(3, .int 4), (2, .int 256), (0, .ref md), (1, .int 4)]) hx hb dX9_space_146 hl (k := 1) rfl (by decide) (by decide) rfl (fun ls hl => ?_)
      refine lv_goto (tgt := 24) hx hb dX9_space_149 (by decide) ?_
      refine lv_iload_n hx hb dX9_space_24 rfl (lv_at hl 0 rfl) ?_
      refine lv_bipush (v := 24) hx hb dX9_space_25 (by decide) ?_
      refine lv_icmp_ge (tgt := 152) hx hb dX9_space_27 (by decide) (fun c_637 => absurd c_637 (by decide)) (fun c_637 => ?_)
      refine lv_iload_n hx hb dX9_space_30 rfl (lv_at hl 3 rfl) ?_
      refine lv_tableOut (tgt := 129) hx hb dX9_space_31 (by decide) (by decide) ?_
      refine lv_iload_n hx hb dX9_space_129 rfl (lv_at hl 1 rfl) ?_
      refine lv_aload_n hx hb dX9_space_130 rfl (lv_at hl 2 rfl) ?_
      refine lv_iload_n hx hb dX9_space_131 rfl (lv_at hl 0 rfl) ?_
      refine kV_i (ci := 9) (As := [.int 4]) (rest := [.int 256]) (wc := [(md, .inr (9, [.int 0, .ref m_all, .ref m_deeds, .ref m_trial, .int 0, .ref m_hasImage, .ref m_tape, .ref m_key, .ref m_answered, .int 0, .int 0, .int 0, .ref m_goes, .int 0, .ref m_hotOnes, .ref m_indexed, .ref m_isChanged, .int 0, .ref m_valueNow, .int 0, .int (-1), .int 0, .ref m_didSome, .ref m_sizes, .ref m_ends])), (m_all, aI cs 51207 f_m_all)]) (wr := []) hx hb hml hown hu hK hP hD hS hA hl.1 (c_X9_isFree l D cs H.size 4 md m_all f_m_all m_deeds m_trial m_hasImage m_tape m_key m_answered m_goes m_hotOnes m_indexed m_isChanged m_valueNow m_didSome m_sizes m_ends 0 0 0 z_all (by first | decide | grind)) (gV u_1188 u_1190 u_13 u_76 u_1191) hd_X9_isFree ⟨(Nat.le_of_ble_eq_true rfl), (Nat.le_of_ble_eq_true rfl)⟩ [0, 1] [] rfl rfl rfl rfl (by decide) rfl 0 rfl rfl rfl (Nat.le_of_ble_eq_true rfl) dX9_space_132 ⟨(Nat.le_of_ble_eq_true rfl), (Nat.le_of_ble_eq_true rfl)⟩ (fun r_638 ut_639 H locs hw_640 hP hD hS => ?_)
      have hP : va_P D vwCl [(md, .inr (9, [.int 0, .ref m_all, .ref m_deeds, .ref m_trial, .int 0, .ref m_hasImage, .ref m_tape, .ref m_key, .ref m_answered, .int 0, .int 0, .int 0, .ref m_goes, .int 0, .ref m_hotOnes, .ref m_indexed, .ref m_isChanged, .int 0, .ref m_valueNow, .int 0, .int (-1), .int 0, .ref m_didSome, .ref m_sizes, .ref m_ends])), (m_all, aI cs 51207 f_m_all)] H := hP
      have hD : va_D A [(md, .inr (9, [.int 0, .ref m_all, .ref m_deeds, .ref m_trial, .int 0, .ref m_hasImage, .ref m_tape, .ref m_key, .ref m_answered, .int 0, .int 0, .int 0, .ref m_goes, .int 0, .ref m_hotOnes, .ref m_indexed, .ref m_isChanged, .int 0, .ref m_valueNow, .int 0, .int (-1), .int 0, .ref m_didSome, .ref m_sizes, .ref m_ends])), (m_all, aI cs 51207 f_m_all)] := hD
      have er_641 := hw_640
      subst er_641
      refine lv_if_eq (tgt := 143) hx hb dX9_space_135 (by decide) (fun c_642 => absurd c_642 (by decide)) (fun c_642 => ?_)
      refine lv_bipush (v := 64) hx hb dX9_space_138 (by decide) ?_
      refine lv_goto (tgt := 144) hx hb dX9_space_140 (by decide) ?_
      refine lv_iadd hx hb dX9_space_144 ?_
      refine tpi (y := 320) (by decide) ?_
      refine lv_istore_n (lv' := [(2, .int 320), (3, .int 4), (0, .ref md), (1, .int 4)]) hx hb dX9_space_145 rfl hl (by decide) rfl (fun ls hl => ?_)
      refine lv_iinc (v := 5) (lv' := [(3, .int 5), (2, .int 320), (0, .ref md), (1, .int 4)]) hx hb dX9_space_146 hl (k := 1) rfl (by decide) (by decide) rfl (fun ls hl => ?_)
      refine lv_goto (tgt := 24) hx hb dX9_space_149 (by decide) ?_
      refine lv_iload_n hx hb dX9_space_24 rfl (lv_at hl 0 rfl) ?_
      refine lv_bipush (v := 24) hx hb dX9_space_25 (by decide) ?_
      refine lv_icmp_ge (tgt := 152) hx hb dX9_space_27 (by decide) (fun c_643 => absurd c_643 (by decide)) (fun c_643 => ?_)
      refine lv_iload_n hx hb dX9_space_30 rfl (lv_at hl 3 rfl) ?_
      refine lv_tableOut (tgt := 129) hx hb dX9_space_31 (by decide) (by decide) ?_
      refine lv_iload_n hx hb dX9_space_129 rfl (lv_at hl 1 rfl) ?_
      refine lv_aload_n hx hb dX9_space_130 rfl (lv_at hl 2 rfl) ?_
      refine lv_iload_n hx hb dX9_space_131 rfl (lv_at hl 0 rfl) ?_
      refine kV_i (ci := 9) (As := [.int 5]) (rest := [.int 320]) (wc := [(md, .inr (9, [.int 0, .ref m_all, .ref m_deeds, .ref m_trial, .int 0, .ref m_hasImage, .ref m_tape, .ref m_key, .ref m_answered, .int 0, .int 0, .int 0, .ref m_goes, .int 0, .ref m_hotOnes, .ref m_indexed, .ref m_isChanged, .int 0, .ref m_valueNow, .int 0, .int (-1), .int 0, .ref m_didSome, .ref m_sizes, .ref m_ends])), (m_all, aI cs 51207 f_m_all)]) (wr := []) hx hb hml hown hu hK hP hD hS hA hl.1 (c_X9_isFree l D cs H.size 5 md m_all f_m_all m_deeds m_trial m_hasImage m_tape m_key m_answered m_goes m_hotOnes m_indexed m_isChanged m_valueNow m_didSome m_sizes m_ends 0 0 0 z_all (by first | decide | grind)) (gV u_1188 u_1190 u_13 u_76 u_1191) hd_X9_isFree ⟨(Nat.le_of_ble_eq_true rfl), (Nat.le_of_ble_eq_true rfl)⟩ [0, 1] [] rfl rfl rfl rfl (by decide) rfl 0 rfl rfl rfl (Nat.le_of_ble_eq_true rfl) dX9_space_132 ⟨(Nat.le_of_ble_eq_true rfl), (Nat.le_of_ble_eq_true rfl)⟩ (fun r_644 ut_645 H locs hw_646 hP hD hS => ?_)
      have hP : va_P D vwCl [(md, .inr (9, [.int 0, .ref m_all, .ref m_deeds, .ref m_trial, .int 0, .ref m_hasImage, .ref m_tape, .ref m_key, .ref m_answered, .int 0, .int 0, .int 0, .ref m_goes, .int 0, .ref m_hotOnes, .ref m_indexed, .ref m_isChanged, .int 0, .ref m_valueNow, .int 0, .int (-1), .int 0, .ref m_didSome, .ref m_sizes, .ref m_ends])), (m_all, aI cs 51207 f_m_all)] H := hP
      have hD : va_D A [(md, .inr (9, [.int 0, .ref m_all, .ref m_deeds, .ref m_trial, .int 0, .ref m_hasImage, .ref m_tape, .ref m_key, .ref m_answered, .int 0, .int 0, .int 0, .ref m_goes, .int 0, .ref m_hotOnes, .ref m_indexed, .ref m_isChanged, .int 0, .ref m_valueNow, .int 0, .int (-1), .int 0, .ref m_didSome, .ref m_sizes, .ref m_ends])), (m_all, aI cs 51207 f_m_all)] := hD
      have er_647 := hw_646
      subst er_647
      refine lv_if_eq (tgt := 143) hx hb dX9_space_135 (by decide) (fun c_648 => absurd c_648 (by decide)) (fun c_648 => ?_)
      refine lv_bipush (v := 64) hx hb dX9_space_138 (by decide) ?_
      refine lv_goto (tgt := 144) hx hb dX9_space_140 (by decide) ?_
      refine lv_iadd hx hb dX9_space_144 ?_
      refine tpi (y := 384) (by decide) ?_
      refine lv_istore_n (lv' := [(2, .int 384), (3, .int 5), (0, .ref md), (1, .int 4)]) hx hb dX9_space_145 rfl hl (by decide) rfl (fun ls hl => ?_)
      refine lv_iinc (v := 6) (lv' := [(3, .int 6), (2, .int 384), (0, .ref md), (1, .int 4)]) hx hb dX9_space_146 hl (k := 1) rfl (by decide) (by decide) rfl (fun ls hl => ?_)
      refine lv_goto (tgt := 24) hx hb dX9_space_149 (by decide) ?_
      refine lv_iload_n hx hb dX9_space_24 rfl (lv_at hl 0 rfl) ?_
      refine lv_bipush (v := 24) hx hb dX9_space_25 (by decide) ?_
      refine lv_icmp_ge (tgt := 152) hx hb dX9_space_27 (by decide) (fun c_649 => absurd c_649 (by decide)) (fun c_649 => ?_)
      refine lv_iload_n hx hb dX9_space_30 rfl (lv_at hl 3 rfl) ?_
      refine lv_tableOut (tgt := 129) hx hb dX9_space_31 (by decide) (by decide) ?_
      refine lv_iload_n hx hb dX9_space_129 rfl (lv_at hl 1 rfl) ?_
      refine lv_aload_n hx hb dX9_space_130 rfl (lv_at hl 2 rfl) ?_
      refine lv_iload_n hx hb dX9_space_131 rfl (lv_at hl 0 rfl) ?_
      refine kV_i (ci := 9) (As := [.int 6]) (rest := [.int 384]) (wc := [(md, .inr (9, [.int 0, .ref m_all, .ref m_deeds, .ref m_trial, .int 0, .ref m_hasImage, .ref m_tape, .ref m_key, .ref m_answered, .int 0, .int 0, .int 0, .ref m_goes, .int 0, .ref m_hotOnes, .ref m_indexed, .ref m_isChanged, .int 0, .ref m_valueNow, .int 0, .int (-1), .int 0, .ref m_didSome, .ref m_sizes, .ref m_ends])), (m_all, aI cs 51207 f_m_all)]) (wr := []) hx hb hml hown hu hK hP hD hS hA hl.1 (c_X9_isFree l D cs H.size 6 md m_all f_m_all m_deeds m_trial m_hasImage m_tape m_key m_answered m_goes m_hotOnes m_indexed m_isChanged m_valueNow m_didSome m_sizes m_ends 0 0 0 z_all (by first | decide | grind)) (gV u_1188 u_1190 u_13 u_76 u_1191) hd_X9_isFree ⟨(Nat.le_of_ble_eq_true rfl), (Nat.le_of_ble_eq_true rfl)⟩ [0, 1] [] rfl rfl rfl rfl (by decide) rfl 0 rfl rfl rfl (Nat.le_of_ble_eq_true rfl) dX9_space_132 ⟨(Nat.le_of_ble_eq_true rfl), (Nat.le_of_ble_eq_true rfl)⟩ (fun r_650 ut_651 H locs hw_652 hP hD hS => ?_)
      have hP : va_P D vwCl [(md, .inr (9, [.int 0, .ref m_all, .ref m_deeds, .ref m_trial, .int 0, .ref m_hasImage, .ref m_tape, .ref m_key, .ref m_answered, .int 0, .int 0, .int 0, .ref m_goes, .int 0, .ref m_hotOnes, .ref m_indexed, .ref m_isChanged, .int 0, .ref m_valueNow, .int 0, .int (-1), .int 0, .ref m_didSome, .ref m_sizes, .ref m_ends])), (m_all, aI cs 51207 f_m_all)] H := hP
      have hD : va_D A [(md, .inr (9, [.int 0, .ref m_all, .ref m_deeds, .ref m_trial, .int 0, .ref m_hasImage, .ref m_tape, .ref m_key, .ref m_answered, .int 0, .int 0, .int 0, .ref m_goes, .int 0, .ref m_hotOnes, .ref m_indexed, .ref m_isChanged, .int 0, .ref m_valueNow, .int 0, .int (-1), .int 0, .ref m_didSome, .ref m_sizes, .ref m_ends])), (m_all, aI cs 51207 f_m_all)] := hD
      have er_653 := hw_652
      subst er_653
      refine lv_if_eq (tgt := 143) hx hb dX9_space_135 (by decide) (fun c_654 => absurd c_654 (by decide)) (fun c_654 => ?_)
      refine lv_bipush (v := 64) hx hb dX9_space_138 (by decide) ?_
      refine lv_goto (tgt := 144) hx hb dX9_space_140 (by decide) ?_
      refine lv_iadd hx hb dX9_space_144 ?_
      refine tpi (y := 448) (by decide) ?_
      refine lv_istore_n (lv' := [(2, .int 448), (3, .int 6), (0, .ref md), (1, .int 4)]) hx hb dX9_space_145 rfl hl (by decide) rfl (fun ls hl => ?_)
      refine lv_iinc (v := 7) (lv' := [(3, .int 7), (2, .int 448), (0, .ref md), (1, .int 4)]) hx hb dX9_space_146 hl (k := 1) rfl (by decide) (by decide) rfl (fun ls hl => ?_)
      refine lv_goto (tgt := 24) hx hb dX9_space_149 (by decide) ?_
      refine lv_iload_n hx hb dX9_space_24 rfl (lv_at hl 0 rfl) ?_
      refine lv_bipush (v := 24) hx hb dX9_space_25 (by decide) ?_
      refine lv_icmp_ge (tgt := 152) hx hb dX9_space_27 (by decide) (fun c_655 => absurd c_655 (by decide)) (fun c_655 => ?_)
      refine lv_iload_n hx hb dX9_space_30 rfl (lv_at hl 3 rfl) ?_
      refine lv_tableOut (tgt := 129) hx hb dX9_space_31 (by decide) (by decide) ?_
      refine lv_iload_n hx hb dX9_space_129 rfl (lv_at hl 1 rfl) ?_
      refine lv_aload_n hx hb dX9_space_130 rfl (lv_at hl 2 rfl) ?_
      refine lv_iload_n hx hb dX9_space_131 rfl (lv_at hl 0 rfl) ?_
      refine kV_i (ci := 9) (As := [.int 7]) (rest := [.int 448]) (wc := [(md, .inr (9, [.int 0, .ref m_all, .ref m_deeds, .ref m_trial, .int 0, .ref m_hasImage, .ref m_tape, .ref m_key, .ref m_answered, .int 0, .int 0, .int 0, .ref m_goes, .int 0, .ref m_hotOnes, .ref m_indexed, .ref m_isChanged, .int 0, .ref m_valueNow, .int 0, .int (-1), .int 0, .ref m_didSome, .ref m_sizes, .ref m_ends])), (m_all, aI cs 51207 f_m_all)]) (wr := []) hx hb hml hown hu hK hP hD hS hA hl.1 (c_X9_isFree l D cs H.size 7 md m_all f_m_all m_deeds m_trial m_hasImage m_tape m_key m_answered m_goes m_hotOnes m_indexed m_isChanged m_valueNow m_didSome m_sizes m_ends 0 0 0 z_all (by first | decide | grind)) (gV u_1188 u_1190 u_13 u_76 u_1191) hd_X9_isFree ⟨(Nat.le_of_ble_eq_true rfl), (Nat.le_of_ble_eq_true rfl)⟩ [0, 1] [] rfl rfl rfl rfl (by decide) rfl 0 rfl rfl rfl (Nat.le_of_ble_eq_true rfl) dX9_space_132 ⟨(Nat.le_of_ble_eq_true rfl), (Nat.le_of_ble_eq_true rfl)⟩ (fun r_656 ut_657 H locs hw_658 hP hD hS => ?_)
      have hP : va_P D vwCl [(md, .inr (9, [.int 0, .ref m_all, .ref m_deeds, .ref m_trial, .int 0, .ref m_hasImage, .ref m_tape, .ref m_key, .ref m_answered, .int 0, .int 0, .int 0, .ref m_goes, .int 0, .ref m_hotOnes, .ref m_indexed, .ref m_isChanged, .int 0, .ref m_valueNow, .int 0, .int (-1), .int 0, .ref m_didSome, .ref m_sizes, .ref m_ends])), (m_all, aI cs 51207 f_m_all)] H := hP
      have hD : va_D A [(md, .inr (9, [.int 0, .ref m_all, .ref m_deeds, .ref m_trial, .int 0, .ref m_hasImage, .ref m_tape, .ref m_key, .ref m_answered, .int 0, .int 0, .int 0, .ref m_goes, .int 0, .ref m_hotOnes, .ref m_indexed, .ref m_isChanged, .int 0, .ref m_valueNow, .int 0, .int (-1), .int 0, .ref m_didSome, .ref m_sizes, .ref m_ends])), (m_all, aI cs 51207 f_m_all)] := hD
      have er_659 := hw_658
      subst er_659
      refine lv_if_eq (tgt := 143) hx hb dX9_space_135 (by decide) (fun c_660 => absurd c_660 (by decide)) (fun c_660 => ?_)
      refine lv_bipush (v := 64) hx hb dX9_space_138 (by decide) ?_
      refine lv_goto (tgt := 144) hx hb dX9_space_140 (by decide) ?_
      refine lv_iadd hx hb dX9_space_144 ?_
      refine tpi (y := 512) (by decide) ?_
      refine lv_istore_n (lv' := [(2, .int 512), (3, .int 7), (0, .ref md), (1, .int 4)]) hx hb dX9_space_145 rfl hl (by decide) rfl (fun ls hl => ?_)
      refine lv_iinc (v := 8) (lv' := [(3, .int 8), (2, .int 512), (0, .ref md), (1, .int 4)]) hx hb dX9_space_146 hl (k := 1) rfl (by decide) (by decide) rfl (fun ls hl => ?_)
      refine lv_goto (tgt := 24) hx hb dX9_space_149 (by decide) ?_
      refine lv_iload_n hx hb dX9_space_24 rfl (lv_at hl 0 rfl) ?_
      refine lv_bipush (v := 24) hx hb dX9_space_25 (by decide) ?_
      refine lv_icmp_ge (tgt := 152) hx hb dX9_space_27 (by decide) (fun c_661 => absurd c_661 (by decide)) (fun c_661 => ?_)
      refine lv_iload_n hx hb dX9_space_30 rfl (lv_at hl 3 rfl) ?_
      refine lv_tableOut (tgt := 129) hx hb dX9_space_31 (by decide) (by decide) ?_
      refine lv_iload_n hx hb dX9_space_129 rfl (lv_at hl 1 rfl) ?_
      refine lv_aload_n hx hb dX9_space_130 rfl (lv_at hl 2 rfl) ?_
      refine lv_iload_n hx hb dX9_space_131 rfl (lv_at hl 0 rfl) ?_
      refine kV_i (ci := 9) (As := [.int 8]) (rest := [.int 512]) (wc := [(md, .inr (9, [.int 0, .ref m_all, .ref m_deeds, .ref m_trial, .int 0, .ref m_hasImage, .ref m_tape, .ref m_key, .ref m_answered, .int 0, .int 0, .int 0, .ref m_goes, .int 0, .ref m_hotOnes, .ref m_indexed, .ref m_isChanged, .int 0, .ref m_valueNow, .int 0, .int (-1), .int 0, .ref m_didSome, .ref m_sizes, .ref m_ends])), (m_all, aI cs 51207 f_m_all)]) (wr := []) hx hb hml hown hu hK hP hD hS hA hl.1 (c_X9_isFree l D cs H.size 8 md m_all f_m_all m_deeds m_trial m_hasImage m_tape m_key m_answered m_goes m_hotOnes m_indexed m_isChanged m_valueNow m_didSome m_sizes m_ends 0 0 0 z_all (by first | decide | grind)) (gV u_1188 u_1190 u_13 u_76 u_1191) hd_X9_isFree ⟨(Nat.le_of_ble_eq_true rfl), (Nat.le_of_ble_eq_true rfl)⟩ [0, 1] [] rfl rfl rfl rfl (by decide) rfl 0 rfl rfl rfl (Nat.le_of_ble_eq_true rfl) dX9_space_132 ⟨(Nat.le_of_ble_eq_true rfl), (Nat.le_of_ble_eq_true rfl)⟩ (fun r_662 ut_663 H locs hw_664 hP hD hS => ?_)
      have hP : va_P D vwCl [(md, .inr (9, [.int 0, .ref m_all, .ref m_deeds, .ref m_trial, .int 0, .ref m_hasImage, .ref m_tape, .ref m_key, .ref m_answered, .int 0, .int 0, .int 0, .ref m_goes, .int 0, .ref m_hotOnes, .ref m_indexed, .ref m_isChanged, .int 0, .ref m_valueNow, .int 0, .int (-1), .int 0, .ref m_didSome, .ref m_sizes, .ref m_ends])), (m_all, aI cs 51207 f_m_all)] H := hP
      have hD : va_D A [(md, .inr (9, [.int 0, .ref m_all, .ref m_deeds, .ref m_trial, .int 0, .ref m_hasImage, .ref m_tape, .ref m_key, .ref m_answered, .int 0, .int 0, .int 0, .ref m_goes, .int 0, .ref m_hotOnes, .ref m_indexed, .ref m_isChanged, .int 0, .ref m_valueNow, .int 0, .int (-1), .int 0, .ref m_didSome, .ref m_sizes, .ref m_ends])), (m_all, aI cs 51207 f_m_all)] := hD
      have er_665 := hw_664
      subst er_665
      refine lv_if_eq (tgt := 143) hx hb dX9_space_135 (by decide) (fun c_666 => absurd c_666 (by decide)) (fun c_666 => ?_)
      refine lv_bipush (v := 64) hx hb dX9_space_138 (by decide) ?_
      refine lv_goto (tgt := 144) hx hb dX9_space_140 (by decide) ?_
      refine lv_iadd hx hb dX9_space_144 ?_
      refine tpi (y := 576) (by decide) ?_
      refine lv_istore_n (lv' := [(2, .int 576), (3, .int 8), (0, .ref md), (1, .int 4)]) hx hb dX9_space_145 rfl hl (by decide) rfl (fun ls hl => ?_)
      refine lv_iinc (v := 9) (lv' := [(3, .int 9), (2, .int 576), (0, .ref md), (1, .int 4)]) hx hb dX9_space_146 hl (k := 1) rfl (by decide) (by decide) rfl (fun ls hl => ?_)
      refine lv_goto (tgt := 24) hx hb dX9_space_149 (by decide) ?_
      refine lv_iload_n hx hb dX9_space_24 rfl (lv_at hl 0 rfl) ?_
      refine lv_bipush (v := 24) hx hb dX9_space_25 (by decide) ?_
      refine lv_icmp_ge (tgt := 152) hx hb dX9_space_27 (by decide) (fun c_667 => absurd c_667 (by decide)) (fun c_667 => ?_)
      refine lv_iload_n hx hb dX9_space_30 rfl (lv_at hl 3 rfl) ?_
      refine lv_tableOut (tgt := 129) hx hb dX9_space_31 (by decide) (by decide) ?_
      refine lv_iload_n hx hb dX9_space_129 rfl (lv_at hl 1 rfl) ?_
      refine lv_aload_n hx hb dX9_space_130 rfl (lv_at hl 2 rfl) ?_
      refine lv_iload_n hx hb dX9_space_131 rfl (lv_at hl 0 rfl) ?_
      refine kV_i (ci := 9) (As := [.int 9]) (rest := [.int 576]) (wc := [(md, .inr (9, [.int 0, .ref m_all, .ref m_deeds, .ref m_trial, .int 0, .ref m_hasImage, .ref m_tape, .ref m_key, .ref m_answered, .int 0, .int 0, .int 0, .ref m_goes, .int 0, .ref m_hotOnes, .ref m_indexed, .ref m_isChanged, .int 0, .ref m_valueNow, .int 0, .int (-1), .int 0, .ref m_didSome, .ref m_sizes, .ref m_ends])), (m_all, aI cs 51207 f_m_all)]) (wr := []) hx hb hml hown hu hK hP hD hS hA hl.1 (c_X9_isFree l D cs H.size 9 md m_all f_m_all m_deeds m_trial m_hasImage m_tape m_key m_answered m_goes m_hotOnes m_indexed m_isChanged m_valueNow m_didSome m_sizes m_ends 0 0 0 z_all (by first | decide | grind)) (gV u_1188 u_1190 u_13 u_76 u_1191) hd_X9_isFree ⟨(Nat.le_of_ble_eq_true rfl), (Nat.le_of_ble_eq_true rfl)⟩ [0, 1] [] rfl rfl rfl rfl (by decide) rfl 0 rfl rfl rfl (Nat.le_of_ble_eq_true rfl) dX9_space_132 ⟨(Nat.le_of_ble_eq_true rfl), (Nat.le_of_ble_eq_true rfl)⟩ (fun r_668 ut_669 H locs hw_670 hP hD hS => ?_)
      have hP : va_P D vwCl [(md, .inr (9, [.int 0, .ref m_all, .ref m_deeds, .ref m_trial, .int 0, .ref m_hasImage, .ref m_tape, .ref m_key, .ref m_answered, .int 0, .int 0, .int 0, .ref m_goes, .int 0, .ref m_hotOnes, .ref m_indexed, .ref m_isChanged, .int 0, .ref m_valueNow, .int 0, .int (-1), .int 0, .ref m_didSome, .ref m_sizes, .ref m_ends])), (m_all, aI cs 51207 f_m_all)] H := hP
      have hD : va_D A [(md, .inr (9, [.int 0, .ref m_all, .ref m_deeds, .ref m_trial, .int 0, .ref m_hasImage, .ref m_tape, .ref m_key, .ref m_answered, .int 0, .int 0, .int 0, .ref m_goes, .int 0, .ref m_hotOnes, .ref m_indexed, .ref m_isChanged, .int 0, .ref m_valueNow, .int 0, .int (-1), .int 0, .ref m_didSome, .ref m_sizes, .ref m_ends])), (m_all, aI cs 51207 f_m_all)] := hD
      have er_671 := hw_670
      subst er_671
      refine lv_if_eq (tgt := 143) hx hb dX9_space_135 (by decide) (fun c_672 => absurd c_672 (by decide)) (fun c_672 => ?_)
      refine lv_bipush (v := 64) hx hb dX9_space_138 (by decide) ?_
      refine lv_goto (tgt := 144) hx hb dX9_space_140 (by decide) ?_
      refine lv_iadd hx hb dX9_space_144 ?_
      refine tpi (y := 640) (by decide) ?_
      refine lv_istore_n (lv' := [(2, .int 640), (3, .int 9), (0, .ref md), (1, .int 4)]) hx hb dX9_space_145 rfl hl (by decide) rfl (fun ls hl => ?_)
      refine lv_iinc (v := 10) (lv' := [(3, .int 10), (2, .int 640), (0, .ref md), (1, .int 4)]) hx hb dX9_space_146 hl (k := 1) rfl (by decide) (by decide) rfl (fun ls hl => ?_)
      refine lv_goto (tgt := 24) hx hb dX9_space_149 (by decide) ?_
      refine lv_iload_n hx hb dX9_space_24 rfl (lv_at hl 0 rfl) ?_
      refine lv_bipush (v := 24) hx hb dX9_space_25 (by decide) ?_
      refine lv_icmp_ge (tgt := 152) hx hb dX9_space_27 (by decide) (fun c_673 => absurd c_673 (by decide)) (fun c_673 => ?_)
      refine lv_iload_n hx hb dX9_space_30 rfl (lv_at hl 3 rfl) ?_
      refine lv_tableOut (tgt := 129) hx hb dX9_space_31 (by decide) (by decide) ?_
      refine lv_iload_n hx hb dX9_space_129 rfl (lv_at hl 1 rfl) ?_
      refine lv_aload_n hx hb dX9_space_130 rfl (lv_at hl 2 rfl) ?_
      refine lv_iload_n hx hb dX9_space_131 rfl (lv_at hl 0 rfl) ?_
      refine kV_i (ci := 9) (As := [.int 10]) (rest := [.int 640]) (wc := [(md, .inr (9, [.int 0, .ref m_all, .ref m_deeds, .ref m_trial, .int 0, .ref m_hasImage, .ref m_tape, .ref m_key, .ref m_answered, .int 0, .int 0, .int 0, .ref m_goes, .int 0, .ref m_hotOnes, .ref m_indexed, .ref m_isChanged, .int 0, .ref m_valueNow, .int 0, .int (-1), .int 0, .ref m_didSome, .ref m_sizes, .ref m_ends])), (m_all, aI cs 51207 f_m_all)]) (wr := []) hx hb hml hown hu hK hP hD hS hA hl.1 (c_X9_isFree l D cs H.size 10 md m_all f_m_all m_deeds m_trial m_hasImage m_tape m_key m_answered m_goes m_hotOnes m_indexed m_isChanged m_valueNow m_didSome m_sizes m_ends 0 0 0 z_all (by first | decide | grind)) (gV u_1188 u_1190 u_13 u_76 u_1191) hd_X9_isFree ⟨(Nat.le_of_ble_eq_true rfl), (Nat.le_of_ble_eq_true rfl)⟩ [0, 1] [] rfl rfl rfl rfl (by decide) rfl 0 rfl rfl rfl (Nat.le_of_ble_eq_true rfl) dX9_space_132 ⟨(Nat.le_of_ble_eq_true rfl), (Nat.le_of_ble_eq_true rfl)⟩ (fun r_674 ut_675 H locs hw_676 hP hD hS => ?_)
      have hP : va_P D vwCl [(md, .inr (9, [.int 0, .ref m_all, .ref m_deeds, .ref m_trial, .int 0, .ref m_hasImage, .ref m_tape, .ref m_key, .ref m_answered, .int 0, .int 0, .int 0, .ref m_goes, .int 0, .ref m_hotOnes, .ref m_indexed, .ref m_isChanged, .int 0, .ref m_valueNow, .int 0, .int (-1), .int 0, .ref m_didSome, .ref m_sizes, .ref m_ends])), (m_all, aI cs 51207 f_m_all)] H := hP
      have hD : va_D A [(md, .inr (9, [.int 0, .ref m_all, .ref m_deeds, .ref m_trial, .int 0, .ref m_hasImage, .ref m_tape, .ref m_key, .ref m_answered, .int 0, .int 0, .int 0, .ref m_goes, .int 0, .ref m_hotOnes, .ref m_indexed, .ref m_isChanged, .int 0, .ref m_valueNow, .int 0, .int (-1), .int 0, .ref m_didSome, .ref m_sizes, .ref m_ends])), (m_all, aI cs 51207 f_m_all)] := hD
      have er_677 := hw_676
      subst er_677
      refine lv_if_eq (tgt := 143) hx hb dX9_space_135 (by decide) (fun c_678 => absurd c_678 (by decide)) (fun c_678 => ?_)
      refine lv_bipush (v := 64) hx hb dX9_space_138 (by decide) ?_
      refine lv_goto (tgt := 144) hx hb dX9_space_140 (by decide) ?_
      refine lv_iadd hx hb dX9_space_144 ?_
      refine tpi (y := 704) (by decide) ?_
      refine lv_istore_n (lv' := [(2, .int 704), (3, .int 10), (0, .ref md), (1, .int 4)]) hx hb dX9_space_145 rfl hl (by decide) rfl (fun ls hl => ?_)
      refine lv_iinc (v := 11) (lv' := [(3, .int 11), (2, .int 704), (0, .ref md), (1, .int 4)]) hx hb dX9_space_146 hl (k := 1) rfl (by decide) (by decide) rfl (fun ls hl => ?_)
      refine lv_goto (tgt := 24) hx hb dX9_space_149 (by decide) ?_
      refine lv_iload_n hx hb dX9_space_24 rfl (lv_at hl 0 rfl) ?_
      refine lv_bipush (v := 24) hx hb dX9_space_25 (by decide) ?_
      refine lv_icmp_ge (tgt := 152) hx hb dX9_space_27 (by decide) (fun c_679 => absurd c_679 (by decide)) (fun c_679 => ?_)
      refine lv_iload_n hx hb dX9_space_30 rfl (lv_at hl 3 rfl) ?_
      refine lv_tableOut (tgt := 129) hx hb dX9_space_31 (by decide) (by decide) ?_
      refine lv_iload_n hx hb dX9_space_129 rfl (lv_at hl 1 rfl) ?_
      refine lv_aload_n hx hb dX9_space_130 rfl (lv_at hl 2 rfl) ?_
      refine lv_iload_n hx hb dX9_space_131 rfl (lv_at hl 0 rfl) ?_
      refine kV_i (ci := 9) (As := [.int 11]) (rest := [.int 704]) (wc := [(md, .inr (9, [.int 0, .ref m_all, .ref m_deeds, .ref m_trial, .int 0, .ref m_hasImage, .ref m_tape, .ref m_key, .ref m_answered, .int 0, .int 0, .int 0, .ref m_goes, .int 0, .ref m_hotOnes, .ref m_indexed, .ref m_isChanged, .int 0, .ref m_valueNow, .int 0, .int (-1), .int 0, .ref m_didSome, .ref m_sizes, .ref m_ends])), (m_all, aI cs 51207 f_m_all)]) (wr := []) hx hb hml hown hu hK hP hD hS hA hl.1 (c_X9_isFree l D cs H.size 11 md m_all f_m_all m_deeds m_trial m_hasImage m_tape m_key m_answered m_goes m_hotOnes m_indexed m_isChanged m_valueNow m_didSome m_sizes m_ends 0 0 0 z_all (by first | decide | grind)) (gV u_1188 u_1190 u_13 u_76 u_1191) hd_X9_isFree ⟨(Nat.le_of_ble_eq_true rfl), (Nat.le_of_ble_eq_true rfl)⟩ [0, 1] [] rfl rfl rfl rfl (by decide) rfl 0 rfl rfl rfl (Nat.le_of_ble_eq_true rfl) dX9_space_132 ⟨(Nat.le_of_ble_eq_true rfl), (Nat.le_of_ble_eq_true rfl)⟩ (fun r_680 ut_681 H locs hw_682 hP hD hS => ?_)
      have hP : va_P D vwCl [(md, .inr (9, [.int 0, .ref m_all, .ref m_deeds, .ref m_trial, .int 0, .ref m_hasImage, .ref m_tape, .ref m_key, .ref m_answered, .int 0, .int 0, .int 0, .ref m_goes, .int 0, .ref m_hotOnes, .ref m_indexed, .ref m_isChanged, .int 0, .ref m_valueNow, .int 0, .int (-1), .int 0, .ref m_didSome, .ref m_sizes, .ref m_ends])), (m_all, aI cs 51207 f_m_all)] H := hP
      have hD : va_D A [(md, .inr (9, [.int 0, .ref m_all, .ref m_deeds, .ref m_trial, .int 0, .ref m_hasImage, .ref m_tape, .ref m_key, .ref m_answered, .int 0, .int 0, .int 0, .ref m_goes, .int 0, .ref m_hotOnes, .ref m_indexed, .ref m_isChanged, .int 0, .ref m_valueNow, .int 0, .int (-1), .int 0, .ref m_didSome, .ref m_sizes, .ref m_ends])), (m_all, aI cs 51207 f_m_all)] := hD
      have er_683 := hw_682
      subst er_683
      refine lv_if_eq (tgt := 143) hx hb dX9_space_135 (by decide) (fun c_684 => absurd c_684 (by decide)) (fun c_684 => ?_)
      refine lv_bipush (v := 64) hx hb dX9_space_138 (by decide) ?_
      refine lv_goto (tgt := 144) hx hb dX9_space_140 (by decide) ?_
      refine lv_iadd hx hb dX9_space_144 ?_
      refine tpi (y := 768) (by decide) ?_
      refine lv_istore_n (lv' := [(2, .int 768), (3, .int 11), (0, .ref md), (1, .int 4)]) hx hb dX9_space_145 rfl hl (by decide) rfl (fun ls hl => ?_)
      refine lv_iinc (v := 12) (lv' := [(3, .int 12), (2, .int 768), (0, .ref md), (1, .int 4)]) hx hb dX9_space_146 hl (k := 1) rfl (by decide) (by decide) rfl (fun ls hl => ?_)
      refine lv_goto (tgt := 24) hx hb dX9_space_149 (by decide) ?_
      refine lv_iload_n hx hb dX9_space_24 rfl (lv_at hl 0 rfl) ?_
      refine lv_bipush (v := 24) hx hb dX9_space_25 (by decide) ?_
      refine lv_icmp_ge (tgt := 152) hx hb dX9_space_27 (by decide) (fun c_685 => absurd c_685 (by decide)) (fun c_685 => ?_)
      refine lv_iload_n hx hb dX9_space_30 rfl (lv_at hl 3 rfl) ?_
      refine lv_tableOut (tgt := 129) hx hb dX9_space_31 (by decide) (by decide) ?_
      refine lv_iload_n hx hb dX9_space_129 rfl (lv_at hl 1 rfl) ?_
      refine lv_aload_n hx hb dX9_space_130 rfl (lv_at hl 2 rfl) ?_
      refine lv_iload_n hx hb dX9_space_131 rfl (lv_at hl 0 rfl) ?_
      refine kV_i (ci := 9) (As := [.int 12]) (rest := [.int 768]) (wc := [(md, .inr (9, [.int 0, .ref m_all, .ref m_deeds, .ref m_trial, .int 0, .ref m_hasImage, .ref m_tape, .ref m_key, .ref m_answered, .int 0, .int 0, .int 0, .ref m_goes, .int 0, .ref m_hotOnes, .ref m_indexed, .ref m_isChanged, .int 0, .ref m_valueNow, .int 0, .int (-1), .int 0, .ref m_didSome, .ref m_sizes, .ref m_ends])), (m_all, aI cs 51207 f_m_all)]) (wr := []) hx hb hml hown hu hK hP hD hS hA hl.1 (c_X9_isFree l D cs H.size 12 md m_all f_m_all m_deeds m_trial m_hasImage m_tape m_key m_answered m_goes m_hotOnes m_indexed m_isChanged m_valueNow m_didSome m_sizes m_ends 0 0 0 z_all (by first | decide | grind)) (gV u_1188 u_1190 u_13 u_76 u_1191) hd_X9_isFree ⟨(Nat.le_of_ble_eq_true rfl), (Nat.le_of_ble_eq_true rfl)⟩ [0, 1] [] rfl rfl rfl rfl (by decide) rfl 0 rfl rfl rfl (Nat.le_of_ble_eq_true rfl) dX9_space_132 ⟨(Nat.le_of_ble_eq_true rfl), (Nat.le_of_ble_eq_true rfl)⟩ (fun r_686 ut_687 H locs hw_688 hP hD hS => ?_)
      have hP : va_P D vwCl [(md, .inr (9, [.int 0, .ref m_all, .ref m_deeds, .ref m_trial, .int 0, .ref m_hasImage, .ref m_tape, .ref m_key, .ref m_answered, .int 0, .int 0, .int 0, .ref m_goes, .int 0, .ref m_hotOnes, .ref m_indexed, .ref m_isChanged, .int 0, .ref m_valueNow, .int 0, .int (-1), .int 0, .ref m_didSome, .ref m_sizes, .ref m_ends])), (m_all, aI cs 51207 f_m_all)] H := hP
      have hD : va_D A [(md, .inr (9, [.int 0, .ref m_all, .ref m_deeds, .ref m_trial, .int 0, .ref m_hasImage, .ref m_tape, .ref m_key, .ref m_answered, .int 0, .int 0, .int 0, .ref m_goes, .int 0, .ref m_hotOnes, .ref m_indexed, .ref m_isChanged, .int 0, .ref m_valueNow, .int 0, .int (-1), .int 0, .ref m_didSome, .ref m_sizes, .ref m_ends])), (m_all, aI cs 51207 f_m_all)] := hD
      have er_689 := hw_688
      subst er_689
      refine lv_if_eq (tgt := 143) hx hb dX9_space_135 (by decide) (fun c_690 => absurd c_690 (by decide)) (fun c_690 => ?_)
      refine lv_bipush (v := 64) hx hb dX9_space_138 (by decide) ?_
      refine lv_goto (tgt := 144) hx hb dX9_space_140 (by decide) ?_
      refine lv_iadd hx hb dX9_space_144 ?_
      refine tpi (y := 832) (by decide) ?_
      refine lv_istore_n (lv' := [(2, .int 832), (3, .int 12), (0, .ref md), (1, .int 4)]) hx hb dX9_space_145 rfl hl (by decide) rfl (fun ls hl => ?_)
      refine lv_iinc (v := 13) (lv' := [(3, .int 13), (2, .int 832), (0, .ref md), (1, .int 4)]) hx hb dX9_space_146 hl (k := 1) rfl (by decide) (by decide) rfl (fun ls hl => ?_)
      refine lv_goto (tgt := 24) hx hb dX9_space_149 (by decide) ?_
      refine lv_iload_n hx hb dX9_space_24 rfl (lv_at hl 0 rfl) ?_
      refine lv_bipush (v := 24) hx hb dX9_space_25 (by decide) ?_
      refine lv_icmp_ge (tgt := 152) hx hb dX9_space_27 (by decide) (fun c_691 => absurd c_691 (by decide)) (fun c_691 => ?_)
      refine lv_iload_n hx hb dX9_space_30 rfl (lv_at hl 3 rfl) ?_
      refine lv_tableOut (tgt := 129) hx hb dX9_space_31 (by decide) (by decide) ?_
      refine lv_iload_n hx hb dX9_space_129 rfl (lv_at hl 1 rfl) ?_
      refine lv_aload_n hx hb dX9_space_130 rfl (lv_at hl 2 rfl) ?_
      refine lv_iload_n hx hb dX9_space_131 rfl (lv_at hl 0 rfl) ?_
      refine kV_i (ci := 9) (As := [.int 13]) (rest := [.int 832]) (wc := [(md, .inr (9, [.int 0, .ref m_all, .ref m_deeds, .ref m_trial, .int 0, .ref m_hasImage, .ref m_tape, .ref m_key, .ref m_answered, .int 0, .int 0, .int 0, .ref m_goes, .int 0, .ref m_hotOnes, .ref m_indexed, .ref m_isChanged, .int 0, .ref m_valueNow, .int 0, .int (-1), .int 0, .ref m_didSome, .ref m_sizes, .ref m_ends])), (m_all, aI cs 51207 f_m_all)]) (wr := []) hx hb hml hown hu hK hP hD hS hA hl.1 (c_X9_isFree l D cs H.size 13 md m_all f_m_all m_deeds m_trial m_hasImage m_tape m_key m_answered m_goes m_hotOnes m_indexed m_isChanged m_valueNow m_didSome m_sizes m_ends 0 0 0 z_all (by first | decide | grind)) (gV u_1188 u_1190 u_13 u_76 u_1191) hd_X9_isFree ⟨(Nat.le_of_ble_eq_true rfl), (Nat.le_of_ble_eq_true rfl)⟩ [0, 1] [] rfl rfl rfl rfl (by decide) rfl 0 rfl rfl rfl (Nat.le_of_ble_eq_true rfl) dX9_space_132 ⟨(Nat.le_of_ble_eq_true rfl), (Nat.le_of_ble_eq_true rfl)⟩ (fun r_692 ut_693 H locs hw_694 hP hD hS => ?_)
      have hP : va_P D vwCl [(md, .inr (9, [.int 0, .ref m_all, .ref m_deeds, .ref m_trial, .int 0, .ref m_hasImage, .ref m_tape, .ref m_key, .ref m_answered, .int 0, .int 0, .int 0, .ref m_goes, .int 0, .ref m_hotOnes, .ref m_indexed, .ref m_isChanged, .int 0, .ref m_valueNow, .int 0, .int (-1), .int 0, .ref m_didSome, .ref m_sizes, .ref m_ends])), (m_all, aI cs 51207 f_m_all)] H := hP
      have hD : va_D A [(md, .inr (9, [.int 0, .ref m_all, .ref m_deeds, .ref m_trial, .int 0, .ref m_hasImage, .ref m_tape, .ref m_key, .ref m_answered, .int 0, .int 0, .int 0, .ref m_goes, .int 0, .ref m_hotOnes, .ref m_indexed, .ref m_isChanged, .int 0, .ref m_valueNow, .int 0, .int (-1), .int 0, .ref m_didSome, .ref m_sizes, .ref m_ends])), (m_all, aI cs 51207 f_m_all)] := hD
      have er_695 := hw_694
      subst er_695
      refine lv_if_eq (tgt := 143) hx hb dX9_space_135 (by decide) (fun c_696 => absurd c_696 (by decide)) (fun c_696 => ?_)
      refine lv_bipush (v := 64) hx hb dX9_space_138 (by decide) ?_
      refine lv_goto (tgt := 144) hx hb dX9_space_140 (by decide) ?_
      refine lv_iadd hx hb dX9_space_144 ?_
      refine tpi (y := 896) (by decide) ?_
      refine lv_istore_n (lv' := [(2, .int 896), (3, .int 13), (0, .ref md), (1, .int 4)]) hx hb dX9_space_145 rfl hl (by decide) rfl (fun ls hl => ?_)
      refine lv_iinc (v := 14) (lv' := [(3, .int 14), (2, .int 896), (0, .ref md), (1, .int 4)]) hx hb dX9_space_146 hl (k := 1) rfl (by decide) (by decide) rfl (fun ls hl => ?_)
      refine lv_goto (tgt := 24) hx hb dX9_space_149 (by decide) ?_
      refine lv_iload_n hx hb dX9_space_24 rfl (lv_at hl 0 rfl) ?_
      refine lv_bipush (v := 24) hx hb dX9_space_25 (by decide) ?_
      refine lv_icmp_ge (tgt := 152) hx hb dX9_space_27 (by decide) (fun c_697 => absurd c_697 (by decide)) (fun c_697 => ?_)
      refine lv_iload_n hx hb dX9_space_30 rfl (lv_at hl 3 rfl) ?_
      refine lv_tableOut (tgt := 129) hx hb dX9_space_31 (by decide) (by decide) ?_
      refine lv_iload_n hx hb dX9_space_129 rfl (lv_at hl 1 rfl) ?_
      refine lv_aload_n hx hb dX9_space_130 rfl (lv_at hl 2 rfl) ?_
      refine lv_iload_n hx hb dX9_space_131 rfl (lv_at hl 0 rfl) ?_
      refine kV_i (ci := 9) (As := [.int 14]) (rest := [.int 896]) (wc := [(md, .inr (9, [.int 0, .ref m_all, .ref m_deeds, .ref m_trial, .int 0, .ref m_hasImage, .ref m_tape, .ref m_key, .ref m_answered, .int 0, .int 0, .int 0, .ref m_goes, .int 0, .ref m_hotOnes, .ref m_indexed, .ref m_isChanged, .int 0, .ref m_valueNow, .int 0, .int (-1), .int 0, .ref m_didSome, .ref m_sizes, .ref m_ends])), (m_all, aI cs 51207 f_m_all)]) (wr := []) hx hb hml hown hu hK hP hD hS hA hl.1 (c_X9_isFree l D cs H.size 14 md m_all f_m_all m_deeds m_trial m_hasImage m_tape m_key m_answered m_goes m_hotOnes m_indexed m_isChanged m_valueNow m_didSome m_sizes m_ends 0 0 0 z_all (by first | decide | grind)) (gV u_1188 u_1190 u_13 u_76 u_1191) hd_X9_isFree ⟨(Nat.le_of_ble_eq_true rfl), (Nat.le_of_ble_eq_true rfl)⟩ [0, 1] [] rfl rfl rfl rfl (by decide) rfl 0 rfl rfl rfl (Nat.le_of_ble_eq_true rfl) dX9_space_132 ⟨(Nat.le_of_ble_eq_true rfl), (Nat.le_of_ble_eq_true rfl)⟩ (fun r_698 ut_699 H locs hw_700 hP hD hS => ?_)
      have hP : va_P D vwCl [(md, .inr (9, [.int 0, .ref m_all, .ref m_deeds, .ref m_trial, .int 0, .ref m_hasImage, .ref m_tape, .ref m_key, .ref m_answered, .int 0, .int 0, .int 0, .ref m_goes, .int 0, .ref m_hotOnes, .ref m_indexed, .ref m_isChanged, .int 0, .ref m_valueNow, .int 0, .int (-1), .int 0, .ref m_didSome, .ref m_sizes, .ref m_ends])), (m_all, aI cs 51207 f_m_all)] H := hP
      have hD : va_D A [(md, .inr (9, [.int 0, .ref m_all, .ref m_deeds, .ref m_trial, .int 0, .ref m_hasImage, .ref m_tape, .ref m_key, .ref m_answered, .int 0, .int 0, .int 0, .ref m_goes, .int 0, .ref m_hotOnes, .ref m_indexed, .ref m_isChanged, .int 0, .ref m_valueNow, .int 0, .int (-1), .int 0, .ref m_didSome, .ref m_sizes, .ref m_ends])), (m_all, aI cs 51207 f_m_all)] := hD
      have er_701 := hw_700
      subst er_701
      refine lv_if_eq (tgt := 143) hx hb dX9_space_135 (by decide) (fun c_702 => absurd c_702 (by decide)) (fun c_702 => ?_)
      refine lv_bipush (v := 64) hx hb dX9_space_138 (by decide) ?_
      refine lv_goto (tgt := 144) hx hb dX9_space_140 (by decide) ?_
      refine lv_iadd hx hb dX9_space_144 ?_
      refine tpi (y := 960) (by decide) ?_
      refine lv_istore_n (lv' := [(2, .int 960), (3, .int 14), (0, .ref md), (1, .int 4)]) hx hb dX9_space_145 rfl hl (by decide) rfl (fun ls hl => ?_)
      refine lv_iinc (v := 15) (lv' := [(3, .int 15), (2, .int 960), (0, .ref md), (1, .int 4)]) hx hb dX9_space_146 hl (k := 1) rfl (by decide) (by decide) rfl (fun ls hl => ?_)
      refine lv_goto (tgt := 24) hx hb dX9_space_149 (by decide) ?_
      refine lv_iload_n hx hb dX9_space_24 rfl (lv_at hl 0 rfl) ?_
      refine lv_bipush (v := 24) hx hb dX9_space_25 (by decide) ?_
      refine lv_icmp_ge (tgt := 152) hx hb dX9_space_27 (by decide) (fun c_703 => absurd c_703 (by decide)) (fun c_703 => ?_)
      refine lv_iload_n hx hb dX9_space_30 rfl (lv_at hl 3 rfl) ?_
      refine lv_tableOut (tgt := 129) hx hb dX9_space_31 (by decide) (by decide) ?_
      refine lv_iload_n hx hb dX9_space_129 rfl (lv_at hl 1 rfl) ?_
      refine lv_aload_n hx hb dX9_space_130 rfl (lv_at hl 2 rfl) ?_
      refine lv_iload_n hx hb dX9_space_131 rfl (lv_at hl 0 rfl) ?_
      refine kV_i (ci := 9) (As := [.int 15]) (rest := [.int 960]) (wc := [(md, .inr (9, [.int 0, .ref m_all, .ref m_deeds, .ref m_trial, .int 0, .ref m_hasImage, .ref m_tape, .ref m_key, .ref m_answered, .int 0, .int 0, .int 0, .ref m_goes, .int 0, .ref m_hotOnes, .ref m_indexed, .ref m_isChanged, .int 0, .ref m_valueNow, .int 0, .int (-1), .int 0, .ref m_didSome, .ref m_sizes, .ref m_ends])), (m_all, aI cs 51207 f_m_all)]) (wr := []) hx hb hml hown hu hK hP hD hS hA hl.1 (c_X9_isFree l D cs H.size 15 md m_all f_m_all m_deeds m_trial m_hasImage m_tape m_key m_answered m_goes m_hotOnes m_indexed m_isChanged m_valueNow m_didSome m_sizes m_ends 0 0 0 z_all (by first | decide | grind)) (gV u_1188 u_1190 u_13 u_76 u_1191) hd_X9_isFree ⟨(Nat.le_of_ble_eq_true rfl), (Nat.le_of_ble_eq_true rfl)⟩ [0, 1] [] rfl rfl rfl rfl (by decide) rfl 0 rfl rfl rfl (Nat.le_of_ble_eq_true rfl) dX9_space_132 ⟨(Nat.le_of_ble_eq_true rfl), (Nat.le_of_ble_eq_true rfl)⟩ (fun r_704 ut_705 H locs hw_706 hP hD hS => ?_)
      have hP : va_P D vwCl [(md, .inr (9, [.int 0, .ref m_all, .ref m_deeds, .ref m_trial, .int 0, .ref m_hasImage, .ref m_tape, .ref m_key, .ref m_answered, .int 0, .int 0, .int 0, .ref m_goes, .int 0, .ref m_hotOnes, .ref m_indexed, .ref m_isChanged, .int 0, .ref m_valueNow, .int 0, .int (-1), .int 0, .ref m_didSome, .ref m_sizes, .ref m_ends])), (m_all, aI cs 51207 f_m_all)] H := hP
      have hD : va_D A [(md, .inr (9, [.int 0, .ref m_all, .ref m_deeds, .ref m_trial, .int 0, .ref m_hasImage, .ref m_tape, .ref m_key, .ref m_answered, .int 0, .int 0, .int 0, .ref m_goes, .int 0, .ref m_hotOnes, .ref m_indexed, .ref m_isChanged, .int 0, .ref m_valueNow, .int 0, .int (-1), .int 0, .ref m_didSome, .ref m_sizes, .ref m_ends])), (m_all, aI cs 51207 f_m_all)] := hD
      have er_707 := hw_706
      subst er_707
      refine lv_if_eq (tgt := 143) hx hb dX9_space_135 (by decide) (fun c_708 => absurd c_708 (by decide)) (fun c_708 => ?_)
      refine lv_bipush (v := 64) hx hb dX9_space_138 (by decide) ?_
      refine lv_goto (tgt := 144) hx hb dX9_space_140 (by decide) ?_
      refine lv_iadd hx hb dX9_space_144 ?_
      refine tpi (y := 1024) (by decide) ?_
      refine lv_istore_n (lv' := [(2, .int 1024), (3, .int 15), (0, .ref md), (1, .int 4)]) hx hb dX9_space_145 rfl hl (by decide) rfl (fun ls hl => ?_)
      refine lv_iinc (v := 16) (lv' := [(3, .int 16), (2, .int 1024), (0, .ref md), (1, .int 4)]) hx hb dX9_space_146 hl (k := 1) rfl (by decide) (by decide) rfl (fun ls hl => ?_)
      refine lv_goto (tgt := 24) hx hb dX9_space_149 (by decide) ?_
      refine lv_iload_n hx hb dX9_space_24 rfl (lv_at hl 0 rfl) ?_
      refine lv_bipush (v := 24) hx hb dX9_space_25 (by decide) ?_
      refine lv_icmp_ge (tgt := 152) hx hb dX9_space_27 (by decide) (fun c_709 => absurd c_709 (by decide)) (fun c_709 => ?_)
      refine lv_iload_n hx hb dX9_space_30 rfl (lv_at hl 3 rfl) ?_
      refine lv_tableOut (tgt := 129) hx hb dX9_space_31 (by decide) (by decide) ?_
      refine lv_iload_n hx hb dX9_space_129 rfl (lv_at hl 1 rfl) ?_
      refine lv_aload_n hx hb dX9_space_130 rfl (lv_at hl 2 rfl) ?_
      refine lv_iload_n hx hb dX9_space_131 rfl (lv_at hl 0 rfl) ?_
      refine kV_i (ci := 9) (As := [.int 16]) (rest := [.int 1024]) (wc := [(md, .inr (9, [.int 0, .ref m_all, .ref m_deeds, .ref m_trial, .int 0, .ref m_hasImage, .ref m_tape, .ref m_key, .ref m_answered, .int 0, .int 0, .int 0, .ref m_goes, .int 0, .ref m_hotOnes, .ref m_indexed, .ref m_isChanged, .int 0, .ref m_valueNow, .int 0, .int (-1), .int 0, .ref m_didSome, .ref m_sizes, .ref m_ends])), (m_all, aI cs 51207 f_m_all)]) (wr := []) hx hb hml hown hu hK hP hD hS hA hl.1 (c_X9_isFree l D cs H.size 16 md m_all f_m_all m_deeds m_trial m_hasImage m_tape m_key m_answered m_goes m_hotOnes m_indexed m_isChanged m_valueNow m_didSome m_sizes m_ends 0 0 0 z_all (by first | decide | grind)) (gV u_1188 u_1190 u_13 u_76 u_1191) hd_X9_isFree ⟨(Nat.le_of_ble_eq_true rfl), (Nat.le_of_ble_eq_true rfl)⟩ [0, 1] [] rfl rfl rfl rfl (by decide) rfl 0 rfl rfl rfl (Nat.le_of_ble_eq_true rfl) dX9_space_132 ⟨(Nat.le_of_ble_eq_true rfl), (Nat.le_of_ble_eq_true rfl)⟩ (fun r_710 ut_711 H locs hw_712 hP hD hS => ?_)
      have hP : va_P D vwCl [(md, .inr (9, [.int 0, .ref m_all, .ref m_deeds, .ref m_trial, .int 0, .ref m_hasImage, .ref m_tape, .ref m_key, .ref m_answered, .int 0, .int 0, .int 0, .ref m_goes, .int 0, .ref m_hotOnes, .ref m_indexed, .ref m_isChanged, .int 0, .ref m_valueNow, .int 0, .int (-1), .int 0, .ref m_didSome, .ref m_sizes, .ref m_ends])), (m_all, aI cs 51207 f_m_all)] H := hP
      have hD : va_D A [(md, .inr (9, [.int 0, .ref m_all, .ref m_deeds, .ref m_trial, .int 0, .ref m_hasImage, .ref m_tape, .ref m_key, .ref m_answered, .int 0, .int 0, .int 0, .ref m_goes, .int 0, .ref m_hotOnes, .ref m_indexed, .ref m_isChanged, .int 0, .ref m_valueNow, .int 0, .int (-1), .int 0, .ref m_didSome, .ref m_sizes, .ref m_ends])), (m_all, aI cs 51207 f_m_all)] := hD
      have er_713 := hw_712
      subst er_713
      refine lv_if_eq (tgt := 143) hx hb dX9_space_135 (by decide) (fun c_714 => absurd c_714 (by decide)) (fun c_714 => ?_)
      refine lv_bipush (v := 64) hx hb dX9_space_138 (by decide) ?_
      refine lv_goto (tgt := 144) hx hb dX9_space_140 (by decide) ?_
      refine lv_iadd hx hb dX9_space_144 ?_
      refine tpi (y := 1088) (by decide) ?_
      refine lv_istore_n (lv' := [(2, .int 1088), (3, .int 16), (0, .ref md), (1, .int 4)]) hx hb dX9_space_145 rfl hl (by decide) rfl (fun ls hl => ?_)
      refine lv_iinc (v := 17) (lv' := [(3, .int 17), (2, .int 1088), (0, .ref md), (1, .int 4)]) hx hb dX9_space_146 hl (k := 1) rfl (by decide) (by decide) rfl (fun ls hl => ?_)
      refine lv_goto (tgt := 24) hx hb dX9_space_149 (by decide) ?_
      refine lv_iload_n hx hb dX9_space_24 rfl (lv_at hl 0 rfl) ?_
      refine lv_bipush (v := 24) hx hb dX9_space_25 (by decide) ?_
      refine lv_icmp_ge (tgt := 152) hx hb dX9_space_27 (by decide) (fun c_715 => absurd c_715 (by decide)) (fun c_715 => ?_)
      refine lv_iload_n hx hb dX9_space_30 rfl (lv_at hl 3 rfl) ?_
      refine lv_tableOut (tgt := 129) hx hb dX9_space_31 (by decide) (by decide) ?_
      refine lv_iload_n hx hb dX9_space_129 rfl (lv_at hl 1 rfl) ?_
      refine lv_aload_n hx hb dX9_space_130 rfl (lv_at hl 2 rfl) ?_
      refine lv_iload_n hx hb dX9_space_131 rfl (lv_at hl 0 rfl) ?_
      refine kV_i (ci := 9) (As := [.int 17]) (rest := [.int 1088]) (wc := [(md, .inr (9, [.int 0, .ref m_all, .ref m_deeds, .ref m_trial, .int 0, .ref m_hasImage, .ref m_tape, .ref m_key, .ref m_answered, .int 0, .int 0, .int 0, .ref m_goes, .int 0, .ref m_hotOnes, .ref m_indexed, .ref m_isChanged, .int 0, .ref m_valueNow, .int 0, .int (-1), .int 0, .ref m_didSome, .ref m_sizes, .ref m_ends])), (m_all, aI cs 51207 f_m_all)]) (wr := []) hx hb hml hown hu hK hP hD hS hA hl.1 (c_X9_isFree l D cs H.size 17 md m_all f_m_all m_deeds m_trial m_hasImage m_tape m_key m_answered m_goes m_hotOnes m_indexed m_isChanged m_valueNow m_didSome m_sizes m_ends 0 0 0 z_all (by first | decide | grind)) (gV u_1188 u_1190 u_13 u_76 u_1191) hd_X9_isFree ⟨(Nat.le_of_ble_eq_true rfl), (Nat.le_of_ble_eq_true rfl)⟩ [0, 1] [] rfl rfl rfl rfl (by decide) rfl 0 rfl rfl rfl (Nat.le_of_ble_eq_true rfl) dX9_space_132 ⟨(Nat.le_of_ble_eq_true rfl), (Nat.le_of_ble_eq_true rfl)⟩ (fun r_716 ut_717 H locs hw_718 hP hD hS => ?_)
      have hP : va_P D vwCl [(md, .inr (9, [.int 0, .ref m_all, .ref m_deeds, .ref m_trial, .int 0, .ref m_hasImage, .ref m_tape, .ref m_key, .ref m_answered, .int 0, .int 0, .int 0, .ref m_goes, .int 0, .ref m_hotOnes, .ref m_indexed, .ref m_isChanged, .int 0, .ref m_valueNow, .int 0, .int (-1), .int 0, .ref m_didSome, .ref m_sizes, .ref m_ends])), (m_all, aI cs 51207 f_m_all)] H := hP
      have hD : va_D A [(md, .inr (9, [.int 0, .ref m_all, .ref m_deeds, .ref m_trial, .int 0, .ref m_hasImage, .ref m_tape, .ref m_key, .ref m_answered, .int 0, .int 0, .int 0, .ref m_goes, .int 0, .ref m_hotOnes, .ref m_indexed, .ref m_isChanged, .int 0, .ref m_valueNow, .int 0, .int (-1), .int 0, .ref m_didSome, .ref m_sizes, .ref m_ends])), (m_all, aI cs 51207 f_m_all)] := hD
      have er_719 := hw_718
      subst er_719
      refine lv_if_eq (tgt := 143) hx hb dX9_space_135 (by decide) (fun c_720 => absurd c_720 (by decide)) (fun c_720 => ?_)
      refine lv_bipush (v := 64) hx hb dX9_space_138 (by decide) ?_
      refine lv_goto (tgt := 144) hx hb dX9_space_140 (by decide) ?_
      refine lv_iadd hx hb dX9_space_144 ?_
      refine tpi (y := 1152) (by decide) ?_
      refine lv_istore_n (lv' := [(2, .int 1152), (3, .int 17), (0, .ref md), (1, .int 4)]) hx hb dX9_space_145 rfl hl (by decide) rfl (fun ls hl => ?_)
      refine lv_iinc (v := 18) (lv' := [(3, .int 18), (2, .int 1152), (0, .ref md), (1, .int 4)]) hx hb dX9_space_146 hl (k := 1) rfl (by decide) (by decide) rfl (fun ls hl => ?_)
      refine lv_goto (tgt := 24) hx hb dX9_space_149 (by decide) ?_
      refine lv_iload_n hx hb dX9_space_24 rfl (lv_at hl 0 rfl) ?_
      refine lv_bipush (v := 24) hx hb dX9_space_25 (by decide) ?_
      refine lv_icmp_ge (tgt := 152) hx hb dX9_space_27 (by decide) (fun c_721 => absurd c_721 (by decide)) (fun c_721 => ?_)
      refine lv_iload_n hx hb dX9_space_30 rfl (lv_at hl 3 rfl) ?_
      refine lv_tableOut (tgt := 129) hx hb dX9_space_31 (by decide) (by decide) ?_
      refine lv_iload_n hx hb dX9_space_129 rfl (lv_at hl 1 rfl) ?_
      refine lv_aload_n hx hb dX9_space_130 rfl (lv_at hl 2 rfl) ?_
      refine lv_iload_n hx hb dX9_space_131 rfl (lv_at hl 0 rfl) ?_
      refine kV_i (ci := 9) (As := [.int 18]) (rest := [.int 1152]) (wc := [(md, .inr (9, [.int 0, .ref m_all, .ref m_deeds, .ref m_trial, .int 0, .ref m_hasImage, .ref m_tape, .ref m_key, .ref m_answered, .int 0, .int 0, .int 0, .ref m_goes, .int 0, .ref m_hotOnes, .ref m_indexed, .ref m_isChanged, .int 0, .ref m_valueNow, .int 0, .int (-1), .int 0, .ref m_didSome, .ref m_sizes, .ref m_ends])), (m_all, aI cs 51207 f_m_all)]) (wr := []) hx hb hml hown hu hK hP hD hS hA hl.1 (c_X9_isFree l D cs H.size 18 md m_all f_m_all m_deeds m_trial m_hasImage m_tape m_key m_answered m_goes m_hotOnes m_indexed m_isChanged m_valueNow m_didSome m_sizes m_ends 0 0 0 z_all (by first | decide | grind)) (gV u_1188 u_1190 u_13 u_76 u_1191) hd_X9_isFree ⟨(Nat.le_of_ble_eq_true rfl), (Nat.le_of_ble_eq_true rfl)⟩ [0, 1] [] rfl rfl rfl rfl (by decide) rfl 0 rfl rfl rfl (Nat.le_of_ble_eq_true rfl) dX9_space_132 ⟨(Nat.le_of_ble_eq_true rfl), (Nat.le_of_ble_eq_true rfl)⟩ (fun r_722 ut_723 H locs hw_724 hP hD hS => ?_)
      have hP : va_P D vwCl [(md, .inr (9, [.int 0, .ref m_all, .ref m_deeds, .ref m_trial, .int 0, .ref m_hasImage, .ref m_tape, .ref m_key, .ref m_answered, .int 0, .int 0, .int 0, .ref m_goes, .int 0, .ref m_hotOnes, .ref m_indexed, .ref m_isChanged, .int 0, .ref m_valueNow, .int 0, .int (-1), .int 0, .ref m_didSome, .ref m_sizes, .ref m_ends])), (m_all, aI cs 51207 f_m_all)] H := hP
      have hD : va_D A [(md, .inr (9, [.int 0, .ref m_all, .ref m_deeds, .ref m_trial, .int 0, .ref m_hasImage, .ref m_tape, .ref m_key, .ref m_answered, .int 0, .int 0, .int 0, .ref m_goes, .int 0, .ref m_hotOnes, .ref m_indexed, .ref m_isChanged, .int 0, .ref m_valueNow, .int 0, .int (-1), .int 0, .ref m_didSome, .ref m_sizes, .ref m_ends])), (m_all, aI cs 51207 f_m_all)] := hD
      have er_725 := hw_724
      subst er_725
      refine lv_if_eq (tgt := 143) hx hb dX9_space_135 (by decide) (fun c_726 => absurd c_726 (by decide)) (fun c_726 => ?_)
      refine lv_bipush (v := 64) hx hb dX9_space_138 (by decide) ?_
      refine lv_goto (tgt := 144) hx hb dX9_space_140 (by decide) ?_
      refine lv_iadd hx hb dX9_space_144 ?_
      refine tpi (y := 1216) (by decide) ?_
      refine lv_istore_n (lv' := [(2, .int 1216), (3, .int 18), (0, .ref md), (1, .int 4)]) hx hb dX9_space_145 rfl hl (by decide) rfl (fun ls hl => ?_)
      refine lv_iinc (v := 19) (lv' := [(3, .int 19), (2, .int 1216), (0, .ref md), (1, .int 4)]) hx hb dX9_space_146 hl (k := 1) rfl (by decide) (by decide) rfl (fun ls hl => ?_)
      refine lv_goto (tgt := 24) hx hb dX9_space_149 (by decide) ?_
      refine lv_iload_n hx hb dX9_space_24 rfl (lv_at hl 0 rfl) ?_
      refine lv_bipush (v := 24) hx hb dX9_space_25 (by decide) ?_
      refine lv_icmp_ge (tgt := 152) hx hb dX9_space_27 (by decide) (fun c_727 => absurd c_727 (by decide)) (fun c_727 => ?_)
      refine lv_iload_n hx hb dX9_space_30 rfl (lv_at hl 3 rfl) ?_
      refine lv_tableOut (tgt := 129) hx hb dX9_space_31 (by decide) (by decide) ?_
      refine lv_iload_n hx hb dX9_space_129 rfl (lv_at hl 1 rfl) ?_
      refine lv_aload_n hx hb dX9_space_130 rfl (lv_at hl 2 rfl) ?_
      refine lv_iload_n hx hb dX9_space_131 rfl (lv_at hl 0 rfl) ?_
      refine kV_i (ci := 9) (As := [.int 19]) (rest := [.int 1216]) (wc := [(md, .inr (9, [.int 0, .ref m_all, .ref m_deeds, .ref m_trial, .int 0, .ref m_hasImage, .ref m_tape, .ref m_key, .ref m_answered, .int 0, .int 0, .int 0, .ref m_goes, .int 0, .ref m_hotOnes, .ref m_indexed, .ref m_isChanged, .int 0, .ref m_valueNow, .int 0, .int (-1), .int 0, .ref m_didSome, .ref m_sizes, .ref m_ends])), (m_all, aI cs 51207 f_m_all)]) (wr := []) hx hb hml hown hu hK hP hD hS hA hl.1 (c_X9_isFree l D cs H.size 19 md m_all f_m_all m_deeds m_trial m_hasImage m_tape m_key m_answered m_goes m_hotOnes m_indexed m_isChanged m_valueNow m_didSome m_sizes m_ends 0 0 0 z_all (by first | decide | grind)) (gV u_1188 u_1190 u_13 u_76 u_1191) hd_X9_isFree ⟨(Nat.le_of_ble_eq_true rfl), (Nat.le_of_ble_eq_true rfl)⟩ [0, 1] [] rfl rfl rfl rfl (by decide) rfl 0 rfl rfl rfl (Nat.le_of_ble_eq_true rfl) dX9_space_132 ⟨(Nat.le_of_ble_eq_true rfl), (Nat.le_of_ble_eq_true rfl)⟩ (fun r_728 ut_729 H locs hw_730 hP hD hS => ?_)
      have hP : va_P D vwCl [(md, .inr (9, [.int 0, .ref m_all, .ref m_deeds, .ref m_trial, .int 0, .ref m_hasImage, .ref m_tape, .ref m_key, .ref m_answered, .int 0, .int 0, .int 0, .ref m_goes, .int 0, .ref m_hotOnes, .ref m_indexed, .ref m_isChanged, .int 0, .ref m_valueNow, .int 0, .int (-1), .int 0, .ref m_didSome, .ref m_sizes, .ref m_ends])), (m_all, aI cs 51207 f_m_all)] H := hP
      have hD : va_D A [(md, .inr (9, [.int 0, .ref m_all, .ref m_deeds, .ref m_trial, .int 0, .ref m_hasImage, .ref m_tape, .ref m_key, .ref m_answered, .int 0, .int 0, .int 0, .ref m_goes, .int 0, .ref m_hotOnes, .ref m_indexed, .ref m_isChanged, .int 0, .ref m_valueNow, .int 0, .int (-1), .int 0, .ref m_didSome, .ref m_sizes, .ref m_ends])), (m_all, aI cs 51207 f_m_all)] := hD
      have er_731 := hw_730
      subst er_731
      refine lv_if_eq (tgt := 143) hx hb dX9_space_135 (by decide) (fun c_732 => absurd c_732 (by decide)) (fun c_732 => ?_)
      refine lv_bipush (v := 64) hx hb dX9_space_138 (by decide) ?_
      refine lv_goto (tgt := 144) hx hb dX9_space_140 (by decide) ?_
      refine lv_iadd hx hb dX9_space_144 ?_
      refine tpi (y := 1280) (by decide) ?_
      refine lv_istore_n (lv' := [(2, .int 1280), (3, .int 19), (0, .ref md), (1, .int 4)]) hx hb dX9_space_145 rfl hl (by decide) rfl (fun ls hl => ?_)
      refine lv_iinc (v := 20) (lv' := [(3, .int 20), (2, .int 1280), (0, .ref md), (1, .int 4)]) hx hb dX9_space_146 hl (k := 1) rfl (by decide) (by decide) rfl (fun ls hl => ?_)
      refine lv_goto (tgt := 24) hx hb dX9_space_149 (by decide) ?_
      refine lv_iload_n hx hb dX9_space_24 rfl (lv_at hl 0 rfl) ?_
      refine lv_bipush (v := 24) hx hb dX9_space_25 (by decide) ?_
      refine lv_icmp_ge (tgt := 152) hx hb dX9_space_27 (by decide) (fun c_733 => absurd c_733 (by decide)) (fun c_733 => ?_)
      refine lv_iload_n hx hb dX9_space_30 rfl (lv_at hl 3 rfl) ?_
      refine lv_tableOut (tgt := 129) hx hb dX9_space_31 (by decide) (by decide) ?_
      refine lv_iload_n hx hb dX9_space_129 rfl (lv_at hl 1 rfl) ?_
      refine lv_aload_n hx hb dX9_space_130 rfl (lv_at hl 2 rfl) ?_
      refine lv_iload_n hx hb dX9_space_131 rfl (lv_at hl 0 rfl) ?_
      refine kV_i (ci := 9) (As := [.int 20]) (rest := [.int 1280]) (wc := [(md, .inr (9, [.int 0, .ref m_all, .ref m_deeds, .ref m_trial, .int 0, .ref m_hasImage, .ref m_tape, .ref m_key, .ref m_answered, .int 0, .int 0, .int 0, .ref m_goes, .int 0, .ref m_hotOnes, .ref m_indexed, .ref m_isChanged, .int 0, .ref m_valueNow, .int 0, .int (-1), .int 0, .ref m_didSome, .ref m_sizes, .ref m_ends])), (m_all, aI cs 51207 f_m_all)]) (wr := []) hx hb hml hown hu hK hP hD hS hA hl.1 (c_X9_isFree l D cs H.size 20 md m_all f_m_all m_deeds m_trial m_hasImage m_tape m_key m_answered m_goes m_hotOnes m_indexed m_isChanged m_valueNow m_didSome m_sizes m_ends 0 0 0 z_all (by first | decide | grind)) (gV u_1188 u_1190 u_13 u_76 u_1191) hd_X9_isFree ⟨(Nat.le_of_ble_eq_true rfl), (Nat.le_of_ble_eq_true rfl)⟩ [0, 1] [] rfl rfl rfl rfl (by decide) rfl 0 rfl rfl rfl (Nat.le_of_ble_eq_true rfl) dX9_space_132 ⟨(Nat.le_of_ble_eq_true rfl), (Nat.le_of_ble_eq_true rfl)⟩ (fun r_734 ut_735 H locs hw_736 hP hD hS => ?_)
      have hP : va_P D vwCl [(md, .inr (9, [.int 0, .ref m_all, .ref m_deeds, .ref m_trial, .int 0, .ref m_hasImage, .ref m_tape, .ref m_key, .ref m_answered, .int 0, .int 0, .int 0, .ref m_goes, .int 0, .ref m_hotOnes, .ref m_indexed, .ref m_isChanged, .int 0, .ref m_valueNow, .int 0, .int (-1), .int 0, .ref m_didSome, .ref m_sizes, .ref m_ends])), (m_all, aI cs 51207 f_m_all)] H := hP
      have hD : va_D A [(md, .inr (9, [.int 0, .ref m_all, .ref m_deeds, .ref m_trial, .int 0, .ref m_hasImage, .ref m_tape, .ref m_key, .ref m_answered, .int 0, .int 0, .int 0, .ref m_goes, .int 0, .ref m_hotOnes, .ref m_indexed, .ref m_isChanged, .int 0, .ref m_valueNow, .int 0, .int (-1), .int 0, .ref m_didSome, .ref m_sizes, .ref m_ends])), (m_all, aI cs 51207 f_m_all)] := hD
      have er_737 := hw_736
      subst er_737
      refine lv_if_eq (tgt := 143) hx hb dX9_space_135 (by decide) (fun c_738 => absurd c_738 (by decide)) (fun c_738 => ?_)
      refine lv_bipush (v := 64) hx hb dX9_space_138 (by decide) ?_
      refine lv_goto (tgt := 144) hx hb dX9_space_140 (by decide) ?_
      refine lv_iadd hx hb dX9_space_144 ?_
      refine tpi (y := 1344) (by decide) ?_
      refine lv_istore_n (lv' := [(2, .int 1344), (3, .int 20), (0, .ref md), (1, .int 4)]) hx hb dX9_space_145 rfl hl (by decide) rfl (fun ls hl => ?_)
      refine lv_iinc (v := 21) (lv' := [(3, .int 21), (2, .int 1344), (0, .ref md), (1, .int 4)]) hx hb dX9_space_146 hl (k := 1) rfl (by decide) (by decide) rfl (fun ls hl => ?_)
      refine lv_goto (tgt := 24) hx hb dX9_space_149 (by decide) ?_
      refine lv_iload_n hx hb dX9_space_24 rfl (lv_at hl 0 rfl) ?_
      refine lv_bipush (v := 24) hx hb dX9_space_25 (by decide) ?_
      refine lv_icmp_ge (tgt := 152) hx hb dX9_space_27 (by decide) (fun c_739 => absurd c_739 (by decide)) (fun c_739 => ?_)
      refine lv_iload_n hx hb dX9_space_30 rfl (lv_at hl 3 rfl) ?_
      refine lv_tableOut (tgt := 129) hx hb dX9_space_31 (by decide) (by decide) ?_
      refine lv_iload_n hx hb dX9_space_129 rfl (lv_at hl 1 rfl) ?_
      refine lv_aload_n hx hb dX9_space_130 rfl (lv_at hl 2 rfl) ?_
      refine lv_iload_n hx hb dX9_space_131 rfl (lv_at hl 0 rfl) ?_
      refine kV_i (ci := 9) (As := [.int 21]) (rest := [.int 1344]) (wc := [(md, .inr (9, [.int 0, .ref m_all, .ref m_deeds, .ref m_trial, .int 0, .ref m_hasImage, .ref m_tape, .ref m_key, .ref m_answered, .int 0, .int 0, .int 0, .ref m_goes, .int 0, .ref m_hotOnes, .ref m_indexed, .ref m_isChanged, .int 0, .ref m_valueNow, .int 0, .int (-1), .int 0, .ref m_didSome, .ref m_sizes, .ref m_ends])), (m_all, aI cs 51207 f_m_all)]) (wr := []) hx hb hml hown hu hK hP hD hS hA hl.1 (c_X9_isFree l D cs H.size 21 md m_all f_m_all m_deeds m_trial m_hasImage m_tape m_key m_answered m_goes m_hotOnes m_indexed m_isChanged m_valueNow m_didSome m_sizes m_ends 0 0 0 z_all (by first | decide | grind)) (gV u_1188 u_1190 u_13 u_76 u_1191) hd_X9_isFree ⟨(Nat.le_of_ble_eq_true rfl), (Nat.le_of_ble_eq_true rfl)⟩ [0, 1] [] rfl rfl rfl rfl (by decide) rfl 0 rfl rfl rfl (Nat.le_of_ble_eq_true rfl) dX9_space_132 ⟨(Nat.le_of_ble_eq_true rfl), (Nat.le_of_ble_eq_true rfl)⟩ (fun r_740 ut_741 H locs hw_742 hP hD hS => ?_)
      have hP : va_P D vwCl [(md, .inr (9, [.int 0, .ref m_all, .ref m_deeds, .ref m_trial, .int 0, .ref m_hasImage, .ref m_tape, .ref m_key, .ref m_answered, .int 0, .int 0, .int 0, .ref m_goes, .int 0, .ref m_hotOnes, .ref m_indexed, .ref m_isChanged, .int 0, .ref m_valueNow, .int 0, .int (-1), .int 0, .ref m_didSome, .ref m_sizes, .ref m_ends])), (m_all, aI cs 51207 f_m_all)] H := hP
      have hD : va_D A [(md, .inr (9, [.int 0, .ref m_all, .ref m_deeds, .ref m_trial, .int 0, .ref m_hasImage, .ref m_tape, .ref m_key, .ref m_answered, .int 0, .int 0, .int 0, .ref m_goes, .int 0, .ref m_hotOnes, .ref m_indexed, .ref m_isChanged, .int 0, .ref m_valueNow, .int 0, .int (-1), .int 0, .ref m_didSome, .ref m_sizes, .ref m_ends])), (m_all, aI cs 51207 f_m_all)] := hD
      have er_743 := hw_742
      subst er_743
      refine lv_if_eq (tgt := 143) hx hb dX9_space_135 (by decide) (fun c_744 => absurd c_744 (by decide)) (fun c_744 => ?_)
      refine lv_bipush (v := 64) hx hb dX9_space_138 (by decide) ?_
      refine lv_goto (tgt := 144) hx hb dX9_space_140 (by decide) ?_
      refine lv_iadd hx hb dX9_space_144 ?_
      refine tpi (y := 1408) (by decide) ?_
      refine lv_istore_n (lv' := [(2, .int 1408), (3, .int 21), (0, .ref md), (1, .int 4)]) hx hb dX9_space_145 rfl hl (by decide) rfl (fun ls hl => ?_)
      refine lv_iinc (v := 22) (lv' := [(3, .int 22), (2, .int 1408), (0, .ref md), (1, .int 4)]) hx hb dX9_space_146 hl (k := 1) rfl (by decide) (by decide) rfl (fun ls hl => ?_)
      refine lv_goto (tgt := 24) hx hb dX9_space_149 (by decide) ?_
      refine lv_iload_n hx hb dX9_space_24 rfl (lv_at hl 0 rfl) ?_
      refine lv_bipush (v := 24) hx hb dX9_space_25 (by decide) ?_
      refine lv_icmp_ge (tgt := 152) hx hb dX9_space_27 (by decide) (fun c_745 => absurd c_745 (by decide)) (fun c_745 => ?_)
      refine lv_iload_n hx hb dX9_space_30 rfl (lv_at hl 3 rfl) ?_
      refine lv_tableOut (tgt := 129) hx hb dX9_space_31 (by decide) (by decide) ?_
      refine lv_iload_n hx hb dX9_space_129 rfl (lv_at hl 1 rfl) ?_
      refine lv_aload_n hx hb dX9_space_130 rfl (lv_at hl 2 rfl) ?_
      refine lv_iload_n hx hb dX9_space_131 rfl (lv_at hl 0 rfl) ?_
      refine kV_i (ci := 9) (As := [.int 22]) (rest := [.int 1408]) (wc := [(md, .inr (9, [.int 0, .ref m_all, .ref m_deeds, .ref m_trial, .int 0, .ref m_hasImage, .ref m_tape, .ref m_key, .ref m_answered, .int 0, .int 0, .int 0, .ref m_goes, .int 0, .ref m_hotOnes, .ref m_indexed, .ref m_isChanged, .int 0, .ref m_valueNow, .int 0, .int (-1), .int 0, .ref m_didSome, .ref m_sizes, .ref m_ends])), (m_all, aI cs 51207 f_m_all)]) (wr := []) hx hb hml hown hu hK hP hD hS hA hl.1 (c_X9_isFree l D cs H.size 22 md m_all f_m_all m_deeds m_trial m_hasImage m_tape m_key m_answered m_goes m_hotOnes m_indexed m_isChanged m_valueNow m_didSome m_sizes m_ends 0 0 0 z_all (by first | decide | grind)) (gV u_1188 u_1190 u_13 u_76 u_1191) hd_X9_isFree ⟨(Nat.le_of_ble_eq_true rfl), (Nat.le_of_ble_eq_true rfl)⟩ [0, 1] [] rfl rfl rfl rfl (by decide) rfl 0 rfl rfl rfl (Nat.le_of_ble_eq_true rfl) dX9_space_132 ⟨(Nat.le_of_ble_eq_true rfl), (Nat.le_of_ble_eq_true rfl)⟩ (fun r_746 ut_747 H locs hw_748 hP hD hS => ?_)
      have hP : va_P D vwCl [(md, .inr (9, [.int 0, .ref m_all, .ref m_deeds, .ref m_trial, .int 0, .ref m_hasImage, .ref m_tape, .ref m_key, .ref m_answered, .int 0, .int 0, .int 0, .ref m_goes, .int 0, .ref m_hotOnes, .ref m_indexed, .ref m_isChanged, .int 0, .ref m_valueNow, .int 0, .int (-1), .int 0, .ref m_didSome, .ref m_sizes, .ref m_ends])), (m_all, aI cs 51207 f_m_all)] H := hP
      have hD : va_D A [(md, .inr (9, [.int 0, .ref m_all, .ref m_deeds, .ref m_trial, .int 0, .ref m_hasImage, .ref m_tape, .ref m_key, .ref m_answered, .int 0, .int 0, .int 0, .ref m_goes, .int 0, .ref m_hotOnes, .ref m_indexed, .ref m_isChanged, .int 0, .ref m_valueNow, .int 0, .int (-1), .int 0, .ref m_didSome, .ref m_sizes, .ref m_ends])), (m_all, aI cs 51207 f_m_all)] := hD
      have er_749 := hw_748
      subst er_749
      refine lv_if_eq (tgt := 143) hx hb dX9_space_135 (by decide) (fun c_750 => absurd c_750 (by decide)) (fun c_750 => ?_)
      refine lv_bipush (v := 64) hx hb dX9_space_138 (by decide) ?_
      refine lv_goto (tgt := 144) hx hb dX9_space_140 (by decide) ?_
      refine lv_iadd hx hb dX9_space_144 ?_
      refine tpi (y := 1472) (by decide) ?_
      refine lv_istore_n (lv' := [(2, .int 1472), (3, .int 22), (0, .ref md), (1, .int 4)]) hx hb dX9_space_145 rfl hl (by decide) rfl (fun ls hl => ?_)
      refine lv_iinc (v := 23) (lv' := [(3, .int 23), (2, .int 1472), (0, .ref md), (1, .int 4)]) hx hb dX9_space_146 hl (k := 1) rfl (by decide) (by decide) rfl (fun ls hl => ?_)
      refine lv_goto (tgt := 24) hx hb dX9_space_149 (by decide) ?_
      refine lv_iload_n hx hb dX9_space_24 rfl (lv_at hl 0 rfl) ?_
      refine lv_bipush (v := 24) hx hb dX9_space_25 (by decide) ?_
      refine lv_icmp_ge (tgt := 152) hx hb dX9_space_27 (by decide) (fun c_751 => absurd c_751 (by decide)) (fun c_751 => ?_)
      refine lv_iload_n hx hb dX9_space_30 rfl (lv_at hl 3 rfl) ?_
      refine lv_tableOut (tgt := 129) hx hb dX9_space_31 (by decide) (by decide) ?_
      refine lv_iload_n hx hb dX9_space_129 rfl (lv_at hl 1 rfl) ?_
      refine lv_aload_n hx hb dX9_space_130 rfl (lv_at hl 2 rfl) ?_
      refine lv_iload_n hx hb dX9_space_131 rfl (lv_at hl 0 rfl) ?_
      refine kV_i (ci := 9) (As := [.int 23]) (rest := [.int 1472]) (wc := [(md, .inr (9, [.int 0, .ref m_all, .ref m_deeds, .ref m_trial, .int 0, .ref m_hasImage, .ref m_tape, .ref m_key, .ref m_answered, .int 0, .int 0, .int 0, .ref m_goes, .int 0, .ref m_hotOnes, .ref m_indexed, .ref m_isChanged, .int 0, .ref m_valueNow, .int 0, .int (-1), .int 0, .ref m_didSome, .ref m_sizes, .ref m_ends])), (m_all, aI cs 51207 f_m_all)]) (wr := []) hx hb hml hown hu hK hP hD hS hA hl.1 (c_X9_isFree l D cs H.size 23 md m_all f_m_all m_deeds m_trial m_hasImage m_tape m_key m_answered m_goes m_hotOnes m_indexed m_isChanged m_valueNow m_didSome m_sizes m_ends 0 0 0 z_all (by first | decide | grind)) (gV u_1188 u_1190 u_13 u_76 u_1191) hd_X9_isFree ⟨(Nat.le_of_ble_eq_true rfl), (Nat.le_of_ble_eq_true rfl)⟩ [0, 1] [] rfl rfl rfl rfl (by decide) rfl 0 rfl rfl rfl (Nat.le_of_ble_eq_true rfl) dX9_space_132 ⟨(Nat.le_of_ble_eq_true rfl), (Nat.le_of_ble_eq_true rfl)⟩ (fun r_752 ut_753 H locs hw_754 hP hD hS => ?_)
      have hP : va_P D vwCl [(md, .inr (9, [.int 0, .ref m_all, .ref m_deeds, .ref m_trial, .int 0, .ref m_hasImage, .ref m_tape, .ref m_key, .ref m_answered, .int 0, .int 0, .int 0, .ref m_goes, .int 0, .ref m_hotOnes, .ref m_indexed, .ref m_isChanged, .int 0, .ref m_valueNow, .int 0, .int (-1), .int 0, .ref m_didSome, .ref m_sizes, .ref m_ends])), (m_all, aI cs 51207 f_m_all)] H := hP
      have hD : va_D A [(md, .inr (9, [.int 0, .ref m_all, .ref m_deeds, .ref m_trial, .int 0, .ref m_hasImage, .ref m_tape, .ref m_key, .ref m_answered, .int 0, .int 0, .int 0, .ref m_goes, .int 0, .ref m_hotOnes, .ref m_indexed, .ref m_isChanged, .int 0, .ref m_valueNow, .int 0, .int (-1), .int 0, .ref m_didSome, .ref m_sizes, .ref m_ends])), (m_all, aI cs 51207 f_m_all)] := hD
      have er_755 := hw_754
      subst er_755
      refine lv_if_eq (tgt := 143) hx hb dX9_space_135 (by decide) (fun c_756 => absurd c_756 (by decide)) (fun c_756 => ?_)
      refine lv_bipush (v := 64) hx hb dX9_space_138 (by decide) ?_
      refine lv_goto (tgt := 144) hx hb dX9_space_140 (by decide) ?_
      refine lv_iadd hx hb dX9_space_144 ?_
      refine tpi (y := 1536) (by decide) ?_
      refine lv_istore_n (lv' := [(2, .int 1536), (3, .int 23), (0, .ref md), (1, .int 4)]) hx hb dX9_space_145 rfl hl (by decide) rfl (fun ls hl => ?_)
      refine lv_iinc (v := 24) (lv' := [(3, .int 24), (2, .int 1536), (0, .ref md), (1, .int 4)]) hx hb dX9_space_146 hl (k := 1) rfl (by decide) (by decide) rfl (fun ls hl => ?_)
      refine lv_goto (tgt := 24) hx hb dX9_space_149 (by decide) ?_
      refine lv_iload_n hx hb dX9_space_24 rfl (lv_at hl 0 rfl) ?_
      refine lv_bipush (v := 24) hx hb dX9_space_25 (by decide) ?_
      refine lv_icmp_ge (tgt := 152) hx hb dX9_space_27 (by decide) (fun c_757 => ?_) (fun c_757 => absurd (by decide) c_757)
      refine lv_iload_n hx hb dX9_space_152 rfl (lv_at hl 1 rfl) ?_
      exact hz () hP hD hS (by grind) [] rfl rfl (Nat.le_of_ble_eq_true rfl) (Nat.le_of_ble_eq_true rfl) .int rfl rfl dX9_space_153
  · obtain ⟨er_758, hf_759⟩ := hw_3
    have hf_760 : ¬ (0 ≤ x ∧ x ≤ 4) := fun h => hf_759 ⟨(w_le (d := 0) (x := x) (by decide)).mpr h.1, (w_ge (d := 4) (x := x) (by decide)).mpr h.2⟩
    subst er_758
    refine lv_if_ne (tgt := 20) hx hb dX9_space_14 (by decide) (fun c_761 => absurd (by decide) c_761) (fun c_761 => ?_)
    refine lv_bipush (v := (-2)) hx hb dX9_space_17 (by decide) ?_
    exact hz () hP hD hS (by grind) [] rfl rfl (Nat.le_of_ble_eq_true rfl) (Nat.le_of_ble_eq_true rfl) .int rfl rfl dX9_space_19
abbrev rm_c_X9_victim : Room := { frames := 3, cells := 0, slots := 0, locals := 70 }
set_option maxHeartbeats 4000000 in
set_option maxRecDepth 100000 in
theorem c_X9_victim (l : Launch) (D : va_G) (cs : Nat → ClassId) (sz : Nat) (x : Int32) (md : Nat) (m_all : Nat) (f_m_all : Nat → Int32) (m_deeds : Nat) (m_trial : Nat) (m_hasImage : Nat) (m_tape : Nat) (m_key : Nat) (m_answered : Nat) (m_goes : Nat) (m_hotOnes : Nat) (m_indexed : Nat) (m_isChanged : Nat) (m_valueNow : Nat) (m_didSome : Nat) (m_sizes : Nat) (m_ends : Nat) (z_all : ∀ j, j < 51207 → f_m_all j = AL j) : cMi l yX9_victim (Cond.code yX9_victim cX9_victim 2 (some .int)) (rm_c_X9_victim) D cs [.ref md, .int x] sz [(md, .inr (9, [.int 0, .ref m_all, .ref m_deeds, .ref m_trial, .int 0, .ref m_hasImage, .ref m_tape, .ref m_key, .ref m_answered, .int 0, .int 0, .int 0, .ref m_goes, .int 0, .ref m_hotOnes, .ref m_indexed, .ref m_isChanged, .int 0, .ref m_valueNow, .int 0, .int (-1), .int 0, .ref m_didSome, .ref m_sizes, .ref m_ends])), (m_all, aI cs 51207 f_m_all)] (fun (r : Int32) (u : Unit) => ((r = (-3)) ∧ (x < 0 ∨ 3 ≤ x)) ∨ ((r = (-1)) ∧ (¬ x < 0 ∧ x < 3))) (fun (u : Unit) => []) := by
  refine kMet_i RX9 (by decide) rfl (Nat.le_of_ble_eq_true rfl) ?_
  intro p e s m below meth c ls A Qz H locs hx hb hml hown hin hu hK hsz hA hP hD hS hl hz
  subst hsz
  have hl : lv_has ls 2 [(0, .ref md), (1, .int x)] := hl
  refine lv_aload_n hx hb dX9_victim_0 rfl (lv_at hl 0 rfl) ?_
  refine lv_iconst (v := 0) hx hb dX9_victim_1 (by decide) ?_
  refine va_put (D := D) (ci := 9) (v := .int 0) (ty := tyX9 0) (C := RX9) (T := TX9) (N := 25) hx hb hu in_X9 tyX9 tyX9_ok nmX9 hown hK.1 hP hD hS 0 rfl rfl 0 (by decide) (hu _ u_1080) (fun _ h9 => h9) rfl (tyX9_ok 0 (by decide)) rfl rfl (Nat.le_of_ble_eq_true rfl) dX9_victim_2 (fun H locs hP hD hS => ?_)
  have hP : va_P D vwCl [(md, .inr (9, [.int 0, .ref m_all, .ref m_deeds, .ref m_trial, .int 0, .ref m_hasImage, .ref m_tape, .ref m_key, .ref m_answered, .int 0, .int 0, .int 0, .ref m_goes, .int 0, .ref m_hotOnes, .ref m_indexed, .ref m_isChanged, .int 0, .ref m_valueNow, .int 0, .int (-1), .int 0, .ref m_didSome, .ref m_sizes, .ref m_ends])), (m_all, aI cs 51207 f_m_all)] H := hP
  have hD : va_D A [(md, .inr (9, [.int 0, .ref m_all, .ref m_deeds, .ref m_trial, .int 0, .ref m_hasImage, .ref m_tape, .ref m_key, .ref m_answered, .int 0, .int 0, .int 0, .ref m_goes, .int 0, .ref m_hotOnes, .ref m_indexed, .ref m_isChanged, .int 0, .ref m_valueNow, .int 0, .int (-1), .int 0, .ref m_didSome, .ref m_sizes, .ref m_ends])), (m_all, aI cs 51207 f_m_all)] := hD
  refine lv_iload_n hx hb dX9_victim_5 rfl (lv_at hl 1 rfl) ?_
  refine lv_i2l (v := x.toInt64) hx hb dX9_victim_6 rfl ?_
  refine lv_lconst (v := 0) hx hb dX9_victim_7 (by decide) ?_
  refine lv_ldc2 (v := 2) hx hb hown (hu _ u_1347) dX9_victim_8 ?_
  refine kS_i  (As := [.long x.toInt64, .long 0, .long 2]) (rest := []) (wc := []) (wr := [(md, .inr (9, [.int 0, .ref m_all, .ref m_deeds, .ref m_trial, .int 0, .ref m_hasImage, .ref m_tape, .ref m_key, .ref m_answered, .int 0, .int 0, .int 0, .ref m_goes, .int 0, .ref m_hotOnes, .ref m_indexed, .ref m_isChanged, .int 0, .ref m_valueNow, .int 0, .int (-1), .int 0, .ref m_didSome, .ref m_sizes, .ref m_ends])), (m_all, aI cs 51207 f_m_all)]) hx hb hml hown hu hK hP hD hS hA hl.1 (c_X9_within l D cs H.size x.toInt64 0 2) (gS u_1164 u_1165 u_76 u_1166) hd_X9_within ⟨(Nat.le_of_ble_eq_true rfl), (Nat.le_of_ble_eq_true rfl)⟩ [] [0, 1] rfl rfl rfl rfl (by decide) rfl rfl (Nat.le_of_ble_eq_true rfl) dX9_victim_11 ⟨(Nat.le_of_ble_eq_true rfl), (Nat.le_of_ble_eq_true rfl)⟩ (fun r_1 ut_2 H locs hw_3 hP hD hS => ?_)
  have hP : va_P D vwCl [(md, .inr (9, [.int 0, .ref m_all, .ref m_deeds, .ref m_trial, .int 0, .ref m_hasImage, .ref m_tape, .ref m_key, .ref m_answered, .int 0, .int 0, .int 0, .ref m_goes, .int 0, .ref m_hotOnes, .ref m_indexed, .ref m_isChanged, .int 0, .ref m_valueNow, .int 0, .int (-1), .int 0, .ref m_didSome, .ref m_sizes, .ref m_ends])), (m_all, aI cs 51207 f_m_all)] H := hP
  have hD : va_D A [(md, .inr (9, [.int 0, .ref m_all, .ref m_deeds, .ref m_trial, .int 0, .ref m_hasImage, .ref m_tape, .ref m_key, .ref m_answered, .int 0, .int 0, .int 0, .ref m_goes, .int 0, .ref m_hotOnes, .ref m_indexed, .ref m_isChanged, .int 0, .ref m_valueNow, .int 0, .int (-1), .int 0, .ref m_didSome, .ref m_sizes, .ref m_ends])), (m_all, aI cs 51207 f_m_all)] := hD
  rcases hw_3 with hw_3 | hw_3
  · obtain ⟨er_4, hf_5⟩ := hw_3
    have hf_6 : 0 ≤ x ∧ x ≤ 2 := ⟨(w_le (d := 0) (x := x) (by decide)).mp hf_5.1, (w_ge (d := 2) (x := x) (by decide)).mp hf_5.2⟩
    subst er_4
    refine lv_if_eq (tgt := 25) hx hb dX9_victim_14 (by decide) (fun c_7 => absurd c_7 (by decide)) (fun c_7 => ?_)
    refine lv_aload_n hx hb dX9_victim_17 rfl (lv_at hl 0 rfl) ?_
    refine lv_iload_n hx hb dX9_victim_18 rfl (lv_at hl 1 rfl) ?_
    refine kV_i (ci := 9) (As := [.int x]) (rest := []) (wc := [(md, .inr (9, [.int 0, .ref m_all, .ref m_deeds, .ref m_trial, .int 0, .ref m_hasImage, .ref m_tape, .ref m_key, .ref m_answered, .int 0, .int 0, .int 0, .ref m_goes, .int 0, .ref m_hotOnes, .ref m_indexed, .ref m_isChanged, .int 0, .ref m_valueNow, .int 0, .int (-1), .int 0, .ref m_didSome, .ref m_sizes, .ref m_ends])), (m_all, aI cs 51207 f_m_all)]) (wr := []) hx hb hml hown hu hK hP hD hS hA hl.1 (c_X9_victimBy l D cs H.size x md m_all f_m_all m_deeds m_trial m_hasImage m_tape m_key m_answered m_goes m_hotOnes m_indexed m_isChanged m_valueNow m_didSome m_sizes m_ends 0 0 0 z_all) (gV u_1196 u_1198 u_15 u_76 u_1199) hd_X9_victimBy ⟨(Nat.le_of_ble_eq_true rfl), (Nat.le_of_ble_eq_true rfl)⟩ [0, 1] [] rfl rfl rfl rfl (by decide) rfl 0 rfl rfl rfl (Nat.le_of_ble_eq_true rfl) dX9_victim_19 ⟨(Nat.le_of_ble_eq_true rfl), (Nat.le_of_ble_eq_true rfl)⟩ (fun r_8 ut_9 H locs hw_10 hP hD hS => ?_)
    have hP : va_P D vwCl [(md, .inr (9, [.int 0, .ref m_all, .ref m_deeds, .ref m_trial, .int 0, .ref m_hasImage, .ref m_tape, .ref m_key, .ref m_answered, .int 0, .int 0, .int 0, .ref m_goes, .int 0, .ref m_hotOnes, .ref m_indexed, .ref m_isChanged, .int 0, .ref m_valueNow, .int 0, .int (-1), .int 0, .ref m_didSome, .ref m_sizes, .ref m_ends])), (m_all, aI cs 51207 f_m_all)] H := hP
    have hD : va_D A [(md, .inr (9, [.int 0, .ref m_all, .ref m_deeds, .ref m_trial, .int 0, .ref m_hasImage, .ref m_tape, .ref m_key, .ref m_answered, .int 0, .int 0, .int 0, .ref m_goes, .int 0, .ref m_hotOnes, .ref m_indexed, .ref m_isChanged, .int 0, .ref m_valueNow, .int 0, .int (-1), .int 0, .ref m_didSome, .ref m_sizes, .ref m_ends])), (m_all, aI cs 51207 f_m_all)] := hD
    have er_11 := hw_10
    subst er_11
    refine lv_goto (tgt := 27) hx hb dX9_victim_22 (by decide) ?_
    exact hz () hP hD hS (by grind) [] rfl rfl (Nat.le_of_ble_eq_true rfl) (Nat.le_of_ble_eq_true rfl) .int rfl rfl dX9_victim_27
  · obtain ⟨er_12, hf_13⟩ := hw_3
    have hf_14 : ¬ (0 ≤ x ∧ x ≤ 2) := fun h => hf_13 ⟨(w_le (d := 0) (x := x) (by decide)).mpr h.1, (w_ge (d := 2) (x := x) (by decide)).mpr h.2⟩
    subst er_12
    refine lv_if_eq (tgt := 25) hx hb dX9_victim_14 (by decide) (fun c_15 => ?_) (fun c_15 => absurd (by decide) c_15)
    refine lv_bipush (v := (-3)) hx hb dX9_victim_25 (by decide) ?_
    exact hz () hP hD hS (by grind) [] rfl rfl (Nat.le_of_ble_eq_true rfl) (Nat.le_of_ble_eq_true rfl) .int rfl rfl dX9_victim_27
abbrev rm_c_X9_sweep : Room := { frames := 2, cells := 0, slots := 0, locals := 44 }
set_option maxHeartbeats 4000000 in
set_option maxRecDepth 100000 in
theorem c_X9_sweep (l : Launch) (D : va_G) (cs : Nat → ClassId) (sz : Nat) (x : Int32) (md : Nat) (m_all : Nat) (f_m_all : Nat → Int32) (m_deeds : Nat) (m_trial : Nat) (m_hasImage : Nat) (m_tape : Nat) (m_key : Nat) (m_answered : Nat) (m_goes : Nat) (m_hotOnes : Nat) (m_indexed : Nat) (m_isChanged : Nat) (m_valueNow : Nat) (m_didSome : Nat) (m_sizes : Nat) (m_ends : Nat) (z_all : ∀ j, j < 51207 → f_m_all j = AL j) : cMi l yX9_sweep (Cond.code yX9_sweep cX9_sweep 2 (some .int)) (rm_c_X9_sweep) D cs [.ref md, .int x] sz [(md, .inr (9, [.int 0, .ref m_all, .ref m_deeds, .ref m_trial, .int 0, .ref m_hasImage, .ref m_tape, .ref m_key, .ref m_answered, .int 0, .int 0, .int 0, .ref m_goes, .int 0, .ref m_hotOnes, .ref m_indexed, .ref m_isChanged, .int 0, .ref m_valueNow, .int 0, .int (-1), .int 0, .ref m_didSome, .ref m_sizes, .ref m_ends])), (m_all, aI cs 51207 f_m_all)] (fun (r : Int32) (u : Unit) => ((r = (-2)) ∧ (x < 0 ∨ 24 ≤ x)) ∨ ((r = (-5)) ∧ (¬ x < 0 ∧ x < 24))) (fun (u : Unit) => []) := by
  refine kMet_i RX9 (by decide) rfl (Nat.le_of_ble_eq_true rfl) ?_
  intro p e s m below meth c ls A Qz H locs hx hb hml hown hin hu hK hsz hA hP hD hS hl hz
  subst hsz
  have hl : lv_has ls 2 [(0, .ref md), (1, .int x)] := hl
  refine lv_aload_n hx hb dX9_sweep_0 rfl (lv_at hl 0 rfl) ?_
  refine lv_iconst (v := 0) hx hb dX9_sweep_1 (by decide) ?_
  refine va_put (D := D) (ci := 9) (v := .int 0) (ty := tyX9 0) (C := RX9) (T := TX9) (N := 25) hx hb hu in_X9 tyX9 tyX9_ok nmX9 hown hK.1 hP hD hS 0 rfl rfl 0 (by decide) (hu _ u_1080) (fun _ h9 => h9) rfl (tyX9_ok 0 (by decide)) rfl rfl (Nat.le_of_ble_eq_true rfl) dX9_sweep_2 (fun H locs hP hD hS => ?_)
  have hP : va_P D vwCl [(md, .inr (9, [.int 0, .ref m_all, .ref m_deeds, .ref m_trial, .int 0, .ref m_hasImage, .ref m_tape, .ref m_key, .ref m_answered, .int 0, .int 0, .int 0, .ref m_goes, .int 0, .ref m_hotOnes, .ref m_indexed, .ref m_isChanged, .int 0, .ref m_valueNow, .int 0, .int (-1), .int 0, .ref m_didSome, .ref m_sizes, .ref m_ends])), (m_all, aI cs 51207 f_m_all)] H := hP
  have hD : va_D A [(md, .inr (9, [.int 0, .ref m_all, .ref m_deeds, .ref m_trial, .int 0, .ref m_hasImage, .ref m_tape, .ref m_key, .ref m_answered, .int 0, .int 0, .int 0, .ref m_goes, .int 0, .ref m_hotOnes, .ref m_indexed, .ref m_isChanged, .int 0, .ref m_valueNow, .int 0, .int (-1), .int 0, .ref m_didSome, .ref m_sizes, .ref m_ends])), (m_all, aI cs 51207 f_m_all)] := hD
  refine lv_iload_n hx hb dX9_sweep_5 rfl (lv_at hl 1 rfl) ?_
  refine lv_i2l (v := x.toInt64) hx hb dX9_sweep_6 rfl ?_
  refine lv_lconst (v := 0) hx hb dX9_sweep_7 (by decide) ?_
  refine lv_ldc2 (v := 23) hx hb hown (hu _ u_1480) dX9_sweep_8 ?_
  refine kS_i  (As := [.long x.toInt64, .long 0, .long 23]) (rest := []) (wc := []) (wr := [(md, .inr (9, [.int 0, .ref m_all, .ref m_deeds, .ref m_trial, .int 0, .ref m_hasImage, .ref m_tape, .ref m_key, .ref m_answered, .int 0, .int 0, .int 0, .ref m_goes, .int 0, .ref m_hotOnes, .ref m_indexed, .ref m_isChanged, .int 0, .ref m_valueNow, .int 0, .int (-1), .int 0, .ref m_didSome, .ref m_sizes, .ref m_ends])), (m_all, aI cs 51207 f_m_all)]) hx hb hml hown hu hK hP hD hS hA hl.1 (c_X9_within l D cs H.size x.toInt64 0 23) (gS u_1164 u_1165 u_76 u_1166) hd_X9_within ⟨(Nat.le_of_ble_eq_true rfl), (Nat.le_of_ble_eq_true rfl)⟩ [] [0, 1] rfl rfl rfl rfl (by decide) rfl rfl (Nat.le_of_ble_eq_true rfl) dX9_sweep_11 ⟨(Nat.le_of_ble_eq_true rfl), (Nat.le_of_ble_eq_true rfl)⟩ (fun r_1 ut_2 H locs hw_3 hP hD hS => ?_)
  have hP : va_P D vwCl [(md, .inr (9, [.int 0, .ref m_all, .ref m_deeds, .ref m_trial, .int 0, .ref m_hasImage, .ref m_tape, .ref m_key, .ref m_answered, .int 0, .int 0, .int 0, .ref m_goes, .int 0, .ref m_hotOnes, .ref m_indexed, .ref m_isChanged, .int 0, .ref m_valueNow, .int 0, .int (-1), .int 0, .ref m_didSome, .ref m_sizes, .ref m_ends])), (m_all, aI cs 51207 f_m_all)] H := hP
  have hD : va_D A [(md, .inr (9, [.int 0, .ref m_all, .ref m_deeds, .ref m_trial, .int 0, .ref m_hasImage, .ref m_tape, .ref m_key, .ref m_answered, .int 0, .int 0, .int 0, .ref m_goes, .int 0, .ref m_hotOnes, .ref m_indexed, .ref m_isChanged, .int 0, .ref m_valueNow, .int 0, .int (-1), .int 0, .ref m_didSome, .ref m_sizes, .ref m_ends])), (m_all, aI cs 51207 f_m_all)] := hD
  rcases hw_3 with hw_3 | hw_3
  · obtain ⟨er_4, hf_5⟩ := hw_3
    have hf_6 : 0 ≤ x ∧ x ≤ 23 := ⟨(w_le (d := 0) (x := x) (by decide)).mp hf_5.1, (w_ge (d := 23) (x := x) (by decide)).mp hf_5.2⟩
    subst er_4
    refine lv_if_ne (tgt := 20) hx hb dX9_sweep_14 (by decide) (fun c_7 => ?_) (fun c_7 => absurd c_7 (by decide))
    refine lv_aload_n hx hb dX9_sweep_20 rfl (lv_at hl 0 rfl) ?_
    refine lv_iload_n hx hb dX9_sweep_21 rfl (lv_at hl 1 rfl) ?_
    refine kV_i (ci := 9) (As := [.int x]) (rest := []) (wc := [(md, .inr (9, [.int 0, .ref m_all, .ref m_deeds, .ref m_trial, .int 0, .ref m_hasImage, .ref m_tape, .ref m_key, .ref m_answered, .int 0, .int 0, .int 0, .ref m_goes, .int 0, .ref m_hotOnes, .ref m_indexed, .ref m_isChanged, .int 0, .ref m_valueNow, .int 0, .int (-1), .int 0, .ref m_didSome, .ref m_sizes, .ref m_ends])), (m_all, aI cs 51207 f_m_all)]) (wr := []) hx hb hml hown hu hK hP hD hS hA hl.1 (c_X9_deadOn l D cs H.size x md m_all f_m_all m_deeds m_trial m_hasImage m_tape m_key m_answered m_goes m_hotOnes m_indexed m_isChanged m_valueNow m_didSome m_sizes m_ends 0 0 0 z_all (by first | decide | grind)) (gV u_1200 u_1202 u_16 u_76 u_1203) hd_X9_deadOn ⟨(Nat.le_of_ble_eq_true rfl), (Nat.le_of_ble_eq_true rfl)⟩ [0, 1] [] rfl rfl rfl rfl (by decide) rfl 0 rfl rfl rfl (Nat.le_of_ble_eq_true rfl) dX9_sweep_22 ⟨(Nat.le_of_ble_eq_true rfl), (Nat.le_of_ble_eq_true rfl)⟩ (fun r_8 ut_9 H locs hw_10 hP hD hS => ?_)
    have hP : va_P D vwCl [(md, .inr (9, [.int 0, .ref m_all, .ref m_deeds, .ref m_trial, .int 0, .ref m_hasImage, .ref m_tape, .ref m_key, .ref m_answered, .int 0, .int 0, .int 0, .ref m_goes, .int 0, .ref m_hotOnes, .ref m_indexed, .ref m_isChanged, .int 0, .ref m_valueNow, .int 0, .int (-1), .int 0, .ref m_didSome, .ref m_sizes, .ref m_ends])), (m_all, aI cs 51207 f_m_all)] H := hP
    have hD : va_D A [(md, .inr (9, [.int 0, .ref m_all, .ref m_deeds, .ref m_trial, .int 0, .ref m_hasImage, .ref m_tape, .ref m_key, .ref m_answered, .int 0, .int 0, .int 0, .ref m_goes, .int 0, .ref m_hotOnes, .ref m_indexed, .ref m_isChanged, .int 0, .ref m_valueNow, .int 0, .int (-1), .int 0, .ref m_didSome, .ref m_sizes, .ref m_ends])), (m_all, aI cs 51207 f_m_all)] := hD
    have er_11 := hw_10
    subst er_11
    refine lv_if_ne (tgt := 31) hx hb dX9_sweep_25 (by decide) (fun c_12 => absurd (by decide) c_12) (fun c_12 => ?_)
    refine lv_bipush (v := (-5)) hx hb dX9_sweep_28 (by decide) ?_
    exact hz () hP hD hS (by grind) [] rfl rfl (Nat.le_of_ble_eq_true rfl) (Nat.le_of_ble_eq_true rfl) .int rfl rfl dX9_sweep_30
  · obtain ⟨er_13, hf_14⟩ := hw_3
    have hf_15 : ¬ (0 ≤ x ∧ x ≤ 23) := fun h => hf_14 ⟨(w_le (d := 0) (x := x) (by decide)).mpr h.1, (w_ge (d := 23) (x := x) (by decide)).mpr h.2⟩
    subst er_13
    refine lv_if_ne (tgt := 20) hx hb dX9_sweep_14 (by decide) (fun c_16 => absurd (by decide) c_16) (fun c_16 => ?_)
    refine lv_bipush (v := (-2)) hx hb dX9_sweep_17 (by decide) ?_
    exact hz () hP hD hS (by grind) [] rfl rfl (Nat.le_of_ble_eq_true rfl) (Nat.le_of_ble_eq_true rfl) .int rfl rfl dX9_sweep_19
abbrev rm_c_X9_trim : Room := { frames := 3, cells := 0, slots := 0, locals := 70 }
set_option maxHeartbeats 4000000 in
set_option maxRecDepth 100000 in
theorem c_X9_trim (l : Launch) (D : va_G) (cs : Nat → ClassId) (sz : Nat) (md : Nat) (m_all : Nat) (f_m_all : Nat → Int32) (m_deeds : Nat) (f_m_deeds : Nat → Int32) (m_trial : Nat) (f_m_trial : Nat → Int32) (m_hasImage : Nat) (m_tape : Nat) (m_key : Nat) (m_answered : Nat) (m_goes : Nat) (m_hotOnes : Nat) (m_indexed : Nat) (m_isChanged : Nat) (m_valueNow : Nat) (m_didSome : Nat) (m_sizes : Nat) (m_ends : Nat) (z_all : ∀ j, j < 51207 → f_m_all j = AL j) : cMi l yX9_trim (Cond.code yX9_trim cX9_trim 2 (some .int)) (rm_c_X9_trim) D cs [.ref md] sz [(md, .inr (9, [.int 0, .ref m_all, .ref m_deeds, .ref m_trial, .int 0, .ref m_hasImage, .ref m_tape, .ref m_key, .ref m_answered, .int 0, .int 0, .int 0, .ref m_goes, .int 0, .ref m_hotOnes, .ref m_indexed, .ref m_isChanged, .int 0, .ref m_valueNow, .int 0, .int (-1), .int 0, .ref m_didSome, .ref m_sizes, .ref m_ends])), (m_all, aI cs 51207 f_m_all), (m_deeds, aI cs 170690 f_m_deeds), (m_trial, aI cs 17069 f_m_trial)] (fun (r : Int32) (u : Unit) => (r = 24)) (fun (u : Unit) => []) := by
  refine kMet_i RX9 (by decide) rfl (Nat.le_of_ble_eq_true rfl) ?_
  intro p e s m below meth c ls A Qz H locs hx hb hml hown hin hu hK hsz hA hP hD hS hl hz
  subst hsz
  have hl : lv_has ls 2 [(0, .ref md)] := hl
  refine lv_aload_n hx hb dX9_trim_0 rfl (lv_at hl 0 rfl) ?_
  refine lv_iconst (v := 0) hx hb dX9_trim_1 (by decide) ?_
  refine va_put (D := D) (ci := 9) (v := .int 0) (ty := tyX9 0) (C := RX9) (T := TX9) (N := 25) hx hb hu in_X9 tyX9 tyX9_ok nmX9 hown hK.1 hP hD hS 0 rfl rfl 0 (by decide) (hu _ u_1080) (fun _ h9 => h9) rfl (tyX9_ok 0 (by decide)) rfl rfl (Nat.le_of_ble_eq_true rfl) dX9_trim_2 (fun H locs hP hD hS => ?_)
  have hP : va_P D vwCl [(md, .inr (9, [.int 0, .ref m_all, .ref m_deeds, .ref m_trial, .int 0, .ref m_hasImage, .ref m_tape, .ref m_key, .ref m_answered, .int 0, .int 0, .int 0, .ref m_goes, .int 0, .ref m_hotOnes, .ref m_indexed, .ref m_isChanged, .int 0, .ref m_valueNow, .int 0, .int (-1), .int 0, .ref m_didSome, .ref m_sizes, .ref m_ends])), (m_all, aI cs 51207 f_m_all), (m_deeds, aI cs 170690 f_m_deeds), (m_trial, aI cs 17069 f_m_trial)] H := hP
  have hD : va_D A [(md, .inr (9, [.int 0, .ref m_all, .ref m_deeds, .ref m_trial, .int 0, .ref m_hasImage, .ref m_tape, .ref m_key, .ref m_answered, .int 0, .int 0, .int 0, .ref m_goes, .int 0, .ref m_hotOnes, .ref m_indexed, .ref m_isChanged, .int 0, .ref m_valueNow, .int 0, .int (-1), .int 0, .ref m_didSome, .ref m_sizes, .ref m_ends])), (m_all, aI cs 51207 f_m_all), (m_deeds, aI cs 170690 f_m_deeds), (m_trial, aI cs 17069 f_m_trial)] := hD
  refine lv_aload_n hx hb dX9_trim_5 rfl (lv_at hl 0 rfl) ?_
  refine kV_v (ci := 9) (As := []) (rest := []) (wc := [(md, .inr (9, [.int 0, .ref m_all, .ref m_deeds, .ref m_trial, .int 0, .ref m_hasImage, .ref m_tape, .ref m_key, .ref m_answered, .int 0, .int 0, .int 0, .ref m_goes, .int 0, .ref m_hotOnes, .ref m_indexed, .ref m_isChanged, .int 0, .ref m_valueNow, .int 0, .int (-1), .int 0, .ref m_didSome, .ref m_sizes, .ref m_ends])), (m_all, aI cs 51207 f_m_all), (m_deeds, aI cs 170690 f_m_deeds), (m_trial, aI cs 17069 f_m_trial)]) (wr := []) hx hb hml hown hu hK hP hD hS hA hl.1 (c_X9_notes l D cs H.size md m_all f_m_all m_deeds f_m_deeds m_trial f_m_trial m_hasImage m_tape m_key m_answered m_goes m_hotOnes m_indexed m_isChanged m_valueNow m_didSome m_sizes m_ends 0 0 z_all) (gV u_1331 u_1333 u_45 u_76 u_1334) hd_X9_notes ⟨(Nat.le_of_ble_eq_true rfl), (Nat.le_of_ble_eq_true rfl)⟩ [0, 1, 2, 3] [] rfl rfl rfl rfl (by decide) rfl 0 rfl rfl rfl (Nat.le_of_ble_eq_true rfl) dX9_trim_6 ⟨(Nat.le_of_ble_eq_true rfl), (Nat.le_of_ble_eq_true rfl)⟩ (fun ut_2 H locs hw_3 hP hD hS => ?_)
  have hP : va_P D vwCl [(m_all, aI cs 51207 f_m_all), (md, .inr (9, [.int 0, .ref m_all, .ref m_deeds, .ref m_trial, .int 1, .ref m_hasImage, .ref m_tape, .ref m_key, .ref m_answered, .int 0, .int 0, .int 0, .ref m_goes, .int 0, .ref m_hotOnes, .ref m_indexed, .ref m_isChanged, .int 0, .ref m_valueNow, .int 0, .int (-1), .int 0, .ref m_didSome, .ref m_sizes, .ref m_ends]))] H := hP
  have hD : va_D A [(m_all, aI cs 51207 f_m_all), (md, .inr (9, [.int 0, .ref m_all, .ref m_deeds, .ref m_trial, .int 1, .ref m_hasImage, .ref m_tape, .ref m_key, .ref m_answered, .int 0, .int 0, .int 0, .ref m_goes, .int 0, .ref m_hotOnes, .ref m_indexed, .ref m_isChanged, .int 0, .ref m_valueNow, .int 0, .int (-1), .int 0, .ref m_didSome, .ref m_sizes, .ref m_ends]))] := hD
  refine lv_iconst (v := 0) hx hb dX9_trim_9 (by decide) ?_
  refine lv_istore_n (lv' := [(1, .int 0), (0, .ref md)]) hx hb dX9_trim_10 rfl hl (by decide) rfl (fun ls hl => ?_)
  refine lv_iload_n hx hb dX9_trim_11 rfl (lv_at hl 0 rfl) ?_
  refine lv_iconst (v := 4) hx hb dX9_trim_12 (by decide) ?_
  refine lv_icmp_ge (tgt := 32) hx hb dX9_trim_13 (by decide) (fun c_4 => absurd c_4 (by decide)) (fun c_4 => ?_)
  refine lv_aload_n hx hb dX9_trim_16 rfl (lv_at hl 1 rfl) ?_
  refine va_get (D := D) (ci := 9) (v := .ref m_all) (C := RX9) (T := TX9) (N := 25) hx hb hu in_X9 hown hK.1 hP 1 rfl rfl 1 (by decide) (hu _ u_1081) (fun _ h9 => h9) rfl dX9_trim_17 ?_
  refine lv_bipush (v := 55) hx hb dX9_trim_20 (by decide) ?_
  refine lv_iload_n hx hb dX9_trim_22 rfl (lv_at hl 0 rfl) ?_
  refine lv_iadd hx hb dX9_trim_23 ?_
  refine tpi (y := 55) (by decide) ?_
  refine lv_iconst (v := (-1)) hx hb dX9_trim_24 (by decide) ?_
  refine va_iast hx hb hK.1 hP hD hS 0 0 rfl rfl (vin_c _ _ rfl) dX9_trim_25 (fun H locs hP hD hS => ?_)
  have hP : va_P D vwCl [(m_all, aI cs 51207 (upd f_m_all (55 : Int32).toNatClampNeg (-1))), (md, .inr (9, [.int 0, .ref m_all, .ref m_deeds, .ref m_trial, .int 1, .ref m_hasImage, .ref m_tape, .ref m_key, .ref m_answered, .int 0, .int 0, .int 0, .ref m_goes, .int 0, .ref m_hotOnes, .ref m_indexed, .ref m_isChanged, .int 0, .ref m_valueNow, .int 0, .int (-1), .int 0, .ref m_didSome, .ref m_sizes, .ref m_ends]))] H := hP
  have hD : va_D A [(m_all, aI cs 51207 (upd f_m_all (55 : Int32).toNatClampNeg (-1))), (md, .inr (9, [.int 0, .ref m_all, .ref m_deeds, .ref m_trial, .int 1, .ref m_hasImage, .ref m_tape, .ref m_key, .ref m_answered, .int 0, .int 0, .int 0, .ref m_goes, .int 0, .ref m_hotOnes, .ref m_indexed, .ref m_isChanged, .int 0, .ref m_valueNow, .int 0, .int (-1), .int 0, .ref m_didSome, .ref m_sizes, .ref m_ends]))] := hD
  have za_5 : ∀ j, j < 51207 → (upd f_m_all (55 : Int32).toNatClampNeg (-1)) j = AL j := upd_AL z_all (by decide +kernel)
  obtain ⟨g_6, eg_7⟩ : ∃ g9 : Nat → Int32, upd f_m_all (55 : Int32).toNatClampNeg (-1) = g9 := ⟨_, rfl⟩
  rw [eg_7] at hP hD za_5
  refine lv_iinc (v := 1) (lv' := [(1, .int 1), (0, .ref md)]) hx hb dX9_trim_26 hl (k := 0) rfl (by decide) (by decide) rfl (fun ls hl => ?_)
  refine lv_goto (tgt := 11) hx hb dX9_trim_29 (by decide) ?_
  refine lv_iload_n hx hb dX9_trim_11 rfl (lv_at hl 0 rfl) ?_
  refine lv_iconst (v := 4) hx hb dX9_trim_12 (by decide) ?_
  refine lv_icmp_ge (tgt := 32) hx hb dX9_trim_13 (by decide) (fun c_8 => absurd c_8 (by decide)) (fun c_8 => ?_)
  refine lv_aload_n hx hb dX9_trim_16 rfl (lv_at hl 1 rfl) ?_
  refine va_get (D := D) (ci := 9) (v := .ref m_all) (C := RX9) (T := TX9) (N := 25) hx hb hu in_X9 hown hK.1 hP 1 rfl rfl 1 (by decide) (hu _ u_1081) (fun _ h9 => h9) rfl dX9_trim_17 ?_
  refine lv_bipush (v := 55) hx hb dX9_trim_20 (by decide) ?_
  refine lv_iload_n hx hb dX9_trim_22 rfl (lv_at hl 0 rfl) ?_
  refine lv_iadd hx hb dX9_trim_23 ?_
  refine tpi (y := 56) (by decide) ?_
  refine lv_iconst (v := (-1)) hx hb dX9_trim_24 (by decide) ?_
  refine va_iast hx hb hK.1 hP hD hS 0 0 rfl rfl (vin_c _ _ rfl) dX9_trim_25 (fun H locs hP hD hS => ?_)
  have hP : va_P D vwCl [(m_all, aI cs 51207 (upd g_6 (56 : Int32).toNatClampNeg (-1))), (md, .inr (9, [.int 0, .ref m_all, .ref m_deeds, .ref m_trial, .int 1, .ref m_hasImage, .ref m_tape, .ref m_key, .ref m_answered, .int 0, .int 0, .int 0, .ref m_goes, .int 0, .ref m_hotOnes, .ref m_indexed, .ref m_isChanged, .int 0, .ref m_valueNow, .int 0, .int (-1), .int 0, .ref m_didSome, .ref m_sizes, .ref m_ends]))] H := hP
  have hD : va_D A [(m_all, aI cs 51207 (upd g_6 (56 : Int32).toNatClampNeg (-1))), (md, .inr (9, [.int 0, .ref m_all, .ref m_deeds, .ref m_trial, .int 1, .ref m_hasImage, .ref m_tape, .ref m_key, .ref m_answered, .int 0, .int 0, .int 0, .ref m_goes, .int 0, .ref m_hotOnes, .ref m_indexed, .ref m_isChanged, .int 0, .ref m_valueNow, .int 0, .int (-1), .int 0, .ref m_didSome, .ref m_sizes, .ref m_ends]))] := hD
  have za_9 : ∀ j, j < 51207 → (upd g_6 (56 : Int32).toNatClampNeg (-1)) j = AL j := upd_AL za_5 (by decide +kernel)
  obtain ⟨g_10, eg_11⟩ : ∃ g9 : Nat → Int32, upd g_6 (56 : Int32).toNatClampNeg (-1) = g9 := ⟨_, rfl⟩
  rw [eg_11] at hP hD za_9
  refine lv_iinc (v := 2) (lv' := [(1, .int 2), (0, .ref md)]) hx hb dX9_trim_26 hl (k := 0) rfl (by decide) (by decide) rfl (fun ls hl => ?_)
  refine lv_goto (tgt := 11) hx hb dX9_trim_29 (by decide) ?_
  refine lv_iload_n hx hb dX9_trim_11 rfl (lv_at hl 0 rfl) ?_
  refine lv_iconst (v := 4) hx hb dX9_trim_12 (by decide) ?_
  refine lv_icmp_ge (tgt := 32) hx hb dX9_trim_13 (by decide) (fun c_12 => absurd c_12 (by decide)) (fun c_12 => ?_)
  refine lv_aload_n hx hb dX9_trim_16 rfl (lv_at hl 1 rfl) ?_
  refine va_get (D := D) (ci := 9) (v := .ref m_all) (C := RX9) (T := TX9) (N := 25) hx hb hu in_X9 hown hK.1 hP 1 rfl rfl 1 (by decide) (hu _ u_1081) (fun _ h9 => h9) rfl dX9_trim_17 ?_
  refine lv_bipush (v := 55) hx hb dX9_trim_20 (by decide) ?_
  refine lv_iload_n hx hb dX9_trim_22 rfl (lv_at hl 0 rfl) ?_
  refine lv_iadd hx hb dX9_trim_23 ?_
  refine tpi (y := 57) (by decide) ?_
  refine lv_iconst (v := (-1)) hx hb dX9_trim_24 (by decide) ?_
  refine va_iast hx hb hK.1 hP hD hS 0 0 rfl rfl (vin_c _ _ rfl) dX9_trim_25 (fun H locs hP hD hS => ?_)
  have hP : va_P D vwCl [(m_all, aI cs 51207 (upd g_10 (57 : Int32).toNatClampNeg (-1))), (md, .inr (9, [.int 0, .ref m_all, .ref m_deeds, .ref m_trial, .int 1, .ref m_hasImage, .ref m_tape, .ref m_key, .ref m_answered, .int 0, .int 0, .int 0, .ref m_goes, .int 0, .ref m_hotOnes, .ref m_indexed, .ref m_isChanged, .int 0, .ref m_valueNow, .int 0, .int (-1), .int 0, .ref m_didSome, .ref m_sizes, .ref m_ends]))] H := hP
  have hD : va_D A [(m_all, aI cs 51207 (upd g_10 (57 : Int32).toNatClampNeg (-1))), (md, .inr (9, [.int 0, .ref m_all, .ref m_deeds, .ref m_trial, .int 1, .ref m_hasImage, .ref m_tape, .ref m_key, .ref m_answered, .int 0, .int 0, .int 0, .ref m_goes, .int 0, .ref m_hotOnes, .ref m_indexed, .ref m_isChanged, .int 0, .ref m_valueNow, .int 0, .int (-1), .int 0, .ref m_didSome, .ref m_sizes, .ref m_ends]))] := hD
  have za_13 : ∀ j, j < 51207 → (upd g_10 (57 : Int32).toNatClampNeg (-1)) j = AL j := upd_AL za_9 (by decide +kernel)
  obtain ⟨g_14, eg_15⟩ : ∃ g9 : Nat → Int32, upd g_10 (57 : Int32).toNatClampNeg (-1) = g9 := ⟨_, rfl⟩
  rw [eg_15] at hP hD za_13
  refine lv_iinc (v := 3) (lv' := [(1, .int 3), (0, .ref md)]) hx hb dX9_trim_26 hl (k := 0) rfl (by decide) (by decide) rfl (fun ls hl => ?_)
  refine lv_goto (tgt := 11) hx hb dX9_trim_29 (by decide) ?_
  refine lv_iload_n hx hb dX9_trim_11 rfl (lv_at hl 0 rfl) ?_
  refine lv_iconst (v := 4) hx hb dX9_trim_12 (by decide) ?_
  refine lv_icmp_ge (tgt := 32) hx hb dX9_trim_13 (by decide) (fun c_16 => absurd c_16 (by decide)) (fun c_16 => ?_)
  refine lv_aload_n hx hb dX9_trim_16 rfl (lv_at hl 1 rfl) ?_
  refine va_get (D := D) (ci := 9) (v := .ref m_all) (C := RX9) (T := TX9) (N := 25) hx hb hu in_X9 hown hK.1 hP 1 rfl rfl 1 (by decide) (hu _ u_1081) (fun _ h9 => h9) rfl dX9_trim_17 ?_
  refine lv_bipush (v := 55) hx hb dX9_trim_20 (by decide) ?_
  refine lv_iload_n hx hb dX9_trim_22 rfl (lv_at hl 0 rfl) ?_
  refine lv_iadd hx hb dX9_trim_23 ?_
  refine tpi (y := 58) (by decide) ?_
  refine lv_iconst (v := (-1)) hx hb dX9_trim_24 (by decide) ?_
  refine va_iast hx hb hK.1 hP hD hS 0 0 rfl rfl (vin_c _ _ rfl) dX9_trim_25 (fun H locs hP hD hS => ?_)
  have hP : va_P D vwCl [(m_all, aI cs 51207 (upd g_14 (58 : Int32).toNatClampNeg (-1))), (md, .inr (9, [.int 0, .ref m_all, .ref m_deeds, .ref m_trial, .int 1, .ref m_hasImage, .ref m_tape, .ref m_key, .ref m_answered, .int 0, .int 0, .int 0, .ref m_goes, .int 0, .ref m_hotOnes, .ref m_indexed, .ref m_isChanged, .int 0, .ref m_valueNow, .int 0, .int (-1), .int 0, .ref m_didSome, .ref m_sizes, .ref m_ends]))] H := hP
  have hD : va_D A [(m_all, aI cs 51207 (upd g_14 (58 : Int32).toNatClampNeg (-1))), (md, .inr (9, [.int 0, .ref m_all, .ref m_deeds, .ref m_trial, .int 1, .ref m_hasImage, .ref m_tape, .ref m_key, .ref m_answered, .int 0, .int 0, .int 0, .ref m_goes, .int 0, .ref m_hotOnes, .ref m_indexed, .ref m_isChanged, .int 0, .ref m_valueNow, .int 0, .int (-1), .int 0, .ref m_didSome, .ref m_sizes, .ref m_ends]))] := hD
  have za_17 : ∀ j, j < 51207 → (upd g_14 (58 : Int32).toNatClampNeg (-1)) j = AL j := upd_AL za_13 (by decide +kernel)
  obtain ⟨g_18, eg_19⟩ : ∃ g9 : Nat → Int32, upd g_14 (58 : Int32).toNatClampNeg (-1) = g9 := ⟨_, rfl⟩
  rw [eg_19] at hP hD za_17
  refine lv_iinc (v := 4) (lv' := [(1, .int 4), (0, .ref md)]) hx hb dX9_trim_26 hl (k := 0) rfl (by decide) (by decide) rfl (fun ls hl => ?_)
  refine lv_goto (tgt := 11) hx hb dX9_trim_29 (by decide) ?_
  refine lv_iload_n hx hb dX9_trim_11 rfl (lv_at hl 0 rfl) ?_
  refine lv_iconst (v := 4) hx hb dX9_trim_12 (by decide) ?_
  refine lv_icmp_ge (tgt := 32) hx hb dX9_trim_13 (by decide) (fun c_20 => ?_) (fun c_20 => absurd (by decide) c_20)
  refine lv_iconst (v := 0) hx hb dX9_trim_32 (by decide) ?_
  refine lv_istore_n (lv' := [(1, .int 0), (0, .ref md)]) hx hb dX9_trim_33 rfl hl (by decide) rfl (fun ls hl => ?_)
  refine lv_iload_n hx hb dX9_trim_34 rfl (lv_at hl 0 rfl) ?_
  refine lv_iconst (v := 3) hx hb dX9_trim_35 (by decide) ?_
  refine lv_icmp_ge (tgt := 51) hx hb dX9_trim_36 (by decide) (fun c_21 => absurd c_21 (by decide)) (fun c_21 => ?_)
  refine lv_aload_n hx hb dX9_trim_39 rfl (lv_at hl 1 rfl) ?_
  refine lv_iload_n hx hb dX9_trim_40 rfl (lv_at hl 0 rfl) ?_
  refine kV_i (ci := 9) (As := [.int 0]) (rest := []) (wc := [(md, .inr (9, [.int 0, .ref m_all, .ref m_deeds, .ref m_trial, .int 1, .ref m_hasImage, .ref m_tape, .ref m_key, .ref m_answered, .int 0, .int 0, .int 0, .ref m_goes, .int 0, .ref m_hotOnes, .ref m_indexed, .ref m_isChanged, .int 0, .ref m_valueNow, .int 0, .int (-1), .int 0, .ref m_didSome, .ref m_sizes, .ref m_ends])), (m_all, aI cs 51207 g_18)]) (wr := []) hx hb hml hown hu hK hP hD hS hA hl.1 (c_X9_closes0 l D cs H.size md m_all g_18 m_deeds m_trial m_hasImage m_tape m_key m_answered m_goes m_hotOnes m_indexed m_isChanged m_valueNow m_didSome m_sizes m_ends 1 0 0 za_17) (gV u_1460 u_1462 u_59 u_76 u_1463) hd_X9_closes ⟨(Nat.le_of_ble_eq_true rfl), (Nat.le_of_ble_eq_true rfl)⟩ [1, 0] [] rfl rfl rfl rfl (by decide) rfl 0 rfl rfl rfl (Nat.le_of_ble_eq_true rfl) dX9_trim_41 ⟨(Nat.le_of_ble_eq_true rfl), (Nat.le_of_ble_eq_true rfl)⟩ (fun r_22 ut_23 H locs hw_24 hP hD hS => ?_)
  have hP : va_P D vwCl [(md, .inr (9, [.int 0, .ref m_all, .ref m_deeds, .ref m_trial, .int 1, .ref m_hasImage, .ref m_tape, .ref m_key, .ref m_answered, .int 0, .int 0, .int 0, .ref m_goes, .int 0, .ref m_hotOnes, .ref m_indexed, .ref m_isChanged, .int 0, .ref m_valueNow, .int 0, .int (-1), .int 0, .ref m_didSome, .ref m_sizes, .ref m_ends])), (m_all, aI cs 51207 ut_23)] H := hP
  have hD : va_D A [(md, .inr (9, [.int 0, .ref m_all, .ref m_deeds, .ref m_trial, .int 1, .ref m_hasImage, .ref m_tape, .ref m_key, .ref m_answered, .int 0, .int 0, .int 0, .ref m_goes, .int 0, .ref m_hotOnes, .ref m_indexed, .ref m_isChanged, .int 0, .ref m_valueNow, .int 0, .int (-1), .int 0, .ref m_didSome, .ref m_sizes, .ref m_ends])), (m_all, aI cs 51207 ut_23)] := hD
  obtain ⟨ug_25, rfl⟩ : ∃ z, z = ut_23 := ⟨_, rfl⟩
  have hP : va_P D vwCl [(md, .inr (9, [.int 0, .ref m_all, .ref m_deeds, .ref m_trial, .int 1, .ref m_hasImage, .ref m_tape, .ref m_key, .ref m_answered, .int 0, .int 0, .int 0, .ref m_goes, .int 0, .ref m_hotOnes, .ref m_indexed, .ref m_isChanged, .int 0, .ref m_valueNow, .int 0, .int (-1), .int 0, .ref m_didSome, .ref m_sizes, .ref m_ends])), (m_all, aI cs 51207 ug_25)] H := hP
  have hD : va_D A [(md, .inr (9, [.int 0, .ref m_all, .ref m_deeds, .ref m_trial, .int 1, .ref m_hasImage, .ref m_tape, .ref m_key, .ref m_answered, .int 0, .int 0, .int 0, .ref m_goes, .int 0, .ref m_hotOnes, .ref m_indexed, .ref m_isChanged, .int 0, .ref m_valueNow, .int 0, .int (-1), .int 0, .ref m_didSome, .ref m_sizes, .ref m_ends])), (m_all, aI cs 51207 ug_25)] := hD
  try dsimp only at hw_24
  obtain ⟨er_26, hf_27⟩ := hw_24
  subst er_26
  refine lv_pop hx hb dX9_trim_44 rfl ?_
  refine lv_iinc (v := 1) (lv' := [(1, .int 1), (0, .ref md)]) hx hb dX9_trim_45 hl (k := 0) rfl (by decide) (by decide) rfl (fun ls hl => ?_)
  refine lv_goto (tgt := 34) hx hb dX9_trim_48 (by decide) ?_
  refine lv_iload_n hx hb dX9_trim_34 rfl (lv_at hl 0 rfl) ?_
  refine lv_iconst (v := 3) hx hb dX9_trim_35 (by decide) ?_
  refine lv_icmp_ge (tgt := 51) hx hb dX9_trim_36 (by decide) (fun c_28 => absurd c_28 (by decide)) (fun c_28 => ?_)
  refine lv_aload_n hx hb dX9_trim_39 rfl (lv_at hl 1 rfl) ?_
  refine lv_iload_n hx hb dX9_trim_40 rfl (lv_at hl 0 rfl) ?_
  refine kV_i (ci := 9) (As := [.int 1]) (rest := []) (wc := [(md, .inr (9, [.int 0, .ref m_all, .ref m_deeds, .ref m_trial, .int 1, .ref m_hasImage, .ref m_tape, .ref m_key, .ref m_answered, .int 0, .int 0, .int 0, .ref m_goes, .int 0, .ref m_hotOnes, .ref m_indexed, .ref m_isChanged, .int 0, .ref m_valueNow, .int 0, .int (-1), .int 0, .ref m_didSome, .ref m_sizes, .ref m_ends])), (m_all, aI cs 51207 ug_25)]) (wr := []) hx hb hml hown hu hK hP hD hS hA hl.1 (c_X9_closes1 l D cs H.size md m_all ug_25 m_deeds m_trial m_hasImage m_tape m_key m_answered m_goes m_hotOnes m_indexed m_isChanged m_valueNow m_didSome m_sizes m_ends 1 0 0 hf_27) (gV u_1460 u_1462 u_59 u_76 u_1463) hd_X9_closes ⟨(Nat.le_of_ble_eq_true rfl), (Nat.le_of_ble_eq_true rfl)⟩ [0, 1] [] rfl rfl rfl rfl (by decide) rfl 0 rfl rfl rfl (Nat.le_of_ble_eq_true rfl) dX9_trim_41 ⟨(Nat.le_of_ble_eq_true rfl), (Nat.le_of_ble_eq_true rfl)⟩ (fun r_29 ut_30 H locs hw_31 hP hD hS => ?_)
  have hP : va_P D vwCl [(md, .inr (9, [.int 0, .ref m_all, .ref m_deeds, .ref m_trial, .int 1, .ref m_hasImage, .ref m_tape, .ref m_key, .ref m_answered, .int 0, .int 0, .int 0, .ref m_goes, .int 0, .ref m_hotOnes, .ref m_indexed, .ref m_isChanged, .int 0, .ref m_valueNow, .int 0, .int (-1), .int 0, .ref m_didSome, .ref m_sizes, .ref m_ends])), (m_all, aI cs 51207 ut_30)] H := hP
  have hD : va_D A [(md, .inr (9, [.int 0, .ref m_all, .ref m_deeds, .ref m_trial, .int 1, .ref m_hasImage, .ref m_tape, .ref m_key, .ref m_answered, .int 0, .int 0, .int 0, .ref m_goes, .int 0, .ref m_hotOnes, .ref m_indexed, .ref m_isChanged, .int 0, .ref m_valueNow, .int 0, .int (-1), .int 0, .ref m_didSome, .ref m_sizes, .ref m_ends])), (m_all, aI cs 51207 ut_30)] := hD
  obtain ⟨ug_32, rfl⟩ : ∃ z, z = ut_30 := ⟨_, rfl⟩
  have hP : va_P D vwCl [(md, .inr (9, [.int 0, .ref m_all, .ref m_deeds, .ref m_trial, .int 1, .ref m_hasImage, .ref m_tape, .ref m_key, .ref m_answered, .int 0, .int 0, .int 0, .ref m_goes, .int 0, .ref m_hotOnes, .ref m_indexed, .ref m_isChanged, .int 0, .ref m_valueNow, .int 0, .int (-1), .int 0, .ref m_didSome, .ref m_sizes, .ref m_ends])), (m_all, aI cs 51207 ug_32)] H := hP
  have hD : va_D A [(md, .inr (9, [.int 0, .ref m_all, .ref m_deeds, .ref m_trial, .int 1, .ref m_hasImage, .ref m_tape, .ref m_key, .ref m_answered, .int 0, .int 0, .int 0, .ref m_goes, .int 0, .ref m_hotOnes, .ref m_indexed, .ref m_isChanged, .int 0, .ref m_valueNow, .int 0, .int (-1), .int 0, .ref m_didSome, .ref m_sizes, .ref m_ends])), (m_all, aI cs 51207 ug_32)] := hD
  try dsimp only at hw_31
  obtain ⟨er_33, hf_34⟩ := hw_31
  subst er_33
  refine lv_pop hx hb dX9_trim_44 rfl ?_
  refine lv_iinc (v := 2) (lv' := [(1, .int 2), (0, .ref md)]) hx hb dX9_trim_45 hl (k := 0) rfl (by decide) (by decide) rfl (fun ls hl => ?_)
  refine lv_goto (tgt := 34) hx hb dX9_trim_48 (by decide) ?_
  refine lv_iload_n hx hb dX9_trim_34 rfl (lv_at hl 0 rfl) ?_
  refine lv_iconst (v := 3) hx hb dX9_trim_35 (by decide) ?_
  refine lv_icmp_ge (tgt := 51) hx hb dX9_trim_36 (by decide) (fun c_35 => absurd c_35 (by decide)) (fun c_35 => ?_)
  refine lv_aload_n hx hb dX9_trim_39 rfl (lv_at hl 1 rfl) ?_
  refine lv_iload_n hx hb dX9_trim_40 rfl (lv_at hl 0 rfl) ?_
  refine kV_i (ci := 9) (As := [.int 2]) (rest := []) (wc := [(md, .inr (9, [.int 0, .ref m_all, .ref m_deeds, .ref m_trial, .int 1, .ref m_hasImage, .ref m_tape, .ref m_key, .ref m_answered, .int 0, .int 0, .int 0, .ref m_goes, .int 0, .ref m_hotOnes, .ref m_indexed, .ref m_isChanged, .int 0, .ref m_valueNow, .int 0, .int (-1), .int 0, .ref m_didSome, .ref m_sizes, .ref m_ends])), (m_all, aI cs 51207 ug_32)]) (wr := []) hx hb hml hown hu hK hP hD hS hA hl.1 (c_X9_closes2 l D cs H.size md m_all ug_32 m_deeds m_trial m_hasImage m_tape m_key m_answered m_goes m_hotOnes m_indexed m_isChanged m_valueNow m_didSome m_sizes m_ends 1 0 0 hf_34) (gV u_1460 u_1462 u_59 u_76 u_1463) hd_X9_closes ⟨(Nat.le_of_ble_eq_true rfl), (Nat.le_of_ble_eq_true rfl)⟩ [0, 1] [] rfl rfl rfl rfl (by decide) rfl 0 rfl rfl rfl (Nat.le_of_ble_eq_true rfl) dX9_trim_41 ⟨(Nat.le_of_ble_eq_true rfl), (Nat.le_of_ble_eq_true rfl)⟩ (fun r_36 ut_37 H locs hw_38 hP hD hS => ?_)
  have hP : va_P D vwCl [(md, .inr (9, [.int 0, .ref m_all, .ref m_deeds, .ref m_trial, .int 1, .ref m_hasImage, .ref m_tape, .ref m_key, .ref m_answered, .int 0, .int 0, .int 0, .ref m_goes, .int 0, .ref m_hotOnes, .ref m_indexed, .ref m_isChanged, .int 0, .ref m_valueNow, .int 0, .int (-1), .int 0, .ref m_didSome, .ref m_sizes, .ref m_ends])), (m_all, aI cs 51207 ut_37)] H := hP
  have hD : va_D A [(md, .inr (9, [.int 0, .ref m_all, .ref m_deeds, .ref m_trial, .int 1, .ref m_hasImage, .ref m_tape, .ref m_key, .ref m_answered, .int 0, .int 0, .int 0, .ref m_goes, .int 0, .ref m_hotOnes, .ref m_indexed, .ref m_isChanged, .int 0, .ref m_valueNow, .int 0, .int (-1), .int 0, .ref m_didSome, .ref m_sizes, .ref m_ends])), (m_all, aI cs 51207 ut_37)] := hD
  obtain ⟨ug_39, rfl⟩ : ∃ z, z = ut_37 := ⟨_, rfl⟩
  have hP : va_P D vwCl [(md, .inr (9, [.int 0, .ref m_all, .ref m_deeds, .ref m_trial, .int 1, .ref m_hasImage, .ref m_tape, .ref m_key, .ref m_answered, .int 0, .int 0, .int 0, .ref m_goes, .int 0, .ref m_hotOnes, .ref m_indexed, .ref m_isChanged, .int 0, .ref m_valueNow, .int 0, .int (-1), .int 0, .ref m_didSome, .ref m_sizes, .ref m_ends])), (m_all, aI cs 51207 ug_39)] H := hP
  have hD : va_D A [(md, .inr (9, [.int 0, .ref m_all, .ref m_deeds, .ref m_trial, .int 1, .ref m_hasImage, .ref m_tape, .ref m_key, .ref m_answered, .int 0, .int 0, .int 0, .ref m_goes, .int 0, .ref m_hotOnes, .ref m_indexed, .ref m_isChanged, .int 0, .ref m_valueNow, .int 0, .int (-1), .int 0, .ref m_didSome, .ref m_sizes, .ref m_ends])), (m_all, aI cs 51207 ug_39)] := hD
  try dsimp only at hw_38
  obtain ⟨er_40, hf_41⟩ := hw_38
  subst er_40
  refine lv_pop hx hb dX9_trim_44 rfl ?_
  refine lv_iinc (v := 3) (lv' := [(1, .int 3), (0, .ref md)]) hx hb dX9_trim_45 hl (k := 0) rfl (by decide) (by decide) rfl (fun ls hl => ?_)
  refine lv_goto (tgt := 34) hx hb dX9_trim_48 (by decide) ?_
  refine lv_iload_n hx hb dX9_trim_34 rfl (lv_at hl 0 rfl) ?_
  refine lv_iconst (v := 3) hx hb dX9_trim_35 (by decide) ?_
  refine lv_icmp_ge (tgt := 51) hx hb dX9_trim_36 (by decide) (fun c_42 => ?_) (fun c_42 => absurd (by decide) c_42)
  refine lv_aload_n hx hb dX9_trim_51 rfl (lv_at hl 1 rfl) ?_
  refine lv_aload_n hx hb dX9_trim_52 rfl (lv_at hl 1 rfl) ?_
  refine va_get (D := D) (ci := 9) (v := .ref m_all) (C := RX9) (T := TX9) (N := 25) hx hb hu in_X9 hown hK.1 hP 0 rfl rfl 1 (by decide) (hu _ u_1081) (fun _ h9 => h9) rfl dX9_trim_53 ?_
  refine lv_iconst (v := 3) hx hb dX9_trim_56 (by decide) ?_
  refine va_iald hx hb hK.1 hP 1 0 rfl rfl (vin_c _ _ rfl) dX9_trim_57 ?_
  refine tpi (y := 0) ((hf_41 _ (cl_lt (vin_c _ _ rfl))).trans (by decide +kernel)) ?_
  refine kV_i (ci := 9) (As := [.int 0]) (rest := []) (wc := [(md, .inr (9, [.int 0, .ref m_all, .ref m_deeds, .ref m_trial, .int 1, .ref m_hasImage, .ref m_tape, .ref m_key, .ref m_answered, .int 0, .int 0, .int 0, .ref m_goes, .int 0, .ref m_hotOnes, .ref m_indexed, .ref m_isChanged, .int 0, .ref m_valueNow, .int 0, .int (-1), .int 0, .ref m_didSome, .ref m_sizes, .ref m_ends])), (m_all, aI cs 51207 ug_39)]) (wr := []) hx hb hml hown hu hK hP hD hS hA hl.1 (c_X9_victimBy l D cs H.size 0 md m_all ug_39 m_deeds m_trial m_hasImage m_tape m_key m_answered m_goes m_hotOnes m_indexed m_isChanged m_valueNow m_didSome m_sizes m_ends 1 0 0 hf_41) (gV u_1196 u_1198 u_15 u_76 u_1199) hd_X9_victimBy ⟨(Nat.le_of_ble_eq_true rfl), (Nat.le_of_ble_eq_true rfl)⟩ [0, 1] [] rfl rfl rfl rfl (by decide) rfl 0 rfl rfl rfl (Nat.le_of_ble_eq_true rfl) dX9_trim_58 ⟨(Nat.le_of_ble_eq_true rfl), (Nat.le_of_ble_eq_true rfl)⟩ (fun r_43 ut_44 H locs hw_45 hP hD hS => ?_)
  have hP : va_P D vwCl [(md, .inr (9, [.int 0, .ref m_all, .ref m_deeds, .ref m_trial, .int 1, .ref m_hasImage, .ref m_tape, .ref m_key, .ref m_answered, .int 0, .int 0, .int 0, .ref m_goes, .int 0, .ref m_hotOnes, .ref m_indexed, .ref m_isChanged, .int 0, .ref m_valueNow, .int 0, .int (-1), .int 0, .ref m_didSome, .ref m_sizes, .ref m_ends])), (m_all, aI cs 51207 ug_39)] H := hP
  have hD : va_D A [(md, .inr (9, [.int 0, .ref m_all, .ref m_deeds, .ref m_trial, .int 1, .ref m_hasImage, .ref m_tape, .ref m_key, .ref m_answered, .int 0, .int 0, .int 0, .ref m_goes, .int 0, .ref m_hotOnes, .ref m_indexed, .ref m_isChanged, .int 0, .ref m_valueNow, .int 0, .int (-1), .int 0, .ref m_didSome, .ref m_sizes, .ref m_ends])), (m_all, aI cs 51207 ug_39)] := hD
  have er_46 := hw_45
  subst er_46
  refine lv_istore_n (lv' := [(1, .int (-1)), (0, .ref md)]) hx hb dX9_trim_61 rfl hl (by decide) rfl (fun ls hl => ?_)
  refine lv_iload_n hx hb dX9_trim_62 rfl (lv_at hl 0 rfl) ?_
  refine lv_iconst (v := (-1)) hx hb dX9_trim_63 (by decide) ?_
  refine lv_icmp_eq (tgt := 87) hx hb dX9_trim_64 (by decide) (fun c_47 => ?_) (fun c_47 => absurd (by decide) c_47)
  refine lv_aload_n hx hb dX9_trim_87 rfl (lv_at hl 1 rfl) ?_
  refine kV_i (ci := 9) (As := []) (rest := []) (wc := [(md, .inr (9, [.int 0, .ref m_all, .ref m_deeds, .ref m_trial, .int 1, .ref m_hasImage, .ref m_tape, .ref m_key, .ref m_answered, .int 0, .int 0, .int 0, .ref m_goes, .int 0, .ref m_hotOnes, .ref m_indexed, .ref m_isChanged, .int 0, .ref m_valueNow, .int 0, .int (-1), .int 0, .ref m_didSome, .ref m_sizes, .ref m_ends])), (m_all, aI cs 51207 ug_39)]) (wr := []) hx hb hml hown hu hK hP hD hS hA hl.1 (c_X9_freeMany l D cs H.size md m_all ug_39 m_deeds m_trial m_hasImage m_tape m_key m_answered m_goes m_hotOnes m_indexed m_isChanged m_valueNow m_didSome m_sizes m_ends 1 0 0 hf_41) (gV u_1192 u_1194 u_14 u_76 u_1195) hd_X9_freeMany ⟨(Nat.le_of_ble_eq_true rfl), (Nat.le_of_ble_eq_true rfl)⟩ [0, 1] [] rfl rfl rfl rfl (by decide) rfl 0 rfl rfl rfl (Nat.le_of_ble_eq_true rfl) dX9_trim_88 ⟨(Nat.le_of_ble_eq_true rfl), (Nat.le_of_ble_eq_true rfl)⟩ (fun r_48 ut_49 H locs hw_50 hP hD hS => ?_)
  have hP : va_P D vwCl [(md, .inr (9, [.int 0, .ref m_all, .ref m_deeds, .ref m_trial, .int 1, .ref m_hasImage, .ref m_tape, .ref m_key, .ref m_answered, .int 0, .int 0, .int 0, .ref m_goes, .int 0, .ref m_hotOnes, .ref m_indexed, .ref m_isChanged, .int 0, .ref m_valueNow, .int 0, .int (-1), .int 0, .ref m_didSome, .ref m_sizes, .ref m_ends])), (m_all, aI cs 51207 ug_39)] H := hP
  have hD : va_D A [(md, .inr (9, [.int 0, .ref m_all, .ref m_deeds, .ref m_trial, .int 1, .ref m_hasImage, .ref m_tape, .ref m_key, .ref m_answered, .int 0, .int 0, .int 0, .ref m_goes, .int 0, .ref m_hotOnes, .ref m_indexed, .ref m_isChanged, .int 0, .ref m_valueNow, .int 0, .int (-1), .int 0, .ref m_didSome, .ref m_sizes, .ref m_ends])), (m_all, aI cs 51207 ug_39)] := hD
  have er_51 := hw_50
  subst er_51
  exact hz () hP hD hS rfl [] rfl rfl (Nat.le_of_ble_eq_true rfl) (Nat.le_of_ble_eq_true rfl) .int rfl rfl dX9_trim_91
