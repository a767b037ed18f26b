theorem u_1083 : Cond.fieldLink "KeyDriveModel" 22 "KeyDriveModel" "trial" "[I" ∈ U0 := um 1083 (by decide +kernel) (by decide +kernel)
theorem u_1081 : Cond.fieldLink "KeyDriveModel" 14 "KeyDriveModel" "all" "[I" ∈ U0 := um 1081 (by decide +kernel) (by decide +kernel)
theorem u_1084 : Cond.fieldLink "KeyDriveModel" 71 "KeyDriveModel" "deedMany" "I" ∈ U0 := um 1084 (by decide +kernel) (by decide +kernel)
theorem u_1082 : Cond.fieldLink "KeyDriveModel" 19 "KeyDriveModel" "deeds" "[I" ∈ U0 := um 1082 (by decide +kernel) (by decide +kernel)
theorem u_1179 : Cond.code yX9_tries prog_11_method_6_code 2 none ∈ U0 := um 1179 (by decide +kernel) (by decide +kernel)
theorem u_1176 : Cond.methodLink "KeyDriveModel" 65 yX9_tries ∈ U0 := um 1176 (by decide +kernel) (by decide +kernel)
theorem u_1178 : Cond.instanceMethod yX9_tries ∈ U0 := um 1178 (by decide +kernel) (by decide +kernel)
theorem u_10 : Cond.selects "KeyDriveModel" yX9_tries yX9_tries ∈ U0 := um 10 (by decide +kernel) (by decide +kernel)
theorem u_76 : Cond.initialized "KeyDriveModel" ∈ U0 := um 76 (by decide +kernel) (by decide +kernel)
theorem u_1227 : Cond.code yX9_notesTrial prog_11_method_5_code 2 none ∈ U0 := um 1227 (by decide +kernel) (by decide +kernel)
theorem u_1224 : Cond.methodLink "KeyDriveModel" 68 yX9_notesTrial ∈ U0 := um 1224 (by decide +kernel) (by decide +kernel)
theorem u_1226 : Cond.instanceMethod yX9_notesTrial ∈ U0 := um 1226 (by decide +kernel) (by decide +kernel)
theorem u_22 : Cond.selects "KeyDriveModel" yX9_notesTrial yX9_notesTrial ∈ U0 := um 22 (by decide +kernel) (by decide +kernel)
theorem u_1191 : Cond.code yX9_isFree prog_11_method_27_code 2 (some .boolean) ∈ U0 := um 1191 (by decide +kernel) (by decide +kernel)
theorem u_1188 : Cond.methodLink "KeyDriveModel" 126 yX9_isFree ∈ U0 := um 1188 (by decide +kernel) (by decide +kernel)
theorem u_1190 : Cond.instanceMethod yX9_isFree ∈ U0 := um 1190 (by decide +kernel) (by decide +kernel)
theorem u_13 : Cond.selects "KeyDriveModel" yX9_isFree yX9_isFree ∈ U0 := um 13 (by decide +kernel) (by decide +kernel)
theorem u_1207 : Cond.code yX9_stayingOn prog_11_method_29_code 4 (some .int) ∈ U0 := um 1207 (by decide +kernel) (by decide +kernel)
theorem u_1204 : Cond.methodLink "KeyDriveModel" 129 yX9_stayingOn ∈ U0 := um 1204 (by decide +kernel) (by decide +kernel)
theorem u_1206 : Cond.instanceMethod yX9_stayingOn ∈ U0 := um 1206 (by decide +kernel) (by decide +kernel)
theorem u_17 : Cond.selects "KeyDriveModel" yX9_stayingOn yX9_stayingOn ∈ U0 := um 17 (by decide +kernel) (by decide +kernel)
theorem u_1203 : Cond.code yX9_deadOn prog_11_method_30_code 2 (some .int) ∈ U0 := um 1203 (by decide +kernel) (by decide +kernel)
theorem u_1200 : Cond.methodLink "KeyDriveModel" 142 yX9_deadOn ∈ U0 := um 1200 (by decide +kernel) (by decide +kernel)
theorem u_1202 : Cond.instanceMethod yX9_deadOn ∈ U0 := um 1202 (by decide +kernel) (by decide +kernel)
theorem u_16 : Cond.selects "KeyDriveModel" yX9_deadOn yX9_deadOn ∈ U0 := um 16 (by decide +kernel) (by decide +kernel)
theorem u_1301 : Cond.constantLong "KeyDriveModel" 196 (-1) ∈ U0 := um 1301 (by decide +kernel) (by decide +kernel)
theorem u_1302 : Cond.constantLong "KeyDriveModel" 198 3 ∈ U0 := um 1302 (by decide +kernel) (by decide +kernel)
theorem u_1166 : Cond.code yX9_within prog_11_method_2_code 6 (some .boolean) ∈ U0 := um 1166 (by decide +kernel) (by decide +kernel)
theorem u_1164 : Cond.methodLink "KeyDriveModel" 80 yX9_within ∈ U0 := um 1164 (by decide +kernel) (by decide +kernel)
theorem u_1165 : Cond.static yX9_within ∈ U0 := um 1165 (by decide +kernel) (by decide +kernel)
theorem u_1171 : Cond.constantLong "KeyDriveModel" 78 8 ∈ U0 := um 1171 (by decide +kernel) (by decide +kernel)
theorem u_1089 : Cond.fieldLink "KeyDriveModel" 75 "KeyDriveModel" "taped" "I" ∈ U0 := um 1089 (by decide +kernel) (by decide +kernel)
theorem u_1519 : Cond.constantLong "KeyDriveModel" 290 6 ∈ U0 := um 1519 (by decide +kernel) (by decide +kernel)
theorem u_1520 : Cond.constantLong "KeyDriveModel" 292 52 ∈ U0 := um 1520 (by decide +kernel) (by decide +kernel)
theorem u_1097 : Cond.fieldLink "KeyDriveModel" 158 "KeyDriveModel" "hotMany" "I" ∈ U0 := um 1097 (by decide +kernel) (by decide +kernel)
theorem dX9_within_0 : decode cX9_within 0 = .ok (.lload_n 0, 1) := by decide +kernel
theorem dX9_within_1 : decode cX9_within 1 = .ok (.lload_n 2, 1) := by decide +kernel
theorem dX9_within_2 : decode cX9_within 2 = .ok (.lcmp, 1) := by decide +kernel
theorem dX9_within_3 : decode cX9_within 3 = .ok (.ifCond .lt 14, 3) := by decide +kernel
theorem dX9_within_6 : decode cX9_within 6 = .ok (.lload_n 0, 1) := by decide +kernel
theorem dX9_within_7 : decode cX9_within 7 = .ok (.lload 4, 2) := by decide +kernel
theorem dX9_within_9 : decode cX9_within 9 = .ok (.lcmp, 1) := by decide +kernel
theorem dX9_within_10 : decode cX9_within 10 = .ok (.ifCond .gt 7, 3) := by decide +kernel
theorem dX9_within_13 : decode cX9_within 13 = .ok (.iconst 1, 1) := by decide +kernel
theorem dX9_within_14 : decode cX9_within 14 = .ok (.goto 4, 3) := by decide +kernel
theorem dX9_within_17 : decode cX9_within 17 = .ok (.iconst 0, 1) := by decide +kernel
theorem dX9_within_18 : decode cX9_within 18 = .ok (.ireturn, 1) := by decide +kernel
theorem dX9_tries_0 : decode cX9_tries 0 = .ok (.iconst 0, 1) := by decide +kernel
theorem dX9_tries_1 : decode cX9_tries 1 = .ok (.istore_n 1, 1) := by decide +kernel
theorem dX9_tries_2 : decode cX9_tries 2 = .ok (.iload_n 1, 1) := by decide +kernel
theorem dX9_tries_3 : decode cX9_tries 3 = .ok (.sipush 17069, 3) := by decide +kernel
theorem dX9_tries_6 : decode cX9_tries 6 = .ok (.if_icmp .ge 21, 3) := by decide +kernel
theorem dX9_tries_9 : decode cX9_tries 9 = .ok (.aload_n 0, 1) := by decide +kernel
theorem dX9_tries_10 : decode cX9_tries 10 = .ok (.getfield 22, 3) := by decide +kernel
theorem dX9_tries_13 : decode cX9_tries 13 = .ok (.iload_n 1, 1) := by decide +kernel
theorem dX9_tries_14 : decode cX9_tries 14 = .ok (.aload_n 0, 1) := by decide +kernel
theorem dX9_tries_15 : decode cX9_tries 15 = .ok (.getfield 14, 3) := by decide +kernel
theorem dX9_tries_18 : decode cX9_tries 18 = .ok (.iload_n 1, 1) := by decide +kernel
theorem dX9_tries_19 : decode cX9_tries 19 = .ok (.iaload, 1) := by decide +kernel
theorem dX9_tries_20 : decode cX9_tries 20 = .ok (.iastore, 1) := by decide +kernel
theorem dX9_tries_21 : decode cX9_tries 21 = .ok (.iinc 1 1, 3) := by decide +kernel
theorem dX9_tries_24 : decode cX9_tries 24 = .ok (.goto (-22), 3) := by decide +kernel
theorem dX9_tries_27 : decode cX9_tries 27 = .ok (.return_, 1) := by decide +kernel
theorem dX9_notesTrial_0 : decode cX9_notesTrial 0 = .ok (.aload_n 0, 1) := by decide +kernel
theorem dX9_notesTrial_1 : decode cX9_notesTrial 1 = .ok (.getfield 71, 3) := by decide +kernel
theorem dX9_notesTrial_4 : decode cX9_notesTrial 4 = .ok (.bipush 10, 2) := by decide +kernel
theorem dX9_notesTrial_6 : decode cX9_notesTrial 6 = .ok (.if_icmp .ne 43, 3) := by decide +kernel
theorem dX9_notesTrial_49 : decode cX9_notesTrial 49 = .ok (.iconst 0, 1) := by decide +kernel
theorem dX9_notesTrial_50 : decode cX9_notesTrial 50 = .ok (.istore_n 1, 1) := by decide +kernel
theorem dX9_notesTrial_51 : decode cX9_notesTrial 51 = .ok (.iload_n 1, 1) := by decide +kernel
theorem dX9_notesTrial_52 : decode cX9_notesTrial 52 = .ok (.sipush 17069, 3) := by decide +kernel
theorem dX9_notesTrial_55 : decode cX9_notesTrial 55 = .ok (.if_icmp .ge 30, 3) := by decide +kernel
theorem dX9_notesTrial_58 : decode cX9_notesTrial 58 = .ok (.aload_n 0, 1) := by decide +kernel
theorem dX9_notesTrial_59 : decode cX9_notesTrial 59 = .ok (.getfield 19, 3) := by decide +kernel
theorem dX9_notesTrial_62 : decode cX9_notesTrial 62 = .ok (.sipush 17069, 3) := by decide +kernel
theorem dX9_notesTrial_65 : decode cX9_notesTrial 65 = .ok (.aload_n 0, 1) := by decide +kernel
theorem dX9_notesTrial_66 : decode cX9_notesTrial 66 = .ok (.getfield 71, 3) := by decide +kernel
theorem dX9_notesTrial_69 : decode cX9_notesTrial 69 = .ok (.imul, 1) := by decide +kernel
theorem dX9_notesTrial_70 : decode cX9_notesTrial 70 = .ok (.iload_n 1, 1) := by decide +kernel
theorem dX9_notesTrial_71 : decode cX9_notesTrial 71 = .ok (.iadd, 1) := by decide +kernel
theorem dX9_notesTrial_72 : decode cX9_notesTrial 72 = .ok (.aload_n 0, 1) := by decide +kernel
theorem dX9_notesTrial_73 : decode cX9_notesTrial 73 = .ok (.getfield 22, 3) := by decide +kernel
theorem dX9_notesTrial_76 : decode cX9_notesTrial 76 = .ok (.iload_n 1, 1) := by decide +kernel
theorem dX9_notesTrial_77 : decode cX9_notesTrial 77 = .ok (.iaload, 1) := by decide +kernel
theorem dX9_notesTrial_78 : decode cX9_notesTrial 78 = .ok (.iastore, 1) := by decide +kernel
theorem dX9_notesTrial_79 : decode cX9_notesTrial 79 = .ok (.iinc 1 1, 3) := by decide +kernel
theorem dX9_notesTrial_82 : decode cX9_notesTrial 82 = .ok (.goto (-31), 3) := by decide +kernel
theorem dX9_notesTrial_85 : decode cX9_notesTrial 85 = .ok (.aload_n 0, 1) := by decide +kernel
theorem dX9_notesTrial_86 : decode cX9_notesTrial 86 = .ok (.dup, 1) := by decide +kernel
theorem dX9_notesTrial_87 : decode cX9_notesTrial 87 = .ok (.getfield 71, 3) := by decide +kernel
theorem dX9_notesTrial_90 : decode cX9_notesTrial 90 = .ok (.iconst 1, 1) := by decide +kernel
theorem dX9_notesTrial_91 : decode cX9_notesTrial 91 = .ok (.iadd, 1) := by decide +kernel
theorem dX9_notesTrial_92 : decode cX9_notesTrial 92 = .ok (.putfield 71, 3) := by decide +kernel
theorem dX9_notesTrial_95 : decode cX9_notesTrial 95 = .ok (.return_, 1) := by decide +kernel
theorem dX9_notes_0 : decode cX9_notes 0 = .ok (.aload_n 0, 1) := by decide +kernel
theorem dX9_notes_1 : decode cX9_notes 1 = .ok (.invokevirtual 65, 3) := by decide +kernel
theorem dX9_notes_4 : decode cX9_notes 4 = .ok (.aload_n 0, 1) := by decide +kernel
theorem dX9_notes_5 : decode cX9_notes 5 = .ok (.invokevirtual 68, 3) := by decide +kernel
theorem dX9_notes_8 : decode cX9_notes 8 = .ok (.return_, 1) := by decide +kernel
theorem dX9_bringsBack_0 : decode cX9_bringsBack 0 = .ok (.iconst 0, 1) := by decide +kernel
theorem dX9_bringsBack_1 : decode cX9_bringsBack 1 = .ok (.istore_n 1, 1) := by decide +kernel
theorem dX9_bringsBack_2 : decode cX9_bringsBack 2 = .ok (.iload_n 1, 1) := by decide +kernel
theorem dX9_bringsBack_3 : decode cX9_bringsBack 3 = .ok (.sipush 17069, 3) := by decide +kernel
theorem dX9_bringsBack_6 : decode cX9_bringsBack 6 = .ok (.if_icmp .ge 21, 3) := by decide +kernel
theorem dX9_bringsBack_9 : decode cX9_bringsBack 9 = .ok (.aload_n 0, 1) := by decide +kernel
theorem dX9_bringsBack_10 : decode cX9_bringsBack 10 = .ok (.getfield 14, 3) := by decide +kernel
theorem dX9_bringsBack_13 : decode cX9_bringsBack 13 = .ok (.iload_n 1, 1) := by decide +kernel
theorem dX9_bringsBack_14 : decode cX9_bringsBack 14 = .ok (.aload_n 0, 1) := by decide +kernel
theorem dX9_bringsBack_15 : decode cX9_bringsBack 15 = .ok (.getfield 22, 3) := by decide +kernel
theorem dX9_bringsBack_18 : decode cX9_bringsBack 18 = .ok (.iload_n 1, 1) := by decide +kernel
theorem dX9_bringsBack_19 : decode cX9_bringsBack 19 = .ok (.iaload, 1) := by decide +kernel
theorem dX9_bringsBack_20 : decode cX9_bringsBack 20 = .ok (.iastore, 1) := by decide +kernel
theorem dX9_bringsBack_21 : decode cX9_bringsBack 21 = .ok (.iinc 1 1, 3) := by decide +kernel
theorem dX9_bringsBack_24 : decode cX9_bringsBack 24 = .ok (.goto (-22), 3) := by decide +kernel
theorem dX9_bringsBack_27 : decode cX9_bringsBack 27 = .ok (.return_, 1) := by decide +kernel
theorem dX9_isFree_0 : decode cX9_isFree 0 = .ok (.aload_n 0, 1) := by decide +kernel
theorem dX9_isFree_1 : decode cX9_isFree 1 = .ok (.getfield 14, 3) := by decide +kernel
theorem dX9_isFree_4 : decode cX9_isFree 4 = .ok (.bipush 7, 2) := by decide +kernel
theorem dX9_isFree_6 : decode cX9_isFree 6 = .ok (.iload_n 1, 1) := by decide +kernel
theorem dX9_isFree_7 : decode cX9_isFree 7 = .ok (.iadd, 1) := by decide +kernel
theorem dX9_isFree_8 : decode cX9_isFree 8 = .ok (.iaload, 1) := by decide +kernel
theorem dX9_isFree_9 : decode cX9_isFree 9 = .ok (.ifCond .ne 7, 3) := by decide +kernel
theorem dX9_isFree_12 : decode cX9_isFree 12 = .ok (.iconst 1, 1) := by decide +kernel
theorem dX9_isFree_13 : decode cX9_isFree 13 = .ok (.goto 4, 3) := by decide +kernel
theorem dX9_isFree_17 : decode cX9_isFree 17 = .ok (.ireturn, 1) := by decide +kernel
theorem dX9_freeMany_0 : decode cX9_freeMany 0 = .ok (.iconst 0, 1) := by decide +kernel
theorem dX9_freeMany_1 : decode cX9_freeMany 1 = .ok (.istore_n 1, 1) := by decide +kernel
theorem dX9_freeMany_2 : decode cX9_freeMany 2 = .ok (.iconst 0, 1) := by decide +kernel
theorem dX9_freeMany_3 : decode cX9_freeMany 3 = .ok (.istore_n 2, 1) := by decide +kernel
theorem dX9_freeMany_4 : decode cX9_freeMany 4 = .ok (.iload_n 2, 1) := by decide +kernel
theorem dX9_freeMany_5 : decode cX9_freeMany 5 = .ok (.bipush 24, 2) := by decide +kernel
theorem dX9_freeMany_7 : decode cX9_freeMany 7 = .ok (.if_icmp .ge 25, 3) := by decide +kernel
theorem dX9_freeMany_10 : decode cX9_freeMany 10 = .ok (.iload_n 1, 1) := by decide +kernel
theorem dX9_freeMany_11 : decode cX9_freeMany 11 = .ok (.aload_n 0, 1) := by decide +kernel
theorem dX9_freeMany_12 : decode cX9_freeMany 12 = .ok (.iload_n 2, 1) := by decide +kernel
theorem dX9_freeMany_13 : decode cX9_freeMany 13 = .ok (.invokevirtual 126, 3) := by decide +kernel
theorem dX9_freeMany_16 : decode cX9_freeMany 16 = .ok (.ifCond .eq 7, 3) := by decide +kernel
theorem dX9_freeMany_19 : decode cX9_freeMany 19 = .ok (.iconst 1, 1) := by decide +kernel
theorem dX9_freeMany_20 : decode cX9_freeMany 20 = .ok (.goto 4, 3) := by decide +kernel
theorem dX9_freeMany_24 : decode cX9_freeMany 24 = .ok (.iadd, 1) := by decide +kernel
theorem dX9_freeMany_25 : decode cX9_freeMany 25 = .ok (.istore_n 1, 1) := by decide +kernel
theorem dX9_freeMany_26 : decode cX9_freeMany 26 = .ok (.iinc 2 1, 3) := by decide +kernel
theorem dX9_freeMany_29 : decode cX9_freeMany 29 = .ok (.goto (-25), 3) := by decide +kernel
theorem dX9_freeMany_32 : decode cX9_freeMany 32 = .ok (.iload_n 1, 1) := by decide +kernel
theorem dX9_freeMany_33 : decode cX9_freeMany 33 = .ok (.ireturn, 1) := by decide +kernel
theorem dX9_stayingOn_0 : decode cX9_stayingOn 0 = .ok (.iconst 0, 1) := by decide +kernel
theorem dX9_stayingOn_1 : decode cX9_stayingOn 1 = .ok (.istore_n 2, 1) := by decide +kernel
theorem dX9_stayingOn_2 : decode cX9_stayingOn 2 = .ok (.iconst 0, 1) := by decide +kernel
theorem dX9_stayingOn_3 : decode cX9_stayingOn 3 = .ok (.istore_n 3, 1) := by decide +kernel
theorem dX9_stayingOn_4 : decode cX9_stayingOn 4 = .ok (.iload_n 3, 1) := by decide +kernel
theorem dX9_stayingOn_5 : decode cX9_stayingOn 5 = .ok (.aload_n 0, 1) := by decide +kernel
theorem dX9_stayingOn_6 : decode cX9_stayingOn 6 = .ok (.getfield 14, 3) := by decide +kernel
theorem dX9_stayingOn_9 : decode cX9_stayingOn 9 = .ok (.sipush 1628, 3) := by decide +kernel
theorem dX9_stayingOn_12 : decode cX9_stayingOn 12 = .ok (.iaload, 1) := by decide +kernel
theorem dX9_stayingOn_13 : decode cX9_stayingOn 13 = .ok (.if_icmp .ge 33, 3) := by decide +kernel
theorem dX9_stayingOn_46 : decode cX9_stayingOn 46 = .ok (.iload_n 2, 1) := by decide +kernel
theorem dX9_stayingOn_47 : decode cX9_stayingOn 47 = .ok (.ireturn, 1) := by decide +kernel
theorem dX9_liveOn_0 : decode cX9_liveOn 0 = .ok (.iconst 0, 1) := by decide +kernel
theorem dX9_liveOn_1 : decode cX9_liveOn 1 = .ok (.istore_n 2, 1) := by decide +kernel
theorem dX9_liveOn_2 : decode cX9_liveOn 2 = .ok (.iconst 0, 1) := by decide +kernel
theorem dX9_liveOn_3 : decode cX9_liveOn 3 = .ok (.istore_n 3, 1) := by decide +kernel
theorem dX9_liveOn_4 : decode cX9_liveOn 4 = .ok (.iload_n 3, 1) := by decide +kernel
theorem dX9_liveOn_5 : decode cX9_liveOn 5 = .ok (.aload_n 0, 1) := by decide +kernel
theorem dX9_liveOn_6 : decode cX9_liveOn 6 = .ok (.getfield 14, 3) := by decide +kernel
theorem dX9_liveOn_9 : decode cX9_liveOn 9 = .ok (.sipush 1628, 3) := by decide +kernel
theorem dX9_liveOn_12 : decode cX9_liveOn 12 = .ok (.iaload, 1) := by decide +kernel
theorem dX9_liveOn_13 : decode cX9_liveOn 13 = .ok (.if_icmp .ge 41, 3) := by decide +kernel
theorem dX9_liveOn_54 : decode cX9_liveOn 54 = .ok (.iload_n 2, 1) := by decide +kernel
theorem dX9_liveOn_55 : decode cX9_liveOn 55 = .ok (.ireturn, 1) := by decide +kernel
theorem dX9_deadOn_0 : decode cX9_deadOn 0 = .ok (.aload_n 0, 1) := by decide +kernel
theorem dX9_deadOn_1 : decode cX9_deadOn 1 = .ok (.getfield 14, 3) := by decide +kernel
theorem dX9_deadOn_4 : decode cX9_deadOn 4 = .ok (.bipush 7, 2) := by decide +kernel
theorem dX9_deadOn_6 : decode cX9_deadOn 6 = .ok (.iload_n 1, 1) := by decide +kernel
theorem dX9_deadOn_7 : decode cX9_deadOn 7 = .ok (.iadd, 1) := by decide +kernel
theorem dX9_deadOn_8 : decode cX9_deadOn 8 = .ok (.iaload, 1) := by decide +kernel
theorem dX9_deadOn_9 : decode cX9_deadOn 9 = .ok (.aload_n 0, 1) := by decide +kernel
theorem dX9_deadOn_10 : decode cX9_deadOn 10 = .ok (.iload_n 1, 1) := by decide +kernel
theorem dX9_deadOn_11 : decode cX9_deadOn 11 = .ok (.invokevirtual 129, 3) := by decide +kernel
theorem dX9_deadOn_14 : decode cX9_deadOn 14 = .ok (.isub, 1) := by decide +kernel
theorem dX9_deadOn_15 : decode cX9_deadOn 15 = .ok (.ireturn, 1) := by decide +kernel
theorem dX9_victimBy_0 : decode cX9_victimBy 0 = .ok (.iconst (-1), 1) := by decide +kernel
theorem dX9_victimBy_1 : decode cX9_victimBy 1 = .ok (.istore_n 2, 1) := by decide +kernel
theorem dX9_victimBy_2 : decode cX9_victimBy 2 = .ok (.iconst 0, 1) := by decide +kernel
theorem dX9_victimBy_3 : decode cX9_victimBy 3 = .ok (.istore_n 3, 1) := by decide +kernel
theorem dX9_victimBy_4 : decode cX9_victimBy 4 = .ok (.iconst 0, 1) := by decide +kernel
theorem dX9_victimBy_5 : decode cX9_victimBy 5 = .ok (.istore 4, 2) := by decide +kernel
theorem dX9_victimBy_7 : decode cX9_victimBy 7 = .ok (.iload 4, 2) := by decide +kernel
theorem dX9_victimBy_9 : decode cX9_victimBy 9 = .ok (.bipush 24, 2) := by decide +kernel
theorem dX9_victimBy_11 : decode cX9_victimBy 11 = .ok (.if_icmp .ge 82, 3) := by decide +kernel
theorem dX9_victimBy_14 : decode cX9_victimBy 14 = .ok (.aload_n 0, 1) := by decide +kernel
theorem dX9_victimBy_15 : decode cX9_victimBy 15 = .ok (.iload 4, 2) := by decide +kernel
theorem dX9_victimBy_17 : decode cX9_victimBy 17 = .ok (.invokevirtual 142, 3) := by decide +kernel
theorem dX9_victimBy_20 : decode cX9_victimBy 20 = .ok (.istore 5, 2) := by decide +kernel
theorem dX9_victimBy_22 : decode cX9_victimBy 22 = .ok (.iload 5, 2) := by decide +kernel
theorem dX9_victimBy_24 : decode cX9_victimBy 24 = .ok (.ifCond .ne 6, 3) := by decide +kernel
theorem dX9_victimBy_27 : decode cX9_victimBy 27 = .ok (.goto 60, 3) := by decide +kernel
theorem dX9_victimBy_87 : decode cX9_victimBy 87 = .ok (.iinc 4 1, 3) := by decide +kernel
theorem dX9_victimBy_90 : decode cX9_victimBy 90 = .ok (.goto (-83), 3) := by decide +kernel
theorem dX9_victimBy_93 : decode cX9_victimBy 93 = .ok (.iload_n 2, 1) := by decide +kernel
theorem dX9_victimBy_94 : decode cX9_victimBy 94 = .ok (.ireturn, 1) := by decide +kernel
theorem dX9_momentOf_0 : decode cX9_momentOf 0 = .ok (.aload_n 0, 1) := by decide +kernel
theorem dX9_momentOf_1 : decode cX9_momentOf 1 = .ok (.getfield 14, 3) := by decide +kernel
theorem dX9_momentOf_4 : decode cX9_momentOf 4 = .ok (.bipush 59, 2) := by decide +kernel
theorem dX9_momentOf_6 : decode cX9_momentOf 6 = .ok (.bipush 11, 2) := by decide +kernel
theorem dX9_momentOf_8 : decode cX9_momentOf 8 = .ok (.iload_n 1, 1) := by decide +kernel
theorem dX9_momentOf_9 : decode cX9_momentOf 9 = .ok (.imul, 1) := by decide +kernel
theorem dX9_momentOf_10 : decode cX9_momentOf 10 = .ok (.iadd, 1) := by decide +kernel
theorem dX9_momentOf_11 : decode cX9_momentOf 11 = .ok (.iconst 0, 1) := by decide +kernel
theorem dX9_momentOf_12 : decode cX9_momentOf 12 = .ok (.iadd, 1) := by decide +kernel
theorem dX9_momentOf_13 : decode cX9_momentOf 13 = .ok (.iaload, 1) := by decide +kernel
theorem dX9_momentOf_14 : decode cX9_momentOf 14 = .ok (.ireturn, 1) := by decide +kernel
theorem dX9_isAt_0 : decode cX9_isAt 0 = .ok (.iload_n 0, 1) := by decide +kernel
theorem dX9_isAt_1 : decode cX9_isAt 1 = .ok (.i2l, 1) := by decide +kernel
theorem dX9_isAt_2 : decode cX9_isAt 2 = .ok (.ldc2_w 196, 3) := by decide +kernel
theorem dX9_isAt_5 : decode cX9_isAt 5 = .ok (.ldc2_w 198, 3) := by decide +kernel
theorem dX9_isAt_8 : decode cX9_isAt 8 = .ok (.invokestatic 80, 3) := by decide +kernel
theorem dX9_isAt_11 : decode cX9_isAt 11 = .ok (.ireturn, 1) := by decide +kernel
theorem dX9_momentAt_0 : decode cX9_momentAt 0 = .ok (.iload_n 1, 1) := by decide +kernel
theorem dX9_momentAt_1 : decode cX9_momentAt 1 = .ok (.iconst (-1), 1) := by decide +kernel
theorem dX9_momentAt_2 : decode cX9_momentAt 2 = .ok (.if_icmp .ne 12, 3) := by decide +kernel
theorem dX9_momentAt_5 : decode cX9_momentAt 5 = .ok (.aload_n 0, 1) := by decide +kernel
theorem dX9_momentAt_6 : decode cX9_momentAt 6 = .ok (.getfield 14, 3) := by decide +kernel
theorem dX9_momentAt_9 : decode cX9_momentAt 9 = .ok (.iconst 0, 1) := by decide +kernel
theorem dX9_momentAt_10 : decode cX9_momentAt 10 = .ok (.iaload, 1) := by decide +kernel
theorem dX9_momentAt_11 : decode cX9_momentAt 11 = .ok (.goto 30, 3) := by decide +kernel
theorem dX9_momentAt_14 : decode cX9_momentAt 14 = .ok (.aload_n 0, 1) := by decide +kernel
theorem dX9_momentAt_15 : decode cX9_momentAt 15 = .ok (.getfield 14, 3) := by decide +kernel
theorem dX9_momentAt_18 : decode cX9_momentAt 18 = .ok (.bipush 55, 2) := by decide +kernel
theorem dX9_momentAt_20 : decode cX9_momentAt 20 = .ok (.iload_n 1, 1) := by decide +kernel
theorem dX9_momentAt_21 : decode cX9_momentAt 21 = .ok (.iadd, 1) := by decide +kernel
theorem dX9_momentAt_22 : decode cX9_momentAt 22 = .ok (.iaload, 1) := by decide +kernel
theorem dX9_momentAt_23 : decode cX9_momentAt 23 = .ok (.iconst (-1), 1) := by decide +kernel
theorem dX9_momentAt_24 : decode cX9_momentAt 24 = .ok (.if_icmp .ne 8, 3) := by decide +kernel
theorem dX9_momentAt_27 : decode cX9_momentAt 27 = .ok (.bipush (-6), 2) := by decide +kernel
theorem dX9_momentAt_29 : decode cX9_momentAt 29 = .ok (.goto 12, 3) := by decide +kernel
theorem dX9_momentAt_41 : decode cX9_momentAt 41 = .ok (.ireturn, 1) := by decide +kernel
theorem dX9_isKey_0 : decode cX9_isKey 0 = .ok (.iload_n 1, 1) := by decide +kernel
theorem dX9_isKey_1 : decode cX9_isKey 1 = .ok (.i2l, 1) := by decide +kernel
theorem dX9_isKey_2 : decode cX9_isKey 2 = .ok (.lconst 1, 1) := by decide +kernel
theorem dX9_isKey_3 : decode cX9_isKey 3 = .ok (.ldc2_w 78, 3) := by decide +kernel
theorem dX9_isKey_6 : decode cX9_isKey 6 = .ok (.invokestatic 80, 3) := by decide +kernel
theorem dX9_isKey_9 : decode cX9_isKey 9 = .ok (.ifCond .eq 15, 3) := by decide +kernel
theorem dX9_isKey_12 : decode cX9_isKey 12 = .ok (.iload_n 1, 1) := by decide +kernel
theorem dX9_isKey_13 : decode cX9_isKey 13 = .ok (.aload_n 0, 1) := by decide +kernel
theorem dX9_isKey_14 : decode cX9_isKey 14 = .ok (.getfield 75, 3) := by decide +kernel
theorem dX9_isKey_17 : decode cX9_isKey 17 = .ok (.if_icmp .gt 7, 3) := by decide +kernel
theorem dX9_isKey_24 : decode cX9_isKey 24 = .ok (.iconst 0, 1) := by decide +kernel
theorem dX9_isKey_25 : decode cX9_isKey 25 = .ok (.ireturn, 1) := by decide +kernel
theorem dX9_isSize_0 : decode cX9_isSize 0 = .ok (.iload_n 0, 1) := by decide +kernel
theorem dX9_isSize_1 : decode cX9_isSize 1 = .ok (.i2l, 1) := by decide +kernel
theorem dX9_isSize_2 : decode cX9_isSize 2 = .ok (.ldc2_w 290, 3) := by decide +kernel
theorem dX9_isSize_5 : decode cX9_isSize 5 = .ok (.ldc2_w 292, 3) := by decide +kernel
theorem dX9_isSize_8 : decode cX9_isSize 8 = .ok (.invokestatic 80, 3) := by decide +kernel
theorem dX9_isSize_11 : decode cX9_isSize 11 = .ok (.ifCond .eq 13, 3) := by decide +kernel
theorem dX9_isSize_14 : decode cX9_isSize 14 = .ok (.iload_n 0, 1) := by decide +kernel
theorem dX9_isSize_15 : decode cX9_isSize 15 = .ok (.iconst 2, 1) := by decide +kernel
theorem dX9_isSize_16 : decode cX9_isSize 16 = .ok (.irem, 1) := by decide +kernel
theorem dX9_isSize_17 : decode cX9_isSize 17 = .ok (.ifCond .ne 7, 3) := by decide +kernel
theorem dX9_isSize_20 : decode cX9_isSize 20 = .ok (.iconst 1, 1) := by decide +kernel
theorem dX9_isSize_21 : decode cX9_isSize 21 = .ok (.goto 4, 3) := by decide +kernel
theorem dX9_isSize_24 : decode cX9_isSize 24 = .ok (.iconst 0, 1) := by decide +kernel
theorem dX9_isSize_25 : decode cX9_isSize 25 = .ok (.ireturn, 1) := by decide +kernel
theorem dX9_drops_0 : decode cX9_drops 0 = .ok (.aload_n 0, 1) := by decide +kernel
theorem dX9_drops_1 : decode cX9_drops 1 = .ok (.getfield 14, 3) := by decide +kernel
theorem dX9_drops_4 : decode cX9_drops 4 = .ok (.sipush 1628, 3) := by decide +kernel
theorem dX9_drops_7 : decode cX9_drops 7 = .ok (.iaload, 1) := by decide +kernel
theorem dX9_drops_8 : decode cX9_drops 8 = .ok (.istore_n 1, 1) := by decide +kernel
theorem dX9_drops_9 : decode cX9_drops 9 = .ok (.iconst 0, 1) := by decide +kernel
theorem dX9_drops_10 : decode cX9_drops 10 = .ok (.istore_n 2, 1) := by decide +kernel
theorem dX9_drops_11 : decode cX9_drops 11 = .ok (.iload_n 2, 1) := by decide +kernel
theorem dX9_drops_12 : decode cX9_drops 12 = .ok (.iload_n 1, 1) := by decide +kernel
theorem dX9_drops_13 : decode cX9_drops 13 = .ok (.if_icmp .ge 28, 3) := by decide +kernel
theorem dX9_drops_41 : decode cX9_drops 41 = .ok (.iconst 1, 1) := by decide +kernel
theorem dX9_drops_42 : decode cX9_drops 42 = .ok (.istore_n 2, 1) := by decide +kernel
theorem dX9_drops_43 : decode cX9_drops 43 = .ok (.iconst 0, 1) := by decide +kernel
theorem dX9_drops_44 : decode cX9_drops 44 = .ok (.istore_n 3, 1) := by decide +kernel
theorem dX9_drops_45 : decode cX9_drops 45 = .ok (.iload_n 3, 1) := by decide +kernel
theorem dX9_drops_46 : decode cX9_drops 46 = .ok (.iload_n 1, 1) := by decide +kernel
theorem dX9_drops_47 : decode cX9_drops 47 = .ok (.if_icmp .ge 63, 3) := by decide +kernel
theorem dX9_drops_110 : decode cX9_drops 110 = .ok (.iconst 0, 1) := by decide +kernel
theorem dX9_drops_111 : decode cX9_drops 111 = .ok (.istore_n 3, 1) := by decide +kernel
theorem dX9_drops_112 : decode cX9_drops 112 = .ok (.iconst 0, 1) := by decide +kernel
theorem dX9_drops_113 : decode cX9_drops 113 = .ok (.istore 4, 2) := by decide +kernel
theorem dX9_drops_115 : decode cX9_drops 115 = .ok (.iconst 0, 1) := by decide +kernel
theorem dX9_drops_116 : decode cX9_drops 116 = .ok (.istore 5, 2) := by decide +kernel
theorem dX9_drops_118 : decode cX9_drops 118 = .ok (.iload 5, 2) := by decide +kernel
theorem dX9_drops_120 : decode cX9_drops 120 = .ok (.iload_n 1, 1) := by decide +kernel
theorem dX9_drops_121 : decode cX9_drops 121 = .ok (.if_icmp .ge 92, 3) := by decide +kernel
theorem dX9_drops_213 : decode cX9_drops 213 = .ok (.bipush 8, 2) := by decide +kernel
theorem dX9_drops_215 : decode cX9_drops 215 = .ok (.iload 4, 2) := by decide +kernel
theorem dX9_drops_217 : decode cX9_drops 217 = .ok (.imul, 1) := by decide +kernel
theorem dX9_drops_218 : decode cX9_drops 218 = .ok (.istore 5, 2) := by decide +kernel
theorem dX9_drops_220 : decode cX9_drops 220 = .ok (.iload 5, 2) := by decide +kernel
theorem dX9_drops_222 : decode cX9_drops 222 = .ok (.bipush 8, 2) := by decide +kernel
theorem dX9_drops_224 : decode cX9_drops 224 = .ok (.iload_n 1, 1) := by decide +kernel
theorem dX9_drops_225 : decode cX9_drops 225 = .ok (.imul, 1) := by decide +kernel
theorem dX9_drops_226 : decode cX9_drops 226 = .ok (.if_icmp .ge 21, 3) := by decide +kernel
theorem dX9_drops_247 : decode cX9_drops 247 = .ok (.aload_n 0, 1) := by decide +kernel
theorem dX9_drops_248 : decode cX9_drops 248 = .ok (.getfield 14, 3) := by decide +kernel
theorem dX9_drops_251 : decode cX9_drops 251 = .ok (.sipush 1628, 3) := by decide +kernel
theorem dX9_drops_254 : decode cX9_drops 254 = .ok (.iload 4, 2) := by decide +kernel
theorem dX9_drops_256 : decode cX9_drops 256 = .ok (.iastore, 1) := by decide +kernel
theorem dX9_drops_257 : decode cX9_drops 257 = .ok (.iload_n 3, 1) := by decide +kernel
theorem dX9_drops_258 : decode cX9_drops 258 = .ok (.ireturn, 1) := by decide +kernel
theorem dX9_placeOfHot_0 : decode cX9_placeOfHot 0 = .ok (.iconst 0, 1) := by decide +kernel
theorem dX9_placeOfHot_1 : decode cX9_placeOfHot 1 = .ok (.istore_n 2, 1) := by decide +kernel
theorem dX9_placeOfHot_2 : decode cX9_placeOfHot 2 = .ok (.iload_n 2, 1) := by decide +kernel
theorem dX9_placeOfHot_3 : decode cX9_placeOfHot 3 = .ok (.aload_n 0, 1) := by decide +kernel
theorem dX9_placeOfHot_4 : decode cX9_placeOfHot 4 = .ok (.getfield 158, 3) := by decide +kernel
theorem dX9_placeOfHot_7 : decode cX9_placeOfHot 7 = .ok (.if_icmp .ge 21, 3) := by decide +kernel
theorem dX9_placeOfHot_28 : decode cX9_placeOfHot 28 = .ok (.iconst (-1), 1) := by decide +kernel
theorem dX9_placeOfHot_29 : decode cX9_placeOfHot 29 = .ok (.ireturn, 1) := by decide +kernel
theorem dX9_laysSizes_0 : decode cX9_laysSizes 0 = .ok (.iconst 0, 1) := by decide +kernel
theorem dX9_laysSizes_1 : decode cX9_laysSizes 1 = .ok (.istore_n 2, 1) := by decide +kernel
theorem dX9_laysSizes_2 : decode cX9_laysSizes 2 = .ok (.iconst 0, 1) := by decide +kernel
theorem dX9_laysSizes_3 : decode cX9_laysSizes 3 = .ok (.istore_n 3, 1) := by decide +kernel
theorem dX9_laysSizes_4 : decode cX9_laysSizes 4 = .ok (.iload_n 3, 1) := by decide +kernel
theorem dX9_laysSizes_5 : decode cX9_laysSizes 5 = .ok (.aload_n 0, 1) := by decide +kernel
theorem dX9_laysSizes_6 : decode cX9_laysSizes 6 = .ok (.getfield 14, 3) := by decide +kernel
theorem dX9_laysSizes_9 : decode cX9_laysSizes 9 = .ok (.sipush 1628, 3) := by decide +kernel
theorem dX9_laysSizes_12 : decode cX9_laysSizes 12 = .ok (.iaload, 1) := by decide +kernel
theorem dX9_laysSizes_13 : decode cX9_laysSizes 13 = .ok (.if_icmp .ge 98, 3) := by decide +kernel
theorem dX9_laysSizes_111 : decode cX9_laysSizes 111 = .ok (.iload_n 2, 1) := by decide +kernel
theorem dX9_laysSizes_112 : decode cX9_laysSizes 112 = .ok (.ireturn, 1) := by decide +kernel
theorem dX9_packsBy_0 : decode cX9_packsBy 0 = .ok (.iconst 0, 1) := by decide +kernel
theorem dX9_packsBy_1 : decode cX9_packsBy 1 = .ok (.istore_n 3, 1) := by decide +kernel
theorem dX9_packsBy_2 : decode cX9_packsBy 2 = .ok (.iconst 0, 1) := by decide +kernel
theorem dX9_packsBy_3 : decode cX9_packsBy 3 = .ok (.istore 4, 2) := by decide +kernel
theorem dX9_packsBy_5 : decode cX9_packsBy 5 = .ok (.iload 4, 2) := by decide +kernel
theorem dX9_packsBy_7 : decode cX9_packsBy 7 = .ok (.iload_n 2, 1) := by decide +kernel
theorem dX9_packsBy_8 : decode cX9_packsBy 8 = .ok (.if_icmp .ge 134, 3) := by decide +kernel
theorem dX9_packsBy_142 : decode cX9_packsBy 142 = .ok (.iload_n 3, 1) := by decide +kernel
theorem dX9_packsBy_143 : decode cX9_packsBy 143 = .ok (.ireturn, 1) := by decide +kernel
theorem hd_X9_deadOn : yX9_deadOn.cls = RX9 ∧ yX9_deadOn.cls ≠ "java/lang/invoke/MethodHandle" ∧ yX9_deadOn.cls ≠ "java/lang/invoke/VarHandle" ∧ (parseMethodDescriptor yX9_deadOn.desc).map (fun d => d.parameters.length) = some 1 := by decide +kernel
theorem hd_X9_isFree : yX9_isFree.cls = RX9 ∧ yX9_isFree.cls ≠ "java/lang/invoke/MethodHandle" ∧ yX9_isFree.cls ≠ "java/lang/invoke/VarHandle" ∧ (parseMethodDescriptor yX9_isFree.desc).map (fun d => d.parameters.length) = some 1 := by decide +kernel
theorem hd_X9_notesTrial : yX9_notesTrial.cls = RX9 ∧ yX9_notesTrial.cls ≠ "java/lang/invoke/MethodHandle" ∧ yX9_notesTrial.cls ≠ "java/lang/invoke/VarHandle" ∧ (parseMethodDescriptor yX9_notesTrial.desc).map (fun d => d.parameters.length) = some 0 := by decide +kernel
theorem hd_X9_stayingOn : yX9_stayingOn.cls = RX9 ∧ yX9_stayingOn.cls ≠ "java/lang/invoke/MethodHandle" ∧ yX9_stayingOn.cls ≠ "java/lang/invoke/VarHandle" ∧ (parseMethodDescriptor yX9_stayingOn.desc).map (fun d => d.parameters.length) = some 1 := by decide +kernel
theorem hd_X9_tries : yX9_tries.cls = RX9 ∧ yX9_tries.cls ≠ "java/lang/invoke/MethodHandle" ∧ yX9_tries.cls ≠ "java/lang/invoke/VarHandle" ∧ (parseMethodDescriptor yX9_tries.desc).map (fun d => d.parameters.length) = some 0 := by decide +kernel
theorem hd_X9_within : yX9_within.cls = RX9 ∧ yX9_within.cls ≠ "java/lang/invoke/MethodHandle" ∧ yX9_within.cls ≠ "java/lang/invoke/VarHandle" ∧ (parseMethodDescriptor yX9_within.desc).map (fun d => d.parameters.length) = some 3 := by decide +kernel
/-- what the reference's great row holds at first -/
def AL (j : Nat) : Int32 := if j = 1 ∨ j = 55 ∨ j = 56 ∨ j = 57 ∨ j = 58 ∨ j = 59 ∨ j = 70 ∨ j = 81 then -1 else 0
theorem upd_AL {f : Nat → Int32} {n k : Nat} {x : Int32} (h : ∀ j, j < n → f j = AL j) (hx : AL k = x) : ∀ j, j < n → upd f k x j = AL j := by
  intro j hj
  by_cases e : j = k
  · subst e; rw [pk_us]; exact hx.symm
  · rw [pk_un e]; exact h j hj
theorem cl_int {i : Int32} (h0 : ¬ i < 0) : (i.toNatClampNeg : Int) = i.toInt := by
  obtain ⟨j, hj, rfl⟩ := nI_of h0
  rw [nI_clamp hj, nI_toInt hj]
theorem AL_z (i : Int32) (h0 : ¬ i < 0) (h : ¬ i = 1 ∧ ¬ i = 55 ∧ ¬ i = 56 ∧ ¬ i = 57 ∧ ¬ i = 58 ∧ ¬ i = 59 ∧ ¬ i = 70 ∧ ¬ i = 81) : AL i.toNatClampNeg = 0 := by
  have e := cl_int h0
  simp only [i_eq, show (1 : Int32).toInt = 1 from rfl, show (55 : Int32).toInt = 55 from rfl, show (56 : Int32).toInt = 56 from rfl, show (57 : Int32).toInt = 57 from rfl, show (58 : Int32).toInt = 58 from rfl, show (59 : Int32).toInt = 59 from rfl, show (70 : Int32).toInt = 70 from rfl, show (81 : Int32).toInt = 81 from rfl] at h
  unfold AL
  rw [if_neg (by omega)]
theorem AL_n (i : Int32) (h : i = 55 ∨ i = 56 ∨ i = 57 ∨ i = 58 ∨ i = 59 ∨ i = 70 ∨ i = 81) : AL i.toNatClampNeg = -1 := by
  rcases h with h | h | h | h | h | h | h <;> (subst h; decide +kernel)
theorem w_le {x d : Int32} {c : Int64} (h : d.toInt64 = c) : c ≤ x.toInt64 ↔ d ≤ x := by
  subst h
  rw [Int64.le_iff_toInt_le, Int32.le_iff_toInt_le, Int32.toInt_toInt64, Int32.toInt_toInt64]
theorem w_ge {x d : Int32} {c : Int64} (h : d.toInt64 = c) : x.toInt64 ≤ c ↔ x ≤ d := by
  subst h
  rw [Int64.le_iff_toInt_le, Int32.le_iff_toInt_le, Int32.toInt_toInt64, Int32.toInt_toInt64]
theorem odd_rem (x : Int32) (h : ¬ x < 0) : x - x / 2 * 2 = x &&& 1 := by
  obtain ⟨n, hn, rfl⟩ := nI_of h
  have e1 : nI n - nI n / nI 2 * nI 2 = nI (n % 2) := pk_rem hn (by decide) (by decide)
  have e2 : nI n &&& 1 = nI (n % 2 ^ 1) := pk_andN (by omega) 1 (by decide)
  exact e1.trans e2.symm

abbrev rm_c_X9_within : Room := { frames := 0, cells := 0, slots := 0, locals := 0 }
set_option maxHeartbeats 4000000 in
set_option maxRecDepth 100000 in
theorem c_X9_within (l : Launch) (D : va_G) (cs : Nat → ClassId) (sz : Nat) (xv : Int64) (xlo : Int64) (xhi : Int64)  : cMi l yX9_within (Cond.code yX9_within cX9_within 6 (some .boolean)) (rm_c_X9_within) D cs [.long xv, .long xlo, .long xhi] sz [] (fun (r : Int32) (u : Unit) => ((r = 1) ∧ (xlo ≤ xv ∧ xv ≤ xhi)) ∨ ((r = 0) ∧ (¬ (xlo ≤ xv ∧ xv ≤ xhi)))) (fun (u : Unit) => []) := by
  refine kMet_i RX9 (by decide) rfl (Nat.le_of_ble_eq_true rfl) ?_
  intro p e s m below meth c ls A Qz H locs hx hb hml hown hin hu hK hsz hA hP hD hS hl hz
  subst hsz
  have hl : lv_has ls 6 [(0, .long xv), (2, .long xlo), (4, .long xhi)] := hl
  refine lv_lload_n hx hb dX9_within_0 rfl (lv_at hl 0 rfl) ?_
  refine lv_lload_n hx hb dX9_within_1 rfl (lv_at hl 1 rfl) ?_
  refine W.lcmp hx hb dX9_within_2 ?_
  refine lv_if_lt (tgt := 17) hx hb dX9_within_3 (by decide) (fun c_1 => ?_) (fun c_1 => ?_)
  · refine lv_iconst (v := 0) hx hb dX9_within_17 (by decide) ?_
    exact hz () hP hD hS (by have e1 := lg_cmp_lt xv xlo; have e2 := lg_cmp_gt xv xhi; grind) [] rfl rfl (Nat.le_of_ble_eq_true rfl) (Nat.le_of_ble_eq_true rfl) .boolean rfl rfl dX9_within_18
  · refine lv_lload_n hx hb dX9_within_6 rfl (lv_at hl 0 rfl) ?_
    refine lv_lload hx hb dX9_within_7 (lv_at hl 2 rfl) ?_
    refine W.lcmp hx hb dX9_within_9 ?_
    refine lv_if_gt (tgt := 17) hx hb dX9_within_10 (by decide) (fun c_2 => ?_) (fun c_2 => ?_)
    · refine lv_iconst (v := 0) hx hb dX9_within_17 (by decide) ?_
      exact hz () hP hD hS (by have e1 := lg_cmp_lt xv xlo; have e2 := lg_cmp_gt xv xhi; grind) [] rfl rfl (Nat.le_of_ble_eq_true rfl) (Nat.le_of_ble_eq_true rfl) .boolean rfl rfl dX9_within_18
    · refine lv_iconst (v := 1) hx hb dX9_within_13 (by decide) ?_
      refine lv_goto (tgt := 18) hx hb dX9_within_14 (by decide) ?_
      exact hz () hP hD hS (by have e1 := lg_cmp_lt xv xlo; have e2 := lg_cmp_gt xv xhi; grind) [] rfl rfl (Nat.le_of_ble_eq_true rfl) (Nat.le_of_ble_eq_true rfl) .boolean rfl rfl dX9_within_18
abbrev rm_c_X9_tries : Room := { frames := 0, cells := 0, slots := 0, locals := 0 }
set_option maxHeartbeats 4000000 in
set_option maxRecDepth 100000 in
theorem c_X9_tries (l : Launch) (D : va_G) (cs : Nat → ClassId) (sz : Nat) (md : Nat) (m_all : Nat) (f_m_all : Nat → Int32) (m_deeds : Nat) (m_trial : Nat) (f_m_trial : Nat → Int32) (m_hasImage : Nat) (m_tape : Nat) (m_key : Nat) (m_answered : Nat) (m_goes : Nat) (m_hotOnes : Nat) (m_indexed : Nat) (m_isChanged : Nat) (m_valueNow : Nat) (m_didSome : Nat) (m_sizes : Nat) (m_ends : Nat) (dm : Int32) (th : Int32) (sw : Int32) (z_all : ∀ j, j < 51207 → f_m_all j = AL j) : cMv l yX9_tries (Cond.code yX9_tries cX9_tries 2 none) (rm_c_X9_tries) D cs [.ref md] sz [(md, .inr (9, [.int th, .ref m_all, .ref m_deeds, .ref m_trial, .int dm, .ref m_hasImage, .ref m_tape, .ref m_key, .ref m_answered, .int 0, .int 0, .int 0, .ref m_goes, .int sw, .ref m_hotOnes, .ref m_indexed, .ref m_isChanged, .int 0, .ref m_valueNow, .int 0, .int (-1), .int 0, .ref m_didSome, .ref m_sizes, .ref m_ends])), (m_all, aI cs 51207 f_m_all), (m_trial, aI cs 17069 f_m_trial)] (fun (u : Nat → Int32) => True) (fun (u : Nat → Int32) => [(md, .inr (9, [.int th, .ref m_all, .ref m_deeds, .ref m_trial, .int dm, .ref m_hasImage, .ref m_tape, .ref m_key, .ref m_answered, .int 0, .int 0, .int 0, .ref m_goes, .int sw, .ref m_hotOnes, .ref m_indexed, .ref m_isChanged, .int 0, .ref m_valueNow, .int 0, .int (-1), .int 0, .ref m_didSome, .ref m_sizes, .ref m_ends])), (m_all, aI cs 51207 f_m_all), (m_trial, aI cs 17069 u)]) := by
  refine kMet_v RX9 (by decide) rfl (Nat.le_of_ble_eq_true rfl) ?_
  intro p e s m below meth c ls A Qz H locs hx hb hml hown hin hu hK hsz hA hP hD hS hl hz
  subst hsz
  have hl : lv_has ls 2 [(0, .ref md)] := hl
  refine lv_iconst (v := 0) hx hb dX9_tries_0 (by decide) ?_
  refine lv_istore_n (lv' := [(1, .int 0), (0, .ref md)]) hx hb dX9_tries_1 rfl hl (by decide) rfl (fun ls hl => ?_)
  have lp_1 : ∀ (fuel : Nat) (i : Nat) (f : Nat → Int32) (hfuel : 17069 < i + fuel) (hi : i ≤ 17069) (H : Heap) (locs : List Loc) (hP : va_P D vwCl [(md, .inr (9, [.int th, .ref m_all, .ref m_deeds, .ref m_trial, .int dm, .ref m_hasImage, .ref m_tape, .ref m_key, .ref m_answered, .int 0, .int 0, .int 0, .ref m_goes, .int sw, .ref m_hotOnes, .ref m_indexed, .ref m_isChanged, .int 0, .ref m_valueNow, .int 0, .int (-1), .int 0, .ref m_didSome, .ref m_sizes, .ref m_ends])), (m_all, aI cs 51207 f_m_all), (m_trial, aI cs 17069 f)] H) (hD : va_D A [(md, .inr (9, [.int th, .ref m_all, .ref m_deeds, .ref m_trial, .int dm, .ref m_hasImage, .ref m_tape, .ref m_key, .ref m_answered, .int 0, .int 0, .int 0, .ref m_goes, .int sw, .ref m_hotOnes, .ref m_indexed, .ref m_isChanged, .int 0, .ref m_valueNow, .int 0, .int (-1), .int 0, .ref m_didSome, .ref m_sizes, .ref m_ends])), (m_all, aI cs 51207 f_m_all), (m_trial, aI cs 17069 f)]) (hS : va_S A s.heap H locs) (ls : Array Slot) (hl : lv_has ls 2 [(1, .int (nI i)), (0, .ref md)]), W p l e rm_c_X9_tries s m [.ref md].toArray below meth c H locs 0 0 Qz (F0 m 2 ls []) := by
    intro fuel
    induction fuel with
    | zero =>
      intro i f hfuel hi H locs hP hD hS ls hl
      exact absurd hfuel (by omega)
    | succ fuel ih =>
      intro i f hfuel hi H locs hP hD hS ls hl
      refine lv_iload_n hx hb dX9_tries_2 rfl (lv_at hl 0 rfl) ?_
      refine lv_sipush (v := 17069) hx hb dX9_tries_3 (by decide) ?_
      refine lv_icmp_ge (tgt := 27) hx hb dX9_tries_6 (by decide) (fun c_2 => ?_) (fun c_2 => ?_)
      · have gc_2 : 17069 ≤ i := (nI_leI (a := 17069) (b := i) (by omega) (by omega)).mp c_2
        exact hz (f) hP hD hS trivial [0, 1, 2] rfl rfl (Nat.le_of_ble_eq_true rfl) (Nat.le_of_ble_eq_true rfl) rfl dX9_tries_27
      · have gc_2 : ¬ 17069 ≤ i := fun h => c_2 ((nI_leI (a := 17069) (b := i) (by omega) (by omega)).mpr h)
        refine lv_aload_n hx hb dX9_tries_9 rfl (lv_at hl 1 rfl) ?_
        refine va_get (D := D) (ci := 9) (v := .ref m_trial) (C := RX9) (T := TX9) (N := 25) hx hb hu in_X9 hown hK.1 hP 0 rfl rfl 3 (by decide) (hu _ u_1083) (fun _ h9 => h9) rfl dX9_tries_10 ?_
        refine lv_iload_n hx hb dX9_tries_13 rfl (lv_at hl 0 rfl) ?_
        refine lv_aload_n hx hb dX9_tries_14 rfl (lv_at hl 1 rfl) ?_
        refine va_get (D := D) (ci := 9) (v := .ref m_all) (C := RX9) (T := TX9) (N := 25) hx hb hu in_X9 hown hK.1 hP 0 rfl rfl 1 (by decide) (hu _ u_1081) (fun _ h9 => h9) rfl dX9_tries_15 ?_
        refine lv_iload_n hx hb dX9_tries_18 rfl (lv_at hl 0 rfl) ?_
        refine va_iald hx hb hK.1 hP 1 0 rfl rfl (vp_in_nI (by omega) (by omega)) dX9_tries_19 ?_
        refine va_iast hx hb hK.1 hP hD hS 2 0 rfl rfl (vp_in_nI (by omega) (by omega)) dX9_tries_20 (fun H locs hP hD hS => ?_)
        have hP : va_P D vwCl [(md, .inr (9, [.int th, .ref m_all, .ref m_deeds, .ref m_trial, .int dm, .ref m_hasImage, .ref m_tape, .ref m_key, .ref m_answered, .int 0, .int 0, .int 0, .ref m_goes, .int sw, .ref m_hotOnes, .ref m_indexed, .ref m_isChanged, .int 0, .ref m_valueNow, .int 0, .int (-1), .int 0, .ref m_didSome, .ref m_sizes, .ref m_ends])), (m_all, aI cs 51207 f_m_all), (m_trial, aI cs 17069 (upd f (nI i).toNatClampNeg (f_m_all (nI i).toNatClampNeg)))] H := hP
        have hD : va_D A [(md, .inr (9, [.int th, .ref m_all, .ref m_deeds, .ref m_trial, .int dm, .ref m_hasImage, .ref m_tape, .ref m_key, .ref m_answered, .int 0, .int 0, .int 0, .ref m_goes, .int sw, .ref m_hotOnes, .ref m_indexed, .ref m_isChanged, .int 0, .ref m_valueNow, .int 0, .int (-1), .int 0, .ref m_didSome, .ref m_sizes, .ref m_ends])), (m_all, aI cs 51207 f_m_all), (m_trial, aI cs 17069 (upd f (nI i).toNatClampNeg (f_m_all (nI i).toNatClampNeg)))] := hD
        refine lv_iinc (v := nI (i + 1)) (lv' := [(1, .int (nI (i + 1))), (0, .ref md)]) hx hb dX9_tries_21 hl (k := 0) rfl (nI_1 _) (by decide) rfl (fun ls hl => ?_)
        refine lv_goto (tgt := 2) hx hb dX9_tries_24 (by decide) ?_
        exact ih (i + 1) (upd f (nI i).toNatClampNeg (f_m_all (nI i).toNatClampNeg)) (by omega) (by omega) H locs (hP.sub [0, 1, 2] rfl) (hD.sub [0, 1, 2] rfl rfl) hS ls (lv_sub hl [0, 1] rfl)
  exact lp_1 (17069 + 1) 0 f_m_trial (by omega) (by omega) H locs (hP.sub [0, 1, 2] rfl) (hD.sub [0, 1, 2] rfl rfl) hS ls (lv_sub hl [0, 1] rfl)
abbrev rm_c_X9_notesTrial : Room := { frames := 0, cells := 0, slots := 0, locals := 0 }
set_option maxHeartbeats 4000000 in
set_option maxRecDepth 100000 in
theorem c_X9_notesTrial (l : Launch) (D : va_G) (cs : Nat → ClassId) (sz : Nat) (md : Nat) (m_all : Nat) (m_deeds : Nat) (f_m_deeds : Nat → Int32) (m_trial : Nat) (f_m_trial : Nat → Int32) (m_hasImage : Nat) (m_tape : Nat) (m_key : Nat) (m_answered : Nat) (m_goes : Nat) (m_hotOnes : Nat) (m_indexed : Nat) (m_isChanged : Nat) (m_valueNow : Nat) (m_didSome : Nat) (m_sizes : Nat) (m_ends : Nat) (th : Int32) (sw : Int32)  : cMv l yX9_notesTrial (Cond.code yX9_notesTrial cX9_notesTrial 2 none) (rm_c_X9_notesTrial) D cs [.ref md] sz [(md, .inr (9, [.int th, .ref m_all, .ref m_deeds, .ref m_trial, .int 0, .ref m_hasImage, .ref m_tape, .ref m_key, .ref m_answered, .int 0, .int 0, .int 0, .ref m_goes, .int sw, .ref m_hotOnes, .ref m_indexed, .ref m_isChanged, .int 0, .ref m_valueNow, .int 0, .int (-1), .int 0, .ref m_didSome, .ref m_sizes, .ref m_ends])), (m_deeds, aI cs 170690 f_m_deeds), (m_trial, aI cs 17069 f_m_trial)] (fun (u : Unit) => True) (fun (u : Unit) => [(md, .inr (9, [.int th, .ref m_all, .ref m_deeds, .ref m_trial, .int 1, .ref m_hasImage, .ref m_tape, .ref m_key, .ref m_answered, .int 0, .int 0, .int 0, .ref m_goes, .int sw, .ref m_hotOnes, .ref m_indexed, .ref m_isChanged, .int 0, .ref m_valueNow, .int 0, .int (-1), .int 0, .ref m_didSome, .ref m_sizes, .ref m_ends]))]) := by
  refine kMet_v RX9 (by decide) rfl (Nat.le_of_ble_eq_true rfl) ?_
  intro p e s m below meth c ls A Qz H locs hx hb hml hown hin hu hK hsz hA hP hD hS hl hz
  subst hsz
  have hl : lv_has ls 2 [(0, .ref md)] := hl
  refine lv_aload_n hx hb dX9_notesTrial_0 rfl (lv_at hl 0 rfl) ?_
  refine va_get (D := D) (ci := 9) (v := .int 0) (C := RX9) (T := TX9) (N := 25) hx hb hu in_X9 hown hK.1 hP 0 rfl rfl 4 (by decide) (hu _ u_1084) (fun _ h9 => h9) rfl dX9_notesTrial_1 ?_
  refine lv_bipush (v := 10) hx hb dX9_notesTrial_4 (by decide) ?_
  refine lv_icmp_ne (tgt := 49) hx hb dX9_notesTrial_6 (by decide) (fun c_1 => ?_) (fun c_1 => absurd c_1 (by decide))
  refine lv_iconst (v := 0) hx hb dX9_notesTrial_49 (by decide) ?_
  refine lv_istore_n (lv' := [(1, .int 0), (0, .ref md)]) hx hb dX9_notesTrial_50 rfl hl (by decide) rfl (fun ls hl => ?_)
  have lp_2 : ∀ (fuel : Nat) (i : Nat) (f : Nat → Int32) (hfuel : 17069 < i + fuel) (hi : i ≤ 17069) (H : Heap) (locs : List Loc) (hP : va_P D vwCl [(md, .inr (9, [.int th, .ref m_all, .ref m_deeds, .ref m_trial, .int 0, .ref m_hasImage, .ref m_tape, .ref m_key, .ref m_answered, .int 0, .int 0, .int 0, .ref m_goes, .int sw, .ref m_hotOnes, .ref m_indexed, .ref m_isChanged, .int 0, .ref m_valueNow, .int 0, .int (-1), .int 0, .ref m_didSome, .ref m_sizes, .ref m_ends])), (m_deeds, aI cs 170690 f), (m_trial, aI cs 17069 f_m_trial)] H) (hD : va_D A [(md, .inr (9, [.int th, .ref m_all, .ref m_deeds, .ref m_trial, .int 0, .ref m_hasImage, .ref m_tape, .ref m_key, .ref m_answered, .int 0, .int 0, .int 0, .ref m_goes, .int sw, .ref m_hotOnes, .ref m_indexed, .ref m_isChanged, .int 0, .ref m_valueNow, .int 0, .int (-1), .int 0, .ref m_didSome, .ref m_sizes, .ref m_ends])), (m_deeds, aI cs 170690 f), (m_trial, aI cs 17069 f_m_trial)]) (hS : va_S A s.heap H locs) (ls : Array Slot) (hl : lv_has ls 2 [(1, .int (nI i)), (0, .ref md)]), W p l e rm_c_X9_notesTrial s m [.ref md].toArray below meth c H locs 0 0 Qz (F0 m 51 ls []) := by
    intro fuel
    induction fuel with
    | zero =>
      intro i f hfuel hi H locs hP hD hS ls hl
      exact absurd hfuel (by omega)
    | succ fuel ih =>
      intro i f hfuel hi H locs hP hD hS ls hl
      refine lv_iload_n hx hb dX9_notesTrial_51 rfl (lv_at hl 0 rfl) ?_
      refine lv_sipush (v := 17069) hx hb dX9_notesTrial_52 (by decide) ?_
      refine lv_icmp_ge (tgt := 85) hx hb dX9_notesTrial_55 (by decide) (fun c_3 => ?_) (fun c_3 => ?_)
      · have gc_3 : 17069 ≤ i := (nI_leI (a := 17069) (b := i) (by omega) (by omega)).mp c_3
        refine lv_aload_n hx hb dX9_notesTrial_85 rfl (lv_at hl 1 rfl) ?_
        refine lv_dup hx hb dX9_notesTrial_86 rfl ?_
        refine va_get (D := D) (ci := 9) (v := .int 0) (C := RX9) (T := TX9) (N := 25) hx hb hu in_X9 hown hK.1 hP 0 rfl rfl 4 (by decide) (hu _ u_1084) (fun _ h9 => h9) rfl dX9_notesTrial_87 ?_
        refine lv_iconst (v := 1) hx hb dX9_notesTrial_90 (by decide) ?_
        refine lv_iadd hx hb dX9_notesTrial_91 ?_
        refine tpi (y := 1) (by decide) ?_
        refine va_put (D := D) (ci := 9) (v := .int 1) (ty := tyX9 4) (C := RX9) (T := TX9) (N := 25) hx hb hu in_X9 tyX9 tyX9_ok nmX9 hown hK.1 hP hD hS 0 rfl rfl 4 (by decide) (hu _ u_1084) (fun _ h9 => h9) rfl (tyX9_ok 4 (by decide)) rfl rfl (Nat.le_of_ble_eq_true rfl) dX9_notesTrial_92 (fun H locs hP hD hS => ?_)
        have hP : va_P D vwCl [(md, .inr (9, [.int th, .ref m_all, .ref m_deeds, .ref m_trial, .int 1, .ref m_hasImage, .ref m_tape, .ref m_key, .ref m_answered, .int 0, .int 0, .int 0, .ref m_goes, .int sw, .ref m_hotOnes, .ref m_indexed, .ref m_isChanged, .int 0, .ref m_valueNow, .int 0, .int (-1), .int 0, .ref m_didSome, .ref m_sizes, .ref m_ends])), (m_deeds, aI cs 170690 f), (m_trial, aI cs 17069 f_m_trial)] H := hP
        have hD : va_D A [(md, .inr (9, [.int th, .ref m_all, .ref m_deeds, .ref m_trial, .int 1, .ref m_hasImage, .ref m_tape, .ref m_key, .ref m_answered, .int 0, .int 0, .int 0, .ref m_goes, .int sw, .ref m_hotOnes, .ref m_indexed, .ref m_isChanged, .int 0, .ref m_valueNow, .int 0, .int (-1), .int 0, .ref m_didSome, .ref m_sizes, .ref m_ends])), (m_deeds, aI cs 170690 f), (m_trial, aI cs 17069 f_m_trial)] := hD
        exact hz () hP hD hS trivial [0] rfl rfl (Nat.le_of_ble_eq_true rfl) (Nat.le_of_ble_eq_true rfl) rfl dX9_notesTrial_95
      · have gc_3 : ¬ 17069 ≤ i := fun h => c_3 ((nI_leI (a := 17069) (b := i) (by omega) (by omega)).mpr h)
        refine lv_aload_n hx hb dX9_notesTrial_58 rfl (lv_at hl 1 rfl) ?_
        refine va_get (D := D) (ci := 9) (v := .ref m_deeds) (C := RX9) (T := TX9) (N := 25) hx hb hu in_X9 hown hK.1 hP 0 rfl rfl 2 (by decide) (hu _ u_1082) (fun _ h9 => h9) rfl dX9_notesTrial_59 ?_
        refine lv_sipush (v := 17069) hx hb dX9_notesTrial_62 (by decide) ?_
        refine lv_aload_n hx hb dX9_notesTrial_65 rfl (lv_at hl 1 rfl) ?_
        refine va_get (D := D) (ci := 9) (v := .int 0) (C := RX9) (T := TX9) (N := 25) hx hb hu in_X9 hown hK.1 hP 0 rfl rfl 4 (by decide) (hu _ u_1084) (fun _ h9 => h9) rfl dX9_notesTrial_66 ?_
        refine lv_imul hx hb dX9_notesTrial_69 ?_
        refine tpi (y := 0) (by decide) ?_
        refine lv_iload_n hx hb dX9_notesTrial_70 rfl (lv_at hl 0 rfl) ?_
        refine lv_iadd hx hb dX9_notesTrial_71 ?_
        refine tpi (y := nI i) (i_0add _) ?_
        refine lv_aload_n hx hb dX9_notesTrial_72 rfl (lv_at hl 1 rfl) ?_
        refine va_get (D := D) (ci := 9) (v := .ref m_trial) (C := RX9) (T := TX9) (N := 25) hx hb hu in_X9 hown hK.1 hP 0 rfl rfl 3 (by decide) (hu _ u_1083) (fun _ h9 => h9) rfl dX9_notesTrial_73 ?_
        refine lv_iload_n hx hb dX9_notesTrial_76 rfl (lv_at hl 0 rfl) ?_
        refine va_iald hx hb hK.1 hP 2 0 rfl rfl (vp_in_nI (by omega) (by omega)) dX9_notesTrial_77 ?_
        refine va_iast hx hb hK.1 hP hD hS 1 0 rfl rfl (vp_in_nI (by omega) (by omega)) dX9_notesTrial_78 (fun H locs hP hD hS => ?_)
        have hP : va_P D vwCl [(md, .inr (9, [.int th, .ref m_all, .ref m_deeds, .ref m_trial, .int 0, .ref m_hasImage, .ref m_tape, .ref m_key, .ref m_answered, .int 0, .int 0, .int 0, .ref m_goes, .int sw, .ref m_hotOnes, .ref m_indexed, .ref m_isChanged, .int 0, .ref m_valueNow, .int 0, .int (-1), .int 0, .ref m_didSome, .ref m_sizes, .ref m_ends])), (m_deeds, aI cs 170690 (upd f (nI i).toNatClampNeg (f_m_trial (nI i).toNatClampNeg))), (m_trial, aI cs 17069 f_m_trial)] H := hP
        have hD : va_D A [(md, .inr (9, [.int th, .ref m_all, .ref m_deeds, .ref m_trial, .int 0, .ref m_hasImage, .ref m_tape, .ref m_key, .ref m_answered, .int 0, .int 0, .int 0, .ref m_goes, .int sw, .ref m_hotOnes, .ref m_indexed, .ref m_isChanged, .int 0, .ref m_valueNow, .int 0, .int (-1), .int 0, .ref m_didSome, .ref m_sizes, .ref m_ends])), (m_deeds, aI cs 170690 (upd f (nI i).toNatClampNeg (f_m_trial (nI i).toNatClampNeg))), (m_trial, aI cs 17069 f_m_trial)] := hD
        refine lv_iinc (v := nI (i + 1)) (lv' := [(1, .int (nI (i + 1))), (0, .ref md)]) hx hb dX9_notesTrial_79 hl (k := 0) rfl (nI_1 _) (by decide) rfl (fun ls hl => ?_)
        refine lv_goto (tgt := 51) hx hb dX9_notesTrial_82 (by decide) ?_
        exact ih (i + 1) (upd f (nI i).toNatClampNeg (f_m_trial (nI i).toNatClampNeg)) (by omega) (by omega) H locs (hP.sub [0, 1, 2] rfl) (hD.sub [0, 1, 2] rfl rfl) hS ls (lv_sub hl [0, 1] rfl)
  exact lp_2 (17069 + 1) 0 f_m_deeds (by omega) (by omega) H locs (hP.sub [0, 1, 2] rfl) (hD.sub [0, 1, 2] rfl rfl) hS ls (lv_sub hl [0, 1] rfl)
abbrev rm_c_X9_notes : Room := { frames := 1, cells := 0, slots := 0, locals := 21 }
set_option maxHeartbeats 4000000 in
set_option maxRecDepth 100000 in
theorem c_X9_notes (l : Launch) (D : va_G) (cs : Nat → ClassId) (sz : Nat) (md : Nat) (m_all : Nat) (f_m_all : Nat → Int32) (m_deeds : Nat) (f_m_deeds : Nat → Int32) (m_trial : Nat) (f_m_trial : Nat → Int32) (m_hasImage : Nat) (m_tape : Nat) (m_key : Nat) (m_answered : Nat) (m_goes : Nat) (m_hotOnes : Nat) (m_indexed : Nat) (m_isChanged : Nat) (m_valueNow : Nat) (m_didSome : Nat) (m_sizes : Nat) (m_ends : Nat) (th : Int32) (sw : Int32) (z_all : ∀ j, j < 51207 → f_m_all j = AL j) : cMv l yX9_notes (Cond.code yX9_notes cX9_notes 1 none) (rm_c_X9_notes) D cs [.ref md] sz [(md, .inr (9, [.int th, .ref m_all, .ref m_deeds, .ref m_trial, .int 0, .ref m_hasImage, .ref m_tape, .ref m_key, .ref m_answered, .int 0, .int 0, .int 0, .ref m_goes, .int sw, .ref m_hotOnes, .ref m_indexed, .ref m_isChanged, .int 0, .ref m_valueNow, .int 0, .int (-1), .int 0, .ref m_didSome, .ref m_sizes, .ref m_ends])), (m_all, aI cs 51207 f_m_all), (m_deeds, aI cs 170690 f_m_deeds), (m_trial, aI cs 17069 f_m_trial)] (fun (u : Unit) => True) (fun (u : Unit) => [(m_all, aI cs 51207 f_m_all), (md, .inr (9, [.int th, .ref m_all, .ref m_deeds, .ref m_trial, .int 1, .ref m_hasImage, .ref m_tape, .ref m_key, .ref m_answered, .int 0, .int 0, .int 0, .ref m_goes, .int sw, .ref m_hotOnes, .ref m_indexed, .ref m_isChanged, .int 0, .ref m_valueNow, .int 0, .int (-1), .int 0, .ref m_didSome, .ref m_sizes, .ref m_ends]))]) := by
  refine kMet_v RX9 (by decide) rfl (Nat.le_of_ble_eq_true rfl) ?_
  intro p e s m below meth c ls A Qz H locs hx hb hml hown hin hu hK hsz hA hP hD hS hl hz
  subst hsz
  have hl : lv_has ls 1 [(0, .ref md)] := hl
  refine lv_aload_n hx hb dX9_notes_0 rfl (lv_at hl 0 rfl) ?_
  refine kV_v (ci := 9) (As := []) (rest := []) (wc := [(md, .inr (9, [.int th, .ref m_all, .ref m_deeds, .ref m_trial, .int 0, .ref m_hasImage, .ref m_tape, .ref m_key, .ref m_answered, .int 0, .int 0, .int 0, .ref m_goes, .int sw, .ref m_hotOnes, .ref m_indexed, .ref m_isChanged, .int 0, .ref m_valueNow, .int 0, .int (-1), .int 0, .ref m_didSome, .ref m_sizes, .ref m_ends])), (m_all, aI cs 51207 f_m_all), (m_trial, aI cs 17069 f_m_trial)]) (wr := [(m_deeds, aI cs 170690 f_m_deeds)]) hx hb hml hown hu hK hP hD hS hA hl.1 (c_X9_tries l D cs H.size md m_all f_m_all m_deeds m_trial f_m_trial m_hasImage m_tape m_key m_answered m_goes m_hotOnes m_indexed m_isChanged m_valueNow m_didSome m_sizes m_ends 0 th sw z_all) (gV u_1176 u_1178 u_10 u_76 u_1179) hd_X9_tries ⟨(Nat.le_of_ble_eq_true rfl), (Nat.le_of_ble_eq_true rfl)⟩ [0, 1, 3] [2] rfl rfl rfl rfl (by decide) rfl 0 rfl rfl rfl (Nat.le_of_ble_eq_true rfl) dX9_notes_1 ⟨(Nat.le_of_ble_eq_true rfl), (Nat.le_of_ble_eq_true rfl)⟩ (fun ut_2 H locs hw_3 hP hD hS => ?_)
  have hP : va_P D vwCl [(m_deeds, aI cs 170690 f_m_deeds), (md, .inr (9, [.int th, .ref m_all, .ref m_deeds, .ref m_trial, .int 0, .ref m_hasImage, .ref m_tape, .ref m_key, .ref m_answered, .int 0, .int 0, .int 0, .ref m_goes, .int sw, .ref m_hotOnes, .ref m_indexed, .ref m_isChanged, .int 0, .ref m_valueNow, .int 0, .int (-1), .int 0, .ref m_didSome, .ref m_sizes, .ref m_ends])), (m_all, aI cs 51207 f_m_all), (m_trial, aI cs 17069 ut_2)] H := hP
  have hD : va_D A [(m_deeds, aI cs 170690 f_m_deeds), (md, .inr (9, [.int th, .ref m_all, .ref m_deeds, .ref m_trial, .int 0, .ref m_hasImage, .ref m_tape, .ref m_key, .ref m_answered, .int 0, .int 0, .int 0, .ref m_goes, .int sw, .ref m_hotOnes, .ref m_indexed, .ref m_isChanged, .int 0, .ref m_valueNow, .int 0, .int (-1), .int 0, .ref m_didSome, .ref m_sizes, .ref m_ends])), (m_all, aI cs 51207 f_m_all), (m_trial, aI cs 17069 ut_2)] := hD
  obtain ⟨ug_4, rfl⟩ : ∃ z, z = ut_2 := ⟨_, rfl⟩
  have hP : va_P D vwCl [(m_deeds, aI cs 170690 f_m_deeds), (md, .inr (9, [.int th, .ref m_all, .ref m_deeds, .ref m_trial, .int 0, .ref m_hasImage, .ref m_tape, .ref m_key, .ref m_answered, .int 0, .int 0, .int 0, .ref m_goes, .int sw, .ref m_hotOnes, .ref m_indexed, .ref m_isChanged, .int 0, .ref m_valueNow, .int 0, .int (-1), .int 0, .ref m_didSome, .ref m_sizes, .ref m_ends])), (m_all, aI cs 51207 f_m_all), (m_trial, aI cs 17069 ug_4)] H := hP
  have hD : va_D A [(m_deeds, aI cs 170690 f_m_deeds), (md, .inr (9, [.int th, .ref m_all, .ref m_deeds, .ref m_trial, .int 0, .ref m_hasImage, .ref m_tape, .ref m_key, .ref m_answered, .int 0, .int 0, .int 0, .ref m_goes, .int sw, .ref m_hotOnes, .ref m_indexed, .ref m_isChanged, .int 0, .ref m_valueNow, .int 0, .int (-1), .int 0, .ref m_didSome, .ref m_sizes, .ref m_ends])), (m_all, aI cs 51207 f_m_all), (m_trial, aI cs 17069 ug_4)] := hD
  try dsimp only at hw_3
  refine lv_aload_n hx hb dX9_notes_4 rfl (lv_at hl 0 rfl) ?_
  refine kV_v (ci := 9) (As := []) (rest := []) (wc := [(md, .inr (9, [.int th, .ref m_all, .ref m_deeds, .ref m_trial, .int 0, .ref m_hasImage, .ref m_tape, .ref m_key, .ref m_answered, .int 0, .int 0, .int 0, .ref m_goes, .int sw, .ref m_hotOnes, .ref m_indexed, .ref m_isChanged, .int 0, .ref m_valueNow, .int 0, .int (-1), .int 0, .ref m_didSome, .ref m_sizes, .ref m_ends])), (m_deeds, aI cs 170690 f_m_deeds), (m_trial, aI cs 17069 ug_4)]) (wr := [(m_all, aI cs 51207 f_m_all)]) hx hb hml hown hu hK hP hD hS hA hl.1 (c_X9_notesTrial l D cs H.size md m_all m_deeds f_m_deeds m_trial ug_4 m_hasImage m_tape m_key m_answered m_goes m_hotOnes m_indexed m_isChanged m_valueNow m_didSome m_sizes m_ends th sw) (gV u_1224 u_1226 u_22 u_76 u_1227) hd_X9_notesTrial ⟨(Nat.le_of_ble_eq_true rfl), (Nat.le_of_ble_eq_true rfl)⟩ [1, 0, 3] [2] rfl rfl rfl rfl (by decide) rfl 0 rfl rfl rfl (Nat.le_of_ble_eq_true rfl) dX9_notes_5 ⟨(Nat.le_of_ble_eq_true rfl), (Nat.le_of_ble_eq_true rfl)⟩ (fun ut_6 H locs hw_7 hP hD hS => ?_)
  have hP : va_P D vwCl [(m_all, aI cs 51207 f_m_all), (md, .inr (9, [.int th, .ref m_all, .ref m_deeds, .ref m_trial, .int 1, .ref m_hasImage, .ref m_tape, .ref m_key, .ref m_answered, .int 0, .int 0, .int 0, .ref m_goes, .int sw, .ref m_hotOnes, .ref m_indexed, .ref m_isChanged, .int 0, .ref m_valueNow, .int 0, .int (-1), .int 0, .ref m_didSome, .ref m_sizes, .ref m_ends]))] H := hP
  have hD : va_D A [(m_all, aI cs 51207 f_m_all), (md, .inr (9, [.int th, .ref m_all, .ref m_deeds, .ref m_trial, .int 1, .ref m_hasImage, .ref m_tape, .ref m_key, .ref m_answered, .int 0, .int 0, .int 0, .ref m_goes, .int sw, .ref m_hotOnes, .ref m_indexed, .ref m_isChanged, .int 0, .ref m_valueNow, .int 0, .int (-1), .int 0, .ref m_didSome, .ref m_sizes, .ref m_ends]))] := hD
  exact hz () hP hD hS trivial [0, 1] rfl rfl (Nat.le_of_ble_eq_true rfl) (Nat.le_of_ble_eq_true rfl) rfl dX9_notes_8
abbrev rm_c_X9_bringsBack : Room := { frames := 0, cells := 0, slots := 0, locals := 0 }
set_option maxHeartbeats 4000000 in
set_option maxRecDepth 100000 in
theorem c_X9_bringsBack (l : Launch) (D : va_G) (cs : Nat → ClassId) (sz : Nat) (md : Nat) (m_all : Nat) (f_m_all : Nat → Int32) (m_deeds : Nat) (m_trial : Nat) (f_m_trial : Nat → Int32) (m_hasImage : Nat) (m_tape : Nat) (m_key : Nat) (m_answered : Nat) (m_goes : Nat) (m_hotOnes : Nat) (m_indexed : Nat) (m_isChanged : Nat) (m_valueNow : Nat) (m_didSome : Nat) (m_sizes : Nat) (m_ends : Nat) (dm : Int32) (th : Int32) (sw : Int32) (z_all : ∀ j, j < 51207 → f_m_all j = AL j) : cMv l yX9_bringsBack (Cond.code yX9_bringsBack cX9_bringsBack 2 none) (rm_c_X9_bringsBack) D cs [.ref md] sz [(md, .inr (9, [.int th, .ref m_all, .ref m_deeds, .ref m_trial, .int dm, .ref m_hasImage, .ref m_tape, .ref m_key, .ref m_answered, .int 0, .int 0, .int 0, .ref m_goes, .int sw, .ref m_hotOnes, .ref m_indexed, .ref m_isChanged, .int 0, .ref m_valueNow, .int 0, .int (-1), .int 0, .ref m_didSome, .ref m_sizes, .ref m_ends])), (m_all, aI cs 51207 f_m_all), (m_trial, aI cs 17069 f_m_trial)] (fun (u : Unit) => True) (fun (u : Unit) => [(md, .inr (9, [.int th, .ref m_all, .ref m_deeds, .ref m_trial, .int dm, .ref m_hasImage, .ref m_tape, .ref m_key, .ref m_answered, .int 0, .int 0, .int 0, .ref m_goes, .int sw, .ref m_hotOnes, .ref m_indexed, .ref m_isChanged, .int 0, .ref m_valueNow, .int 0, .int (-1), .int 0, .ref m_didSome, .ref m_sizes, .ref m_ends]))]) := by
  refine kMet_v RX9 (by decide) rfl (Nat.le_of_ble_eq_true rfl) ?_
  intro p e s m below meth c ls A Qz H locs hx hb hml hown hin hu hK hsz hA hP hD hS hl hz
  subst hsz
  have hl : lv_has ls 2 [(0, .ref md)] := hl
  refine lv_iconst (v := 0) hx hb dX9_bringsBack_0 (by decide) ?_
  refine lv_istore_n (lv' := [(1, .int 0), (0, .ref md)]) hx hb dX9_bringsBack_1 rfl hl (by decide) rfl (fun ls hl => ?_)
  have lp_1 : ∀ (fuel : Nat) (i : Nat) (f : Nat → Int32) (hfuel : 17069 < i + fuel) (hi : i ≤ 17069) (H : Heap) (locs : List Loc) (hP : va_P D vwCl [(md, .inr (9, [.int th, .ref m_all, .ref m_deeds, .ref m_trial, .int dm, .ref m_hasImage, .ref m_tape, .ref m_key, .ref m_answered, .int 0, .int 0, .int 0, .ref m_goes, .int sw, .ref m_hotOnes, .ref m_indexed, .ref m_isChanged, .int 0, .ref m_valueNow, .int 0, .int (-1), .int 0, .ref m_didSome, .ref m_sizes, .ref m_ends])), (m_all, aI cs 51207 f), (m_trial, aI cs 17069 f_m_trial)] H) (hD : va_D A [(md, .inr (9, [.int th, .ref m_all, .ref m_deeds, .ref m_trial, .int dm, .ref m_hasImage, .ref m_tape, .ref m_key, .ref m_answered, .int 0, .int 0, .int 0, .ref m_goes, .int sw, .ref m_hotOnes, .ref m_indexed, .ref m_isChanged, .int 0, .ref m_valueNow, .int 0, .int (-1), .int 0, .ref m_didSome, .ref m_sizes, .ref m_ends])), (m_all, aI cs 51207 f), (m_trial, aI cs 17069 f_m_trial)]) (hS : va_S A s.heap H locs) (ls : Array Slot) (hl : lv_has ls 2 [(1, .int (nI i)), (0, .ref md)]), W p l e rm_c_X9_bringsBack s m [.ref md].toArray below meth c H locs 0 0 Qz (F0 m 2 ls []) := by
    intro fuel
    induction fuel with
    | zero =>
      intro i f hfuel hi H locs hP hD hS ls hl
      exact absurd hfuel (by omega)
    | succ fuel ih =>
      intro i f hfuel hi H locs hP hD hS ls hl
      refine lv_iload_n hx hb dX9_bringsBack_2 rfl (lv_at hl 0 rfl) ?_
      refine lv_sipush (v := 17069) hx hb dX9_bringsBack_3 (by decide) ?_
      refine lv_icmp_ge (tgt := 27) hx hb dX9_bringsBack_6 (by decide) (fun c_2 => ?_) (fun c_2 => ?_)
      · have gc_2 : 17069 ≤ i := (nI_leI (a := 17069) (b := i) (by omega) (by omega)).mp c_2
        exact hz () hP hD hS trivial [0] rfl rfl (Nat.le_of_ble_eq_true rfl) (Nat.le_of_ble_eq_true rfl) rfl dX9_bringsBack_27
      · have gc_2 : ¬ 17069 ≤ i := fun h => c_2 ((nI_leI (a := 17069) (b := i) (by omega) (by omega)).mpr h)
        refine lv_aload_n hx hb dX9_bringsBack_9 rfl (lv_at hl 1 rfl) ?_
        refine va_get (D := D) (ci := 9) (v := .ref m_all) (C := RX9) (T := TX9) (N := 25) hx hb hu in_X9 hown hK.1 hP 0 rfl rfl 1 (by decide) (hu _ u_1081) (fun _ h9 => h9) rfl dX9_bringsBack_10 ?_
        refine lv_iload_n hx hb dX9_bringsBack_13 rfl (lv_at hl 0 rfl) ?_
        refine lv_aload_n hx hb dX9_bringsBack_14 rfl (lv_at hl 1 rfl) ?_
        refine va_get (D := D) (ci := 9) (v := .ref m_trial) (C := RX9) (T := TX9) (N := 25) hx hb hu in_X9 hown hK.1 hP 0 rfl rfl 3 (by decide) (hu _ u_1083) (fun _ h9 => h9) rfl dX9_bringsBack_15 ?_
        refine lv_iload_n hx hb dX9_bringsBack_18 rfl (lv_at hl 0 rfl) ?_
        refine va_iald hx hb hK.1 hP 2 0 rfl rfl (vp_in_nI (by omega) (by omega)) dX9_bringsBack_19 ?_
        refine va_iast hx hb hK.1 hP hD hS 1 0 rfl rfl (vp_in_nI (by omega) (by omega)) dX9_bringsBack_20 (fun H locs hP hD hS => ?_)
        have hP : va_P D vwCl [(md, .inr (9, [.int th, .ref m_all, .ref m_deeds, .ref m_trial, .int dm, .ref m_hasImage, .ref m_tape, .ref m_key, .ref m_answered, .int 0, .int 0, .int 0, .ref m_goes, .int sw, .ref m_hotOnes, .ref m_indexed, .ref m_isChanged, .int 0, .ref m_valueNow, .int 0, .int (-1), .int 0, .ref m_didSome, .ref m_sizes, .ref m_ends])), (m_all, aI cs 51207 (upd f (nI i).toNatClampNeg (f_m_trial (nI i).toNatClampNeg))), (m_trial, aI cs 17069 f_m_trial)] H := hP
        have hD : va_D A [(md, .inr (9, [.int th, .ref m_all, .ref m_deeds, .ref m_trial, .int dm, .ref m_hasImage, .ref m_tape, .ref m_key, .ref m_answered, .int 0, .int 0, .int 0, .ref m_goes, .int sw, .ref m_hotOnes, .ref m_indexed, .ref m_isChanged, .int 0, .ref m_valueNow, .int 0, .int (-1), .int 0, .ref m_didSome, .ref m_sizes, .ref m_ends])), (m_all, aI cs 51207 (upd f (nI i).toNatClampNeg (f_m_trial (nI i).toNatClampNeg))), (m_trial, aI cs 17069 f_m_trial)] := hD
        refine lv_iinc (v := nI (i + 1)) (lv' := [(1, .int (nI (i + 1))), (0, .ref md)]) hx hb dX9_bringsBack_21 hl (k := 0) rfl (nI_1 _) (by decide) rfl (fun ls hl => ?_)
        refine lv_goto (tgt := 2) hx hb dX9_bringsBack_24 (by decide) ?_
        exact ih (i + 1) (upd f (nI i).toNatClampNeg (f_m_trial (nI i).toNatClampNeg)) (by omega) (by omega) H locs (hP.sub [0, 1, 2] rfl) (hD.sub [0, 1, 2] rfl rfl) hS ls (lv_sub hl [0, 1] rfl)
  exact lp_1 (17069 + 1) 0 f_m_all (by omega) (by omega) H locs (hP.sub [0, 1, 2] rfl) (hD.sub [0, 1, 2] rfl rfl) hS ls (lv_sub hl [0, 1] rfl)
abbrev rm_c_X9_isFree : Room := { frames := 0, cells := 0, slots := 0, locals := 0 }
set_option maxHeartbeats 4000000 in
set_option maxRecDepth 100000 in
theorem c_X9_isFree (l : Launch) (D : va_G) (cs : Nat → ClassId) (sz : Nat) (x : Int32) (md : Nat) (m_all : Nat) (f_m_all : Nat → Int32) (m_deeds : Nat) (m_trial : Nat) (m_hasImage : Nat) (m_tape : Nat) (m_key : Nat) (m_answered : Nat) (m_goes : Nat) (m_hotOnes : Nat) (m_indexed : Nat) (m_isChanged : Nat) (m_valueNow : Nat) (m_didSome : Nat) (m_sizes : Nat) (m_ends : Nat) (dm : Int32) (th : Int32) (sw : Int32) (z_all : ∀ j, j < 51207 → f_m_all j = AL j) (hr : ¬ x < 0 ∧ x < 24) : cMi l yX9_isFree (Cond.code yX9_isFree cX9_isFree 2 (some .boolean)) (rm_c_X9_isFree) D cs [.ref md, .int x] sz [(md, .inr (9, [.int th, .ref m_all, .ref m_deeds, .ref m_trial, .int dm, .ref m_hasImage, .ref m_tape, .ref m_key, .ref m_answered, .int 0, .int 0, .int 0, .ref m_goes, .int sw, .ref m_hotOnes, .ref m_indexed, .ref m_isChanged, .int 0, .ref m_valueNow, .int 0, .int (-1), .int 0, .ref m_didSome, .ref m_sizes, .ref m_ends])), (m_all, aI cs 51207 f_m_all)] (fun (r : Int32) (u : Unit) => (r = 1)) (fun (u : Unit) => [(md, .inr (9, [.int th, .ref m_all, .ref m_deeds, .ref m_trial, .int dm, .ref m_hasImage, .ref m_tape, .ref m_key, .ref m_answered, .int 0, .int 0, .int 0, .ref m_goes, .int sw, .ref m_hotOnes, .ref m_indexed, .ref m_isChanged, .int 0, .ref m_valueNow, .int 0, .int (-1), .int 0, .ref m_didSome, .ref m_sizes, .ref m_ends])), (m_all, aI cs 51207 f_m_all)]) := by
  refine kMet_i RX9 (by decide) rfl (Nat.le_of_ble_eq_true rfl) ?_
  intro p e s m below meth c ls A Qz H locs hx hb hml hown hin hu hK hsz hA hP hD hS hl hz
  subst hsz
  have hl : lv_has ls 2 [(0, .ref md), (1, .int x)] := hl
  refine lv_aload_n hx hb dX9_isFree_0 rfl (lv_at hl 0 rfl) ?_
  refine va_get (D := D) (ci := 9) (v := .ref m_all) (C := RX9) (T := TX9) (N := 25) hx hb hu in_X9 hown hK.1 hP 0 rfl rfl 1 (by decide) (hu _ u_1081) (fun _ h9 => h9) rfl dX9_isFree_1 ?_
  refine lv_bipush (v := 7) hx hb dX9_isFree_4 (by decide) ?_
  refine lv_iload_n hx hb dX9_isFree_6 rfl (lv_at hl 1 rfl) ?_
  refine lv_iadd hx hb dX9_isFree_7 ?_
  refine va_iald hx hb hK.1 hP 1 0 rfl rfl (vin_of (N := 51207) (by grind) (by grind) rfl) dX9_isFree_8 ?_
  refine tpi (y := 0) ((z_all _ (cl_lt (vin_of (N := 51207) (by grind) (by grind) rfl))).trans (AL_z _ (by grind) (by grind))) ?_
  refine lv_if_ne (tgt := 16) hx hb dX9_isFree_9 (by decide) (fun c_1 => absurd (by decide) c_1) (fun c_1 => ?_)
  refine lv_iconst (v := 1) hx hb dX9_isFree_12 (by decide) ?_
  refine lv_goto (tgt := 17) hx hb dX9_isFree_13 (by decide) ?_
  exact hz () hP hD hS rfl [0, 1] rfl rfl (Nat.le_of_ble_eq_true rfl) (Nat.le_of_ble_eq_true rfl) .boolean rfl rfl dX9_isFree_17
abbrev rm_c_X9_freeMany : Room := { frames := 1, cells := 0, slots := 0, locals := 21 }
set_option maxHeartbeats 4000000 in
set_option maxRecDepth 100000 in
theorem c_X9_freeMany (l : Launch) (D : va_G) (cs : Nat → ClassId) (sz : Nat) (md : Nat) (m_all : Nat) (f_m_all : Nat → Int32) (m_deeds : Nat) (m_trial : Nat) (m_hasImage : Nat) (m_tape : Nat) (m_key : Nat) (m_answered : Nat) (m_goes : Nat) (m_hotOnes : Nat) (m_indexed : Nat) (m_isChanged : Nat) (m_valueNow : Nat) (m_didSome : Nat) (m_sizes : Nat) (m_ends : Nat) (dm : Int32) (th : Int32) (sw : Int32) (z_all : ∀ j, j < 51207 → f_m_all j = AL j) : cMi l yX9_freeMany (Cond.code yX9_freeMany cX9_freeMany 3 (some .int)) (rm_c_X9_freeMany) D cs [.ref md] sz [(md, .inr (9, [.int th, .ref m_all, .ref m_deeds, .ref m_trial, .int dm, .ref m_hasImage, .ref m_tape, .ref m_key, .ref m_answered, .int 0, .int 0, .int 0, .ref m_goes, .int sw, .ref m_hotOnes, .ref m_indexed, .ref m_isChanged, .int 0, .ref m_valueNow, .int 0, .int (-1), .int 0, .ref m_didSome, .ref m_sizes, .ref m_ends])), (m_all, aI cs 51207 f_m_all)] (fun (r : Int32) (u : Unit) => (r = 24)) (fun (u : Unit) => [(md, .inr (9, [.int th, .ref m_all, .ref m_deeds, .ref m_trial, .int dm, .ref m_hasImage, .ref m_tape, .ref m_key, .ref m_answered, .int 0, .int 0, .int 0, .ref m_goes, .int sw, .ref m_hotOnes, .ref m_indexed, .ref m_isChanged, .int 0, .ref m_valueNow, .int 0, .int (-1), .int 0, .ref m_didSome, .ref m_sizes, .ref m_ends])), (m_all, aI cs 51207 f_m_all)]) := by
  refine kMet_i RX9 (by decide) rfl (Nat.le_of_ble_eq_true rfl) ?_
  intro p e s m below meth c ls A Qz H locs hx hb hml hown hin hu hK hsz hA hP hD hS hl hz
  subst hsz
  have hl : lv_has ls 3 [(0, .ref md)] := hl
  refine lv_iconst (v := 0) hx hb dX9_freeMany_0 (by decide) ?_
  refine lv_istore_n (lv' := [(1, .int 0), (0, .ref md)]) hx hb dX9_freeMany_1 rfl hl (by decide) rfl (fun ls hl => ?_)
  refine lv_iconst (v := 0) hx hb dX9_freeMany_2 (by decide) ?_
  refine lv_istore_n (lv' := [(2, .int 0), (1, .int 0), (0, .ref md)]) hx hb dX9_freeMany_3 rfl hl (by decide) rfl (fun ls hl => ?_)
  refine lv_iload_n hx hb dX9_freeMany_4 rfl (lv_at hl 0 rfl) ?_
  refine lv_bipush (v := 24) hx hb dX9_freeMany_5 (by decide) ?_
  refine lv_icmp_ge (tgt := 32) hx hb dX9_freeMany_7 (by decide) (fun c_1 => absurd c_1 (by decide)) (fun c_1 => ?_)
  refine lv_iload_n hx hb dX9_freeMany_10 rfl (lv_at hl 1 rfl) ?_
  refine lv_aload_n hx hb dX9_freeMany_11 rfl (lv_at hl 2 rfl) ?_
  refine lv_iload_n hx hb dX9_freeMany_12 rfl (lv_at hl 0 rfl) ?_
  refine kV_i (ci := 9) (As := [.int 0]) (rest := [.int 0]) (wc := [(md, .inr (9, [.int th, .ref m_all, .ref m_deeds, .ref m_trial, .int dm, .ref m_hasImage, .ref m_tape, .ref m_key, .ref m_answered, .int 0, .int 0, .int 0, .ref m_goes, .int sw, .ref m_hotOnes, .ref m_indexed, .ref m_isChanged, .int 0, .ref m_valueNow, .int 0, .int (-1), .int 0, .ref m_didSome, .ref m_sizes, .ref m_ends])), (m_all, aI cs 51207 f_m_all)]) (wr := []) hx hb hml hown hu hK hP hD hS hA hl.1 (c_X9_isFree l D cs H.size 0 md m_all f_m_all m_deeds m_trial m_hasImage m_tape m_key m_answered m_goes m_hotOnes m_indexed m_isChanged m_valueNow m_didSome m_sizes m_ends dm th sw z_all (by first | decide | grind)) (gV u_1188 u_1190 u_13 u_76 u_1191) hd_X9_isFree ⟨(Nat.le_of_ble_eq_true rfl), (Nat.le_of_ble_eq_true rfl)⟩ [0, 1] [] rfl rfl rfl rfl (by decide) rfl 0 rfl rfl rfl (Nat.le_of_ble_eq_true rfl) dX9_freeMany_13 ⟨(Nat.le_of_ble_eq_true rfl), (Nat.le_of_ble_eq_true rfl)⟩ (fun r_2 ut_3 H locs hw_4 hP hD hS => ?_)
  have hP : va_P D vwCl [(md, .inr (9, [.int th, .ref m_all, .ref m_deeds, .ref m_trial, .int dm, .ref m_hasImage, .ref m_tape, .ref m_key, .ref m_answered, .int 0, .int 0, .int 0, .ref m_goes, .int sw, .ref m_hotOnes, .ref m_indexed, .ref m_isChanged, .int 0, .ref m_valueNow, .int 0, .int (-1), .int 0, .ref m_didSome, .ref m_sizes, .ref m_ends])), (m_all, aI cs 51207 f_m_all)] H := hP
  have hD : va_D A [(md, .inr (9, [.int th, .ref m_all, .ref m_deeds, .ref m_trial, .int dm, .ref m_hasImage, .ref m_tape, .ref m_key, .ref m_answered, .int 0, .int 0, .int 0, .ref m_goes, .int sw, .ref m_hotOnes, .ref m_indexed, .ref m_isChanged, .int 0, .ref m_valueNow, .int 0, .int (-1), .int 0, .ref m_didSome, .ref m_sizes, .ref m_ends])), (m_all, aI cs 51207 f_m_all)] := hD
  have er_5 := hw_4
  subst er_5
  refine lv_if_eq (tgt := 23) hx hb dX9_freeMany_16 (by decide) (fun c_6 => absurd c_6 (by decide)) (fun c_6 => ?_)
  refine lv_iconst (v := 1) hx hb dX9_freeMany_19 (by decide) ?_
  refine lv_goto (tgt := 24) hx hb dX9_freeMany_20 (by decide) ?_
  refine lv_iadd hx hb dX9_freeMany_24 ?_
  refine tpi (y := 1) (by decide) ?_
  refine lv_istore_n (lv' := [(1, .int 1), (2, .int 0), (0, .ref md)]) hx hb dX9_freeMany_25 rfl hl (by decide) rfl (fun ls hl => ?_)
  refine lv_iinc (v := 1) (lv' := [(2, .int 1), (1, .int 1), (0, .ref md)]) hx hb dX9_freeMany_26 hl (k := 1) rfl (by decide) (by decide) rfl (fun ls hl => ?_)
  refine lv_goto (tgt := 4) hx hb dX9_freeMany_29 (by decide) ?_
  refine lv_iload_n hx hb dX9_freeMany_4 rfl (lv_at hl 0 rfl) ?_
  refine lv_bipush (v := 24) hx hb dX9_freeMany_5 (by decide) ?_
  refine lv_icmp_ge (tgt := 32) hx hb dX9_freeMany_7 (by decide) (fun c_7 => absurd c_7 (by decide)) (fun c_7 => ?_)
  refine lv_iload_n hx hb dX9_freeMany_10 rfl (lv_at hl 1 rfl) ?_
  refine lv_aload_n hx hb dX9_freeMany_11 rfl (lv_at hl 2 rfl) ?_
  refine lv_iload_n hx hb dX9_freeMany_12 rfl (lv_at hl 0 rfl) ?_
  refine kV_i (ci := 9) (As := [.int 1]) (rest := [.int 1]) (wc := [(md, .inr (9, [.int th, .ref m_all, .ref m_deeds, .ref m_trial, .int dm, .ref m_hasImage, .ref m_tape, .ref m_key, .ref m_answered, .int 0, .int 0, .int 0, .ref m_goes, .int sw, .ref m_hotOnes, .ref m_indexed, .ref m_isChanged, .int 0, .ref m_valueNow, .int 0, .int (-1), .int 0, .ref m_didSome, .ref m_sizes, .ref m_ends])), (m_all, aI cs 51207 f_m_all)]) (wr := []) hx hb hml hown hu hK hP hD hS hA hl.1 (c_X9_isFree l D cs H.size 1 md m_all f_m_all m_deeds m_trial m_hasImage m_tape m_key m_answered m_goes m_hotOnes m_indexed m_isChanged m_valueNow m_didSome m_sizes m_ends dm th sw z_all (by first | decide | grind)) (gV u_1188 u_1190 u_13 u_76 u_1191) hd_X9_isFree ⟨(Nat.le_of_ble_eq_true rfl), (Nat.le_of_ble_eq_true rfl)⟩ [0, 1] [] rfl rfl rfl rfl (by decide) rfl 0 rfl rfl rfl (Nat.le_of_ble_eq_true rfl) dX9_freeMany_13 ⟨(Nat.le_of_ble_eq_true rfl), (Nat.le_of_ble_eq_true rfl)⟩ (fun r_8 ut_9 H locs hw_10 hP hD hS => ?_)
  have hP : va_P D vwCl [(md, .inr (9, [.int th, .ref m_all, .ref m_deeds, .ref m_trial, .int dm, .ref m_hasImage, .ref m_tape, .ref m_key, .ref m_answered, .int 0, .int 0, .int 0, .ref m_goes, .int sw, .ref m_hotOnes, .ref m_indexed, .ref m_isChanged, .int 0, .ref m_valueNow, .int 0, .int (-1), .int 0, .ref m_didSome, .ref m_sizes, .ref m_ends])), (m_all, aI cs 51207 f_m_all)] H := hP
  have hD : va_D A [(md, .inr (9, [.int th, .ref m_all, .ref m_deeds, .ref m_trial, .int dm, .ref m_hasImage, .ref m_tape, .ref m_key, .ref m_answered, .int 0, .int 0, .int 0, .ref m_goes, .int sw, .ref m_hotOnes, .ref m_indexed, .ref m_isChanged, .int 0, .ref m_valueNow, .int 0, .int (-1), .int 0, .ref m_didSome, .ref m_sizes, .ref m_ends])), (m_all, aI cs 51207 f_m_all)] := hD
  have er_11 := hw_10
  subst er_11
  refine lv_if_eq (tgt := 23) hx hb dX9_freeMany_16 (by decide) (fun c_12 => absurd c_12 (by decide)) (fun c_12 => ?_)
  refine lv_iconst (v := 1) hx hb dX9_freeMany_19 (by decide) ?_
  refine lv_goto (tgt := 24) hx hb dX9_freeMany_20 (by decide) ?_
  refine lv_iadd hx hb dX9_freeMany_24 ?_
  refine tpi (y := 2) (by decide) ?_
  refine lv_istore_n (lv' := [(1, .int 2), (2, .int 1), (0, .ref md)]) hx hb dX9_freeMany_25 rfl hl (by decide) rfl (fun ls hl => ?_)
  refine lv_iinc (v := 2) (lv' := [(2, .int 2), (1, .int 2), (0, .ref md)]) hx hb dX9_freeMany_26 hl (k := 1) rfl (by decide) (by decide) rfl (fun ls hl => ?_)
  refine lv_goto (tgt := 4) hx hb dX9_freeMany_29 (by decide) ?_
  refine lv_iload_n hx hb dX9_freeMany_4 rfl (lv_at hl 0 rfl) ?_
  refine lv_bipush (v := 24) hx hb dX9_freeMany_5 (by decide) ?_
  refine lv_icmp_ge (tgt := 32) hx hb dX9_freeMany_7 (by decide) (fun c_13 => absurd c_13 (by decide)) (fun c_13 => ?_)
  refine lv_iload_n hx hb dX9_freeMany_10 rfl (lv_at hl 1 rfl) ?_
  refine lv_aload_n hx hb dX9_freeMany_11 rfl (lv_at hl 2 rfl) ?_
  refine lv_iload_n hx hb dX9_freeMany_12 rfl (lv_at hl 0 rfl) ?_
  refine kV_i (ci := 9) (As := [.int 2]) (rest := [.int 2]) (wc := [(md, .inr (9, [.int th, .ref m_all, .ref m_deeds, .ref m_trial, .int dm, .ref m_hasImage, .ref m_tape, .ref m_key, .ref m_answered, .int 0, .int 0, .int 0, .ref m_goes, .int sw, .ref m_hotOnes, .ref m_indexed, .ref m_isChanged, .int 0, .ref m_valueNow, .int 0, .int (-1), .int 0, .ref m_didSome, .ref m_sizes, .ref m_ends])), (m_all, aI cs 51207 f_m_all)]) (wr := []) hx hb hml hown hu hK hP hD hS hA hl.1 (c_X9_isFree l D cs H.size 2 md m_all f_m_all m_deeds m_trial m_hasImage m_tape m_key m_answered m_goes m_hotOnes m_indexed m_isChanged m_valueNow m_didSome m_sizes m_ends dm th sw z_all (by first | decide | grind)) (gV u_1188 u_1190 u_13 u_76 u_1191) hd_X9_isFree ⟨(Nat.le_of_ble_eq_true rfl), (Nat.le_of_ble_eq_true rfl)⟩ [0, 1] [] rfl rfl rfl rfl (by decide) rfl 0 rfl rfl rfl (Nat.le_of_ble_eq_true rfl) dX9_freeMany_13 ⟨(Nat.le_of_ble_eq_true rfl), (Nat.le_of_ble_eq_true rfl)⟩ (fun r_14 ut_15 H locs hw_16 hP hD hS => ?_)
  have hP : va_P D vwCl [(md, .inr (9, [.int th, .ref m_all, .ref m_deeds, .ref m_trial, .int dm, .ref m_hasImage, .ref m_tape, .ref m_key, .ref m_answered, .int 0, .int 0, .int 0, .ref m_goes, .int sw, .ref m_hotOnes, .ref m_indexed, .ref m_isChanged, .int 0, .ref m_valueNow, .int 0, .int (-1), .int 0, .ref m_didSome, .ref m_sizes, .ref m_ends])), (m_all, aI cs 51207 f_m_all)] H := hP
  have hD : va_D A [(md, .inr (9, [.int th, .ref m_all, .ref m_deeds, .ref m_trial, .int dm, .ref m_hasImage, .ref m_tape, .ref m_key, .ref m_answered, .int 0, .int 0, .int 0, .ref m_goes, .int sw, .ref m_hotOnes, .ref m_indexed, .ref m_isChanged, .int 0, .ref m_valueNow, .int 0, .int (-1), .int 0, .ref m_didSome, .ref m_sizes, .ref m_ends])), (m_all, aI cs 51207 f_m_all)] := hD
  have er_17 := hw_16
  subst er_17
  refine lv_if_eq (tgt := 23) hx hb dX9_freeMany_16 (by decide) (fun c_18 => absurd c_18 (by decide)) (fun c_18 => ?_)
  refine lv_iconst (v := 1) hx hb dX9_freeMany_19 (by decide) ?_
  refine lv_goto (tgt := 24) hx hb dX9_freeMany_20 (by decide) ?_
  refine lv_iadd hx hb dX9_freeMany_24 ?_
  refine tpi (y := 3) (by decide) ?_
  refine lv_istore_n (lv' := [(1, .int 3), (2, .int 2), (0, .ref md)]) hx hb dX9_freeMany_25 rfl hl (by decide) rfl (fun ls hl => ?_)
  refine lv_iinc (v := 3) (lv' := [(2, .int 3), (1, .int 3), (0, .ref md)]) hx hb dX9_freeMany_26 hl (k := 1) rfl (by decide) (by decide) rfl (fun ls hl => ?_)
  refine lv_goto (tgt := 4) hx hb dX9_freeMany_29 (by decide) ?_
  refine lv_iload_n hx hb dX9_freeMany_4 rfl (lv_at hl 0 rfl) ?_
  refine lv_bipush (v := 24) hx hb dX9_freeMany_5 (by decide) ?_
  refine lv_icmp_ge (tgt := 32) hx hb dX9_freeMany_7 (by decide) (fun c_19 => absurd c_19 (by decide)) (fun c_19 => ?_)
  refine lv_iload_n hx hb dX9_freeMany_10 rfl (lv_at hl 1 rfl) ?_
  refine lv_aload_n hx hb dX9_freeMany_11 rfl (lv_at hl 2 rfl) ?_
  refine lv_iload_n hx hb dX9_freeMany_12 rfl (lv_at hl 0 rfl) ?_
  refine kV_i (ci := 9) (As := [.int 3]) (rest := [.int 3]) (wc := [(md, .inr (9, [.int th, .ref m_all, .ref m_deeds, .ref m_trial, .int dm, .ref m_hasImage, .ref m_tape, .ref m_key, .ref m_answered, .int 0, .int 0, .int 0, .ref m_goes, .int sw, .ref m_hotOnes, .ref m_indexed, .ref m_isChanged, .int 0, .ref m_valueNow, .int 0, .int (-1), .int 0, .ref m_didSome, .ref m_sizes, .ref m_ends])), (m_all, aI cs 51207 f_m_all)]) (wr := []) hx hb hml hown hu hK hP hD hS hA hl.1 (c_X9_isFree l D cs H.size 3 md m_all f_m_all m_deeds m_trial m_hasImage m_tape m_key m_answered m_goes m_hotOnes m_indexed m_isChanged m_valueNow m_didSome m_sizes m_ends dm th sw z_all (by first | decide | grind)) (gV u_1188 u_1190 u_13 u_76 u_1191) hd_X9_isFree ⟨(Nat.le_of_ble_eq_true rfl), (Nat.le_of_ble_eq_true rfl)⟩ [0, 1] [] rfl rfl rfl rfl (by decide) rfl 0 rfl rfl rfl (Nat.le_of_ble_eq_true rfl) dX9_freeMany_13 ⟨(Nat.le_of_ble_eq_true rfl), (Nat.le_of_ble_eq_true rfl)⟩ (fun r_20 ut_21 H locs hw_22 hP hD hS => ?_)
  have hP : va_P D vwCl [(md, .inr (9, [.int th, .ref m_all, .ref m_deeds, .ref m_trial, .int dm, .ref m_hasImage, .ref m_tape, .ref m_key, .ref m_answered, .int 0, .int 0, .int 0, .ref m_goes, .int sw, .ref m_hotOnes, .ref m_indexed, .ref m_isChanged, .int 0, .ref m_valueNow, .int 0, .int (-1), .int 0, .ref m_didSome, .ref m_sizes, .ref m_ends])), (m_all, aI cs 51207 f_m_all)] H := hP
  have hD : va_D A [(md, .inr (9, [.int th, .ref m_all, .ref m_deeds, .ref m_trial, .int dm, .ref m_hasImage, .ref m_tape, .ref m_key, .ref m_answered, .int 0, .int 0, .int 0, .ref m_goes, .int sw, .ref m_hotOnes, .ref m_indexed, .ref m_isChanged, .int 0, .ref m_valueNow, .int 0, .int (-1), .int 0, .ref m_didSome, .ref m_sizes, .ref m_ends])), (m_all, aI cs 51207 f_m_all)] := hD
  have er_23 := hw_22
  subst er_23
  refine lv_if_eq (tgt := 23) hx hb dX9_freeMany_16 (by decide) (fun c_24 => absurd c_24 (by decide)) (fun c_24 => ?_)
  refine lv_iconst (v := 1) hx hb dX9_freeMany_19 (by decide) ?_
  refine lv_goto (tgt := 24) hx hb dX9_freeMany_20 (by decide) ?_
  refine lv_iadd hx hb dX9_freeMany_24 ?_
  refine tpi (y := 4) (by decide) ?_
  refine lv_istore_n (lv' := [(1, .int 4), (2, .int 3), (0, .ref md)]) hx hb dX9_freeMany_25 rfl hl (by decide) rfl (fun ls hl => ?_)
  refine lv_iinc (v := 4) (lv' := [(2, .int 4), (1, .int 4), (0, .ref md)]) hx hb dX9_freeMany_26 hl (k := 1) rfl (by decide) (by decide) rfl (fun ls hl => ?_)
  refine lv_goto (tgt := 4) hx hb dX9_freeMany_29 (by decide) ?_
  refine lv_iload_n hx hb dX9_freeMany_4 rfl (lv_at hl 0 rfl) ?_
  refine lv_bipush (v := 24) hx hb dX9_freeMany_5 (by decide) ?_
  refine lv_icmp_ge (tgt := 32) hx hb dX9_freeMany_7 (by decide) (fun c_25 => absurd c_25 (by decide)) (fun c_25 => ?_)
  refine lv_iload_n hx hb dX9_freeMany_10 rfl (lv_at hl 1 rfl) ?_
  refine lv_aload_n hx hb dX9_freeMany_11 rfl (lv_at hl 2 rfl) ?_
  refine lv_iload_n hx hb dX9_freeMany_12 rfl (lv_at hl 0 rfl) ?_
  refine kV_i (ci := 9) (As := [.int 4]) (rest := [.int 4]) (wc := [(md, .inr (9, [.int th, .ref m_all, .ref m_deeds, .ref m_trial, .int dm, .ref m_hasImage, .ref m_tape, .ref m_key, .ref m_answered, .int 0, .int 0, .int 0, .ref m_goes, .int sw, .ref m_hotOnes, .ref m_indexed, .ref m_isChanged, .int 0, .ref m_valueNow, .int 0, .int (-1), .int 0, .ref m_didSome, .ref m_sizes, .ref m_ends])), (m_all, aI cs 51207 f_m_all)]) (wr := []) hx hb hml hown hu hK hP hD hS hA hl.1 (c_X9_isFree l D cs H.size 4 md m_all f_m_all m_deeds m_trial m_hasImage m_tape m_key m_answered m_goes m_hotOnes m_indexed m_isChanged m_valueNow m_didSome m_sizes m_ends dm th sw z_all (by first | decide | grind)) (gV u_1188 u_1190 u_13 u_76 u_1191) hd_X9_isFree ⟨(Nat.le_of_ble_eq_true rfl), (Nat.le_of_ble_eq_true rfl)⟩ [0, 1] [] rfl rfl rfl rfl (by decide) rfl 0 rfl rfl rfl (Nat.le_of_ble_eq_true rfl) dX9_freeMany_13 ⟨(Nat.le_of_ble_eq_true rfl), (Nat.le_of_ble_eq_true rfl)⟩ (fun r_26 ut_27 H locs hw_28 hP hD hS => ?_)
  have hP : va_P D vwCl [(md, .inr (9, [.int th, .ref m_all, .ref m_deeds, .ref m_trial, .int dm, .ref m_hasImage, .ref m_tape, .ref m_key, .ref m_answered, .int 0, .int 0, .int 0, .ref m_goes, .int sw, .ref m_hotOnes, .ref m_indexed, .ref m_isChanged, .int 0, .ref m_valueNow, .int 0, .int (-1), .int 0, .ref m_didSome, .ref m_sizes, .ref m_ends])), (m_all, aI cs 51207 f_m_all)] H := hP
  have hD : va_D A [(md, .inr (9, [.int th, .ref m_all, .ref m_deeds, .ref m_trial, .int dm, .ref m_hasImage, .ref m_tape, .ref m_key, .ref m_answered, .int 0, .int 0, .int 0, .ref m_goes, .int sw, .ref m_hotOnes, .ref m_indexed, .ref m_isChanged, .int 0, .ref m_valueNow, .int 0, .int (-1), .int 0, .ref m_didSome, .ref m_sizes, .ref m_ends])), (m_all, aI cs 51207 f_m_all)] := hD
  have er_29 := hw_28
  subst er_29
  refine lv_if_eq (tgt := 23) hx hb dX9_freeMany_16 (by decide) (fun c_30 => absurd c_30 (by decide)) (fun c_30 => ?_)
  refine lv_iconst (v := 1) hx hb dX9_freeMany_19 (by decide) ?_
  refine lv_goto (tgt := 24) hx hb dX9_freeMany_20 (by decide) ?_
  refine lv_iadd hx hb dX9_freeMany_24 ?_
  refine tpi (y := 5) (by decide) ?_
  refine lv_istore_n (lv' := [(1, .int 5), (2, .int 4), (0, .ref md)]) hx hb dX9_freeMany_25 rfl hl (by decide) rfl (fun ls hl => ?_)
  refine lv_iinc (v := 5) (lv' := [(2, .int 5), (1, .int 5), (0, .ref md)]) hx hb dX9_freeMany_26 hl (k := 1) rfl (by decide) (by decide) rfl (fun ls hl => ?_)
  refine lv_goto (tgt := 4) hx hb dX9_freeMany_29 (by decide) ?_
  refine lv_iload_n hx hb dX9_freeMany_4 rfl (lv_at hl 0 rfl) ?_
  refine lv_bipush (v := 24) hx hb dX9_freeMany_5 (by decide) ?_
  refine lv_icmp_ge (tgt := 32) hx hb dX9_freeMany_7 (by decide) (fun c_31 => absurd c_31 (by decide)) (fun c_31 => ?_)
  refine lv_iload_n hx hb dX9_freeMany_10 rfl (lv_at hl 1 rfl) ?_
  refine lv_aload_n hx hb dX9_freeMany_11 rfl (lv_at hl 2 rfl) ?_
  refine lv_iload_n hx hb dX9_freeMany_12 rfl (lv_at hl 0 rfl) ?_
  refine kV_i (ci := 9) (As := [.int 5]) (rest := [.int 5]) (wc := [(md, .inr (9, [.int th, .ref m_all, .ref m_deeds, .ref m_trial, .int dm, .ref m_hasImage, .ref m_tape, .ref m_key, .ref m_answered, .int 0, .int 0, .int 0, .ref m_goes, .int sw, .ref m_hotOnes, .ref m_indexed, .ref m_isChanged, .int 0, .ref m_valueNow, .int 0, .int (-1), .int 0, .ref m_didSome, .ref m_sizes, .ref m_ends])), (m_all, aI cs 51207 f_m_all)]) (wr := []) hx hb hml hown hu hK hP hD hS hA hl.1 (c_X9_isFree l D cs H.size 5 md m_all f_m_all m_deeds m_trial m_hasImage m_tape m_key m_answered m_goes m_hotOnes m_indexed m_isChanged m_valueNow m_didSome m_sizes m_ends dm th sw z_all (by first | decide | grind)) (gV u_1188 u_1190 u_13 u_76 u_1191) hd_X9_isFree ⟨(Nat.le_of_ble_eq_true rfl), (Nat.le_of_ble_eq_true rfl)⟩ [0, 1] [] rfl rfl rfl rfl (by decide) rfl 0 rfl rfl rfl (Nat.le_of_ble_eq_true rfl) dX9_freeMany_13 ⟨(Nat.le_of_ble_eq_true rfl), (Nat.le_of_ble_eq_true rfl)⟩ (fun r_32 ut_33 H locs hw_34 hP hD hS => ?_)
  have hP : va_P D vwCl [(md, .inr (9, [.int th, .ref m_all, .ref m_deeds, .ref m_trial, .int dm, .ref m_hasImage, .ref m_tape, .ref m_key, .ref m_answered, .int 0, .int 0, .int 0, .ref m_goes, .int sw, .ref m_hotOnes, .ref m_indexed, .ref m_isChanged, .int 0, .ref m_valueNow, .int 0, .int (-1), .int 0, .ref m_didSome, .ref m_sizes, .ref m_ends])), (m_all, aI cs 51207 f_m_all)] H := hP
  have hD : va_D A [(md, .inr (9, [.int th, .ref m_all, .ref m_deeds, .ref m_trial, .int dm, .ref m_hasImage, .ref m_tape, .ref m_key, .ref m_answered, .int 0, .int 0, .int 0, .ref m_goes, .int sw, .ref m_hotOnes, .ref m_indexed, .ref m_isChanged, .int 0, .ref m_valueNow, .int 0, .int (-1), .int 0, .ref m_didSome, .ref m_sizes, .ref m_ends])), (m_all, aI cs 51207 f_m_all)] := hD
  have er_35 := hw_34
  subst er_35
  refine lv_if_eq (tgt := 23) hx hb dX9_freeMany_16 (by decide) (fun c_36 => absurd c_36 (by decide)) (fun c_36 => ?_)
  refine lv_iconst (v := 1) hx hb dX9_freeMany_19 (by decide) ?_
  refine lv_goto (tgt := 24) hx hb dX9_freeMany_20 (by decide) ?_
  refine lv_iadd hx hb dX9_freeMany_24 ?_
  refine tpi (y := 6) (by decide) ?_
  refine lv_istore_n (lv' := [(1, .int 6), (2, .int 5), (0, .ref md)]) hx hb dX9_freeMany_25 rfl hl (by decide) rfl (fun ls hl => ?_)
  refine lv_iinc (v := 6) (lv' := [(2, .int 6), (1, .int 6), (0, .ref md)]) hx hb dX9_freeMany_26 hl (k := 1) rfl (by decide) (by decide) rfl (fun ls hl => ?_)
  refine lv_goto (tgt := 4) hx hb dX9_freeMany_29 (by decide) ?_
  refine lv_iload_n hx hb dX9_freeMany_4 rfl (lv_at hl 0 rfl) ?_
  refine lv_bipush (v := 24) hx hb dX9_freeMany_5 (by decide) ?_
  refine lv_icmp_ge (tgt := 32) hx hb dX9_freeMany_7 (by decide) (fun c_37 => absurd c_37 (by decide)) (fun c_37 => ?_)
  refine lv_iload_n hx hb dX9_freeMany_10 rfl (lv_at hl 1 rfl) ?_
  refine lv_aload_n hx hb dX9_freeMany_11 rfl (lv_at hl 2 rfl) ?_
  refine lv_iload_n hx hb dX9_freeMany_12 rfl (lv_at hl 0 rfl) ?_
  refine kV_i (ci := 9) (As := [.int 6]) (rest := [.int 6]) (wc := [(md, .inr (9, [.int th, .ref m_all, .ref m_deeds, .ref m_trial, .int dm, .ref m_hasImage, .ref m_tape, .ref m_key, .ref m_answered, .int 0, .int 0, .int 0, .ref m_goes, .int sw, .ref m_hotOnes, .ref m_indexed, .ref m_isChanged, .int 0, .ref m_valueNow, .int 0, .int (-1), .int 0, .ref m_didSome, .ref m_sizes, .ref m_ends])), (m_all, aI cs 51207 f_m_all)]) (wr := []) hx hb hml hown hu hK hP hD hS hA hl.1 (c_X9_isFree l D cs H.size 6 md m_all f_m_all m_deeds m_trial m_hasImage m_tape m_key m_answered m_goes m_hotOnes m_indexed m_isChanged m_valueNow m_didSome m_sizes m_ends dm th sw z_all (by first | decide | grind)) (gV u_1188 u_1190 u_13 u_76 u_1191) hd_X9_isFree ⟨(Nat.le_of_ble_eq_true rfl), (Nat.le_of_ble_eq_true rfl)⟩ [0, 1] [] rfl rfl rfl rfl (by decide) rfl 0 rfl rfl rfl (Nat.le_of_ble_eq_true rfl) dX9_freeMany_13 ⟨(Nat.le_of_ble_eq_true rfl), (Nat.le_of_ble_eq_true rfl)⟩ (fun r_38 ut_39 H locs hw_40 hP hD hS => ?_)
  have hP : va_P D vwCl [(md, .inr (9, [.int th, .ref m_all, .ref m_deeds, .ref m_trial, .int dm, .ref m_hasImage, .ref m_tape, .ref m_key, .ref m_answered, .int 0, .int 0, .int 0, .ref m_goes, .int sw, .ref m_hotOnes, .ref m_indexed, .ref m_isChanged, .int 0, .ref m_valueNow, .int 0, .int (-1), .int 0, .ref m_didSome, .ref m_sizes, .ref m_ends])), (m_all, aI cs 51207 f_m_all)] H := hP
  have hD : va_D A [(md, .inr (9, [.int th, .ref m_all, .ref m_deeds, .ref m_trial, .int dm, .ref m_hasImage, .ref m_tape, .ref m_key, .ref m_answered, .int 0, .int 0, .int 0, .ref m_goes, .int sw, .ref m_hotOnes, .ref m_indexed, .ref m_isChanged, .int 0, .ref m_valueNow, .int 0, .int (-1), .int 0, .ref m_didSome, .ref m_sizes, .ref m_ends])), (m_all, aI cs 51207 f_m_all)] := hD
  have er_41 := hw_40
  subst er_41
  refine lv_if_eq (tgt := 23) hx hb dX9_freeMany_16 (by decide) (fun c_42 => absurd c_42 (by decide)) (fun c_42 => ?_)
  refine lv_iconst (v := 1) hx hb dX9_freeMany_19 (by decide) ?_
  refine lv_goto (tgt := 24) hx hb dX9_freeMany_20 (by decide) ?_
  refine lv_iadd hx hb dX9_freeMany_24 ?_
  refine tpi (y := 7) (by decide) ?_
  refine lv_istore_n (lv' := [(1, .int 7), (2, .int 6), (0, .ref md)]) hx hb dX9_freeMany_25 rfl hl (by decide) rfl (fun ls hl => ?_)
  refine lv_iinc (v := 7) (lv' := [(2, .int 7), (1, .int 7), (0, .ref md)]) hx hb dX9_freeMany_26 hl (k := 1) rfl (by decide) (by decide) rfl (fun ls hl => ?_)
  refine lv_goto (tgt := 4) hx hb dX9_freeMany_29 (by decide) ?_
  refine lv_iload_n hx hb dX9_freeMany_4 rfl (lv_at hl 0 rfl) ?_
  refine lv_bipush (v := 24) hx hb dX9_freeMany_5 (by decide) ?_
  refine lv_icmp_ge (tgt := 32) hx hb dX9_freeMany_7 (by decide) (fun c_43 => absurd c_43 (by decide)) (fun c_43 => ?_)
  refine lv_iload_n hx hb dX9_freeMany_10 rfl (lv_at hl 1 rfl) ?_
  refine lv_aload_n hx hb dX9_freeMany_11 rfl (lv_at hl 2 rfl) ?_
  refine lv_iload_n hx hb dX9_freeMany_12 rfl (lv_at hl 0 rfl) ?_
  refine kV_i (ci := 9) (As := [.int 7]) (rest := [.int 7]) (wc := [(md, .inr (9, [.int th, .ref m_all, .ref m_deeds, .ref m_trial, .int dm, .ref m_hasImage, .ref m_tape, .ref m_key, .ref m_answered, .int 0, .int 0, .int 0, .ref m_goes, .int sw, .ref m_hotOnes, .ref m_indexed, .ref m_isChanged, .int 0, .ref m_valueNow, .int 0, .int (-1), .int 0, .ref m_didSome, .ref m_sizes, .ref m_ends])), (m_all, aI cs 51207 f_m_all)]) (wr := []) hx hb hml hown hu hK hP hD hS hA hl.1 (c_X9_isFree l D cs H.size 7 md m_all f_m_all m_deeds m_trial m_hasImage m_tape m_key m_answered m_goes m_hotOnes m_indexed m_isChanged m_valueNow m_didSome m_sizes m_ends dm th sw z_all (by first | decide | grind)) (gV u_1188 u_1190 u_13 u_76 u_1191) hd_X9_isFree ⟨(Nat.le_of_ble_eq_true rfl), (Nat.le_of_ble_eq_true rfl)⟩ [0, 1] [] rfl rfl rfl rfl (by decide) rfl 0 rfl rfl rfl (Nat.le_of_ble_eq_true rfl) dX9_freeMany_13 ⟨(Nat.le_of_ble_eq_true rfl), (Nat.le_of_ble_eq_true rfl)⟩ (fun r_44 ut_45 H locs hw_46 hP hD hS => ?_)
  have hP : va_P D vwCl [(md, .inr (9, [.int th, .ref m_all, .ref m_deeds, .ref m_trial, .int dm, .ref m_hasImage, .ref m_tape, .ref m_key, .ref m_answered, .int 0, .int 0, .int 0, .ref m_goes, .int sw, .ref m_hotOnes, .ref m_indexed, .ref m_isChanged, .int 0, .ref m_valueNow, .int 0, .int (-1), .int 0, .ref m_didSome, .ref m_sizes, .ref m_ends])), (m_all, aI cs 51207 f_m_all)] H := hP
  have hD : va_D A [(md, .inr (9, [.int th, .ref m_all, .ref m_deeds, .ref m_trial, .int dm, .ref m_hasImage, .ref m_tape, .ref m_key, .ref m_answered, .int 0, .int 0, .int 0, .ref m_goes, .int sw, .ref m_hotOnes, .ref m_indexed, .ref m_isChanged, .int 0, .ref m_valueNow, .int 0, .int (-1), .int 0, .ref m_didSome, .ref m_sizes, .ref m_ends])), (m_all, aI cs 51207 f_m_all)] := hD
  have er_47 := hw_46
  subst er_47
  refine lv_if_eq (tgt := 23) hx hb dX9_freeMany_16 (by decide) (fun c_48 => absurd c_48 (by decide)) (fun c_48 => ?_)
  refine lv_iconst (v := 1) hx hb dX9_freeMany_19 (by decide) ?_
  refine lv_goto (tgt := 24) hx hb dX9_freeMany_20 (by decide) ?_
  refine lv_iadd hx hb dX9_freeMany_24 ?_
  refine tpi (y := 8) (by decide) ?_
  refine lv_istore_n (lv' := [(1, .int 8), (2, .int 7), (0, .ref md)]) hx hb dX9_freeMany_25 rfl hl (by decide) rfl (fun ls hl => ?_)
  refine lv_iinc (v := 8) (lv' := [(2, .int 8), (1, .int 8), (0, .ref md)]) hx hb dX9_freeMany_26 hl (k := 1) rfl (by decide) (by decide) rfl (fun ls hl => ?_)
  refine lv_goto (tgt := 4) hx hb dX9_freeMany_29 (by decide) ?_
  refine lv_iload_n hx hb dX9_freeMany_4 rfl (lv_at hl 0 rfl) ?_
  refine lv_bipush (v := 24) hx hb dX9_freeMany_5 (by decide) ?_
  refine lv_icmp_ge (tgt := 32) hx hb dX9_freeMany_7 (by decide) (fun c_49 => absurd c_49 (by decide)) (fun c_49 => ?_)
  refine lv_iload_n hx hb dX9_freeMany_10 rfl (lv_at hl 1 rfl) ?_
  refine lv_aload_n hx hb dX9_freeMany_11 rfl (lv_at hl 2 rfl) ?_
  refine lv_iload_n hx hb dX9_freeMany_12 rfl (lv_at hl 0 rfl) ?_
  refine kV_i (ci := 9) (As := [.int 8]) (rest := [.int 8]) (wc := [(md, .inr (9, [.int th, .ref m_all, .ref m_deeds, .ref m_trial, .int dm, .ref m_hasImage, .ref m_tape, .ref m_key, .ref m_answered, .int 0, .int 0, .int 0, .ref m_goes, .int sw, .ref m_hotOnes, .ref m_indexed, .ref m_isChanged, .int 0, .ref m_valueNow, .int 0, .int (-1), .int 0, .ref m_didSome, .ref m_sizes, .ref m_ends])), (m_all, aI cs 51207 f_m_all)]) (wr := []) hx hb hml hown hu hK hP hD hS hA hl.1 (c_X9_isFree l D cs H.size 8 md m_all f_m_all m_deeds m_trial m_hasImage m_tape m_key m_answered m_goes m_hotOnes m_indexed m_isChanged m_valueNow m_didSome m_sizes m_ends dm th sw z_all (by first | decide | grind)) (gV u_1188 u_1190 u_13 u_76 u_1191) hd_X9_isFree ⟨(Nat.le_of_ble_eq_true rfl), (Nat.le_of_ble_eq_true rfl)⟩ [0, 1] [] rfl rfl rfl rfl (by decide) rfl 0 rfl rfl rfl (Nat.le_of_ble_eq_true rfl) dX9_freeMany_13 ⟨(Nat.le_of_ble_eq_true rfl), (Nat.le_of_ble_eq_true rfl)⟩ (fun r_50 ut_51 H locs hw_52 hP hD hS => ?_)
  have hP : va_P D vwCl [(md, .inr (9, [.int th, .ref m_all, .ref m_deeds, .ref m_trial, .int dm, .ref m_hasImage, .ref m_tape, .ref m_key, .ref m_answered, .int 0, .int 0, .int 0, .ref m_goes, .int sw, .ref m_hotOnes, .ref m_indexed, .ref m_isChanged, .int 0, .ref m_valueNow, .int 0, .int (-1), .int 0, .ref m_didSome, .ref m_sizes, .ref m_ends])), (m_all, aI cs 51207 f_m_all)] H := hP
  have hD : va_D A [(md, .inr (9, [.int th, .ref m_all, .ref m_deeds, .ref m_trial, .int dm, .ref m_hasImage, .ref m_tape, .ref m_key, .ref m_answered, .int 0, .int 0, .int 0, .ref m_goes, .int sw, .ref m_hotOnes, .ref m_indexed, .ref m_isChanged, .int 0, .ref m_valueNow, .int 0, .int (-1), .int 0, .ref m_didSome, .ref m_sizes, .ref m_ends])), (m_all, aI cs 51207 f_m_all)] := hD
  have er_53 := hw_52
  subst er_53
  refine lv_if_eq (tgt := 23) hx hb dX9_freeMany_16 (by decide) (fun c_54 => absurd c_54 (by decide)) (fun c_54 => ?_)
  refine lv_iconst (v := 1) hx hb dX9_freeMany_19 (by decide) ?_
  refine lv_goto (tgt := 24) hx hb dX9_freeMany_20 (by decide) ?_
  refine lv_iadd hx hb dX9_freeMany_24 ?_
  refine tpi (y := 9) (by decide) ?_
  refine lv_istore_n (lv' := [(1, .int 9), (2, .int 8), (0, .ref md)]) hx hb dX9_freeMany_25 rfl hl (by decide) rfl (fun ls hl => ?_)
  refine lv_iinc (v := 9) (lv' := [(2, .int 9), (1, .int 9), (0, .ref md)]) hx hb dX9_freeMany_26 hl (k := 1) rfl (by decide) (by decide) rfl (fun ls hl => ?_)
  refine lv_goto (tgt := 4) hx hb dX9_freeMany_29 (by decide) ?_
  refine lv_iload_n hx hb dX9_freeMany_4 rfl (lv_at hl 0 rfl) ?_
  refine lv_bipush (v := 24) hx hb dX9_freeMany_5 (by decide) ?_
  refine lv_icmp_ge (tgt := 32) hx hb dX9_freeMany_7 (by decide) (fun c_55 => absurd c_55 (by decide)) (fun c_55 => ?_)
  refine lv_iload_n hx hb dX9_freeMany_10 rfl (lv_at hl 1 rfl) ?_
  refine lv_aload_n hx hb dX9_freeMany_11 rfl (lv_at hl 2 rfl) ?_
  refine lv_iload_n hx hb dX9_freeMany_12 rfl (lv_at hl 0 rfl) ?_
  refine kV_i (ci := 9) (As := [.int 9]) (rest := [.int 9]) (wc := [(md, .inr (9, [.int th, .ref m_all, .ref m_deeds, .ref m_trial, .int dm, .ref m_hasImage, .ref m_tape, .ref m_key, .ref m_answered, .int 0, .int 0, .int 0, .ref m_goes, .int sw, .ref m_hotOnes, .ref m_indexed, .ref m_isChanged, .int 0, .ref m_valueNow, .int 0, .int (-1), .int 0, .ref m_didSome, .ref m_sizes, .ref m_ends])), (m_all, aI cs 51207 f_m_all)]) (wr := []) hx hb hml hown hu hK hP hD hS hA hl.1 (c_X9_isFree l D cs H.size 9 md m_all f_m_all m_deeds m_trial m_hasImage m_tape m_key m_answered m_goes m_hotOnes m_indexed m_isChanged m_valueNow m_didSome m_sizes m_ends dm th sw z_all (by first | decide | grind)) (gV u_1188 u_1190 u_13 u_76 u_1191) hd_X9_isFree ⟨(Nat.le_of_ble_eq_true rfl), (Nat.le_of_ble_eq_true rfl)⟩ [0, 1] [] rfl rfl rfl rfl (by decide) rfl 0 rfl rfl rfl (Nat.le_of_ble_eq_true rfl) dX9_freeMany_13 ⟨(Nat.le_of_ble_eq_true rfl), (Nat.le_of_ble_eq_true rfl)⟩ (fun r_56 ut_57 H locs hw_58 hP hD hS => ?_)
  have hP : va_P D vwCl [(md, .inr (9, [.int th, .ref m_all, .ref m_deeds, .ref m_trial, .int dm, .ref m_hasImage, .ref m_tape, .ref m_key, .ref m_answered, .int 0, .int 0, .int 0, .ref m_goes, .int sw, .ref m_hotOnes, .ref m_indexed, .ref m_isChanged, .int 0, .ref m_valueNow, .int 0, .int (-1), .int 0, .ref m_didSome, .ref m_sizes, .ref m_ends])), (m_all, aI cs 51207 f_m_all)] H := hP
  have hD : va_D A [(md, .inr (9, [.int th, .ref m_all, .ref m_deeds, .ref m_trial, .int dm, .ref m_hasImage, .ref m_tape, .ref m_key, .ref m_answered, .int 0, .int 0, .int 0, .ref m_goes, .int sw, .ref m_hotOnes, .ref m_indexed, .ref m_isChanged, .int 0, .ref m_valueNow, .int 0, .int (-1), .int 0, .ref m_didSome, .ref m_sizes, .ref m_ends])), (m_all, aI cs 51207 f_m_all)] := hD
  have er_59 := hw_58
  subst er_59
  refine lv_if_eq (tgt := 23) hx hb dX9_freeMany_16 (by decide) (fun c_60 => absurd c_60 (by decide)) (fun c_60 => ?_)
  refine lv_iconst (v := 1) hx hb dX9_freeMany_19 (by decide) ?_
  refine lv_goto (tgt := 24) hx hb dX9_freeMany_20 (by decide) ?_
  refine lv_iadd hx hb dX9_freeMany_24 ?_
  refine tpi (y := 10) (by decide) ?_
  refine lv_istore_n (lv' := [(1, .int 10), (2, .int 9), (0, .ref md)]) hx hb dX9_freeMany_25 rfl hl (by decide) rfl (fun ls hl => ?_)
  refine lv_iinc (v := 10) (lv' := [(2, .int 10), (1, .int 10), (0, .ref md)]) hx hb dX9_freeMany_26 hl (k := 1) rfl (by decide) (by decide) rfl (fun ls hl => ?_)
  refine lv_goto (tgt := 4) hx hb dX9_freeMany_29 (by decide) ?_
  refine lv_iload_n hx hb dX9_freeMany_4 rfl (lv_at hl 0 rfl) ?_
  refine lv_bipush (v := 24) hx hb dX9_freeMany_5 (by decide) ?_
  refine lv_icmp_ge (tgt := 32) hx hb dX9_freeMany_7 (by decide) (fun c_61 => absurd c_61 (by decide)) (fun c_61 => ?_)
  refine lv_iload_n hx hb dX9_freeMany_10 rfl (lv_at hl 1 rfl) ?_
  refine lv_aload_n hx hb dX9_freeMany_11 rfl (lv_at hl 2 rfl) ?_
  refine lv_iload_n hx hb dX9_freeMany_12 rfl (lv_at hl 0 rfl) ?_
  refine kV_i (ci := 9) (As := [.int 10]) (rest := [.int 10]) (wc := [(md, .inr (9, [.int th, .ref m_all, .ref m_deeds, .ref m_trial, .int dm, .ref m_hasImage, .ref m_tape, .ref m_key, .ref m_answered, .int 0, .int 0, .int 0, .ref m_goes, .int sw, .ref m_hotOnes, .ref m_indexed, .ref m_isChanged, .int 0, .ref m_valueNow, .int 0, .int (-1), .int 0, .ref m_didSome, .ref m_sizes, .ref m_ends])), (m_all, aI cs 51207 f_m_all)]) (wr := []) hx hb hml hown hu hK hP hD hS hA hl.1 (c_X9_isFree l D cs H.size 10 md m_all f_m_all m_deeds m_trial m_hasImage m_tape m_key m_answered m_goes m_hotOnes m_indexed m_isChanged m_valueNow m_didSome m_sizes m_ends dm th sw z_all (by first | decide | grind)) (gV u_1188 u_1190 u_13 u_76 u_1191) hd_X9_isFree ⟨(Nat.le_of_ble_eq_true rfl), (Nat.le_of_ble_eq_true rfl)⟩ [0, 1] [] rfl rfl rfl rfl (by decide) rfl 0 rfl rfl rfl (Nat.le_of_ble_eq_true rfl) dX9_freeMany_13 ⟨(Nat.le_of_ble_eq_true rfl), (Nat.le_of_ble_eq_true rfl)⟩ (fun r_62 ut_63 H locs hw_64 hP hD hS => ?_)
  have hP : va_P D vwCl [(md, .inr (9, [.int th, .ref m_all, .ref m_deeds, .ref m_trial, .int dm, .ref m_hasImage, .ref m_tape, .ref m_key, .ref m_answered, .int 0, .int 0, .int 0, .ref m_goes, .int sw, .ref m_hotOnes, .ref m_indexed, .ref m_isChanged, .int 0, .ref m_valueNow, .int 0, .int (-1), .int 0, .ref m_didSome, .ref m_sizes, .ref m_ends])), (m_all, aI cs 51207 f_m_all)] H := hP
  have hD : va_D A [(md, .inr (9, [.int th, .ref m_all, .ref m_deeds, .ref m_trial, .int dm, .ref m_hasImage, .ref m_tape, .ref m_key, .ref m_answered, .int 0, .int 0, .int 0, .ref m_goes, .int sw, .ref m_hotOnes, .ref m_indexed, .ref m_isChanged, .int 0, .ref m_valueNow, .int 0, .int (-1), .int 0, .ref m_didSome, .ref m_sizes, .ref m_ends])), (m_all, aI cs 51207 f_m_all)] := hD
  have er_65 := hw_64
  subst er_65
  refine lv_if_eq (tgt := 23) hx hb dX9_freeMany_16 (by decide) (fun c_66 => absurd c_66 (by decide)) (fun c_66 => ?_)
  refine lv_iconst (v := 1) hx hb dX9_freeMany_19 (by decide) ?_
  refine lv_goto (tgt := 24) hx hb dX9_freeMany_20 (by decide) ?_
  refine lv_iadd hx hb dX9_freeMany_24 ?_
  refine tpi (y := 11) (by decide) ?_
  refine lv_istore_n (lv' := [(1, .int 11), (2, .int 10), (0, .ref md)]) hx hb dX9_freeMany_25 rfl hl (by decide) rfl (fun ls hl => ?_)
  refine lv_iinc (v := 11) (lv' := [(2, .int 11), (1, .int 11), (0, .ref md)]) hx hb dX9_freeMany_26 hl (k := 1) rfl (by decide) (by decide) rfl (fun ls hl => ?_)
  refine lv_goto (tgt := 4) hx hb dX9_freeMany_29 (by decide) ?_
  refine lv_iload_n hx hb dX9_freeMany_4 rfl (lv_at hl 0 rfl) ?_
  refine lv_bipush (v := 24) hx hb dX9_freeMany_5 (by decide) ?_
  refine lv_icmp_ge (tgt := 32) hx hb dX9_freeMany_7 (by decide) (fun c_67 => absurd c_67 (by decide)) (fun c_67 => ?_)
  refine lv_iload_n hx hb dX9_freeMany_10 rfl (lv_at hl 1 rfl) ?_
  refine lv_aload_n hx hb dX9_freeMany_11 rfl (lv_at hl 2 rfl) ?_
  refine lv_iload_n hx hb dX9_freeMany_12 rfl (lv_at hl 0 rfl) ?_
  refine kV_i (ci := 9) (As := [.int 11]) (rest := [.int 11]) (wc := [(md, .inr (9, [.int th, .ref m_all, .ref m_deeds, .ref m_trial, .int dm, .ref m_hasImage, .ref m_tape, .ref m_key, .ref m_answered, .int 0, .int 0, .int 0, .ref m_goes, .int sw, .ref m_hotOnes, .ref m_indexed, .ref m_isChanged, .int 0, .ref m_valueNow, .int 0, .int (-1), .int 0, .ref m_didSome, .ref m_sizes, .ref m_ends])), (m_all, aI cs 51207 f_m_all)]) (wr := []) hx hb hml hown hu hK hP hD hS hA hl.1 (c_X9_isFree l D cs H.size 11 md m_all f_m_all m_deeds m_trial m_hasImage m_tape m_key m_answered m_goes m_hotOnes m_indexed m_isChanged m_valueNow m_didSome m_sizes m_ends dm th sw z_all (by first | decide | grind)) (gV u_1188 u_1190 u_13 u_76 u_1191) hd_X9_isFree ⟨(Nat.le_of_ble_eq_true rfl), (Nat.le_of_ble_eq_true rfl)⟩ [0, 1] [] rfl rfl rfl rfl (by decide) rfl 0 rfl rfl rfl (Nat.le_of_ble_eq_true rfl) dX9_freeMany_13 ⟨(Nat.le_of_ble_eq_true rfl), (Nat.le_of_ble_eq_true rfl)⟩ (fun r_68 ut_69 H locs hw_70 hP hD hS => ?_)
  have hP : va_P D vwCl [(md, .inr (9, [.int th, .ref m_all, .ref m_deeds, .ref m_trial, .int dm, .ref m_hasImage, .ref m_tape, .ref m_key, .ref m_answered, .int 0, .int 0, .int 0, .ref m_goes, .int sw, .ref m_hotOnes, .ref m_indexed, .ref m_isChanged, .int 0, .ref m_valueNow, .int 0, .int (-1), .int 0, .ref m_didSome, .ref m_sizes, .ref m_ends])), (m_all, aI cs 51207 f_m_all)] H := hP
  have hD : va_D A [(md, .inr (9, [.int th, .ref m_all, .ref m_deeds, .ref m_trial, .int dm, .ref m_hasImage, .ref m_tape, .ref m_key, .ref m_answered, .int 0, .int 0, .int 0, .ref m_goes, .int sw, .ref m_hotOnes, .ref m_indexed, .ref m_isChanged, .int 0, .ref m_valueNow, .int 0, .int (-1), .int 0, .ref m_didSome, .ref m_sizes, .ref m_ends])), (m_all, aI cs 51207 f_m_all)] := hD
  have er_71 := hw_70
  subst er_71
  refine lv_if_eq (tgt := 23) hx hb dX9_freeMany_16 (by decide) (fun c_72 => absurd c_72 (by decide)) (fun c_72 => ?_)
  refine lv_iconst (v := 1) hx hb dX9_freeMany_19 (by decide) ?_
  refine lv_goto (tgt := 24) hx hb dX9_freeMany_20 (by decide) ?_
  refine lv_iadd hx hb dX9_freeMany_24 ?_
  refine tpi (y := 12) (by decide) ?_
  refine lv_istore_n (lv' := [(1, .int 12), (2, .int 11), (0, .ref md)]) hx hb dX9_freeMany_25 rfl hl (by decide) rfl (fun ls hl => ?_)
  refine lv_iinc (v := 12) (lv' := [(2, .int 12), (1, .int 12), (0, .ref md)]) hx hb dX9_freeMany_26 hl (k := 1) rfl (by decide) (by decide) rfl (fun ls hl => ?_)
  refine lv_goto (tgt := 4) hx hb dX9_freeMany_29 (by decide) ?_
  refine lv_iload_n hx hb dX9_freeMany_4 rfl (lv_at hl 0 rfl) ?_
  refine lv_bipush (v := 24) hx hb dX9_freeMany_5 (by decide) ?_
  refine lv_icmp_ge (tgt := 32) hx hb dX9_freeMany_7 (by decide) (fun c_73 => absurd c_73 (by decide)) (fun c_73 => ?_)
  refine lv_iload_n hx hb dX9_freeMany_10 rfl (lv_at hl 1 rfl) ?_
  refine lv_aload_n hx hb dX9_freeMany_11 rfl (lv_at hl 2 rfl) ?_
  refine lv_iload_n hx hb dX9_freeMany_12 rfl (lv_at hl 0 rfl) ?_
  refine kV_i (ci := 9) (As := [.int 12]) (rest := [.int 12]) (wc := [(md, .inr (9, [.int th, .ref m_all, .ref m_deeds, .ref m_trial, .int dm, .ref m_hasImage, .ref m_tape, .ref m_key, .ref m_answered, .int 0, .int 0, .int 0, .ref m_goes, .int sw, .ref m_hotOnes, .ref m_indexed, .ref m_isChanged, .int 0, .ref m_valueNow, .int 0, .int (-1), .int 0, .ref m_didSome, .ref m_sizes, .ref m_ends])), (m_all, aI cs 51207 f_m_all)]) (wr := []) hx hb hml hown hu hK hP hD hS hA hl.1 (c_X9_isFree l D cs H.size 12 md m_all f_m_all m_deeds m_trial m_hasImage m_tape m_key m_answered m_goes m_hotOnes m_indexed m_isChanged m_valueNow m_didSome m_sizes m_ends dm th sw z_all (by first | decide | grind)) (gV u_1188 u_1190 u_13 u_76 u_1191) hd_X9_isFree ⟨(Nat.le_of_ble_eq_true rfl), (Nat.le_of_ble_eq_true rfl)⟩ [0, 1] [] rfl rfl rfl rfl (by decide) rfl 0 rfl rfl rfl (Nat.le_of_ble_eq_true rfl) dX9_freeMany_13 ⟨(Nat.le_of_ble_eq_true rfl), (Nat.le_of_ble_eq_true rfl)⟩ (fun r_74 ut_75 H locs hw_76 hP hD hS => ?_)
  have hP : va_P D vwCl [(md, .inr (9, [.int th, .ref m_all, .ref m_deeds, .ref m_trial, .int dm, .ref m_hasImage, .ref m_tape, .ref m_key, .ref m_answered, .int 0, .int 0, .int 0, .ref m_goes, .int sw, .ref m_hotOnes, .ref m_indexed, .ref m_isChanged, .int 0, .ref m_valueNow, .int 0, .int (-1), .int 0, .ref m_didSome, .ref m_sizes, .ref m_ends])), (m_all, aI cs 51207 f_m_all)] H := hP
  have hD : va_D A [(md, .inr (9, [.int th, .ref m_all, .ref m_deeds, .ref m_trial, .int dm, .ref m_hasImage, .ref m_tape, .ref m_key, .ref m_answered, .int 0, .int 0, .int 0, .ref m_goes, .int sw, .ref m_hotOnes, .ref m_indexed, .ref m_isChanged, .int 0, .ref m_valueNow, .int 0, .int (-1), .int 0, .ref m_didSome, .ref m_sizes, .ref m_ends])), (m_all, aI cs 51207 f_m_all)] := hD
  have er_77 := hw_76
  subst er_77
  refine lv_if_eq (tgt := 23) hx hb dX9_freeMany_16 (by decide) (fun c_78 => absurd c_78 (by decide)) (fun c_78 => ?_)
  refine lv_iconst (v := 1) hx hb dX9_freeMany_19 (by decide) ?_
  refine lv_goto (tgt := 24) hx hb dX9_freeMany_20 (by decide) ?_
  refine lv_iadd hx hb dX9_freeMany_24 ?_
  refine tpi (y := 13) (by decide) ?_
  refine lv_istore_n (lv' := [(1, .int 13), (2, .int 12), (0, .ref md)]) hx hb dX9_freeMany_25 rfl hl (by decide) rfl (fun ls hl => ?_)
  refine lv_iinc (v := 13) (lv' := [(2, .int 13), (1, .int 13), (0, .ref md)]) hx hb dX9_freeMany_26 hl (k := 1) rfl (by decide) (by decide) rfl (fun ls hl => ?_)
  refine lv_goto (tgt := 4) hx hb dX9_freeMany_29 (by decide) ?_
  refine lv_iload_n hx hb dX9_freeMany_4 rfl (lv_at hl 0 rfl) ?_
  refine lv_bipush (v := 24) hx hb dX9_freeMany_5 (by decide) ?_
  refine lv_icmp_ge (tgt := 32) hx hb dX9_freeMany_7 (by decide) (fun c_79 => absurd c_79 (by decide)) (fun c_79 => ?_)
  refine lv_iload_n hx hb dX9_freeMany_10 rfl (lv_at hl 1 rfl) ?_
  refine lv_aload_n hx hb dX9_freeMany_11 rfl (lv_at hl 2 rfl) ?_
  refine lv_iload_n hx hb dX9_freeMany_12 rfl (lv_at hl 0 rfl) ?_
  refine kV_i (ci := 9) (As := [.int 13]) (rest := [.int 13]) (wc := [(md, .inr (9, [.int th, .ref m_all, .ref m_deeds, .ref m_trial, .int dm, .ref m_hasImage, .ref m_tape, .ref m_key, .ref m_answered, .int 0, .int 0, .int 0, .ref m_goes, .int sw, .ref m_hotOnes, .ref m_indexed, .ref m_isChanged, .int 0, .ref m_valueNow, .int 0, .int (-1), .int 0, .ref m_didSome, .ref m_sizes, .ref m_ends])), (m_all, aI cs 51207 f_m_all)]) (wr := []) hx hb hml hown hu hK hP hD hS hA hl.1 (c_X9_isFree l D cs H.size 13 md m_all f_m_all m_deeds m_trial m_hasImage m_tape m_key m_answered m_goes m_hotOnes m_indexed m_isChanged m_valueNow m_didSome m_sizes m_ends dm th sw z_all (by first | decide | grind)) (gV u_1188 u_1190 u_13 u_76 u_1191) hd_X9_isFree ⟨(Nat.le_of_ble_eq_true rfl), (Nat.le_of_ble_eq_true rfl)⟩ [0, 1] [] rfl rfl rfl rfl (by decide) rfl 0 rfl rfl rfl (Nat.le_of_ble_eq_true rfl) dX9_freeMany_13 ⟨(Nat.le_of_ble_eq_true rfl), (Nat.le_of_ble_eq_true rfl)⟩ (fun r_80 ut_81 H locs hw_82 hP hD hS => ?_)
  have hP : va_P D vwCl [(md, .inr (9, [.int th, .ref m_all, .ref m_deeds, .ref m_trial, .int dm, .ref m_hasImage, .ref m_tape, .ref m_key, .ref m_answered, .int 0, .int 0, .int 0, .ref m_goes, .int sw, .ref m_hotOnes, .ref m_indexed, .ref m_isChanged, .int 0, .ref m_valueNow, .int 0, .int (-1), .int 0, .ref m_didSome, .ref m_sizes, .ref m_ends])), (m_all, aI cs 51207 f_m_all)] H := hP
  have hD : va_D A [(md, .inr (9, [.int th, .ref m_all, .ref m_deeds, .ref m_trial, .int dm, .ref m_hasImage, .ref m_tape, .ref m_key, .ref m_answered, .int 0, .int 0, .int 0, .ref m_goes, .int sw, .ref m_hotOnes, .ref m_indexed, .ref m_isChanged, .int 0, .ref m_valueNow, .int 0, .int (-1), .int 0, .ref m_didSome, .ref m_sizes, .ref m_ends])), (m_all, aI cs 51207 f_m_all)] := hD
  have er_83 := hw_82
  subst er_83
  refine lv_if_eq (tgt := 23) hx hb dX9_freeMany_16 (by decide) (fun c_84 => absurd c_84 (by decide)) (fun c_84 => ?_)
  refine lv_iconst (v := 1) hx hb dX9_freeMany_19 (by decide) ?_
  refine lv_goto (tgt := 24) hx hb dX9_freeMany_20 (by decide) ?_
  refine lv_iadd hx hb dX9_freeMany_24 ?_
  refine tpi (y := 14) (by decide) ?_
  refine lv_istore_n (lv' := [(1, .int 14), (2, .int 13), (0, .ref md)]) hx hb dX9_freeMany_25 rfl hl (by decide) rfl (fun ls hl => ?_)
  refine lv_iinc (v := 14) (lv' := [(2, .int 14), (1, .int 14), (0, .ref md)]) hx hb dX9_freeMany_26 hl (k := 1) rfl (by decide) (by decide) rfl (fun ls hl => ?_)
  refine lv_goto (tgt := 4) hx hb dX9_freeMany_29 (by decide) ?_
  refine lv_iload_n hx hb dX9_freeMany_4 rfl (lv_at hl 0 rfl) ?_
  refine lv_bipush (v := 24) hx hb dX9_freeMany_5 (by decide) ?_
  refine lv_icmp_ge (tgt := 32) hx hb dX9_freeMany_7 (by decide) (fun c_85 => absurd c_85 (by decide)) (fun c_85 => ?_)
  refine lv_iload_n hx hb dX9_freeMany_10 rfl (lv_at hl 1 rfl) ?_
  refine lv_aload_n hx hb dX9_freeMany_11 rfl (lv_at hl 2 rfl) ?_
  refine lv_iload_n hx hb dX9_freeMany_12 rfl (lv_at hl 0 rfl) ?_
  refine kV_i (ci := 9) (As := [.int 14]) (rest := [.int 14]) (wc := [(md, .inr (9, [.int th, .ref m_all, .ref m_deeds, .ref m_trial, .int dm, .ref m_hasImage, .ref m_tape, .ref m_key, .ref m_answered, .int 0, .int 0, .int 0, .ref m_goes, .int sw, .ref m_hotOnes, .ref m_indexed, .ref m_isChanged, .int 0, .ref m_valueNow, .int 0, .int (-1), .int 0, .ref m_didSome, .ref m_sizes, .ref m_ends])), (m_all, aI cs 51207 f_m_all)]) (wr := []) hx hb hml hown hu hK hP hD hS hA hl.1 (c_X9_isFree l D cs H.size 14 md m_all f_m_all m_deeds m_trial m_hasImage m_tape m_key m_answered m_goes m_hotOnes m_indexed m_isChanged m_valueNow m_didSome m_sizes m_ends dm th sw z_all (by first | decide | grind)) (gV u_1188 u_1190 u_13 u_76 u_1191) hd_X9_isFree ⟨(Nat.le_of_ble_eq_true rfl), (Nat.le_of_ble_eq_true rfl)⟩ [0, 1] [] rfl rfl rfl rfl (by decide) rfl 0 rfl rfl rfl (Nat.le_of_ble_eq_true rfl) dX9_freeMany_13 ⟨(Nat.le_of_ble_eq_true rfl), (Nat.le_of_ble_eq_true rfl)⟩ (fun r_86 ut_87 H locs hw_88 hP hD hS => ?_)
  have hP : va_P D vwCl [(md, .inr (9, [.int th, .ref m_all, .ref m_deeds, .ref m_trial, .int dm, .ref m_hasImage, .ref m_tape, .ref m_key, .ref m_answered, .int 0, .int 0, .int 0, .ref m_goes, .int sw, .ref m_hotOnes, .ref m_indexed, .ref m_isChanged, .int 0, .ref m_valueNow, .int 0, .int (-1), .int 0, .ref m_didSome, .ref m_sizes, .ref m_ends])), (m_all, aI cs 51207 f_m_all)] H := hP
  have hD : va_D A [(md, .inr (9, [.int th, .ref m_all, .ref m_deeds, .ref m_trial, .int dm, .ref m_hasImage, .ref m_tape, .ref m_key, .ref m_answered, .int 0, .int 0, .int 0, .ref m_goes, .int sw, .ref m_hotOnes, .ref m_indexed, .ref m_isChanged, .int 0, .ref m_valueNow, .int 0, .int (-1), .int 0, .ref m_didSome, .ref m_sizes, .ref m_ends])), (m_all, aI cs 51207 f_m_all)] := hD
  have er_89 := hw_88
  subst er_89
  refine lv_if_eq (tgt := 23) hx hb dX9_freeMany_16 (by decide) (fun c_90 => absurd c_90 (by decide)) (fun c_90 => ?_)
  refine lv_iconst (v := 1) hx hb dX9_freeMany_19 (by decide) ?_
  refine lv_goto (tgt := 24) hx hb dX9_freeMany_20 (by decide) ?_
  refine lv_iadd hx hb dX9_freeMany_24 ?_
  refine tpi (y := 15) (by decide) ?_
  refine lv_istore_n (lv' := [(1, .int 15), (2, .int 14), (0, .ref md)]) hx hb dX9_freeMany_25 rfl hl (by decide) rfl (fun ls hl => ?_)
  refine lv_iinc (v := 15) (lv' := [(2, .int 15), (1, .int 15), (0, .ref md)]) hx hb dX9_freeMany_26 hl (k := 1) rfl (by decide) (by decide) rfl (fun ls hl => ?_)
  refine lv_goto (tgt := 4) hx hb dX9_freeMany_29 (by decide) ?_
  refine lv_iload_n hx hb dX9_freeMany_4 rfl (lv_at hl 0 rfl) ?_
  refine lv_bipush (v := 24) hx hb dX9_freeMany_5 (by decide) ?_
  refine lv_icmp_ge (tgt := 32) hx hb dX9_freeMany_7 (by decide) (fun c_91 => absurd c_91 (by decide)) (fun c_91 => ?_)
  refine lv_iload_n hx hb dX9_freeMany_10 rfl (lv_at hl 1 rfl) ?_
  refine lv_aload_n hx hb dX9_freeMany_11 rfl (lv_at hl 2 rfl) ?_
  refine lv_iload_n hx hb dX9_freeMany_12 rfl (lv_at hl 0 rfl) ?_
  refine kV_i (ci := 9) (As := [.int 15]) (rest := [.int 15]) (wc := [(md, .inr (9, [.int th, .ref m_all, .ref m_deeds, .ref m_trial, .int dm, .ref m_hasImage, .ref m_tape, .ref m_key, .ref m_answered, .int 0, .int 0, .int 0, .ref m_goes, .int sw, .ref m_hotOnes, .ref m_indexed, .ref m_isChanged, .int 0, .ref m_valueNow, .int 0, .int (-1), .int 0, .ref m_didSome, .ref m_sizes, .ref m_ends])), (m_all, aI cs 51207 f_m_all)]) (wr := []) hx hb hml hown hu hK hP hD hS hA hl.1 (c_X9_isFree l D cs H.size 15 md m_all f_m_all m_deeds m_trial m_hasImage m_tape m_key m_answered m_goes m_hotOnes m_indexed m_isChanged m_valueNow m_didSome m_sizes m_ends dm th sw z_all (by first | decide | grind)) (gV u_1188 u_1190 u_13 u_76 u_1191) hd_X9_isFree ⟨(Nat.le_of_ble_eq_true rfl), (Nat.le_of_ble_eq_true rfl)⟩ [0, 1] [] rfl rfl rfl rfl (by decide) rfl 0 rfl rfl rfl (Nat.le_of_ble_eq_true rfl) dX9_freeMany_13 ⟨(Nat.le_of_ble_eq_true rfl), (Nat.le_of_ble_eq_true rfl)⟩ (fun r_92 ut_93 H locs hw_94 hP hD hS => ?_)
  have hP : va_P D vwCl [(md, .inr (9, [.int th, .ref m_all, .ref m_deeds, .ref m_trial, .int dm, .ref m_hasImage, .ref m_tape, .ref m_key, .ref m_answered, .int 0, .int 0, .int 0, .ref m_goes, .int sw, .ref m_hotOnes, .ref m_indexed, .ref m_isChanged, .int 0, .ref m_valueNow, .int 0, .int (-1), .int 0, .ref m_didSome, .ref m_sizes, .ref m_ends])), (m_all, aI cs 51207 f_m_all)] H := hP
  have hD : va_D A [(md, .inr (9, [.int th, .ref m_all, .ref m_deeds, .ref m_trial, .int dm, .ref m_hasImage, .ref m_tape, .ref m_key, .ref m_answered, .int 0, .int 0, .int 0, .ref m_goes, .int sw, .ref m_hotOnes, .ref m_indexed, .ref m_isChanged, .int 0, .ref m_valueNow, .int 0, .int (-1), .int 0, .ref m_didSome, .ref m_sizes, .ref m_ends])), (m_all, aI cs 51207 f_m_all)] := hD
  have er_95 := hw_94
  subst er_95
  refine lv_if_eq (tgt := 23) hx hb dX9_freeMany_16 (by decide) (fun c_96 => absurd c_96 (by decide)) (fun c_96 => ?_)
  refine lv_iconst (v := 1) hx hb dX9_freeMany_19 (by decide) ?_
  refine lv_goto (tgt := 24) hx hb dX9_freeMany_20 (by decide) ?_
  refine lv_iadd hx hb dX9_freeMany_24 ?_
  refine tpi (y := 16) (by decide) ?_
  refine lv_istore_n (lv' := [(1, .int 16), (2, .int 15), (0, .ref md)]) hx hb dX9_freeMany_25 rfl hl (by decide) rfl (fun ls hl => ?_)
  refine lv_iinc (v := 16) (lv' := [(2, .int 16), (1, .int 16), (0, .ref md)]) hx hb dX9_freeMany_26 hl (k := 1) rfl (by decide) (by decide) rfl (fun ls hl => ?_)
  refine lv_goto (tgt := 4) hx hb dX9_freeMany_29 (by decide) ?_
  refine lv_iload_n hx hb dX9_freeMany_4 rfl (lv_at hl 0 rfl) ?_
  refine lv_bipush (v := 24) hx hb dX9_freeMany_5 (by decide) ?_
  refine lv_icmp_ge (tgt := 32) hx hb dX9_freeMany_7 (by decide) (fun c_97 => absurd c_97 (by decide)) (fun c_97 => ?_)
  refine lv_iload_n hx hb dX9_freeMany_10 rfl (lv_at hl 1 rfl) ?_
  refine lv_aload_n hx hb dX9_freeMany_11 rfl (lv_at hl 2 rfl) ?_
  refine lv_iload_n hx hb dX9_freeMany_12 rfl (lv_at hl 0 rfl) ?_
  refine kV_i (ci := 9) (As := [.int 16]) (rest := [.int 16]) (wc := [(md, .inr (9, [.int th, .ref m_all, .ref m_deeds, .ref m_trial, .int dm, .ref m_hasImage, .ref m_tape, .ref m_key, .ref m_answered, .int 0, .int 0, .int 0, .ref m_goes, .int sw, .ref m_hotOnes, .ref m_indexed, .ref m_isChanged, .int 0, .ref m_valueNow, .int 0, .int (-1), .int 0, .ref m_didSome, .ref m_sizes, .ref m_ends])), (m_all, aI cs 51207 f_m_all)]) (wr := []) hx hb hml hown hu hK hP hD hS hA hl.1 (c_X9_isFree l D cs H.size 16 md m_all f_m_all m_deeds m_trial m_hasImage m_tape m_key m_answered m_goes m_hotOnes m_indexed m_isChanged m_valueNow m_didSome m_sizes m_ends dm th sw z_all (by first | decide | grind)) (gV u_1188 u_1190 u_13 u_76 u_1191) hd_X9_isFree ⟨(Nat.le_of_ble_eq_true rfl), (Nat.le_of_ble_eq_true rfl)⟩ [0, 1] [] rfl rfl rfl rfl (by decide) rfl 0 rfl rfl rfl (Nat.le_of_ble_eq_true rfl) dX9_freeMany_13 ⟨(Nat.le_of_ble_eq_true rfl), (Nat.le_of_ble_eq_true rfl)⟩ (fun r_98 ut_99 H locs hw_100 hP hD hS => ?_)
  have hP : va_P D vwCl [(md, .inr (9, [.int th, .ref m_all, .ref m_deeds, .ref m_trial, .int dm, .ref m_hasImage, .ref m_tape, .ref m_key, .ref m_answered, .int 0, .int 0, .int 0, .ref m_goes, .int sw, .ref m_hotOnes, .ref m_indexed, .ref m_isChanged, .int 0, .ref m_valueNow, .int 0, .int (-1), .int 0, .ref m_didSome, .ref m_sizes, .ref m_ends])), (m_all, aI cs 51207 f_m_all)] H := hP
  have hD : va_D A [(md, .inr (9, [.int th, .ref m_all, .ref m_deeds, .ref m_trial, .int dm, .ref m_hasImage, .ref m_tape, .ref m_key, .ref m_answered, .int 0, .int 0, .int 0, .ref m_goes, .int sw, .ref m_hotOnes, .ref m_indexed, .ref m_isChanged, .int 0, .ref m_valueNow, .int 0, .int (-1), .int 0, .ref m_didSome, .ref m_sizes, .ref m_ends])), (m_all, aI cs 51207 f_m_all)] := hD
  have er_101 := hw_100
  subst er_101
  refine lv_if_eq (tgt := 23) hx hb dX9_freeMany_16 (by decide) (fun c_102 => absurd c_102 (by decide)) (fun c_102 => ?_)
  refine lv_iconst (v := 1) hx hb dX9_freeMany_19 (by decide) ?_
  refine lv_goto (tgt := 24) hx hb dX9_freeMany_20 (by decide) ?_
  refine lv_iadd hx hb dX9_freeMany_24 ?_
  refine tpi (y := 17) (by decide) ?_
  refine lv_istore_n (lv' := [(1, .int 17), (2, .int 16), (0, .ref md)]) hx hb dX9_freeMany_25 rfl hl (by decide) rfl (fun ls hl => ?_)
  refine lv_iinc (v := 17) (lv' := [(2, .int 17), (1, .int 17), (0, .ref md)]) hx hb dX9_freeMany_26 hl (k := 1) rfl (by decide) (by decide) rfl (fun ls hl => ?_)
  refine lv_goto (tgt := 4) hx hb dX9_freeMany_29 (by decide) ?_
  refine lv_iload_n hx hb dX9_freeMany_4 rfl (lv_at hl 0 rfl) ?_
  refine lv_bipush (v := 24) hx hb dX9_freeMany_5 (by decide) ?_
  refine lv_icmp_ge (tgt := 32) hx hb dX9_freeMany_7 (by decide) (fun c_103 => absurd c_103 (by decide)) (fun c_103 => ?_)
  refine lv_iload_n hx hb dX9_freeMany_10 rfl (lv_at hl 1 rfl) ?_
  refine lv_aload_n hx hb dX9_freeMany_11 rfl (lv_at hl 2 rfl) ?_
  refine lv_iload_n hx hb dX9_freeMany_12 rfl (lv_at hl 0 rfl) ?_
  refine kV_i (ci := 9) (As := [.int 17]) (rest := [.int 17]) (wc := [(md, .inr (9, [.int th, .ref m_all, .ref m_deeds, .ref m_trial, .int dm, .ref m_hasImage, .ref m_tape, .ref m_key, .ref m_answered, .int 0, .int 0, .int 0, .ref m_goes, .int sw, .ref m_hotOnes, .ref m_indexed, .ref m_isChanged, .int 0, .ref m_valueNow, .int 0, .int (-1), .int 0, .ref m_didSome, .ref m_sizes, .ref m_ends])), (m_all, aI cs 51207 f_m_all)]) (wr := []) hx hb hml hown hu hK hP hD hS hA hl.1 (c_X9_isFree l D cs H.size 17 md m_all f_m_all m_deeds m_trial m_hasImage m_tape m_key m_answered m_goes m_hotOnes m_indexed m_isChanged m_valueNow m_didSome m_sizes m_ends dm th sw z_all (by first | decide | grind)) (gV u_1188 u_1190 u_13 u_76 u_1191) hd_X9_isFree ⟨(Nat.le_of_ble_eq_true rfl), (Nat.le_of_ble_eq_true rfl)⟩ [0, 1] [] rfl rfl rfl rfl (by decide) rfl 0 rfl rfl rfl (Nat.le_of_ble_eq_true rfl) dX9_freeMany_13 ⟨(Nat.le_of_ble_eq_true rfl), (Nat.le_of_ble_eq_true rfl)⟩ (fun r_104 ut_105 H locs hw_106 hP hD hS => ?_)
  have hP : va_P D vwCl [(md, .inr (9, [.int th, .ref m_all, .ref m_deeds, .ref m_trial, .int dm, .ref m_hasImage, .ref m_tape, .ref m_key, .ref m_answered, .int 0, .int 0, .int 0, .ref m_goes, .int sw, .ref m_hotOnes, .ref m_indexed, .ref m_isChanged, .int 0, .ref m_valueNow, .int 0, .int (-1), .int 0, .ref m_didSome, .ref m_sizes, .ref m_ends])), (m_all, aI cs 51207 f_m_all)] H := hP
  have hD : va_D A [(md, .inr (9, [.int th, .ref m_all, .ref m_deeds, .ref m_trial, .int dm, .ref m_hasImage, .ref m_tape, .ref m_key, .ref m_answered, .int 0, .int 0, .int 0, .ref m_goes, .int sw, .ref m_hotOnes, .ref m_indexed, .ref m_isChanged, .int 0, .ref m_valueNow, .int 0, .int (-1), .int 0, .ref m_didSome, .ref m_sizes, .ref m_ends])), (m_all, aI cs 51207 f_m_all)] := hD
  have er_107 := hw_106
  subst er_107
  refine lv_if_eq (tgt := 23) hx hb dX9_freeMany_16 (by decide) (fun c_108 => absurd c_108 (by decide)) (fun c_108 => ?_)
  refine lv_iconst (v := 1) hx hb dX9_freeMany_19 (by decide) ?_
  refine lv_goto (tgt := 24) hx hb dX9_freeMany_20 (by decide) ?_
  refine lv_iadd hx hb dX9_freeMany_24 ?_
  refine tpi (y := 18) (by decide) ?_
  refine lv_istore_n (lv' := [(1, .int 18), (2, .int 17), (0, .ref md)]) hx hb dX9_freeMany_25 rfl hl (by decide) rfl (fun ls hl => ?_)
  refine lv_iinc (v := 18) (lv' := [(2, .int 18), (1, .int 18), (0, .ref md)]) hx hb dX9_freeMany_26 hl (k := 1) rfl (by decide) (by decide) rfl (fun ls hl => ?_)
  refine lv_goto (tgt := 4) hx hb dX9_freeMany_29 (by decide) ?_
  refine lv_iload_n hx hb dX9_freeMany_4 rfl (lv_at hl 0 rfl) ?_
  refine lv_bipush (v := 24) hx hb dX9_freeMany_5 (by decide) ?_
  refine lv_icmp_ge (tgt := 32) hx hb dX9_freeMany_7 (by decide) (fun c_109 => absurd c_109 (by decide)) (fun c_109 => ?_)
  refine lv_iload_n hx hb dX9_freeMany_10 rfl (lv_at hl 1 rfl) ?_
  refine lv_aload_n hx hb dX9_freeMany_11 rfl (lv_at hl 2 rfl) ?_
  refine lv_iload_n hx hb dX9_freeMany_12 rfl (lv_at hl 0 rfl) ?_
  refine kV_i (ci := 9) (As := [.int 18]) (rest := [.int 18]) (wc := [(md, .inr (9, [.int th, .ref m_all, .ref m_deeds, .ref m_trial, .int dm, .ref m_hasImage, .ref m_tape, .ref m_key, .ref m_answered, .int 0, .int 0, .int 0, .ref m_goes, .int sw, .ref m_hotOnes, .ref m_indexed, .ref m_isChanged, .int 0, .ref m_valueNow, .int 0, .int (-1), .int 0, .ref m_didSome, .ref m_sizes, .ref m_ends])), (m_all, aI cs 51207 f_m_all)]) (wr := []) hx hb hml hown hu hK hP hD hS hA hl.1 (c_X9_isFree l D cs H.size 18 md m_all f_m_all m_deeds m_trial m_hasImage m_tape m_key m_answered m_goes m_hotOnes m_indexed m_isChanged m_valueNow m_didSome m_sizes m_ends dm th sw z_all (by first | decide | grind)) (gV u_1188 u_1190 u_13 u_76 u_1191) hd_X9_isFree ⟨(Nat.le_of_ble_eq_true rfl), (Nat.le_of_ble_eq_true rfl)⟩ [0, 1] [] rfl rfl rfl rfl (by decide) rfl 0 rfl rfl rfl (Nat.le_of_ble_eq_true rfl) dX9_freeMany_13 ⟨(Nat.le_of_ble_eq_true rfl), (Nat.le_of_ble_eq_true rfl)⟩ (fun r_110 ut_111 H locs hw_112 hP hD hS => ?_)
  have hP : va_P D vwCl [(md, .inr (9, [.int th, .ref m_all, .ref m_deeds, .ref m_trial, .int dm, .ref m_hasImage, .ref m_tape, .ref m_key, .ref m_answered, .int 0, .int 0, .int 0, .ref m_goes, .int sw, .ref m_hotOnes, .ref m_indexed, .ref m_isChanged, .int 0, .ref m_valueNow, .int 0, .int (-1), .int 0, .ref m_didSome, .ref m_sizes, .ref m_ends])), (m_all, aI cs 51207 f_m_all)] H := hP
  have hD : va_D A [(md, .inr (9, [.int th, .ref m_all, .ref m_deeds, .ref m_trial, .int dm, .ref m_hasImage, .ref m_tape, .ref m_key, .ref m_answered, .int 0, .int 0, .int 0, .ref m_goes, .int sw, .ref m_hotOnes, .ref m_indexed, .ref m_isChanged, .int 0, .ref m_valueNow, .int 0, .int (-1), .int 0, .ref m_didSome, .ref m_sizes, .ref m_ends])), (m_all, aI cs 51207 f_m_all)] := hD
  have er_113 := hw_112
  subst er_113
  refine lv_if_eq (tgt := 23) hx hb dX9_freeMany_16 (by decide) (fun c_114 => absurd c_114 (by decide)) (fun c_114 => ?_)
  refine lv_iconst (v := 1) hx hb dX9_freeMany_19 (by decide) ?_
  refine lv_goto (tgt := 24) hx hb dX9_freeMany_20 (by decide) ?_
  refine lv_iadd hx hb dX9_freeMany_24 ?_
  refine tpi (y := 19) (by decide) ?_
  refine lv_istore_n (lv' := [(1, .int 19), (2, .int 18), (0, .ref md)]) hx hb dX9_freeMany_25 rfl hl (by decide) rfl (fun ls hl => ?_)
  refine lv_iinc (v := 19) (lv' := [(2, .int 19), (1, .int 19), (0, .ref md)]) hx hb dX9_freeMany_26 hl (k := 1) rfl (by decide) (by decide) rfl (fun ls hl => ?_)
  refine lv_goto (tgt := 4) hx hb dX9_freeMany_29 (by decide) ?_
  refine lv_iload_n hx hb dX9_freeMany_4 rfl (lv_at hl 0 rfl) ?_
  refine lv_bipush (v := 24) hx hb dX9_freeMany_5 (by decide) ?_
  refine lv_icmp_ge (tgt := 32) hx hb dX9_freeMany_7 (by decide) (fun c_115 => absurd c_115 (by decide)) (fun c_115 => ?_)
  refine lv_iload_n hx hb dX9_freeMany_10 rfl (lv_at hl 1 rfl) ?_
  refine lv_aload_n hx hb dX9_freeMany_11 rfl (lv_at hl 2 rfl) ?_
  refine lv_iload_n hx hb dX9_freeMany_12 rfl (lv_at hl 0 rfl) ?_
  refine kV_i (ci := 9) (As := [.int 19]) (rest := [.int 19]) (wc := [(md, .inr (9, [.int th, .ref m_all, .ref m_deeds, .ref m_trial, .int dm, .ref m_hasImage, .ref m_tape, .ref m_key, .ref m_answered, .int 0, .int 0, .int 0, .ref m_goes, .int sw, .ref m_hotOnes, .ref m_indexed, .ref m_isChanged, .int 0, .ref m_valueNow, .int 0, .int (-1), .int 0, .ref m_didSome, .ref m_sizes, .ref m_ends])), (m_all, aI cs 51207 f_m_all)]) (wr := []) hx hb hml hown hu hK hP hD hS hA hl.1 (c_X9_isFree l D cs H.size 19 md m_all f_m_all m_deeds m_trial m_hasImage m_tape m_key m_answered m_goes m_hotOnes m_indexed m_isChanged m_valueNow m_didSome m_sizes m_ends dm th sw z_all (by first | decide | grind)) (gV u_1188 u_1190 u_13 u_76 u_1191) hd_X9_isFree ⟨(Nat.le_of_ble_eq_true rfl), (Nat.le_of_ble_eq_true rfl)⟩ [0, 1] [] rfl rfl rfl rfl (by decide) rfl 0 rfl rfl rfl (Nat.le_of_ble_eq_true rfl) dX9_freeMany_13 ⟨(Nat.le_of_ble_eq_true rfl), (Nat.le_of_ble_eq_true rfl)⟩ (fun r_116 ut_117 H locs hw_118 hP hD hS => ?_)
  have hP : va_P D vwCl [(md, .inr (9, [.int th, .ref m_all, .ref m_deeds, .ref m_trial, .int dm, .ref m_hasImage, .ref m_tape, .ref m_key, .ref m_answered, .int 0, .int 0, .int 0, .ref m_goes, .int sw, .ref m_hotOnes, .ref m_indexed, .ref m_isChanged, .int 0, .ref m_valueNow, .int 0, .int (-1), .int 0, .ref m_didSome, .ref m_sizes, .ref m_ends])), (m_all, aI cs 51207 f_m_all)] H := hP
  have hD : va_D A [(md, .inr (9, [.int th, .ref m_all, .ref m_deeds, .ref m_trial, .int dm, .ref m_hasImage, .ref m_tape, .ref m_key, .ref m_answered, .int 0, .int 0, .int 0, .ref m_goes, .int sw, .ref m_hotOnes, .ref m_indexed, .ref m_isChanged, .int 0, .ref m_valueNow, .int 0, .int (-1), .int 0, .ref m_didSome, .ref m_sizes, .ref m_ends])), (m_all, aI cs 51207 f_m_all)] := hD
  have er_119 := hw_118
  subst er_119
  refine lv_if_eq (tgt := 23) hx hb dX9_freeMany_16 (by decide) (fun c_120 => absurd c_120 (by decide)) (fun c_120 => ?_)
  refine lv_iconst (v := 1) hx hb dX9_freeMany_19 (by decide) ?_
  refine lv_goto (tgt := 24) hx hb dX9_freeMany_20 (by decide) ?_
  refine lv_iadd hx hb dX9_freeMany_24 ?_
  refine tpi (y := 20) (by decide) ?_
  refine lv_istore_n (lv' := [(1, .int 20), (2, .int 19), (0, .ref md)]) hx hb dX9_freeMany_25 rfl hl (by decide) rfl (fun ls hl => ?_)
  refine lv_iinc (v := 20) (lv' := [(2, .int 20), (1, .int 20), (0, .ref md)]) hx hb dX9_freeMany_26 hl (k := 1) rfl (by decide) (by decide) rfl (fun ls hl => ?_)
  refine lv_goto (tgt := 4) hx hb dX9_freeMany_29 (by decide) ?_
  refine lv_iload_n hx hb dX9_freeMany_4 rfl (lv_at hl 0 rfl) ?_
  refine lv_bipush (v := 24) hx hb dX9_freeMany_5 (by decide) ?_
  refine lv_icmp_ge (tgt := 32) hx hb dX9_freeMany_7 (by decide) (fun c_121 => absurd c_121 (by decide)) (fun c_121 => ?_)
  refine lv_iload_n hx hb dX9_freeMany_10 rfl (lv_at hl 1 rfl) ?_
  refine lv_aload_n hx hb dX9_freeMany_11 rfl (lv_at hl 2 rfl) ?_
  refine lv_iload_n hx hb dX9_freeMany_12 rfl (lv_at hl 0 rfl) ?_
  refine kV_i (ci := 9) (As := [.int 20]) (rest := [.int 20]) (wc := [(md, .inr (9, [.int th, .ref m_all, .ref m_deeds, .ref m_trial, .int dm, .ref m_hasImage, .ref m_tape, .ref m_key, .ref m_answered, .int 0, .int 0, .int 0, .ref m_goes, .int sw, .ref m_hotOnes, .ref m_indexed, .ref m_isChanged, .int 0, .ref m_valueNow, .int 0, .int (-1), .int 0, .ref m_didSome, .ref m_sizes, .ref m_ends])), (m_all, aI cs 51207 f_m_all)]) (wr := []) hx hb hml hown hu hK hP hD hS hA hl.1 (c_X9_isFree l D cs H.size 20 md m_all f_m_all m_deeds m_trial m_hasImage m_tape m_key m_answered m_goes m_hotOnes m_indexed m_isChanged m_valueNow m_didSome m_sizes m_ends dm th sw z_all (by first | decide | grind)) (gV u_1188 u_1190 u_13 u_76 u_1191) hd_X9_isFree ⟨(Nat.le_of_ble_eq_true rfl), (Nat.le_of_ble_eq_true rfl)⟩ [0, 1] [] rfl rfl rfl rfl (by decide) rfl 0 rfl rfl rfl (Nat.le_of_ble_eq_true rfl) dX9_freeMany_13 ⟨(Nat.le_of_ble_eq_true rfl), (Nat.le_of_ble_eq_true rfl)⟩ (fun r_122 ut_123 H locs hw_124 hP hD hS => ?_)
  have hP : va_P D vwCl [(md, .inr (9, [.int th, .ref m_all, .ref m_deeds, .ref m_trial, .int dm, .ref m_hasImage, .ref m_tape, .ref m_key, .ref m_answered, .int 0, .int 0, .int 0, .ref m_goes, .int sw, .ref m_hotOnes, .ref m_indexed, .ref m_isChanged, .int 0, .ref m_valueNow, .int 0, .int (-1), .int 0, .ref m_didSome, .ref m_sizes, .ref m_ends])), (m_all, aI cs 51207 f_m_all)] H := hP
  have hD : va_D A [(md, .inr (9, [.int th, .ref m_all, .ref m_deeds, .ref m_trial, .int dm, .ref m_hasImage, .ref m_tape, .ref m_key, .ref m_answered, .int 0, .int 0, .int 0, .ref m_goes, .int sw, .ref m_hotOnes, .ref m_indexed, .ref m_isChanged, .int 0, .ref m_valueNow, .int 0, .int (-1), .int 0, .ref m_didSome, .ref m_sizes, .ref m_ends])), (m_all, aI cs 51207 f_m_all)] := hD
  have er_125 := hw_124
  subst er_125
  refine lv_if_eq (tgt := 23) hx hb dX9_freeMany_16 (by decide) (fun c_126 => absurd c_126 (by decide)) (fun c_126 => ?_)
  refine lv_iconst (v := 1) hx hb dX9_freeMany_19 (by decide) ?_
  refine lv_goto (tgt := 24) hx hb dX9_freeMany_20 (by decide) ?_
  refine lv_iadd hx hb dX9_freeMany_24 ?_
  refine tpi (y := 21) (by decide) ?_
  refine lv_istore_n (lv' := [(1, .int 21), (2, .int 20), (0, .ref md)]) hx hb dX9_freeMany_25 rfl hl (by decide) rfl (fun ls hl => ?_)
  refine lv_iinc (v := 21) (lv' := [(2, .int 21), (1, .int 21), (0, .ref md)]) hx hb dX9_freeMany_26 hl (k := 1) rfl (by decide) (by decide) rfl (fun ls hl => ?_)
  refine lv_goto (tgt := 4) hx hb dX9_freeMany_29 (by decide) ?_
  refine lv_iload_n hx hb dX9_freeMany_4 rfl (lv_at hl 0 rfl) ?_
  refine lv_bipush (v := 24) hx hb dX9_freeMany_5 (by decide) ?_
  refine lv_icmp_ge (tgt := 32) hx hb dX9_freeMany_7 (by decide) (fun c_127 => absurd c_127 (by decide)) (fun c_127 => ?_)
  refine lv_iload_n hx hb dX9_freeMany_10 rfl (lv_at hl 1 rfl) ?_
  refine lv_aload_n hx hb dX9_freeMany_11 rfl (lv_at hl 2 rfl) ?_
  refine lv_iload_n hx hb dX9_freeMany_12 rfl (lv_at hl 0 rfl) ?_
  refine kV_i (ci := 9) (As := [.int 21]) (rest := [.int 21]) (wc := [(md, .inr (9, [.int th, .ref m_all, .ref m_deeds, .ref m_trial, .int dm, .ref m_hasImage, .ref m_tape, .ref m_key, .ref m_answered, .int 0, .int 0, .int 0, .ref m_goes, .int sw, .ref m_hotOnes, .ref m_indexed, .ref m_isChanged, .int 0, .ref m_valueNow, .int 0, .int (-1), .int 0, .ref m_didSome, .ref m_sizes, .ref m_ends])), (m_all, aI cs 51207 f_m_all)]) (wr := []) hx hb hml hown hu hK hP hD hS hA hl.1 (c_X9_isFree l D cs H.size 21 md m_all f_m_all m_deeds m_trial m_hasImage m_tape m_key m_answered m_goes m_hotOnes m_indexed m_isChanged m_valueNow m_didSome m_sizes m_ends dm th sw z_all (by first | decide | grind)) (gV u_1188 u_1190 u_13 u_76 u_1191) hd_X9_isFree ⟨(Nat.le_of_ble_eq_true rfl), (Nat.le_of_ble_eq_true rfl)⟩ [0, 1] [] rfl rfl rfl rfl (by decide) rfl 0 rfl rfl rfl (Nat.le_of_ble_eq_true rfl) dX9_freeMany_13 ⟨(Nat.le_of_ble_eq_true rfl), (Nat.le_of_ble_eq_true rfl)⟩ (fun r_128 ut_129 H locs hw_130 hP hD hS => ?_)
  have hP : va_P D vwCl [(md, .inr (9, [.int th, .ref m_all, .ref m_deeds, .ref m_trial, .int dm, .ref m_hasImage, .ref m_tape, .ref m_key, .ref m_answered, .int 0, .int 0, .int 0, .ref m_goes, .int sw, .ref m_hotOnes, .ref m_indexed, .ref m_isChanged, .int 0, .ref m_valueNow, .int 0, .int (-1), .int 0, .ref m_didSome, .ref m_sizes, .ref m_ends])), (m_all, aI cs 51207 f_m_all)] H := hP
  have hD : va_D A [(md, .inr (9, [.int th, .ref m_all, .ref m_deeds, .ref m_trial, .int dm, .ref m_hasImage, .ref m_tape, .ref m_key, .ref m_answered, .int 0, .int 0, .int 0, .ref m_goes, .int sw, .ref m_hotOnes, .ref m_indexed, .ref m_isChanged, .int 0, .ref m_valueNow, .int 0, .int (-1), .int 0, .ref m_didSome, .ref m_sizes, .ref m_ends])), (m_all, aI cs 51207 f_m_all)] := hD
  have er_131 := hw_130
  subst er_131
  refine lv_if_eq (tgt := 23) hx hb dX9_freeMany_16 (by decide) (fun c_132 => absurd c_132 (by decide)) (fun c_132 => ?_)
  refine lv_iconst (v := 1) hx hb dX9_freeMany_19 (by decide) ?_
  refine lv_goto (tgt := 24) hx hb dX9_freeMany_20 (by decide) ?_
  refine lv_iadd hx hb dX9_freeMany_24 ?_
  refine tpi (y := 22) (by decide) ?_
  refine lv_istore_n (lv' := [(1, .int 22), (2, .int 21), (0, .ref md)]) hx hb dX9_freeMany_25 rfl hl (by decide) rfl (fun ls hl => ?_)
  refine lv_iinc (v := 22) (lv' := [(2, .int 22), (1, .int 22), (0, .ref md)]) hx hb dX9_freeMany_26 hl (k := 1) rfl (by decide) (by decide) rfl (fun ls hl => ?_)
  refine lv_goto (tgt := 4) hx hb dX9_freeMany_29 (by decide) ?_
  refine lv_iload_n hx hb dX9_freeMany_4 rfl (lv_at hl 0 rfl) ?_
  refine lv_bipush (v := 24) hx hb dX9_freeMany_5 (by decide) ?_
  refine lv_icmp_ge (tgt := 32) hx hb dX9_freeMany_7 (by decide) (fun c_133 => absurd c_133 (by decide)) (fun c_133 => ?_)
  refine lv_iload_n hx hb dX9_freeMany_10 rfl (lv_at hl 1 rfl) ?_
  refine lv_aload_n hx hb dX9_freeMany_11 rfl (lv_at hl 2 rfl) ?_
  refine lv_iload_n hx hb dX9_freeMany_12 rfl (lv_at hl 0 rfl) ?_
  refine kV_i (ci := 9) (As := [.int 22]) (rest := [.int 22]) (wc := [(md, .inr (9, [.int th, .ref m_all, .ref m_deeds, .ref m_trial, .int dm, .ref m_hasImage, .ref m_tape, .ref m_key, .ref m_answered, .int 0, .int 0, .int 0, .ref m_goes, .int sw, .ref m_hotOnes, .ref m_indexed, .ref m_isChanged, .int 0, .ref m_valueNow, .int 0, .int (-1), .int 0, .ref m_didSome, .ref m_sizes, .ref m_ends])), (m_all, aI cs 51207 f_m_all)]) (wr := []) hx hb hml hown hu hK hP hD hS hA hl.1 (c_X9_isFree l D cs H.size 22 md m_all f_m_all m_deeds m_trial m_hasImage m_tape m_key m_answered m_goes m_hotOnes m_indexed m_isChanged m_valueNow m_didSome m_sizes m_ends dm th sw z_all (by first | decide | grind)) (gV u_1188 u_1190 u_13 u_76 u_1191) hd_X9_isFree ⟨(Nat.le_of_ble_eq_true rfl), (Nat.le_of_ble_eq_true rfl)⟩ [0, 1] [] rfl rfl rfl rfl (by decide) rfl 0 rfl rfl rfl (Nat.le_of_ble_eq_true rfl) dX9_freeMany_13 ⟨(Nat.le_of_ble_eq_true rfl), (Nat.le_of_ble_eq_true rfl)⟩ (fun r_134 ut_135 H locs hw_136 hP hD hS => ?_)
  have hP : va_P D vwCl [(md, .inr (9, [.int th, .ref m_all, .ref m_deeds, .ref m_trial, .int dm, .ref m_hasImage, .ref m_tape, .ref m_key, .ref m_answered, .int 0, .int 0, .int 0, .ref m_goes, .int sw, .ref m_hotOnes, .ref m_indexed, .ref m_isChanged, .int 0, .ref m_valueNow, .int 0, .int (-1), .int 0, .ref m_didSome, .ref m_sizes, .ref m_ends])), (m_all, aI cs 51207 f_m_all)] H := hP
  have hD : va_D A [(md, .inr (9, [.int th, .ref m_all, .ref m_deeds, .ref m_trial, .int dm, .ref m_hasImage, .ref m_tape, .ref m_key, .ref m_answered, .int 0, .int 0, .int 0, .ref m_goes, .int sw, .ref m_hotOnes, .ref m_indexed, .ref m_isChanged, .int 0, .ref m_valueNow, .int 0, .int (-1), .int 0, .ref m_didSome, .ref m_sizes, .ref m_ends])), (m_all, aI cs 51207 f_m_all)] := hD
  have er_137 := hw_136
  subst er_137
  refine lv_if_eq (tgt := 23) hx hb dX9_freeMany_16 (by decide) (fun c_138 => absurd c_138 (by decide)) (fun c_138 => ?_)
  refine lv_iconst (v := 1) hx hb dX9_freeMany_19 (by decide) ?_
  refine lv_goto (tgt := 24) hx hb dX9_freeMany_20 (by decide) ?_
  refine lv_iadd hx hb dX9_freeMany_24 ?_
  refine tpi (y := 23) (by decide) ?_
  refine lv_istore_n (lv' := [(1, .int 23), (2, .int 22), (0, .ref md)]) hx hb dX9_freeMany_25 rfl hl (by decide) rfl (fun ls hl => ?_)
  refine lv_iinc (v := 23) (lv' := [(2, .int 23), (1, .int 23), (0, .ref md)]) hx hb dX9_freeMany_26 hl (k := 1) rfl (by decide) (by decide) rfl (fun ls hl => ?_)
  refine lv_goto (tgt := 4) hx hb dX9_freeMany_29 (by decide) ?_
  refine lv_iload_n hx hb dX9_freeMany_4 rfl (lv_at hl 0 rfl) ?_
  refine lv_bipush (v := 24) hx hb dX9_freeMany_5 (by decide) ?_
  refine lv_icmp_ge (tgt := 32) hx hb dX9_freeMany_7 (by decide) (fun c_139 => absurd c_139 (by decide)) (fun c_139 => ?_)
  refine lv_iload_n hx hb dX9_freeMany_10 rfl (lv_at hl 1 rfl) ?_
  refine lv_aload_n hx hb dX9_freeMany_11 rfl (lv_at hl 2 rfl) ?_
  refine lv_iload_n hx hb dX9_freeMany_12 rfl (lv_at hl 0 rfl) ?_
  refine kV_i (ci := 9) (As := [.int 23]) (rest := [.int 23]) (wc := [(md, .inr (9, [.int th, .ref m_all, .ref m_deeds, .ref m_trial, .int dm, .ref m_hasImage, .ref m_tape, .ref m_key, .ref m_answered, .int 0, .int 0, .int 0, .ref m_goes, .int sw, .ref m_hotOnes, .ref m_indexed, .ref m_isChanged, .int 0, .ref m_valueNow, .int 0, .int (-1), .int 0, .ref m_didSome, .ref m_sizes, .ref m_ends])), (m_all, aI cs 51207 f_m_all)]) (wr := []) hx hb hml hown hu hK hP hD hS hA hl.1 (c_X9_isFree l D cs H.size 23 md m_all f_m_all m_deeds m_trial m_hasImage m_tape m_key m_answered m_goes m_hotOnes m_indexed m_isChanged m_valueNow m_didSome m_sizes m_ends dm th sw z_all (by first | decide | grind)) (gV u_1188 u_1190 u_13 u_76 u_1191) hd_X9_isFree ⟨(Nat.le_of_ble_eq_true rfl), (Nat.le_of_ble_eq_true rfl)⟩ [0, 1] [] rfl rfl rfl rfl (by decide) rfl 0 rfl rfl rfl (Nat.le_of_ble_eq_true rfl) dX9_freeMany_13 ⟨(Nat.le_of_ble_eq_true rfl), (Nat.le_of_ble_eq_true rfl)⟩ (fun r_140 ut_141 H locs hw_142 hP hD hS => ?_)
  have hP : va_P D vwCl [(md, .inr (9, [.int th, .ref m_all, .ref m_deeds, .ref m_trial, .int dm, .ref m_hasImage, .ref m_tape, .ref m_key, .ref m_answered, .int 0, .int 0, .int 0, .ref m_goes, .int sw, .ref m_hotOnes, .ref m_indexed, .ref m_isChanged, .int 0, .ref m_valueNow, .int 0, .int (-1), .int 0, .ref m_didSome, .ref m_sizes, .ref m_ends])), (m_all, aI cs 51207 f_m_all)] H := hP
  have hD : va_D A [(md, .inr (9, [.int th, .ref m_all, .ref m_deeds, .ref m_trial, .int dm, .ref m_hasImage, .ref m_tape, .ref m_key, .ref m_answered, .int 0, .int 0, .int 0, .ref m_goes, .int sw, .ref m_hotOnes, .ref m_indexed, .ref m_isChanged, .int 0, .ref m_valueNow, .int 0, .int (-1), .int 0, .ref m_didSome, .ref m_sizes, .ref m_ends])), (m_all, aI cs 51207 f_m_all)] := hD
  have er_143 := hw_142
  subst er_143
  refine lv_if_eq (tgt := 23) hx hb dX9_freeMany_16 (by decide) (fun c_144 => absurd c_144 (by decide)) (fun c_144 => ?_)
  refine lv_iconst (v := 1) hx hb dX9_freeMany_19 (by decide) ?_
  refine lv_goto (tgt := 24) hx hb dX9_freeMany_20 (by decide) ?_
  refine lv_iadd hx hb dX9_freeMany_24 ?_
  refine tpi (y := 24) (by decide) ?_
  refine lv_istore_n (lv' := [(1, .int 24), (2, .int 23), (0, .ref md)]) hx hb dX9_freeMany_25 rfl hl (by decide) rfl (fun ls hl => ?_)
  refine lv_iinc (v := 24) (lv' := [(2, .int 24), (1, .int 24), (0, .ref md)]) hx hb dX9_freeMany_26 hl (k := 1) rfl (by decide) (by decide) rfl (fun ls hl => ?_)
  refine lv_goto (tgt := 4) hx hb dX9_freeMany_29 (by decide) ?_
  refine lv_iload_n hx hb dX9_freeMany_4 rfl (lv_at hl 0 rfl) ?_
  refine lv_bipush (v := 24) hx hb dX9_freeMany_5 (by decide) ?_
  refine lv_icmp_ge (tgt := 32) hx hb dX9_freeMany_7 (by decide) (fun c_145 => ?_) (fun c_145 => absurd (by decide) c_145)
  refine lv_iload_n hx hb dX9_freeMany_32 rfl (lv_at hl 1 rfl) ?_
  exact hz () hP hD hS rfl [0, 1] rfl rfl (Nat.le_of_ble_eq_true rfl) (Nat.le_of_ble_eq_true rfl) .int rfl rfl dX9_freeMany_33
abbrev rm_c_X9_stayingOn : Room := { frames := 0, cells := 0, slots := 0, locals := 0 }
set_option maxHeartbeats 4000000 in
set_option maxRecDepth 100000 in
theorem c_X9_stayingOn (l : Launch) (D : va_G) (cs : Nat → ClassId) (sz : Nat) (x : Int32) (md : Nat) (m_all : Nat) (f_m_all : Nat → Int32) (m_deeds : Nat) (m_trial : Nat) (m_hasImage : Nat) (m_tape : Nat) (m_key : Nat) (m_answered : Nat) (m_goes : Nat) (m_hotOnes : Nat) (m_indexed : Nat) (m_isChanged : Nat) (m_valueNow : Nat) (m_didSome : Nat) (m_sizes : Nat) (m_ends : Nat) (dm : Int32) (th : Int32) (sw : Int32) (z_all : ∀ j, j < 51207 → f_m_all j = AL j) : cMi l yX9_stayingOn (Cond.code yX9_stayingOn cX9_stayingOn 4 (some .int)) (rm_c_X9_stayingOn) D cs [.ref md, .int x] sz [(md, .inr (9, [.int th, .ref m_all, .ref m_deeds, .ref m_trial, .int dm, .ref m_hasImage, .ref m_tape, .ref m_key, .ref m_answered, .int 0, .int 0, .int 0, .ref m_goes, .int sw, .ref m_hotOnes, .ref m_indexed, .ref m_isChanged, .int 0, .ref m_valueNow, .int 0, .int (-1), .int 0, .ref m_didSome, .ref m_sizes, .ref m_ends])), (m_all, aI cs 51207 f_m_all)] (fun (r : Int32) (u : Unit) => (r = 0)) (fun (u : Unit) => [(md, .inr (9, [.int th, .ref m_all, .ref m_deeds, .ref m_trial, .int dm, .ref m_hasImage, .ref m_tape, .ref m_key, .ref m_answered, .int 0, .int 0, .int 0, .ref m_goes, .int sw, .ref m_hotOnes, .ref m_indexed, .ref m_isChanged, .int 0, .ref m_valueNow, .int 0, .int (-1), .int 0, .ref m_didSome, .ref m_sizes, .ref m_ends])), (m_all, aI cs 51207 f_m_all)]) := by
  refine kMet_i RX9 (by decide) rfl (Nat.le_of_ble_eq_true rfl) ?_
  intro p e s m below meth c ls A Qz H locs hx hb hml hown hin hu hK hsz hA hP hD hS hl hz
  subst hsz
  have hl : lv_has ls 4 [(0, .ref md), (1, .int x)] := hl
  refine lv_iconst (v := 0) hx hb dX9_stayingOn_0 (by decide) ?_
  refine lv_istore_n (lv' := [(2, .int 0), (0, .ref md), (1, .int x)]) hx hb dX9_stayingOn_1 rfl hl (by decide) rfl (fun ls hl => ?_)
  refine lv_iconst (v := 0) hx hb dX9_stayingOn_2 (by decide) ?_
  refine lv_istore_n (lv' := [(3, .int 0), (2, .int 0), (0, .ref md), (1, .int x)]) hx hb dX9_stayingOn_3 rfl hl (by decide) rfl (fun ls hl => ?_)
  refine lv_iload_n hx hb dX9_stayingOn_4 rfl (lv_at hl 0 rfl) ?_
  refine lv_aload_n hx hb dX9_stayingOn_5 rfl (lv_at hl 2 rfl) ?_
  refine va_get (D := D) (ci := 9) (v := .ref m_all) (C := RX9) (T := TX9) (N := 25) hx hb hu in_X9 hown hK.1 hP 0 rfl rfl 1 (by decide) (hu _ u_1081) (fun _ h9 => h9) rfl dX9_stayingOn_6 ?_
  refine lv_sipush (v := 1628) hx hb dX9_stayingOn_9 (by decide) ?_
  refine va_iald hx hb hK.1 hP 1 0 rfl rfl (vin_c _ _ rfl) dX9_stayingOn_12 ?_
  refine tpi (y := 0) ((z_all _ (cl_lt (vin_c _ _ rfl))).trans (by decide +kernel)) ?_
  refine lv_icmp_ge (tgt := 46) hx hb dX9_stayingOn_13 (by decide) (fun c_1 => ?_) (fun c_1 => absurd (by decide) c_1)
  refine lv_iload_n hx hb dX9_stayingOn_46 rfl (lv_at hl 1 rfl) ?_
  exact hz () hP hD hS rfl [0, 1] rfl rfl (Nat.le_of_ble_eq_true rfl) (Nat.le_of_ble_eq_true rfl) .int rfl rfl dX9_stayingOn_47
abbrev rm_c_X9_liveOn : Room := { frames := 0, cells := 0, slots := 0, locals := 0 }
set_option maxHeartbeats 4000000 in
set_option maxRecDepth 100000 in
theorem c_X9_liveOn (l : Launch) (D : va_G) (cs : Nat → ClassId) (sz : Nat) (x : Int32) (md : Nat) (m_all : Nat) (f_m_all : Nat → Int32) (m_deeds : Nat) (m_trial : Nat) (m_hasImage : Nat) (m_tape : Nat) (m_key : Nat) (m_answered : Nat) (m_goes : Nat) (m_hotOnes : Nat) (m_indexed : Nat) (m_isChanged : Nat) (m_valueNow : Nat) (m_didSome : Nat) (m_sizes : Nat) (m_ends : Nat) (dm : Int32) (th : Int32) (sw : Int32) (z_all : ∀ j, j < 51207 → f_m_all j = AL j) : cMi l yX9_liveOn (Cond.code yX9_liveOn cX9_liveOn 4 (some .int)) (rm_c_X9_liveOn) D cs [.ref md, .int x] sz [(md, .inr (9, [.int th, .ref m_all, .ref m_deeds, .ref m_trial, .int dm, .ref m_hasImage, .ref m_tape, .ref m_key, .ref m_answered, .int 0, .int 0, .int 0, .ref m_goes, .int sw, .ref m_hotOnes, .ref m_indexed, .ref m_isChanged, .int 0, .ref m_valueNow, .int 0, .int (-1), .int 0, .ref m_didSome, .ref m_sizes, .ref m_ends])), (m_all, aI cs 51207 f_m_all)] (fun (r : Int32) (u : Unit) => (r = 0)) (fun (u : Unit) => [(md, .inr (9, [.int th, .ref m_all, .ref m_deeds, .ref m_trial, .int dm, .ref m_hasImage, .ref m_tape, .ref m_key, .ref m_answered, .int 0, .int 0, .int 0, .ref m_goes, .int sw, .ref m_hotOnes, .ref m_indexed, .ref m_isChanged, .int 0, .ref m_valueNow, .int 0, .int (-1), .int 0, .ref m_didSome, .ref m_sizes, .ref m_ends])), (m_all, aI cs 51207 f_m_all)]) := by
  refine kMet_i RX9 (by decide) rfl (Nat.le_of_ble_eq_true rfl) ?_
  intro p e s m below meth c ls A Qz H locs hx hb hml hown hin hu hK hsz hA hP hD hS hl hz
  subst hsz
  have hl : lv_has ls 4 [(0, .ref md), (1, .int x)] := hl
  refine lv_iconst (v := 0) hx hb dX9_liveOn_0 (by decide) ?_
  refine lv_istore_n (lv' := [(2, .int 0), (0, .ref md), (1, .int x)]) hx hb dX9_liveOn_1 rfl hl (by decide) rfl (fun ls hl => ?_)
  refine lv_iconst (v := 0) hx hb dX9_liveOn_2 (by decide) ?_
  refine lv_istore_n (lv' := [(3, .int 0), (2, .int 0), (0, .ref md), (1, .int x)]) hx hb dX9_liveOn_3 rfl hl (by decide) rfl (fun ls hl => ?_)
  refine lv_iload_n hx hb dX9_liveOn_4 rfl (lv_at hl 0 rfl) ?_
  refine lv_aload_n hx hb dX9_liveOn_5 rfl (lv_at hl 2 rfl) ?_
  refine va_get (D := D) (ci := 9) (v := .ref m_all) (C := RX9) (T := TX9) (N := 25) hx hb hu in_X9 hown hK.1 hP 0 rfl rfl 1 (by decide) (hu _ u_1081) (fun _ h9 => h9) rfl dX9_liveOn_6 ?_
  refine lv_sipush (v := 1628) hx hb dX9_liveOn_9 (by decide) ?_
  refine va_iald hx hb hK.1 hP 1 0 rfl rfl (vin_c _ _ rfl) dX9_liveOn_12 ?_
  refine tpi (y := 0) ((z_all _ (cl_lt (vin_c _ _ rfl))).trans (by decide +kernel)) ?_
  refine lv_icmp_ge (tgt := 54) hx hb dX9_liveOn_13 (by decide) (fun c_1 => ?_) (fun c_1 => absurd (by decide) c_1)
  refine lv_iload_n hx hb dX9_liveOn_54 rfl (lv_at hl 1 rfl) ?_
  exact hz () hP hD hS rfl [0, 1] rfl rfl (Nat.le_of_ble_eq_true rfl) (Nat.le_of_ble_eq_true rfl) .int rfl rfl dX9_liveOn_55
abbrev rm_c_X9_deadOn : Room := { frames := 1, cells := 0, slots := 0, locals := 23 }
set_option maxHeartbeats 4000000 in
set_option maxRecDepth 100000 in
theorem c_X9_deadOn (l : Launch) (D : va_G) (cs : Nat → ClassId) (sz : Nat) (x : Int32) (md : Nat) (m_all : Nat) (f_m_all : Nat → Int32) (m_deeds : Nat) (m_trial : Nat) (m_hasImage : Nat) (m_tape : Nat) (m_key : Nat) (m_answered : Nat) (m_goes : Nat) (m_hotOnes : Nat) (m_indexed : Nat) (m_isChanged : Nat) (m_valueNow : Nat) (m_didSome : Nat) (m_sizes : Nat) (m_ends : Nat) (dm : Int32) (th : Int32) (sw : Int32) (z_all : ∀ j, j < 51207 → f_m_all j = AL j) (hr : ¬ x < 0 ∧ x < 24) : cMi l yX9_deadOn (Cond.code yX9_deadOn cX9_deadOn 2 (some .int)) (rm_c_X9_deadOn) D cs [.ref md, .int x] sz [(md, .inr (9, [.int th, .ref m_all, .ref m_deeds, .ref m_trial, .int dm, .ref m_hasImage, .ref m_tape, .ref m_key, .ref m_answered, .int 0, .int 0, .int 0, .ref m_goes, .int sw, .ref m_hotOnes, .ref m_indexed, .ref m_isChanged, .int 0, .ref m_valueNow, .int 0, .int (-1), .int 0, .ref m_didSome, .ref m_sizes, .ref m_ends])), (m_all, aI cs 51207 f_m_all)] (fun (r : Int32) (u : Unit) => (r = 0)) (fun (u : Unit) => [(md, .inr (9, [.int th, .ref m_all, .ref m_deeds, .ref m_trial, .int dm, .ref m_hasImage, .ref m_tape, .ref m_key, .ref m_answered, .int 0, .int 0, .int 0, .ref m_goes, .int sw, .ref m_hotOnes, .ref m_indexed, .ref m_isChanged, .int 0, .ref m_valueNow, .int 0, .int (-1), .int 0, .ref m_didSome, .ref m_sizes, .ref m_ends])), (m_all, aI cs 51207 f_m_all)]) := by
  refine kMet_i RX9 (by decide) rfl (Nat.le_of_ble_eq_true rfl) ?_
  intro p e s m below meth c ls A Qz H locs hx hb hml hown hin hu hK hsz hA hP hD hS hl hz
  subst hsz
  have hl : lv_has ls 2 [(0, .ref md), (1, .int x)] := hl
  refine lv_aload_n hx hb dX9_deadOn_0 rfl (lv_at hl 0 rfl) ?_
  refine va_get (D := D) (ci := 9) (v := .ref m_all) (C := RX9) (T := TX9) (N := 25) hx hb hu in_X9 hown hK.1 hP 0 rfl rfl 1 (by decide) (hu _ u_1081) (fun _ h9 => h9) rfl dX9_deadOn_1 ?_
  refine lv_bipush (v := 7) hx hb dX9_deadOn_4 (by decide) ?_
  refine lv_iload_n hx hb dX9_deadOn_6 rfl (lv_at hl 1 rfl) ?_
  refine lv_iadd hx hb dX9_deadOn_7 ?_
  refine va_iald hx hb hK.1 hP 1 0 rfl rfl (vin_of (N := 51207) (by grind) (by grind) rfl) dX9_deadOn_8 ?_
  refine tpi (y := 0) ((z_all _ (cl_lt (vin_of (N := 51207) (by grind) (by grind) rfl))).trans (AL_z _ (by grind) (by grind))) ?_
  refine lv_aload_n hx hb dX9_deadOn_9 rfl (lv_at hl 0 rfl) ?_
  refine lv_iload_n hx hb dX9_deadOn_10 rfl (lv_at hl 1 rfl) ?_
  refine kV_i (ci := 9) (As := [.int x]) (rest := [.int 0]) (wc := [(md, .inr (9, [.int th, .ref m_all, .ref m_deeds, .ref m_trial, .int dm, .ref m_hasImage, .ref m_tape, .ref m_key, .ref m_answered, .int 0, .int 0, .int 0, .ref m_goes, .int sw, .ref m_hotOnes, .ref m_indexed, .ref m_isChanged, .int 0, .ref m_valueNow, .int 0, .int (-1), .int 0, .ref m_didSome, .ref m_sizes, .ref m_ends])), (m_all, aI cs 51207 f_m_all)]) (wr := []) hx hb hml hown hu hK hP hD hS hA hl.1 (c_X9_stayingOn l D cs H.size x md m_all f_m_all m_deeds m_trial m_hasImage m_tape m_key m_answered m_goes m_hotOnes m_indexed m_isChanged m_valueNow m_didSome m_sizes m_ends dm th sw z_all) (gV u_1204 u_1206 u_17 u_76 u_1207) hd_X9_stayingOn ⟨(Nat.le_of_ble_eq_true rfl), (Nat.le_of_ble_eq_true rfl)⟩ [0, 1] [] rfl rfl rfl rfl (by decide) rfl 0 rfl rfl rfl (Nat.le_of_ble_eq_true rfl) dX9_deadOn_11 ⟨(Nat.le_of_ble_eq_true rfl), (Nat.le_of_ble_eq_true rfl)⟩ (fun r_1 ut_2 H locs hw_3 hP hD hS => ?_)
  have hP : va_P D vwCl [(md, .inr (9, [.int th, .ref m_all, .ref m_deeds, .ref m_trial, .int dm, .ref m_hasImage, .ref m_tape, .ref m_key, .ref m_answered, .int 0, .int 0, .int 0, .ref m_goes, .int sw, .ref m_hotOnes, .ref m_indexed, .ref m_isChanged, .int 0, .ref m_valueNow, .int 0, .int (-1), .int 0, .ref m_didSome, .ref m_sizes, .ref m_ends])), (m_all, aI cs 51207 f_m_all)] H := hP
  have hD : va_D A [(md, .inr (9, [.int th, .ref m_all, .ref m_deeds, .ref m_trial, .int dm, .ref m_hasImage, .ref m_tape, .ref m_key, .ref m_answered, .int 0, .int 0, .int 0, .ref m_goes, .int sw, .ref m_hotOnes, .ref m_indexed, .ref m_isChanged, .int 0, .ref m_valueNow, .int 0, .int (-1), .int 0, .ref m_didSome, .ref m_sizes, .ref m_ends])), (m_all, aI cs 51207 f_m_all)] := hD
  have er_4 := hw_3
  subst er_4
  refine lv_isub hx hb dX9_deadOn_14 ?_
  refine tpi (y := 0) (by decide) ?_
  exact hz () hP hD hS rfl [0, 1] rfl rfl (Nat.le_of_ble_eq_true rfl) (Nat.le_of_ble_eq_true rfl) .int rfl rfl dX9_deadOn_15
abbrev rm_c_X9_victimBy : Room := { frames := 2, cells := 0, slots := 0, locals := 44 }
set_option maxHeartbeats 4000000 in
set_option maxRecDepth 100000 in
theorem c_X9_victimBy (l : Launch) (D : va_G) (cs : Nat → ClassId) (sz : Nat) (x : Int32) (md : Nat) (m_all : Nat) (f_m_all : Nat → Int32) (m_deeds : Nat) (m_trial : Nat) (m_hasImage : Nat) (m_tape : Nat) (m_key : Nat) (m_answered : Nat) (m_goes : Nat) (m_hotOnes : Nat) (m_indexed : Nat) (m_isChanged : Nat) (m_valueNow : Nat) (m_didSome : Nat) (m_sizes : Nat) (m_ends : Nat) (dm : Int32) (th : Int32) (sw : Int32) (z_all : ∀ j, j < 51207 → f_m_all j = AL j) : cMi l yX9_victimBy (Cond.code yX9_victimBy cX9_victimBy 7 (some .int)) (rm_c_X9_victimBy) D cs [.ref md, .int x] sz [(md, .inr (9, [.int th, .ref m_all, .ref m_deeds, .ref m_trial, .int dm, .ref m_hasImage, .ref m_tape, .ref m_key, .ref m_answered, .int 0, .int 0, .int 0, .ref m_goes, .int sw, .ref m_hotOnes, .ref m_indexed, .ref m_isChanged, .int 0, .ref m_valueNow, .int 0, .int (-1), .int 0, .ref m_didSome, .ref m_sizes, .ref m_ends])), (m_all, aI cs 51207 f_m_all)] (fun (r : Int32) (u : Unit) => (r = (-1))) (fun (u : Unit) => [(md, .inr (9, [.int th, .ref m_all, .ref m_deeds, .ref m_trial, .int dm, .ref m_hasImage, .ref m_tape, .ref m_key, .ref m_answered, .int 0, .int 0, .int 0, .ref m_goes, .int sw, .ref m_hotOnes, .ref m_indexed, .ref m_isChanged, .int 0, .ref m_valueNow, .int 0, .int (-1), .int 0, .ref m_didSome, .ref m_sizes, .ref m_ends])), (m_all, aI cs 51207 f_m_all)]) := by
  refine kMet_i RX9 (by decide) rfl (Nat.le_of_ble_eq_true rfl) ?_
  intro p e s m below meth c ls A Qz H locs hx hb hml hown hin hu hK hsz hA hP hD hS hl hz
  subst hsz
  have hl : lv_has ls 7 [(0, .ref md), (1, .int x)] := hl
  refine lv_iconst (v := (-1)) hx hb dX9_victimBy_0 (by decide) ?_
  refine lv_istore_n (lv' := [(2, .int (-1)), (0, .ref md), (1, .int x)]) hx hb dX9_victimBy_1 rfl hl (by decide) rfl (fun ls hl => ?_)
  refine lv_iconst (v := 0) hx hb dX9_victimBy_2 (by decide) ?_
  refine lv_istore_n (lv' := [(3, .int 0), (2, .int (-1)), (0, .ref md), (1, .int x)]) hx hb dX9_victimBy_3 rfl hl (by decide) rfl (fun ls hl => ?_)
  refine lv_iconst (v := 0) hx hb dX9_victimBy_4 (by decide) ?_
  refine lv_istore (lv' := [(4, .int 0), (3, .int 0), (2, .int (-1)), (0, .ref md), (1, .int x)]) hx hb dX9_victimBy_5 hl (by decide) rfl (fun ls hl => ?_)
  refine lv_iload hx hb dX9_victimBy_7 (lv_at hl 0 rfl) ?_
  refine lv_bipush (v := 24) hx hb dX9_victimBy_9 (by decide) ?_
  refine lv_icmp_ge (tgt := 93) hx hb dX9_victimBy_11 (by decide) (fun c_1 => absurd c_1 (by decide)) (fun c_1 => ?_)
  refine lv_aload_n hx hb dX9_victimBy_14 rfl (lv_at hl 3 rfl) ?_
  refine lv_iload hx hb dX9_victimBy_15 (lv_at hl 0 rfl) ?_
  refine kV_i (ci := 9) (As := [.int 0]) (rest := []) (wc := [(md, .inr (9, [.int th, .ref m_all, .ref m_deeds, .ref m_trial, .int dm, .ref m_hasImage, .ref m_tape, .ref m_key, .ref m_answered, .int 0, .int 0, .int 0, .ref m_goes, .int sw, .ref m_hotOnes, .ref m_indexed, .ref m_isChanged, .int 0, .ref m_valueNow, .int 0, .int (-1), .int 0, .ref m_didSome, .ref m_sizes, .ref m_ends])), (m_all, aI cs 51207 f_m_all)]) (wr := []) hx hb hml hown hu hK hP hD hS hA hl.1 (c_X9_deadOn l D cs H.size 0 md m_all f_m_all m_deeds m_trial m_hasImage m_tape m_key m_answered m_goes m_hotOnes m_indexed m_isChanged m_valueNow m_didSome m_sizes m_ends dm th sw z_all (by first | decide | grind)) (gV u_1200 u_1202 u_16 u_76 u_1203) hd_X9_deadOn ⟨(Nat.le_of_ble_eq_true rfl), (Nat.le_of_ble_eq_true rfl)⟩ [0, 1] [] rfl rfl rfl rfl (by decide) rfl 0 rfl rfl rfl (Nat.le_of_ble_eq_true rfl) dX9_victimBy_17 ⟨(Nat.le_of_ble_eq_true rfl), (Nat.le_of_ble_eq_true rfl)⟩ (fun r_2 ut_3 H locs hw_4 hP hD hS => ?_)
  have hP : va_P D vwCl [(md, .inr (9, [.int th, .ref m_all, .ref m_deeds, .ref m_trial, .int dm, .ref m_hasImage, .ref m_tape, .ref m_key, .ref m_answered, .int 0, .int 0, .int 0, .ref m_goes, .int sw, .ref m_hotOnes, .ref m_indexed, .ref m_isChanged, .int 0, .ref m_valueNow, .int 0, .int (-1), .int 0, .ref m_didSome, .ref m_sizes, .ref m_ends])), (m_all, aI cs 51207 f_m_all)] H := hP
  have hD : va_D A [(md, .inr (9, [.int th, .ref m_all, .ref m_deeds, .ref m_trial, .int dm, .ref m_hasImage, .ref m_tape, .ref m_key, .ref m_answered, .int 0, .int 0, .int 0, .ref m_goes, .int sw, .ref m_hotOnes, .ref m_indexed, .ref m_isChanged, .int 0, .ref m_valueNow, .int 0, .int (-1), .int 0, .ref m_didSome, .ref m_sizes, .ref m_ends])), (m_all, aI cs 51207 f_m_all)] := hD
  have er_5 := hw_4
  subst er_5
  refine lv_istore (lv' := [(5, .int 0), (4, .int 0), (3, .int 0), (2, .int (-1)), (0, .ref md), (1, .int x)]) hx hb dX9_victimBy_20 hl (by decide) rfl (fun ls hl => ?_)
  refine lv_iload hx hb dX9_victimBy_22 (lv_at hl 0 rfl) ?_
  refine lv_if_ne (tgt := 30) hx hb dX9_victimBy_24 (by decide) (fun c_6 => absurd (by decide) c_6) (fun c_6 => ?_)
  refine lv_goto (tgt := 87) hx hb dX9_victimBy_27 (by decide) ?_
  refine lv_iinc (v := 1) (lv' := [(4, .int 1), (5, .int 0), (3, .int 0), (2, .int (-1)), (0, .ref md), (1, .int x)]) hx hb dX9_victimBy_87 hl (k := 1) rfl (by decide) (by decide) rfl (fun ls hl => ?_)
  refine lv_goto (tgt := 7) hx hb dX9_victimBy_90 (by decide) ?_
  refine lv_iload hx hb dX9_victimBy_7 (lv_at hl 0 rfl) ?_
  refine lv_bipush (v := 24) hx hb dX9_victimBy_9 (by decide) ?_
  refine lv_icmp_ge (tgt := 93) hx hb dX9_victimBy_11 (by decide) (fun c_7 => absurd c_7 (by decide)) (fun c_7 => ?_)
  refine lv_aload_n hx hb dX9_victimBy_14 rfl (lv_at hl 4 rfl) ?_
  refine lv_iload hx hb dX9_victimBy_15 (lv_at hl 0 rfl) ?_
  refine kV_i (ci := 9) (As := [.int 1]) (rest := []) (wc := [(md, .inr (9, [.int th, .ref m_all, .ref m_deeds, .ref m_trial, .int dm, .ref m_hasImage, .ref m_tape, .ref m_key, .ref m_answered, .int 0, .int 0, .int 0, .ref m_goes, .int sw, .ref m_hotOnes, .ref m_indexed, .ref m_isChanged, .int 0, .ref m_valueNow, .int 0, .int (-1), .int 0, .ref m_didSome, .ref m_sizes, .ref m_ends])), (m_all, aI cs 51207 f_m_all)]) (wr := []) hx hb hml hown hu hK hP hD hS hA hl.1 (c_X9_deadOn l D cs H.size 1 md m_all f_m_all m_deeds m_trial m_hasImage m_tape m_key m_answered m_goes m_hotOnes m_indexed m_isChanged m_valueNow m_didSome m_sizes m_ends dm th sw z_all (by first | decide | grind)) (gV u_1200 u_1202 u_16 u_76 u_1203) hd_X9_deadOn ⟨(Nat.le_of_ble_eq_true rfl), (Nat.le_of_ble_eq_true rfl)⟩ [0, 1] [] rfl rfl rfl rfl (by decide) rfl 0 rfl rfl rfl (Nat.le_of_ble_eq_true rfl) dX9_victimBy_17 ⟨(Nat.le_of_ble_eq_true rfl), (Nat.le_of_ble_eq_true rfl)⟩ (fun r_8 ut_9 H locs hw_10 hP hD hS => ?_)
  have hP : va_P D vwCl [(md, .inr (9, [.int th, .ref m_all, .ref m_deeds, .ref m_trial, .int dm, .ref m_hasImage, .ref m_tape, .ref m_key, .ref m_answered, .int 0, .int 0, .int 0, .ref m_goes, .int sw, .ref m_hotOnes, .ref m_indexed, .ref m_isChanged, .int 0, .ref m_valueNow, .int 0, .int (-1), .int 0, .ref m_didSome, .ref m_sizes, .ref m_ends])), (m_all, aI cs 51207 f_m_all)] H := hP
  have hD : va_D A [(md, .inr (9, [.int th, .ref m_all, .ref m_deeds, .ref m_trial, .int dm, .ref m_hasImage, .ref m_tape, .ref m_key, .ref m_answered, .int 0, .int 0, .int 0, .ref m_goes, .int sw, .ref m_hotOnes, .ref m_indexed, .ref m_isChanged, .int 0, .ref m_valueNow, .int 0, .int (-1), .int 0, .ref m_didSome, .ref m_sizes, .ref m_ends])), (m_all, aI cs 51207 f_m_all)] := hD
  have er_11 := hw_10
  subst er_11
  refine lv_istore (lv' := [(5, .int 0), (4, .int 1), (3, .int 0), (2, .int (-1)), (0, .ref md), (1, .int x)]) hx hb dX9_victimBy_20 hl (by decide) rfl (fun ls hl => ?_)
  refine lv_iload hx hb dX9_victimBy_22 (lv_at hl 0 rfl) ?_
  refine lv_if_ne (tgt := 30) hx hb dX9_victimBy_24 (by decide) (fun c_12 => absurd (by decide) c_12) (fun c_12 => ?_)
  refine lv_goto (tgt := 87) hx hb dX9_victimBy_27 (by decide) ?_
  refine lv_iinc (v := 2) (lv' := [(4, .int 2), (5, .int 0), (3, .int 0), (2, .int (-1)), (0, .ref md), (1, .int x)]) hx hb dX9_victimBy_87 hl (k := 1) rfl (by decide) (by decide) rfl (fun ls hl => ?_)
  refine lv_goto (tgt := 7) hx hb dX9_victimBy_90 (by decide) ?_
  refine lv_iload hx hb dX9_victimBy_7 (lv_at hl 0 rfl) ?_
  refine lv_bipush (v := 24) hx hb dX9_victimBy_9 (by decide) ?_
  refine lv_icmp_ge (tgt := 93) hx hb dX9_victimBy_11 (by decide) (fun c_13 => absurd c_13 (by decide)) (fun c_13 => ?_)
  refine lv_aload_n hx hb dX9_victimBy_14 rfl (lv_at hl 4 rfl) ?_
  refine lv_iload hx hb dX9_victimBy_15 (lv_at hl 0 rfl) ?_
  refine kV_i (ci := 9) (As := [.int 2]) (rest := []) (wc := [(md, .inr (9, [.int th, .ref m_all, .ref m_deeds, .ref m_trial, .int dm, .ref m_hasImage, .ref m_tape, .ref m_key, .ref m_answered, .int 0, .int 0, .int 0, .ref m_goes, .int sw, .ref m_hotOnes, .ref m_indexed, .ref m_isChanged, .int 0, .ref m_valueNow, .int 0, .int (-1), .int 0, .ref m_didSome, .ref m_sizes, .ref m_ends])), (m_all, aI cs 51207 f_m_all)]) (wr := []) hx hb hml hown hu hK hP hD hS hA hl.1 (c_X9_deadOn l D cs H.size 2 md m_all f_m_all m_deeds m_trial m_hasImage m_tape m_key m_answered m_goes m_hotOnes m_indexed m_isChanged m_valueNow m_didSome m_sizes m_ends dm th sw z_all (by first | decide | grind)) (gV u_1200 u_1202 u_16 u_76 u_1203) hd_X9_deadOn ⟨(Nat.le_of_ble_eq_true rfl), (Nat.le_of_ble_eq_true rfl)⟩ [0, 1] [] rfl rfl rfl rfl (by decide) rfl 0 rfl rfl rfl (Nat.le_of_ble_eq_true rfl) dX9_victimBy_17 ⟨(Nat.le_of_ble_eq_true rfl), (Nat.le_of_ble_eq_true rfl)⟩ (fun r_14 ut_15 H locs hw_16 hP hD hS => ?_)
  have hP : va_P D vwCl [(md, .inr (9, [.int th, .ref m_all, .ref m_deeds, .ref m_trial, .int dm, .ref m_hasImage, .ref m_tape, .ref m_key, .ref m_answered, .int 0, .int 0, .int 0, .ref m_goes, .int sw, .ref m_hotOnes, .ref m_indexed, .ref m_isChanged, .int 0, .ref m_valueNow, .int 0, .int (-1), .int 0, .ref m_didSome, .ref m_sizes, .ref m_ends])), (m_all, aI cs 51207 f_m_all)] H := hP
  have hD : va_D A [(md, .inr (9, [.int th, .ref m_all, .ref m_deeds, .ref m_trial, .int dm, .ref m_hasImage, .ref m_tape, .ref m_key, .ref m_answered, .int 0, .int 0, .int 0, .ref m_goes, .int sw, .ref m_hotOnes, .ref m_indexed, .ref m_isChanged, .int 0, .ref m_valueNow, .int 0, .int (-1), .int 0, .ref m_didSome, .ref m_sizes, .ref m_ends])), (m_all, aI cs 51207 f_m_all)] := hD
  have er_17 := hw_16
  subst er_17
  refine lv_istore (lv' := [(5, .int 0), (4, .int 2), (3, .int 0), (2, .int (-1)), (0, .ref md), (1, .int x)]) hx hb dX9_victimBy_20 hl (by decide) rfl (fun ls hl => ?_)
  refine lv_iload hx hb dX9_victimBy_22 (lv_at hl 0 rfl) ?_
  refine lv_if_ne (tgt := 30) hx hb dX9_victimBy_24 (by decide) (fun c_18 => absurd (by decide) c_18) (fun c_18 => ?_)
  refine lv_goto (tgt := 87) hx hb dX9_victimBy_27 (by decide) ?_
  refine lv_iinc (v := 3) (lv' := [(4, .int 3), (5, .int 0), (3, .int 0), (2, .int (-1)), (0, .ref md), (1, .int x)]) hx hb dX9_victimBy_87 hl (k := 1) rfl (by decide) (by decide) rfl (fun ls hl => ?_)
  refine lv_goto (tgt := 7) hx hb dX9_victimBy_90 (by decide) ?_
  refine lv_iload hx hb dX9_victimBy_7 (lv_at hl 0 rfl) ?_
  refine lv_bipush (v := 24) hx hb dX9_victimBy_9 (by decide) ?_
  refine lv_icmp_ge (tgt := 93) hx hb dX9_victimBy_11 (by decide) (fun c_19 => absurd c_19 (by decide)) (fun c_19 => ?_)
  refine lv_aload_n hx hb dX9_victimBy_14 rfl (lv_at hl 4 rfl) ?_
  refine lv_iload hx hb dX9_victimBy_15 (lv_at hl 0 rfl) ?_
  refine kV_i (ci := 9) (As := [.int 3]) (rest := []) (wc := [(md, .inr (9, [.int th, .ref m_all, .ref m_deeds, .ref m_trial, .int dm, .ref m_hasImage, .ref m_tape, .ref m_key, .ref m_answered, .int 0, .int 0, .int 0, .ref m_goes, .int sw, .ref m_hotOnes, .ref m_indexed, .ref m_isChanged, .int 0, .ref m_valueNow, .int 0, .int (-1), .int 0, .ref m_didSome, .ref m_sizes, .ref m_ends])), (m_all, aI cs 51207 f_m_all)]) (wr := []) hx hb hml hown hu hK hP hD hS hA hl.1 (c_X9_deadOn l D cs H.size 3 md m_all f_m_all m_deeds m_trial m_hasImage m_tape m_key m_answered m_goes m_hotOnes m_indexed m_isChanged m_valueNow m_didSome m_sizes m_ends dm th sw z_all (by first | decide | grind)) (gV u_1200 u_1202 u_16 u_76 u_1203) hd_X9_deadOn ⟨(Nat.le_of_ble_eq_true rfl), (Nat.le_of_ble_eq_true rfl)⟩ [0, 1] [] rfl rfl rfl rfl (by decide) rfl 0 rfl rfl rfl (Nat.le_of_ble_eq_true rfl) dX9_victimBy_17 ⟨(Nat.le_of_ble_eq_true rfl), (Nat.le_of_ble_eq_true rfl)⟩ (fun r_20 ut_21 H locs hw_22 hP hD hS => ?_)
  have hP : va_P D vwCl [(md, .inr (9, [.int th, .ref m_all, .ref m_deeds, .ref m_trial, .int dm, .ref m_hasImage, .ref m_tape, .ref m_key, .ref m_answered, .int 0, .int 0, .int 0, .ref m_goes, .int sw, .ref m_hotOnes, .ref m_indexed, .ref m_isChanged, .int 0, .ref m_valueNow, .int 0, .int (-1), .int 0, .ref m_didSome, .ref m_sizes, .ref m_ends])), (m_all, aI cs 51207 f_m_all)] H := hP
  have hD : va_D A [(md, .inr (9, [.int th, .ref m_all, .ref m_deeds, .ref m_trial, .int dm, .ref m_hasImage, .ref m_tape, .ref m_key, .ref m_answered, .int 0, .int 0, .int 0, .ref m_goes, .int sw, .ref m_hotOnes, .ref m_indexed, .ref m_isChanged, .int 0, .ref m_valueNow, .int 0, .int (-1), .int 0, .ref m_didSome, .ref m_sizes, .ref m_ends])), (m_all, aI cs 51207 f_m_all)] := hD
  have er_23 := hw_22
  subst er_23
  refine lv_istore (lv' := [(5, .int 0), (4, .int 3), (3, .int 0), (2, .int (-1)), (0, .ref md), (1, .int x)]) hx hb dX9_victimBy_20 hl (by decide) rfl (fun ls hl => ?_)
  refine lv_iload hx hb dX9_victimBy_22 (lv_at hl 0 rfl) ?_
  refine lv_if_ne (tgt := 30) hx hb dX9_victimBy_24 (by decide) (fun c_24 => absurd (by decide) c_24) (fun c_24 => ?_)
  refine lv_goto (tgt := 87) hx hb dX9_victimBy_27 (by decide) ?_
  refine lv_iinc (v := 4) (lv' := [(4, .int 4), (5, .int 0), (3, .int 0), (2, .int (-1)), (0, .ref md), (1, .int x)]) hx hb dX9_victimBy_87 hl (k := 1) rfl (by decide) (by decide) rfl (fun ls hl => ?_)
  refine lv_goto (tgt := 7) hx hb dX9_victimBy_90 (by decide) ?_
  refine lv_iload hx hb dX9_victimBy_7 (lv_at hl 0 rfl) ?_
  refine lv_bipush (v := 24) hx hb dX9_victimBy_9 (by decide) ?_
  refine lv_icmp_ge (tgt := 93) hx hb dX9_victimBy_11 (by decide) (fun c_25 => absurd c_25 (by decide)) (fun c_25 => ?_)
  refine lv_aload_n hx hb dX9_victimBy_14 rfl (lv_at hl 4 rfl) ?_
  refine lv_iload hx hb dX9_victimBy_15 (lv_at hl 0 rfl) ?_
  refine kV_i (ci := 9) (As := [.int 4]) (rest := []) (wc := [(md, .inr (9, [.int th, .ref m_all, .ref m_deeds, .ref m_trial, .int dm, .ref m_hasImage, .ref m_tape, .ref m_key, .ref m_answered, .int 0, .int 0, .int 0, .ref m_goes, .int sw, .ref m_hotOnes, .ref m_indexed, .ref m_isChanged, .int 0, .ref m_valueNow, .int 0, .int (-1), .int 0, .ref m_didSome, .ref m_sizes, .ref m_ends])), (m_all, aI cs 51207 f_m_all)]) (wr := []) hx hb hml hown hu hK hP hD hS hA hl.1 (c_X9_deadOn l D cs H.size 4 md m_all f_m_all m_deeds m_trial m_hasImage m_tape m_key m_answered m_goes m_hotOnes m_indexed m_isChanged m_valueNow m_didSome m_sizes m_ends dm th sw z_all (by first | decide | grind)) (gV u_1200 u_1202 u_16 u_76 u_1203) hd_X9_deadOn ⟨(Nat.le_of_ble_eq_true rfl), (Nat.le_of_ble_eq_true rfl)⟩ [0, 1] [] rfl rfl rfl rfl (by decide) rfl 0 rfl rfl rfl (Nat.le_of_ble_eq_true rfl) dX9_victimBy_17 ⟨(Nat.le_of_ble_eq_true rfl), (Nat.le_of_ble_eq_true rfl)⟩ (fun r_26 ut_27 H locs hw_28 hP hD hS => ?_)
  have hP : va_P D vwCl [(md, .inr (9, [.int th, .ref m_all, .ref m_deeds, .ref m_trial, .int dm, .ref m_hasImage, .ref m_tape, .ref m_key, .ref m_answered, .int 0, .int 0, .int 0, .ref m_goes, .int sw, .ref m_hotOnes, .ref m_indexed, .ref m_isChanged, .int 0, .ref m_valueNow, .int 0, .int (-1), .int 0, .ref m_didSome, .ref m_sizes, .ref m_ends])), (m_all, aI cs 51207 f_m_all)] H := hP
  have hD : va_D A [(md, .inr (9, [.int th, .ref m_all, .ref m_deeds, .ref m_trial, .int dm, .ref m_hasImage, .ref m_tape, .ref m_key, .ref m_answered, .int 0, .int 0, .int 0, .ref m_goes, .int sw, .ref m_hotOnes, .ref m_indexed, .ref m_isChanged, .int 0, .ref m_valueNow, .int 0, .int (-1), .int 0, .ref m_didSome, .ref m_sizes, .ref m_ends])), (m_all, aI cs 51207 f_m_all)] := hD
  have er_29 := hw_28
  subst er_29
  refine lv_istore (lv' := [(5, .int 0), (4, .int 4), (3, .int 0), (2, .int (-1)), (0, .ref md), (1, .int x)]) hx hb dX9_victimBy_20 hl (by decide) rfl (fun ls hl => ?_)
  refine lv_iload hx hb dX9_victimBy_22 (lv_at hl 0 rfl) ?_
  refine lv_if_ne (tgt := 30) hx hb dX9_victimBy_24 (by decide) (fun c_30 => absurd (by decide) c_30) (fun c_30 => ?_)
  refine lv_goto (tgt := 87) hx hb dX9_victimBy_27 (by decide) ?_
  refine lv_iinc (v := 5) (lv' := [(4, .int 5), (5, .int 0), (3, .int 0), (2, .int (-1)), (0, .ref md), (1, .int x)]) hx hb dX9_victimBy_87 hl (k := 1) rfl (by decide) (by decide) rfl (fun ls hl => ?_)
  refine lv_goto (tgt := 7) hx hb dX9_victimBy_90 (by decide) ?_
  refine lv_iload hx hb dX9_victimBy_7 (lv_at hl 0 rfl) ?_
  refine lv_bipush (v := 24) hx hb dX9_victimBy_9 (by decide) ?_
  refine lv_icmp_ge (tgt := 93) hx hb dX9_victimBy_11 (by decide) (fun c_31 => absurd c_31 (by decide)) (fun c_31 => ?_)
  refine lv_aload_n hx hb dX9_victimBy_14 rfl (lv_at hl 4 rfl) ?_
  refine lv_iload hx hb dX9_victimBy_15 (lv_at hl 0 rfl) ?_
  refine kV_i (ci := 9) (As := [.int 5]) (rest := []) (wc := [(md, .inr (9, [.int th, .ref m_all, .ref m_deeds, .ref m_trial, .int dm, .ref m_hasImage, .ref m_tape, .ref m_key, .ref m_answered, .int 0, .int 0, .int 0, .ref m_goes, .int sw, .ref m_hotOnes, .ref m_indexed, .ref m_isChanged, .int 0, .ref m_valueNow, .int 0, .int (-1), .int 0, .ref m_didSome, .ref m_sizes, .ref m_ends])), (m_all, aI cs 51207 f_m_all)]) (wr := []) hx hb hml hown hu hK hP hD hS hA hl.1 (c_X9_deadOn l D cs H.size 5 md m_all f_m_all m_deeds m_trial m_hasImage m_tape m_key m_answered m_goes m_hotOnes m_indexed m_isChanged m_valueNow m_didSome m_sizes m_ends dm th sw z_all (by first | decide | grind)) (gV u_1200 u_1202 u_16 u_76 u_1203) hd_X9_deadOn ⟨(Nat.le_of_ble_eq_true rfl), (Nat.le_of_ble_eq_true rfl)⟩ [0, 1] [] rfl rfl rfl rfl (by decide) rfl 0 rfl rfl rfl (Nat.le_of_ble_eq_true rfl) dX9_victimBy_17 ⟨(Nat.le_of_ble_eq_true rfl), (Nat.le_of_ble_eq_true rfl)⟩ (fun r_32 ut_33 H locs hw_34 hP hD hS => ?_)
  have hP : va_P D vwCl [(md, .inr (9, [.int th, .ref m_all, .ref m_deeds, .ref m_trial, .int dm, .ref m_hasImage, .ref m_tape, .ref m_key, .ref m_answered, .int 0, .int 0, .int 0, .ref m_goes, .int sw, .ref m_hotOnes, .ref m_indexed, .ref m_isChanged, .int 0, .ref m_valueNow, .int 0, .int (-1), .int 0, .ref m_didSome, .ref m_sizes, .ref m_ends])), (m_all, aI cs 51207 f_m_all)] H := hP
  have hD : va_D A [(md, .inr (9, [.int th, .ref m_all, .ref m_deeds, .ref m_trial, .int dm, .ref m_hasImage, .ref m_tape, .ref m_key, .ref m_answered, .int 0, .int 0, .int 0, .ref m_goes, .int sw, .ref m_hotOnes, .ref m_indexed, .ref m_isChanged, .int 0, .ref m_valueNow, .int 0, .int (-1), .int 0, .ref m_didSome, .ref m_sizes, .ref m_ends])), (m_all, aI cs 51207 f_m_all)] := hD
  have er_35 := hw_34
  subst er_35
  refine lv_istore (lv' := [(5, .int 0), (4, .int 5), (3, .int 0), (2, .int (-1)), (0, .ref md), (1, .int x)]) hx hb dX9_victimBy_20 hl (by decide) rfl (fun ls hl => ?_)
  refine lv_iload hx hb dX9_victimBy_22 (lv_at hl 0 rfl) ?_
  refine lv_if_ne (tgt := 30) hx hb dX9_victimBy_24 (by decide) (fun c_36 => absurd (by decide) c_36) (fun c_36 => ?_)
  refine lv_goto (tgt := 87) hx hb dX9_victimBy_27 (by decide) ?_
  refine lv_iinc (v := 6) (lv' := [(4, .int 6), (5, .int 0), (3, .int 0), (2, .int (-1)), (0, .ref md), (1, .int x)]) hx hb dX9_victimBy_87 hl (k := 1) rfl (by decide) (by decide) rfl (fun ls hl => ?_)
  refine lv_goto (tgt := 7) hx hb dX9_victimBy_90 (by decide) ?_
  refine lv_iload hx hb dX9_victimBy_7 (lv_at hl 0 rfl) ?_
  refine lv_bipush (v := 24) hx hb dX9_victimBy_9 (by decide) ?_
  refine lv_icmp_ge (tgt := 93) hx hb dX9_victimBy_11 (by decide) (fun c_37 => absurd c_37 (by decide)) (fun c_37 => ?_)
  refine lv_aload_n hx hb dX9_victimBy_14 rfl (lv_at hl 4 rfl) ?_
  refine lv_iload hx hb dX9_victimBy_15 (lv_at hl 0 rfl) ?_
  refine kV_i (ci := 9) (As := [.int 6]) (rest := []) (wc := [(md, .inr (9, [.int th, .ref m_all, .ref m_deeds, .ref m_trial, .int dm, .ref m_hasImage, .ref m_tape, .ref m_key, .ref m_answered, .int 0, .int 0, .int 0, .ref m_goes, .int sw, .ref m_hotOnes, .ref m_indexed, .ref m_isChanged, .int 0, .ref m_valueNow, .int 0, .int (-1), .int 0, .ref m_didSome, .ref m_sizes, .ref m_ends])), (m_all, aI cs 51207 f_m_all)]) (wr := []) hx hb hml hown hu hK hP hD hS hA hl.1 (c_X9_deadOn l D cs H.size 6 md m_all f_m_all m_deeds m_trial m_hasImage m_tape m_key m_answered m_goes m_hotOnes m_indexed m_isChanged m_valueNow m_didSome m_sizes m_ends dm th sw z_all (by first | decide | grind)) (gV u_1200 u_1202 u_16 u_76 u_1203) hd_X9_deadOn ⟨(Nat.le_of_ble_eq_true rfl), (Nat.le_of_ble_eq_true rfl)⟩ [0, 1] [] rfl rfl rfl rfl (by decide) rfl 0 rfl rfl rfl (Nat.le_of_ble_eq_true rfl) dX9_victimBy_17 ⟨(Nat.le_of_ble_eq_true rfl), (Nat.le_of_ble_eq_true rfl)⟩ (fun r_38 ut_39 H locs hw_40 hP hD hS => ?_)
  have hP : va_P D vwCl [(md, .inr (9, [.int th, .ref m_all, .ref m_deeds, .ref m_trial, .int dm, .ref m_hasImage, .ref m_tape, .ref m_key, .ref m_answered, .int 0, .int 0, .int 0, .ref m_goes, .int sw, .ref m_hotOnes, .ref m_indexed, .ref m_isChanged, .int 0, .ref m_valueNow, .int 0, .int (-1), .int 0, .ref m_didSome, .ref m_sizes, .ref m_ends])), (m_all, aI cs 51207 f_m_all)] H := hP
  have hD : va_D A [(md, .inr (9, [.int th, .ref m_all, .ref m_deeds, .ref m_trial, .int dm, .ref m_hasImage, .ref m_tape, .ref m_key, .ref m_answered, .int 0, .int 0, .int 0, .ref m_goes, .int sw, .ref m_hotOnes, .ref m_indexed, .ref m_isChanged, .int 0, .ref m_valueNow, .int 0, .int (-1), .int 0, .ref m_didSome, .ref m_sizes, .ref m_ends])), (m_all, aI cs 51207 f_m_all)] := hD
  have er_41 := hw_40
  subst er_41
  refine lv_istore (lv' := [(5, .int 0), (4, .int 6), (3, .int 0), (2, .int (-1)), (0, .ref md), (1, .int x)]) hx hb dX9_victimBy_20 hl (by decide) rfl (fun ls hl => ?_)
  refine lv_iload hx hb dX9_victimBy_22 (lv_at hl 0 rfl) ?_
  refine lv_if_ne (tgt := 30) hx hb dX9_victimBy_24 (by decide) (fun c_42 => absurd (by decide) c_42) (fun c_42 => ?_)
  refine lv_goto (tgt := 87) hx hb dX9_victimBy_27 (by decide) ?_
  refine lv_iinc (v := 7) (lv' := [(4, .int 7), (5, .int 0), (3, .int 0), (2, .int (-1)), (0, .ref md), (1, .int x)]) hx hb dX9_victimBy_87 hl (k := 1) rfl (by decide) (by decide) rfl (fun ls hl => ?_)
  refine lv_goto (tgt := 7) hx hb dX9_victimBy_90 (by decide) ?_
  refine lv_iload hx hb dX9_victimBy_7 (lv_at hl 0 rfl) ?_
  refine lv_bipush (v := 24) hx hb dX9_victimBy_9 (by decide) ?_
  refine lv_icmp_ge (tgt := 93) hx hb dX9_victimBy_11 (by decide) (fun c_43 => absurd c_43 (by decide)) (fun c_43 => ?_)
  refine lv_aload_n hx hb dX9_victimBy_14 rfl (lv_at hl 4 rfl) ?_
  refine lv_iload hx hb dX9_victimBy_15 (lv_at hl 0 rfl) ?_
  refine kV_i (ci := 9) (As := [.int 7]) (rest := []) (wc := [(md, .inr (9, [.int th, .ref m_all, .ref m_deeds, .ref m_trial, .int dm, .ref m_hasImage, .ref m_tape, .ref m_key, .ref m_answered, .int 0, .int 0, .int 0, .ref m_goes, .int sw, .ref m_hotOnes, .ref m_indexed, .ref m_isChanged, .int 0, .ref m_valueNow, .int 0, .int (-1), .int 0, .ref m_didSome, .ref m_sizes, .ref m_ends])), (m_all, aI cs 51207 f_m_all)]) (wr := []) hx hb hml hown hu hK hP hD hS hA hl.1 (c_X9_deadOn l D cs H.size 7 md m_all f_m_all m_deeds m_trial m_hasImage m_tape m_key m_answered m_goes m_hotOnes m_indexed m_isChanged m_valueNow m_didSome m_sizes m_ends dm th sw z_all (by first | decide | grind)) (gV u_1200 u_1202 u_16 u_76 u_1203) hd_X9_deadOn ⟨(Nat.le_of_ble_eq_true rfl), (Nat.le_of_ble_eq_true rfl)⟩ [0, 1] [] rfl rfl rfl rfl (by decide) rfl 0 rfl rfl rfl (Nat.le_of_ble_eq_true rfl) dX9_victimBy_17 ⟨(Nat.le_of_ble_eq_true rfl), (Nat.le_of_ble_eq_true rfl)⟩ (fun r_44 ut_45 H locs hw_46 hP hD hS => ?_)
  have hP : va_P D vwCl [(md, .inr (9, [.int th, .ref m_all, .ref m_deeds, .ref m_trial, .int dm, .ref m_hasImage, .ref m_tape, .ref m_key, .ref m_answered, .int 0, .int 0, .int 0, .ref m_goes, .int sw, .ref m_hotOnes, .ref m_indexed, .ref m_isChanged, .int 0, .ref m_valueNow, .int 0, .int (-1), .int 0, .ref m_didSome, .ref m_sizes, .ref m_ends])), (m_all, aI cs 51207 f_m_all)] H := hP
  have hD : va_D A [(md, .inr (9, [.int th, .ref m_all, .ref m_deeds, .ref m_trial, .int dm, .ref m_hasImage, .ref m_tape, .ref m_key, .ref m_answered, .int 0, .int 0, .int 0, .ref m_goes, .int sw, .ref m_hotOnes, .ref m_indexed, .ref m_isChanged, .int 0, .ref m_valueNow, .int 0, .int (-1), .int 0, .ref m_didSome, .ref m_sizes, .ref m_ends])), (m_all, aI cs 51207 f_m_all)] := hD
  have er_47 := hw_46
  subst er_47
  refine lv_istore (lv' := [(5, .int 0), (4, .int 7), (3, .int 0), (2, .int (-1)), (0, .ref md), (1, .int x)]) hx hb dX9_victimBy_20 hl (by decide) rfl (fun ls hl => ?_)
  refine lv_iload hx hb dX9_victimBy_22 (lv_at hl 0 rfl) ?_
  refine lv_if_ne (tgt := 30) hx hb dX9_victimBy_24 (by decide) (fun c_48 => absurd (by decide) c_48) (fun c_48 => ?_)
  refine lv_goto (tgt := 87) hx hb dX9_victimBy_27 (by decide) ?_
  refine lv_iinc (v := 8) (lv' := [(4, .int 8), (5, .int 0), (3, .int 0), (2, .int (-1)), (0, .ref md), (1, .int x)]) hx hb dX9_victimBy_87 hl (k := 1) rfl (by decide) (by decide) rfl (fun ls hl => ?_)
  refine lv_goto (tgt := 7) hx hb dX9_victimBy_90 (by decide) ?_
  refine lv_iload hx hb dX9_victimBy_7 (lv_at hl 0 rfl) ?_
  refine lv_bipush (v := 24) hx hb dX9_victimBy_9 (by decide) ?_
  refine lv_icmp_ge (tgt := 93) hx hb dX9_victimBy_11 (by decide) (fun c_49 => absurd c_49 (by decide)) (fun c_49 => ?_)
  refine lv_aload_n hx hb dX9_victimBy_14 rfl (lv_at hl 4 rfl) ?_
  refine lv_iload hx hb dX9_victimBy_15 (lv_at hl 0 rfl) ?_
  refine kV_i (ci := 9) (As := [.int 8]) (rest := []) (wc := [(md, .inr (9, [.int th, .ref m_all, .ref m_deeds, .ref m_trial, .int dm, .ref m_hasImage, .ref m_tape, .ref m_key, .ref m_answered, .int 0, .int 0, .int 0, .ref m_goes, .int sw, .ref m_hotOnes, .ref m_indexed, .ref m_isChanged, .int 0, .ref m_valueNow, .int 0, .int (-1), .int 0, .ref m_didSome, .ref m_sizes, .ref m_ends])), (m_all, aI cs 51207 f_m_all)]) (wr := []) hx hb hml hown hu hK hP hD hS hA hl.1 (c_X9_deadOn l D cs H.size 8 md m_all f_m_all m_deeds m_trial m_hasImage m_tape m_key m_answered m_goes m_hotOnes m_indexed m_isChanged m_valueNow m_didSome m_sizes m_ends dm th sw z_all (by first | decide | grind)) (gV u_1200 u_1202 u_16 u_76 u_1203) hd_X9_deadOn ⟨(Nat.le_of_ble_eq_true rfl), (Nat.le_of_ble_eq_true rfl)⟩ [0, 1] [] rfl rfl rfl rfl (by decide) rfl 0 rfl rfl rfl (Nat.le_of_ble_eq_true rfl) dX9_victimBy_17 ⟨(Nat.le_of_ble_eq_true rfl), (Nat.le_of_ble_eq_true rfl)⟩ (fun r_50 ut_51 H locs hw_52 hP hD hS => ?_)
  have hP : va_P D vwCl [(md, .inr (9, [.int th, .ref m_all, .ref m_deeds, .ref m_trial, .int dm, .ref m_hasImage, .ref m_tape, .ref m_key, .ref m_answered, .int 0, .int 0, .int 0, .ref m_goes, .int sw, .ref m_hotOnes, .ref m_indexed, .ref m_isChanged, .int 0, .ref m_valueNow, .int 0, .int (-1), .int 0, .ref m_didSome, .ref m_sizes, .ref m_ends])), (m_all, aI cs 51207 f_m_all)] H := hP
  have hD : va_D A [(md, .inr (9, [.int th, .ref m_all, .ref m_deeds, .ref m_trial, .int dm, .ref m_hasImage, .ref m_tape, .ref m_key, .ref m_answered, .int 0, .int 0, .int 0, .ref m_goes, .int sw, .ref m_hotOnes, .ref m_indexed, .ref m_isChanged, .int 0, .ref m_valueNow, .int 0, .int (-1), .int 0, .ref m_didSome, .ref m_sizes, .ref m_ends])), (m_all, aI cs 51207 f_m_all)] := hD
  have er_53 := hw_52
  subst er_53
  refine lv_istore (lv' := [(5, .int 0), (4, .int 8), (3, .int 0), (2, .int (-1)), (0, .ref md), (1, .int x)]) hx hb dX9_victimBy_20 hl (by decide) rfl (fun ls hl => ?_)
  refine lv_iload hx hb dX9_victimBy_22 (lv_at hl 0 rfl) ?_
  refine lv_if_ne (tgt := 30) hx hb dX9_victimBy_24 (by decide) (fun c_54 => absurd (by decide) c_54) (fun c_54 => ?_)
  refine lv_goto (tgt := 87) hx hb dX9_victimBy_27 (by decide) ?_
  refine lv_iinc (v := 9) (lv' := [(4, .int 9), (5, .int 0), (3, .int 0), (2, .int (-1)), (0, .ref md), (1, .int x)]) hx hb dX9_victimBy_87 hl (k := 1) rfl (by decide) (by decide) rfl (fun ls hl => ?_)
  refine lv_goto (tgt := 7) hx hb dX9_victimBy_90 (by decide) ?_
  refine lv_iload hx hb dX9_victimBy_7 (lv_at hl 0 rfl) ?_
  refine lv_bipush (v := 24) hx hb dX9_victimBy_9 (by decide) ?_
  refine lv_icmp_ge (tgt := 93) hx hb dX9_victimBy_11 (by decide) (fun c_55 => absurd c_55 (by decide)) (fun c_55 => ?_)
  refine lv_aload_n hx hb dX9_victimBy_14 rfl (lv_at hl 4 rfl) ?_
  refine lv_iload hx hb dX9_victimBy_15 (lv_at hl 0 rfl) ?_
  refine kV_i (ci := 9) (As := [.int 9]) (rest := []) (wc := [(md, .inr (9, [.int th, .ref m_all, .ref m_deeds, .ref m_trial, .int dm, .ref m_hasImage, .ref m_tape, .ref m_key, .ref m_answered, .int 0, .int 0, .int 0, .ref m_goes, .int sw, .ref m_hotOnes, .ref m_indexed, .ref m_isChanged, .int 0, .ref m_valueNow, .int 0, .int (-1), .int 0, .ref m_didSome, .ref m_sizes, .ref m_ends])), (m_all, aI cs 51207 f_m_all)]) (wr := []) hx hb hml hown hu hK hP hD hS hA hl.1 (c_X9_deadOn l D cs H.size 9 md m_all f_m_all m_deeds m_trial m_hasImage m_tape m_key m_answered m_goes m_hotOnes m_indexed m_isChanged m_valueNow m_didSome m_sizes m_ends dm th sw z_all (by first | decide | grind)) (gV u_1200 u_1202 u_16 u_76 u_1203) hd_X9_deadOn ⟨(Nat.le_of_ble_eq_true rfl), (Nat.le_of_ble_eq_true rfl)⟩ [0, 1] [] rfl rfl rfl rfl (by decide) rfl 0 rfl rfl rfl (Nat.le_of_ble_eq_true rfl) dX9_victimBy_17 ⟨(Nat.le_of_ble_eq_true rfl), (Nat.le_of_ble_eq_true rfl)⟩ (fun r_56 ut_57 H locs hw_58 hP hD hS => ?_)
  have hP : va_P D vwCl [(md, .inr (9, [.int th, .ref m_all, .ref m_deeds, .ref m_trial, .int dm, .ref m_hasImage, .ref m_tape, .ref m_key, .ref m_answered, .int 0, .int 0, .int 0, .ref m_goes, .int sw, .ref m_hotOnes, .ref m_indexed, .ref m_isChanged, .int 0, .ref m_valueNow, .int 0, .int (-1), .int 0, .ref m_didSome, .ref m_sizes, .ref m_ends])), (m_all, aI cs 51207 f_m_all)] H := hP
  have hD : va_D A [(md, .inr (9, [.int th, .ref m_all, .ref m_deeds, .ref m_trial, .int dm, .ref m_hasImage, .ref m_tape, .ref m_key, .ref m_answered, .int 0, .int 0, .int 0, .ref m_goes, .int sw, .ref m_hotOnes, .ref m_indexed, .ref m_isChanged, .int 0, .ref m_valueNow, .int 0, .int (-1), .int 0, .ref m_didSome, .ref m_sizes, .ref m_ends])), (m_all, aI cs 51207 f_m_all)] := hD
  have er_59 := hw_58
  subst er_59
  refine lv_istore (lv' := [(5, .int 0), (4, .int 9), (3, .int 0), (2, .int (-1)), (0, .ref md), (1, .int x)]) hx hb dX9_victimBy_20 hl (by decide) rfl (fun ls hl => ?_)
  refine lv_iload hx hb dX9_victimBy_22 (lv_at hl 0 rfl) ?_
  refine lv_if_ne (tgt := 30) hx hb dX9_victimBy_24 (by decide) (fun c_60 => absurd (by decide) c_60) (fun c_60 => ?_)
  refine lv_goto (tgt := 87) hx hb dX9_victimBy_27 (by decide) ?_
  refine lv_iinc (v := 10) (lv' := [(4, .int 10), (5, .int 0), (3, .int 0), (2, .int (-1)), (0, .ref md), (1, .int x)]) hx hb dX9_victimBy_87 hl (k := 1) rfl (by decide) (by decide) rfl (fun ls hl => ?_)
  refine lv_goto (tgt := 7) hx hb dX9_victimBy_90 (by decide) ?_
  refine lv_iload hx hb dX9_victimBy_7 (lv_at hl 0 rfl) ?_
  refine lv_bipush (v := 24) hx hb dX9_victimBy_9 (by decide) ?_
  refine lv_icmp_ge (tgt := 93) hx hb dX9_victimBy_11 (by decide) (fun c_61 => absurd c_61 (by decide)) (fun c_61 => ?_)
  refine lv_aload_n hx hb dX9_victimBy_14 rfl (lv_at hl 4 rfl) ?_
  refine lv_iload hx hb dX9_victimBy_15 (lv_at hl 0 rfl) ?_
  refine kV_i (ci := 9) (As := [.int 10]) (rest := []) (wc := [(md, .inr (9, [.int th, .ref m_all, .ref m_deeds, .ref m_trial, .int dm, .ref m_hasImage, .ref m_tape, .ref m_key, .ref m_answered, .int 0, .int 0, .int 0, .ref m_goes, .int sw, .ref m_hotOnes, .ref m_indexed, .ref m_isChanged, .int 0, .ref m_valueNow, .int 0, .int (-1), .int 0, .ref m_didSome, .ref m_sizes, .ref m_ends])), (m_all, aI cs 51207 f_m_all)]) (wr := []) hx hb hml hown hu hK hP hD hS hA hl.1 (c_X9_deadOn l D cs H.size 10 md m_all f_m_all m_deeds m_trial m_hasImage m_tape m_key m_answered m_goes m_hotOnes m_indexed m_isChanged m_valueNow m_didSome m_sizes m_ends dm th sw z_all (by first | decide | grind)) (gV u_1200 u_1202 u_16 u_76 u_1203) hd_X9_deadOn ⟨(Nat.le_of_ble_eq_true rfl), (Nat.le_of_ble_eq_true rfl)⟩ [0, 1] [] rfl rfl rfl rfl (by decide) rfl 0 rfl rfl rfl (Nat.le_of_ble_eq_true rfl) dX9_victimBy_17 ⟨(Nat.le_of_ble_eq_true rfl), (Nat.le_of_ble_eq_true rfl)⟩ (fun r_62 ut_63 H locs hw_64 hP hD hS => ?_)
  have hP : va_P D vwCl [(md, .inr (9, [.int th, .ref m_all, .ref m_deeds, .ref m_trial, .int dm, .ref m_hasImage, .ref m_tape, .ref m_key, .ref m_answered, .int 0, .int 0, .int 0, .ref m_goes, .int sw, .ref m_hotOnes, .ref m_indexed, .ref m_isChanged, .int 0, .ref m_valueNow, .int 0, .int (-1), .int 0, .ref m_didSome, .ref m_sizes, .ref m_ends])), (m_all, aI cs 51207 f_m_all)] H := hP
  have hD : va_D A [(md, .inr (9, [.int th, .ref m_all, .ref m_deeds, .ref m_trial, .int dm, .ref m_hasImage, .ref m_tape, .ref m_key, .ref m_answered, .int 0, .int 0, .int 0, .ref m_goes, .int sw, .ref m_hotOnes, .ref m_indexed, .ref m_isChanged, .int 0, .ref m_valueNow, .int 0, .int (-1), .int 0, .ref m_didSome, .ref m_sizes, .ref m_ends])), (m_all, aI cs 51207 f_m_all)] := hD
  have er_65 := hw_64
  subst er_65
  refine lv_istore (lv' := [(5, .int 0), (4, .int 10), (3, .int 0), (2, .int (-1)), (0, .ref md), (1, .int x)]) hx hb dX9_victimBy_20 hl (by decide) rfl (fun ls hl => ?_)
  refine lv_iload hx hb dX9_victimBy_22 (lv_at hl 0 rfl) ?_
  refine lv_if_ne (tgt := 30) hx hb dX9_victimBy_24 (by decide) (fun c_66 => absurd (by decide) c_66) (fun c_66 => ?_)
  refine lv_goto (tgt := 87) hx hb dX9_victimBy_27 (by decide) ?_
  refine lv_iinc (v := 11) (lv' := [(4, .int 11), (5, .int 0), (3, .int 0), (2, .int (-1)), (0, .ref md), (1, .int x)]) hx hb dX9_victimBy_87 hl (k := 1) rfl (by decide) (by decide) rfl (fun ls hl => ?_)
  refine lv_goto (tgt := 7) hx hb dX9_victimBy_90 (by decide) ?_
  refine lv_iload hx hb dX9_victimBy_7 (lv_at hl 0 rfl) ?_
  refine lv_bipush (v := 24) hx hb dX9_victimBy_9 (by decide) ?_
  refine lv_icmp_ge (tgt := 93) hx hb dX9_victimBy_11 (by decide) (fun c_67 => absurd c_67 (by decide)) (fun c_67 => ?_)
  refine lv_aload_n hx hb dX9_victimBy_14 rfl (lv_at hl 4 rfl) ?_
  refine lv_iload hx hb dX9_victimBy_15 (lv_at hl 0 rfl) ?_
  refine kV_i (ci := 9) (As := [.int 11]) (rest := []) (wc := [(md, .inr (9, [.int th, .ref m_all, .ref m_deeds, .ref m_trial, .int dm, .ref m_hasImage, .ref m_tape, .ref m_key, .ref m_answered, .int 0, .int 0, .int 0, .ref m_goes, .int sw, .ref m_hotOnes, .ref m_indexed, .ref m_isChanged, .int 0, .ref m_valueNow, .int 0, .int (-1), .int 0, .ref m_didSome, .ref m_sizes, .ref m_ends])), (m_all, aI cs 51207 f_m_all)]) (wr := []) hx hb hml hown hu hK hP hD hS hA hl.1 (c_X9_deadOn l D cs H.size 11 md m_all f_m_all m_deeds m_trial m_hasImage m_tape m_key m_answered m_goes m_hotOnes m_indexed m_isChanged m_valueNow m_didSome m_sizes m_ends dm th sw z_all (by first | decide | grind)) (gV u_1200 u_1202 u_16 u_76 u_1203) hd_X9_deadOn ⟨(Nat.le_of_ble_eq_true rfl), (Nat.le_of_ble_eq_true rfl)⟩ [0, 1] [] rfl rfl rfl rfl (by decide) rfl 0 rfl rfl rfl (Nat.le_of_ble_eq_true rfl) dX9_victimBy_17 ⟨(Nat.le_of_ble_eq_true rfl), (Nat.le_of_ble_eq_true rfl)⟩ (fun r_68 ut_69 H locs hw_70 hP hD hS => ?_)
  have hP : va_P D vwCl [(md, .inr (9, [.int th, .ref m_all, .ref m_deeds, .ref m_trial, .int dm, .ref m_hasImage, .ref m_tape, .ref m_key, .ref m_answered, .int 0, .int 0, .int 0, .ref m_goes, .int sw, .ref m_hotOnes, .ref m_indexed, .ref m_isChanged, .int 0, .ref m_valueNow, .int 0, .int (-1), .int 0, .ref m_didSome, .ref m_sizes, .ref m_ends])), (m_all, aI cs 51207 f_m_all)] H := hP
  have hD : va_D A [(md, .inr (9, [.int th, .ref m_all, .ref m_deeds, .ref m_trial, .int dm, .ref m_hasImage, .ref m_tape, .ref m_key, .ref m_answered, .int 0, .int 0, .int 0, .ref m_goes, .int sw, .ref m_hotOnes, .ref m_indexed, .ref m_isChanged, .int 0, .ref m_valueNow, .int 0, .int (-1), .int 0, .ref m_didSome, .ref m_sizes, .ref m_ends])), (m_all, aI cs 51207 f_m_all)] := hD
  have er_71 := hw_70
  subst er_71
  refine lv_istore (lv' := [(5, .int 0), (4, .int 11), (3, .int 0), (2, .int (-1)), (0, .ref md), (1, .int x)]) hx hb dX9_victimBy_20 hl (by decide) rfl (fun ls hl => ?_)
  refine lv_iload hx hb dX9_victimBy_22 (lv_at hl 0 rfl) ?_
  refine lv_if_ne (tgt := 30) hx hb dX9_victimBy_24 (by decide) (fun c_72 => absurd (by decide) c_72) (fun c_72 => ?_)
  refine lv_goto (tgt := 87) hx hb dX9_victimBy_27 (by decide) ?_
  refine lv_iinc (v := 12) (lv' := [(4, .int 12), (5, .int 0), (3, .int 0), (2, .int (-1)), (0, .ref md), (1, .int x)]) hx hb dX9_victimBy_87 hl (k := 1) rfl (by decide) (by decide) rfl (fun ls hl => ?_)
  refine lv_goto (tgt := 7) hx hb dX9_victimBy_90 (by decide) ?_
  refine lv_iload hx hb dX9_victimBy_7 (lv_at hl 0 rfl) ?_
  refine lv_bipush (v := 24) hx hb dX9_victimBy_9 (by decide) ?_
  refine lv_icmp_ge (tgt := 93) hx hb dX9_victimBy_11 (by decide) (fun c_73 => absurd c_73 (by decide)) (fun c_73 => ?_)
  refine lv_aload_n hx hb dX9_victimBy_14 rfl (lv_at hl 4 rfl) ?_
  refine lv_iload hx hb dX9_victimBy_15 (lv_at hl 0 rfl) ?_
  refine kV_i (ci := 9) (As := [.int 12]) (rest := []) (wc := [(md, .inr (9, [.int th, .ref m_all, .ref m_deeds, .ref m_trial, .int dm, .ref m_hasImage, .ref m_tape, .ref m_key, .ref m_answered, .int 0, .int 0, .int 0, .ref m_goes, .int sw, .ref m_hotOnes, .ref m_indexed, .ref m_isChanged, .int 0, .ref m_valueNow, .int 0, .int (-1), .int 0, .ref m_didSome, .ref m_sizes, .ref m_ends])), (m_all, aI cs 51207 f_m_all)]) (wr := []) hx hb hml hown hu hK hP hD hS hA hl.1 (c_X9_deadOn l D cs H.size 12 md m_all f_m_all m_deeds m_trial m_hasImage m_tape m_key m_answered m_goes m_hotOnes m_indexed m_isChanged m_valueNow m_didSome m_sizes m_ends dm th sw z_all (by first | decide | grind)) (gV u_1200 u_1202 u_16 u_76 u_1203) hd_X9_deadOn ⟨(Nat.le_of_ble_eq_true rfl), (Nat.le_of_ble_eq_true rfl)⟩ [0, 1] [] rfl rfl rfl rfl (by decide) rfl 0 rfl rfl rfl (Nat.le_of_ble_eq_true rfl) dX9_victimBy_17 ⟨(Nat.le_of_ble_eq_true rfl), (Nat.le_of_ble_eq_true rfl)⟩ (fun r_74 ut_75 H locs hw_76 hP hD hS => ?_)
  have hP : va_P D vwCl [(md, .inr (9, [.int th, .ref m_all, .ref m_deeds, .ref m_trial, .int dm, .ref m_hasImage, .ref m_tape, .ref m_key, .ref m_answered, .int 0, .int 0, .int 0, .ref m_goes, .int sw, .ref m_hotOnes, .ref m_indexed, .ref m_isChanged, .int 0, .ref m_valueNow, .int 0, .int (-1), .int 0, .ref m_didSome, .ref m_sizes, .ref m_ends])), (m_all, aI cs 51207 f_m_all)] H := hP
  have hD : va_D A [(md, .inr (9, [.int th, .ref m_all, .ref m_deeds, .ref m_trial, .int dm, .ref m_hasImage, .ref m_tape, .ref m_key, .ref m_answered, .int 0, .int 0, .int 0, .ref m_goes, .int sw, .ref m_hotOnes, .ref m_indexed, .ref m_isChanged, .int 0, .ref m_valueNow, .int 0, .int (-1), .int 0, .ref m_didSome, .ref m_sizes, .ref m_ends])), (m_all, aI cs 51207 f_m_all)] := hD
  have er_77 := hw_76
  subst er_77
  refine lv_istore (lv' := [(5, .int 0), (4, .int 12), (3, .int 0), (2, .int (-1)), (0, .ref md), (1, .int x)]) hx hb dX9_victimBy_20 hl (by decide) rfl (fun ls hl => ?_)
  refine lv_iload hx hb dX9_victimBy_22 (lv_at hl 0 rfl) ?_
  refine lv_if_ne (tgt := 30) hx hb dX9_victimBy_24 (by decide) (fun c_78 => absurd (by decide) c_78) (fun c_78 => ?_)
  refine lv_goto (tgt := 87) hx hb dX9_victimBy_27 (by decide) ?_
  refine lv_iinc (v := 13) (lv' := [(4, .int 13), (5, .int 0), (3, .int 0), (2, .int (-1)), (0, .ref md), (1, .int x)]) hx hb dX9_victimBy_87 hl (k := 1) rfl (by decide) (by decide) rfl (fun ls hl => ?_)
  refine lv_goto (tgt := 7) hx hb dX9_victimBy_90 (by decide) ?_
  refine lv_iload hx hb dX9_victimBy_7 (lv_at hl 0 rfl) ?_
  refine lv_bipush (v := 24) hx hb dX9_victimBy_9 (by decide) ?_
  refine lv_icmp_ge (tgt := 93) hx hb dX9_victimBy_11 (by decide) (fun c_79 => absurd c_79 (by decide)) (fun c_79 => ?_)
  refine lv_aload_n hx hb dX9_victimBy_14 rfl (lv_at hl 4 rfl) ?_
  refine lv_iload hx hb dX9_victimBy_15 (lv_at hl 0 rfl) ?_
  refine kV_i (ci := 9) (As := [.int 13]) (rest := []) (wc := [(md, .inr (9, [.int th, .ref m_all, .ref m_deeds, .ref m_trial, .int dm, .ref m_hasImage, .ref m_tape, .ref m_key, .ref m_answered, .int 0, .int 0, .int 0, .ref m_goes, .int sw, .ref m_hotOnes, .ref m_indexed, .ref m_isChanged, .int 0, .ref m_valueNow, .int 0, .int (-1), .int 0, .ref m_didSome, .ref m_sizes, .ref m_ends])), (m_all, aI cs 51207 f_m_all)]) (wr := []) hx hb hml hown hu hK hP hD hS hA hl.1 (c_X9_deadOn l D cs H.size 13 md m_all f_m_all m_deeds m_trial m_hasImage m_tape m_key m_answered m_goes m_hotOnes m_indexed m_isChanged m_valueNow m_didSome m_sizes m_ends dm th sw z_all (by first | decide | grind)) (gV u_1200 u_1202 u_16 u_76 u_1203) hd_X9_deadOn ⟨(Nat.le_of_ble_eq_true rfl), (Nat.le_of_ble_eq_true rfl)⟩ [0, 1] [] rfl rfl rfl rfl (by decide) rfl 0 rfl rfl rfl (Nat.le_of_ble_eq_true rfl) dX9_victimBy_17 ⟨(Nat.le_of_ble_eq_true rfl), (Nat.le_of_ble_eq_true rfl)⟩ (fun r_80 ut_81 H locs hw_82 hP hD hS => ?_)
  have hP : va_P D vwCl [(md, .inr (9, [.int th, .ref m_all, .ref m_deeds, .ref m_trial, .int dm, .ref m_hasImage, .ref m_tape, .ref m_key, .ref m_answered, .int 0, .int 0, .int 0, .ref m_goes, .int sw, .ref m_hotOnes, .ref m_indexed, .ref m_isChanged, .int 0, .ref m_valueNow, .int 0, .int (-1), .int 0, .ref m_didSome, .ref m_sizes, .ref m_ends])), (m_all, aI cs 51207 f_m_all)] H := hP
  have hD : va_D A [(md, .inr (9, [.int th, .ref m_all, .ref m_deeds, .ref m_trial, .int dm, .ref m_hasImage, .ref m_tape, .ref m_key, .ref m_answered, .int 0, .int 0, .int 0, .ref m_goes, .int sw, .ref m_hotOnes, .ref m_indexed, .ref m_isChanged, .int 0, .ref m_valueNow, .int 0, .int (-1), .int 0, .ref m_didSome, .ref m_sizes, .ref m_ends])), (m_all, aI cs 51207 f_m_all)] := hD
  have er_83 := hw_82
  subst er_83
  refine lv_istore (lv' := [(5, .int 0), (4, .int 13), (3, .int 0), (2, .int (-1)), (0, .ref md), (1, .int x)]) hx hb dX9_victimBy_20 hl (by decide) rfl (fun ls hl => ?_)
  refine lv_iload hx hb dX9_victimBy_22 (lv_at hl 0 rfl) ?_
  refine lv_if_ne (tgt := 30) hx hb dX9_victimBy_24 (by decide) (fun c_84 => absurd (by decide) c_84) (fun c_84 => ?_)
  refine lv_goto (tgt := 87) hx hb dX9_victimBy_27 (by decide) ?_
  refine lv_iinc (v := 14) (lv' := [(4, .int 14), (5, .int 0), (3, .int 0), (2, .int (-1)), (0, .ref md), (1, .int x)]) hx hb dX9_victimBy_87 hl (k := 1) rfl (by decide) (by decide) rfl (fun ls hl => ?_)
  refine lv_goto (tgt := 7) hx hb dX9_victimBy_90 (by decide) ?_
  refine lv_iload hx hb dX9_victimBy_7 (lv_at hl 0 rfl) ?_
  refine lv_bipush (v := 24) hx hb dX9_victimBy_9 (by decide) ?_
  refine lv_icmp_ge (tgt := 93) hx hb dX9_victimBy_11 (by decide) (fun c_85 => absurd c_85 (by decide)) (fun c_85 => ?_)
  refine lv_aload_n hx hb dX9_victimBy_14 rfl (lv_at hl 4 rfl) ?_
  refine lv_iload hx hb dX9_victimBy_15 (lv_at hl 0 rfl) ?_
  refine kV_i (ci := 9) (As := [.int 14]) (rest := []) (wc := [(md, .inr (9, [.int th, .ref m_all, .ref m_deeds, .ref m_trial, .int dm, .ref m_hasImage, .ref m_tape, .ref m_key, .ref m_answered, .int 0, .int 0, .int 0, .ref m_goes, .int sw, .ref m_hotOnes, .ref m_indexed, .ref m_isChanged, .int 0, .ref m_valueNow, .int 0, .int (-1), .int 0, .ref m_didSome, .ref m_sizes, .ref m_ends])), (m_all, aI cs 51207 f_m_all)]) (wr := []) hx hb hml hown hu hK hP hD hS hA hl.1 (c_X9_deadOn l D cs H.size 14 md m_all f_m_all m_deeds m_trial m_hasImage m_tape m_key m_answered m_goes m_hotOnes m_indexed m_isChanged m_valueNow m_didSome m_sizes m_ends dm th sw z_all (by first | decide | grind)) (gV u_1200 u_1202 u_16 u_76 u_1203) hd_X9_deadOn ⟨(Nat.le_of_ble_eq_true rfl), (Nat.le_of_ble_eq_true rfl)⟩ [0, 1] [] rfl rfl rfl rfl (by decide) rfl 0 rfl rfl rfl (Nat.le_of_ble_eq_true rfl) dX9_victimBy_17 ⟨(Nat.le_of_ble_eq_true rfl), (Nat.le_of_ble_eq_true rfl)⟩ (fun r_86 ut_87 H locs hw_88 hP hD hS => ?_)
  have hP : va_P D vwCl [(md, .inr (9, [.int th, .ref m_all, .ref m_deeds, .ref m_trial, .int dm, .ref m_hasImage, .ref m_tape, .ref m_key, .ref m_answered, .int 0, .int 0, .int 0, .ref m_goes, .int sw, .ref m_hotOnes, .ref m_indexed, .ref m_isChanged, .int 0, .ref m_valueNow, .int 0, .int (-1), .int 0, .ref m_didSome, .ref m_sizes, .ref m_ends])), (m_all, aI cs 51207 f_m_all)] H := hP
  have hD : va_D A [(md, .inr (9, [.int th, .ref m_all, .ref m_deeds, .ref m_trial, .int dm, .ref m_hasImage, .ref m_tape, .ref m_key, .ref m_answered, .int 0, .int 0, .int 0, .ref m_goes, .int sw, .ref m_hotOnes, .ref m_indexed, .ref m_isChanged, .int 0, .ref m_valueNow, .int 0, .int (-1), .int 0, .ref m_didSome, .ref m_sizes, .ref m_ends])), (m_all, aI cs 51207 f_m_all)] := hD
  have er_89 := hw_88
  subst er_89
  refine lv_istore (lv' := [(5, .int 0), (4, .int 14), (3, .int 0), (2, .int (-1)), (0, .ref md), (1, .int x)]) hx hb dX9_victimBy_20 hl (by decide) rfl (fun ls hl => ?_)
  refine lv_iload hx hb dX9_victimBy_22 (lv_at hl 0 rfl) ?_
  refine lv_if_ne (tgt := 30) hx hb dX9_victimBy_24 (by decide) (fun c_90 => absurd (by decide) c_90) (fun c_90 => ?_)
  refine lv_goto (tgt := 87) hx hb dX9_victimBy_27 (by decide) ?_
  refine lv_iinc (v := 15) (lv' := [(4, .int 15), (5, .int 0), (3, .int 0), (2, .int (-1)), (0, .ref md), (1, .int x)]) hx hb dX9_victimBy_87 hl (k := 1) rfl (by decide) (by decide) rfl (fun ls hl => ?_)
  refine lv_goto (tgt := 7) hx hb dX9_victimBy_90 (by decide) ?_
  refine lv_iload hx hb dX9_victimBy_7 (lv_at hl 0 rfl) ?_
  refine lv_bipush (v := 24) hx hb dX9_victimBy_9 (by decide) ?_
  refine lv_icmp_ge (tgt := 93) hx hb dX9_victimBy_11 (by decide) (fun c_91 => absurd c_91 (by decide)) (fun c_91 => ?_)
  refine lv_aload_n hx hb dX9_victimBy_14 rfl (lv_at hl 4 rfl) ?_
  refine lv_iload hx hb dX9_victimBy_15 (lv_at hl 0 rfl) ?_
  refine kV_i (ci := 9) (As := [.int 15]) (rest := []) (wc := [(md, .inr (9, [.int th, .ref m_all, .ref m_deeds, .ref m_trial, .int dm, .ref m_hasImage, .ref m_tape, .ref m_key, .ref m_answered, .int 0, .int 0, .int 0, .ref m_goes, .int sw, .ref m_hotOnes, .ref m_indexed, .ref m_isChanged, .int 0, .ref m_valueNow, .int 0, .int (-1), .int 0, .ref m_didSome, .ref m_sizes, .ref m_ends])), (m_all, aI cs 51207 f_m_all)]) (wr := []) hx hb hml hown hu hK hP hD hS hA hl.1 (c_X9_deadOn l D cs H.size 15 md m_all f_m_all m_deeds m_trial m_hasImage m_tape m_key m_answered m_goes m_hotOnes m_indexed m_isChanged m_valueNow m_didSome m_sizes m_ends dm th sw z_all (by first | decide | grind)) (gV u_1200 u_1202 u_16 u_76 u_1203) hd_X9_deadOn ⟨(Nat.le_of_ble_eq_true rfl), (Nat.le_of_ble_eq_true rfl)⟩ [0, 1] [] rfl rfl rfl rfl (by decide) rfl 0 rfl rfl rfl (Nat.le_of_ble_eq_true rfl) dX9_victimBy_17 ⟨(Nat.le_of_ble_eq_true rfl), (Nat.le_of_ble_eq_true rfl)⟩ (fun r_92 ut_93 H locs hw_94 hP hD hS => ?_)
  have hP : va_P D vwCl [(md, .inr (9, [.int th, .ref m_all, .ref m_deeds, .ref m_trial, .int dm, .ref m_hasImage, .ref m_tape, .ref m_key, .ref m_answered, .int 0, .int 0, .int 0, .ref m_goes, .int sw, .ref m_hotOnes, .ref m_indexed, .ref m_isChanged, .int 0, .ref m_valueNow, .int 0, .int (-1), .int 0, .ref m_didSome, .ref m_sizes, .ref m_ends])), (m_all, aI cs 51207 f_m_all)] H := hP
  have hD : va_D A [(md, .inr (9, [.int th, .ref m_all, .ref m_deeds, .ref m_trial, .int dm, .ref m_hasImage, .ref m_tape, .ref m_key, .ref m_answered, .int 0, .int 0, .int 0, .ref m_goes, .int sw, .ref m_hotOnes, .ref m_indexed, .ref m_isChanged, .int 0, .ref m_valueNow, .int 0, .int (-1), .int 0, .ref m_didSome, .ref m_sizes, .ref m_ends])), (m_all, aI cs 51207 f_m_all)] := hD
  have er_95 := hw_94
  subst er_95
  refine lv_istore (lv' := [(5, .int 0), (4, .int 15), (3, .int 0), (2, .int (-1)), (0, .ref md), (1, .int x)]) hx hb dX9_victimBy_20 hl (by decide) rfl (fun ls hl => ?_)
  refine lv_iload hx hb dX9_victimBy_22 (lv_at hl 0 rfl) ?_
  refine lv_if_ne (tgt := 30) hx hb dX9_victimBy_24 (by decide) (fun c_96 => absurd (by decide) c_96) (fun c_96 => ?_)
  refine lv_goto (tgt := 87) hx hb dX9_victimBy_27 (by decide) ?_
  refine lv_iinc (v := 16) (lv' := [(4, .int 16), (5, .int 0), (3, .int 0), (2, .int (-1)), (0, .ref md), (1, .int x)]) hx hb dX9_victimBy_87 hl (k := 1) rfl (by decide) (by decide) rfl (fun ls hl => ?_)
  refine lv_goto (tgt := 7) hx hb dX9_victimBy_90 (by decide) ?_
  refine lv_iload hx hb dX9_victimBy_7 (lv_at hl 0 rfl) ?_
  refine lv_bipush (v := 24) hx hb dX9_victimBy_9 (by decide) ?_
  refine lv_icmp_ge (tgt := 93) hx hb dX9_victimBy_11 (by decide) (fun c_97 => absurd c_97 (by decide)) (fun c_97 => ?_)
  refine lv_aload_n hx hb dX9_victimBy_14 rfl (lv_at hl 4 rfl) ?_
  refine lv_iload hx hb dX9_victimBy_15 (lv_at hl 0 rfl) ?_
  refine kV_i (ci := 9) (As := [.int 16]) (rest := []) (wc := [(md, .inr (9, [.int th, .ref m_all, .ref m_deeds, .ref m_trial, .int dm, .ref m_hasImage, .ref m_tape, .ref m_key, .ref m_answered, .int 0, .int 0, .int 0, .ref m_goes, .int sw, .ref m_hotOnes, .ref m_indexed, .ref m_isChanged, .int 0, .ref m_valueNow, .int 0, .int (-1), .int 0, .ref m_didSome, .ref m_sizes, .ref m_ends])), (m_all, aI cs 51207 f_m_all)]) (wr := []) hx hb hml hown hu hK hP hD hS hA hl.1 (c_X9_deadOn l D cs H.size 16 md m_all f_m_all m_deeds m_trial m_hasImage m_tape m_key m_answered m_goes m_hotOnes m_indexed m_isChanged m_valueNow m_didSome m_sizes m_ends dm th sw z_all (by first | decide | grind)) (gV u_1200 u_1202 u_16 u_76 u_1203) hd_X9_deadOn ⟨(Nat.le_of_ble_eq_true rfl), (Nat.le_of_ble_eq_true rfl)⟩ [0, 1] [] rfl rfl rfl rfl (by decide) rfl 0 rfl rfl rfl (Nat.le_of_ble_eq_true rfl) dX9_victimBy_17 ⟨(Nat.le_of_ble_eq_true rfl), (Nat.le_of_ble_eq_true rfl)⟩ (fun r_98 ut_99 H locs hw_100 hP hD hS => ?_)
  have hP : va_P D vwCl [(md, .inr (9, [.int th, .ref m_all, .ref m_deeds, .ref m_trial, .int dm, .ref m_hasImage, .ref m_tape, .ref m_key, .ref m_answered, .int 0, .int 0, .int 0, .ref m_goes, .int sw, .ref m_hotOnes, .ref m_indexed, .ref m_isChanged, .int 0, .ref m_valueNow, .int 0, .int (-1), .int 0, .ref m_didSome, .ref m_sizes, .ref m_ends])), (m_all, aI cs 51207 f_m_all)] H := hP
  have hD : va_D A [(md, .inr (9, [.int th, .ref m_all, .ref m_deeds, .ref m_trial, .int dm, .ref m_hasImage, .ref m_tape, .ref m_key, .ref m_answered, .int 0, .int 0, .int 0, .ref m_goes, .int sw, .ref m_hotOnes, .ref m_indexed, .ref m_isChanged, .int 0, .ref m_valueNow, .int 0, .int (-1), .int 0, .ref m_didSome, .ref m_sizes, .ref m_ends])), (m_all, aI cs 51207 f_m_all)] := hD
  have er_101 := hw_100
  subst er_101
  refine lv_istore (lv' := [(5, .int 0), (4, .int 16), (3, .int 0), (2, .int (-1)), (0, .ref md), (1, .int x)]) hx hb dX9_victimBy_20 hl (by decide) rfl (fun ls hl => ?_)
  refine lv_iload hx hb dX9_victimBy_22 (lv_at hl 0 rfl) ?_
  refine lv_if_ne (tgt := 30) hx hb dX9_victimBy_24 (by decide) (fun c_102 => absurd (by decide) c_102) (fun c_102 => ?_)
  refine lv_goto (tgt := 87) hx hb dX9_victimBy_27 (by decide) ?_
  refine lv_iinc (v := 17) (lv' := [(4, .int 17), (5, .int 0), (3, .int 0), (2, .int (-1)), (0, .ref md), (1, .int x)]) hx hb dX9_victimBy_87 hl (k := 1) rfl (by decide) (by decide) rfl (fun ls hl => ?_)
  refine lv_goto (tgt := 7) hx hb dX9_victimBy_90 (by decide) ?_
  refine lv_iload hx hb dX9_victimBy_7 (lv_at hl 0 rfl) ?_
  refine lv_bipush (v := 24) hx hb dX9_victimBy_9 (by decide) ?_
  refine lv_icmp_ge (tgt := 93) hx hb dX9_victimBy_11 (by decide) (fun c_103 => absurd c_103 (by decide)) (fun c_103 => ?_)
  refine lv_aload_n hx hb dX9_victimBy_14 rfl (lv_at hl 4 rfl) ?_
  refine lv_iload hx hb dX9_victimBy_15 (lv_at hl 0 rfl) ?_
  refine kV_i (ci := 9) (As := [.int 17]) (rest := []) (wc := [(md, .inr (9, [.int th, .ref m_all, .ref m_deeds, .ref m_trial, .int dm, .ref m_hasImage, .ref m_tape, .ref m_key, .ref m_answered, .int 0, .int 0, .int 0, .ref m_goes, .int sw, .ref m_hotOnes, .ref m_indexed, .ref m_isChanged, .int 0, .ref m_valueNow, .int 0, .int (-1), .int 0, .ref m_didSome, .ref m_sizes, .ref m_ends])), (m_all, aI cs 51207 f_m_all)]) (wr := []) hx hb hml hown hu hK hP hD hS hA hl.1 (c_X9_deadOn l D cs H.size 17 md m_all f_m_all m_deeds m_trial m_hasImage m_tape m_key m_answered m_goes m_hotOnes m_indexed m_isChanged m_valueNow m_didSome m_sizes m_ends dm th sw z_all (by first | decide | grind)) (gV u_1200 u_1202 u_16 u_76 u_1203) hd_X9_deadOn ⟨(Nat.le_of_ble_eq_true rfl), (Nat.le_of_ble_eq_true rfl)⟩ [0, 1] [] rfl rfl rfl rfl (by decide) rfl 0 rfl rfl rfl (Nat.le_of_ble_eq_true rfl) dX9_victimBy_17 ⟨(Nat.le_of_ble_eq_true rfl), (Nat.le_of_ble_eq_true rfl)⟩ (fun r_104 ut_105 H locs hw_106 hP hD hS => ?_)
  have hP : va_P D vwCl [(md, .inr (9, [.int th, .ref m_all, .ref m_deeds, .ref m_trial, .int dm, .ref m_hasImage, .ref m_tape, .ref m_key, .ref m_answered, .int 0, .int 0, .int 0, .ref m_goes, .int sw, .ref m_hotOnes, .ref m_indexed, .ref m_isChanged, .int 0, .ref m_valueNow, .int 0, .int (-1), .int 0, .ref m_didSome, .ref m_sizes, .ref m_ends])), (m_all, aI cs 51207 f_m_all)] H := hP
  have hD : va_D A [(md, .inr (9, [.int th, .ref m_all, .ref m_deeds, .ref m_trial, .int dm, .ref m_hasImage, .ref m_tape, .ref m_key, .ref m_answered, .int 0, .int 0, .int 0, .ref m_goes, .int sw, .ref m_hotOnes, .ref m_indexed, .ref m_isChanged, .int 0, .ref m_valueNow, .int 0, .int (-1), .int 0, .ref m_didSome, .ref m_sizes, .ref m_ends])), (m_all, aI cs 51207 f_m_all)] := hD
  have er_107 := hw_106
  subst er_107
  refine lv_istore (lv' := [(5, .int 0), (4, .int 17), (3, .int 0), (2, .int (-1)), (0, .ref md), (1, .int x)]) hx hb dX9_victimBy_20 hl (by decide) rfl (fun ls hl => ?_)
  refine lv_iload hx hb dX9_victimBy_22 (lv_at hl 0 rfl) ?_
  refine lv_if_ne (tgt := 30) hx hb dX9_victimBy_24 (by decide) (fun c_108 => absurd (by decide) c_108) (fun c_108 => ?_)
  refine lv_goto (tgt := 87) hx hb dX9_victimBy_27 (by decide) ?_
  refine lv_iinc (v := 18) (lv' := [(4, .int 18), (5, .int 0), (3, .int 0), (2, .int (-1)), (0, .ref md), (1, .int x)]) hx hb dX9_victimBy_87 hl (k := 1) rfl (by decide) (by decide) rfl (fun ls hl => ?_)
  refine lv_goto (tgt := 7) hx hb dX9_victimBy_90 (by decide) ?_
  refine lv_iload hx hb dX9_victimBy_7 (lv_at hl 0 rfl) ?_
  refine lv_bipush (v := 24) hx hb dX9_victimBy_9 (by decide) ?_
  refine lv_icmp_ge (tgt := 93) hx hb dX9_victimBy_11 (by decide) (fun c_109 => absurd c_109 (by decide)) (fun c_109 => ?_)
  refine lv_aload_n hx hb dX9_victimBy_14 rfl (lv_at hl 4 rfl) ?_
  refine lv_iload hx hb dX9_victimBy_15 (lv_at hl 0 rfl) ?_
  refine kV_i (ci := 9) (As := [.int 18]) (rest := []) (wc := [(md, .inr (9, [.int th, .ref m_all, .ref m_deeds, .ref m_trial, .int dm, .ref m_hasImage, .ref m_tape, .ref m_key, .ref m_answered, .int 0, .int 0, .int 0, .ref m_goes, .int sw, .ref m_hotOnes, .ref m_indexed, .ref m_isChanged, .int 0, .ref m_valueNow, .int 0, .int (-1), .int 0, .ref m_didSome, .ref m_sizes, .ref m_ends])), (m_all, aI cs 51207 f_m_all)]) (wr := []) hx hb hml hown hu hK hP hD hS hA hl.1 (c_X9_deadOn l D cs H.size 18 md m_all f_m_all m_deeds m_trial m_hasImage m_tape m_key m_answered m_goes m_hotOnes m_indexed m_isChanged m_valueNow m_didSome m_sizes m_ends dm th sw z_all (by first | decide | grind)) (gV u_1200 u_1202 u_16 u_76 u_1203) hd_X9_deadOn ⟨(Nat.le_of_ble_eq_true rfl), (Nat.le_of_ble_eq_true rfl)⟩ [0, 1] [] rfl rfl rfl rfl (by decide) rfl 0 rfl rfl rfl (Nat.le_of_ble_eq_true rfl) dX9_victimBy_17 ⟨(Nat.le_of_ble_eq_true rfl), (Nat.le_of_ble_eq_true rfl)⟩ (fun r_110 ut_111 H locs hw_112 hP hD hS => ?_)
  have hP : va_P D vwCl [(md, .inr (9, [.int th, .ref m_all, .ref m_deeds, .ref m_trial, .int dm, .ref m_hasImage, .ref m_tape, .ref m_key, .ref m_answered, .int 0, .int 0, .int 0, .ref m_goes, .int sw, .ref m_hotOnes, .ref m_indexed, .ref m_isChanged, .int 0, .ref m_valueNow, .int 0, .int (-1), .int 0, .ref m_didSome, .ref m_sizes, .ref m_ends])), (m_all, aI cs 51207 f_m_all)] H := hP
  have hD : va_D A [(md, .inr (9, [.int th, .ref m_all, .ref m_deeds, .ref m_trial, .int dm, .ref m_hasImage, .ref m_tape, .ref m_key, .ref m_answered, .int 0, .int 0, .int 0, .ref m_goes, .int sw, .ref m_hotOnes, .ref m_indexed, .ref m_isChanged, .int 0, .ref m_valueNow, .int 0, .int (-1), .int 0, .ref m_didSome, .ref m_sizes, .ref m_ends])), (m_all, aI cs 51207 f_m_all)] := hD
  have er_113 := hw_112
  subst er_113
  refine lv_istore (lv' := [(5, .int 0), (4, .int 18), (3, .int 0), (2, .int (-1)), (0, .ref md), (1, .int x)]) hx hb dX9_victimBy_20 hl (by decide) rfl (fun ls hl => ?_)
  refine lv_iload hx hb dX9_victimBy_22 (lv_at hl 0 rfl) ?_
  refine lv_if_ne (tgt := 30) hx hb dX9_victimBy_24 (by decide) (fun c_114 => absurd (by decide) c_114) (fun c_114 => ?_)
  refine lv_goto (tgt := 87) hx hb dX9_victimBy_27 (by decide) ?_
  refine lv_iinc (v := 19) (lv' := [(4, .int 19), (5, .int 0), (3, .int 0), (2, .int (-1)), (0, .ref md), (1, .int x)]) hx hb dX9_victimBy_87 hl (k := 1) rfl (by decide) (by decide) rfl (fun ls hl => ?_)
  refine lv_goto (tgt := 7) hx hb dX9_victimBy_90 (by decide) ?_
  refine lv_iload hx hb dX9_victimBy_7 (lv_at hl 0 rfl) ?_
  refine lv_bipush (v := 24) hx hb dX9_victimBy_9 (by decide) ?_
  refine lv_icmp_ge (tgt := 93) hx hb dX9_victimBy_11 (by decide) (fun c_115 => absurd c_115 (by decide)) (fun c_115 => ?_)
  refine lv_aload_n hx hb dX9_victimBy_14 rfl (lv_at hl 4 rfl) ?_
  refine lv_iload hx hb dX9_victimBy_15 (lv_at hl 0 rfl) ?_
  refine kV_i (ci := 9) (As := [.int 19]) (rest := []) (wc := [(md, .inr (9, [.int th, .ref m_all, .ref m_deeds, .ref m_trial, .int dm, .ref m_hasImage, .ref m_tape, .ref m_key, .ref m_answered, .int 0, .int 0, .int 0, .ref m_goes, .int sw, .ref m_hotOnes, .ref m_indexed, .ref m_isChanged, .int 0, .ref m_valueNow, .int 0, .int (-1), .int 0, .ref m_didSome, .ref m_sizes, .ref m_ends])), (m_all, aI cs 51207 f_m_all)]) (wr := []) hx hb hml hown hu hK hP hD hS hA hl.1 (c_X9_deadOn l D cs H.size 19 md m_all f_m_all m_deeds m_trial m_hasImage m_tape m_key m_answered m_goes m_hotOnes m_indexed m_isChanged m_valueNow m_didSome m_sizes m_ends dm th sw z_all (by first | decide | grind)) (gV u_1200 u_1202 u_16 u_76 u_1203) hd_X9_deadOn ⟨(Nat.le_of_ble_eq_true rfl), (Nat.le_of_ble_eq_true rfl)⟩ [0, 1] [] rfl rfl rfl rfl (by decide) rfl 0 rfl rfl rfl (Nat.le_of_ble_eq_true rfl) dX9_victimBy_17 ⟨(Nat.le_of_ble_eq_true rfl), (Nat.le_of_ble_eq_true rfl)⟩ (fun r_116 ut_117 H locs hw_118 hP hD hS => ?_)
  have hP : va_P D vwCl [(md, .inr (9, [.int th, .ref m_all, .ref m_deeds, .ref m_trial, .int dm, .ref m_hasImage, .ref m_tape, .ref m_key, .ref m_answered, .int 0, .int 0, .int 0, .ref m_goes, .int sw, .ref m_hotOnes, .ref m_indexed, .ref m_isChanged, .int 0, .ref m_valueNow, .int 0, .int (-1), .int 0, .ref m_didSome, .ref m_sizes, .ref m_ends])), (m_all, aI cs 51207 f_m_all)] H := hP
  have hD : va_D A [(md, .inr (9, [.int th, .ref m_all, .ref m_deeds, .ref m_trial, .int dm, .ref m_hasImage, .ref m_tape, .ref m_key, .ref m_answered, .int 0, .int 0, .int 0, .ref m_goes, .int sw, .ref m_hotOnes, .ref m_indexed, .ref m_isChanged, .int 0, .ref m_valueNow, .int 0, .int (-1), .int 0, .ref m_didSome, .ref m_sizes, .ref m_ends])), (m_all, aI cs 51207 f_m_all)] := hD
  have er_119 := hw_118
  subst er_119
  refine lv_istore (lv' := [(5, .int 0), (4, .int 19), (3, .int 0), (2, .int (-1)), (0, .ref md), (1, .int x)]) hx hb dX9_victimBy_20 hl (by decide) rfl (fun ls hl => ?_)
  refine lv_iload hx hb dX9_victimBy_22 (lv_at hl 0 rfl) ?_
  refine lv_if_ne (tgt := 30) hx hb dX9_victimBy_24 (by decide) (fun c_120 => absurd (by decide) c_120) (fun c_120 => ?_)
  refine lv_goto (tgt := 87) hx hb dX9_victimBy_27 (by decide) ?_
  refine lv_iinc (v := 20) (lv' := [(4, .int 20), (5, .int 0), (3, .int 0), (2, .int (-1)), (0, .ref md), (1, .int x)]) hx hb dX9_victimBy_87 hl (k := 1) rfl (by decide) (by decide) rfl (fun ls hl => ?_)
  refine lv_goto (tgt := 7) hx hb dX9_victimBy_90 (by decide) ?_
  refine lv_iload hx hb dX9_victimBy_7 (lv_at hl 0 rfl) ?_
  refine lv_bipush (v := 24) hx hb dX9_victimBy_9 (by decide) ?_
  refine lv_icmp_ge (tgt := 93) hx hb dX9_victimBy_11 (by decide) (fun c_121 => absurd c_121 (by decide)) (fun c_121 => ?_)
  refine lv_aload_n hx hb dX9_victimBy_14 rfl (lv_at hl 4 rfl) ?_
  refine lv_iload hx hb dX9_victimBy_15 (lv_at hl 0 rfl) ?_
  refine kV_i (ci := 9) (As := [.int 20]) (rest := []) (wc := [(md, .inr (9, [.int th, .ref m_all, .ref m_deeds, .ref m_trial, .int dm, .ref m_hasImage, .ref m_tape, .ref m_key, .ref m_answered, .int 0, .int 0, .int 0, .ref m_goes, .int sw, .ref m_hotOnes, .ref m_indexed, .ref m_isChanged, .int 0, .ref m_valueNow, .int 0, .int (-1), .int 0, .ref m_didSome, .ref m_sizes, .ref m_ends])), (m_all, aI cs 51207 f_m_all)]) (wr := []) hx hb hml hown hu hK hP hD hS hA hl.1 (c_X9_deadOn l D cs H.size 20 md m_all f_m_all m_deeds m_trial m_hasImage m_tape m_key m_answered m_goes m_hotOnes m_indexed m_isChanged m_valueNow m_didSome m_sizes m_ends dm th sw z_all (by first | decide | grind)) (gV u_1200 u_1202 u_16 u_76 u_1203) hd_X9_deadOn ⟨(Nat.le_of_ble_eq_true rfl), (Nat.le_of_ble_eq_true rfl)⟩ [0, 1] [] rfl rfl rfl rfl (by decide) rfl 0 rfl rfl rfl (Nat.le_of_ble_eq_true rfl) dX9_victimBy_17 ⟨(Nat.le_of_ble_eq_true rfl), (Nat.le_of_ble_eq_true rfl)⟩ (fun r_122 ut_123 H locs hw_124 hP hD hS => ?_)
  have hP : va_P D vwCl [(md, .inr (9, [.int th, .ref m_all, .ref m_deeds, .ref m_trial, .int dm, .ref m_hasImage, .ref m_tape, .ref m_key, .ref m_answered, .int 0, .int 0, .int 0, .ref m_goes, .int sw, .ref m_hotOnes, .ref m_indexed, .ref m_isChanged, .int 0, .ref m_valueNow, .int 0, .int (-1), .int 0, .ref m_didSome, .ref m_sizes, .ref m_ends])), (m_all, aI cs 51207 f_m_all)] H := hP
  have hD : va_D A [(md, .inr (9, [.int th, .ref m_all, .ref m_deeds, .ref m_trial, .int dm, .ref m_hasImage, .ref m_tape, .ref m_key, .ref m_answered, .int 0, .int 0, .int 0, .ref m_goes, .int sw, .ref m_hotOnes, .ref m_indexed, .ref m_isChanged, .int 0, .ref m_valueNow, .int 0, .int (-1), .int 0, .ref m_didSome, .ref m_sizes, .ref m_ends])), (m_all, aI cs 51207 f_m_all)] := hD
  have er_125 := hw_124
  subst er_125
  refine lv_istore (lv' := [(5, .int 0), (4, .int 20), (3, .int 0), (2, .int (-1)), (0, .ref md), (1, .int x)]) hx hb dX9_victimBy_20 hl (by decide) rfl (fun ls hl => ?_)
  refine lv_iload hx hb dX9_victimBy_22 (lv_at hl 0 rfl) ?_
  refine lv_if_ne (tgt := 30) hx hb dX9_victimBy_24 (by decide) (fun c_126 => absurd (by decide) c_126) (fun c_126 => ?_)
  refine lv_goto (tgt := 87) hx hb dX9_victimBy_27 (by decide) ?_
  refine lv_iinc (v := 21) (lv' := [(4, .int 21), (5, .int 0), (3, .int 0), (2, .int (-1)), (0, .ref md), (1, .int x)]) hx hb dX9_victimBy_87 hl (k := 1) rfl (by decide) (by decide) rfl (fun ls hl => ?_)
  refine lv_goto (tgt := 7) hx hb dX9_victimBy_90 (by decide) ?_
  refine lv_iload hx hb dX9_victimBy_7 (lv_at hl 0 rfl) ?_
  refine lv_bipush (v := 24) hx hb dX9_victimBy_9 (by decide) ?_
  refine lv_icmp_ge (tgt := 93) hx hb dX9_victimBy_11 (by decide) (fun c_127 => absurd c_127 (by decide)) (fun c_127 => ?_)
  refine lv_aload_n hx hb dX9_victimBy_14 rfl (lv_at hl 4 rfl) ?_
  refine lv_iload hx hb dX9_victimBy_15 (lv_at hl 0 rfl) ?_
  refine kV_i (ci := 9) (As := [.int 21]) (rest := []) (wc := [(md, .inr (9, [.int th, .ref m_all, .ref m_deeds, .ref m_trial, .int dm, .ref m_hasImage, .ref m_tape, .ref m_key, .ref m_answered, .int 0, .int 0, .int 0, .ref m_goes, .int sw, .ref m_hotOnes, .ref m_indexed, .ref m_isChanged, .int 0, .ref m_valueNow, .int 0, .int (-1), .int 0, .ref m_didSome, .ref m_sizes, .ref m_ends])), (m_all, aI cs 51207 f_m_all)]) (wr := []) hx hb hml hown hu hK hP hD hS hA hl.1 (c_X9_deadOn l D cs H.size 21 md m_all f_m_all m_deeds m_trial m_hasImage m_tape m_key m_answered m_goes m_hotOnes m_indexed m_isChanged m_valueNow m_didSome m_sizes m_ends dm th sw z_all (by first | decide | grind)) (gV u_1200 u_1202 u_16 u_76 u_1203) hd_X9_deadOn ⟨(Nat.le_of_ble_eq_true rfl), (Nat.le_of_ble_eq_true rfl)⟩ [0, 1] [] rfl rfl rfl rfl (by decide) rfl 0 rfl rfl rfl (Nat.le_of_ble_eq_true rfl) dX9_victimBy_17 ⟨(Nat.le_of_ble_eq_true rfl), (Nat.le_of_ble_eq_true rfl)⟩ (fun r_128 ut_129 H locs hw_130 hP hD hS => ?_)
  have hP : va_P D vwCl [(md, .inr (9, [.int th, .ref m_all, .ref m_deeds, .ref m_trial, .int dm, .ref m_hasImage, .ref m_tape, .ref m_key, .ref m_answered, .int 0, .int 0, .int 0, .ref m_goes, .int sw, .ref m_hotOnes, .ref m_indexed, .ref m_isChanged, .int 0, .ref m_valueNow, .int 0, .int (-1), .int 0, .ref m_didSome, .ref m_sizes, .ref m_ends])), (m_all, aI cs 51207 f_m_all)] H := hP
  have hD : va_D A [(md, .inr (9, [.int th, .ref m_all, .ref m_deeds, .ref m_trial, .int dm, .ref m_hasImage, .ref m_tape, .ref m_key, .ref m_answered, .int 0, .int 0, .int 0, .ref m_goes, .int sw, .ref m_hotOnes, .ref m_indexed, .ref m_isChanged, .int 0, .ref m_valueNow, .int 0, .int (-1), .int 0, .ref m_didSome, .ref m_sizes, .ref m_ends])), (m_all, aI cs 51207 f_m_all)] := hD
  have er_131 := hw_130
  subst er_131
  refine lv_istore (lv' := [(5, .int 0), (4, .int 21), (3, .int 0), (2, .int (-1)), (0, .ref md), (1, .int x)]) hx hb dX9_victimBy_20 hl (by decide) rfl (fun ls hl => ?_)
  refine lv_iload hx hb dX9_victimBy_22 (lv_at hl 0 rfl) ?_
  refine lv_if_ne (tgt := 30) hx hb dX9_victimBy_24 (by decide) (fun c_132 => absurd (by decide) c_132) (fun c_132 => ?_)
  refine lv_goto (tgt := 87) hx hb dX9_victimBy_27 (by decide) ?_
  refine lv_iinc (v := 22) (lv' := [(4, .int 22), (5, .int 0), (3, .int 0), (2, .int (-1)), (0, .ref md), (1, .int x)]) hx hb dX9_victimBy_87 hl (k := 1) rfl (by decide) (by decide) rfl (fun ls hl => ?_)
  refine lv_goto (tgt := 7) hx hb dX9_victimBy_90 (by decide) ?_
  refine lv_iload hx hb dX9_victimBy_7 (lv_at hl 0 rfl) ?_
  refine lv_bipush (v := 24) hx hb dX9_victimBy_9 (by decide) ?_
  refine lv_icmp_ge (tgt := 93) hx hb dX9_victimBy_11 (by decide) (fun c_133 => absurd c_133 (by decide)) (fun c_133 => ?_)
  refine lv_aload_n hx hb dX9_victimBy_14 rfl (lv_at hl 4 rfl) ?_
  refine lv_iload hx hb dX9_victimBy_15 (lv_at hl 0 rfl) ?_
  refine kV_i (ci := 9) (As := [.int 22]) (rest := []) (wc := [(md, .inr (9, [.int th, .ref m_all, .ref m_deeds, .ref m_trial, .int dm, .ref m_hasImage, .ref m_tape, .ref m_key, .ref m_answered, .int 0, .int 0, .int 0, .ref m_goes, .int sw, .ref m_hotOnes, .ref m_indexed, .ref m_isChanged, .int 0, .ref m_valueNow, .int 0, .int (-1), .int 0, .ref m_didSome, .ref m_sizes, .ref m_ends])), (m_all, aI cs 51207 f_m_all)]) (wr := []) hx hb hml hown hu hK hP hD hS hA hl.1 (c_X9_deadOn l D cs H.size 22 md m_all f_m_all m_deeds m_trial m_hasImage m_tape m_key m_answered m_goes m_hotOnes m_indexed m_isChanged m_valueNow m_didSome m_sizes m_ends dm th sw z_all (by first | decide | grind)) (gV u_1200 u_1202 u_16 u_76 u_1203) hd_X9_deadOn ⟨(Nat.le_of_ble_eq_true rfl), (Nat.le_of_ble_eq_true rfl)⟩ [0, 1] [] rfl rfl rfl rfl (by decide) rfl 0 rfl rfl rfl (Nat.le_of_ble_eq_true rfl) dX9_victimBy_17 ⟨(Nat.le_of_ble_eq_true rfl), (Nat.le_of_ble_eq_true rfl)⟩ (fun r_134 ut_135 H locs hw_136 hP hD hS => ?_)
  have hP : va_P D vwCl [(md, .inr (9, [.int th, .ref m_all, .ref m_deeds, .ref m_trial, .int dm, .ref m_hasImage, .ref m_tape, .ref m_key, .ref m_answered, .int 0, .int 0, .int 0, .ref m_goes, .int sw, .ref m_hotOnes, .ref m_indexed, .ref m_isChanged, .int 0, .ref m_valueNow, .int 0, .int (-1), .int 0, .ref m_didSome, .ref m_sizes, .ref m_ends])), (m_all, aI cs 51207 f_m_all)] H := hP
  have hD : va_D A [(md, .inr (9, [.int th, .ref m_all, .ref m_deeds, .ref m_trial, .int dm, .ref m_hasImage, .ref m_tape, .ref m_key, .ref m_answered, .int 0, .int 0, .int 0, .ref m_goes, .int sw, .ref m_hotOnes, .ref m_indexed, .ref m_isChanged, .int 0, .ref m_valueNow, .int 0, .int (-1), .int 0, .ref m_didSome, .ref m_sizes, .ref m_ends])), (m_all, aI cs 51207 f_m_all)] := hD
  have er_137 := hw_136
  subst er_137
  refine lv_istore (lv' := [(5, .int 0), (4, .int 22), (3, .int 0), (2, .int (-1)), (0, .ref md), (1, .int x)]) hx hb dX9_victimBy_20 hl (by decide) rfl (fun ls hl => ?_)
  refine lv_iload hx hb dX9_victimBy_22 (lv_at hl 0 rfl) ?_
  refine lv_if_ne (tgt := 30) hx hb dX9_victimBy_24 (by decide) (fun c_138 => absurd (by decide) c_138) (fun c_138 => ?_)
  refine lv_goto (tgt := 87) hx hb dX9_victimBy_27 (by decide) ?_
  refine lv_iinc (v := 23) (lv' := [(4, .int 23), (5, .int 0), (3, .int 0), (2, .int (-1)), (0, .ref md), (1, .int x)]) hx hb dX9_victimBy_87 hl (k := 1) rfl (by decide) (by decide) rfl (fun ls hl => ?_)
  refine lv_goto (tgt := 7) hx hb dX9_victimBy_90 (by decide) ?_
  refine lv_iload hx hb dX9_victimBy_7 (lv_at hl 0 rfl) ?_
  refine lv_bipush (v := 24) hx hb dX9_victimBy_9 (by decide) ?_
  refine lv_icmp_ge (tgt := 93) hx hb dX9_victimBy_11 (by decide) (fun c_139 => absurd c_139 (by decide)) (fun c_139 => ?_)
  refine lv_aload_n hx hb dX9_victimBy_14 rfl (lv_at hl 4 rfl) ?_
  refine lv_iload hx hb dX9_victimBy_15 (lv_at hl 0 rfl) ?_
  refine kV_i (ci := 9) (As := [.int 23]) (rest := []) (wc := [(md, .inr (9, [.int th, .ref m_all, .ref m_deeds, .ref m_trial, .int dm, .ref m_hasImage, .ref m_tape, .ref m_key, .ref m_answered, .int 0, .int 0, .int 0, .ref m_goes, .int sw, .ref m_hotOnes, .ref m_indexed, .ref m_isChanged, .int 0, .ref m_valueNow, .int 0, .int (-1), .int 0, .ref m_didSome, .ref m_sizes, .ref m_ends])), (m_all, aI cs 51207 f_m_all)]) (wr := []) hx hb hml hown hu hK hP hD hS hA hl.1 (c_X9_deadOn l D cs H.size 23 md m_all f_m_all m_deeds m_trial m_hasImage m_tape m_key m_answered m_goes m_hotOnes m_indexed m_isChanged m_valueNow m_didSome m_sizes m_ends dm th sw z_all (by first | decide | grind)) (gV u_1200 u_1202 u_16 u_76 u_1203) hd_X9_deadOn ⟨(Nat.le_of_ble_eq_true rfl), (Nat.le_of_ble_eq_true rfl)⟩ [0, 1] [] rfl rfl rfl rfl (by decide) rfl 0 rfl rfl rfl (Nat.le_of_ble_eq_true rfl) dX9_victimBy_17 ⟨(Nat.le_of_ble_eq_true rfl), (Nat.le_of_ble_eq_true rfl)⟩ (fun r_140 ut_141 H locs hw_142 hP hD hS => ?_)
  have hP : va_P D vwCl [(md, .inr (9, [.int th, .ref m_all, .ref m_deeds, .ref m_trial, .int dm, .ref m_hasImage, .ref m_tape, .ref m_key, .ref m_answered, .int 0, .int 0, .int 0, .ref m_goes, .int sw, .ref m_hotOnes, .ref m_indexed, .ref m_isChanged, .int 0, .ref m_valueNow, .int 0, .int (-1), .int 0, .ref m_didSome, .ref m_sizes, .ref m_ends])), (m_all, aI cs 51207 f_m_all)] H := hP
  have hD : va_D A [(md, .inr (9, [.int th, .ref m_all, .ref m_deeds, .ref m_trial, .int dm, .ref m_hasImage, .ref m_tape, .ref m_key, .ref m_answered, .int 0, .int 0, .int 0, .ref m_goes, .int sw, .ref m_hotOnes, .ref m_indexed, .ref m_isChanged, .int 0, .ref m_valueNow, .int 0, .int (-1), .int 0, .ref m_didSome, .ref m_sizes, .ref m_ends])), (m_all, aI cs 51207 f_m_all)] := hD
  have er_143 := hw_142
  subst er_143
  refine lv_istore (lv' := [(5, .int 0), (4, .int 23), (3, .int 0), (2, .int (-1)), (0, .ref md), (1, .int x)]) hx hb dX9_victimBy_20 hl (by decide) rfl (fun ls hl => ?_)
  refine lv_iload hx hb dX9_victimBy_22 (lv_at hl 0 rfl) ?_
  refine lv_if_ne (tgt := 30) hx hb dX9_victimBy_24 (by decide) (fun c_144 => absurd (by decide) c_144) (fun c_144 => ?_)
  refine lv_goto (tgt := 87) hx hb dX9_victimBy_27 (by decide) ?_
  refine lv_iinc (v := 24) (lv' := [(4, .int 24), (5, .int 0), (3, .int 0), (2, .int (-1)), (0, .ref md), (1, .int x)]) hx hb dX9_victimBy_87 hl (k := 1) rfl (by decide) (by decide) rfl (fun ls hl => ?_)
  refine lv_goto (tgt := 7) hx hb dX9_victimBy_90 (by decide) ?_
  refine lv_iload hx hb dX9_victimBy_7 (lv_at hl 0 rfl) ?_
  refine lv_bipush (v := 24) hx hb dX9_victimBy_9 (by decide) ?_
  refine lv_icmp_ge (tgt := 93) hx hb dX9_victimBy_11 (by decide) (fun c_145 => ?_) (fun c_145 => absurd (by decide) c_145)
  refine lv_iload_n hx hb dX9_victimBy_93 rfl (lv_at hl 3 rfl) ?_
  exact hz () hP hD hS rfl [0, 1] rfl rfl (Nat.le_of_ble_eq_true rfl) (Nat.le_of_ble_eq_true rfl) .int rfl rfl dX9_victimBy_94
abbrev rm_c_X9_momentOf : Room := { frames := 0, cells := 0, slots := 0, locals := 0 }
set_option maxHeartbeats 4000000 in
set_option maxRecDepth 100000 in
theorem c_X9_momentOf (l : Launch) (D : va_G) (cs : Nat → ClassId) (sz : Nat) (x : Int32) (md : Nat) (m_all : Nat) (f_m_all : Nat → Int32) (m_deeds : Nat) (m_trial : Nat) (m_hasImage : Nat) (m_tape : Nat) (m_key : Nat) (m_answered : Nat) (m_goes : Nat) (m_hotOnes : Nat) (m_indexed : Nat) (m_isChanged : Nat) (m_valueNow : Nat) (m_didSome : Nat) (m_sizes : Nat) (m_ends : Nat) (dm : Int32) (th : Int32) (sw : Int32) (z_all : ∀ j, j < 51207 → f_m_all j = AL j) (hr : ¬ x < 0 ∧ x < 3) : cMi l yX9_momentOf (Cond.code yX9_momentOf cX9_momentOf 2 (some .int)) (rm_c_X9_momentOf) D cs [.ref md, .int x] sz [(md, .inr (9, [.int th, .ref m_all, .ref m_deeds, .ref m_trial, .int dm, .ref m_hasImage, .ref m_tape, .ref m_key, .ref m_answered, .int 0, .int 0, .int 0, .ref m_goes, .int sw, .ref m_hotOnes, .ref m_indexed, .ref m_isChanged, .int 0, .ref m_valueNow, .int 0, .int (-1), .int 0, .ref m_didSome, .ref m_sizes, .ref m_ends])), (m_all, aI cs 51207 f_m_all)] (fun (r : Int32) (u : Unit) => (r = (-1))) (fun (u : Unit) => [(md, .inr (9, [.int th, .ref m_all, .ref m_deeds, .ref m_trial, .int dm, .ref m_hasImage, .ref m_tape, .ref m_key, .ref m_answered, .int 0, .int 0, .int 0, .ref m_goes, .int sw, .ref m_hotOnes, .ref m_indexed, .ref m_isChanged, .int 0, .ref m_valueNow, .int 0, .int (-1), .int 0, .ref m_didSome, .ref m_sizes, .ref m_ends])), (m_all, aI cs 51207 f_m_all)]) := by
  refine kMet_i RX9 (by decide) rfl (Nat.le_of_ble_eq_true rfl) ?_
  intro p e s m below meth c ls A Qz H locs hx hb hml hown hin hu hK hsz hA hP hD hS hl hz
  subst hsz
  have hl : lv_has ls 2 [(0, .ref md), (1, .int x)] := hl
  refine lv_aload_n hx hb dX9_momentOf_0 rfl (lv_at hl 0 rfl) ?_
  refine va_get (D := D) (ci := 9) (v := .ref m_all) (C := RX9) (T := TX9) (N := 25) hx hb hu in_X9 hown hK.1 hP 0 rfl rfl 1 (by decide) (hu _ u_1081) (fun _ h9 => h9) rfl dX9_momentOf_1 ?_
  refine lv_bipush (v := 59) hx hb dX9_momentOf_4 (by decide) ?_
  refine lv_bipush (v := 11) hx hb dX9_momentOf_6 (by decide) ?_
  refine lv_iload_n hx hb dX9_momentOf_8 rfl (lv_at hl 1 rfl) ?_
  refine lv_imul hx hb dX9_momentOf_9 ?_
  refine lv_iadd hx hb dX9_momentOf_10 ?_
  refine lv_iconst (v := 0) hx hb dX9_momentOf_11 (by decide) ?_
  refine lv_iadd hx hb dX9_momentOf_12 ?_
  refine tpi (y := 59 + (11 * x)) (i_add0 _) ?_
  refine va_iald hx hb hK.1 hP 1 0 rfl rfl (vin_of (N := 51207) (by grind) (by grind) rfl) dX9_momentOf_13 ?_
  refine tpi (y := (-1)) ((z_all _ (cl_lt (vin_of (N := 51207) (by grind) (by grind) rfl))).trans (AL_n _ (by grind))) ?_
  exact hz () hP hD hS rfl [0, 1] rfl rfl (Nat.le_of_ble_eq_true rfl) (Nat.le_of_ble_eq_true rfl) .int rfl rfl dX9_momentOf_14
abbrev rm_c_X9_isAt : Room := { frames := 1, cells := 0, slots := 0, locals := 25 }
set_option maxHeartbeats 4000000 in
set_option maxRecDepth 100000 in
theorem c_X9_isAt (l : Launch) (D : va_G) (cs : Nat → ClassId) (sz : Nat) (x : Int32)  : cMi l yX9_isAt (Cond.code yX9_isAt cX9_isAt 1 (some .boolean)) (rm_c_X9_isAt) D cs [.int x] sz [] (fun (r : Int32) (u : Unit) => ((r = 1) ∧ (-1 ≤ x ∧ x ≤ 3)) ∨ ((r = 0) ∧ (x < -1 ∨ 3 < x))) (fun (u : Unit) => []) := by
  refine kMet_i RX9 (by decide) rfl (Nat.le_of_ble_eq_true rfl) ?_
  intro p e s m below meth c ls A Qz H locs hx hb hml hown hin hu hK hsz hA hP hD hS hl hz
  subst hsz
  have hl : lv_has ls 1 [(0, .int x)] := hl
  refine lv_iload_n hx hb dX9_isAt_0 rfl (lv_at hl 0 rfl) ?_
  refine lv_i2l (v := x.toInt64) hx hb dX9_isAt_1 rfl ?_
  refine lv_ldc2 (v := (-1)) hx hb hown (hu _ u_1301) dX9_isAt_2 ?_
  refine lv_ldc2 (v := 3) hx hb hown (hu _ u_1302) dX9_isAt_5 ?_
  refine kS_i  (As := [.long x.toInt64, .long (-1), .long 3]) (rest := []) (wc := []) (wr := []) hx hb hml hown hu hK hP hD hS hA hl.1 (c_X9_within l D cs H.size x.toInt64 (-1) 3) (gS u_1164 u_1165 u_76 u_1166) hd_X9_within ⟨(Nat.le_of_ble_eq_true rfl), (Nat.le_of_ble_eq_true rfl)⟩ [] [] rfl rfl rfl rfl (by decide) rfl rfl (Nat.le_of_ble_eq_true rfl) dX9_isAt_8 ⟨(Nat.le_of_ble_eq_true rfl), (Nat.le_of_ble_eq_true rfl)⟩ (fun r_1 ut_2 H locs hw_3 hP hD hS => ?_)
  have hP : va_P D vwCl [] H := hP
  have hD : va_D A [] := hD
  rcases hw_3 with hw_3 | hw_3
  · obtain ⟨er_4, hf_5⟩ := hw_3
    have hf_6 : (-1) ≤ x ∧ x ≤ 3 := ⟨(w_le (d := (-1)) (x := x) (by decide)).mp hf_5.1, (w_ge (d := 3) (x := x) (by decide)).mp hf_5.2⟩
    subst er_4
    exact hz () hP hD hS (by grind) [] rfl rfl (Nat.le_of_ble_eq_true rfl) (Nat.le_of_ble_eq_true rfl) .boolean rfl rfl dX9_isAt_11
  · obtain ⟨er_7, hf_8⟩ := hw_3
    have hf_9 : ¬ ((-1) ≤ x ∧ x ≤ 3) := fun h => hf_8 ⟨(w_le (d := (-1)) (x := x) (by decide)).mpr h.1, (w_ge (d := 3) (x := x) (by decide)).mpr h.2⟩
    subst er_7
    exact hz () hP hD hS (by grind) [] rfl rfl (Nat.le_of_ble_eq_true rfl) (Nat.le_of_ble_eq_true rfl) .boolean rfl rfl dX9_isAt_11
abbrev rm_c_X9_momentAt : Room := { frames := 0, cells := 0, slots := 0, locals := 0 }
set_option maxHeartbeats 4000000 in
set_option maxRecDepth 100000 in
theorem c_X9_momentAt (l : Launch) (D : va_G) (cs : Nat → ClassId) (sz : Nat) (x : Int32) (md : Nat) (m_all : Nat) (f_m_all : Nat → Int32) (m_deeds : Nat) (m_trial : Nat) (m_hasImage : Nat) (m_tape : Nat) (m_key : Nat) (m_answered : Nat) (m_goes : Nat) (m_hotOnes : Nat) (m_indexed : Nat) (m_isChanged : Nat) (m_valueNow : Nat) (m_didSome : Nat) (m_sizes : Nat) (m_ends : Nat) (dm : Int32) (th : Int32) (sw : Int32) (z_all : ∀ j, j < 51207 → f_m_all j = AL j) (hr : -1 ≤ x ∧ x ≤ 3) : cMi l yX9_momentAt (Cond.code yX9_momentAt cX9_momentAt 2 (some .int)) (rm_c_X9_momentAt) D cs [.ref md, .int x] sz [(md, .inr (9, [.int th, .ref m_all, .ref m_deeds, .ref m_trial, .int dm, .ref m_hasImage, .ref m_tape, .ref m_key, .ref m_answered, .int 0, .int 0, .int 0, .ref m_goes, .int sw, .ref m_hotOnes, .ref m_indexed, .ref m_isChanged, .int 0, .ref m_valueNow, .int 0, .int (-1), .int 0, .ref m_didSome, .ref m_sizes, .ref m_ends])), (m_all, aI cs 51207 f_m_all)] (fun (r : Int32) (u : Unit) => ((r = 0) ∧ (x = -1)) ∨ ((r = (-6)) ∧ (¬ x = -1))) (fun (u : Unit) => [(md, .inr (9, [.int th, .ref m_all, .ref m_deeds, .ref m_trial, .int dm, .ref m_hasImage, .ref m_tape, .ref m_key, .ref m_answered, .int 0, .int 0, .int 0, .ref m_goes, .int sw, .ref m_hotOnes, .ref m_indexed, .ref m_isChanged, .int 0, .ref m_valueNow, .int 0, .int (-1), .int 0, .ref m_didSome, .ref m_sizes, .ref m_ends])), (m_all, aI cs 51207 f_m_all)]) := by
  refine kMet_i RX9 (by decide) rfl (Nat.le_of_ble_eq_true rfl) ?_
  intro p e s m below meth c ls A Qz H locs hx hb hml hown hin hu hK hsz hA hP hD hS hl hz
  subst hsz
  have hl : lv_has ls 2 [(0, .ref md), (1, .int x)] := hl
  refine lv_iload_n hx hb dX9_momentAt_0 rfl (lv_at hl 1 rfl) ?_
  refine lv_iconst (v := (-1)) hx hb dX9_momentAt_1 (by decide) ?_
  refine lv_icmp_ne (tgt := 14) hx hb dX9_momentAt_2 (by decide) (fun c_1 => ?_) (fun c_1 => ?_)
  · refine lv_aload_n hx hb dX9_momentAt_14 rfl (lv_at hl 0 rfl) ?_
    refine va_get (D := D) (ci := 9) (v := .ref m_all) (C := RX9) (T := TX9) (N := 25) hx hb hu in_X9 hown hK.1 hP 0 rfl rfl 1 (by decide) (hu _ u_1081) (fun _ h9 => h9) rfl dX9_momentAt_15 ?_
    refine lv_bipush (v := 55) hx hb dX9_momentAt_18 (by decide) ?_
    refine lv_iload_n hx hb dX9_momentAt_20 rfl (lv_at hl 1 rfl) ?_
    refine lv_iadd hx hb dX9_momentAt_21 ?_
    refine va_iald hx hb hK.1 hP 1 0 rfl rfl (vin_of (N := 51207) (by grind) (by grind) rfl) dX9_momentAt_22 ?_
    refine tpi (y := (-1)) ((z_all _ (cl_lt (vin_of (N := 51207) (by grind) (by grind) rfl))).trans (AL_n _ (by grind))) ?_
    refine lv_iconst (v := (-1)) hx hb dX9_momentAt_23 (by decide) ?_
    refine lv_icmp_ne (tgt := 32) hx hb dX9_momentAt_24 (by decide) (fun c_2 => absurd (by decide) c_2) (fun c_2 => ?_)
    refine lv_bipush (v := (-6)) hx hb dX9_momentAt_27 (by decide) ?_
    refine lv_goto (tgt := 41) hx hb dX9_momentAt_29 (by decide) ?_
    exact hz () hP hD hS (by grind) [0, 1] rfl rfl (Nat.le_of_ble_eq_true rfl) (Nat.le_of_ble_eq_true rfl) .int rfl rfl dX9_momentAt_41
  · refine lv_aload_n hx hb dX9_momentAt_5 rfl (lv_at hl 0 rfl) ?_
    refine va_get (D := D) (ci := 9) (v := .ref m_all) (C := RX9) (T := TX9) (N := 25) hx hb hu in_X9 hown hK.1 hP 0 rfl rfl 1 (by decide) (hu _ u_1081) (fun _ h9 => h9) rfl dX9_momentAt_6 ?_
    refine lv_iconst (v := 0) hx hb dX9_momentAt_9 (by decide) ?_
    refine va_iald hx hb hK.1 hP 1 0 rfl rfl (vin_c _ _ rfl) dX9_momentAt_10 ?_
    refine tpi (y := 0) ((z_all _ (cl_lt (vin_c _ _ rfl))).trans (by decide +kernel)) ?_
    refine lv_goto (tgt := 41) hx hb dX9_momentAt_11 (by decide) ?_
    exact hz () hP hD hS (by grind) [0, 1] rfl rfl (Nat.le_of_ble_eq_true rfl) (Nat.le_of_ble_eq_true rfl) .int rfl rfl dX9_momentAt_41
abbrev rm_c_X9_isKey : Room := { frames := 1, cells := 0, slots := 0, locals := 25 }
set_option maxHeartbeats 4000000 in
set_option maxRecDepth 100000 in
theorem c_X9_isKey (l : Launch) (D : va_G) (cs : Nat → ClassId) (sz : Nat) (x : Int32) (md : Nat) (m_all : Nat) (m_deeds : Nat) (m_trial : Nat) (m_hasImage : Nat) (m_tape : Nat) (m_key : Nat) (m_answered : Nat) (m_goes : Nat) (m_hotOnes : Nat) (m_indexed : Nat) (m_isChanged : Nat) (m_valueNow : Nat) (m_didSome : Nat) (m_sizes : Nat) (m_ends : Nat) (dm : Int32) (th : Int32) (sw : Int32)  : cMi l yX9_isKey (Cond.code yX9_isKey cX9_isKey 2 (some .boolean)) (rm_c_X9_isKey) D cs [.ref md, .int x] sz [(md, .inr (9, [.int th, .ref m_all, .ref m_deeds, .ref m_trial, .int dm, .ref m_hasImage, .ref m_tape, .ref m_key, .ref m_answered, .int 0, .int 0, .int 0, .ref m_goes, .int sw, .ref m_hotOnes, .ref m_indexed, .ref m_isChanged, .int 0, .ref m_valueNow, .int 0, .int (-1), .int 0, .ref m_didSome, .ref m_sizes, .ref m_ends]))] (fun (r : Int32) (u : Unit) => (r = 0)) (fun (u : Unit) => [(md, .inr (9, [.int th, .ref m_all, .ref m_deeds, .ref m_trial, .int dm, .ref m_hasImage, .ref m_tape, .ref m_key, .ref m_answered, .int 0, .int 0, .int 0, .ref m_goes, .int sw, .ref m_hotOnes, .ref m_indexed, .ref m_isChanged, .int 0, .ref m_valueNow, .int 0, .int (-1), .int 0, .ref m_didSome, .ref m_sizes, .ref m_ends]))]) := by
  refine kMet_i RX9 (by decide) rfl (Nat.le_of_ble_eq_true rfl) ?_
  intro p e s m below meth c ls A Qz H locs hx hb hml hown hin hu hK hsz hA hP hD hS hl hz
  subst hsz
  have hl : lv_has ls 2 [(0, .ref md), (1, .int x)] := hl
  refine lv_iload_n hx hb dX9_isKey_0 rfl (lv_at hl 1 rfl) ?_
  refine lv_i2l (v := x.toInt64) hx hb dX9_isKey_1 rfl ?_
  refine lv_lconst (v := 1) hx hb dX9_isKey_2 (by decide) ?_
  refine lv_ldc2 (v := 8) hx hb hown (hu _ u_1171) dX9_isKey_3 ?_
  refine kS_i  (As := [.long x.toInt64, .long 1, .long 8]) (rest := []) (wc := []) (wr := [(md, .inr (9, [.int th, .ref m_all, .ref m_deeds, .ref m_trial, .int dm, .ref m_hasImage, .ref m_tape, .ref m_key, .ref m_answered, .int 0, .int 0, .int 0, .ref m_goes, .int sw, .ref m_hotOnes, .ref m_indexed, .ref m_isChanged, .int 0, .ref m_valueNow, .int 0, .int (-1), .int 0, .ref m_didSome, .ref m_sizes, .ref m_ends]))]) hx hb hml hown hu hK hP hD hS hA hl.1 (c_X9_within l D cs H.size x.toInt64 1 8) (gS u_1164 u_1165 u_76 u_1166) hd_X9_within ⟨(Nat.le_of_ble_eq_true rfl), (Nat.le_of_ble_eq_true rfl)⟩ [] [0] rfl rfl rfl rfl (by decide) rfl rfl (Nat.le_of_ble_eq_true rfl) dX9_isKey_6 ⟨(Nat.le_of_ble_eq_true rfl), (Nat.le_of_ble_eq_true rfl)⟩ (fun r_1 ut_2 H locs hw_3 hP hD hS => ?_)
  have hP : va_P D vwCl [(md, .inr (9, [.int th, .ref m_all, .ref m_deeds, .ref m_trial, .int dm, .ref m_hasImage, .ref m_tape, .ref m_key, .ref m_answered, .int 0, .int 0, .int 0, .ref m_goes, .int sw, .ref m_hotOnes, .ref m_indexed, .ref m_isChanged, .int 0, .ref m_valueNow, .int 0, .int (-1), .int 0, .ref m_didSome, .ref m_sizes, .ref m_ends]))] H := hP
  have hD : va_D A [(md, .inr (9, [.int th, .ref m_all, .ref m_deeds, .ref m_trial, .int dm, .ref m_hasImage, .ref m_tape, .ref m_key, .ref m_answered, .int 0, .int 0, .int 0, .ref m_goes, .int sw, .ref m_hotOnes, .ref m_indexed, .ref m_isChanged, .int 0, .ref m_valueNow, .int 0, .int (-1), .int 0, .ref m_didSome, .ref m_sizes, .ref m_ends]))] := hD
  rcases hw_3 with hw_3 | hw_3
  · obtain ⟨er_4, hf_5⟩ := hw_3
    have hf_6 : 1 ≤ x ∧ x ≤ 8 := ⟨(w_le (d := 1) (x := x) (by decide)).mp hf_5.1, (w_ge (d := 8) (x := x) (by decide)).mp hf_5.2⟩
    subst er_4
    refine lv_if_eq (tgt := 24) hx hb dX9_isKey_9 (by decide) (fun c_7 => absurd c_7 (by decide)) (fun c_7 => ?_)
    refine lv_iload_n hx hb dX9_isKey_12 rfl (lv_at hl 1 rfl) ?_
    refine lv_aload_n hx hb dX9_isKey_13 rfl (lv_at hl 0 rfl) ?_
    refine va_get (D := D) (ci := 9) (v := .int 0) (C := RX9) (T := TX9) (N := 25) hx hb hu in_X9 hown hK.1 hP 0 rfl rfl 9 (by decide) (hu _ u_1089) (fun _ h9 => h9) rfl dX9_isKey_14 ?_
    refine lv_icmp_gt (tgt := 24) hx hb dX9_isKey_17 (by decide) (fun c_8 => ?_) (fun c_8 => absurd (by grind) c_8)
    refine lv_iconst (v := 0) hx hb dX9_isKey_24 (by decide) ?_
    exact hz () hP hD hS rfl [0] rfl rfl (Nat.le_of_ble_eq_true rfl) (Nat.le_of_ble_eq_true rfl) .boolean rfl rfl dX9_isKey_25
  · obtain ⟨er_9, hf_10⟩ := hw_3
    have hf_11 : ¬ (1 ≤ x ∧ x ≤ 8) := fun h => hf_10 ⟨(w_le (d := 1) (x := x) (by decide)).mpr h.1, (w_ge (d := 8) (x := x) (by decide)).mpr h.2⟩
    subst er_9
    refine lv_if_eq (tgt := 24) hx hb dX9_isKey_9 (by decide) (fun c_12 => ?_) (fun c_12 => absurd (by decide) c_12)
    refine lv_iconst (v := 0) hx hb dX9_isKey_24 (by decide) ?_
    exact hz () hP hD hS rfl [0] rfl rfl (Nat.le_of_ble_eq_true rfl) (Nat.le_of_ble_eq_true rfl) .boolean rfl rfl dX9_isKey_25
abbrev rm_c_X9_isSize : Room := { frames := 1, cells := 0, slots := 0, locals := 25 }
set_option maxHeartbeats 4000000 in
set_option maxRecDepth 100000 in
theorem c_X9_isSize (l : Launch) (D : va_G) (cs : Nat → ClassId) (sz : Nat) (x : Int32)  : cMi l yX9_isSize (Cond.code yX9_isSize cX9_isSize 1 (some .boolean)) (rm_c_X9_isSize) D cs [.int x] sz [] (fun (r : Int32) (u : Unit) => ((r = 1) ∧ (6 ≤ x ∧ x ≤ 52 ∧ x &&& 1 = 0)) ∨ ((r = 0) ∧ (x < 6 ∨ 52 < x ∨ ¬ x &&& 1 = 0))) (fun (u : Unit) => []) := by
  refine kMet_i RX9 (by decide) rfl (Nat.le_of_ble_eq_true rfl) ?_
  intro p e s m below meth c ls A Qz H locs hx hb hml hown hin hu hK hsz hA hP hD hS hl hz
  subst hsz
  have hl : lv_has ls 1 [(0, .int x)] := hl
  refine lv_iload_n hx hb dX9_isSize_0 rfl (lv_at hl 0 rfl) ?_
  refine lv_i2l (v := x.toInt64) hx hb dX9_isSize_1 rfl ?_
  refine lv_ldc2 (v := 6) hx hb hown (hu _ u_1519) dX9_isSize_2 ?_
  refine lv_ldc2 (v := 52) hx hb hown (hu _ u_1520) dX9_isSize_5 ?_
  refine kS_i  (As := [.long x.toInt64, .long 6, .long 52]) (rest := []) (wc := []) (wr := []) hx hb hml hown hu hK hP hD hS hA hl.1 (c_X9_within l D cs H.size x.toInt64 6 52) (gS u_1164 u_1165 u_76 u_1166) hd_X9_within ⟨(Nat.le_of_ble_eq_true rfl), (Nat.le_of_ble_eq_true rfl)⟩ [] [] rfl rfl rfl rfl (by decide) rfl rfl (Nat.le_of_ble_eq_true rfl) dX9_isSize_8 ⟨(Nat.le_of_ble_eq_true rfl), (Nat.le_of_ble_eq_true rfl)⟩ (fun r_1 ut_2 H locs hw_3 hP hD hS => ?_)
  have hP : va_P D vwCl [] H := hP
  have hD : va_D A [] := hD
  rcases hw_3 with hw_3 | hw_3
  · obtain ⟨er_4, hf_5⟩ := hw_3
    have hf_6 : 6 ≤ x ∧ x ≤ 52 := ⟨(w_le (d := 6) (x := x) (by decide)).mp hf_5.1, (w_ge (d := 52) (x := x) (by decide)).mp hf_5.2⟩
    subst er_4
    refine lv_if_eq (tgt := 24) hx hb dX9_isSize_11 (by decide) (fun c_7 => absurd c_7 (by decide)) (fun c_7 => ?_)
    refine lv_iload_n hx hb dX9_isSize_14 rfl (lv_at hl 0 rfl) ?_
    refine lv_iconst (v := 2) hx hb dX9_isSize_15 (by decide) ?_
    refine lv_irem hx hb dX9_isSize_16 (by decide) ?_
    refine lv_if_ne (tgt := 24) hx hb dX9_isSize_17 (by decide) (fun c_8 => ?_) (fun c_8 => ?_)
    · refine lv_iconst (v := 0) hx hb dX9_isSize_24 (by decide) ?_
      exact hz () hP hD hS (by first | grind | (have e1 := odd_rem x (by grind); grind)) [] rfl rfl (Nat.le_of_ble_eq_true rfl) (Nat.le_of_ble_eq_true rfl) .boolean rfl rfl dX9_isSize_25
    · refine lv_iconst (v := 1) hx hb dX9_isSize_20 (by decide) ?_
      refine lv_goto (tgt := 25) hx hb dX9_isSize_21 (by decide) ?_
      exact hz () hP hD hS (by first | grind | (have e1 := odd_rem x (by grind); grind)) [] rfl rfl (Nat.le_of_ble_eq_true rfl) (Nat.le_of_ble_eq_true rfl) .boolean rfl rfl dX9_isSize_25
  · obtain ⟨er_9, hf_10⟩ := hw_3
    have hf_11 : ¬ (6 ≤ x ∧ x ≤ 52) := fun h => hf_10 ⟨(w_le (d := 6) (x := x) (by decide)).mpr h.1, (w_ge (d := 52) (x := x) (by decide)).mpr h.2⟩
    subst er_9
    refine lv_if_eq (tgt := 24) hx hb dX9_isSize_11 (by decide) (fun c_12 => ?_) (fun c_12 => absurd (by decide) c_12)
    refine lv_iconst (v := 0) hx hb dX9_isSize_24 (by decide) ?_
    exact hz () hP hD hS (by first | grind | (have e1 := odd_rem x (by grind); grind)) [] rfl rfl (Nat.le_of_ble_eq_true rfl) (Nat.le_of_ble_eq_true rfl) .boolean rfl rfl dX9_isSize_25
abbrev rm_c_X9_drops : Room := { frames := 0, cells := 0, slots := 0, locals := 0 }
set_option maxHeartbeats 4000000 in
set_option maxRecDepth 100000 in
theorem c_X9_drops (l : Launch) (D : va_G) (cs : Nat → ClassId) (sz : Nat) (md : Nat) (m_all : Nat) (f_m_all : Nat → Int32) (m_deeds : Nat) (m_trial : Nat) (m_hasImage : Nat) (m_tape : Nat) (m_key : Nat) (m_answered : Nat) (m_goes : Nat) (m_hotOnes : Nat) (m_indexed : Nat) (m_isChanged : Nat) (m_valueNow : Nat) (m_didSome : Nat) (m_sizes : Nat) (m_ends : Nat) (dm : Int32) (th : Int32) (sw : Int32) (z_all : ∀ j, j < 51207 → f_m_all j = AL j) : cMi l yX9_drops (Cond.code yX9_drops cX9_drops 7 (some .int)) (rm_c_X9_drops) D cs [.ref md] sz [(md, .inr (9, [.int th, .ref m_all, .ref m_deeds, .ref m_trial, .int dm, .ref m_hasImage, .ref m_tape, .ref m_key, .ref m_answered, .int 0, .int 0, .int 0, .ref m_goes, .int sw, .ref m_hotOnes, .ref m_indexed, .ref m_isChanged, .int 0, .ref m_valueNow, .int 0, .int (-1), .int 0, .ref m_didSome, .ref m_sizes, .ref m_ends])), (m_all, aI cs 51207 f_m_all)] (fun (r : Int32) (u : Nat → Int32) => (r = 0) ∧ (∀ j, j < 51207 → u j = AL j)) (fun (u : Nat → Int32) => [(md, .inr (9, [.int th, .ref m_all, .ref m_deeds, .ref m_trial, .int dm, .ref m_hasImage, .ref m_tape, .ref m_key, .ref m_answered, .int 0, .int 0, .int 0, .ref m_goes, .int sw, .ref m_hotOnes, .ref m_indexed, .ref m_isChanged, .int 0, .ref m_valueNow, .int 0, .int (-1), .int 0, .ref m_didSome, .ref m_sizes, .ref m_ends])), (m_all, aI cs 51207 u)]) := by
  refine kMet_i RX9 (by decide) rfl (Nat.le_of_ble_eq_true rfl) ?_
  intro p e s m below meth c ls A Qz H locs hx hb hml hown hin hu hK hsz hA hP hD hS hl hz
  subst hsz
  have hl : lv_has ls 7 [(0, .ref md)] := hl
  refine lv_aload_n hx hb dX9_drops_0 rfl (lv_at hl 0 rfl) ?_
  refine va_get (D := D) (ci := 9) (v := .ref m_all) (C := RX9) (T := TX9) (N := 25) hx hb hu in_X9 hown hK.1 hP 0 rfl rfl 1 (by decide) (hu _ u_1081) (fun _ h9 => h9) rfl dX9_drops_1 ?_
  refine lv_sipush (v := 1628) hx hb dX9_drops_4 (by decide) ?_
  refine va_iald hx hb hK.1 hP 1 0 rfl rfl (vin_c _ _ rfl) dX9_drops_7 ?_
  refine tpi (y := 0) ((z_all _ (cl_lt (vin_c _ _ rfl))).trans (by decide +kernel)) ?_
  refine lv_istore_n (lv' := [(1, .int 0), (0, .ref md)]) hx hb dX9_drops_8 rfl hl (by decide) rfl (fun ls hl => ?_)
  refine lv_iconst (v := 0) hx hb dX9_drops_9 (by decide) ?_
  refine lv_istore_n (lv' := [(2, .int 0), (1, .int 0), (0, .ref md)]) hx hb dX9_drops_10 rfl hl (by decide) rfl (fun ls hl => ?_)
  refine lv_iload_n hx hb dX9_drops_11 rfl (lv_at hl 0 rfl) ?_
  refine lv_iload_n hx hb dX9_drops_12 rfl (lv_at hl 1 rfl) ?_
  refine lv_icmp_ge (tgt := 41) hx hb dX9_drops_13 (by decide) (fun c_1 => ?_) (fun c_1 => absurd (by decide) c_1)
  refine lv_iconst (v := 1) hx hb dX9_drops_41 (by decide) ?_
  refine lv_istore_n (lv' := [(2, .int 1), (1, .int 0), (0, .ref md)]) hx hb dX9_drops_42 rfl hl (by decide) rfl (fun ls hl => ?_)
  refine lv_iconst (v := 0) hx hb dX9_drops_43 (by decide) ?_
  refine lv_istore_n (lv' := [(3, .int 0), (2, .int 1), (1, .int 0), (0, .ref md)]) hx hb dX9_drops_44 rfl hl (by decide) rfl (fun ls hl => ?_)
  refine lv_iload_n hx hb dX9_drops_45 rfl (lv_at hl 0 rfl) ?_
  refine lv_iload_n hx hb dX9_drops_46 rfl (lv_at hl 2 rfl) ?_
  refine lv_icmp_ge (tgt := 110) hx hb dX9_drops_47 (by decide) (fun c_2 => ?_) (fun c_2 => absurd (by decide) c_2)
  refine lv_iconst (v := 0) hx hb dX9_drops_110 (by decide) ?_
  refine lv_istore_n (lv' := [(3, .int 0), (2, .int 1), (1, .int 0), (0, .ref md)]) hx hb dX9_drops_111 rfl hl (by decide) rfl (fun ls hl => ?_)
  refine lv_iconst (v := 0) hx hb dX9_drops_112 (by decide) ?_
  refine lv_istore (lv' := [(4, .int 0), (3, .int 0), (2, .int 1), (1, .int 0), (0, .ref md)]) hx hb dX9_drops_113 hl (by decide) rfl (fun ls hl => ?_)
  refine lv_iconst (v := 0) hx hb dX9_drops_115 (by decide) ?_
  refine lv_istore (lv' := [(5, .int 0), (4, .int 0), (3, .int 0), (2, .int 1), (1, .int 0), (0, .ref md)]) hx hb dX9_drops_116 hl (by decide) rfl (fun ls hl => ?_)
  refine lv_iload hx hb dX9_drops_118 (lv_at hl 0 rfl) ?_
  refine lv_iload_n hx hb dX9_drops_120 rfl (lv_at hl 4 rfl) ?_
  refine lv_icmp_ge (tgt := 213) hx hb dX9_drops_121 (by decide) (fun c_3 => ?_) (fun c_3 => absurd (by decide) c_3)
  refine lv_bipush (v := 8) hx hb dX9_drops_213 (by decide) ?_
  refine lv_iload hx hb dX9_drops_215 (lv_at hl 1 rfl) ?_
  refine lv_imul hx hb dX9_drops_217 ?_
  refine tpi (y := 0) (by decide) ?_
  refine lv_istore (lv' := [(5, .int 0), (4, .int 0), (3, .int 0), (2, .int 1), (1, .int 0), (0, .ref md)]) hx hb dX9_drops_218 hl (by decide) rfl (fun ls hl => ?_)
  refine lv_iload hx hb dX9_drops_220 (lv_at hl 0 rfl) ?_
  refine lv_bipush (v := 8) hx hb dX9_drops_222 (by decide) ?_
  refine lv_iload_n hx hb dX9_drops_224 rfl (lv_at hl 4 rfl) ?_
  refine lv_imul hx hb dX9_drops_225 ?_
  refine tpi (y := 0) (by decide) ?_
  refine lv_icmp_ge (tgt := 247) hx hb dX9_drops_226 (by decide) (fun c_4 => ?_) (fun c_4 => absurd (by decide) c_4)
  refine lv_aload_n hx hb dX9_drops_247 rfl (lv_at hl 5 rfl) ?_
  refine va_get (D := D) (ci := 9) (v := .ref m_all) (C := RX9) (T := TX9) (N := 25) hx hb hu in_X9 hown hK.1 hP 0 rfl rfl 1 (by decide) (hu _ u_1081) (fun _ h9 => h9) rfl dX9_drops_248 ?_
  refine lv_sipush (v := 1628) hx hb dX9_drops_251 (by decide) ?_
  refine lv_iload hx hb dX9_drops_254 (lv_at hl 1 rfl) ?_
  refine va_iast hx hb hK.1 hP hD hS 1 0 rfl rfl (vin_c _ _ rfl) dX9_drops_256 (fun H locs hP hD hS => ?_)
  have hP : va_P D vwCl [(md, .inr (9, [.int th, .ref m_all, .ref m_deeds, .ref m_trial, .int dm, .ref m_hasImage, .ref m_tape, .ref m_key, .ref m_answered, .int 0, .int 0, .int 0, .ref m_goes, .int sw, .ref m_hotOnes, .ref m_indexed, .ref m_isChanged, .int 0, .ref m_valueNow, .int 0, .int (-1), .int 0, .ref m_didSome, .ref m_sizes, .ref m_ends])), (m_all, aI cs 51207 (upd f_m_all (1628 : Int32).toNatClampNeg 0))] H := hP
  have hD : va_D A [(md, .inr (9, [.int th, .ref m_all, .ref m_deeds, .ref m_trial, .int dm, .ref m_hasImage, .ref m_tape, .ref m_key, .ref m_answered, .int 0, .int 0, .int 0, .ref m_goes, .int sw, .ref m_hotOnes, .ref m_indexed, .ref m_isChanged, .int 0, .ref m_valueNow, .int 0, .int (-1), .int 0, .ref m_didSome, .ref m_sizes, .ref m_ends])), (m_all, aI cs 51207 (upd f_m_all (1628 : Int32).toNatClampNeg 0))] := hD
  have za_5 : ∀ j, j < 51207 → (upd f_m_all (1628 : Int32).toNatClampNeg 0) j = AL j := upd_AL z_all (by decide +kernel)
  obtain ⟨g_6, eg_7⟩ : ∃ g9 : Nat → Int32, upd f_m_all (1628 : Int32).toNatClampNeg 0 = g9 := ⟨_, rfl⟩
  rw [eg_7] at hP hD za_5
  refine lv_iload_n hx hb dX9_drops_257 rfl (lv_at hl 2 rfl) ?_
  exact hz (g_6) hP hD hS ⟨rfl, za_5⟩ [0, 1] rfl rfl (Nat.le_of_ble_eq_true rfl) (Nat.le_of_ble_eq_true rfl) .int rfl rfl dX9_drops_258
abbrev rm_c_X9_placeOfHot : Room := { frames := 0, cells := 0, slots := 0, locals := 0 }
set_option maxHeartbeats 4000000 in
set_option maxRecDepth 100000 in
theorem c_X9_placeOfHot (l : Launch) (D : va_G) (cs : Nat → ClassId) (sz : Nat) (x : Int32) (md : Nat) (m_all : Nat) (m_deeds : Nat) (m_trial : Nat) (m_hasImage : Nat) (m_tape : Nat) (m_key : Nat) (m_answered : Nat) (m_goes : Nat) (m_hotOnes : Nat) (m_indexed : Nat) (m_isChanged : Nat) (m_valueNow : Nat) (m_didSome : Nat) (m_sizes : Nat) (m_ends : Nat) (dm : Int32) (th : Int32) (sw : Int32)  : cMi l yX9_placeOfHot (Cond.code yX9_placeOfHot cX9_placeOfHot 3 (some .int)) (rm_c_X9_placeOfHot) D cs [.ref md, .int x] sz [(md, .inr (9, [.int th, .ref m_all, .ref m_deeds, .ref m_trial, .int dm, .ref m_hasImage, .ref m_tape, .ref m_key, .ref m_answered, .int 0, .int 0, .int 0, .ref m_goes, .int sw, .ref m_hotOnes, .ref m_indexed, .ref m_isChanged, .int 0, .ref m_valueNow, .int 0, .int (-1), .int 0, .ref m_didSome, .ref m_sizes, .ref m_ends]))] (fun (r : Int32) (u : Unit) => (r = (-1))) (fun (u : Unit) => [(md, .inr (9, [.int th, .ref m_all, .ref m_deeds, .ref m_trial, .int dm, .ref m_hasImage, .ref m_tape, .ref m_key, .ref m_answered, .int 0, .int 0, .int 0, .ref m_goes, .int sw, .ref m_hotOnes, .ref m_indexed, .ref m_isChanged, .int 0, .ref m_valueNow, .int 0, .int (-1), .int 0, .ref m_didSome, .ref m_sizes, .ref m_ends]))]) := by
  refine kMet_i RX9 (by decide) rfl (Nat.le_of_ble_eq_true rfl) ?_
  intro p e s m below meth c ls A Qz H locs hx hb hml hown hin hu hK hsz hA hP hD hS hl hz
  subst hsz
  have hl : lv_has ls 3 [(0, .ref md), (1, .int x)] := hl
  refine lv_iconst (v := 0) hx hb dX9_placeOfHot_0 (by decide) ?_
  refine lv_istore_n (lv' := [(2, .int 0), (0, .ref md), (1, .int x)]) hx hb dX9_placeOfHot_1 rfl hl (by decide) rfl (fun ls hl => ?_)
  refine lv_iload_n hx hb dX9_placeOfHot_2 rfl (lv_at hl 0 rfl) ?_
  refine lv_aload_n hx hb dX9_placeOfHot_3 rfl (lv_at hl 1 rfl) ?_
  refine va_get (D := D) (ci := 9) (v := .int 0) (C := RX9) (T := TX9) (N := 25) hx hb hu in_X9 hown hK.1 hP 0 rfl rfl 17 (by decide) (hu _ u_1097) (fun _ h9 => h9) rfl dX9_placeOfHot_4 ?_
  refine lv_icmp_ge (tgt := 28) hx hb dX9_placeOfHot_7 (by decide) (fun c_1 => ?_) (fun c_1 => absurd (by decide) c_1)
  refine lv_iconst (v := (-1)) hx hb dX9_placeOfHot_28 (by decide) ?_
  exact hz () hP hD hS rfl [0] rfl rfl (Nat.le_of_ble_eq_true rfl) (Nat.le_of_ble_eq_true rfl) .int rfl rfl dX9_placeOfHot_29
abbrev rm_c_X9_laysSizes : Room := { frames := 0, cells := 0, slots := 0, locals := 0 }
set_option maxHeartbeats 4000000 in
set_option maxRecDepth 100000 in
theorem c_X9_laysSizes (l : Launch) (D : va_G) (cs : Nat → ClassId) (sz : Nat) (x : Int32) (md : Nat) (m_all : Nat) (f_m_all : Nat → Int32) (m_deeds : Nat) (m_trial : Nat) (m_hasImage : Nat) (m_tape : Nat) (m_key : Nat) (m_answered : Nat) (m_goes : Nat) (m_hotOnes : Nat) (m_indexed : Nat) (m_isChanged : Nat) (m_valueNow : Nat) (m_didSome : Nat) (m_sizes : Nat) (m_ends : Nat) (dm : Int32) (th : Int32) (sw : Int32) (z_all : ∀ j, j < 51207 → f_m_all j = AL j) : cMi l yX9_laysSizes (Cond.code yX9_laysSizes cX9_laysSizes 6 (some .int)) (rm_c_X9_laysSizes) D cs [.ref md, .int x] sz [(md, .inr (9, [.int th, .ref m_all, .ref m_deeds, .ref m_trial, .int dm, .ref m_hasImage, .ref m_tape, .ref m_key, .ref m_answered, .int 0, .int 0, .int 0, .ref m_goes, .int sw, .ref m_hotOnes, .ref m_indexed, .ref m_isChanged, .int 0, .ref m_valueNow, .int 0, .int (-1), .int 0, .ref m_didSome, .ref m_sizes, .ref m_ends])), (m_all, aI cs 51207 f_m_all)] (fun (r : Int32) (u : Unit) => (r = 0)) (fun (u : Unit) => [(md, .inr (9, [.int th, .ref m_all, .ref m_deeds, .ref m_trial, .int dm, .ref m_hasImage, .ref m_tape, .ref m_key, .ref m_answered, .int 0, .int 0, .int 0, .ref m_goes, .int sw, .ref m_hotOnes, .ref m_indexed, .ref m_isChanged, .int 0, .ref m_valueNow, .int 0, .int (-1), .int 0, .ref m_didSome, .ref m_sizes, .ref m_ends])), (m_all, aI cs 51207 f_m_all)]) := by
  refine kMet_i RX9 (by decide) rfl (Nat.le_of_ble_eq_true rfl) ?_
  intro p e s m below meth c ls A Qz H locs hx hb hml hown hin hu hK hsz hA hP hD hS hl hz
  subst hsz
  have hl : lv_has ls 6 [(0, .ref md), (1, .int x)] := hl
  refine lv_iconst (v := 0) hx hb dX9_laysSizes_0 (by decide) ?_
  refine lv_istore_n (lv' := [(2, .int 0), (0, .ref md), (1, .int x)]) hx hb dX9_laysSizes_1 rfl hl (by decide) rfl (fun ls hl => ?_)
  refine lv_iconst (v := 0) hx hb dX9_laysSizes_2 (by decide) ?_
  refine lv_istore_n (lv' := [(3, .int 0), (2, .int 0), (0, .ref md), (1, .int x)]) hx hb dX9_laysSizes_3 rfl hl (by decide) rfl (fun ls hl => ?_)
  refine lv_iload_n hx hb dX9_laysSizes_4 rfl (lv_at hl 0 rfl) ?_
  refine lv_aload_n hx hb dX9_laysSizes_5 rfl (lv_at hl 2 rfl) ?_
  refine va_get (D := D) (ci := 9) (v := .ref m_all) (C := RX9) (T := TX9) (N := 25) hx hb hu in_X9 hown hK.1 hP 0 rfl rfl 1 (by decide) (hu _ u_1081) (fun _ h9 => h9) rfl dX9_laysSizes_6 ?_
  refine lv_sipush (v := 1628) hx hb dX9_laysSizes_9 (by decide) ?_
  refine va_iald hx hb hK.1 hP 1 0 rfl rfl (vin_c _ _ rfl) dX9_laysSizes_12 ?_
  refine tpi (y := 0) ((z_all _ (cl_lt (vin_c _ _ rfl))).trans (by decide +kernel)) ?_
  refine lv_icmp_ge (tgt := 111) hx hb dX9_laysSizes_13 (by decide) (fun c_1 => ?_) (fun c_1 => absurd (by decide) c_1)
  refine lv_iload_n hx hb dX9_laysSizes_111 rfl (lv_at hl 1 rfl) ?_
  exact hz () hP hD hS rfl [0, 1] rfl rfl (Nat.le_of_ble_eq_true rfl) (Nat.le_of_ble_eq_true rfl) .int rfl rfl dX9_laysSizes_112
abbrev rm_c_X9_packsBy : Room := { frames := 0, cells := 0, slots := 0, locals := 0 }
set_option maxHeartbeats 4000000 in
set_option maxRecDepth 100000 in
theorem c_X9_packsBy (l : Launch) (D : va_G) (cs : Nat → ClassId) (sz : Nat) (x : Int32) (md : Nat) (m_all : Nat) (m_deeds : Nat) (m_trial : Nat) (m_hasImage : Nat) (m_tape : Nat) (m_key : Nat) (m_answered : Nat) (m_goes : Nat) (m_hotOnes : Nat) (m_indexed : Nat) (m_isChanged : Nat) (m_valueNow : Nat) (m_didSome : Nat) (m_sizes : Nat) (m_ends : Nat) (dm : Int32) (th : Int32) (sw : Int32)  : cMi l yX9_packsBy (Cond.code yX9_packsBy cX9_packsBy 7 (some .int)) (rm_c_X9_packsBy) D cs [.ref md, .int x, .int 0] sz [(md, .inr (9, [.int th, .ref m_all, .ref m_deeds, .ref m_trial, .int dm, .ref m_hasImage, .ref m_tape, .ref m_key, .ref m_answered, .int 0, .int 0, .int 0, .ref m_goes, .int sw, .ref m_hotOnes, .ref m_indexed, .ref m_isChanged, .int 0, .ref m_valueNow, .int 0, .int (-1), .int 0, .ref m_didSome, .ref m_sizes, .ref m_ends]))] (fun (r : Int32) (u : Unit) => (r = 0)) (fun (u : Unit) => [(md, .inr (9, [.int th, .ref m_all, .ref m_deeds, .ref m_trial, .int dm, .ref m_hasImage, .ref m_tape, .ref m_key, .ref m_answered, .int 0, .int 0, .int 0, .ref m_goes, .int sw, .ref m_hotOnes, .ref m_indexed, .ref m_isChanged, .int 0, .ref m_valueNow, .int 0, .int (-1), .int 0, .ref m_didSome, .ref m_sizes, .ref m_ends]))]) := by
  refine kMet_i RX9 (by decide) rfl (Nat.le_of_ble_eq_true rfl) ?_
  intro p e s m below meth c ls A Qz H locs hx hb hml hown hin hu hK hsz hA hP hD hS hl hz
  subst hsz
  have hl : lv_has ls 7 [(0, .ref md), (1, .int x), (2, .int 0)] := hl
  refine lv_iconst (v := 0) hx hb dX9_packsBy_0 (by decide) ?_
  refine lv_istore_n (lv' := [(3, .int 0), (0, .ref md), (1, .int x), (2, .int 0)]) hx hb dX9_packsBy_1 rfl hl (by decide) rfl (fun ls hl => ?_)
  refine lv_iconst (v := 0) hx hb dX9_packsBy_2 (by decide) ?_
  refine lv_istore (lv' := [(4, .int 0), (3, .int 0), (0, .ref md), (1, .int x), (2, .int 0)]) hx hb dX9_packsBy_3 hl (by decide) rfl (fun ls hl => ?_)
  refine lv_iload hx hb dX9_packsBy_5 (lv_at hl 0 rfl) ?_
  refine lv_iload_n hx hb dX9_packsBy_7 rfl (lv_at hl 4 rfl) ?_
  refine lv_icmp_ge (tgt := 142) hx hb dX9_packsBy_8 (by decide) (fun c_1 => ?_) (fun c_1 => absurd (by decide) c_1)
  refine lv_iload_n hx hb dX9_packsBy_142 rfl (lv_at hl 1 rfl) ?_
  exact hz () hP hD hS rfl [0] rfl rfl (Nat.le_of_ble_eq_true rfl) (Nat.le_of_ble_eq_true rfl) .int rfl rfl dX9_packsBy_143
