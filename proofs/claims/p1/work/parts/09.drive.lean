theorem u_262 : Cond.methodLink "KeyDrive$Drive" 3 objectInit ∈ U0 := um 262 (by decide +kernel) (by decide +kernel)
theorem u_263 : Cond.classLink "KeyDrive$Drive" 9 "KeyDrive$Pages" ∈ U0 := um 263 (by decide +kernel) (by decide +kernel)
theorem u_192 : Cond.instantiable "KeyDrive$Pages" 17 ∈ U0 := um 192 (by decide +kernel) (by decide +kernel)
theorem u_195 : Cond.code yX6_init prog_8_method_1_code 2 none ∈ U0 := um 195 (by decide +kernel) (by decide +kernel)
theorem u_264 : Cond.methodLink "KeyDrive$Drive" 11 yX6_init ∈ U0 := um 264 (by decide +kernel) (by decide +kernel)
theorem u_194 : Cond.instanceMethod yX6_init ∈ U0 := um 194 (by decide +kernel) (by decide +kernel)
theorem u_265 : Cond.classLink "KeyDrive$Drive" 18 "KeyDrive$Keys" ∈ U0 := um 265 (by decide +kernel) (by decide +kernel)
theorem u_266 : Cond.instantiable "KeyDrive$Keys" 7 ∈ U0 := um 266 (by decide +kernel) (by decide +kernel)
theorem u_269 : Cond.code yX3_init prog_5_method_1_code 2 none ∈ U0 := um 269 (by decide +kernel) (by decide +kernel)
theorem u_267 : Cond.methodLink "KeyDrive$Drive" 20 yX3_init ∈ U0 := um 267 (by decide +kernel) (by decide +kernel)
theorem u_268 : Cond.instanceMethod yX3_init ∈ U0 := um 268 (by decide +kernel) (by decide +kernel)
theorem u_297 : Cond.classLink "KeyDrive$Drive" 25 "KeyDrive$Moments" ∈ U0 := um 297 (by decide +kernel) (by decide +kernel)
theorem u_298 : Cond.instantiable "KeyDrive$Moments" 4 ∈ U0 := um 298 (by decide +kernel) (by decide +kernel)
theorem u_301 : Cond.code yX4_init prog_6_method_1_code 2 none ∈ U0 := um 301 (by decide +kernel) (by decide +kernel)
theorem u_299 : Cond.methodLink "KeyDrive$Drive" 27 yX4_init ∈ U0 := um 299 (by decide +kernel) (by decide +kernel)
theorem u_300 : Cond.instanceMethod yX4_init ∈ U0 := um 300 (by decide +kernel) (by decide +kernel)
theorem u_273 : Cond.fieldLink "KeyDrive$Drive" 96 "KeyDrive$Keys" "count" "I" ∈ U0 := um 273 (by decide +kernel) (by decide +kernel)
theorem u_153 : Cond.fieldLink "KeyDrive$Buckets" 19 "KeyDrive$Buckets" "hotCount" "I" ∈ U0 := um 153 (by decide +kernel) (by decide +kernel)
theorem u_588 : Cond.code yX0_placeOf prog_2_method_2_code 3 (some .int) ∈ U0 := um 588 (by decide +kernel) (by decide +kernel)
theorem u_585 : Cond.methodLink "KeyDrive$Buckets" 23 yX0_placeOf ∈ U0 := um 585 (by decide +kernel) (by decide +kernel)
theorem u_586 : Cond.instanceMethod yX0_placeOf ∈ U0 := um 586 (by decide +kernel) (by decide +kernel)
theorem u_587 : Cond.selects "KeyDrive$Buckets" yX0_placeOf yX0_placeOf ∈ U0 := um 587 (by decide +kernel) (by decide +kernel)
theorem u_70 : Cond.initialized "KeyDrive$Buckets" ∈ U0 := um 70 (by decide +kernel) (by decide +kernel)
theorem u_112 : Cond.fieldLink "KeyDrive$Deeds" 32 "KeyDrive$Deeds" "fault" "I" ∈ U0 := um 112 (by decide +kernel) (by decide +kernel)
theorem u_116 : Cond.fieldLink "KeyDrive$Deeds" 35 "KeyDrive$Deeds" "count" "I" ∈ U0 := um 116 (by decide +kernel) (by decide +kernel)
theorem u_175 : Cond.fieldLink "KeyDrive$Packing" 21 "KeyDrive$Packing" "count" "I" ∈ U0 := um 175 (by decide +kernel) (by decide +kernel)
theorem u_323 : Cond.fieldLink "KeyDrive$Packing" 25 "KeyDrive$Drive" "keys" "LKeyDrive$Keys;" ∈ U0 := um 323 (by decide +kernel) (by decide +kernel)
theorem u_272 : Cond.fieldLink "KeyDrive$Packing" 31 "KeyDrive$Keys" "count" "I" ∈ U0 := um 272 (by decide +kernel) (by decide +kernel)
theorem u_176 : Cond.fieldLink "KeyDrive$Packing" 58 "KeyDrive$Packing" "pages" "I" ∈ U0 := um 176 (by decide +kernel) (by decide +kernel)
theorem u_448 : Cond.code yX6_freePages prog_8_method_7_code 3 (some .int) ∈ U0 := um 448 (by decide +kernel) (by decide +kernel)
theorem u_445 : Cond.methodLink "KeyDrive$Pages" 94 yX6_freePages ∈ U0 := um 445 (by decide +kernel) (by decide +kernel)
theorem u_446 : Cond.instanceMethod yX6_freePages ∈ U0 := um 446 (by decide +kernel) (by decide +kernel)
theorem u_447 : Cond.selects "KeyDrive$Pages" yX6_freePages yX6_freePages ∈ U0 := um 447 (by decide +kernel) (by decide +kernel)
theorem dX2_init_0 : decode cX2_init 0 = .ok (.aload_n 0, 1) := by decide +kernel
theorem dX2_init_1 : decode cX2_init 1 = .ok (.invokespecial 3, 3) := by decide +kernel
theorem dX2_init_4 : decode cX2_init 4 = .ok (.aload_n 0, 1) := by decide +kernel
theorem dX2_init_5 : decode cX2_init 5 = .ok (.new 9, 3) := by decide +kernel
theorem dX2_init_8 : decode cX2_init 8 = .ok (.dup, 1) := by decide +kernel
theorem dX2_init_9 : decode cX2_init 9 = .ok (.invokespecial 11, 3) := by decide +kernel
theorem dX2_init_12 : decode cX2_init 12 = .ok (.putfield 12, 3) := by decide +kernel
theorem dX2_init_15 : decode cX2_init 15 = .ok (.aload_n 0, 1) := by decide +kernel
theorem dX2_init_16 : decode cX2_init 16 = .ok (.new 18, 3) := by decide +kernel
theorem dX2_init_19 : decode cX2_init 19 = .ok (.dup, 1) := by decide +kernel
theorem dX2_init_20 : decode cX2_init 20 = .ok (.invokespecial 20, 3) := by decide +kernel
theorem dX2_init_23 : decode cX2_init 23 = .ok (.putfield 21, 3) := by decide +kernel
theorem dX2_init_26 : decode cX2_init 26 = .ok (.aload_n 0, 1) := by decide +kernel
theorem dX2_init_27 : decode cX2_init 27 = .ok (.new 25, 3) := by decide +kernel
theorem dX2_init_30 : decode cX2_init 30 = .ok (.dup, 1) := by decide +kernel
theorem dX2_init_31 : decode cX2_init 31 = .ok (.invokespecial 27, 3) := by decide +kernel
theorem dX2_init_34 : decode cX2_init 34 = .ok (.putfield 28, 3) := by decide +kernel
theorem dX2_init_37 : decode cX2_init 37 = .ok (.return_, 1) := by decide +kernel
theorem dX2_settleAll_0 : decode cX2_settleAll 0 = .ok (.iconst 0, 1) := by decide +kernel
theorem dX2_settleAll_1 : decode cX2_settleAll 1 = .ok (.istore_n 1, 1) := by decide +kernel
theorem dX2_settleAll_2 : decode cX2_settleAll 2 = .ok (.aload_n 0, 1) := by decide +kernel
theorem dX2_settleAll_3 : decode cX2_settleAll 3 = .ok (.getfield 21, 3) := by decide +kernel
theorem dX2_settleAll_6 : decode cX2_settleAll 6 = .ok (.getfield 96, 3) := by decide +kernel
theorem dX2_settleAll_9 : decode cX2_settleAll 9 = .ok (.iconst 1, 1) := by decide +kernel
theorem dX2_settleAll_10 : decode cX2_settleAll 10 = .ok (.isub, 1) := by decide +kernel
theorem dX2_settleAll_11 : decode cX2_settleAll 11 = .ok (.istore_n 2, 1) := by decide +kernel
theorem dX2_settleAll_12 : decode cX2_settleAll 12 = .ok (.iload_n 2, 1) := by decide +kernel
theorem dX2_settleAll_13 : decode cX2_settleAll 13 = .ok (.ifCond .lt 17, 3) := by decide +kernel
theorem dX2_settleAll_30 : decode cX2_settleAll 30 = .ok (.iload_n 1, 1) := by decide +kernel
theorem dX2_settleAll_31 : decode cX2_settleAll 31 = .ok (.ireturn, 1) := by decide +kernel
theorem dX2_tellable_0 : decode cX2_tellable 0 = .ok (.iconst 0, 1) := by decide +kernel
theorem dX2_tellable_1 : decode cX2_tellable 1 = .ok (.istore 5, 2) := by decide +kernel
theorem dX2_tellable_3 : decode cX2_tellable 3 = .ok (.iconst 0, 1) := by decide +kernel
theorem dX2_tellable_4 : decode cX2_tellable 4 = .ok (.istore 6, 2) := by decide +kernel
theorem dX2_tellable_6 : decode cX2_tellable 6 = .ok (.iload 6, 2) := by decide +kernel
theorem dX2_tellable_8 : decode cX2_tellable 8 = .ok (.aload_n 0, 1) := by decide +kernel
theorem dX2_tellable_9 : decode cX2_tellable 9 = .ok (.getfield 21, 3) := by decide +kernel
theorem dX2_tellable_12 : decode cX2_tellable 12 = .ok (.getfield 96, 3) := by decide +kernel
theorem dX2_tellable_15 : decode cX2_tellable 15 = .ok (.if_icmp .ge 25, 3) := by decide +kernel
theorem dX2_tellable_40 : decode cX2_tellable 40 = .ok (.iload 5, 2) := by decide +kernel
theorem dX2_tellable_42 : decode cX2_tellable 42 = .ok (.ireturn, 1) := by decide +kernel
theorem dX2_liveOn_0 : decode cX2_liveOn 0 = .ok (.iconst 0, 1) := by decide +kernel
theorem dX2_liveOn_1 : decode cX2_liveOn 1 = .ok (.istore_n 2, 1) := by decide +kernel
theorem dX2_liveOn_2 : decode cX2_liveOn 2 = .ok (.iconst 0, 1) := by decide +kernel
theorem dX2_liveOn_3 : decode cX2_liveOn 3 = .ok (.istore_n 3, 1) := by decide +kernel
theorem dX2_liveOn_4 : decode cX2_liveOn 4 = .ok (.iload_n 3, 1) := by decide +kernel
theorem dX2_liveOn_5 : decode cX2_liveOn 5 = .ok (.aload_n 0, 1) := by decide +kernel
theorem dX2_liveOn_6 : decode cX2_liveOn 6 = .ok (.getfield 21, 3) := by decide +kernel
theorem dX2_liveOn_9 : decode cX2_liveOn 9 = .ok (.getfield 96, 3) := by decide +kernel
theorem dX2_liveOn_12 : decode cX2_liveOn 12 = .ok (.if_icmp .ge 56, 3) := by decide +kernel
theorem dX2_liveOn_68 : decode cX2_liveOn 68 = .ok (.iload_n 2, 1) := by decide +kernel
theorem dX2_liveOn_69 : decode cX2_liveOn 69 = .ok (.ireturn, 1) := by decide +kernel
theorem dX2_liveBytes_0 : decode cX2_liveBytes 0 = .ok (.iconst 0, 1) := by decide +kernel
theorem dX2_liveBytes_1 : decode cX2_liveBytes 1 = .ok (.istore_n 1, 1) := by decide +kernel
theorem dX2_liveBytes_2 : decode cX2_liveBytes 2 = .ok (.iconst 0, 1) := by decide +kernel
theorem dX2_liveBytes_3 : decode cX2_liveBytes 3 = .ok (.istore_n 2, 1) := by decide +kernel
theorem dX2_liveBytes_4 : decode cX2_liveBytes 4 = .ok (.iload_n 2, 1) := by decide +kernel
theorem dX2_liveBytes_5 : decode cX2_liveBytes 5 = .ok (.aload_n 0, 1) := by decide +kernel
theorem dX2_liveBytes_6 : decode cX2_liveBytes 6 = .ok (.getfield 21, 3) := by decide +kernel
theorem dX2_liveBytes_9 : decode cX2_liveBytes 9 = .ok (.getfield 96, 3) := by decide +kernel
theorem dX2_liveBytes_12 : decode cX2_liveBytes 12 = .ok (.if_icmp .ge 39, 3) := by decide +kernel
theorem dX2_liveBytes_51 : decode cX2_liveBytes 51 = .ok (.iload_n 1, 1) := by decide +kernel
theorem dX2_liveBytes_52 : decode cX2_liveBytes 52 = .ok (.ireturn, 1) := by decide +kernel
theorem dX2_keysOfBucket_0 : decode cX2_keysOfBucket 0 = .ok (.iconst 0, 1) := by decide +kernel
theorem dX2_keysOfBucket_1 : decode cX2_keysOfBucket 1 = .ok (.istore_n 2, 1) := by decide +kernel
theorem dX2_keysOfBucket_2 : decode cX2_keysOfBucket 2 = .ok (.iconst 0, 1) := by decide +kernel
theorem dX2_keysOfBucket_3 : decode cX2_keysOfBucket 3 = .ok (.istore_n 3, 1) := by decide +kernel
theorem dX2_keysOfBucket_4 : decode cX2_keysOfBucket 4 = .ok (.iload_n 3, 1) := by decide +kernel
theorem dX2_keysOfBucket_5 : decode cX2_keysOfBucket 5 = .ok (.aload_n 0, 1) := by decide +kernel
theorem dX2_keysOfBucket_6 : decode cX2_keysOfBucket 6 = .ok (.getfield 21, 3) := by decide +kernel
theorem dX2_keysOfBucket_9 : decode cX2_keysOfBucket 9 = .ok (.getfield 96, 3) := by decide +kernel
theorem dX2_keysOfBucket_12 : decode cX2_keysOfBucket 12 = .ok (.if_icmp .ge 51, 3) := by decide +kernel
theorem dX2_keysOfBucket_63 : decode cX2_keysOfBucket 63 = .ok (.iload_n 2, 1) := by decide +kernel
theorem dX2_keysOfBucket_64 : decode cX2_keysOfBucket 64 = .ok (.ireturn, 1) := by decide +kernel
theorem dX3_allVersions_0 : decode cX3_allVersions 0 = .ok (.iconst 0, 1) := by decide +kernel
theorem dX3_allVersions_1 : decode cX3_allVersions 1 = .ok (.istore_n 1, 1) := by decide +kernel
theorem dX3_allVersions_2 : decode cX3_allVersions 2 = .ok (.iconst 0, 1) := by decide +kernel
theorem dX3_allVersions_3 : decode cX3_allVersions 3 = .ok (.istore_n 2, 1) := by decide +kernel
theorem dX3_allVersions_4 : decode cX3_allVersions 4 = .ok (.iload_n 2, 1) := by decide +kernel
theorem dX3_allVersions_5 : decode cX3_allVersions 5 = .ok (.aload_n 0, 1) := by decide +kernel
theorem dX3_allVersions_6 : decode cX3_allVersions 6 = .ok (.getfield 31, 3) := by decide +kernel
theorem dX3_allVersions_9 : decode cX3_allVersions 9 = .ok (.if_icmp .ge 17, 3) := by decide +kernel
theorem dX3_allVersions_26 : decode cX3_allVersions 26 = .ok (.iload_n 1, 1) := by decide +kernel
theorem dX3_allVersions_27 : decode cX3_allVersions 27 = .ok (.ireturn, 1) := by decide +kernel
theorem dX0_placeOf_0 : decode cX0_placeOf 0 = .ok (.iconst 0, 1) := by decide +kernel
theorem dX0_placeOf_1 : decode cX0_placeOf 1 = .ok (.istore_n 2, 1) := by decide +kernel
theorem dX0_placeOf_2 : decode cX0_placeOf 2 = .ok (.iload_n 2, 1) := by decide +kernel
theorem dX0_placeOf_3 : decode cX0_placeOf 3 = .ok (.aload_n 0, 1) := by decide +kernel
theorem dX0_placeOf_4 : decode cX0_placeOf 4 = .ok (.getfield 19, 3) := by decide +kernel
theorem dX0_placeOf_7 : decode cX0_placeOf 7 = .ok (.if_icmp .ge 26, 3) := by decide +kernel
theorem dX0_placeOf_33 : decode cX0_placeOf 33 = .ok (.iconst (-1), 1) := by decide +kernel
theorem dX0_placeOf_34 : decode cX0_placeOf 34 = .ok (.ireturn, 1) := by decide +kernel
theorem dX0_isChanged_0 : decode cX0_isChanged 0 = .ok (.iload_n 1, 1) := by decide +kernel
theorem dX0_isChanged_1 : decode cX0_isChanged 1 = .ok (.ifCond .lt 31, 3) := by decide +kernel
theorem dX0_isChanged_4 : decode cX0_isChanged 4 = .ok (.iload_n 1, 1) := by decide +kernel
theorem dX0_isChanged_5 : decode cX0_isChanged 5 = .ok (.bipush 8, 2) := by decide +kernel
theorem dX0_isChanged_7 : decode cX0_isChanged 7 = .ok (.if_icmp .ge 25, 3) := by decide +kernel
theorem dX0_isChanged_10 : decode cX0_isChanged 10 = .ok (.aload_n 0, 1) := by decide +kernel
theorem dX0_isChanged_11 : decode cX0_isChanged 11 = .ok (.iload_n 1, 1) := by decide +kernel
theorem dX0_isChanged_12 : decode cX0_isChanged 12 = .ok (.invokevirtual 23, 3) := by decide +kernel
theorem dX0_isChanged_15 : decode cX0_isChanged 15 = .ok (.iconst (-1), 1) := by decide +kernel
theorem dX0_isChanged_16 : decode cX0_isChanged 16 = .ok (.if_icmp .eq 16, 3) := by decide +kernel
theorem dX0_isChanged_32 : decode cX0_isChanged 32 = .ok (.iconst 0, 1) := by decide +kernel
theorem dX0_isChanged_33 : decode cX0_isChanged 33 = .ok (.ireturn, 1) := by decide +kernel
theorem dX1_read_0 : decode cX1_read 0 = .ok (.aload_n 0, 1) := by decide +kernel
theorem dX1_read_1 : decode cX1_read 1 = .ok (.iconst 0, 1) := by decide +kernel
theorem dX1_read_2 : decode cX1_read 2 = .ok (.putfield 32, 3) := by decide +kernel
theorem dX1_read_5 : decode cX1_read 5 = .ok (.aload_n 0, 1) := by decide +kernel
theorem dX1_read_6 : decode cX1_read 6 = .ok (.iconst (-1), 1) := by decide +kernel
theorem dX1_read_7 : decode cX1_read 7 = .ok (.putfield 9, 3) := by decide +kernel
theorem dX1_read_10 : decode cX1_read 10 = .ok (.aload_n 0, 1) := by decide +kernel
theorem dX1_read_11 : decode cX1_read 11 = .ok (.iconst 0, 1) := by decide +kernel
theorem dX1_read_12 : decode cX1_read 12 = .ok (.putfield 35, 3) := by decide +kernel
theorem dX1_read_15 : decode cX1_read 15 = .ok (.iconst 0, 1) := by decide +kernel
theorem dX1_read_16 : decode cX1_read 16 = .ok (.istore_n 3, 1) := by decide +kernel
theorem dX1_read_17 : decode cX1_read 17 = .ok (.iconst 0, 1) := by decide +kernel
theorem dX1_read_18 : decode cX1_read 18 = .ok (.istore 4, 2) := by decide +kernel
theorem dX1_read_20 : decode cX1_read 20 = .ok (.iload 4, 2) := by decide +kernel
theorem dX1_read_22 : decode cX1_read 22 = .ok (.bipush 20, 2) := by decide +kernel
theorem dX1_read_24 : decode cX1_read 24 = .ok (.if_icmp .ge 29, 3) := by decide +kernel
theorem dX1_read_27 : decode cX1_read 27 = .ok (.iload_n 3, 1) := by decide +kernel
theorem dX1_read_28 : decode cX1_read 28 = .ok (.iload_n 2, 1) := by decide +kernel
theorem dX1_read_29 : decode cX1_read 29 = .ok (.if_icmp .ge 24, 3) := by decide +kernel
theorem dX1_read_53 : decode cX1_read 53 = .ok (.return_, 1) := by decide +kernel
theorem dX1_carryOut_0 : decode cX1_carryOut 0 = .ok (.iconst 0, 1) := by decide +kernel
theorem dX1_carryOut_1 : decode cX1_carryOut 1 = .ok (.istore_n 3, 1) := by decide +kernel
theorem dX1_carryOut_2 : decode cX1_carryOut 2 = .ok (.iconst 0, 1) := by decide +kernel
theorem dX1_carryOut_3 : decode cX1_carryOut 3 = .ok (.istore 4, 2) := by decide +kernel
theorem dX1_carryOut_5 : decode cX1_carryOut 5 = .ok (.iload 4, 2) := by decide +kernel
theorem dX1_carryOut_7 : decode cX1_carryOut 7 = .ok (.aload_n 0, 1) := by decide +kernel
theorem dX1_carryOut_8 : decode cX1_carryOut 8 = .ok (.getfield 35, 3) := by decide +kernel
theorem dX1_carryOut_11 : decode cX1_carryOut 11 = .ok (.if_icmp .ge 160, 3) := by decide +kernel
theorem dX1_carryOut_171 : decode cX1_carryOut 171 = .ok (.iload_n 3, 1) := by decide +kernel
theorem dX1_carryOut_172 : decode cX1_carryOut 172 = .ok (.ireturn, 1) := by decide +kernel
theorem dX5_gather_0 : decode cX5_gather 0 = .ok (.aload_n 0, 1) := by decide +kernel
theorem dX5_gather_1 : decode cX5_gather 1 = .ok (.iconst 0, 1) := by decide +kernel
theorem dX5_gather_2 : decode cX5_gather 2 = .ok (.putfield 21, 3) := by decide +kernel
theorem dX5_gather_5 : decode cX5_gather 5 = .ok (.iconst 0, 1) := by decide +kernel
theorem dX5_gather_6 : decode cX5_gather 6 = .ok (.istore_n 2, 1) := by decide +kernel
theorem dX5_gather_7 : decode cX5_gather 7 = .ok (.iload_n 2, 1) := by decide +kernel
theorem dX5_gather_8 : decode cX5_gather 8 = .ok (.aload_n 1, 1) := by decide +kernel
theorem dX5_gather_9 : decode cX5_gather 9 = .ok (.getfield 25, 3) := by decide +kernel
theorem dX5_gather_12 : decode cX5_gather 12 = .ok (.getfield 31, 3) := by decide +kernel
theorem dX5_gather_15 : decode cX5_gather 15 = .ok (.if_icmp .ge 60, 3) := by decide +kernel
theorem dX5_gather_75 : decode cX5_gather 75 = .ok (.return_, 1) := by decide +kernel
theorem dX5_byNumber_0 : decode cX5_byNumber 0 = .ok (.aload_n 0, 1) := by decide +kernel
theorem dX5_byNumber_1 : decode cX5_byNumber 1 = .ok (.iconst 0, 1) := by decide +kernel
theorem dX5_byNumber_2 : decode cX5_byNumber 2 = .ok (.putfield 58, 3) := by decide +kernel
theorem dX5_byNumber_5 : decode cX5_byNumber 5 = .ok (.iconst 0, 1) := by decide +kernel
theorem dX5_byNumber_6 : decode cX5_byNumber 6 = .ok (.istore_n 2, 1) := by decide +kernel
theorem dX5_byNumber_7 : decode cX5_byNumber 7 = .ok (.iload_n 2, 1) := by decide +kernel
theorem dX5_byNumber_8 : decode cX5_byNumber 8 = .ok (.aload_n 0, 1) := by decide +kernel
theorem dX5_byNumber_9 : decode cX5_byNumber 9 = .ok (.getfield 21, 3) := by decide +kernel
theorem dX5_byNumber_12 : decode cX5_byNumber 12 = .ok (.if_icmp .ge 20, 3) := by decide +kernel
theorem dX5_byNumber_32 : decode cX5_byNumber 32 = .ok (.aload_n 0, 1) := by decide +kernel
theorem dX5_byNumber_33 : decode cX5_byNumber 33 = .ok (.getfield 58, 3) := by decide +kernel
theorem dX5_byNumber_36 : decode cX5_byNumber 36 = .ok (.ireturn, 1) := by decide +kernel
theorem dX5_bySize_0 : decode cX5_bySize 0 = .ok (.aload_n 0, 1) := by decide +kernel
theorem dX5_bySize_1 : decode cX5_bySize 1 = .ok (.iconst 0, 1) := by decide +kernel
theorem dX5_bySize_2 : decode cX5_bySize 2 = .ok (.putfield 58, 3) := by decide +kernel
theorem dX5_bySize_5 : decode cX5_bySize 5 = .ok (.bipush 52, 2) := by decide +kernel
theorem dX5_bySize_7 : decode cX5_bySize 7 = .ok (.istore_n 1, 1) := by decide +kernel
theorem dX5_bySize_8 : decode cX5_bySize 8 = .ok (.iload_n 1, 1) := by decide +kernel
theorem dX5_bySize_9 : decode cX5_bySize 9 = .ok (.bipush 6, 2) := by decide +kernel
theorem dX5_bySize_11 : decode cX5_bySize 11 = .ok (.if_icmp .lt 41, 3) := by decide +kernel
theorem dX5_bySize_14 : decode cX5_bySize 14 = .ok (.iconst 0, 1) := by decide +kernel
theorem dX5_bySize_15 : decode cX5_bySize 15 = .ok (.istore_n 2, 1) := by decide +kernel
theorem dX5_bySize_16 : decode cX5_bySize 16 = .ok (.iload_n 2, 1) := by decide +kernel
theorem dX5_bySize_17 : decode cX5_bySize 17 = .ok (.aload_n 0, 1) := by decide +kernel
theorem dX5_bySize_18 : decode cX5_bySize 18 = .ok (.getfield 21, 3) := by decide +kernel
theorem dX5_bySize_21 : decode cX5_bySize 21 = .ok (.if_icmp .ge 25, 3) := by decide +kernel
theorem dX5_bySize_46 : decode cX5_bySize 46 = .ok (.iinc 1 (-2), 3) := by decide +kernel
theorem dX5_bySize_49 : decode cX5_bySize 49 = .ok (.goto (-41), 3) := by decide +kernel
theorem dX5_bySize_52 : decode cX5_bySize 52 = .ok (.aload_n 0, 1) := by decide +kernel
theorem dX5_bySize_53 : decode cX5_bySize 53 = .ok (.getfield 58, 3) := by decide +kernel
theorem dX5_bySize_56 : decode cX5_bySize 56 = .ok (.ireturn, 1) := by decide +kernel
theorem dX6_wipeTill_0 : decode cX6_wipeTill 0 = .ok (.iconst 0, 1) := by decide +kernel
theorem dX6_wipeTill_1 : decode cX6_wipeTill 1 = .ok (.istore_n 3, 1) := by decide +kernel
theorem dX6_wipeTill_2 : decode cX6_wipeTill 2 = .ok (.iload_n 3, 1) := by decide +kernel
theorem dX6_wipeTill_3 : decode cX6_wipeTill 3 = .ok (.bipush 24, 2) := by decide +kernel
theorem dX6_wipeTill_5 : decode cX6_wipeTill 5 = .ok (.if_icmp .ge 38, 3) := by decide +kernel
theorem dX6_wipeTill_8 : decode cX6_wipeTill 8 = .ok (.aload_n 0, 1) := by decide +kernel
theorem dX6_wipeTill_9 : decode cX6_wipeTill 9 = .ok (.invokevirtual 94, 3) := by decide +kernel
theorem dX6_wipeTill_12 : decode cX6_wipeTill 12 = .ok (.iload_n 1, 1) := by decide +kernel
theorem dX6_wipeTill_13 : decode cX6_wipeTill 13 = .ok (.if_icmp .ge 30, 3) := by decide +kernel
theorem dX6_wipeTill_43 : decode cX6_wipeTill 43 = .ok (.return_, 1) := by decide +kernel
theorem hd_X0_placeOf : yX0_placeOf.cls = RX0 ∧ yX0_placeOf.cls ≠ "java/lang/invoke/MethodHandle" ∧ yX0_placeOf.cls ≠ "java/lang/invoke/VarHandle" ∧ (parseMethodDescriptor yX0_placeOf.desc).map (fun d => d.parameters.length) = some 1 := by decide +kernel
theorem hd_X3_init : yX3_init.cls = RX3 ∧ yX3_init.cls ≠ "java/lang/invoke/MethodHandle" ∧ yX3_init.cls ≠ "java/lang/invoke/VarHandle" ∧ (parseMethodDescriptor yX3_init.desc).map (fun d => d.parameters.length) = some 0 := by decide +kernel
theorem hd_X4_init : yX4_init.cls = RX4 ∧ yX4_init.cls ≠ "java/lang/invoke/MethodHandle" ∧ yX4_init.cls ≠ "java/lang/invoke/VarHandle" ∧ (parseMethodDescriptor yX4_init.desc).map (fun d => d.parameters.length) = some 0 := by decide +kernel
theorem hd_X6_freePages : yX6_freePages.cls = RX6 ∧ yX6_freePages.cls ≠ "java/lang/invoke/MethodHandle" ∧ yX6_freePages.cls ≠ "java/lang/invoke/VarHandle" ∧ (parseMethodDescriptor yX6_freePages.desc).map (fun d => d.parameters.length) = some 0 := by decide +kernel
theorem hd_X6_init : yX6_init.cls = RX6 ∧ yX6_init.cls ≠ "java/lang/invoke/MethodHandle" ∧ yX6_init.cls ≠ "java/lang/invoke/VarHandle" ∧ (parseMethodDescriptor yX6_init.desc).map (fun d => d.parameters.length) = some 0 := by decide +kernel
abbrev rm_c_X2_init : Room := { frames := 2, cells := 23, slots := 8372, locals := 33 }
set_option maxHeartbeats 4000000 in
set_option maxRecDepth 100000 in
theorem c_X2_init (l : Launch) (D : va_G) (cs : Nat → ClassId) (sz : Nat) (dr : Nat)  : cMv l yX2_init (Cond.code yX2_init cX2_init 1 none) (rm_c_X2_init) D cs [.ref dr] sz [(dr, .inr (2, [.int 0, .null, .null, .null]))] (fun (u : (Nat → Nat) × (Nat → Nat → Int32)) => (∀ j, j < 240 → ¬ u.2 0 j < 0 ∧ u.2 0 j < 240) ∧ (∀ j, j < 7 → u.2 2 j = -1)) (fun (u : (Nat → Nat) × (Nat → Nat → Int32)) => [(dr, .inr (2, [.int 0, .ref (u.1 0), .ref (u.1 11), .ref (u.1 18)])), (u.1 0, .inr (6, [.int 0, .int 0, .int (-1), .int 0, .int 0, .int 0, .int 240, .ref (u.1 1), .ref (u.1 2), .ref (u.1 3), .ref (u.1 4), .ref (u.1 5), .ref (u.1 6), .ref (u.1 7), .ref (u.1 8), .ref (u.1 9), .ref (u.1 10)])), (u.1 1, aI cs 24 (fun _ => 0)), (u.1 2, aI cs 24 (fun _ => 0)), (u.1 3, aI cs 24 (fun _ => 0)), (u.1 4, aI cs 240 (fun _ => 0)), (u.1 5, aI cs 240 (fun _ => 0)), (u.1 6, aI cs 240 (u.2 0)), (u.1 7, aI cs 240 (fun _ => 0)), (u.1 8, aI cs 240 (fun _ => 0)), (u.1 9, aI cs 240 (fun _ => 0)), (u.1 10, aB cs 1536 (fun _ => 0)), (u.1 11, .inr (3, [.int 0, .ref (u.1 12), .ref (u.1 13), .ref (u.1 14), .ref (u.1 15), .ref (u.1 16), .ref (u.1 17)])), (u.1 12, aI cs 240 (u.2 1)), (u.1 13, aJ cs 240 (fun _ => 0)), (u.1 14, aI cs 240 (fun _ => 0)), (u.1 15, aI cs 240 (fun _ => 0)), (u.1 16, aI cs 2160 (fun _ => 0)), (u.1 17, aI cs 2160 (fun _ => 0)), (u.1 18, .inr (4, [.ref (u.1 19), .ref (u.1 20), .ref (u.1 21), .ref (u.1 22)])), (u.1 19, aI cs 7 (u.2 2)), (u.1 20, aJ cs 3 (fun _ => 0)), (u.1 21, aI cs 3 (fun _ => 0)), (u.1 22, aI cs 3 (fun _ => 0))]) := by
  refine kMet_v RX2 (by decide) rfl (Nat.le_of_ble_eq_true rfl) ?_
  intro p e s m below meth c ls A Qz H locs hx hb hml hown hin hu hK hsz hA hP hD hS hl hz
  subst hsz
  have hl : lv_has ls 1 [(0, .ref dr)] := hl
  refine lv_aload_n hx hb dX2_init_0 rfl (lv_at hl 0 rfl) ?_
  refine W.objInit hx hb hown (hu _ u_262) (hu _ u_84) (hu _ u_85) rfl (by rw [hml]; exact hl.1) rfl dX2_init_1 (Nat.le_of_ble_eq_true rfl) (Nat.le_of_ble_eq_true rfl) ?_
  refine W.eq (g2 := F0 m 4 ls []) rfl ?_
  refine lv_aload_n hx hb dX2_init_4 rfl (lv_at hl 0 rfl) ?_
  refine va_new (D := D) (ci := 6) (fs := [.int 0, .int 0, .int 0, .int 0, .int 0, .int 0, .int 0, .null, .null, .null, .null, .null, .null, .null, .null, .null, .null]) (C := RX6) (T := TX6) (N := 17) hx hb hu in_X6 tyX6 tyX6_ok hown (hu _ u_263) (hu _ u_192) (hu _ u_72) hK.1 hP hD hS hA rfl df_X6 (Nat.le_of_ble_eq_true rfl) (Nat.le_of_ble_eq_true rfl) dX2_init_5 (fun q_1 H hP hD hS => ?_)
  have hP : va_P D vwCl [(dr, .inr (2, [.int 0, .null, .null, .null])), (q_1, .inr (6, [.int 0, .int 0, .int 0, .int 0, .int 0, .int 0, .int 0, .null, .null, .null, .null, .null, .null, .null, .null, .null, .null]))] H := hP
  have hD : va_D A [(dr, .inr (2, [.int 0, .null, .null, .null])), (q_1, .inr (6, [.int 0, .int 0, .int 0, .int 0, .int 0, .int 0, .int 0, .null, .null, .null, .null, .null, .null, .null, .null, .null, .null]))] := hD
  refine lv_dup hx hb dX2_init_8 rfl ?_
  refine kI_v  (As := []) (rest := [.ref q_1, .ref dr]) (wc := [(q_1, .inr (6, [.int 0, .int 0, .int 0, .int 0, .int 0, .int 0, .int 0, .null, .null, .null, .null, .null, .null, .null, .null, .null, .null]))]) (wr := [(dr, .inr (2, [.int 0, .null, .null, .null]))]) hx hb hml hown hu hK hP hD hS hA hl.1 (c_X6_init l D cs H.size q_1) u_195 u_264 u_194 u_72 rfl hd_X6_init.2 ⟨(Nat.le_of_ble_eq_true rfl), (Nat.le_of_ble_eq_true rfl)⟩ [1] [0] rfl rfl rfl rfl (by decide) rfl rfl (Nat.le_of_ble_eq_true rfl) dX2_init_9 ⟨(Nat.le_of_ble_eq_true rfl), (Nat.le_of_ble_eq_true rfl)⟩ (fun ut_3 H locs hw_4 hP hD hS => ?_)
  have hP : va_P D vwCl [(dr, .inr (2, [.int 0, .null, .null, .null])), (q_1, .inr (6, [.int 0, .int 0, .int (-1), .int 0, .int 0, .int 0, .int 240, .ref (ut_3.1 0), .ref (ut_3.1 1), .ref (ut_3.1 2), .ref (ut_3.1 3), .ref (ut_3.1 4), .ref (ut_3.1 5), .ref (ut_3.1 6), .ref (ut_3.1 7), .ref (ut_3.1 8), .ref (ut_3.1 9)])), (ut_3.1 0, aI cs 24 (fun _ => 0)), (ut_3.1 1, aI cs 24 (fun _ => 0)), (ut_3.1 2, aI cs 24 (fun _ => 0)), (ut_3.1 3, aI cs 240 (fun _ => 0)), (ut_3.1 4, aI cs 240 (fun _ => 0)), (ut_3.1 5, aI cs 240 (ut_3.2 0)), (ut_3.1 6, aI cs 240 (fun _ => 0)), (ut_3.1 7, aI cs 240 (fun _ => 0)), (ut_3.1 8, aI cs 240 (fun _ => 0)), (ut_3.1 9, aB cs 1536 (fun _ => 0))] H := hP
  have hD : va_D A [(dr, .inr (2, [.int 0, .null, .null, .null])), (q_1, .inr (6, [.int 0, .int 0, .int (-1), .int 0, .int 0, .int 0, .int 240, .ref (ut_3.1 0), .ref (ut_3.1 1), .ref (ut_3.1 2), .ref (ut_3.1 3), .ref (ut_3.1 4), .ref (ut_3.1 5), .ref (ut_3.1 6), .ref (ut_3.1 7), .ref (ut_3.1 8), .ref (ut_3.1 9)])), (ut_3.1 0, aI cs 24 (fun _ => 0)), (ut_3.1 1, aI cs 24 (fun _ => 0)), (ut_3.1 2, aI cs 24 (fun _ => 0)), (ut_3.1 3, aI cs 240 (fun _ => 0)), (ut_3.1 4, aI cs 240 (fun _ => 0)), (ut_3.1 5, aI cs 240 (ut_3.2 0)), (ut_3.1 6, aI cs 240 (fun _ => 0)), (ut_3.1 7, aI cs 240 (fun _ => 0)), (ut_3.1 8, aI cs 240 (fun _ => 0)), (ut_3.1 9, aB cs 1536 (fun _ => 0))] := hD
  obtain ⟨uua_5, uuf_6⟩ := ut_3
  have hP : va_P D vwCl [(dr, .inr (2, [.int 0, .null, .null, .null])), (q_1, .inr (6, [.int 0, .int 0, .int (-1), .int 0, .int 0, .int 0, .int 240, .ref (uua_5 0), .ref (uua_5 1), .ref (uua_5 2), .ref (uua_5 3), .ref (uua_5 4), .ref (uua_5 5), .ref (uua_5 6), .ref (uua_5 7), .ref (uua_5 8), .ref (uua_5 9)])), (uua_5 0, aI cs 24 (fun _ => 0)), (uua_5 1, aI cs 24 (fun _ => 0)), (uua_5 2, aI cs 24 (fun _ => 0)), (uua_5 3, aI cs 240 (fun _ => 0)), (uua_5 4, aI cs 240 (fun _ => 0)), (uua_5 5, aI cs 240 (uuf_6 0)), (uua_5 6, aI cs 240 (fun _ => 0)), (uua_5 7, aI cs 240 (fun _ => 0)), (uua_5 8, aI cs 240 (fun _ => 0)), (uua_5 9, aB cs 1536 (fun _ => 0))] H := hP
  have hD : va_D A [(dr, .inr (2, [.int 0, .null, .null, .null])), (q_1, .inr (6, [.int 0, .int 0, .int (-1), .int 0, .int 0, .int 0, .int 240, .ref (uua_5 0), .ref (uua_5 1), .ref (uua_5 2), .ref (uua_5 3), .ref (uua_5 4), .ref (uua_5 5), .ref (uua_5 6), .ref (uua_5 7), .ref (uua_5 8), .ref (uua_5 9)])), (uua_5 0, aI cs 24 (fun _ => 0)), (uua_5 1, aI cs 24 (fun _ => 0)), (uua_5 2, aI cs 24 (fun _ => 0)), (uua_5 3, aI cs 240 (fun _ => 0)), (uua_5 4, aI cs 240 (fun _ => 0)), (uua_5 5, aI cs 240 (uuf_6 0)), (uua_5 6, aI cs 240 (fun _ => 0)), (uua_5 7, aI cs 240 (fun _ => 0)), (uua_5 8, aI cs 240 (fun _ => 0)), (uua_5 9, aB cs 1536 (fun _ => 0))] := hD
  try dsimp only at hw_4
  have hf_7 := hw_4
  refine va_putF (D := D) (ci := 2) (v := .ref q_1) (ty := tyX2 1) (C := RX2) (T := TX2) (N := 4) hx hb hu in_X2 tyX2 tyX2_ok nmX2 hown hK.1 hP hD hS 0 rfl rfl 1 (by decide) (hu _ u_319) (fun _ h9 => h9) rfl hin rfl (tyX2_ok 1 (by decide)) rfl rfl (Nat.le_of_ble_eq_true rfl) dX2_init_12 (fun H locs hP hD hS => ?_)
  have hP : va_P D vwCl [(dr, .inr (2, [.int 0, .ref q_1, .null, .null])), (q_1, .inr (6, [.int 0, .int 0, .int (-1), .int 0, .int 0, .int 0, .int 240, .ref (uua_5 0), .ref (uua_5 1), .ref (uua_5 2), .ref (uua_5 3), .ref (uua_5 4), .ref (uua_5 5), .ref (uua_5 6), .ref (uua_5 7), .ref (uua_5 8), .ref (uua_5 9)])), (uua_5 0, aI cs 24 (fun _ => 0)), (uua_5 1, aI cs 24 (fun _ => 0)), (uua_5 2, aI cs 24 (fun _ => 0)), (uua_5 3, aI cs 240 (fun _ => 0)), (uua_5 4, aI cs 240 (fun _ => 0)), (uua_5 5, aI cs 240 (uuf_6 0)), (uua_5 6, aI cs 240 (fun _ => 0)), (uua_5 7, aI cs 240 (fun _ => 0)), (uua_5 8, aI cs 240 (fun _ => 0)), (uua_5 9, aB cs 1536 (fun _ => 0))] H := hP
  have hD : va_D A [(dr, .inr (2, [.int 0, .ref q_1, .null, .null])), (q_1, .inr (6, [.int 0, .int 0, .int (-1), .int 0, .int 0, .int 0, .int 240, .ref (uua_5 0), .ref (uua_5 1), .ref (uua_5 2), .ref (uua_5 3), .ref (uua_5 4), .ref (uua_5 5), .ref (uua_5 6), .ref (uua_5 7), .ref (uua_5 8), .ref (uua_5 9)])), (uua_5 0, aI cs 24 (fun _ => 0)), (uua_5 1, aI cs 24 (fun _ => 0)), (uua_5 2, aI cs 24 (fun _ => 0)), (uua_5 3, aI cs 240 (fun _ => 0)), (uua_5 4, aI cs 240 (fun _ => 0)), (uua_5 5, aI cs 240 (uuf_6 0)), (uua_5 6, aI cs 240 (fun _ => 0)), (uua_5 7, aI cs 240 (fun _ => 0)), (uua_5 8, aI cs 240 (fun _ => 0)), (uua_5 9, aB cs 1536 (fun _ => 0))] := hD
  refine lv_aload_n hx hb dX2_init_15 rfl (lv_at hl 0 rfl) ?_
  refine va_new (D := D) (ci := 3) (fs := [.int 0, .null, .null, .null, .null, .null, .null]) (C := RX3) (T := TX3) (N := 7) hx hb hu in_X3 tyX3 tyX3_ok hown (hu _ u_265) (hu _ u_266) (hu _ u_74) hK.1 hP hD hS hA rfl df_X3 (Nat.le_of_ble_eq_true rfl) (Nat.le_of_ble_eq_true rfl) dX2_init_16 (fun q_8 H hP hD hS => ?_)
  have hP : va_P D vwCl [(dr, .inr (2, [.int 0, .ref q_1, .null, .null])), (q_1, .inr (6, [.int 0, .int 0, .int (-1), .int 0, .int 0, .int 0, .int 240, .ref (uua_5 0), .ref (uua_5 1), .ref (uua_5 2), .ref (uua_5 3), .ref (uua_5 4), .ref (uua_5 5), .ref (uua_5 6), .ref (uua_5 7), .ref (uua_5 8), .ref (uua_5 9)])), (uua_5 0, aI cs 24 (fun _ => 0)), (uua_5 1, aI cs 24 (fun _ => 0)), (uua_5 2, aI cs 24 (fun _ => 0)), (uua_5 3, aI cs 240 (fun _ => 0)), (uua_5 4, aI cs 240 (fun _ => 0)), (uua_5 5, aI cs 240 (uuf_6 0)), (uua_5 6, aI cs 240 (fun _ => 0)), (uua_5 7, aI cs 240 (fun _ => 0)), (uua_5 8, aI cs 240 (fun _ => 0)), (uua_5 9, aB cs 1536 (fun _ => 0)), (q_8, .inr (3, [.int 0, .null, .null, .null, .null, .null, .null]))] H := hP
  have hD : va_D A [(dr, .inr (2, [.int 0, .ref q_1, .null, .null])), (q_1, .inr (6, [.int 0, .int 0, .int (-1), .int 0, .int 0, .int 0, .int 240, .ref (uua_5 0), .ref (uua_5 1), .ref (uua_5 2), .ref (uua_5 3), .ref (uua_5 4), .ref (uua_5 5), .ref (uua_5 6), .ref (uua_5 7), .ref (uua_5 8), .ref (uua_5 9)])), (uua_5 0, aI cs 24 (fun _ => 0)), (uua_5 1, aI cs 24 (fun _ => 0)), (uua_5 2, aI cs 24 (fun _ => 0)), (uua_5 3, aI cs 240 (fun _ => 0)), (uua_5 4, aI cs 240 (fun _ => 0)), (uua_5 5, aI cs 240 (uuf_6 0)), (uua_5 6, aI cs 240 (fun _ => 0)), (uua_5 7, aI cs 240 (fun _ => 0)), (uua_5 8, aI cs 240 (fun _ => 0)), (uua_5 9, aB cs 1536 (fun _ => 0)), (q_8, .inr (3, [.int 0, .null, .null, .null, .null, .null, .null]))] := hD
  refine lv_dup hx hb dX2_init_19 rfl ?_
  refine kI_v  (As := []) (rest := [.ref q_8, .ref dr]) (wc := [(q_8, .inr (3, [.int 0, .null, .null, .null, .null, .null, .null]))]) (wr := [(dr, .inr (2, [.int 0, .ref q_1, .null, .null])), (q_1, .inr (6, [.int 0, .int 0, .int (-1), .int 0, .int 0, .int 0, .int 240, .ref (uua_5 0), .ref (uua_5 1), .ref (uua_5 2), .ref (uua_5 3), .ref (uua_5 4), .ref (uua_5 5), .ref (uua_5 6), .ref (uua_5 7), .ref (uua_5 8), .ref (uua_5 9)])), (uua_5 0, aI cs 24 (fun _ => 0)), (uua_5 1, aI cs 24 (fun _ => 0)), (uua_5 2, aI cs 24 (fun _ => 0)), (uua_5 3, aI cs 240 (fun _ => 0)), (uua_5 4, aI cs 240 (fun _ => 0)), (uua_5 5, aI cs 240 (uuf_6 0)), (uua_5 6, aI cs 240 (fun _ => 0)), (uua_5 7, aI cs 240 (fun _ => 0)), (uua_5 8, aI cs 240 (fun _ => 0)), (uua_5 9, aB cs 1536 (fun _ => 0))]) hx hb hml hown hu hK hP hD hS hA hl.1 (c_X3_init l D cs H.size q_8) u_269 u_267 u_268 u_74 rfl hd_X3_init.2 ⟨(Nat.le_of_ble_eq_true rfl), (Nat.le_of_ble_eq_true rfl)⟩ [12] [0, 1, 2, 3, 4, 5, 6, 7, 8, 9, 10, 11] rfl rfl rfl rfl (by decide) rfl rfl (Nat.le_of_ble_eq_true rfl) dX2_init_20 ⟨(Nat.le_of_ble_eq_true rfl), (Nat.le_of_ble_eq_true rfl)⟩ (fun ut_10 H locs hw_11 hP hD hS => ?_)
  have hP : va_P D vwCl [(dr, .inr (2, [.int 0, .ref q_1, .null, .null])), (q_1, .inr (6, [.int 0, .int 0, .int (-1), .int 0, .int 0, .int 0, .int 240, .ref (uua_5 0), .ref (uua_5 1), .ref (uua_5 2), .ref (uua_5 3), .ref (uua_5 4), .ref (uua_5 5), .ref (uua_5 6), .ref (uua_5 7), .ref (uua_5 8), .ref (uua_5 9)])), (uua_5 0, aI cs 24 (fun _ => 0)), (uua_5 1, aI cs 24 (fun _ => 0)), (uua_5 2, aI cs 24 (fun _ => 0)), (uua_5 3, aI cs 240 (fun _ => 0)), (uua_5 4, aI cs 240 (fun _ => 0)), (uua_5 5, aI cs 240 (uuf_6 0)), (uua_5 6, aI cs 240 (fun _ => 0)), (uua_5 7, aI cs 240 (fun _ => 0)), (uua_5 8, aI cs 240 (fun _ => 0)), (uua_5 9, aB cs 1536 (fun _ => 0)), (q_8, .inr (3, [.int 0, .ref (ut_10.1 0), .ref (ut_10.1 1), .ref (ut_10.1 2), .ref (ut_10.1 3), .ref (ut_10.1 4), .ref (ut_10.1 5)])), (ut_10.1 0, aI cs 240 (ut_10.2 0)), (ut_10.1 1, aJ cs 240 (fun _ => 0)), (ut_10.1 2, aI cs 240 (fun _ => 0)), (ut_10.1 3, aI cs 240 (fun _ => 0)), (ut_10.1 4, aI cs 2160 (fun _ => 0)), (ut_10.1 5, aI cs 2160 (fun _ => 0))] H := hP
  have hD : va_D A [(dr, .inr (2, [.int 0, .ref q_1, .null, .null])), (q_1, .inr (6, [.int 0, .int 0, .int (-1), .int 0, .int 0, .int 0, .int 240, .ref (uua_5 0), .ref (uua_5 1), .ref (uua_5 2), .ref (uua_5 3), .ref (uua_5 4), .ref (uua_5 5), .ref (uua_5 6), .ref (uua_5 7), .ref (uua_5 8), .ref (uua_5 9)])), (uua_5 0, aI cs 24 (fun _ => 0)), (uua_5 1, aI cs 24 (fun _ => 0)), (uua_5 2, aI cs 24 (fun _ => 0)), (uua_5 3, aI cs 240 (fun _ => 0)), (uua_5 4, aI cs 240 (fun _ => 0)), (uua_5 5, aI cs 240 (uuf_6 0)), (uua_5 6, aI cs 240 (fun _ => 0)), (uua_5 7, aI cs 240 (fun _ => 0)), (uua_5 8, aI cs 240 (fun _ => 0)), (uua_5 9, aB cs 1536 (fun _ => 0)), (q_8, .inr (3, [.int 0, .ref (ut_10.1 0), .ref (ut_10.1 1), .ref (ut_10.1 2), .ref (ut_10.1 3), .ref (ut_10.1 4), .ref (ut_10.1 5)])), (ut_10.1 0, aI cs 240 (ut_10.2 0)), (ut_10.1 1, aJ cs 240 (fun _ => 0)), (ut_10.1 2, aI cs 240 (fun _ => 0)), (ut_10.1 3, aI cs 240 (fun _ => 0)), (ut_10.1 4, aI cs 2160 (fun _ => 0)), (ut_10.1 5, aI cs 2160 (fun _ => 0))] := hD
  obtain ⟨uua_12, uuf_13⟩ := ut_10
  have hP : va_P D vwCl [(dr, .inr (2, [.int 0, .ref q_1, .null, .null])), (q_1, .inr (6, [.int 0, .int 0, .int (-1), .int 0, .int 0, .int 0, .int 240, .ref (uua_5 0), .ref (uua_5 1), .ref (uua_5 2), .ref (uua_5 3), .ref (uua_5 4), .ref (uua_5 5), .ref (uua_5 6), .ref (uua_5 7), .ref (uua_5 8), .ref (uua_5 9)])), (uua_5 0, aI cs 24 (fun _ => 0)), (uua_5 1, aI cs 24 (fun _ => 0)), (uua_5 2, aI cs 24 (fun _ => 0)), (uua_5 3, aI cs 240 (fun _ => 0)), (uua_5 4, aI cs 240 (fun _ => 0)), (uua_5 5, aI cs 240 (uuf_6 0)), (uua_5 6, aI cs 240 (fun _ => 0)), (uua_5 7, aI cs 240 (fun _ => 0)), (uua_5 8, aI cs 240 (fun _ => 0)), (uua_5 9, aB cs 1536 (fun _ => 0)), (q_8, .inr (3, [.int 0, .ref (uua_12 0), .ref (uua_12 1), .ref (uua_12 2), .ref (uua_12 3), .ref (uua_12 4), .ref (uua_12 5)])), (uua_12 0, aI cs 240 (uuf_13 0)), (uua_12 1, aJ cs 240 (fun _ => 0)), (uua_12 2, aI cs 240 (fun _ => 0)), (uua_12 3, aI cs 240 (fun _ => 0)), (uua_12 4, aI cs 2160 (fun _ => 0)), (uua_12 5, aI cs 2160 (fun _ => 0))] H := hP
  have hD : va_D A [(dr, .inr (2, [.int 0, .ref q_1, .null, .null])), (q_1, .inr (6, [.int 0, .int 0, .int (-1), .int 0, .int 0, .int 0, .int 240, .ref (uua_5 0), .ref (uua_5 1), .ref (uua_5 2), .ref (uua_5 3), .ref (uua_5 4), .ref (uua_5 5), .ref (uua_5 6), .ref (uua_5 7), .ref (uua_5 8), .ref (uua_5 9)])), (uua_5 0, aI cs 24 (fun _ => 0)), (uua_5 1, aI cs 24 (fun _ => 0)), (uua_5 2, aI cs 24 (fun _ => 0)), (uua_5 3, aI cs 240 (fun _ => 0)), (uua_5 4, aI cs 240 (fun _ => 0)), (uua_5 5, aI cs 240 (uuf_6 0)), (uua_5 6, aI cs 240 (fun _ => 0)), (uua_5 7, aI cs 240 (fun _ => 0)), (uua_5 8, aI cs 240 (fun _ => 0)), (uua_5 9, aB cs 1536 (fun _ => 0)), (q_8, .inr (3, [.int 0, .ref (uua_12 0), .ref (uua_12 1), .ref (uua_12 2), .ref (uua_12 3), .ref (uua_12 4), .ref (uua_12 5)])), (uua_12 0, aI cs 240 (uuf_13 0)), (uua_12 1, aJ cs 240 (fun _ => 0)), (uua_12 2, aI cs 240 (fun _ => 0)), (uua_12 3, aI cs 240 (fun _ => 0)), (uua_12 4, aI cs 2160 (fun _ => 0)), (uua_12 5, aI cs 2160 (fun _ => 0))] := hD
  try dsimp only at hw_11
  refine va_putF (D := D) (ci := 2) (v := .ref q_8) (ty := tyX2 2) (C := RX2) (T := TX2) (N := 4) hx hb hu in_X2 tyX2 tyX2_ok nmX2 hown hK.1 hP hD hS 0 rfl rfl 2 (by decide) (hu _ u_322) (fun _ h9 => h9) rfl hin rfl (tyX2_ok 2 (by decide)) rfl rfl (Nat.le_of_ble_eq_true rfl) dX2_init_23 (fun H locs hP hD hS => ?_)
  have hP : va_P D vwCl [(dr, .inr (2, [.int 0, .ref q_1, .ref q_8, .null])), (q_1, .inr (6, [.int 0, .int 0, .int (-1), .int 0, .int 0, .int 0, .int 240, .ref (uua_5 0), .ref (uua_5 1), .ref (uua_5 2), .ref (uua_5 3), .ref (uua_5 4), .ref (uua_5 5), .ref (uua_5 6), .ref (uua_5 7), .ref (uua_5 8), .ref (uua_5 9)])), (uua_5 0, aI cs 24 (fun _ => 0)), (uua_5 1, aI cs 24 (fun _ => 0)), (uua_5 2, aI cs 24 (fun _ => 0)), (uua_5 3, aI cs 240 (fun _ => 0)), (uua_5 4, aI cs 240 (fun _ => 0)), (uua_5 5, aI cs 240 (uuf_6 0)), (uua_5 6, aI cs 240 (fun _ => 0)), (uua_5 7, aI cs 240 (fun _ => 0)), (uua_5 8, aI cs 240 (fun _ => 0)), (uua_5 9, aB cs 1536 (fun _ => 0)), (q_8, .inr (3, [.int 0, .ref (uua_12 0), .ref (uua_12 1), .ref (uua_12 2), .ref (uua_12 3), .ref (uua_12 4), .ref (uua_12 5)])), (uua_12 0, aI cs 240 (uuf_13 0)), (uua_12 1, aJ cs 240 (fun _ => 0)), (uua_12 2, aI cs 240 (fun _ => 0)), (uua_12 3, aI cs 240 (fun _ => 0)), (uua_12 4, aI cs 2160 (fun _ => 0)), (uua_12 5, aI cs 2160 (fun _ => 0))] H := hP
  have hD : va_D A [(dr, .inr (2, [.int 0, .ref q_1, .ref q_8, .null])), (q_1, .inr (6, [.int 0, .int 0, .int (-1), .int 0, .int 0, .int 0, .int 240, .ref (uua_5 0), .ref (uua_5 1), .ref (uua_5 2), .ref (uua_5 3), .ref (uua_5 4), .ref (uua_5 5), .ref (uua_5 6), .ref (uua_5 7), .ref (uua_5 8), .ref (uua_5 9)])), (uua_5 0, aI cs 24 (fun _ => 0)), (uua_5 1, aI cs 24 (fun _ => 0)), (uua_5 2, aI cs 24 (fun _ => 0)), (uua_5 3, aI cs 240 (fun _ => 0)), (uua_5 4, aI cs 240 (fun _ => 0)), (uua_5 5, aI cs 240 (uuf_6 0)), (uua_5 6, aI cs 240 (fun _ => 0)), (uua_5 7, aI cs 240 (fun _ => 0)), (uua_5 8, aI cs 240 (fun _ => 0)), (uua_5 9, aB cs 1536 (fun _ => 0)), (q_8, .inr (3, [.int 0, .ref (uua_12 0), .ref (uua_12 1), .ref (uua_12 2), .ref (uua_12 3), .ref (uua_12 4), .ref (uua_12 5)])), (uua_12 0, aI cs 240 (uuf_13 0)), (uua_12 1, aJ cs 240 (fun _ => 0)), (uua_12 2, aI cs 240 (fun _ => 0)), (uua_12 3, aI cs 240 (fun _ => 0)), (uua_12 4, aI cs 2160 (fun _ => 0)), (uua_12 5, aI cs 2160 (fun _ => 0))] := hD
  refine lv_aload_n hx hb dX2_init_26 rfl (lv_at hl 0 rfl) ?_
  refine va_new (D := D) (ci := 4) (fs := [.null, .null, .null, .null]) (C := RX4) (T := TX4) (N := 4) hx hb hu in_X4 tyX4 tyX4_ok hown (hu _ u_297) (hu _ u_298) (hu _ u_75) hK.1 hP hD hS hA rfl df_X4 (Nat.le_of_ble_eq_true rfl) (Nat.le_of_ble_eq_true rfl) dX2_init_27 (fun q_14 H hP hD hS => ?_)
  have hP : va_P D vwCl [(dr, .inr (2, [.int 0, .ref q_1, .ref q_8, .null])), (q_1, .inr (6, [.int 0, .int 0, .int (-1), .int 0, .int 0, .int 0, .int 240, .ref (uua_5 0), .ref (uua_5 1), .ref (uua_5 2), .ref (uua_5 3), .ref (uua_5 4), .ref (uua_5 5), .ref (uua_5 6), .ref (uua_5 7), .ref (uua_5 8), .ref (uua_5 9)])), (uua_5 0, aI cs 24 (fun _ => 0)), (uua_5 1, aI cs 24 (fun _ => 0)), (uua_5 2, aI cs 24 (fun _ => 0)), (uua_5 3, aI cs 240 (fun _ => 0)), (uua_5 4, aI cs 240 (fun _ => 0)), (uua_5 5, aI cs 240 (uuf_6 0)), (uua_5 6, aI cs 240 (fun _ => 0)), (uua_5 7, aI cs 240 (fun _ => 0)), (uua_5 8, aI cs 240 (fun _ => 0)), (uua_5 9, aB cs 1536 (fun _ => 0)), (q_8, .inr (3, [.int 0, .ref (uua_12 0), .ref (uua_12 1), .ref (uua_12 2), .ref (uua_12 3), .ref (uua_12 4), .ref (uua_12 5)])), (uua_12 0, aI cs 240 (uuf_13 0)), (uua_12 1, aJ cs 240 (fun _ => 0)), (uua_12 2, aI cs 240 (fun _ => 0)), (uua_12 3, aI cs 240 (fun _ => 0)), (uua_12 4, aI cs 2160 (fun _ => 0)), (uua_12 5, aI cs 2160 (fun _ => 0)), (q_14, .inr (4, [.null, .null, .null, .null]))] H := hP
  have hD : va_D A [(dr, .inr (2, [.int 0, .ref q_1, .ref q_8, .null])), (q_1, .inr (6, [.int 0, .int 0, .int (-1), .int 0, .int 0, .int 0, .int 240, .ref (uua_5 0), .ref (uua_5 1), .ref (uua_5 2), .ref (uua_5 3), .ref (uua_5 4), .ref (uua_5 5), .ref (uua_5 6), .ref (uua_5 7), .ref (uua_5 8), .ref (uua_5 9)])), (uua_5 0, aI cs 24 (fun _ => 0)), (uua_5 1, aI cs 24 (fun _ => 0)), (uua_5 2, aI cs 24 (fun _ => 0)), (uua_5 3, aI cs 240 (fun _ => 0)), (uua_5 4, aI cs 240 (fun _ => 0)), (uua_5 5, aI cs 240 (uuf_6 0)), (uua_5 6, aI cs 240 (fun _ => 0)), (uua_5 7, aI cs 240 (fun _ => 0)), (uua_5 8, aI cs 240 (fun _ => 0)), (uua_5 9, aB cs 1536 (fun _ => 0)), (q_8, .inr (3, [.int 0, .ref (uua_12 0), .ref (uua_12 1), .ref (uua_12 2), .ref (uua_12 3), .ref (uua_12 4), .ref (uua_12 5)])), (uua_12 0, aI cs 240 (uuf_13 0)), (uua_12 1, aJ cs 240 (fun _ => 0)), (uua_12 2, aI cs 240 (fun _ => 0)), (uua_12 3, aI cs 240 (fun _ => 0)), (uua_12 4, aI cs 2160 (fun _ => 0)), (uua_12 5, aI cs 2160 (fun _ => 0)), (q_14, .inr (4, [.null, .null, .null, .null]))] := hD
  refine lv_dup hx hb dX2_init_30 rfl ?_
  refine kI_v  (As := []) (rest := [.ref q_14, .ref dr]) (wc := [(q_14, .inr (4, [.null, .null, .null, .null]))]) (wr := [(dr, .inr (2, [.int 0, .ref q_1, .ref q_8, .null])), (q_1, .inr (6, [.int 0, .int 0, .int (-1), .int 0, .int 0, .int 0, .int 240, .ref (uua_5 0), .ref (uua_5 1), .ref (uua_5 2), .ref (uua_5 3), .ref (uua_5 4), .ref (uua_5 5), .ref (uua_5 6), .ref (uua_5 7), .ref (uua_5 8), .ref (uua_5 9)])), (uua_5 0, aI cs 24 (fun _ => 0)), (uua_5 1, aI cs 24 (fun _ => 0)), (uua_5 2, aI cs 24 (fun _ => 0)), (uua_5 3, aI cs 240 (fun _ => 0)), (uua_5 4, aI cs 240 (fun _ => 0)), (uua_5 5, aI cs 240 (uuf_6 0)), (uua_5 6, aI cs 240 (fun _ => 0)), (uua_5 7, aI cs 240 (fun _ => 0)), (uua_5 8, aI cs 240 (fun _ => 0)), (uua_5 9, aB cs 1536 (fun _ => 0)), (q_8, .inr (3, [.int 0, .ref (uua_12 0), .ref (uua_12 1), .ref (uua_12 2), .ref (uua_12 3), .ref (uua_12 4), .ref (uua_12 5)])), (uua_12 0, aI cs 240 (uuf_13 0)), (uua_12 1, aJ cs 240 (fun _ => 0)), (uua_12 2, aI cs 240 (fun _ => 0)), (uua_12 3, aI cs 240 (fun _ => 0)), (uua_12 4, aI cs 2160 (fun _ => 0)), (uua_12 5, aI cs 2160 (fun _ => 0))]) hx hb hml hown hu hK hP hD hS hA hl.1 (c_X4_init l D cs H.size q_14) u_301 u_299 u_300 u_75 rfl hd_X4_init.2 ⟨(Nat.le_of_ble_eq_true rfl), (Nat.le_of_ble_eq_true rfl)⟩ [19] [0, 1, 2, 3, 4, 5, 6, 7, 8, 9, 10, 11, 12, 13, 14, 15, 16, 17, 18] rfl rfl rfl rfl (by decide) rfl rfl (Nat.le_of_ble_eq_true rfl) dX2_init_31 ⟨(Nat.le_of_ble_eq_true rfl), (Nat.le_of_ble_eq_true rfl)⟩ (fun ut_16 H locs hw_17 hP hD hS => ?_)
  have hP : va_P D vwCl [(dr, .inr (2, [.int 0, .ref q_1, .ref q_8, .null])), (q_1, .inr (6, [.int 0, .int 0, .int (-1), .int 0, .int 0, .int 0, .int 240, .ref (uua_5 0), .ref (uua_5 1), .ref (uua_5 2), .ref (uua_5 3), .ref (uua_5 4), .ref (uua_5 5), .ref (uua_5 6), .ref (uua_5 7), .ref (uua_5 8), .ref (uua_5 9)])), (uua_5 0, aI cs 24 (fun _ => 0)), (uua_5 1, aI cs 24 (fun _ => 0)), (uua_5 2, aI cs 24 (fun _ => 0)), (uua_5 3, aI cs 240 (fun _ => 0)), (uua_5 4, aI cs 240 (fun _ => 0)), (uua_5 5, aI cs 240 (uuf_6 0)), (uua_5 6, aI cs 240 (fun _ => 0)), (uua_5 7, aI cs 240 (fun _ => 0)), (uua_5 8, aI cs 240 (fun _ => 0)), (uua_5 9, aB cs 1536 (fun _ => 0)), (q_8, .inr (3, [.int 0, .ref (uua_12 0), .ref (uua_12 1), .ref (uua_12 2), .ref (uua_12 3), .ref (uua_12 4), .ref (uua_12 5)])), (uua_12 0, aI cs 240 (uuf_13 0)), (uua_12 1, aJ cs 240 (fun _ => 0)), (uua_12 2, aI cs 240 (fun _ => 0)), (uua_12 3, aI cs 240 (fun _ => 0)), (uua_12 4, aI cs 2160 (fun _ => 0)), (uua_12 5, aI cs 2160 (fun _ => 0)), (q_14, .inr (4, [.ref (ut_16.1 0), .ref (ut_16.1 1), .ref (ut_16.1 2), .ref (ut_16.1 3)])), (ut_16.1 0, aI cs 7 (ut_16.2 0)), (ut_16.1 1, aJ cs 3 (fun _ => 0)), (ut_16.1 2, aI cs 3 (fun _ => 0)), (ut_16.1 3, aI cs 3 (fun _ => 0))] H := hP
  have hD : va_D A [(dr, .inr (2, [.int 0, .ref q_1, .ref q_8, .null])), (q_1, .inr (6, [.int 0, .int 0, .int (-1), .int 0, .int 0, .int 0, .int 240, .ref (uua_5 0), .ref (uua_5 1), .ref (uua_5 2), .ref (uua_5 3), .ref (uua_5 4), .ref (uua_5 5), .ref (uua_5 6), .ref (uua_5 7), .ref (uua_5 8), .ref (uua_5 9)])), (uua_5 0, aI cs 24 (fun _ => 0)), (uua_5 1, aI cs 24 (fun _ => 0)), (uua_5 2, aI cs 24 (fun _ => 0)), (uua_5 3, aI cs 240 (fun _ => 0)), (uua_5 4, aI cs 240 (fun _ => 0)), (uua_5 5, aI cs 240 (uuf_6 0)), (uua_5 6, aI cs 240 (fun _ => 0)), (uua_5 7, aI cs 240 (fun _ => 0)), (uua_5 8, aI cs 240 (fun _ => 0)), (uua_5 9, aB cs 1536 (fun _ => 0)), (q_8, .inr (3, [.int 0, .ref (uua_12 0), .ref (uua_12 1), .ref (uua_12 2), .ref (uua_12 3), .ref (uua_12 4), .ref (uua_12 5)])), (uua_12 0, aI cs 240 (uuf_13 0)), (uua_12 1, aJ cs 240 (fun _ => 0)), (uua_12 2, aI cs 240 (fun _ => 0)), (uua_12 3, aI cs 240 (fun _ => 0)), (uua_12 4, aI cs 2160 (fun _ => 0)), (uua_12 5, aI cs 2160 (fun _ => 0)), (q_14, .inr (4, [.ref (ut_16.1 0), .ref (ut_16.1 1), .ref (ut_16.1 2), .ref (ut_16.1 3)])), (ut_16.1 0, aI cs 7 (ut_16.2 0)), (ut_16.1 1, aJ cs 3 (fun _ => 0)), (ut_16.1 2, aI cs 3 (fun _ => 0)), (ut_16.1 3, aI cs 3 (fun _ => 0))] := hD
  obtain ⟨uua_18, uuf_19⟩ := ut_16
  have hP : va_P D vwCl [(dr, .inr (2, [.int 0, .ref q_1, .ref q_8, .null])), (q_1, .inr (6, [.int 0, .int 0, .int (-1), .int 0, .int 0, .int 0, .int 240, .ref (uua_5 0), .ref (uua_5 1), .ref (uua_5 2), .ref (uua_5 3), .ref (uua_5 4), .ref (uua_5 5), .ref (uua_5 6), .ref (uua_5 7), .ref (uua_5 8), .ref (uua_5 9)])), (uua_5 0, aI cs 24 (fun _ => 0)), (uua_5 1, aI cs 24 (fun _ => 0)), (uua_5 2, aI cs 24 (fun _ => 0)), (uua_5 3, aI cs 240 (fun _ => 0)), (uua_5 4, aI cs 240 (fun _ => 0)), (uua_5 5, aI cs 240 (uuf_6 0)), (uua_5 6, aI cs 240 (fun _ => 0)), (uua_5 7, aI cs 240 (fun _ => 0)), (uua_5 8, aI cs 240 (fun _ => 0)), (uua_5 9, aB cs 1536 (fun _ => 0)), (q_8, .inr (3, [.int 0, .ref (uua_12 0), .ref (uua_12 1), .ref (uua_12 2), .ref (uua_12 3), .ref (uua_12 4), .ref (uua_12 5)])), (uua_12 0, aI cs 240 (uuf_13 0)), (uua_12 1, aJ cs 240 (fun _ => 0)), (uua_12 2, aI cs 240 (fun _ => 0)), (uua_12 3, aI cs 240 (fun _ => 0)), (uua_12 4, aI cs 2160 (fun _ => 0)), (uua_12 5, aI cs 2160 (fun _ => 0)), (q_14, .inr (4, [.ref (uua_18 0), .ref (uua_18 1), .ref (uua_18 2), .ref (uua_18 3)])), (uua_18 0, aI cs 7 (uuf_19 0)), (uua_18 1, aJ cs 3 (fun _ => 0)), (uua_18 2, aI cs 3 (fun _ => 0)), (uua_18 3, aI cs 3 (fun _ => 0))] H := hP
  have hD : va_D A [(dr, .inr (2, [.int 0, .ref q_1, .ref q_8, .null])), (q_1, .inr (6, [.int 0, .int 0, .int (-1), .int 0, .int 0, .int 0, .int 240, .ref (uua_5 0), .ref (uua_5 1), .ref (uua_5 2), .ref (uua_5 3), .ref (uua_5 4), .ref (uua_5 5), .ref (uua_5 6), .ref (uua_5 7), .ref (uua_5 8), .ref (uua_5 9)])), (uua_5 0, aI cs 24 (fun _ => 0)), (uua_5 1, aI cs 24 (fun _ => 0)), (uua_5 2, aI cs 24 (fun _ => 0)), (uua_5 3, aI cs 240 (fun _ => 0)), (uua_5 4, aI cs 240 (fun _ => 0)), (uua_5 5, aI cs 240 (uuf_6 0)), (uua_5 6, aI cs 240 (fun _ => 0)), (uua_5 7, aI cs 240 (fun _ => 0)), (uua_5 8, aI cs 240 (fun _ => 0)), (uua_5 9, aB cs 1536 (fun _ => 0)), (q_8, .inr (3, [.int 0, .ref (uua_12 0), .ref (uua_12 1), .ref (uua_12 2), .ref (uua_12 3), .ref (uua_12 4), .ref (uua_12 5)])), (uua_12 0, aI cs 240 (uuf_13 0)), (uua_12 1, aJ cs 240 (fun _ => 0)), (uua_12 2, aI cs 240 (fun _ => 0)), (uua_12 3, aI cs 240 (fun _ => 0)), (uua_12 4, aI cs 2160 (fun _ => 0)), (uua_12 5, aI cs 2160 (fun _ => 0)), (q_14, .inr (4, [.ref (uua_18 0), .ref (uua_18 1), .ref (uua_18 2), .ref (uua_18 3)])), (uua_18 0, aI cs 7 (uuf_19 0)), (uua_18 1, aJ cs 3 (fun _ => 0)), (uua_18 2, aI cs 3 (fun _ => 0)), (uua_18 3, aI cs 3 (fun _ => 0))] := hD
  try dsimp only at hw_17
  have hf_20 := hw_17
  refine va_putF (D := D) (ci := 2) (v := .ref q_14) (ty := tyX2 3) (C := RX2) (T := TX2) (N := 4) hx hb hu in_X2 tyX2 tyX2_ok nmX2 hown hK.1 hP hD hS 0 rfl rfl 3 (by decide) (hu _ u_326) (fun _ h9 => h9) rfl hin rfl (tyX2_ok 3 (by decide)) rfl rfl (Nat.le_of_ble_eq_true rfl) dX2_init_34 (fun H locs hP hD hS => ?_)
  have hP : va_P D vwCl [(dr, .inr (2, [.int 0, .ref q_1, .ref q_8, .ref q_14])), (q_1, .inr (6, [.int 0, .int 0, .int (-1), .int 0, .int 0, .int 0, .int 240, .ref (uua_5 0), .ref (uua_5 1), .ref (uua_5 2), .ref (uua_5 3), .ref (uua_5 4), .ref (uua_5 5), .ref (uua_5 6), .ref (uua_5 7), .ref (uua_5 8), .ref (uua_5 9)])), (uua_5 0, aI cs 24 (fun _ => 0)), (uua_5 1, aI cs 24 (fun _ => 0)), (uua_5 2, aI cs 24 (fun _ => 0)), (uua_5 3, aI cs 240 (fun _ => 0)), (uua_5 4, aI cs 240 (fun _ => 0)), (uua_5 5, aI cs 240 (uuf_6 0)), (uua_5 6, aI cs 240 (fun _ => 0)), (uua_5 7, aI cs 240 (fun _ => 0)), (uua_5 8, aI cs 240 (fun _ => 0)), (uua_5 9, aB cs 1536 (fun _ => 0)), (q_8, .inr (3, [.int 0, .ref (uua_12 0), .ref (uua_12 1), .ref (uua_12 2), .ref (uua_12 3), .ref (uua_12 4), .ref (uua_12 5)])), (uua_12 0, aI cs 240 (uuf_13 0)), (uua_12 1, aJ cs 240 (fun _ => 0)), (uua_12 2, aI cs 240 (fun _ => 0)), (uua_12 3, aI cs 240 (fun _ => 0)), (uua_12 4, aI cs 2160 (fun _ => 0)), (uua_12 5, aI cs 2160 (fun _ => 0)), (q_14, .inr (4, [.ref (uua_18 0), .ref (uua_18 1), .ref (uua_18 2), .ref (uua_18 3)])), (uua_18 0, aI cs 7 (uuf_19 0)), (uua_18 1, aJ cs 3 (fun _ => 0)), (uua_18 2, aI cs 3 (fun _ => 0)), (uua_18 3, aI cs 3 (fun _ => 0))] H := hP
  have hD : va_D A [(dr, .inr (2, [.int 0, .ref q_1, .ref q_8, .ref q_14])), (q_1, .inr (6, [.int 0, .int 0, .int (-1), .int 0, .int 0, .int 0, .int 240, .ref (uua_5 0), .ref (uua_5 1), .ref (uua_5 2), .ref (uua_5 3), .ref (uua_5 4), .ref (uua_5 5), .ref (uua_5 6), .ref (uua_5 7), .ref (uua_5 8), .ref (uua_5 9)])), (uua_5 0, aI cs 24 (fun _ => 0)), (uua_5 1, aI cs 24 (fun _ => 0)), (uua_5 2, aI cs 24 (fun _ => 0)), (uua_5 3, aI cs 240 (fun _ => 0)), (uua_5 4, aI cs 240 (fun _ => 0)), (uua_5 5, aI cs 240 (uuf_6 0)), (uua_5 6, aI cs 240 (fun _ => 0)), (uua_5 7, aI cs 240 (fun _ => 0)), (uua_5 8, aI cs 240 (fun _ => 0)), (uua_5 9, aB cs 1536 (fun _ => 0)), (q_8, .inr (3, [.int 0, .ref (uua_12 0), .ref (uua_12 1), .ref (uua_12 2), .ref (uua_12 3), .ref (uua_12 4), .ref (uua_12 5)])), (uua_12 0, aI cs 240 (uuf_13 0)), (uua_12 1, aJ cs 240 (fun _ => 0)), (uua_12 2, aI cs 240 (fun _ => 0)), (uua_12 3, aI cs 240 (fun _ => 0)), (uua_12 4, aI cs 2160 (fun _ => 0)), (uua_12 5, aI cs 2160 (fun _ => 0)), (q_14, .inr (4, [.ref (uua_18 0), .ref (uua_18 1), .ref (uua_18 2), .ref (uua_18 3)])), (uua_18 0, aI cs 7 (uuf_19 0)), (uua_18 1, aJ cs 3 (fun _ => 0)), (uua_18 2, aI cs 3 (fun _ => 0)), (uua_18 3, aI cs 3 (fun _ => 0))] := hD
  exact hz ((fun k => match k with | 0 => q_1 | 1 => uua_5 0 | 2 => uua_5 1 | 3 => uua_5 2 | 4 => uua_5 3 | 5 => uua_5 4 | 6 => uua_5 5 | 7 => uua_5 6 | 8 => uua_5 7 | 9 => uua_5 8 | 10 => uua_5 9 | 11 => q_8 | 12 => uua_12 0 | 13 => uua_12 1 | 14 => uua_12 2 | 15 => uua_12 3 | 16 => uua_12 4 | 17 => uua_12 5 | 18 => q_14 | 19 => uua_18 0 | 20 => uua_18 1 | 21 => uua_18 2 | 22 => uua_18 3 | _ => 0), (fun k => match k with | 0 => uuf_6 0 | 1 => uuf_13 0 | 2 => uuf_19 0 | _ => fun _ => 0)) hP hD hS ⟨hf_7, hf_20⟩ [0, 1, 2, 3, 4, 5, 6, 7, 8, 9, 10, 11, 12, 13, 14, 15, 16, 17, 18, 19, 20, 21, 22, 23] rfl rfl (Nat.le_of_ble_eq_true rfl) (Nat.le_of_ble_eq_true rfl) rfl dX2_init_37
abbrev rm_c_X2_settleAll : Room := { frames := 0, cells := 0, slots := 0, locals := 0 }
set_option maxHeartbeats 4000000 in
set_option maxRecDepth 100000 in
theorem c_X2_settleAll (l : Launch) (D : va_G) (cs : Nat → ClassId) (sz : Nat) (dr : Nat) (drp : Nat) (drk : Nat) (drk1 : Nat) (drk2 : Nat) (drk3 : Nat) (drk4 : Nat) (drk5 : Nat) (drk6 : Nat) (drm : Nat)  : cMi l yX2_settleAll (Cond.code yX2_settleAll cX2_settleAll 3 (some .int)) (rm_c_X2_settleAll) D cs [.ref dr] sz [(dr, .inr (2, [.int 0, .ref drp, .ref drk, .ref drm])), (drk, .inr (3, [.int 0, .ref drk1, .ref drk2, .ref drk3, .ref drk4, .ref drk5, .ref drk6]))] (fun (r : Int32) (u : Unit) => (r = 0)) (fun (u : Unit) => [(dr, .inr (2, [.int 0, .ref drp, .ref drk, .ref drm])), (drk, .inr (3, [.int 0, .ref drk1, .ref drk2, .ref drk3, .ref drk4, .ref drk5, .ref drk6]))]) := by
  refine kMet_i RX2 (by decide) rfl (Nat.le_of_ble_eq_true rfl) ?_
  intro p e s m below meth c ls A Qz H locs hx hb hml hown hin hu hK hsz hA hP hD hS hl hz
  subst hsz
  have hl : lv_has ls 3 [(0, .ref dr)] := hl
  refine lv_iconst (v := 0) hx hb dX2_settleAll_0 (by decide) ?_
  refine lv_istore_n (lv' := [(1, .int 0), (0, .ref dr)]) hx hb dX2_settleAll_1 rfl hl (by decide) rfl (fun ls hl => ?_)
  refine lv_aload_n hx hb dX2_settleAll_2 rfl (lv_at hl 1 rfl) ?_
  refine va_get (D := D) (ci := 2) (v := .ref drk) (C := RX2) (T := TX2) (N := 4) hx hb hu in_X2 hown hK.1 hP 0 rfl rfl 2 (by decide) (hu _ u_322) (fun _ h9 => h9) rfl dX2_settleAll_3 ?_
  refine va_get (D := D) (ci := 3) (v := .int 0) (C := RX3) (T := TX3) (N := 7) hx hb hu in_X3 hown hK.1 hP 1 rfl rfl 0 (by decide) (hu _ u_273) (fun _ h9 => h9) rfl dX2_settleAll_6 ?_
  refine lv_iconst (v := 1) hx hb dX2_settleAll_9 (by decide) ?_
  refine lv_isub hx hb dX2_settleAll_10 ?_
  refine tpi (y := (-1)) (by decide) ?_
  refine lv_istore_n (lv' := [(2, .int (-1)), (1, .int 0), (0, .ref dr)]) hx hb dX2_settleAll_11 rfl hl (by decide) rfl (fun ls hl => ?_)
  refine lv_iload_n hx hb dX2_settleAll_12 rfl (lv_at hl 0 rfl) ?_
  refine lv_if_lt (tgt := 30) hx hb dX2_settleAll_13 (by decide) (fun c_1 => ?_) (fun c_1 => absurd (by decide) c_1)
  refine lv_iload_n hx hb dX2_settleAll_30 rfl (lv_at hl 1 rfl) ?_
  exact hz () hP hD hS rfl [0, 1] rfl rfl (Nat.le_of_ble_eq_true rfl) (Nat.le_of_ble_eq_true rfl) .int rfl rfl dX2_settleAll_31
abbrev rm_c_X2_tellable : Room := { frames := 0, cells := 0, slots := 0, locals := 0 }
set_option maxHeartbeats 4000000 in
set_option maxRecDepth 100000 in
theorem c_X2_tellable (l : Launch) (D : va_G) (cs : Nat → ClassId) (sz : Nat) (dr : Nat) (drp : Nat) (drk : Nat) (drk1 : Nat) (drk2 : Nat) (drk3 : Nat) (drk4 : Nat) (drk5 : Nat) (drk6 : Nat) (drm : Nat) (x : Int32) (y : Int32) (xl : Int64)  : cMi l yX2_tellable (Cond.code yX2_tellable cX2_tellable 7 (some .int)) (rm_c_X2_tellable) D cs [.ref dr, .int x, .long xl, .int y] sz [(dr, .inr (2, [.int 0, .ref drp, .ref drk, .ref drm])), (drk, .inr (3, [.int 0, .ref drk1, .ref drk2, .ref drk3, .ref drk4, .ref drk5, .ref drk6]))] (fun (r : Int32) (u : Unit) => (r = 0)) (fun (u : Unit) => [(dr, .inr (2, [.int 0, .ref drp, .ref drk, .ref drm])), (drk, .inr (3, [.int 0, .ref drk1, .ref drk2, .ref drk3, .ref drk4, .ref drk5, .ref drk6]))]) := by
  refine kMet_i RX2 (by decide) rfl (Nat.le_of_ble_eq_true rfl) ?_
  intro p e s m below meth c ls A Qz H locs hx hb hml hown hin hu hK hsz hA hP hD hS hl hz
  subst hsz
  have hl : lv_has ls 7 [(0, .ref dr), (1, .int x), (2, .long xl), (4, .int y)] := hl
  refine lv_iconst (v := 0) hx hb dX2_tellable_0 (by decide) ?_
  refine lv_istore (lv' := [(5, .int 0), (0, .ref dr), (1, .int x), (2, .long xl), (4, .int y)]) hx hb dX2_tellable_1 hl (by decide) rfl (fun ls hl => ?_)
  refine lv_iconst (v := 0) hx hb dX2_tellable_3 (by decide) ?_
  refine lv_istore (lv' := [(6, .int 0), (5, .int 0), (0, .ref dr), (1, .int x), (2, .long xl), (4, .int y)]) hx hb dX2_tellable_4 hl (by decide) rfl (fun ls hl => ?_)
  refine lv_iload hx hb dX2_tellable_6 (lv_at hl 0 rfl) ?_
  refine lv_aload_n hx hb dX2_tellable_8 rfl (lv_at hl 2 rfl) ?_
  refine va_get (D := D) (ci := 2) (v := .ref drk) (C := RX2) (T := TX2) (N := 4) hx hb hu in_X2 hown hK.1 hP 0 rfl rfl 2 (by decide) (hu _ u_322) (fun _ h9 => h9) rfl dX2_tellable_9 ?_
  refine va_get (D := D) (ci := 3) (v := .int 0) (C := RX3) (T := TX3) (N := 7) hx hb hu in_X3 hown hK.1 hP 1 rfl rfl 0 (by decide) (hu _ u_273) (fun _ h9 => h9) rfl dX2_tellable_12 ?_
  refine lv_icmp_ge (tgt := 40) hx hb dX2_tellable_15 (by decide) (fun c_1 => ?_) (fun c_1 => absurd (by decide) c_1)
  refine lv_iload hx hb dX2_tellable_40 (lv_at hl 1 rfl) ?_
  exact hz () hP hD hS rfl [0, 1] rfl rfl (Nat.le_of_ble_eq_true rfl) (Nat.le_of_ble_eq_true rfl) .int rfl rfl dX2_tellable_42
abbrev rm_c_X2_liveOn : Room := { frames := 0, cells := 0, slots := 0, locals := 0 }
set_option maxHeartbeats 4000000 in
set_option maxRecDepth 100000 in
theorem c_X2_liveOn (l : Launch) (D : va_G) (cs : Nat → ClassId) (sz : Nat) (dr : Nat) (drp : Nat) (drk : Nat) (drk1 : Nat) (drk2 : Nat) (drk3 : Nat) (drk4 : Nat) (drk5 : Nat) (drk6 : Nat) (drm : Nat) (x : Int32)  : cMi l yX2_liveOn (Cond.code yX2_liveOn cX2_liveOn 5 (some .int)) (rm_c_X2_liveOn) D cs [.ref dr, .int x] sz [(dr, .inr (2, [.int 0, .ref drp, .ref drk, .ref drm])), (drk, .inr (3, [.int 0, .ref drk1, .ref drk2, .ref drk3, .ref drk4, .ref drk5, .ref drk6]))] (fun (r : Int32) (u : Unit) => (r = 0)) (fun (u : Unit) => [(dr, .inr (2, [.int 0, .ref drp, .ref drk, .ref drm])), (drk, .inr (3, [.int 0, .ref drk1, .ref drk2, .ref drk3, .ref drk4, .ref drk5, .ref drk6]))]) := by
  refine kMet_i RX2 (by decide) rfl (Nat.le_of_ble_eq_true rfl) ?_
  intro p e s m below meth c ls A Qz H locs hx hb hml hown hin hu hK hsz hA hP hD hS hl hz
  subst hsz
  have hl : lv_has ls 5 [(0, .ref dr), (1, .int x)] := hl
  refine lv_iconst (v := 0) hx hb dX2_liveOn_0 (by decide) ?_
  refine lv_istore_n (lv' := [(2, .int 0), (0, .ref dr), (1, .int x)]) hx hb dX2_liveOn_1 rfl hl (by decide) rfl (fun ls hl => ?_)
  refine lv_iconst (v := 0) hx hb dX2_liveOn_2 (by decide) ?_
  refine lv_istore_n (lv' := [(3, .int 0), (2, .int 0), (0, .ref dr), (1, .int x)]) hx hb dX2_liveOn_3 rfl hl (by decide) rfl (fun ls hl => ?_)
  refine lv_iload_n hx hb dX2_liveOn_4 rfl (lv_at hl 0 rfl) ?_
  refine lv_aload_n hx hb dX2_liveOn_5 rfl (lv_at hl 2 rfl) ?_
  refine va_get (D := D) (ci := 2) (v := .ref drk) (C := RX2) (T := TX2) (N := 4) hx hb hu in_X2 hown hK.1 hP 0 rfl rfl 2 (by decide) (hu _ u_322) (fun _ h9 => h9) rfl dX2_liveOn_6 ?_
  refine va_get (D := D) (ci := 3) (v := .int 0) (C := RX3) (T := TX3) (N := 7) hx hb hu in_X3 hown hK.1 hP 1 rfl rfl 0 (by decide) (hu _ u_273) (fun _ h9 => h9) rfl dX2_liveOn_9 ?_
  refine lv_icmp_ge (tgt := 68) hx hb dX2_liveOn_12 (by decide) (fun c_1 => ?_) (fun c_1 => absurd (by decide) c_1)
  refine lv_iload_n hx hb dX2_liveOn_68 rfl (lv_at hl 1 rfl) ?_
  exact hz () hP hD hS rfl [0, 1] rfl rfl (Nat.le_of_ble_eq_true rfl) (Nat.le_of_ble_eq_true rfl) .int rfl rfl dX2_liveOn_69
abbrev rm_c_X2_liveBytes : Room := { frames := 0, cells := 0, slots := 0, locals := 0 }
set_option maxHeartbeats 4000000 in
set_option maxRecDepth 100000 in
theorem c_X2_liveBytes (l : Launch) (D : va_G) (cs : Nat → ClassId) (sz : Nat) (dr : Nat) (drp : Nat) (drk : Nat) (drk1 : Nat) (drk2 : Nat) (drk3 : Nat) (drk4 : Nat) (drk5 : Nat) (drk6 : Nat) (drm : Nat)  : cMi l yX2_liveBytes (Cond.code yX2_liveBytes cX2_liveBytes 4 (some .int)) (rm_c_X2_liveBytes) D cs [.ref dr] sz [(dr, .inr (2, [.int 0, .ref drp, .ref drk, .ref drm])), (drk, .inr (3, [.int 0, .ref drk1, .ref drk2, .ref drk3, .ref drk4, .ref drk5, .ref drk6]))] (fun (r : Int32) (u : Unit) => (r = 0)) (fun (u : Unit) => [(dr, .inr (2, [.int 0, .ref drp, .ref drk, .ref drm])), (drk, .inr (3, [.int 0, .ref drk1, .ref drk2, .ref drk3, .ref drk4, .ref drk5, .ref drk6]))]) := by
  refine kMet_i RX2 (by decide) rfl (Nat.le_of_ble_eq_true rfl) ?_
  intro p e s m below meth c ls A Qz H locs hx hb hml hown hin hu hK hsz hA hP hD hS hl hz
  subst hsz
  have hl : lv_has ls 4 [(0, .ref dr)] := hl
  refine lv_iconst (v := 0) hx hb dX2_liveBytes_0 (by decide) ?_
  refine lv_istore_n (lv' := [(1, .int 0), (0, .ref dr)]) hx hb dX2_liveBytes_1 rfl hl (by decide) rfl (fun ls hl => ?_)
  refine lv_iconst (v := 0) hx hb dX2_liveBytes_2 (by decide) ?_
  refine lv_istore_n (lv' := [(2, .int 0), (1, .int 0), (0, .ref dr)]) hx hb dX2_liveBytes_3 rfl hl (by decide) rfl (fun ls hl => ?_)
  refine lv_iload_n hx hb dX2_liveBytes_4 rfl (lv_at hl 0 rfl) ?_
  refine lv_aload_n hx hb dX2_liveBytes_5 rfl (lv_at hl 2 rfl) ?_
  refine va_get (D := D) (ci := 2) (v := .ref drk) (C := RX2) (T := TX2) (N := 4) hx hb hu in_X2 hown hK.1 hP 0 rfl rfl 2 (by decide) (hu _ u_322) (fun _ h9 => h9) rfl dX2_liveBytes_6 ?_
  refine va_get (D := D) (ci := 3) (v := .int 0) (C := RX3) (T := TX3) (N := 7) hx hb hu in_X3 hown hK.1 hP 1 rfl rfl 0 (by decide) (hu _ u_273) (fun _ h9 => h9) rfl dX2_liveBytes_9 ?_
  refine lv_icmp_ge (tgt := 51) hx hb dX2_liveBytes_12 (by decide) (fun c_1 => ?_) (fun c_1 => absurd (by decide) c_1)
  refine lv_iload_n hx hb dX2_liveBytes_51 rfl (lv_at hl 1 rfl) ?_
  exact hz () hP hD hS rfl [0, 1] rfl rfl (Nat.le_of_ble_eq_true rfl) (Nat.le_of_ble_eq_true rfl) .int rfl rfl dX2_liveBytes_52
abbrev rm_c_X2_keysOfBucket : Room := { frames := 0, cells := 0, slots := 0, locals := 0 }
set_option maxHeartbeats 4000000 in
set_option maxRecDepth 100000 in
theorem c_X2_keysOfBucket (l : Launch) (D : va_G) (cs : Nat → ClassId) (sz : Nat) (dr : Nat) (drp : Nat) (drk : Nat) (drk1 : Nat) (drk2 : Nat) (drk3 : Nat) (drk4 : Nat) (drk5 : Nat) (drk6 : Nat) (drm : Nat) (x : Int32)  : cMi l yX2_keysOfBucket (Cond.code yX2_keysOfBucket cX2_keysOfBucket 4 (some .int)) (rm_c_X2_keysOfBucket) D cs [.ref dr, .int x] sz [(dr, .inr (2, [.int 0, .ref drp, .ref drk, .ref drm])), (drk, .inr (3, [.int 0, .ref drk1, .ref drk2, .ref drk3, .ref drk4, .ref drk5, .ref drk6]))] (fun (r : Int32) (u : Unit) => (r = 0)) (fun (u : Unit) => [(dr, .inr (2, [.int 0, .ref drp, .ref drk, .ref drm])), (drk, .inr (3, [.int 0, .ref drk1, .ref drk2, .ref drk3, .ref drk4, .ref drk5, .ref drk6]))]) := by
  refine kMet_i RX2 (by decide) rfl (Nat.le_of_ble_eq_true rfl) ?_
  intro p e s m below meth c ls A Qz H locs hx hb hml hown hin hu hK hsz hA hP hD hS hl hz
  subst hsz
  have hl : lv_has ls 4 [(0, .ref dr), (1, .int x)] := hl
  refine lv_iconst (v := 0) hx hb dX2_keysOfBucket_0 (by decide) ?_
  refine lv_istore_n (lv' := [(2, .int 0), (0, .ref dr), (1, .int x)]) hx hb dX2_keysOfBucket_1 rfl hl (by decide) rfl (fun ls hl => ?_)
  refine lv_iconst (v := 0) hx hb dX2_keysOfBucket_2 (by decide) ?_
  refine lv_istore_n (lv' := [(3, .int 0), (2, .int 0), (0, .ref dr), (1, .int x)]) hx hb dX2_keysOfBucket_3 rfl hl (by decide) rfl (fun ls hl => ?_)
  refine lv_iload_n hx hb dX2_keysOfBucket_4 rfl (lv_at hl 0 rfl) ?_
  refine lv_aload_n hx hb dX2_keysOfBucket_5 rfl (lv_at hl 2 rfl) ?_
  refine va_get (D := D) (ci := 2) (v := .ref drk) (C := RX2) (T := TX2) (N := 4) hx hb hu in_X2 hown hK.1 hP 0 rfl rfl 2 (by decide) (hu _ u_322) (fun _ h9 => h9) rfl dX2_keysOfBucket_6 ?_
  refine va_get (D := D) (ci := 3) (v := .int 0) (C := RX3) (T := TX3) (N := 7) hx hb hu in_X3 hown hK.1 hP 1 rfl rfl 0 (by decide) (hu _ u_273) (fun _ h9 => h9) rfl dX2_keysOfBucket_9 ?_
  refine lv_icmp_ge (tgt := 63) hx hb dX2_keysOfBucket_12 (by decide) (fun c_1 => ?_) (fun c_1 => absurd (by decide) c_1)
  refine lv_iload_n hx hb dX2_keysOfBucket_63 rfl (lv_at hl 1 rfl) ?_
  exact hz () hP hD hS rfl [0, 1] rfl rfl (Nat.le_of_ble_eq_true rfl) (Nat.le_of_ble_eq_true rfl) .int rfl rfl dX2_keysOfBucket_64
abbrev rm_c_X3_allVersions : Room := { frames := 0, cells := 0, slots := 0, locals := 0 }
set_option maxHeartbeats 4000000 in
set_option maxRecDepth 100000 in
theorem c_X3_allVersions (l : Launch) (D : va_G) (cs : Nat → ClassId) (sz : Nat) (drk : Nat) (drk1 : Nat) (drk2 : Nat) (drk3 : Nat) (drk4 : Nat) (drk5 : Nat) (drk6 : Nat)  : cMi l yX3_allVersions (Cond.code yX3_allVersions cX3_allVersions 3 (some .int)) (rm_c_X3_allVersions) D cs [.ref drk] sz [(drk, .inr (3, [.int 0, .ref drk1, .ref drk2, .ref drk3, .ref drk4, .ref drk5, .ref drk6]))] (fun (r : Int32) (u : Unit) => (r = 0)) (fun (u : Unit) => [(drk, .inr (3, [.int 0, .ref drk1, .ref drk2, .ref drk3, .ref drk4, .ref drk5, .ref drk6]))]) := by
  refine kMet_i RX3 (by decide) rfl (Nat.le_of_ble_eq_true rfl) ?_
  intro p e s m below meth c ls A Qz H locs hx hb hml hown hin hu hK hsz hA hP hD hS hl hz
  subst hsz
  have hl : lv_has ls 3 [(0, .ref drk)] := hl
  refine lv_iconst (v := 0) hx hb dX3_allVersions_0 (by decide) ?_
  refine lv_istore_n (lv' := [(1, .int 0), (0, .ref drk)]) hx hb dX3_allVersions_1 rfl hl (by decide) rfl (fun ls hl => ?_)
  refine lv_iconst (v := 0) hx hb dX3_allVersions_2 (by decide) ?_
  refine lv_istore_n (lv' := [(2, .int 0), (1, .int 0), (0, .ref drk)]) hx hb dX3_allVersions_3 rfl hl (by decide) rfl (fun ls hl => ?_)
  refine lv_iload_n hx hb dX3_allVersions_4 rfl (lv_at hl 0 rfl) ?_
  refine lv_aload_n hx hb dX3_allVersions_5 rfl (lv_at hl 2 rfl) ?_
  refine va_get (D := D) (ci := 3) (v := .int 0) (C := RX3) (T := TX3) (N := 7) hx hb hu in_X3 hown hK.1 hP 0 rfl rfl 0 (by decide) (hu _ u_271) (fun _ h9 => h9) rfl dX3_allVersions_6 ?_
  refine lv_icmp_ge (tgt := 26) hx hb dX3_allVersions_9 (by decide) (fun c_1 => ?_) (fun c_1 => absurd (by decide) c_1)
  refine lv_iload_n hx hb dX3_allVersions_26 rfl (lv_at hl 1 rfl) ?_
  exact hz () hP hD hS rfl [0] rfl rfl (Nat.le_of_ble_eq_true rfl) (Nat.le_of_ble_eq_true rfl) .int rfl rfl dX3_allVersions_27
abbrev rm_c_X0_placeOf : Room := { frames := 0, cells := 0, slots := 0, locals := 0 }
set_option maxHeartbeats 4000000 in
set_option maxRecDepth 100000 in
theorem c_X0_placeOf (l : Launch) (D : va_G) (cs : Nat → ClassId) (sz : Nat) (bu : Nat) (bu1 : Nat) (bu2 : Nat) (x : Int32)  : cMi l yX0_placeOf (Cond.code yX0_placeOf cX0_placeOf 3 (some .int)) (rm_c_X0_placeOf) D cs [.ref bu, .int x] sz [(bu, .inr (0, [.int 0, .int 0, .int 0, .int 0, .ref bu1, .ref bu2]))] (fun (r : Int32) (u : Unit) => (r = (-1))) (fun (u : Unit) => [(bu, .inr (0, [.int 0, .int 0, .int 0, .int 0, .ref bu1, .ref bu2]))]) := by
  refine kMet_i RX0 (by decide) rfl (Nat.le_of_ble_eq_true rfl) ?_
  intro p e s m below meth c ls A Qz H locs hx hb hml hown hin hu hK hsz hA hP hD hS hl hz
  subst hsz
  have hl : lv_has ls 3 [(0, .ref bu), (1, .int x)] := hl
  refine lv_iconst (v := 0) hx hb dX0_placeOf_0 (by decide) ?_
  refine lv_istore_n (lv' := [(2, .int 0), (0, .ref bu), (1, .int x)]) hx hb dX0_placeOf_1 rfl hl (by decide) rfl (fun ls hl => ?_)
  refine lv_iload_n hx hb dX0_placeOf_2 rfl (lv_at hl 0 rfl) ?_
  refine lv_aload_n hx hb dX0_placeOf_3 rfl (lv_at hl 1 rfl) ?_
  refine va_get (D := D) (ci := 0) (v := .int 0) (C := RX0) (T := TX0) (N := 6) hx hb hu in_X0 hown hK.1 hP 0 rfl rfl 3 (by decide) (hu _ u_153) (fun _ h9 => h9) rfl dX0_placeOf_4 ?_
  refine lv_icmp_ge (tgt := 33) hx hb dX0_placeOf_7 (by decide) (fun c_1 => ?_) (fun c_1 => absurd (by decide) c_1)
  refine lv_iconst (v := (-1)) hx hb dX0_placeOf_33 (by decide) ?_
  exact hz () hP hD hS rfl [0] rfl rfl (Nat.le_of_ble_eq_true rfl) (Nat.le_of_ble_eq_true rfl) .int rfl rfl dX0_placeOf_34
abbrev rm_c_X0_isChanged : Room := { frames := 1, cells := 0, slots := 0, locals := 22 }
set_option maxHeartbeats 4000000 in
set_option maxRecDepth 100000 in
theorem c_X0_isChanged (l : Launch) (D : va_G) (cs : Nat → ClassId) (sz : Nat) (bu : Nat) (bu1 : Nat) (bu2 : Nat) (x : Int32)  : cMi l yX0_isChanged (Cond.code yX0_isChanged cX0_isChanged 2 (some .boolean)) (rm_c_X0_isChanged) D cs [.ref bu, .int x] sz [(bu, .inr (0, [.int 0, .int 0, .int 0, .int 0, .ref bu1, .ref bu2]))] (fun (r : Int32) (u : Unit) => (r = 0)) (fun (u : Unit) => [(bu, .inr (0, [.int 0, .int 0, .int 0, .int 0, .ref bu1, .ref bu2]))]) := by
  refine kMet_i RX0 (by decide) rfl (Nat.le_of_ble_eq_true rfl) ?_
  intro p e s m below meth c ls A Qz H locs hx hb hml hown hin hu hK hsz hA hP hD hS hl hz
  subst hsz
  have hl : lv_has ls 2 [(0, .ref bu), (1, .int x)] := hl
  refine lv_iload_n hx hb dX0_isChanged_0 rfl (lv_at hl 1 rfl) ?_
  refine lv_if_lt (tgt := 32) hx hb dX0_isChanged_1 (by decide) (fun c_1 => ?_) (fun c_1 => ?_)
  · refine lv_iconst (v := 0) hx hb dX0_isChanged_32 (by decide) ?_
    exact hz () hP hD hS rfl [0] rfl rfl (Nat.le_of_ble_eq_true rfl) (Nat.le_of_ble_eq_true rfl) .boolean rfl rfl dX0_isChanged_33
  · refine lv_iload_n hx hb dX0_isChanged_4 rfl (lv_at hl 1 rfl) ?_
    refine lv_bipush (v := 8) hx hb dX0_isChanged_5 (by decide) ?_
    refine lv_icmp_ge (tgt := 32) hx hb dX0_isChanged_7 (by decide) (fun c_2 => ?_) (fun c_2 => ?_)
    · refine lv_iconst (v := 0) hx hb dX0_isChanged_32 (by decide) ?_
      exact hz () hP hD hS rfl [0] rfl rfl (Nat.le_of_ble_eq_true rfl) (Nat.le_of_ble_eq_true rfl) .boolean rfl rfl dX0_isChanged_33
    · refine lv_aload_n hx hb dX0_isChanged_10 rfl (lv_at hl 0 rfl) ?_
      refine lv_iload_n hx hb dX0_isChanged_11 rfl (lv_at hl 1 rfl) ?_
      refine kV_i (ci := 0) (As := [.int x]) (rest := []) (wc := [(bu, .inr (0, [.int 0, .int 0, .int 0, .int 0, .ref bu1, .ref bu2]))]) (wr := []) hx hb hml hown hu hK hP hD hS hA hl.1 (c_X0_placeOf l D cs H.size bu bu1 bu2 x) (gV u_585 u_586 u_587 u_70 u_588) hd_X0_placeOf ⟨(Nat.le_of_ble_eq_true rfl), (Nat.le_of_ble_eq_true rfl)⟩ [0] [] rfl rfl rfl rfl (by decide) rfl 0 rfl rfl rfl (Nat.le_of_ble_eq_true rfl) dX0_isChanged_12 ⟨(Nat.le_of_ble_eq_true rfl), (Nat.le_of_ble_eq_true rfl)⟩ (fun r_3 ut_4 H locs hw_5 hP hD hS => ?_)
      have hP : va_P D vwCl [(bu, .inr (0, [.int 0, .int 0, .int 0, .int 0, .ref bu1, .ref bu2]))] H := hP
      have hD : va_D A [(bu, .inr (0, [.int 0, .int 0, .int 0, .int 0, .ref bu1, .ref bu2]))] := hD
      have er_6 := hw_5
      subst er_6
      refine lv_iconst (v := (-1)) hx hb dX0_isChanged_15 (by decide) ?_
      refine lv_icmp_eq (tgt := 32) hx hb dX0_isChanged_16 (by decide) (fun c_7 => ?_) (fun c_7 => absurd (by decide) c_7)
      refine lv_iconst (v := 0) hx hb dX0_isChanged_32 (by decide) ?_
      exact hz () hP hD hS rfl [0] rfl rfl (Nat.le_of_ble_eq_true rfl) (Nat.le_of_ble_eq_true rfl) .boolean rfl rfl dX0_isChanged_33
abbrev rm_c_X1_read : Room := { frames := 0, cells := 0, slots := 0, locals := 0 }
set_option maxHeartbeats 4000000 in
set_option maxRecDepth 100000 in
theorem c_X1_read (l : Launch) (D : va_G) (cs : Nat → ClassId) (sz : Nat) (tp : Nat) (de : Nat) (de1 : Nat) (de2 : Nat) (de3 : Nat) (de4 : Nat) (de5 : Nat)  : cMv l yX1_read (Cond.code yX1_read cX1_read 5 none) (rm_c_X1_read) D cs [.ref de, .ref tp, .int 0] sz [(de, .inr (1, [.int 0, .int (-1), .int 0, .ref de1, .ref de2, .ref de3, .ref de4, .ref de5]))] (fun (u : Unit) => True) (fun (u : Unit) => [(de, .inr (1, [.int 0, .int (-1), .int 0, .ref de1, .ref de2, .ref de3, .ref de4, .ref de5]))]) := by
  refine kMet_v RX1 (by decide) rfl (Nat.le_of_ble_eq_true rfl) ?_
  intro p e s m below meth c ls A Qz H locs hx hb hml hown hin hu hK hsz hA hP hD hS hl hz
  subst hsz
  have hl : lv_has ls 5 [(0, .ref de), (1, .ref tp), (2, .int 0)] := hl
  refine lv_aload_n hx hb dX1_read_0 rfl (lv_at hl 0 rfl) ?_
  refine lv_iconst (v := 0) hx hb dX1_read_1 (by decide) ?_
  refine va_put (D := D) (ci := 1) (v := .int 0) (ty := tyX1 0) (C := RX1) (T := TX1) (N := 8) hx hb hu in_X1 tyX1 tyX1_ok nmX1 hown hK.1 hP hD hS 0 rfl rfl 0 (by decide) (hu _ u_112) (fun _ h9 => h9) rfl (tyX1_ok 0 (by decide)) rfl rfl (Nat.le_of_ble_eq_true rfl) dX1_read_2 (fun H locs hP hD hS => ?_)
  have hP : va_P D vwCl [(de, .inr (1, [.int 0, .int (-1), .int 0, .ref de1, .ref de2, .ref de3, .ref de4, .ref de5]))] H := hP
  have hD : va_D A [(de, .inr (1, [.int 0, .int (-1), .int 0, .ref de1, .ref de2, .ref de3, .ref de4, .ref de5]))] := hD
  refine lv_aload_n hx hb dX1_read_5 rfl (lv_at hl 0 rfl) ?_
  refine lv_iconst (v := (-1)) hx hb dX1_read_6 (by decide) ?_
  refine va_put (D := D) (ci := 1) (v := .int (-1)) (ty := tyX1 1) (C := RX1) (T := TX1) (N := 8) hx hb hu in_X1 tyX1 tyX1_ok nmX1 hown hK.1 hP hD hS 0 rfl rfl 1 (by decide) (hu _ u_114) (fun _ h9 => h9) rfl (tyX1_ok 1 (by decide)) rfl rfl (Nat.le_of_ble_eq_true rfl) dX1_read_7 (fun H locs hP hD hS => ?_)
  have hP : va_P D vwCl [(de, .inr (1, [.int 0, .int (-1), .int 0, .ref de1, .ref de2, .ref de3, .ref de4, .ref de5]))] H := hP
  have hD : va_D A [(de, .inr (1, [.int 0, .int (-1), .int 0, .ref de1, .ref de2, .ref de3, .ref de4, .ref de5]))] := hD
  refine lv_aload_n hx hb dX1_read_10 rfl (lv_at hl 0 rfl) ?_
  refine lv_iconst (v := 0) hx hb dX1_read_11 (by decide) ?_
  refine va_put (D := D) (ci := 1) (v := .int 0) (ty := tyX1 2) (C := RX1) (T := TX1) (N := 8) hx hb hu in_X1 tyX1 tyX1_ok nmX1 hown hK.1 hP hD hS 0 rfl rfl 2 (by decide) (hu _ u_116) (fun _ h9 => h9) rfl (tyX1_ok 2 (by decide)) rfl rfl (Nat.le_of_ble_eq_true rfl) dX1_read_12 (fun H locs hP hD hS => ?_)
  have hP : va_P D vwCl [(de, .inr (1, [.int 0, .int (-1), .int 0, .ref de1, .ref de2, .ref de3, .ref de4, .ref de5]))] H := hP
  have hD : va_D A [(de, .inr (1, [.int 0, .int (-1), .int 0, .ref de1, .ref de2, .ref de3, .ref de4, .ref de5]))] := hD
  refine lv_iconst (v := 0) hx hb dX1_read_15 (by decide) ?_
  refine lv_istore_n (lv' := [(3, .int 0), (0, .ref de), (1, .ref tp), (2, .int 0)]) hx hb dX1_read_16 rfl hl (by decide) rfl (fun ls hl => ?_)
  refine lv_iconst (v := 0) hx hb dX1_read_17 (by decide) ?_
  refine lv_istore (lv' := [(4, .int 0), (3, .int 0), (0, .ref de), (1, .ref tp), (2, .int 0)]) hx hb dX1_read_18 hl (by decide) rfl (fun ls hl => ?_)
  refine lv_iload hx hb dX1_read_20 (lv_at hl 0 rfl) ?_
  refine lv_bipush (v := 20) hx hb dX1_read_22 (by decide) ?_
  refine lv_icmp_ge (tgt := 53) hx hb dX1_read_24 (by decide) (fun c_1 => absurd c_1 (by decide)) (fun c_1 => ?_)
  refine lv_iload_n hx hb dX1_read_27 rfl (lv_at hl 1 rfl) ?_
  refine lv_iload_n hx hb dX1_read_28 rfl (lv_at hl 4 rfl) ?_
  refine lv_icmp_ge (tgt := 53) hx hb dX1_read_29 (by decide) (fun c_2 => ?_) (fun c_2 => absurd (by decide) c_2)
  exact hz () hP hD hS trivial [0] rfl rfl (Nat.le_of_ble_eq_true rfl) (Nat.le_of_ble_eq_true rfl) rfl dX1_read_53
abbrev rm_c_X1_carryOut : Room := { frames := 0, cells := 0, slots := 0, locals := 0 }
set_option maxHeartbeats 4000000 in
set_option maxRecDepth 100000 in
theorem c_X1_carryOut (l : Launch) (D : va_G) (cs : Nat → ClassId) (sz : Nat) (tp : Nat) (de : Nat) (de1 : Nat) (de2 : Nat) (de3 : Nat) (de4 : Nat) (de5 : Nat) (dr : Nat)  : cMi l yX1_carryOut (Cond.code yX1_carryOut cX1_carryOut 9 (some .int)) (rm_c_X1_carryOut) D cs [.ref de, .ref dr, .ref tp] sz [(de, .inr (1, [.int 0, .int (-1), .int 0, .ref de1, .ref de2, .ref de3, .ref de4, .ref de5]))] (fun (r : Int32) (u : Unit) => (r = 0)) (fun (u : Unit) => [(de, .inr (1, [.int 0, .int (-1), .int 0, .ref de1, .ref de2, .ref de3, .ref de4, .ref de5]))]) := by
  refine kMet_i RX1 (by decide) rfl (Nat.le_of_ble_eq_true rfl) ?_
  intro p e s m below meth c ls A Qz H locs hx hb hml hown hin hu hK hsz hA hP hD hS hl hz
  subst hsz
  have hl : lv_has ls 9 [(0, .ref de), (1, .ref dr), (2, .ref tp)] := hl
  refine lv_iconst (v := 0) hx hb dX1_carryOut_0 (by decide) ?_
  refine lv_istore_n (lv' := [(3, .int 0), (0, .ref de), (1, .ref dr), (2, .ref tp)]) hx hb dX1_carryOut_1 rfl hl (by decide) rfl (fun ls hl => ?_)
  refine lv_iconst (v := 0) hx hb dX1_carryOut_2 (by decide) ?_
  refine lv_istore (lv' := [(4, .int 0), (3, .int 0), (0, .ref de), (1, .ref dr), (2, .ref tp)]) hx hb dX1_carryOut_3 hl (by decide) rfl (fun ls hl => ?_)
  refine lv_iload hx hb dX1_carryOut_5 (lv_at hl 0 rfl) ?_
  refine lv_aload_n hx hb dX1_carryOut_7 rfl (lv_at hl 2 rfl) ?_
  refine va_get (D := D) (ci := 1) (v := .int 0) (C := RX1) (T := TX1) (N := 8) hx hb hu in_X1 hown hK.1 hP 0 rfl rfl 2 (by decide) (hu _ u_116) (fun _ h9 => h9) rfl dX1_carryOut_8 ?_
  refine lv_icmp_ge (tgt := 171) hx hb dX1_carryOut_11 (by decide) (fun c_1 => ?_) (fun c_1 => absurd (by decide) c_1)
  refine lv_iload_n hx hb dX1_carryOut_171 rfl (lv_at hl 1 rfl) ?_
  exact hz () hP hD hS rfl [0] rfl rfl (Nat.le_of_ble_eq_true rfl) (Nat.le_of_ble_eq_true rfl) .int rfl rfl dX1_carryOut_172
abbrev rm_c_X5_gather : Room := { frames := 0, cells := 0, slots := 0, locals := 0 }
set_option maxHeartbeats 4000000 in
set_option maxRecDepth 100000 in
theorem c_X5_gather (l : Launch) (D : va_G) (cs : Nat → ClassId) (sz : Nat) (pk : Nat) (pk1 : Nat) (pk2 : Nat) (pk3 : Nat) (dr : Nat) (drp : Nat) (drk : Nat) (drk1 : Nat) (drk2 : Nat) (drk3 : Nat) (drk4 : Nat) (drk5 : Nat) (drk6 : Nat) (drm : Nat)  : cMv l yX5_gather (Cond.code yX5_gather cX5_gather 5 none) (rm_c_X5_gather) D cs [.ref pk, .ref dr] sz [(pk, .inr (5, [.int 0, .int 0, .ref pk1, .ref pk2, .ref pk3])), (dr, .inr (2, [.int 0, .ref drp, .ref drk, .ref drm])), (drk, .inr (3, [.int 0, .ref drk1, .ref drk2, .ref drk3, .ref drk4, .ref drk5, .ref drk6]))] (fun (u : Unit) => True) (fun (u : Unit) => [(pk, .inr (5, [.int 0, .int 0, .ref pk1, .ref pk2, .ref pk3])), (dr, .inr (2, [.int 0, .ref drp, .ref drk, .ref drm])), (drk, .inr (3, [.int 0, .ref drk1, .ref drk2, .ref drk3, .ref drk4, .ref drk5, .ref drk6]))]) := by
  refine kMet_v RX5 (by decide) rfl (Nat.le_of_ble_eq_true rfl) ?_
  intro p e s m below meth c ls A Qz H locs hx hb hml hown hin hu hK hsz hA hP hD hS hl hz
  subst hsz
  have hl : lv_has ls 5 [(0, .ref pk), (1, .ref dr)] := hl
  refine lv_aload_n hx hb dX5_gather_0 rfl (lv_at hl 0 rfl) ?_
  refine lv_iconst (v := 0) hx hb dX5_gather_1 (by decide) ?_
  refine va_put (D := D) (ci := 5) (v := .int 0) (ty := tyX5 0) (C := RX5) (T := TX5) (N := 5) hx hb hu in_X5 tyX5 tyX5_ok nmX5 hown hK.1 hP hD hS 0 rfl rfl 0 (by decide) (hu _ u_175) (fun _ h9 => h9) rfl (tyX5_ok 0 (by decide)) rfl rfl (Nat.le_of_ble_eq_true rfl) dX5_gather_2 (fun H locs hP hD hS => ?_)
  have hP : va_P D vwCl [(pk, .inr (5, [.int 0, .int 0, .ref pk1, .ref pk2, .ref pk3])), (dr, .inr (2, [.int 0, .ref drp, .ref drk, .ref drm])), (drk, .inr (3, [.int 0, .ref drk1, .ref drk2, .ref drk3, .ref drk4, .ref drk5, .ref drk6]))] H := hP
  have hD : va_D A [(pk, .inr (5, [.int 0, .int 0, .ref pk1, .ref pk2, .ref pk3])), (dr, .inr (2, [.int 0, .ref drp, .ref drk, .ref drm])), (drk, .inr (3, [.int 0, .ref drk1, .ref drk2, .ref drk3, .ref drk4, .ref drk5, .ref drk6]))] := hD
  refine lv_iconst (v := 0) hx hb dX5_gather_5 (by decide) ?_
  refine lv_istore_n (lv' := [(2, .int 0), (0, .ref pk), (1, .ref dr)]) hx hb dX5_gather_6 rfl hl (by decide) rfl (fun ls hl => ?_)
  refine lv_iload_n hx hb dX5_gather_7 rfl (lv_at hl 0 rfl) ?_
  refine lv_aload_n hx hb dX5_gather_8 rfl (lv_at hl 2 rfl) ?_
  refine va_get (D := D) (ci := 2) (v := .ref drk) (C := RX2) (T := TX2) (N := 4) hx hb hu in_X2 hown hK.1 hP 1 rfl rfl 2 (by decide) (hu _ u_323) (fun _ h9 => h9) rfl dX5_gather_9 ?_
  refine va_get (D := D) (ci := 3) (v := .int 0) (C := RX3) (T := TX3) (N := 7) hx hb hu in_X3 hown hK.1 hP 2 rfl rfl 0 (by decide) (hu _ u_272) (fun _ h9 => h9) rfl dX5_gather_12 ?_
  refine lv_icmp_ge (tgt := 75) hx hb dX5_gather_15 (by decide) (fun c_1 => ?_) (fun c_1 => absurd (by decide) c_1)
  exact hz () hP hD hS trivial [0, 1, 2] rfl rfl (Nat.le_of_ble_eq_true rfl) (Nat.le_of_ble_eq_true rfl) rfl dX5_gather_75
abbrev rm_c_X5_byNumber : Room := { frames := 0, cells := 0, slots := 0, locals := 0 }
set_option maxHeartbeats 4000000 in
set_option maxRecDepth 100000 in
theorem c_X5_byNumber (l : Launch) (D : va_G) (cs : Nat → ClassId) (sz : Nat) (pk : Nat) (pk1 : Nat) (pk2 : Nat) (pk3 : Nat) (x : Int32)  : cMi l yX5_byNumber (Cond.code yX5_byNumber cX5_byNumber 3 (some .int)) (rm_c_X5_byNumber) D cs [.ref pk, .int x] sz [(pk, .inr (5, [.int 0, .int 0, .ref pk1, .ref pk2, .ref pk3]))] (fun (r : Int32) (u : Unit) => (r = 0)) (fun (u : Unit) => [(pk, .inr (5, [.int 0, .int 0, .ref pk1, .ref pk2, .ref pk3]))]) := by
  refine kMet_i RX5 (by decide) rfl (Nat.le_of_ble_eq_true rfl) ?_
  intro p e s m below meth c ls A Qz H locs hx hb hml hown hin hu hK hsz hA hP hD hS hl hz
  subst hsz
  have hl : lv_has ls 3 [(0, .ref pk), (1, .int x)] := hl
  refine lv_aload_n hx hb dX5_byNumber_0 rfl (lv_at hl 0 rfl) ?_
  refine lv_iconst (v := 0) hx hb dX5_byNumber_1 (by decide) ?_
  refine va_put (D := D) (ci := 5) (v := .int 0) (ty := tyX5 1) (C := RX5) (T := TX5) (N := 5) hx hb hu in_X5 tyX5 tyX5_ok nmX5 hown hK.1 hP hD hS 0 rfl rfl 1 (by decide) (hu _ u_176) (fun _ h9 => h9) rfl (tyX5_ok 1 (by decide)) rfl rfl (Nat.le_of_ble_eq_true rfl) dX5_byNumber_2 (fun H locs hP hD hS => ?_)
  have hP : va_P D vwCl [(pk, .inr (5, [.int 0, .int 0, .ref pk1, .ref pk2, .ref pk3]))] H := hP
  have hD : va_D A [(pk, .inr (5, [.int 0, .int 0, .ref pk1, .ref pk2, .ref pk3]))] := hD
  refine lv_iconst (v := 0) hx hb dX5_byNumber_5 (by decide) ?_
  refine lv_istore_n (lv' := [(2, .int 0), (0, .ref pk), (1, .int x)]) hx hb dX5_byNumber_6 rfl hl (by decide) rfl (fun ls hl => ?_)
  refine lv_iload_n hx hb dX5_byNumber_7 rfl (lv_at hl 0 rfl) ?_
  refine lv_aload_n hx hb dX5_byNumber_8 rfl (lv_at hl 1 rfl) ?_
  refine va_get (D := D) (ci := 5) (v := .int 0) (C := RX5) (T := TX5) (N := 5) hx hb hu in_X5 hown hK.1 hP 0 rfl rfl 0 (by decide) (hu _ u_175) (fun _ h9 => h9) rfl dX5_byNumber_9 ?_
  refine lv_icmp_ge (tgt := 32) hx hb dX5_byNumber_12 (by decide) (fun c_1 => ?_) (fun c_1 => absurd (by decide) c_1)
  refine lv_aload_n hx hb dX5_byNumber_32 rfl (lv_at hl 1 rfl) ?_
  refine va_get (D := D) (ci := 5) (v := .int 0) (C := RX5) (T := TX5) (N := 5) hx hb hu in_X5 hown hK.1 hP 0 rfl rfl 1 (by decide) (hu _ u_176) (fun _ h9 => h9) rfl dX5_byNumber_33 ?_
  exact hz () hP hD hS rfl [0] rfl rfl (Nat.le_of_ble_eq_true rfl) (Nat.le_of_ble_eq_true rfl) .int rfl rfl dX5_byNumber_36
abbrev rm_c_X5_bySize : Room := { frames := 0, cells := 0, slots := 0, locals := 0 }
set_option maxHeartbeats 4000000 in
set_option maxRecDepth 100000 in
theorem c_X5_bySize (l : Launch) (D : va_G) (cs : Nat → ClassId) (sz : Nat) (pk : Nat) (pk1 : Nat) (pk2 : Nat) (pk3 : Nat)  : cMi l yX5_bySize (Cond.code yX5_bySize cX5_bySize 3 (some .int)) (rm_c_X5_bySize) D cs [.ref pk] sz [(pk, .inr (5, [.int 0, .int 0, .ref pk1, .ref pk2, .ref pk3]))] (fun (r : Int32) (u : Unit) => (r = 0)) (fun (u : Unit) => [(pk, .inr (5, [.int 0, .int 0, .ref pk1, .ref pk2, .ref pk3]))]) := by
  refine kMet_i RX5 (by decide) rfl (Nat.le_of_ble_eq_true rfl) ?_
  intro p e s m below meth c ls A Qz H locs hx hb hml hown hin hu hK hsz hA hP hD hS hl hz
  subst hsz
  have hl : lv_has ls 3 [(0, .ref pk)] := hl
  refine lv_aload_n hx hb dX5_bySize_0 rfl (lv_at hl 0 rfl) ?_
  refine lv_iconst (v := 0) hx hb dX5_bySize_1 (by decide) ?_
  refine va_put (D := D) (ci := 5) (v := .int 0) (ty := tyX5 1) (C := RX5) (T := TX5) (N := 5) hx hb hu in_X5 tyX5 tyX5_ok nmX5 hown hK.1 hP hD hS 0 rfl rfl 1 (by decide) (hu _ u_176) (fun _ h9 => h9) rfl (tyX5_ok 1 (by decide)) rfl rfl (Nat.le_of_ble_eq_true rfl) dX5_bySize_2 (fun H locs hP hD hS => ?_)
  have hP : va_P D vwCl [(pk, .inr (5, [.int 0, .int 0, .ref pk1, .ref pk2, .ref pk3]))] H := hP
  have hD : va_D A [(pk, .inr (5, [.int 0, .int 0, .ref pk1, .ref pk2, .ref pk3]))] := hD
  refine lv_bipush (v := 52) hx hb dX5_bySize_5 (by decide) ?_
  refine lv_istore_n (lv' := [(1, .int 52), (0, .ref pk)]) hx hb dX5_bySize_7 rfl hl (by decide) rfl (fun ls hl => ?_)
  refine lv_iload_n hx hb dX5_bySize_8 rfl (lv_at hl 0 rfl) ?_
  refine lv_bipush (v := 6) hx hb dX5_bySize_9 (by decide) ?_
  refine lv_icmp_lt (tgt := 52) hx hb dX5_bySize_11 (by decide) (fun c_1 => absurd c_1 (by decide)) (fun c_1 => ?_)
  refine lv_iconst (v := 0) hx hb dX5_bySize_14 (by decide) ?_
  refine lv_istore_n (lv' := [(2, .int 0), (1, .int 52), (0, .ref pk)]) hx hb dX5_bySize_15 rfl hl (by decide) rfl (fun ls hl => ?_)
  refine lv_iload_n hx hb dX5_bySize_16 rfl (lv_at hl 0 rfl) ?_
  refine lv_aload_n hx hb dX5_bySize_17 rfl (lv_at hl 2 rfl) ?_
  refine va_get (D := D) (ci := 5) (v := .int 0) (C := RX5) (T := TX5) (N := 5) hx hb hu in_X5 hown hK.1 hP 0 rfl rfl 0 (by decide) (hu _ u_175) (fun _ h9 => h9) rfl dX5_bySize_18 ?_
  refine lv_icmp_ge (tgt := 46) hx hb dX5_bySize_21 (by decide) (fun c_2 => ?_) (fun c_2 => absurd (by decide) c_2)
  refine lv_iinc (v := 50) (lv' := [(1, .int 50), (2, .int 0), (0, .ref pk)]) hx hb dX5_bySize_46 hl (k := 1) rfl (by decide) (by decide) rfl (fun ls hl => ?_)
  refine lv_goto (tgt := 8) hx hb dX5_bySize_49 (by decide) ?_
  refine lv_iload_n hx hb dX5_bySize_8 rfl (lv_at hl 0 rfl) ?_
  refine lv_bipush (v := 6) hx hb dX5_bySize_9 (by decide) ?_
  refine lv_icmp_lt (tgt := 52) hx hb dX5_bySize_11 (by decide) (fun c_3 => absurd c_3 (by decide)) (fun c_3 => ?_)
  refine lv_iconst (v := 0) hx hb dX5_bySize_14 (by decide) ?_
  refine lv_istore_n (lv' := [(2, .int 0), (1, .int 50), (0, .ref pk)]) hx hb dX5_bySize_15 rfl hl (by decide) rfl (fun ls hl => ?_)
  refine lv_iload_n hx hb dX5_bySize_16 rfl (lv_at hl 0 rfl) ?_
  refine lv_aload_n hx hb dX5_bySize_17 rfl (lv_at hl 2 rfl) ?_
  refine va_get (D := D) (ci := 5) (v := .int 0) (C := RX5) (T := TX5) (N := 5) hx hb hu in_X5 hown hK.1 hP 0 rfl rfl 0 (by decide) (hu _ u_175) (fun _ h9 => h9) rfl dX5_bySize_18 ?_
  refine lv_icmp_ge (tgt := 46) hx hb dX5_bySize_21 (by decide) (fun c_4 => ?_) (fun c_4 => absurd (by decide) c_4)
  refine lv_iinc (v := 48) (lv' := [(1, .int 48), (2, .int 0), (0, .ref pk)]) hx hb dX5_bySize_46 hl (k := 1) rfl (by decide) (by decide) rfl (fun ls hl => ?_)
  refine lv_goto (tgt := 8) hx hb dX5_bySize_49 (by decide) ?_
  refine lv_iload_n hx hb dX5_bySize_8 rfl (lv_at hl 0 rfl) ?_
  refine lv_bipush (v := 6) hx hb dX5_bySize_9 (by decide) ?_
  refine lv_icmp_lt (tgt := 52) hx hb dX5_bySize_11 (by decide) (fun c_5 => absurd c_5 (by decide)) (fun c_5 => ?_)
  refine lv_iconst (v := 0) hx hb dX5_bySize_14 (by decide) ?_
  refine lv_istore_n (lv' := [(2, .int 0), (1, .int 48), (0, .ref pk)]) hx hb dX5_bySize_15 rfl hl (by decide) rfl (fun ls hl => ?_)
  refine lv_iload_n hx hb dX5_bySize_16 rfl (lv_at hl 0 rfl) ?_
  refine lv_aload_n hx hb dX5_bySize_17 rfl (lv_at hl 2 rfl) ?_
  refine va_get (D := D) (ci := 5) (v := .int 0) (C := RX5) (T := TX5) (N := 5) hx hb hu in_X5 hown hK.1 hP 0 rfl rfl 0 (by decide) (hu _ u_175) (fun _ h9 => h9) rfl dX5_bySize_18 ?_
  refine lv_icmp_ge (tgt := 46) hx hb dX5_bySize_21 (by decide) (fun c_6 => ?_) (fun c_6 => absurd (by decide) c_6)
  refine lv_iinc (v := 46) (lv' := [(1, .int 46), (2, .int 0), (0, .ref pk)]) hx hb dX5_bySize_46 hl (k := 1) rfl (by decide) (by decide) rfl (fun ls hl => ?_)
  refine lv_goto (tgt := 8) hx hb dX5_bySize_49 (by decide) ?_
  refine lv_iload_n hx hb dX5_bySize_8 rfl (lv_at hl 0 rfl) ?_
  refine lv_bipush (v := 6) hx hb dX5_bySize_9 (by decide) ?_
  refine lv_icmp_lt (tgt := 52) hx hb dX5_bySize_11 (by decide) (fun c_7 => absurd c_7 (by decide)) (fun c_7 => ?_)
  refine lv_iconst (v := 0) hx hb dX5_bySize_14 (by decide) ?_
  refine lv_istore_n (lv' := [(2, .int 0), (1, .int 46), (0, .ref pk)]) hx hb dX5_bySize_15 rfl hl (by decide) rfl (fun ls hl => ?_)
  refine lv_iload_n hx hb dX5_bySize_16 rfl (lv_at hl 0 rfl) ?_
  refine lv_aload_n hx hb dX5_bySize_17 rfl (lv_at hl 2 rfl) ?_
  refine va_get (D := D) (ci := 5) (v := .int 0) (C := RX5) (T := TX5) (N := 5) hx hb hu in_X5 hown hK.1 hP 0 rfl rfl 0 (by decide) (hu _ u_175) (fun _ h9 => h9) rfl dX5_bySize_18 ?_
  refine lv_icmp_ge (tgt := 46) hx hb dX5_bySize_21 (by decide) (fun c_8 => ?_) (fun c_8 => absurd (by decide) c_8)
  refine lv_iinc (v := 44) (lv' := [(1, .int 44), (2, .int 0), (0, .ref pk)]) hx hb dX5_bySize_46 hl (k := 1) rfl (by decide) (by decide) rfl (fun ls hl => ?_)
  refine lv_goto (tgt := 8) hx hb dX5_bySize_49 (by decide) ?_
  refine lv_iload_n hx hb dX5_bySize_8 rfl (lv_at hl 0 rfl) ?_
  refine lv_bipush (v := 6) hx hb dX5_bySize_9 (by decide) ?_
  refine lv_icmp_lt (tgt := 52) hx hb dX5_bySize_11 (by decide) (fun c_9 => absurd c_9 (by decide)) (fun c_9 => ?_)
  refine lv_iconst (v := 0) hx hb dX5_bySize_14 (by decide) ?_
  refine lv_istore_n (lv' := [(2, .int 0), (1, .int 44), (0, .ref pk)]) hx hb dX5_bySize_15 rfl hl (by decide) rfl (fun ls hl => ?_)
  refine lv_iload_n hx hb dX5_bySize_16 rfl (lv_at hl 0 rfl) ?_
  refine lv_aload_n hx hb dX5_bySize_17 rfl (lv_at hl 2 rfl) ?_
  refine va_get (D := D) (ci := 5) (v := .int 0) (C := RX5) (T := TX5) (N := 5) hx hb hu in_X5 hown hK.1 hP 0 rfl rfl 0 (by decide) (hu _ u_175) (fun _ h9 => h9) rfl dX5_bySize_18 ?_
  refine lv_icmp_ge (tgt := 46) hx hb dX5_bySize_21 (by decide) (fun c_10 => ?_) (fun c_10 => absurd (by decide) c_10)
  refine lv_iinc (v := 42) (lv' := [(1, .int 42), (2, .int 0), (0, .ref pk)]) hx hb dX5_bySize_46 hl (k := 1) rfl (by decide) (by decide) rfl (fun ls hl => ?_)
  refine lv_goto (tgt := 8) hx hb dX5_bySize_49 (by decide) ?_
  refine lv_iload_n hx hb dX5_bySize_8 rfl (lv_at hl 0 rfl) ?_
  refine lv_bipush (v := 6) hx hb dX5_bySize_9 (by decide) ?_
  refine lv_icmp_lt (tgt := 52) hx hb dX5_bySize_11 (by decide) (fun c_11 => absurd c_11 (by decide)) (fun c_11 => ?_)
  refine lv_iconst (v := 0) hx hb dX5_bySize_14 (by decide) ?_
  refine lv_istore_n (lv' := [(2, .int 0), (1, .int 42), (0, .ref pk)]) hx hb dX5_bySize_15 rfl hl (by decide) rfl (fun ls hl => ?_)
  refine lv_iload_n hx hb dX5_bySize_16 rfl (lv_at hl 0 rfl) ?_
  refine lv_aload_n hx hb dX5_bySize_17 rfl (lv_at hl 2 rfl) ?_
  refine va_get (D := D) (ci := 5) (v := .int 0) (C := RX5) (T := TX5) (N := 5) hx hb hu in_X5 hown hK.1 hP 0 rfl rfl 0 (by decide) (hu _ u_175) (fun _ h9 => h9) rfl dX5_bySize_18 ?_
  refine lv_icmp_ge (tgt := 46) hx hb dX5_bySize_21 (by decide) (fun c_12 => ?_) (fun c_12 => absurd (by decide) c_12)
  refine lv_iinc (v := 40) (lv' := [(1, .int 40), (2, .int 0), (0, .ref pk)]) hx hb dX5_bySize_46 hl (k := 1) rfl (by decide) (by decide) rfl (fun ls hl => ?_)
  refine lv_goto (tgt := 8) hx hb dX5_bySize_49 (by decide) ?_
  refine lv_iload_n hx hb dX5_bySize_8 rfl (lv_at hl 0 rfl) ?_
  refine lv_bipush (v := 6) hx hb dX5_bySize_9 (by decide) ?_
  refine lv_icmp_lt (tgt := 52) hx hb dX5_bySize_11 (by decide) (fun c_13 => absurd c_13 (by decide)) (fun c_13 => ?_)
  refine lv_iconst (v := 0) hx hb dX5_bySize_14 (by decide) ?_
  refine lv_istore_n (lv' := [(2, .int 0), (1, .int 40), (0, .ref pk)]) hx hb dX5_bySize_15 rfl hl (by decide) rfl (fun ls hl => ?_)
  refine lv_iload_n hx hb dX5_bySize_16 rfl (lv_at hl 0 rfl) ?_
  refine lv_aload_n hx hb dX5_bySize_17 rfl (lv_at hl 2 rfl) ?_
  refine va_get (D := D) (ci := 5) (v := .int 0) (C := RX5) (T := TX5) (N := 5) hx hb hu in_X5 hown hK.1 hP 0 rfl rfl 0 (by decide) (hu _ u_175) (fun _ h9 => h9) rfl dX5_bySize_18 ?_
  refine lv_icmp_ge (tgt := 46) hx hb dX5_bySize_21 (by decide) (fun c_14 => ?_) (fun c_14 => absurd (by decide) c_14)
  refine lv_iinc (v := 38) (lv' := [(1, .int 38), (2, .int 0), (0, .ref pk)]) hx hb dX5_bySize_46 hl (k := 1) rfl (by decide) (by decide) rfl (fun ls hl => ?_)
  refine lv_goto (tgt := 8) hx hb dX5_bySize_49 (by decide) ?_
  refine lv_iload_n hx hb dX5_bySize_8 rfl (lv_at hl 0 rfl) ?_
  refine lv_bipush (v := 6) hx hb dX5_bySize_9 (by decide) ?_
  refine lv_icmp_lt (tgt := 52) hx hb dX5_bySize_11 (by decide) (fun c_15 => absurd c_15 (by decide)) (fun c_15 => ?_)
  refine lv_iconst (v := 0) hx hb dX5_bySize_14 (by decide) ?_
  refine lv_istore_n (lv' := [(2, .int 0), (1, .int 38), (0, .ref pk)]) hx hb dX5_bySize_15 rfl hl (by decide) rfl (fun ls hl => ?_)
  refine lv_iload_n hx hb dX5_bySize_16 rfl (lv_at hl 0 rfl) ?_
  refine lv_aload_n hx hb dX5_bySize_17 rfl (lv_at hl 2 rfl) ?_
  refine va_get (D := D) (ci := 5) (v := .int 0) (C := RX5) (T := TX5) (N := 5) hx hb hu in_X5 hown hK.1 hP 0 rfl rfl 0 (by decide) (hu _ u_175) (fun _ h9 => h9) rfl dX5_bySize_18 ?_
  refine lv_icmp_ge (tgt := 46) hx hb dX5_bySize_21 (by decide) (fun c_16 => ?_) (fun c_16 => absurd (by decide) c_16)
  refine lv_iinc (v := 36) (lv' := [(1, .int 36), (2, .int 0), (0, .ref pk)]) hx hb dX5_bySize_46 hl (k := 1) rfl (by decide) (by decide) rfl (fun ls hl => ?_)
  refine lv_goto (tgt := 8) hx hb dX5_bySize_49 (by decide) ?_
  refine lv_iload_n hx hb dX5_bySize_8 rfl (lv_at hl 0 rfl) ?_
  refine lv_bipush (v := 6) hx hb dX5_bySize_9 (by decide) ?_
  refine lv_icmp_lt (tgt := 52) hx hb dX5_bySize_11 (by decide) (fun c_17 => absurd c_17 (by decide)) (fun c_17 => ?_)
  refine lv_iconst (v := 0) hx hb dX5_bySize_14 (by decide) ?_
  refine lv_istore_n (lv' := [(2, .int 0), (1, .int 36), (0, .ref pk)]) hx hb dX5_bySize_15 rfl hl (by decide) rfl (fun ls hl => ?_)
  refine lv_iload_n hx hb dX5_bySize_16 rfl (lv_at hl 0 rfl) ?_
  refine lv_aload_n hx hb dX5_bySize_17 rfl (lv_at hl 2 rfl) ?_
  refine va_get (D := D) (ci := 5) (v := .int 0) (C := RX5) (T := TX5) (N := 5) hx hb hu in_X5 hown hK.1 hP 0 rfl rfl 0 (by decide) (hu _ u_175) (fun _ h9 => h9) rfl dX5_bySize_18 ?_
  refine lv_icmp_ge (tgt := 46) hx hb dX5_bySize_21 (by decide) (fun c_18 => ?_) (fun c_18 => absurd (by decide) c_18)
  refine lv_iinc (v := 34) (lv' := [(1, .int 34), (2, .int 0), (0, .ref pk)]) hx hb dX5_bySize_46 hl (k := 1) rfl (by decide) (by decide) rfl (fun ls hl => ?_)
  refine lv_goto (tgt := 8) hx hb dX5_bySize_49 (by decide) ?_
  refine lv_iload_n hx hb dX5_bySize_8 rfl (lv_at hl 0 rfl) ?_
  refine lv_bipush (v := 6) hx hb dX5_bySize_9 (by decide) ?_
  refine lv_icmp_lt (tgt := 52) hx hb dX5_bySize_11 (by decide) (fun c_19 => absurd c_19 (by decide)) (fun c_19 => ?_)
  refine lv_iconst (v := 0) hx hb dX5_bySize_14 (by decide) ?_
  refine lv_istore_n (lv' := [(2, .int 0), (1, .int 34), (0, .ref pk)]) hx hb dX5_bySize_15 rfl hl (by decide) rfl (fun ls hl => ?_)
  refine lv_iload_n hx hb dX5_bySize_16 rfl (lv_at hl 0 rfl) ?_
  refine lv_aload_n hx hb dX5_bySize_17 rfl (lv_at hl 2 rfl) ?_
  refine va_get (D := D) (ci := 5) (v := .int 0) (C := RX5) (T := TX5) (N := 5) hx hb hu in_X5 hown hK.1 hP 0 rfl rfl 0 (by decide) (hu _ u_175) (fun _ h9 => h9) rfl dX5_bySize_18 ?_
  refine lv_icmp_ge (tgt := 46) hx hb dX5_bySize_21 (by decide) (fun c_20 => ?_) (fun c_20 => absurd (by decide) c_20)
  refine lv_iinc (v := 32) (lv' := [(1, .int 32), (2, .int 0), (0, .ref pk)]) hx hb dX5_bySize_46 hl (k := 1) rfl (by decide) (by decide) rfl (fun ls hl => ?_)
  refine lv_goto (tgt := 8) hx hb dX5_bySize_49 (by decide) ?_
  refine lv_iload_n hx hb dX5_bySize_8 rfl (lv_at hl 0 rfl) ?_
  refine lv_bipush (v := 6) hx hb dX5_bySize_9 (by decide) ?_
  refine lv_icmp_lt (tgt := 52) hx hb dX5_bySize_11 (by decide) (fun c_21 => absurd c_21 (by decide)) (fun c_21 => ?_)
  refine lv_iconst (v := 0) hx hb dX5_bySize_14 (by decide) ?_
  refine lv_istore_n (lv' := [(2, .int 0), (1, .int 32), (0, .ref pk)]) hx hb dX5_bySize_15 rfl hl (by decide) rfl (fun ls hl => ?_)
  refine lv_iload_n hx hb dX5_bySize_16 rfl (lv_at hl 0 rfl) ?_
  refine lv_aload_n hx hb dX5_bySize_17 rfl (lv_at hl 2 rfl) ?_
  refine va_get (D := D) (ci := 5) (v := .int 0) (C := RX5) (T := TX5) (N := 5) hx hb hu in_X5 hown hK.1 hP 0 rfl rfl 0 (by decide) (hu _ u_175) (fun _ h9 => h9) rfl dX5_bySize_18 ?_
  refine lv_icmp_ge (tgt := 46) hx hb dX5_bySize_21 (by decide) (fun c_22 => ?_) (fun c_22 => absurd (by decide) c_22)
  refine lv_iinc (v := 30) (lv' := [(1, .int 30), (2, .int 0), (0, .ref pk)]) hx hb dX5_bySize_46 hl (k := 1) rfl (by decide) (by decide) rfl (fun ls hl => ?_)
  refine lv_goto (tgt := 8) hx hb dX5_bySize_49 (by decide) ?_
  refine lv_iload_n hx hb dX5_bySize_8 rfl (lv_at hl 0 rfl) ?_
  refine lv_bipush (v := 6) hx hb dX5_bySize_9 (by decide) ?_
  refine lv_icmp_lt (tgt := 52) hx hb dX5_bySize_11 (by decide) (fun c_23 => absurd c_23 (by decide)) (fun c_23 => ?_)
  refine lv_iconst (v := 0) hx hb dX5_bySize_14 (by decide) ?_
  refine lv_istore_n (lv' := [(2, .int 0), (1, .int 30), (0, .ref pk)]) hx hb dX5_bySize_15 rfl hl (by decide) rfl (fun ls hl => ?_)
  refine lv_iload_n hx hb dX5_bySize_16 rfl (lv_at hl 0 rfl) ?_
  refine lv_aload_n hx hb dX5_bySize_17 rfl (lv_at hl 2 rfl) ?_
  refine va_get (D := D) (ci := 5) (v := .int 0) (C := RX5) (T := TX5) (N := 5) hx hb hu in_X5 hown hK.1 hP 0 rfl rfl 0 (by decide) (hu _ u_175) (fun _ h9 => h9) rfl dX5_bySize_18 ?_
  refine lv_icmp_ge (tgt := 46) hx hb dX5_bySize_21 (by decide) (fun c_24 => ?_) (fun c_24 => absurd (by decide) c_24)
  refine lv_iinc (v := 28) (lv' := [(1, .int 28), (2, .int 0), (0, .ref pk)]) hx hb dX5_bySize_46 hl (k := 1) rfl (by decide) (by decide) rfl (fun ls hl => ?_)
  refine lv_goto (tgt := 8) hx hb dX5_bySize_49 (by decide) ?_
  refine lv_iload_n hx hb dX5_bySize_8 rfl (lv_at hl 0 rfl) ?_
  refine lv_bipush (v := 6) hx hb dX5_bySize_9 (by decide) ?_
  refine lv_icmp_lt (tgt := 52) hx hb dX5_bySize_11 (by decide) (fun c_25 => absurd c_25 (by decide)) (fun c_25 => ?_)
  refine lv_iconst (v := 0) hx hb dX5_bySize_14 (by decide) ?_
  refine lv_istore_n (lv' := [(2, .int 0), (1, .int 28), (0, .ref pk)]) hx hb dX5_bySize_15 rfl hl (by decide) rfl (fun ls hl => ?_)
  refine lv_iload_n hx hb dX5_bySize_16 rfl (lv_at hl 0 rfl) ?_
  refine lv_aload_n hx hb dX5_bySize_17 rfl (lv_at hl 2 rfl) ?_
  refine va_get (D := D) (ci := 5) (v := .int 0) (C := RX5) (T := TX5) (N := 5) hx hb hu in_X5 hown hK.1 hP 0 rfl rfl 0 (by decide) (hu _ u_175) (fun _ h9 => h9) rfl dX5_bySize_18 ?_
  refine lv_icmp_ge (tgt := 46) hx hb dX5_bySize_21 (by decide) (fun c_26 => ?_) (fun c_26 => absurd (by decide) c_26)
  refine lv_iinc (v := 26) (lv' := [(1, .int 26), (2, .int 0), (0, .ref pk)]) hx hb dX5_bySize_46 hl (k := 1) rfl (by decide) (by decide) rfl (fun ls hl => ?_)
  refine lv_goto (tgt := 8) hx hb dX5_bySize_49 (by decide) ?_
  refine lv_iload_n hx hb dX5_bySize_8 rfl (lv_at hl 0 rfl) ?_
  refine lv_bipush (v := 6) hx hb dX5_bySize_9 (by decide) ?_
  refine lv_icmp_lt (tgt := 52) hx hb dX5_bySize_11 (by decide) (fun c_27 => absurd c_27 (by decide)) (fun c_27 => ?_)
  refine lv_iconst (v := 0) hx hb dX5_bySize_14 (by decide) ?_
  refine lv_istore_n (lv' := [(2, .int 0), (1, .int 26), (0, .ref pk)]) hx hb dX5_bySize_15 rfl hl (by decide) rfl (fun ls hl => ?_)
  refine lv_iload_n hx hb dX5_bySize_16 rfl (lv_at hl 0 rfl) ?_
  refine lv_aload_n hx hb dX5_bySize_17 rfl (lv_at hl 2 rfl) ?_
  refine va_get (D := D) (ci := 5) (v := .int 0) (C := RX5) (T := TX5) (N := 5) hx hb hu in_X5 hown hK.1 hP 0 rfl rfl 0 (by decide) (hu _ u_175) (fun _ h9 => h9) rfl dX5_bySize_18 ?_
  refine lv_icmp_ge (tgt := 46) hx hb dX5_bySize_21 (by decide) (fun c_28 => ?_) (fun c_28 => absurd (by decide) c_28)
  refine lv_iinc (v := 24) (lv' := [(1, .int 24), (2, .int 0), (0, .ref pk)]) hx hb dX5_bySize_46 hl (k := 1) rfl (by decide) (by decide) rfl (fun ls hl => ?_)
  refine lv_goto (tgt := 8) hx hb dX5_bySize_49 (by decide) ?_
  refine lv_iload_n hx hb dX5_bySize_8 rfl (lv_at hl 0 rfl) ?_
  refine lv_bipush (v := 6) hx hb dX5_bySize_9 (by decide) ?_
  refine lv_icmp_lt (tgt := 52) hx hb dX5_bySize_11 (by decide) (fun c_29 => absurd c_29 (by decide)) (fun c_29 => ?_)
  refine lv_iconst (v := 0) hx hb dX5_bySize_14 (by decide) ?_
  refine lv_istore_n (lv' := [(2, .int 0), (1, .int 24), (0, .ref pk)]) hx hb dX5_bySize_15 rfl hl (by decide) rfl (fun ls hl => ?_)
  refine lv_iload_n hx hb dX5_bySize_16 rfl (lv_at hl 0 rfl) ?_
  refine lv_aload_n hx hb dX5_bySize_17 rfl (lv_at hl 2 rfl) ?_
  refine va_get (D := D) (ci := 5) (v := .int 0) (C := RX5) (T := TX5) (N := 5) hx hb hu in_X5 hown hK.1 hP 0 rfl rfl 0 (by decide) (hu _ u_175) (fun _ h9 => h9) rfl dX5_bySize_18 ?_
  refine lv_icmp_ge (tgt := 46) hx hb dX5_bySize_21 (by decide) (fun c_30 => ?_) (fun c_30 => absurd (by decide) c_30)
  refine lv_iinc (v := 22) (lv' := [(1, .int 22), (2, .int 0), (0, .ref pk)]) hx hb dX5_bySize_46 hl (k := 1) rfl (by decide) (by decide) rfl (fun ls hl => ?_)
  refine lv_goto (tgt := 8) hx hb dX5_bySize_49 (by decide) ?_
  refine lv_iload_n hx hb dX5_bySize_8 rfl (lv_at hl 0 rfl) ?_
  refine lv_bipush (v := 6) hx hb dX5_bySize_9 (by decide) ?_
  refine lv_icmp_lt (tgt := 52) hx hb dX5_bySize_11 (by decide) (fun c_31 => absurd c_31 (by decide)) (fun c_31 => ?_)
  refine lv_iconst (v := 0) hx hb dX5_bySize_14 (by decide) ?_
  refine lv_istore_n (lv' := [(2, .int 0), (1, .int 22), (0, .ref pk)]) hx hb dX5_bySize_15 rfl hl (by decide) rfl (fun ls hl => ?_)
  refine lv_iload_n hx hb dX5_bySize_16 rfl (lv_at hl 0 rfl) ?_
  refine lv_aload_n hx hb dX5_bySize_17 rfl (lv_at hl 2 rfl) ?_
  refine va_get (D := D) (ci := 5) (v := .int 0) (C := RX5) (T := TX5) (N := 5) hx hb hu in_X5 hown hK.1 hP 0 rfl rfl 0 (by decide) (hu _ u_175) (fun _ h9 => h9) rfl dX5_bySize_18 ?_
  refine lv_icmp_ge (tgt := 46) hx hb dX5_bySize_21 (by decide) (fun c_32 => ?_) (fun c_32 => absurd (by decide) c_32)
  refine lv_iinc (v := 20) (lv' := [(1, .int 20), (2, .int 0), (0, .ref pk)]) hx hb dX5_bySize_46 hl (k := 1) rfl (by decide) (by decide) rfl (fun ls hl => ?_)
  refine lv_goto (tgt := 8) hx hb dX5_bySize_49 (by decide) ?_
  refine lv_iload_n hx hb dX5_bySize_8 rfl (lv_at hl 0 rfl) ?_
  refine lv_bipush (v := 6) hx hb dX5_bySize_9 (by decide) ?_
  refine lv_icmp_lt (tgt := 52) hx hb dX5_bySize_11 (by decide) (fun c_33 => absurd c_33 (by decide)) (fun c_33 => ?_)
  refine lv_iconst (v := 0) hx hb dX5_bySize_14 (by decide) ?_
  refine lv_istore_n (lv' := [(2, .int 0), (1, .int 20), (0, .ref pk)]) hx hb dX5_bySize_15 rfl hl (by decide) rfl (fun ls hl => ?_)
  refine lv_iload_n hx hb dX5_bySize_16 rfl (lv_at hl 0 rfl) ?_
  refine lv_aload_n hx hb dX5_bySize_17 rfl (lv_at hl 2 rfl) ?_
  refine va_get (D := D) (ci := 5) (v := .int 0) (C := RX5) (T := TX5) (N := 5) hx hb hu in_X5 hown hK.1 hP 0 rfl rfl 0 (by decide) (hu _ u_175) (fun _ h9 => h9) rfl dX5_bySize_18 ?_
  refine lv_icmp_ge (tgt := 46) hx hb dX5_bySize_21 (by decide) (fun c_34 => ?_) (fun c_34 => absurd (by decide) c_34)
  refine lv_iinc (v := 18) (lv' := [(1, .int 18), (2, .int 0), (0, .ref pk)]) hx hb dX5_bySize_46 hl (k := 1) rfl (by decide) (by decide) rfl (fun ls hl => ?_)
  refine lv_goto (tgt := 8) hx hb dX5_bySize_49 (by decide) ?_
  refine lv_iload_n hx hb dX5_bySize_8 rfl (lv_at hl 0 rfl) ?_
  refine lv_bipush (v := 6) hx hb dX5_bySize_9 (by decide) ?_
  refine lv_icmp_lt (tgt := 52) hx hb dX5_bySize_11 (by decide) (fun c_35 => absurd c_35 (by decide)) (fun c_35 => ?_)
  refine lv_iconst (v := 0) hx hb dX5_bySize_14 (by decide) ?_
  refine lv_istore_n (lv' := [(2, .int 0), (1, .int 18), (0, .ref pk)]) hx hb dX5_bySize_15 rfl hl (by decide) rfl (fun ls hl => ?_)
  refine lv_iload_n hx hb dX5_bySize_16 rfl (lv_at hl 0 rfl) ?_
  refine lv_aload_n hx hb dX5_bySize_17 rfl (lv_at hl 2 rfl) ?_
  refine va_get (D := D) (ci := 5) (v := .int 0) (C := RX5) (T := TX5) (N := 5) hx hb hu in_X5 hown hK.1 hP 0 rfl rfl 0 (by decide) (hu _ u_175) (fun _ h9 => h9) rfl dX5_bySize_18 ?_
  refine lv_icmp_ge (tgt := 46) hx hb dX5_bySize_21 (by decide) (fun c_36 => ?_) (fun c_36 => absurd (by decide) c_36)
  refine lv_iinc (v := 16) (lv' := [(1, .int 16), (2, .int 0), (0, .ref pk)]) hx hb dX5_bySize_46 hl (k := 1) rfl (by decide) (by decide) rfl (fun ls hl => ?_)
  refine lv_goto (tgt := 8) hx hb dX5_bySize_49 (by decide) ?_
  refine lv_iload_n hx hb dX5_bySize_8 rfl (lv_at hl 0 rfl) ?_
  refine lv_bipush (v := 6) hx hb dX5_bySize_9 (by decide) ?_
  refine lv_icmp_lt (tgt := 52) hx hb dX5_bySize_11 (by decide) (fun c_37 => absurd c_37 (by decide)) (fun c_37 => ?_)
  refine lv_iconst (v := 0) hx hb dX5_bySize_14 (by decide) ?_
  refine lv_istore_n (lv' := [(2, .int 0), (1, .int 16), (0, .ref pk)]) hx hb dX5_bySize_15 rfl hl (by decide) rfl (fun ls hl => ?_)
  refine lv_iload_n hx hb dX5_bySize_16 rfl (lv_at hl 0 rfl) ?_
  refine lv_aload_n hx hb dX5_bySize_17 rfl (lv_at hl 2 rfl) ?_
  refine va_get (D := D) (ci := 5) (v := .int 0) (C := RX5) (T := TX5) (N := 5) hx hb hu in_X5 hown hK.1 hP 0 rfl rfl 0 (by decide) (hu _ u_175) (fun _ h9 => h9) rfl dX5_bySize_18 ?_
  refine lv_icmp_ge (tgt := 46) hx hb dX5_bySize_21 (by decide) (fun c_38 => ?_) (fun c_38 => absurd (by decide) c_38)
  refine lv_iinc (v := 14) (lv' := [(1, .int 14), (2, .int 0), (0, .ref pk)]) hx hb dX5_bySize_46 hl (k := 1) rfl (by decide) (by decide) rfl (fun ls hl => ?_)
  refine lv_goto (tgt := 8) hx hb dX5_bySize_49 (by decide) ?_
  refine lv_iload_n hx hb dX5_bySize_8 rfl (lv_at hl 0 rfl) ?_
  refine lv_bipush (v := 6) hx hb dX5_bySize_9 (by decide) ?_
  refine lv_icmp_lt (tgt := 52) hx hb dX5_bySize_11 (by decide) (fun c_39 => absurd c_39 (by decide)) (fun c_39 => ?_)
  refine lv_iconst (v := 0) hx hb dX5_bySize_14 (by decide) ?_
  refine lv_istore_n (lv' := [(2, .int 0), (1, .int 14), (0, .ref pk)]) hx hb dX5_bySize_15 rfl hl (by decide) rfl (fun ls hl => ?_)
  refine lv_iload_n hx hb dX5_bySize_16 rfl (lv_at hl 0 rfl) ?_
  refine lv_aload_n hx hb dX5_bySize_17 rfl (lv_at hl 2 rfl) ?_
  refine va_get (D := D) (ci := 5) (v := .int 0) (C := RX5) (T := TX5) (N := 5) hx hb hu in_X5 hown hK.1 hP 0 rfl rfl 0 (by decide) (hu _ u_175) (fun _ h9 => h9) rfl dX5_bySize_18 ?_
  refine lv_icmp_ge (tgt := 46) hx hb dX5_bySize_21 (by decide) (fun c_40 => ?_) (fun c_40 => absurd (by decide) c_40)
  refine lv_iinc (v := 12) (lv' := [(1, .int 12), (2, .int 0), (0, .ref pk)]) hx hb dX5_bySize_46 hl (k := 1) rfl (by decide) (by decide) rfl (fun ls hl => ?_)
  refine lv_goto (tgt := 8) hx hb dX5_bySize_49 (by decide) ?_
  refine lv_iload_n hx hb dX5_bySize_8 rfl (lv_at hl 0 rfl) ?_
  refine lv_bipush (v := 6) hx hb dX5_bySize_9 (by decide) ?_
  refine lv_icmp_lt (tgt := 52) hx hb dX5_bySize_11 (by decide) (fun c_41 => absurd c_41 (by decide)) (fun c_41 => ?_)
  refine lv_iconst (v := 0) hx hb dX5_bySize_14 (by decide) ?_
  refine lv_istore_n (lv' := [(2, .int 0), (1, .int 12), (0, .ref pk)]) hx hb dX5_bySize_15 rfl hl (by decide) rfl (fun ls hl => ?_)
  refine lv_iload_n hx hb dX5_bySize_16 rfl (lv_at hl 0 rfl) ?_
  refine lv_aload_n hx hb dX5_bySize_17 rfl (lv_at hl 2 rfl) ?_
  refine va_get (D := D) (ci := 5) (v := .int 0) (C := RX5) (T := TX5) (N := 5) hx hb hu in_X5 hown hK.1 hP 0 rfl rfl 0 (by decide) (hu _ u_175) (fun _ h9 => h9) rfl dX5_bySize_18 ?_
  refine lv_icmp_ge (tgt := 46) hx hb dX5_bySize_21 (by decide) (fun c_42 => ?_) (fun c_42 => absurd (by decide) c_42)
  refine lv_iinc (v := 10) (lv' := [(1, .int 10), (2, .int 0), (0, .ref pk)]) hx hb dX5_bySize_46 hl (k := 1) rfl (by decide) (by decide) rfl (fun ls hl => ?_)
  refine lv_goto (tgt := 8) hx hb dX5_bySize_49 (by decide) ?_
  refine lv_iload_n hx hb dX5_bySize_8 rfl (lv_at hl 0 rfl) ?_
  refine lv_bipush (v := 6) hx hb dX5_bySize_9 (by decide) ?_
  refine lv_icmp_lt (tgt := 52) hx hb dX5_bySize_11 (by decide) (fun c_43 => absurd c_43 (by decide)) (fun c_43 => ?_)
  refine lv_iconst (v := 0) hx hb dX5_bySize_14 (by decide) ?_
  refine lv_istore_n (lv' := [(2, .int 0), (1, .int 10), (0, .ref pk)]) hx hb dX5_bySize_15 rfl hl (by decide) rfl (fun ls hl => ?_)
  refine lv_iload_n hx hb dX5_bySize_16 rfl (lv_at hl 0 rfl) ?_
  refine lv_aload_n hx hb dX5_bySize_17 rfl (lv_at hl 2 rfl) ?_
  refine va_get (D := D) (ci := 5) (v := .int 0) (C := RX5) (T := TX5) (N := 5) hx hb hu in_X5 hown hK.1 hP 0 rfl rfl 0 (by decide) (hu _ u_175) (fun _ h9 => h9) rfl dX5_bySize_18 ?_
  refine lv_icmp_ge (tgt := 46) hx hb dX5_bySize_21 (by decide) (fun c_44 => ?_) (fun c_44 => absurd (by decide) c_44)
  refine lv_iinc (v := 8) (lv' := [(1, .int 8), (2, .int 0), (0, .ref pk)]) hx hb dX5_bySize_46 hl (k := 1) rfl (by decide) (by decide) rfl (fun ls hl => ?_)
  refine lv_goto (tgt := 8) hx hb dX5_bySize_49 (by decide) ?_
  refine lv_iload_n hx hb dX5_bySize_8 rfl (lv_at hl 0 rfl) ?_
  refine lv_bipush (v := 6) hx hb dX5_bySize_9 (by decide) ?_
  refine lv_icmp_lt (tgt := 52) hx hb dX5_bySize_11 (by decide) (fun c_45 => absurd c_45 (by decide)) (fun c_45 => ?_)
  refine lv_iconst (v := 0) hx hb dX5_bySize_14 (by decide) ?_
  refine lv_istore_n (lv' := [(2, .int 0), (1, .int 8), (0, .ref pk)]) hx hb dX5_bySize_15 rfl hl (by decide) rfl (fun ls hl => ?_)
  refine lv_iload_n hx hb dX5_bySize_16 rfl (lv_at hl 0 rfl) ?_
  refine lv_aload_n hx hb dX5_bySize_17 rfl (lv_at hl 2 rfl) ?_
  refine va_get (D := D) (ci := 5) (v := .int 0) (C := RX5) (T := TX5) (N := 5) hx hb hu in_X5 hown hK.1 hP 0 rfl rfl 0 (by decide) (hu _ u_175) (fun _ h9 => h9) rfl dX5_bySize_18 ?_
  refine lv_icmp_ge (tgt := 46) hx hb dX5_bySize_21 (by decide) (fun c_46 => ?_) (fun c_46 => absurd (by decide) c_46)
  refine lv_iinc (v := 6) (lv' := [(1, .int 6), (2, .int 0), (0, .ref pk)]) hx hb dX5_bySize_46 hl (k := 1) rfl (by decide) (by decide) rfl (fun ls hl => ?_)
  refine lv_goto (tgt := 8) hx hb dX5_bySize_49 (by decide) ?_
  refine lv_iload_n hx hb dX5_bySize_8 rfl (lv_at hl 0 rfl) ?_
  refine lv_bipush (v := 6) hx hb dX5_bySize_9 (by decide) ?_
  refine lv_icmp_lt (tgt := 52) hx hb dX5_bySize_11 (by decide) (fun c_47 => absurd c_47 (by decide)) (fun c_47 => ?_)
  refine lv_iconst (v := 0) hx hb dX5_bySize_14 (by decide) ?_
  refine lv_istore_n (lv' := [(2, .int 0), (1, .int 6), (0, .ref pk)]) hx hb dX5_bySize_15 rfl hl (by decide) rfl (fun ls hl => ?_)
  refine lv_iload_n hx hb dX5_bySize_16 rfl (lv_at hl 0 rfl) ?_
  refine lv_aload_n hx hb dX5_bySize_17 rfl (lv_at hl 2 rfl) ?_
  refine va_get (D := D) (ci := 5) (v := .int 0) (C := RX5) (T := TX5) (N := 5) hx hb hu in_X5 hown hK.1 hP 0 rfl rfl 0 (by decide) (hu _ u_175) (fun _ h9 => h9) rfl dX5_bySize_18 ?_
  refine lv_icmp_ge (tgt := 46) hx hb dX5_bySize_21 (by decide) (fun c_48 => ?_) (fun c_48 => absurd (by decide) c_48)
  refine lv_iinc (v := 4) (lv' := [(1, .int 4), (2, .int 0), (0, .ref pk)]) hx hb dX5_bySize_46 hl (k := 1) rfl (by decide) (by decide) rfl (fun ls hl => ?_)
  refine lv_goto (tgt := 8) hx hb dX5_bySize_49 (by decide) ?_
  refine lv_iload_n hx hb dX5_bySize_8 rfl (lv_at hl 0 rfl) ?_
  refine lv_bipush (v := 6) hx hb dX5_bySize_9 (by decide) ?_
  refine lv_icmp_lt (tgt := 52) hx hb dX5_bySize_11 (by decide) (fun c_49 => ?_) (fun c_49 => absurd (by decide) c_49)
  refine lv_aload_n hx hb dX5_bySize_52 rfl (lv_at hl 2 rfl) ?_
  refine va_get (D := D) (ci := 5) (v := .int 0) (C := RX5) (T := TX5) (N := 5) hx hb hu in_X5 hown hK.1 hP 0 rfl rfl 1 (by decide) (hu _ u_176) (fun _ h9 => h9) rfl dX5_bySize_53 ?_
  exact hz () hP hD hS rfl [0] rfl rfl (Nat.le_of_ble_eq_true rfl) (Nat.le_of_ble_eq_true rfl) .int rfl rfl dX5_bySize_56
abbrev rm_c_X6_wipeTill : Room := { frames := 1, cells := 0, slots := 0, locals := 22 }
set_option maxHeartbeats 4000000 in
set_option maxRecDepth 100000 in
theorem c_X6_wipeTill (l : Launch) (D : va_G) (cs : Nat → ClassId) (sz : Nat) (drp : Nat) (drp1 : Nat) (f_drp1 : Nat → Int32) (drp2 : Nat) (drp3 : Nat) (drp4 : Nat) (drp5 : Nat) (drp6 : Nat) (drp7 : Nat) (drp8 : Nat) (drp9 : Nat) (drp10 : Nat) (i1 : Int32) (i2 : Int32) (i3 : Int32) (i4 : Int32) (i5 : Int32) (i6 : Int32) (i7 : Int32) (x : Int32) (y : Int32) (z_f_drp1 : ∀ j, j < 24 → f_drp1 j = 0) (hx24 : ¬ 24 < x) : cMv l yX6_wipeTill (Cond.code yX6_wipeTill cX6_wipeTill 5 none) (rm_c_X6_wipeTill) D cs [.ref drp, .int x, .int y] sz [(drp, .inr (6, [.int i1, .int i2, .int i3, .int i4, .int i5, .int i6, .int i7, .ref drp1, .ref drp2, .ref drp3, .ref drp4, .ref drp5, .ref drp6, .ref drp7, .ref drp8, .ref drp9, .ref drp10])), (drp1, aI cs 24 f_drp1)] (fun (u : Unit) => True) (fun (u : Unit) => [(drp, .inr (6, [.int i1, .int i2, .int i3, .int i4, .int i5, .int i6, .int i7, .ref drp1, .ref drp2, .ref drp3, .ref drp4, .ref drp5, .ref drp6, .ref drp7, .ref drp8, .ref drp9, .ref drp10])), (drp1, aI cs 24 f_drp1)]) := by
  refine kMet_v RX6 (by decide) rfl (Nat.le_of_ble_eq_true rfl) ?_
  intro p e s m below meth c ls A Qz H locs hx hb hml hown hin hu hK hsz hA hP hD hS hl hz
  subst hsz
  have hl : lv_has ls 5 [(0, .ref drp), (1, .int x), (2, .int y)] := hl
  refine lv_iconst (v := 0) hx hb dX6_wipeTill_0 (by decide) ?_
  refine lv_istore_n (lv' := [(3, .int 0), (0, .ref drp), (1, .int x), (2, .int y)]) hx hb dX6_wipeTill_1 rfl hl (by decide) rfl (fun ls hl => ?_)
  refine lv_iload_n hx hb dX6_wipeTill_2 rfl (lv_at hl 0 rfl) ?_
  refine lv_bipush (v := 24) hx hb dX6_wipeTill_3 (by decide) ?_
  refine lv_icmp_ge (tgt := 43) hx hb dX6_wipeTill_5 (by decide) (fun c_1 => absurd c_1 (by decide)) (fun c_1 => ?_)
  refine lv_aload_n hx hb dX6_wipeTill_8 rfl (lv_at hl 1 rfl) ?_
  refine kV_i (ci := 6) (As := []) (rest := []) (wc := [(drp, .inr (6, [.int i1, .int i2, .int i3, .int i4, .int i5, .int i6, .int i7, .ref drp1, .ref drp2, .ref drp3, .ref drp4, .ref drp5, .ref drp6, .ref drp7, .ref drp8, .ref drp9, .ref drp10])), (drp1, aI cs 24 f_drp1)]) (wr := []) hx hb hml hown hu hK hP hD hS hA hl.1 (c_X6_freePages l D cs H.size drp drp1 f_drp1 drp2 drp3 drp4 drp5 drp6 drp7 drp8 drp9 drp10 i1 i2 i3 i4 i5 i6 i7 z_f_drp1) (gV u_445 u_446 u_447 u_72 u_448) hd_X6_freePages ⟨(Nat.le_of_ble_eq_true rfl), (Nat.le_of_ble_eq_true rfl)⟩ [0, 1] [] rfl rfl rfl rfl (by decide) rfl 0 rfl rfl rfl (Nat.le_of_ble_eq_true rfl) dX6_wipeTill_9 ⟨(Nat.le_of_ble_eq_true rfl), (Nat.le_of_ble_eq_true rfl)⟩ (fun r_2 ut_3 H locs hw_4 hP hD hS => ?_)
  have hP : va_P D vwCl [(drp, .inr (6, [.int i1, .int i2, .int i3, .int i4, .int i5, .int i6, .int i7, .ref drp1, .ref drp2, .ref drp3, .ref drp4, .ref drp5, .ref drp6, .ref drp7, .ref drp8, .ref drp9, .ref drp10])), (drp1, aI cs 24 f_drp1)] H := hP
  have hD : va_D A [(drp, .inr (6, [.int i1, .int i2, .int i3, .int i4, .int i5, .int i6, .int i7, .ref drp1, .ref drp2, .ref drp3, .ref drp4, .ref drp5, .ref drp6, .ref drp7, .ref drp8, .ref drp9, .ref drp10])), (drp1, aI cs 24 f_drp1)] := hD
  have er_5 := hw_4
  subst er_5
  refine lv_iload_n hx hb dX6_wipeTill_12 rfl (lv_at hl 2 rfl) ?_
  refine lv_icmp_ge (tgt := 43) hx hb dX6_wipeTill_13 (by decide) (fun c_6 => ?_) (fun c_6 => absurd (Int32.not_lt.mp hx24) c_6)
  exact hz () hP hD hS trivial [0, 1] rfl rfl (Nat.le_of_ble_eq_true rfl) (Nat.le_of_ble_eq_true rfl) rfl dX6_wipeTill_43
