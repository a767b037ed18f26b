theorem u_97 : Cond.fieldLink "KeyDrive$Row" 21 "KeyDrive$Row" "length" "I" ∈ U0 := um 97 (by decide +kernel) (by decide +kernel)
theorem u_95 : Cond.fieldLink "KeyDrive$Row" 15 "KeyDrive$Row" "bytes" "[I" ∈ U0 := um 95 (by decide +kernel) (by decide +kernel)
theorem u_385 : Cond.code yX7_addByte prog_9_method_3_code 2 none ∈ U0 := um 385 (by decide +kernel) (by decide +kernel)
theorem u_382 : Cond.methodLink "KeyDrive$Row" 25 yX7_addByte ∈ U0 := um 382 (by decide +kernel) (by decide +kernel)
theorem u_383 : Cond.instanceMethod yX7_addByte ∈ U0 := um 383 (by decide +kernel) (by decide +kernel)
theorem u_384 : Cond.selects "KeyDrive$Row" yX7_addByte yX7_addByte ∈ U0 := um 384 (by decide +kernel) (by decide +kernel)
theorem u_67 : Cond.initialized "KeyDrive$Row" ∈ U0 := um 67 (by decide +kernel) (by decide +kernel)
theorem u_91 : Cond.methodLink "KeyDrive$Row" 3 objectInit ∈ U0 := um 91 (by decide +kernel) (by decide +kernel)
theorem u_84 : Cond.instanceMethod objectInit ∈ U0 := um 84 (by decide +kernel) (by decide +kernel)
theorem u_85 : Cond.code objectInit ⟨#[0xb1]⟩ 1 none ∈ U0 := um 85 (by decide +kernel) (by decide +kernel)
theorem u_92 : Cond.methodLink "KeyDrive$Row" 9 Lib.Math.max.name ∈ U0 := um 92 (by decide +kernel) (by decide +kernel)
theorem u_105 : Cond.arrayClass .int ∈ U0 := um 105 (by decide +kernel) (by decide +kernel)
theorem u_111 : Cond.methodLink "KeyDrive$Deeds" 3 objectInit ∈ U0 := um 111 (by decide +kernel) (by decide +kernel)
theorem u_114 : Cond.fieldLink "KeyDrive$Deeds" 9 "KeyDrive$Deeds" "place" "I" ∈ U0 := um 114 (by decide +kernel) (by decide +kernel)
theorem u_118 : Cond.fieldLink "KeyDrive$Deeds" 15 "KeyDrive$Deeds" "kind" "[I" ∈ U0 := um 118 (by decide +kernel) (by decide +kernel)
theorem u_119 : Cond.fieldLink "KeyDrive$Deeds" 19 "KeyDrive$Deeds" "keyFrom" "[I" ∈ U0 := um 119 (by decide +kernel) (by decide +kernel)
theorem u_120 : Cond.fieldLink "KeyDrive$Deeds" 22 "KeyDrive$Deeds" "keyLength" "[I" ∈ U0 := um 120 (by decide +kernel) (by decide +kernel)
theorem u_121 : Cond.fieldLink "KeyDrive$Deeds" 25 "KeyDrive$Deeds" "valueLength" "[I" ∈ U0 := um 121 (by decide +kernel) (by decide +kernel)
theorem u_140 : Cond.arrayClass .boolean ∈ U0 := um 140 (by decide +kernel) (by decide +kernel)
theorem u_122 : Cond.fieldLink "KeyDrive$Deeds" 28 "KeyDrive$Deeds" "done" "[Z" ∈ U0 := um 122 (by decide +kernel) (by decide +kernel)
theorem u_146 : Cond.methodLink "KeyDrive$Buckets" 3 objectInit ∈ U0 := um 146 (by decide +kernel) (by decide +kernel)
theorem u_154 : Cond.fieldLink "KeyDrive$Buckets" 9 "KeyDrive$Buckets" "hot" "[I" ∈ U0 := um 154 (by decide +kernel) (by decide +kernel)
theorem u_155 : Cond.fieldLink "KeyDrive$Buckets" 15 "KeyDrive$Buckets" "changed" "[Z" ∈ U0 := um 155 (by decide +kernel) (by decide +kernel)
theorem u_174 : Cond.methodLink "KeyDrive$Packing" 3 objectInit ∈ U0 := um 174 (by decide +kernel) (by decide +kernel)
theorem u_177 : Cond.fieldLink "KeyDrive$Packing" 9 "KeyDrive$Packing" "number" "[I" ∈ U0 := um 177 (by decide +kernel) (by decide +kernel)
theorem u_178 : Cond.fieldLink "KeyDrive$Packing" 15 "KeyDrive$Packing" "size" "[I" ∈ U0 := um 178 (by decide +kernel) (by decide +kernel)
theorem u_179 : Cond.fieldLink "KeyDrive$Packing" 18 "KeyDrive$Packing" "end" "[I" ∈ U0 := um 179 (by decide +kernel) (by decide +kernel)
theorem u_302 : Cond.methodLink "KeyDrive$Moments" 3 objectInit ∈ U0 := um 302 (by decide +kernel) (by decide +kernel)
theorem u_296 : Cond.arrayClass .long ∈ U0 := um 296 (by decide +kernel) (by decide +kernel)
theorem u_270 : Cond.methodLink "KeyDrive$Keys" 3 objectInit ∈ U0 := um 270 (by decide +kernel) (by decide +kernel)
theorem u_275 : Cond.fieldLink "KeyDrive$Keys" 9 "KeyDrive$Keys" "order" "[I" ∈ U0 := um 275 (by decide +kernel) (by decide +kernel)
theorem u_276 : Cond.fieldLink "KeyDrive$Keys" 15 "KeyDrive$Keys" "bits" "[J" ∈ U0 := um 276 (by decide +kernel) (by decide +kernel)
theorem u_277 : Cond.fieldLink "KeyDrive$Keys" 19 "KeyDrive$Keys" "length" "[I" ∈ U0 := um 277 (by decide +kernel) (by decide +kernel)
theorem u_278 : Cond.fieldLink "KeyDrive$Keys" 22 "KeyDrive$Keys" "versionCount" "[I" ∈ U0 := um 278 (by decide +kernel) (by decide +kernel)
theorem u_279 : Cond.fieldLink "KeyDrive$Keys" 25 "KeyDrive$Keys" "number" "[I" ∈ U0 := um 279 (by decide +kernel) (by decide +kernel)
theorem u_280 : Cond.fieldLink "KeyDrive$Keys" 28 "KeyDrive$Keys" "record" "[I" ∈ U0 := um 280 (by decide +kernel) (by decide +kernel)
theorem u_196 : Cond.methodLink "KeyDrive$Pages" 3 objectInit ∈ U0 := um 196 (by decide +kernel) (by decide +kernel)
theorem u_201 : Cond.fieldLink "KeyDrive$Pages" 9 "KeyDrive$Pages" "last" "I" ∈ U0 := um 201 (by decide +kernel) (by decide +kernel)
theorem u_209 : Cond.fieldLink "KeyDrive$Pages" 15 "KeyDrive$Pages" "unusedCount" "I" ∈ U0 := um 209 (by decide +kernel) (by decide +kernel)
theorem u_213 : Cond.fieldLink "KeyDrive$Pages" 28 "KeyDrive$Pages" "slotRecord" "[I" ∈ U0 := um 213 (by decide +kernel) (by decide +kernel)
theorem u_214 : Cond.fieldLink "KeyDrive$Pages" 31 "KeyDrive$Pages" "slotSize" "[I" ∈ U0 := um 214 (by decide +kernel) (by decide +kernel)
theorem u_215 : Cond.fieldLink "KeyDrive$Pages" 34 "KeyDrive$Pages" "unused" "[I" ∈ U0 := um 215 (by decide +kernel) (by decide +kernel)
theorem u_216 : Cond.fieldLink "KeyDrive$Pages" 37 "KeyDrive$Pages" "recordPlace" "[I" ∈ U0 := um 216 (by decide +kernel) (by decide +kernel)
theorem u_217 : Cond.fieldLink "KeyDrive$Pages" 40 "KeyDrive$Pages" "recordSize" "[I" ∈ U0 := um 217 (by decide +kernel) (by decide +kernel)
theorem u_218 : Cond.fieldLink "KeyDrive$Pages" 43 "KeyDrive$Pages" "valueLength" "[I" ∈ U0 := um 218 (by decide +kernel) (by decide +kernel)
theorem u_255 : Cond.arrayClass .byte ∈ U0 := um 255 (by decide +kernel) (by decide +kernel)
theorem u_219 : Cond.fieldLink "KeyDrive$Pages" 46 "KeyDrive$Pages" "bytes" "[B" ∈ U0 := um 219 (by decide +kernel) (by decide +kernel)
theorem dX7_addByte_0 : decode cX7_addByte 0 = .ok (.aload_n 0, 1) := by decide +kernel
theorem dX7_addByte_1 : decode cX7_addByte 1 = .ok (.getfield 21, 3) := by decide +kernel
theorem dX7_addByte_4 : decode cX7_addByte 4 = .ok (.ifCond .lt 39, 3) := by decide +kernel
theorem dX7_addByte_7 : decode cX7_addByte 7 = .ok (.aload_n 0, 1) := by decide +kernel
theorem dX7_addByte_8 : decode cX7_addByte 8 = .ok (.getfield 21, 3) := by decide +kernel
theorem dX7_addByte_11 : decode cX7_addByte 11 = .ok (.aload_n 0, 1) := by decide +kernel
theorem dX7_addByte_12 : decode cX7_addByte 12 = .ok (.getfield 15, 3) := by decide +kernel
theorem dX7_addByte_15 : decode cX7_addByte 15 = .ok (.arraylength, 1) := by decide +kernel
theorem dX7_addByte_16 : decode cX7_addByte 16 = .ok (.if_icmp .ge 27, 3) := by decide +kernel
theorem dX7_addByte_19 : decode cX7_addByte 19 = .ok (.aload_n 0, 1) := by decide +kernel
theorem dX7_addByte_20 : decode cX7_addByte 20 = .ok (.getfield 15, 3) := by decide +kernel
theorem dX7_addByte_23 : decode cX7_addByte 23 = .ok (.aload_n 0, 1) := by decide +kernel
theorem dX7_addByte_24 : decode cX7_addByte 24 = .ok (.getfield 21, 3) := by decide +kernel
theorem dX7_addByte_27 : decode cX7_addByte 27 = .ok (.iload_n 1, 1) := by decide +kernel
theorem dX7_addByte_28 : decode cX7_addByte 28 = .ok (.sipush 255, 3) := by decide +kernel
theorem dX7_addByte_31 : decode cX7_addByte 31 = .ok (.iand, 1) := by decide +kernel
theorem dX7_addByte_32 : decode cX7_addByte 32 = .ok (.iastore, 1) := by decide +kernel
theorem dX7_addByte_33 : decode cX7_addByte 33 = .ok (.aload_n 0, 1) := by decide +kernel
theorem dX7_addByte_34 : decode cX7_addByte 34 = .ok (.dup, 1) := by decide +kernel
theorem dX7_addByte_35 : decode cX7_addByte 35 = .ok (.getfield 21, 3) := by decide +kernel
theorem dX7_addByte_38 : decode cX7_addByte 38 = .ok (.iconst 1, 1) := by decide +kernel
theorem dX7_addByte_39 : decode cX7_addByte 39 = .ok (.iadd, 1) := by decide +kernel
theorem dX7_addByte_40 : decode cX7_addByte 40 = .ok (.putfield 21, 3) := by decide +kernel
theorem dX7_addByte_43 : decode cX7_addByte 43 = .ok (.return_, 1) := by decide +kernel
theorem dX7_addWord_0 : decode cX7_addWord 0 = .ok (.aload_n 0, 1) := by decide +kernel
theorem dX7_addWord_1 : decode cX7_addWord 1 = .ok (.iload_n 1, 1) := by decide +kernel
theorem dX7_addWord_2 : decode cX7_addWord 2 = .ok (.bipush 24, 2) := by decide +kernel
theorem dX7_addWord_4 : decode cX7_addWord 4 = .ok (.iushr, 1) := by decide +kernel
theorem dX7_addWord_5 : decode cX7_addWord 5 = .ok (.invokevirtual 25, 3) := by decide +kernel
theorem dX7_addWord_8 : decode cX7_addWord 8 = .ok (.aload_n 0, 1) := by decide +kernel
theorem dX7_addWord_9 : decode cX7_addWord 9 = .ok (.iload_n 1, 1) := by decide +kernel
theorem dX7_addWord_10 : decode cX7_addWord 10 = .ok (.bipush 16, 2) := by decide +kernel
theorem dX7_addWord_12 : decode cX7_addWord 12 = .ok (.iushr, 1) := by decide +kernel
theorem dX7_addWord_13 : decode cX7_addWord 13 = .ok (.invokevirtual 25, 3) := by decide +kernel
theorem dX7_addWord_16 : decode cX7_addWord 16 = .ok (.aload_n 0, 1) := by decide +kernel
theorem dX7_addWord_17 : decode cX7_addWord 17 = .ok (.iload_n 1, 1) := by decide +kernel
theorem dX7_addWord_18 : decode cX7_addWord 18 = .ok (.bipush 8, 2) := by decide +kernel
theorem dX7_addWord_20 : decode cX7_addWord 20 = .ok (.iushr, 1) := by decide +kernel
theorem dX7_addWord_21 : decode cX7_addWord 21 = .ok (.invokevirtual 25, 3) := by decide +kernel
theorem dX7_addWord_24 : decode cX7_addWord 24 = .ok (.aload_n 0, 1) := by decide +kernel
theorem dX7_addWord_25 : decode cX7_addWord 25 = .ok (.iload_n 1, 1) := by decide +kernel
theorem dX7_addWord_26 : decode cX7_addWord 26 = .ok (.invokevirtual 25, 3) := by decide +kernel
theorem dX7_addWord_29 : decode cX7_addWord 29 = .ok (.return_, 1) := by decide +kernel
theorem dX7_bitsAt_0 : decode cX7_bitsAt 0 = .ok (.lconst 0, 1) := by decide +kernel
theorem dX7_bitsAt_1 : decode cX7_bitsAt 1 = .ok (.lstore_n 3, 1) := by decide +kernel
theorem dX7_bitsAt_2 : decode cX7_bitsAt 2 = .ok (.iconst 0, 1) := by decide +kernel
theorem dX7_bitsAt_3 : decode cX7_bitsAt 3 = .ok (.istore 5, 2) := by decide +kernel
theorem dX7_bitsAt_5 : decode cX7_bitsAt 5 = .ok (.iload 5, 2) := by decide +kernel
theorem dX7_bitsAt_7 : decode cX7_bitsAt 7 = .ok (.bipush 8, 2) := by decide +kernel
theorem dX7_bitsAt_9 : decode cX7_bitsAt 9 = .ok (.if_icmp .ge 34, 3) := by decide +kernel
theorem dX7_bitsAt_12 : decode cX7_bitsAt 12 = .ok (.lload_n 3, 1) := by decide +kernel
theorem dX7_bitsAt_13 : decode cX7_bitsAt 13 = .ok (.bipush 8, 2) := by decide +kernel
theorem dX7_bitsAt_15 : decode cX7_bitsAt 15 = .ok (.lshl, 1) := by decide +kernel
theorem dX7_bitsAt_16 : decode cX7_bitsAt 16 = .ok (.iload 5, 2) := by decide +kernel
theorem dX7_bitsAt_18 : decode cX7_bitsAt 18 = .ok (.iload_n 2, 1) := by decide +kernel
theorem dX7_bitsAt_19 : decode cX7_bitsAt 19 = .ok (.if_icmp .ge 14, 3) := by decide +kernel
theorem dX7_bitsAt_33 : decode cX7_bitsAt 33 = .ok (.iconst 0, 1) := by decide +kernel
theorem dX7_bitsAt_34 : decode cX7_bitsAt 34 = .ok (.i2l, 1) := by decide +kernel
theorem dX7_bitsAt_35 : decode cX7_bitsAt 35 = .ok (.lor, 1) := by decide +kernel
theorem dX7_bitsAt_36 : decode cX7_bitsAt 36 = .ok (.lstore_n 3, 1) := by decide +kernel
theorem dX7_bitsAt_37 : decode cX7_bitsAt 37 = .ok (.iinc 5 1, 3) := by decide +kernel
theorem dX7_bitsAt_40 : decode cX7_bitsAt 40 = .ok (.goto (-35), 3) := by decide +kernel
theorem dX7_bitsAt_43 : decode cX7_bitsAt 43 = .ok (.lload_n 3, 1) := by decide +kernel
theorem dX7_bitsAt_44 : decode cX7_bitsAt 44 = .ok (.lreturn, 1) := by decide +kernel
theorem dX7_init_0 : decode cX7_init 0 = .ok (.aload_n 0, 1) := by decide +kernel
theorem dX7_init_1 : decode cX7_init 1 = .ok (.invokespecial 3, 3) := by decide +kernel
theorem dX7_init_4 : decode cX7_init 4 = .ok (.aload_n 0, 1) := by decide +kernel
theorem dX7_init_5 : decode cX7_init 5 = .ok (.iconst 0, 1) := by decide +kernel
theorem dX7_init_6 : decode cX7_init 6 = .ok (.iload_n 1, 1) := by decide +kernel
theorem dX7_init_7 : decode cX7_init 7 = .ok (.invokestatic 9, 3) := by decide +kernel
theorem dX7_init_10 : decode cX7_init 10 = .ok (.newarray .int, 2) := by decide +kernel
theorem dX7_init_12 : decode cX7_init 12 = .ok (.putfield 15, 3) := by decide +kernel
theorem dX7_init_15 : decode cX7_init 15 = .ok (.return_, 1) := by decide +kernel
theorem dX1_init_0 : decode cX1_init 0 = .ok (.aload_n 0, 1) := by decide +kernel
theorem dX1_init_1 : decode cX1_init 1 = .ok (.invokespecial 3, 3) := by decide +kernel
theorem dX1_init_4 : decode cX1_init 4 = .ok (.aload_n 0, 1) := by decide +kernel
theorem dX1_init_5 : decode cX1_init 5 = .ok (.iconst (-1), 1) := by decide +kernel
theorem dX1_init_6 : decode cX1_init 6 = .ok (.putfield 9, 3) := by decide +kernel
theorem dX1_init_9 : decode cX1_init 9 = .ok (.aload_n 0, 1) := by decide +kernel
theorem dX1_init_10 : decode cX1_init 10 = .ok (.bipush 20, 2) := by decide +kernel
theorem dX1_init_12 : decode cX1_init 12 = .ok (.newarray .int, 2) := by decide +kernel
theorem dX1_init_14 : decode cX1_init 14 = .ok (.putfield 15, 3) := by decide +kernel
theorem dX1_init_17 : decode cX1_init 17 = .ok (.aload_n 0, 1) := by decide +kernel
theorem dX1_init_18 : decode cX1_init 18 = .ok (.bipush 20, 2) := by decide +kernel
theorem dX1_init_20 : decode cX1_init 20 = .ok (.newarray .int, 2) := by decide +kernel
theorem dX1_init_22 : decode cX1_init 22 = .ok (.putfield 19, 3) := by decide +kernel
theorem dX1_init_25 : decode cX1_init 25 = .ok (.aload_n 0, 1) := by decide +kernel
theorem dX1_init_26 : decode cX1_init 26 = .ok (.bipush 20, 2) := by decide +kernel
theorem dX1_init_28 : decode cX1_init 28 = .ok (.newarray .int, 2) := by decide +kernel
theorem dX1_init_30 : decode cX1_init 30 = .ok (.putfield 22, 3) := by decide +kernel
theorem dX1_init_33 : decode cX1_init 33 = .ok (.aload_n 0, 1) := by decide +kernel
theorem dX1_init_34 : decode cX1_init 34 = .ok (.bipush 20, 2) := by decide +kernel
theorem dX1_init_36 : decode cX1_init 36 = .ok (.newarray .int, 2) := by decide +kernel
theorem dX1_init_38 : decode cX1_init 38 = .ok (.putfield 25, 3) := by decide +kernel
theorem dX1_init_41 : decode cX1_init 41 = .ok (.aload_n 0, 1) := by decide +kernel
theorem dX1_init_42 : decode cX1_init 42 = .ok (.bipush 20, 2) := by decide +kernel
theorem dX1_init_44 : decode cX1_init 44 = .ok (.newarray .boolean, 2) := by decide +kernel
theorem dX1_init_46 : decode cX1_init 46 = .ok (.putfield 28, 3) := by decide +kernel
theorem dX1_init_49 : decode cX1_init 49 = .ok (.return_, 1) := by decide +kernel
theorem dX0_init_0 : decode cX0_init 0 = .ok (.aload_n 0, 1) := by decide +kernel
theorem dX0_init_1 : decode cX0_init 1 = .ok (.invokespecial 3, 3) := by decide +kernel
theorem dX0_init_4 : decode cX0_init 4 = .ok (.aload_n 0, 1) := by decide +kernel
theorem dX0_init_5 : decode cX0_init 5 = .ok (.iconst 3, 1) := by decide +kernel
theorem dX0_init_6 : decode cX0_init 6 = .ok (.newarray .int, 2) := by decide +kernel
theorem dX0_init_8 : decode cX0_init 8 = .ok (.putfield 9, 3) := by decide +kernel
theorem dX0_init_11 : decode cX0_init 11 = .ok (.aload_n 0, 1) := by decide +kernel
theorem dX0_init_12 : decode cX0_init 12 = .ok (.bipush 8, 2) := by decide +kernel
theorem dX0_init_14 : decode cX0_init 14 = .ok (.newarray .boolean, 2) := by decide +kernel
theorem dX0_init_16 : decode cX0_init 16 = .ok (.putfield 15, 3) := by decide +kernel
theorem dX0_init_19 : decode cX0_init 19 = .ok (.return_, 1) := by decide +kernel
theorem dX5_init_0 : decode cX5_init 0 = .ok (.aload_n 0, 1) := by decide +kernel
theorem dX5_init_1 : decode cX5_init 1 = .ok (.invokespecial 3, 3) := by decide +kernel
theorem dX5_init_4 : decode cX5_init 4 = .ok (.aload_n 0, 1) := by decide +kernel
theorem dX5_init_5 : decode cX5_init 5 = .ok (.sipush 240, 3) := by decide +kernel
theorem dX5_init_8 : decode cX5_init 8 = .ok (.newarray .int, 2) := by decide +kernel
theorem dX5_init_10 : decode cX5_init 10 = .ok (.putfield 9, 3) := by decide +kernel
theorem dX5_init_13 : decode cX5_init 13 = .ok (.aload_n 0, 1) := by decide +kernel
theorem dX5_init_14 : decode cX5_init 14 = .ok (.sipush 240, 3) := by decide +kernel
theorem dX5_init_17 : decode cX5_init 17 = .ok (.newarray .int, 2) := by decide +kernel
theorem dX5_init_19 : decode cX5_init 19 = .ok (.putfield 15, 3) := by decide +kernel
theorem dX5_init_22 : decode cX5_init 22 = .ok (.aload_n 0, 1) := by decide +kernel
theorem dX5_init_23 : decode cX5_init 23 = .ok (.sipush 240, 3) := by decide +kernel
theorem dX5_init_26 : decode cX5_init 26 = .ok (.newarray .int, 2) := by decide +kernel
theorem dX5_init_28 : decode cX5_init 28 = .ok (.putfield 18, 3) := by decide +kernel
theorem dX5_init_31 : decode cX5_init 31 = .ok (.return_, 1) := by decide +kernel
theorem dX4_init_0 : decode cX4_init 0 = .ok (.aload_n 0, 1) := by decide +kernel
theorem dX4_init_1 : decode cX4_init 1 = .ok (.invokespecial 3, 3) := by decide +kernel
theorem dX4_init_4 : decode cX4_init 4 = .ok (.aload_n 0, 1) := by decide +kernel
theorem dX4_init_5 : decode cX4_init 5 = .ok (.bipush 7, 2) := by decide +kernel
theorem dX4_init_7 : decode cX4_init 7 = .ok (.newarray .int, 2) := by decide +kernel
theorem dX4_init_9 : decode cX4_init 9 = .ok (.putfield 9, 3) := by decide +kernel
theorem dX4_init_12 : decode cX4_init 12 = .ok (.aload_n 0, 1) := by decide +kernel
theorem dX4_init_13 : decode cX4_init 13 = .ok (.iconst 3, 1) := by decide +kernel
theorem dX4_init_14 : decode cX4_init 14 = .ok (.newarray .long, 2) := by decide +kernel
theorem dX4_init_16 : decode cX4_init 16 = .ok (.putfield 15, 3) := by decide +kernel
theorem dX4_init_19 : decode cX4_init 19 = .ok (.aload_n 0, 1) := by decide +kernel
theorem dX4_init_20 : decode cX4_init 20 = .ok (.iconst 3, 1) := by decide +kernel
theorem dX4_init_21 : decode cX4_init 21 = .ok (.newarray .int, 2) := by decide +kernel
theorem dX4_init_23 : decode cX4_init 23 = .ok (.putfield 19, 3) := by decide +kernel
theorem dX4_init_26 : decode cX4_init 26 = .ok (.aload_n 0, 1) := by decide +kernel
theorem dX4_init_27 : decode cX4_init 27 = .ok (.iconst 3, 1) := by decide +kernel
theorem dX4_init_28 : decode cX4_init 28 = .ok (.newarray .int, 2) := by decide +kernel
theorem dX4_init_30 : decode cX4_init 30 = .ok (.putfield 22, 3) := by decide +kernel
theorem dX4_init_33 : decode cX4_init 33 = .ok (.iconst 0, 1) := by decide +kernel
theorem dX4_init_34 : decode cX4_init 34 = .ok (.istore_n 1, 1) := by decide +kernel
theorem dX4_init_35 : decode cX4_init 35 = .ok (.iload_n 1, 1) := by decide +kernel
theorem dX4_init_36 : decode cX4_init 36 = .ok (.bipush 7, 2) := by decide +kernel
theorem dX4_init_38 : decode cX4_init 38 = .ok (.if_icmp .ge 16, 3) := by decide +kernel
theorem dX4_init_41 : decode cX4_init 41 = .ok (.aload_n 0, 1) := by decide +kernel
theorem dX4_init_42 : decode cX4_init 42 = .ok (.getfield 9, 3) := by decide +kernel
theorem dX4_init_45 : decode cX4_init 45 = .ok (.iload_n 1, 1) := by decide +kernel
theorem dX4_init_46 : decode cX4_init 46 = .ok (.iconst (-1), 1) := by decide +kernel
theorem dX4_init_47 : decode cX4_init 47 = .ok (.iastore, 1) := by decide +kernel
theorem dX4_init_48 : decode cX4_init 48 = .ok (.iinc 1 1, 3) := by decide +kernel
theorem dX4_init_51 : decode cX4_init 51 = .ok (.goto (-16), 3) := by decide +kernel
theorem dX4_init_54 : decode cX4_init 54 = .ok (.return_, 1) := by decide +kernel
theorem dX3_init_0 : decode cX3_init 0 = .ok (.aload_n 0, 1) := by decide +kernel
theorem dX3_init_1 : decode cX3_init 1 = .ok (.invokespecial 3, 3) := by decide +kernel
theorem dX3_init_4 : decode cX3_init 4 = .ok (.aload_n 0, 1) := by decide +kernel
theorem dX3_init_5 : decode cX3_init 5 = .ok (.sipush 240, 3) := by decide +kernel
theorem dX3_init_8 : decode cX3_init 8 = .ok (.newarray .int, 2) := by decide +kernel
theorem dX3_init_10 : decode cX3_init 10 = .ok (.putfield 9, 3) := by decide +kernel
theorem dX3_init_13 : decode cX3_init 13 = .ok (.aload_n 0, 1) := by decide +kernel
theorem dX3_init_14 : decode cX3_init 14 = .ok (.sipush 240, 3) := by decide +kernel
theorem dX3_init_17 : decode cX3_init 17 = .ok (.newarray .long, 2) := by decide +kernel
theorem dX3_init_19 : decode cX3_init 19 = .ok (.putfield 15, 3) := by decide +kernel
theorem dX3_init_22 : decode cX3_init 22 = .ok (.aload_n 0, 1) := by decide +kernel
theorem dX3_init_23 : decode cX3_init 23 = .ok (.sipush 240, 3) := by decide +kernel
theorem dX3_init_26 : decode cX3_init 26 = .ok (.newarray .int, 2) := by decide +kernel
theorem dX3_init_28 : decode cX3_init 28 = .ok (.putfield 19, 3) := by decide +kernel
theorem dX3_init_31 : decode cX3_init 31 = .ok (.aload_n 0, 1) := by decide +kernel
theorem dX3_init_32 : decode cX3_init 32 = .ok (.sipush 240, 3) := by decide +kernel
theorem dX3_init_35 : decode cX3_init 35 = .ok (.newarray .int, 2) := by decide +kernel
theorem dX3_init_37 : decode cX3_init 37 = .ok (.putfield 22, 3) := by decide +kernel
theorem dX3_init_40 : decode cX3_init 40 = .ok (.aload_n 0, 1) := by decide +kernel
theorem dX3_init_41 : decode cX3_init 41 = .ok (.sipush 2160, 3) := by decide +kernel
theorem dX3_init_44 : decode cX3_init 44 = .ok (.newarray .int, 2) := by decide +kernel
theorem dX3_init_46 : decode cX3_init 46 = .ok (.putfield 25, 3) := by decide +kernel
theorem dX3_init_49 : decode cX3_init 49 = .ok (.aload_n 0, 1) := by decide +kernel
theorem dX3_init_50 : decode cX3_init 50 = .ok (.sipush 2160, 3) := by decide +kernel
theorem dX3_init_53 : decode cX3_init 53 = .ok (.newarray .int, 2) := by decide +kernel
theorem dX3_init_55 : decode cX3_init 55 = .ok (.putfield 28, 3) := by decide +kernel
theorem dX3_init_58 : decode cX3_init 58 = .ok (.iconst 0, 1) := by decide +kernel
theorem dX3_init_59 : decode cX3_init 59 = .ok (.istore_n 1, 1) := by decide +kernel
theorem dX3_init_60 : decode cX3_init 60 = .ok (.iload_n 1, 1) := by decide +kernel
theorem dX3_init_61 : decode cX3_init 61 = .ok (.sipush 240, 3) := by decide +kernel
theorem dX3_init_64 : decode cX3_init 64 = .ok (.if_icmp .ge 16, 3) := by decide +kernel
theorem dX3_init_67 : decode cX3_init 67 = .ok (.aload_n 0, 1) := by decide +kernel
theorem dX3_init_68 : decode cX3_init 68 = .ok (.getfield 9, 3) := by decide +kernel
theorem dX3_init_71 : decode cX3_init 71 = .ok (.iload_n 1, 1) := by decide +kernel
theorem dX3_init_72 : decode cX3_init 72 = .ok (.iload_n 1, 1) := by decide +kernel
theorem dX3_init_73 : decode cX3_init 73 = .ok (.iastore, 1) := by decide +kernel
theorem dX3_init_74 : decode cX3_init 74 = .ok (.iinc 1 1, 3) := by decide +kernel
theorem dX3_init_77 : decode cX3_init 77 = .ok (.goto (-17), 3) := by decide +kernel
theorem dX3_init_80 : decode cX3_init 80 = .ok (.return_, 1) := by decide +kernel
theorem dX6_init_0 : decode cX6_init 0 = .ok (.aload_n 0, 1) := by decide +kernel
theorem dX6_init_1 : decode cX6_init 1 = .ok (.invokespecial 3, 3) := by decide +kernel
theorem dX6_init_4 : decode cX6_init 4 = .ok (.aload_n 0, 1) := by decide +kernel
theorem dX6_init_5 : decode cX6_init 5 = .ok (.iconst (-1), 1) := by decide +kernel
theorem dX6_init_6 : decode cX6_init 6 = .ok (.putfield 9, 3) := by decide +kernel
theorem dX6_init_9 : decode cX6_init 9 = .ok (.aload_n 0, 1) := by decide +kernel
theorem dX6_init_10 : decode cX6_init 10 = .ok (.sipush 240, 3) := by decide +kernel
theorem dX6_init_13 : decode cX6_init 13 = .ok (.putfield 15, 3) := by decide +kernel
theorem dX6_init_16 : decode cX6_init 16 = .ok (.aload_n 0, 1) := by decide +kernel
theorem dX6_init_17 : decode cX6_init 17 = .ok (.bipush 24, 2) := by decide +kernel
theorem dX6_init_19 : decode cX6_init 19 = .ok (.newarray .int, 2) := by decide +kernel
theorem dX6_init_21 : decode cX6_init 21 = .ok (.putfield 18, 3) := by decide +kernel
theorem dX6_init_24 : decode cX6_init 24 = .ok (.aload_n 0, 1) := by decide +kernel
theorem dX6_init_25 : decode cX6_init 25 = .ok (.bipush 24, 2) := by decide +kernel
theorem dX6_init_27 : decode cX6_init 27 = .ok (.newarray .int, 2) := by decide +kernel
theorem dX6_init_29 : decode cX6_init 29 = .ok (.putfield 22, 3) := by decide +kernel
theorem dX6_init_32 : decode cX6_init 32 = .ok (.aload_n 0, 1) := by decide +kernel
theorem dX6_init_33 : decode cX6_init 33 = .ok (.bipush 24, 2) := by decide +kernel
theorem dX6_init_35 : decode cX6_init 35 = .ok (.newarray .int, 2) := by decide +kernel
theorem dX6_init_37 : decode cX6_init 37 = .ok (.putfield 25, 3) := by decide +kernel
theorem dX6_init_40 : decode cX6_init 40 = .ok (.aload_n 0, 1) := by decide +kernel
theorem dX6_init_41 : decode cX6_init 41 = .ok (.sipush 240, 3) := by decide +kernel
theorem dX6_init_44 : decode cX6_init 44 = .ok (.newarray .int, 2) := by decide +kernel
theorem dX6_init_46 : decode cX6_init 46 = .ok (.putfield 28, 3) := by decide +kernel
theorem dX6_init_49 : decode cX6_init 49 = .ok (.aload_n 0, 1) := by decide +kernel
theorem dX6_init_50 : decode cX6_init 50 = .ok (.sipush 240, 3) := by decide +kernel
theorem dX6_init_53 : decode cX6_init 53 = .ok (.newarray .int, 2) := by decide +kernel
theorem dX6_init_55 : decode cX6_init 55 = .ok (.putfield 31, 3) := by decide +kernel
theorem dX6_init_58 : decode cX6_init 58 = .ok (.aload_n 0, 1) := by decide +kernel
theorem dX6_init_59 : decode cX6_init 59 = .ok (.sipush 240, 3) := by decide +kernel
theorem dX6_init_62 : decode cX6_init 62 = .ok (.newarray .int, 2) := by decide +kernel
theorem dX6_init_64 : decode cX6_init 64 = .ok (.putfield 34, 3) := by decide +kernel
theorem dX6_init_67 : decode cX6_init 67 = .ok (.aload_n 0, 1) := by decide +kernel
theorem dX6_init_68 : decode cX6_init 68 = .ok (.sipush 240, 3) := by decide +kernel
theorem dX6_init_71 : decode cX6_init 71 = .ok (.newarray .int, 2) := by decide +kernel
theorem dX6_init_73 : decode cX6_init 73 = .ok (.putfield 37, 3) := by decide +kernel
theorem dX6_init_76 : decode cX6_init 76 = .ok (.aload_n 0, 1) := by decide +kernel
theorem dX6_init_77 : decode cX6_init 77 = .ok (.sipush 240, 3) := by decide +kernel
theorem dX6_init_80 : decode cX6_init 80 = .ok (.newarray .int, 2) := by decide +kernel
theorem dX6_init_82 : decode cX6_init 82 = .ok (.putfield 40, 3) := by decide +kernel
theorem dX6_init_85 : decode cX6_init 85 = .ok (.aload_n 0, 1) := by decide +kernel
theorem dX6_init_86 : decode cX6_init 86 = .ok (.sipush 240, 3) := by decide +kernel
theorem dX6_init_89 : decode cX6_init 89 = .ok (.newarray .int, 2) := by decide +kernel
theorem dX6_init_91 : decode cX6_init 91 = .ok (.putfield 43, 3) := by decide +kernel
theorem dX6_init_94 : decode cX6_init 94 = .ok (.aload_n 0, 1) := by decide +kernel
theorem dX6_init_95 : decode cX6_init 95 = .ok (.sipush 1536, 3) := by decide +kernel
theorem dX6_init_98 : decode cX6_init 98 = .ok (.newarray .byte, 2) := by decide +kernel
theorem dX6_init_100 : decode cX6_init 100 = .ok (.putfield 46, 3) := by decide +kernel
theorem dX6_init_103 : decode cX6_init 103 = .ok (.iconst 0, 1) := by decide +kernel
theorem dX6_init_104 : decode cX6_init 104 = .ok (.istore_n 1, 1) := by decide +kernel
theorem dX6_init_105 : decode cX6_init 105 = .ok (.iload_n 1, 1) := by decide +kernel
theorem dX6_init_106 : decode cX6_init 106 = .ok (.sipush 240, 3) := by decide +kernel
theorem dX6_init_109 : decode cX6_init 109 = .ok (.if_icmp .ge 20, 3) := by decide +kernel
theorem dX6_init_112 : decode cX6_init 112 = .ok (.aload_n 0, 1) := by decide +kernel
theorem dX6_init_113 : decode cX6_init 113 = .ok (.getfield 34, 3) := by decide +kernel
theorem dX6_init_116 : decode cX6_init 116 = .ok (.iload_n 1, 1) := by decide +kernel
theorem dX6_init_117 : decode cX6_init 117 = .ok (.sipush 239, 3) := by decide +kernel
theorem dX6_init_120 : decode cX6_init 120 = .ok (.iload_n 1, 1) := by decide +kernel
theorem dX6_init_121 : decode cX6_init 121 = .ok (.isub, 1) := by decide +kernel
theorem dX6_init_122 : decode cX6_init 122 = .ok (.iastore, 1) := by decide +kernel
theorem dX6_init_123 : decode cX6_init 123 = .ok (.iinc 1 1, 3) := by decide +kernel
theorem dX6_init_126 : decode cX6_init 126 = .ok (.goto (-21), 3) := by decide +kernel
theorem dX6_init_129 : decode cX6_init 129 = .ok (.return_, 1) := by decide +kernel
theorem hd_X7_addByte : yX7_addByte.cls = RX7 ∧ yX7_addByte.cls ≠ "java/lang/invoke/MethodHandle" ∧ yX7_addByte.cls ≠ "java/lang/invoke/VarHandle" ∧ (parseMethodDescriptor yX7_addByte.desc).map (fun d => d.parameters.length) = some 1 := by decide +kernel
abbrev rm_c_X7_addByte : Room := { frames := 0, cells := 0, slots := 0, locals := 0 }
set_option maxHeartbeats 4000000 in
set_option maxRecDepth 100000 in
theorem c_X7_addByte (l : Launch) (D : va_G) (cs : Nat → ClassId) (sz : Nat) (tp : Nat) (tpb : Nat) (f_tpb : Nat → Int32) (nn : Nat) (x : Int32) (hn : nn < 60) : cMv l yX7_addByte (Cond.code yX7_addByte cX7_addByte 2 none) (rm_c_X7_addByte) D cs [.ref tp, .int x] sz [(tp, .inr (7, [.ref tpb, .int (nI nn)])), (tpb, aI cs 60 f_tpb)] (fun (u : Nat → Int32) => True) (fun (u : Nat → Int32) => [(tp, .inr (7, [.ref tpb, .int (nI (nn + 1))])), (tpb, aI cs 60 u)]) := by
  refine kMet_v RX7 (by decide) rfl (Nat.le_of_ble_eq_true rfl) ?_
  intro p e s m below meth c ls A Qz H locs hx hb hml hown hin hu hK hsz hA hP hD hS hl hz
  subst hsz
  have hl : lv_has ls 2 [(0, .ref tp), (1, .int x)] := hl
  refine lv_aload_n hx hb dX7_addByte_0 rfl (lv_at hl 0 rfl) ?_
  refine va_get (D := D) (ci := 7) (v := .int (nI nn)) (C := RX7) (T := TX7) (N := 2) hx hb hu in_X7 hown hK.1 hP 0 rfl rfl 1 (by decide) (hu _ u_97) (fun _ h9 => h9) rfl dX7_addByte_1 ?_
  refine lv_if_lt (tgt := 43) hx hb dX7_addByte_4 (by decide) (fun c_1 => absurd c_1 (nI_pos (by omega))) (fun c_1 => ?_)
  refine lv_aload_n hx hb dX7_addByte_7 rfl (lv_at hl 0 rfl) ?_
  refine va_get (D := D) (ci := 7) (v := .int (nI nn)) (C := RX7) (T := TX7) (N := 2) hx hb hu in_X7 hown hK.1 hP 0 rfl rfl 1 (by decide) (hu _ u_97) (fun _ h9 => h9) rfl dX7_addByte_8 ?_
  refine lv_aload_n hx hb dX7_addByte_11 rfl (lv_at hl 0 rfl) ?_
  refine va_get (D := D) (ci := 7) (v := .ref tpb) (C := RX7) (T := TX7) (N := 2) hx hb hu in_X7 hown hK.1 hP 0 rfl rfl 0 (by decide) (hu _ u_95) (fun _ h9 => h9) rfl dX7_addByte_12 ?_
  refine va_alen (v := 60) hx hb hK.1 hP 1 0 rfl rfl rfl dX7_addByte_15 ?_
  refine lv_icmp_ge (tgt := 43) hx hb dX7_addByte_16 (by decide) (fun c_2 => absurd c_2 (fun h => absurd ((nI_leI (a := 60) (b := nn) (by omega) (by omega)).mp h) (by omega))) (fun c_2 => ?_)
  refine lv_aload_n hx hb dX7_addByte_19 rfl (lv_at hl 0 rfl) ?_
  refine va_get (D := D) (ci := 7) (v := .ref tpb) (C := RX7) (T := TX7) (N := 2) hx hb hu in_X7 hown hK.1 hP 0 rfl rfl 0 (by decide) (hu _ u_95) (fun _ h9 => h9) rfl dX7_addByte_20 ?_
  refine lv_aload_n hx hb dX7_addByte_23 rfl (lv_at hl 0 rfl) ?_
  refine va_get (D := D) (ci := 7) (v := .int (nI nn)) (C := RX7) (T := TX7) (N := 2) hx hb hu in_X7 hown hK.1 hP 0 rfl rfl 1 (by decide) (hu _ u_97) (fun _ h9 => h9) rfl dX7_addByte_24 ?_
  refine lv_iload_n hx hb dX7_addByte_27 rfl (lv_at hl 1 rfl) ?_
  refine lv_sipush (v := 255) hx hb dX7_addByte_28 (by decide) ?_
  refine lv_iand hx hb dX7_addByte_31 ?_
  refine va_iast hx hb hK.1 hP hD hS 1 0 rfl rfl (vp_in_nI (by omega) (by omega)) dX7_addByte_32 (fun H locs hP hD hS => ?_)
  have hP : va_P D vwCl [(tp, .inr (7, [.ref tpb, .int (nI nn)])), (tpb, aI cs 60 (upd f_tpb (nI nn).toNatClampNeg (x &&& 255)))] H := hP
  have hD : va_D A [(tp, .inr (7, [.ref tpb, .int (nI nn)])), (tpb, aI cs 60 (upd f_tpb (nI nn).toNatClampNeg (x &&& 255)))] := hD
  refine lv_aload_n hx hb dX7_addByte_33 rfl (lv_at hl 0 rfl) ?_
  refine lv_dup hx hb dX7_addByte_34 rfl ?_
  refine va_get (D := D) (ci := 7) (v := .int (nI nn)) (C := RX7) (T := TX7) (N := 2) hx hb hu in_X7 hown hK.1 hP 0 rfl rfl 1 (by decide) (hu _ u_97) (fun _ h9 => h9) rfl dX7_addByte_35 ?_
  refine lv_iconst (v := 1) hx hb dX7_addByte_38 (by decide) ?_
  refine lv_iadd hx hb dX7_addByte_39 ?_
  refine tpi (y := nI (nn + 1)) (nI_add _ _) ?_
  refine va_put (D := D) (ci := 7) (v := .int (nI (nn + 1))) (ty := tyX7 1) (C := RX7) (T := TX7) (N := 2) hx hb hu in_X7 tyX7 tyX7_ok nmX7 hown hK.1 hP hD hS 0 rfl rfl 1 (by decide) (hu _ u_97) (fun _ h9 => h9) rfl (tyX7_ok 1 (by decide)) rfl rfl (Nat.le_of_ble_eq_true rfl) dX7_addByte_40 (fun H locs hP hD hS => ?_)
  have hP : va_P D vwCl [(tp, .inr (7, [.ref tpb, .int (nI (nn + 1))])), (tpb, aI cs 60 (upd f_tpb (nI nn).toNatClampNeg (x &&& 255)))] H := hP
  have hD : va_D A [(tp, .inr (7, [.ref tpb, .int (nI (nn + 1))])), (tpb, aI cs 60 (upd f_tpb (nI nn).toNatClampNeg (x &&& 255)))] := hD
  exact hz ((upd f_tpb (nI nn).toNatClampNeg (x &&& 255))) hP hD hS trivial [0, 1] rfl rfl (Nat.le_of_ble_eq_true rfl) (Nat.le_of_ble_eq_true rfl) rfl dX7_addByte_43
abbrev rm_c_X7_addWord : Room := { frames := 1, cells := 0, slots := 0, locals := 21 }
set_option maxHeartbeats 4000000 in
set_option maxRecDepth 100000 in
theorem c_X7_addWord (l : Launch) (D : va_G) (cs : Nat → ClassId) (sz : Nat) (tp : Nat) (tpb : Nat) (f_tpb : Nat → Int32) (nn : Nat) (x : Int32) (hn : nn + 4 ≤ 60) : cMv l yX7_addWord (Cond.code yX7_addWord cX7_addWord 2 none) (rm_c_X7_addWord) D cs [.ref tp, .int x] sz [(tp, .inr (7, [.ref tpb, .int (nI nn)])), (tpb, aI cs 60 f_tpb)] (fun (u : Nat → Int32) => True) (fun (u : Nat → Int32) => [(tp, .inr (7, [.ref tpb, .int (nI (nn + 1 + 1 + 1 + 1))])), (tpb, aI cs 60 u)]) := by
  refine kMet_v RX7 (by decide) rfl (Nat.le_of_ble_eq_true rfl) ?_
  intro p e s m below meth c ls A Qz H locs hx hb hml hown hin hu hK hsz hA hP hD hS hl hz
  subst hsz
  have hl : lv_has ls 2 [(0, .ref tp), (1, .int x)] := hl
  refine lv_aload_n hx hb dX7_addWord_0 rfl (lv_at hl 0 rfl) ?_
  refine lv_iload_n hx hb dX7_addWord_1 rfl (lv_at hl 1 rfl) ?_
  refine lv_bipush (v := 24) hx hb dX7_addWord_2 (by decide) ?_
  refine lv_iushr (v := (x.toUInt32 >>> ((24 : Int32).toUInt32 &&& Int32.toUInt32 31)).toInt32) hx hb dX7_addWord_4 rfl ?_
  refine kV_v (ci := 7) (As := [.int ((x.toUInt32 >>> ((24 : Int32).toUInt32 &&& Int32.toUInt32 31)).toInt32)]) (rest := []) (wc := [(tp, .inr (7, [.ref tpb, .int (nI nn)])), (tpb, aI cs 60 f_tpb)]) (wr := []) hx hb hml hown hu hK hP hD hS hA hl.1 (c_X7_addByte l D cs H.size tp tpb f_tpb nn ((x.toUInt32 >>> ((24 : Int32).toUInt32 &&& Int32.toUInt32 31)).toInt32) (by omega)) (gV u_382 u_383 u_384 u_67 u_385) hd_X7_addByte ⟨(Nat.le_of_ble_eq_true rfl), (Nat.le_of_ble_eq_true rfl)⟩ [0, 1] [] rfl rfl rfl rfl (by decide) rfl 0 rfl rfl rfl (Nat.le_of_ble_eq_true rfl) dX7_addWord_5 ⟨(Nat.le_of_ble_eq_true rfl), (Nat.le_of_ble_eq_true rfl)⟩ (fun ut_2 H locs hw_3 hP hD hS => ?_)
  have hP : va_P D vwCl [(tp, .inr (7, [.ref tpb, .int (nI (nn + 1))])), (tpb, aI cs 60 ut_2)] H := hP
  have hD : va_D A [(tp, .inr (7, [.ref tpb, .int (nI (nn + 1))])), (tpb, aI cs 60 ut_2)] := hD
  obtain ⟨ug_4, rfl⟩ : ∃ z, z = ut_2 := ⟨_, rfl⟩
  have hP : va_P D vwCl [(tp, .inr (7, [.ref tpb, .int (nI (nn + 1))])), (tpb, aI cs 60 ug_4)] H := hP
  have hD : va_D A [(tp, .inr (7, [.ref tpb, .int (nI (nn + 1))])), (tpb, aI cs 60 ug_4)] := hD
  try dsimp only at hw_3
  refine lv_aload_n hx hb dX7_addWord_8 rfl (lv_at hl 0 rfl) ?_
  refine lv_iload_n hx hb dX7_addWord_9 rfl (lv_at hl 1 rfl) ?_
  refine lv_bipush (v := 16) hx hb dX7_addWord_10 (by decide) ?_
  refine lv_iushr (v := (x.toUInt32 >>> ((16 : Int32).toUInt32 &&& Int32.toUInt32 31)).toInt32) hx hb dX7_addWord_12 rfl ?_
  refine kV_v (ci := 7) (As := [.int ((x.toUInt32 >>> ((16 : Int32).toUInt32 &&& Int32.toUInt32 31)).toInt32)]) (rest := []) (wc := [(tp, .inr (7, [.ref tpb, .int (nI (nn + 1))])), (tpb, aI cs 60 ug_4)]) (wr := []) hx hb hml hown hu hK hP hD hS hA hl.1 (c_X7_addByte l D cs H.size tp tpb ug_4 (nn + 1) ((x.toUInt32 >>> ((16 : Int32).toUInt32 &&& Int32.toUInt32 31)).toInt32) (by omega)) (gV u_382 u_383 u_384 u_67 u_385) hd_X7_addByte ⟨(Nat.le_of_ble_eq_true rfl), (Nat.le_of_ble_eq_true rfl)⟩ [0, 1] [] rfl rfl rfl rfl (by decide) rfl 0 rfl rfl rfl (Nat.le_of_ble_eq_true rfl) dX7_addWord_13 ⟨(Nat.le_of_ble_eq_true rfl), (Nat.le_of_ble_eq_true rfl)⟩ (fun ut_6 H locs hw_7 hP hD hS => ?_)
  have hP : va_P D vwCl [(tp, .inr (7, [.ref tpb, .int (nI ((nn + 1) + 1))])), (tpb, aI cs 60 ut_6)] H := hP
  have hD : va_D A [(tp, .inr (7, [.ref tpb, .int (nI ((nn + 1) + 1))])), (tpb, aI cs 60 ut_6)] := hD
  obtain ⟨ug_8, rfl⟩ : ∃ z, z = ut_6 := ⟨_, rfl⟩
  have hP : va_P D vwCl [(tp, .inr (7, [.ref tpb, .int (nI ((nn + 1) + 1))])), (tpb, aI cs 60 ug_8)] H := hP
  have hD : va_D A [(tp, .inr (7, [.ref tpb, .int (nI ((nn + 1) + 1))])), (tpb, aI cs 60 ug_8)] := hD
  try dsimp only at hw_7
  refine lv_aload_n hx hb dX7_addWord_16 rfl (lv_at hl 0 rfl) ?_
  refine lv_iload_n hx hb dX7_addWord_17 rfl (lv_at hl 1 rfl) ?_
  refine lv_bipush (v := 8) hx hb dX7_addWord_18 (by decide) ?_
  refine lv_iushr (v := (x.toUInt32 >>> ((8 : Int32).toUInt32 &&& Int32.toUInt32 31)).toInt32) hx hb dX7_addWord_20 rfl ?_
  refine kV_v (ci := 7) (As := [.int ((x.toUInt32 >>> ((8 : Int32).toUInt32 &&& Int32.toUInt32 31)).toInt32)]) (rest := []) (wc := [(tp, .inr (7, [.ref tpb, .int (nI ((nn + 1) + 1))])), (tpb, aI cs 60 ug_8)]) (wr := []) hx hb hml hown hu hK hP hD hS hA hl.1 (c_X7_addByte l D cs H.size tp tpb ug_8 ((nn + 1) + 1) ((x.toUInt32 >>> ((8 : Int32).toUInt32 &&& Int32.toUInt32 31)).toInt32) (by omega)) (gV u_382 u_383 u_384 u_67 u_385) hd_X7_addByte ⟨(Nat.le_of_ble_eq_true rfl), (Nat.le_of_ble_eq_true rfl)⟩ [0, 1] [] rfl rfl rfl rfl (by decide) rfl 0 rfl rfl rfl (Nat.le_of_ble_eq_true rfl) dX7_addWord_21 ⟨(Nat.le_of_ble_eq_true rfl), (Nat.le_of_ble_eq_true rfl)⟩ (fun ut_10 H locs hw_11 hP hD hS => ?_)
  have hP : va_P D vwCl [(tp, .inr (7, [.ref tpb, .int (nI (((nn + 1) + 1) + 1))])), (tpb, aI cs 60 ut_10)] H := hP
  have hD : va_D A [(tp, .inr (7, [.ref tpb, .int (nI (((nn + 1) + 1) + 1))])), (tpb, aI cs 60 ut_10)] := hD
  obtain ⟨ug_12, rfl⟩ : ∃ z, z = ut_10 := ⟨_, rfl⟩
  have hP : va_P D vwCl [(tp, .inr (7, [.ref tpb, .int (nI (((nn + 1) + 1) + 1))])), (tpb, aI cs 60 ug_12)] H := hP
  have hD : va_D A [(tp, .inr (7, [.ref tpb, .int (nI (((nn + 1) + 1) + 1))])), (tpb, aI cs 60 ug_12)] := hD
  try dsimp only at hw_11
  refine lv_aload_n hx hb dX7_addWord_24 rfl (lv_at hl 0 rfl) ?_
  refine lv_iload_n hx hb dX7_addWord_25 rfl (lv_at hl 1 rfl) ?_
  refine kV_v (ci := 7) (As := [.int x]) (rest := []) (wc := [(tp, .inr (7, [.ref tpb, .int (nI (((nn + 1) + 1) + 1))])), (tpb, aI cs 60 ug_12)]) (wr := []) hx hb hml hown hu hK hP hD hS hA hl.1 (c_X7_addByte l D cs H.size tp tpb ug_12 (((nn + 1) + 1) + 1) x (by omega)) (gV u_382 u_383 u_384 u_67 u_385) hd_X7_addByte ⟨(Nat.le_of_ble_eq_true rfl), (Nat.le_of_ble_eq_true rfl)⟩ [0, 1] [] rfl rfl rfl rfl (by decide) rfl 0 rfl rfl rfl (Nat.le_of_ble_eq_true rfl) dX7_addWord_26 ⟨(Nat.le_of_ble_eq_true rfl), (Nat.le_of_ble_eq_true rfl)⟩ (fun ut_14 H locs hw_15 hP hD hS => ?_)
  have hP : va_P D vwCl [(tp, .inr (7, [.ref tpb, .int (nI ((((nn + 1) + 1) + 1) + 1))])), (tpb, aI cs 60 ut_14)] H := hP
  have hD : va_D A [(tp, .inr (7, [.ref tpb, .int (nI ((((nn + 1) + 1) + 1) + 1))])), (tpb, aI cs 60 ut_14)] := hD
  obtain ⟨ug_16, rfl⟩ : ∃ z, z = ut_14 := ⟨_, rfl⟩
  have hP : va_P D vwCl [(tp, .inr (7, [.ref tpb, .int (nI ((((nn + 1) + 1) + 1) + 1))])), (tpb, aI cs 60 ug_16)] H := hP
  have hD : va_D A [(tp, .inr (7, [.ref tpb, .int (nI ((((nn + 1) + 1) + 1) + 1))])), (tpb, aI cs 60 ug_16)] := hD
  try dsimp only at hw_15
  exact hz (ug_16) hP hD hS trivial [0, 1] rfl rfl (Nat.le_of_ble_eq_true rfl) (Nat.le_of_ble_eq_true rfl) rfl dX7_addWord_29
abbrev rm_c_X7_bitsAt : Room := { frames := 0, cells := 0, slots := 0, locals := 0 }
set_option maxHeartbeats 4000000 in
set_option maxRecDepth 100000 in
theorem c_X7_bitsAt (l : Launch) (D : va_G) (cs : Nat → ClassId) (sz : Nat) (tp : Nat) (tpb : Nat)  : cMl l yX7_bitsAt (Cond.code yX7_bitsAt cX7_bitsAt 6 (some .long)) (rm_c_X7_bitsAt) D cs [.ref tp, .int 0, .int 0] sz [(tp, .inr (7, [.ref tpb, .int 0]))] (fun (r : Int64) (u : Unit) => (r = 0)) (fun (u : Unit) => [(tp, .inr (7, [.ref tpb, .int 0]))]) := by
  refine kMet_l RX7 (by decide) rfl (Nat.le_of_ble_eq_true rfl) ?_
  intro p e s m below meth c ls A Qz H locs hx hb hml hown hin hu hK hsz hA hP hD hS hl hz
  subst hsz
  have hl : lv_has ls 6 [(0, .ref tp), (1, .int 0), (2, .int 0)] := hl
  refine lv_lconst (v := 0) hx hb dX7_bitsAt_0 (by decide) ?_
  refine lv_lstore_n (lv' := [(3, .long 0), (0, .ref tp), (1, .int 0), (2, .int 0)]) hx hb dX7_bitsAt_1 rfl hl (by decide) rfl (fun ls hl => ?_)
  refine lv_iconst (v := 0) hx hb dX7_bitsAt_2 (by decide) ?_
  refine lv_istore (lv' := [(5, .int 0), (3, .long 0), (0, .ref tp), (1, .int 0), (2, .int 0)]) hx hb dX7_bitsAt_3 hl (by decide) rfl (fun ls hl => ?_)
  refine lv_iload hx hb dX7_bitsAt_5 (lv_at hl 0 rfl) ?_
  refine lv_bipush (v := 8) hx hb dX7_bitsAt_7 (by decide) ?_
  refine lv_icmp_ge (tgt := 43) hx hb dX7_bitsAt_9 (by decide) (fun c_1 => absurd c_1 (by decide)) (fun c_1 => ?_)
  refine lv_lload_n hx hb dX7_bitsAt_12 rfl (lv_at hl 1 rfl) ?_
  refine lv_bipush (v := 8) hx hb dX7_bitsAt_13 (by decide) ?_
  refine lv_lshl (v := 0) hx hb dX7_bitsAt_15 (by decide) ?_
  refine lv_iload hx hb dX7_bitsAt_16 (lv_at hl 0 rfl) ?_
  refine lv_iload_n hx hb dX7_bitsAt_18 rfl (lv_at hl 4 rfl) ?_
  refine lv_icmp_ge (tgt := 33) hx hb dX7_bitsAt_19 (by decide) (fun c_2 => ?_) (fun c_2 => absurd (by decide) c_2)
  refine lv_iconst (v := 0) hx hb dX7_bitsAt_33 (by decide) ?_
  refine lv_i2l (v := 0) hx hb dX7_bitsAt_34 (by decide) ?_
  refine lv_lor hx hb dX7_bitsAt_35 ?_
  refine tpl (y := 0) (by decide) ?_
  refine lv_lstore_n (lv' := [(3, .long 0), (5, .int 0), (0, .ref tp), (1, .int 0), (2, .int 0)]) hx hb dX7_bitsAt_36 rfl hl (by decide) rfl (fun ls hl => ?_)
  refine lv_iinc (v := 1) (lv' := [(5, .int 1), (3, .long 0), (0, .ref tp), (1, .int 0), (2, .int 0)]) hx hb dX7_bitsAt_37 hl (k := 1) rfl (by decide) (by decide) rfl (fun ls hl => ?_)
  refine lv_goto (tgt := 5) hx hb dX7_bitsAt_40 (by decide) ?_
  refine lv_iload hx hb dX7_bitsAt_5 (lv_at hl 0 rfl) ?_
  refine lv_bipush (v := 8) hx hb dX7_bitsAt_7 (by decide) ?_
  refine lv_icmp_ge (tgt := 43) hx hb dX7_bitsAt_9 (by decide) (fun c_3 => absurd c_3 (by decide)) (fun c_3 => ?_)
  refine lv_lload_n hx hb dX7_bitsAt_12 rfl (lv_at hl 1 rfl) ?_
  refine lv_bipush (v := 8) hx hb dX7_bitsAt_13 (by decide) ?_
  refine lv_lshl (v := 0) hx hb dX7_bitsAt_15 (by decide) ?_
  refine lv_iload hx hb dX7_bitsAt_16 (lv_at hl 0 rfl) ?_
  refine lv_iload_n hx hb dX7_bitsAt_18 rfl (lv_at hl 4 rfl) ?_
  refine lv_icmp_ge (tgt := 33) hx hb dX7_bitsAt_19 (by decide) (fun c_4 => ?_) (fun c_4 => absurd (by decide) c_4)
  refine lv_iconst (v := 0) hx hb dX7_bitsAt_33 (by decide) ?_
  refine lv_i2l (v := 0) hx hb dX7_bitsAt_34 (by decide) ?_
  refine lv_lor hx hb dX7_bitsAt_35 ?_
  refine tpl (y := 0) (by decide) ?_
  refine lv_lstore_n (lv' := [(3, .long 0), (5, .int 1), (0, .ref tp), (1, .int 0), (2, .int 0)]) hx hb dX7_bitsAt_36 rfl hl (by decide) rfl (fun ls hl => ?_)
  refine lv_iinc (v := 2) (lv' := [(5, .int 2), (3, .long 0), (0, .ref tp), (1, .int 0), (2, .int 0)]) hx hb dX7_bitsAt_37 hl (k := 1) rfl (by decide) (by decide) rfl (fun ls hl => ?_)
  refine lv_goto (tgt := 5) hx hb dX7_bitsAt_40 (by decide) ?_
  refine lv_iload hx hb dX7_bitsAt_5 (lv_at hl 0 rfl) ?_
  refine lv_bipush (v := 8) hx hb dX7_bitsAt_7 (by decide) ?_
  refine lv_icmp_ge (tgt := 43) hx hb dX7_bitsAt_9 (by decide) (fun c_5 => absurd c_5 (by decide)) (fun c_5 => ?_)
  refine lv_lload_n hx hb dX7_bitsAt_12 rfl (lv_at hl 1 rfl) ?_
  refine lv_bipush (v := 8) hx hb dX7_bitsAt_13 (by decide) ?_
  refine lv_lshl (v := 0) hx hb dX7_bitsAt_15 (by decide) ?_
  refine lv_iload hx hb dX7_bitsAt_16 (lv_at hl 0 rfl) ?_
  refine lv_iload_n hx hb dX7_bitsAt_18 rfl (lv_at hl 4 rfl) ?_
  refine lv_icmp_ge (tgt := 33) hx hb dX7_bitsAt_19 (by decide) (fun c_6 => ?_) (fun c_6 => absurd (by decide) c_6)
  refine lv_iconst (v := 0) hx hb dX7_bitsAt_33 (by decide) ?_
  refine lv_i2l (v := 0) hx hb dX7_bitsAt_34 (by decide) ?_
  refine lv_lor hx hb dX7_bitsAt_35 ?_
  refine tpl (y := 0) (by decide) ?_
  refine lv_lstore_n (lv' := [(3, .long 0), (5, .int 2), (0, .ref tp), (1, .int 0), (2, .int 0)]) hx hb dX7_bitsAt_36 rfl hl (by decide) rfl (fun ls hl => ?_)
  refine lv_iinc (v := 3) (lv' := [(5, .int 3), (3, .long 0), (0, .ref tp), (1, .int 0), (2, .int 0)]) hx hb dX7_bitsAt_37 hl (k := 1) rfl (by decide) (by decide) rfl (fun ls hl => ?_)
  refine lv_goto (tgt := 5) hx hb dX7_bitsAt_40 (by decide) ?_
  refine lv_iload hx hb dX7_bitsAt_5 (lv_at hl 0 rfl) ?_
  refine lv_bipush (v := 8) hx hb dX7_bitsAt_7 (by decide) ?_
  refine lv_icmp_ge (tgt := 43) hx hb dX7_bitsAt_9 (by decide) (fun c_7 => absurd c_7 (by decide)) (fun c_7 => ?_)
  refine lv_lload_n hx hb dX7_bitsAt_12 rfl (lv_at hl 1 rfl) ?_
  refine lv_bipush (v := 8) hx hb dX7_bitsAt_13 (by decide) ?_
  refine lv_lshl (v := 0) hx hb dX7_bitsAt_15 (by decide) ?_
  refine lv_iload hx hb dX7_bitsAt_16 (lv_at hl 0 rfl) ?_
  refine lv_iload_n hx hb dX7_bitsAt_18 rfl (lv_at hl 4 rfl) ?_
  refine lv_icmp_ge (tgt := 33) hx hb dX7_bitsAt_19 (by decide) (fun c_8 => ?_) (fun c_8 => absurd (by decide) c_8)
  refine lv_iconst (v := 0) hx hb dX7_bitsAt_33 (by decide) ?_
  refine lv_i2l (v := 0) hx hb dX7_bitsAt_34 (by decide) ?_
  refine lv_lor hx hb dX7_bitsAt_35 ?_
  refine tpl (y := 0) (by decide) ?_
  refine lv_lstore_n (lv' := [(3, .long 0), (5, .int 3), (0, .ref tp), (1, .int 0), (2, .int 0)]) hx hb dX7_bitsAt_36 rfl hl (by decide) rfl (fun ls hl => ?_)
  refine lv_iinc (v := 4) (lv' := [(5, .int 4), (3, .long 0), (0, .ref tp), (1, .int 0), (2, .int 0)]) hx hb dX7_bitsAt_37 hl (k := 1) rfl (by decide) (by decide) rfl (fun ls hl => ?_)
  refine lv_goto (tgt := 5) hx hb dX7_bitsAt_40 (by decide) ?_
  refine lv_iload hx hb dX7_bitsAt_5 (lv_at hl 0 rfl) ?_
  refine lv_bipush (v := 8) hx hb dX7_bitsAt_7 (by decide) ?_
  refine lv_icmp_ge (tgt := 43) hx hb dX7_bitsAt_9 (by decide) (fun c_9 => absurd c_9 (by decide)) (fun c_9 => ?_)
  refine lv_lload_n hx hb dX7_bitsAt_12 rfl (lv_at hl 1 rfl) ?_
  refine lv_bipush (v := 8) hx hb dX7_bitsAt_13 (by decide) ?_
  refine lv_lshl (v := 0) hx hb dX7_bitsAt_15 (by decide) ?_
  refine lv_iload hx hb dX7_bitsAt_16 (lv_at hl 0 rfl) ?_
  refine lv_iload_n hx hb dX7_bitsAt_18 rfl (lv_at hl 4 rfl) ?_
  refine lv_icmp_ge (tgt := 33) hx hb dX7_bitsAt_19 (by decide) (fun c_10 => ?_) (fun c_10 => absurd (by decide) c_10)
  refine lv_iconst (v := 0) hx hb dX7_bitsAt_33 (by decide) ?_
  refine lv_i2l (v := 0) hx hb dX7_bitsAt_34 (by decide) ?_
  refine lv_lor hx hb dX7_bitsAt_35 ?_
  refine tpl (y := 0) (by decide) ?_
  refine lv_lstore_n (lv' := [(3, .long 0), (5, .int 4), (0, .ref tp), (1, .int 0), (2, .int 0)]) hx hb dX7_bitsAt_36 rfl hl (by decide) rfl (fun ls hl => ?_)
  refine lv_iinc (v := 5) (lv' := [(5, .int 5), (3, .long 0), (0, .ref tp), (1, .int 0), (2, .int 0)]) hx hb dX7_bitsAt_37 hl (k := 1) rfl (by decide) (by decide) rfl (fun ls hl => ?_)
  refine lv_goto (tgt := 5) hx hb dX7_bitsAt_40 (by decide) ?_
  refine lv_iload hx hb dX7_bitsAt_5 (lv_at hl 0 rfl) ?_
  refine lv_bipush (v := 8) hx hb dX7_bitsAt_7 (by decide) ?_
  refine lv_icmp_ge (tgt := 43) hx hb dX7_bitsAt_9 (by decide) (fun c_11 => absurd c_11 (by decide)) (fun c_11 => ?_)
  refine lv_lload_n hx hb dX7_bitsAt_12 rfl (lv_at hl 1 rfl) ?_
  refine lv_bipush (v := 8) hx hb dX7_bitsAt_13 (by decide) ?_
  refine lv_lshl (v := 0) hx hb dX7_bitsAt_15 (by decide) ?_
  refine lv_iload hx hb dX7_bitsAt_16 (lv_at hl 0 rfl) ?_
  refine lv_iload_n hx hb dX7_bitsAt_18 rfl (lv_at hl 4 rfl) ?_
  refine lv_icmp_ge (tgt := 33) hx hb dX7_bitsAt_19 (by decide) (fun c_12 => ?_) (fun c_12 => absurd (by decide) c_12)
  refine lv_iconst (v := 0) hx hb dX7_bitsAt_33 (by decide) ?_
  refine lv_i2l (v := 0) hx hb dX7_bitsAt_34 (by decide) ?_
  refine lv_lor hx hb dX7_bitsAt_35 ?_
  refine tpl (y := 0) (by decide) ?_
  refine lv_lstore_n (lv' := [(3, .long 0), (5, .int 5), (0, .ref tp), (1, .int 0), (2, .int 0)]) hx hb dX7_bitsAt_36 rfl hl (by decide) rfl (fun ls hl => ?_)
  refine lv_iinc (v := 6) (lv' := [(5, .int 6), (3, .long 0), (0, .ref tp), (1, .int 0), (2, .int 0)]) hx hb dX7_bitsAt_37 hl (k := 1) rfl (by decide) (by decide) rfl (fun ls hl => ?_)
  refine lv_goto (tgt := 5) hx hb dX7_bitsAt_40 (by decide) ?_
  refine lv_iload hx hb dX7_bitsAt_5 (lv_at hl 0 rfl) ?_
  refine lv_bipush (v := 8) hx hb dX7_bitsAt_7 (by decide) ?_
  refine lv_icmp_ge (tgt := 43) hx hb dX7_bitsAt_9 (by decide) (fun c_13 => absurd c_13 (by decide)) (fun c_13 => ?_)
  refine lv_lload_n hx hb dX7_bitsAt_12 rfl (lv_at hl 1 rfl) ?_
  refine lv_bipush (v := 8) hx hb dX7_bitsAt_13 (by decide) ?_
  refine lv_lshl (v := 0) hx hb dX7_bitsAt_15 (by decide) ?_
  refine lv_iload hx hb dX7_bitsAt_16 (lv_at hl 0 rfl) ?_
  refine lv_iload_n hx hb dX7_bitsAt_18 rfl (lv_at hl 4 rfl) ?_
  refine lv_icmp_ge (tgt := 33) hx hb dX7_bitsAt_19 (by decide) (fun c_14 => ?_) (fun c_14 => absurd (by decide) c_14)
  refine lv_iconst (v := 0) hx hb dX7_bitsAt_33 (by decide) ?_
  refine lv_i2l (v := 0) hx hb dX7_bitsAt_34 (by decide) ?_
  refine lv_lor hx hb dX7_bitsAt_35 ?_
  refine tpl (y := 0) (by decide) ?_
  refine lv_lstore_n (lv' := [(3, .long 0), (5, .int 6), (0, .ref tp), (1, .int 0), (2, .int 0)]) hx hb dX7_bitsAt_36 rfl hl (by decide) rfl (fun ls hl => ?_)
  refine lv_iinc (v := 7) (lv' := [(5, .int 7), (3, .long 0), (0, .ref tp), (1, .int 0), (2, .int 0)]) hx hb dX7_bitsAt_37 hl (k := 1) rfl (by decide) (by decide) rfl (fun ls hl => ?_)
  refine lv_goto (tgt := 5) hx hb dX7_bitsAt_40 (by decide) ?_
  refine lv_iload hx hb dX7_bitsAt_5 (lv_at hl 0 rfl) ?_
  refine lv_bipush (v := 8) hx hb dX7_bitsAt_7 (by decide) ?_
  refine lv_icmp_ge (tgt := 43) hx hb dX7_bitsAt_9 (by decide) (fun c_15 => absurd c_15 (by decide)) (fun c_15 => ?_)
  refine lv_lload_n hx hb dX7_bitsAt_12 rfl (lv_at hl 1 rfl) ?_
  refine lv_bipush (v := 8) hx hb dX7_bitsAt_13 (by decide) ?_
  refine lv_lshl (v := 0) hx hb dX7_bitsAt_15 (by decide) ?_
  refine lv_iload hx hb dX7_bitsAt_16 (lv_at hl 0 rfl) ?_
  refine lv_iload_n hx hb dX7_bitsAt_18 rfl (lv_at hl 4 rfl) ?_
  refine lv_icmp_ge (tgt := 33) hx hb dX7_bitsAt_19 (by decide) (fun c_16 => ?_) (fun c_16 => absurd (by decide) c_16)
  refine lv_iconst (v := 0) hx hb dX7_bitsAt_33 (by decide) ?_
  refine lv_i2l (v := 0) hx hb dX7_bitsAt_34 (by decide) ?_
  refine lv_lor hx hb dX7_bitsAt_35 ?_
  refine tpl (y := 0) (by decide) ?_
  refine lv_lstore_n (lv' := [(3, .long 0), (5, .int 7), (0, .ref tp), (1, .int 0), (2, .int 0)]) hx hb dX7_bitsAt_36 rfl hl (by decide) rfl (fun ls hl => ?_)
  refine lv_iinc (v := 8) (lv' := [(5, .int 8), (3, .long 0), (0, .ref tp), (1, .int 0), (2, .int 0)]) hx hb dX7_bitsAt_37 hl (k := 1) rfl (by decide) (by decide) rfl (fun ls hl => ?_)
  refine lv_goto (tgt := 5) hx hb dX7_bitsAt_40 (by decide) ?_
  refine lv_iload hx hb dX7_bitsAt_5 (lv_at hl 0 rfl) ?_
  refine lv_bipush (v := 8) hx hb dX7_bitsAt_7 (by decide) ?_
  refine lv_icmp_ge (tgt := 43) hx hb dX7_bitsAt_9 (by decide) (fun c_17 => ?_) (fun c_17 => absurd (by decide) c_17)
  refine lv_lload_n hx hb dX7_bitsAt_43 rfl (lv_at hl 1 rfl) ?_
  exact hz () hP hD hS rfl [0] rfl rfl (Nat.le_of_ble_eq_true rfl) (Nat.le_of_ble_eq_true rfl) rfl dX7_bitsAt_44
abbrev rm_c_X7_init60 : Room := { frames := 1, cells := 1, slots := 60, locals := 21 }
set_option maxHeartbeats 4000000 in
set_option maxRecDepth 100000 in
theorem c_X7_init60 (l : Launch) (D : va_G) (cs : Nat → ClassId) (sz : Nat) (tp : Nat)  : cMv l yX7_init (Cond.code yX7_init cX7_init 2 none) (rm_c_X7_init60) D cs [.ref tp, .int 60] sz [(tp, .inr (7, [.null, .int 0]))] (fun (u : (Nat → Nat) × (Nat → Nat → Int32)) => True) (fun (u : (Nat → Nat) × (Nat → Nat → Int32)) => [(tp, .inr (7, [.ref (u.1 0), .int 0])), (u.1 0, aI cs 60 (fun _ => 0))]) := by
  refine kMet_v RX7 (by decide) rfl (Nat.le_of_ble_eq_true rfl) ?_
  intro p e s m below meth c ls A Qz H locs hx hb hml hown hin hu hK hsz hA hP hD hS hl hz
  subst hsz
  have hl : lv_has ls 2 [(0, .ref tp), (1, .int 60)] := hl
  refine lv_aload_n hx hb dX7_init_0 rfl (lv_at hl 0 rfl) ?_
  refine W.objInit hx hb hown (hu _ u_91) (hu _ u_84) (hu _ u_85) rfl (by rw [hml]; exact hl.1) rfl dX7_init_1 (Nat.le_of_ble_eq_true rfl) (Nat.le_of_ble_eq_true rfl) ?_
  refine W.eq (g2 := F0 m 4 ls []) rfl ?_
  refine lv_aload_n hx hb dX7_init_4 rfl (lv_at hl 0 rfl) ?_
  refine lv_iconst (v := 0) hx hb dX7_init_5 (by decide) ?_
  refine lv_iload_n hx hb dX7_init_6 rfl (lv_at hl 1 rfl) ?_
  refine va_mmax hx hb (hml.trans hl.1.symm) hown (hu _ u_92) (hu _ u_93) (hu _ u_68) (hu _ u_94) (Nat.le_of_ble_eq_true rfl) (Nat.le_of_ble_eq_true rfl) (Nat.le_of_ble_eq_true rfl) (Nat.le_of_ble_eq_true rfl) dX7_init_7 ?_
  refine tpi (y := 60) (by decide) ?_
  refine knewa (k := 0) (atype := .int) (ty := .int) (Nn := 60) (a0 := (60, .inl (fun _ => 0))) hx hb hu u_105 rfl hK rfl (fun _ _ h => h) hP hD hS hA (fun _ => rfl) (by decide) (by decide) (Nat.le_of_ble_eq_true rfl) (Nat.le_of_ble_eq_true rfl) (Nat.le_of_ble_eq_true rfl) dX7_init_10 (fun q_1 H hP hD hS => ?_)
  have hP : va_P D vwCl [(tp, .inr (7, [.null, .int 0])), (q_1, aI cs 60 (fun _ => 0))] H := hP
  have hD : va_D A [(tp, .inr (7, [.null, .int 0])), (q_1, aI cs 60 (fun _ => 0))] := hD
  refine va_putF (D := D) (ci := 7) (v := .ref q_1) (ty := tyX7 0) (C := RX7) (T := TX7) (N := 2) hx hb hu in_X7 tyX7 tyX7_ok nmX7 hown hK.1 hP hD hS 0 rfl rfl 0 (by decide) (hu _ u_95) (fun _ h9 => h9) rfl hin rfl (tyX7_ok 0 (by decide)) rfl rfl (Nat.le_of_ble_eq_true rfl) dX7_init_12 (fun H locs hP hD hS => ?_)
  have hP : va_P D vwCl [(tp, .inr (7, [.ref q_1, .int 0])), (q_1, aI cs 60 (fun _ => 0))] H := hP
  have hD : va_D A [(tp, .inr (7, [.ref q_1, .int 0])), (q_1, aI cs 60 (fun _ => 0))] := hD
  exact hz ((fun k => match k with | 0 => q_1 | _ => 0), (fun _ _ => 0)) hP hD hS trivial [0, 1] rfl rfl (Nat.le_of_ble_eq_true rfl) (Nat.le_of_ble_eq_true rfl) rfl dX7_init_15
abbrev rm_c_X7_init40 : Room := { frames := 1, cells := 1, slots := 40, locals := 21 }
set_option maxHeartbeats 4000000 in
set_option maxRecDepth 100000 in
theorem c_X7_init40 (l : Launch) (D : va_G) (cs : Nat → ClassId) (sz : Nat) (tp : Nat)  : cMv l yX7_init (Cond.code yX7_init cX7_init 2 none) (rm_c_X7_init40) D cs [.ref tp, .int 40] sz [(tp, .inr (7, [.null, .int 0]))] (fun (u : (Nat → Nat) × (Nat → Nat → Int32)) => True) (fun (u : (Nat → Nat) × (Nat → Nat → Int32)) => [(tp, .inr (7, [.ref (u.1 0), .int 0])), (u.1 0, aI cs 40 (fun _ => 0))]) := by
  refine kMet_v RX7 (by decide) rfl (Nat.le_of_ble_eq_true rfl) ?_
  intro p e s m below meth c ls A Qz H locs hx hb hml hown hin hu hK hsz hA hP hD hS hl hz
  subst hsz
  have hl : lv_has ls 2 [(0, .ref tp), (1, .int 40)] := hl
  refine lv_aload_n hx hb dX7_init_0 rfl (lv_at hl 0 rfl) ?_
  refine W.objInit hx hb hown (hu _ u_91) (hu _ u_84) (hu _ u_85) rfl (by rw [hml]; exact hl.1) rfl dX7_init_1 (Nat.le_of_ble_eq_true rfl) (Nat.le_of_ble_eq_true rfl) ?_
  refine W.eq (g2 := F0 m 4 ls []) rfl ?_
  refine lv_aload_n hx hb dX7_init_4 rfl (lv_at hl 0 rfl) ?_
  refine lv_iconst (v := 0) hx hb dX7_init_5 (by decide) ?_
  refine lv_iload_n hx hb dX7_init_6 rfl (lv_at hl 1 rfl) ?_
  refine va_mmax hx hb (hml.trans hl.1.symm) hown (hu _ u_92) (hu _ u_93) (hu _ u_68) (hu _ u_94) (Nat.le_of_ble_eq_true rfl) (Nat.le_of_ble_eq_true rfl) (Nat.le_of_ble_eq_true rfl) (Nat.le_of_ble_eq_true rfl) dX7_init_7 ?_
  refine tpi (y := 40) (by decide) ?_
  refine knewa (k := 0) (atype := .int) (ty := .int) (Nn := 40) (a0 := (40, .inl (fun _ => 0))) hx hb hu u_105 rfl hK rfl (fun _ _ h => h) hP hD hS hA (fun _ => rfl) (by decide) (by decide) (Nat.le_of_ble_eq_true rfl) (Nat.le_of_ble_eq_true rfl) (Nat.le_of_ble_eq_true rfl) dX7_init_10 (fun q_1 H hP hD hS => ?_)
  have hP : va_P D vwCl [(tp, .inr (7, [.null, .int 0])), (q_1, aI cs 40 (fun _ => 0))] H := hP
  have hD : va_D A [(tp, .inr (7, [.null, .int 0])), (q_1, aI cs 40 (fun _ => 0))] := hD
  refine va_putF (D := D) (ci := 7) (v := .ref q_1) (ty := tyX7 0) (C := RX7) (T := TX7) (N := 2) hx hb hu in_X7 tyX7 tyX7_ok nmX7 hown hK.1 hP hD hS 0 rfl rfl 0 (by decide) (hu _ u_95) (fun _ h9 => h9) rfl hin rfl (tyX7_ok 0 (by decide)) rfl rfl (Nat.le_of_ble_eq_true rfl) dX7_init_12 (fun H locs hP hD hS => ?_)
  have hP : va_P D vwCl [(tp, .inr (7, [.ref q_1, .int 0])), (q_1, aI cs 40 (fun _ => 0))] H := hP
  have hD : va_D A [(tp, .inr (7, [.ref q_1, .int 0])), (q_1, aI cs 40 (fun _ => 0))] := hD
  exact hz ((fun k => match k with | 0 => q_1 | _ => 0), (fun _ _ => 0)) hP hD hS trivial [0, 1] rfl rfl (Nat.le_of_ble_eq_true rfl) (Nat.le_of_ble_eq_true rfl) rfl dX7_init_15
abbrev rm_c_X1_init : Room := { frames := 1, cells := 5, slots := 100, locals := 12 }
set_option maxHeartbeats 4000000 in
set_option maxRecDepth 100000 in
theorem c_X1_init (l : Launch) (D : va_G) (cs : Nat → ClassId) (sz : Nat) (de : Nat)  : cMv l yX1_init (Cond.code yX1_init cX1_init 1 none) (rm_c_X1_init) D cs [.ref de] sz [(de, .inr (1, [.int 0, .int 0, .int 0, .null, .null, .null, .null, .null]))] (fun (u : (Nat → Nat) × (Nat → Nat → Int32)) => True) (fun (u : (Nat → Nat) × (Nat → Nat → Int32)) => [(de, .inr (1, [.int 0, .int (-1), .int 0, .ref (u.1 0), .ref (u.1 1), .ref (u.1 2), .ref (u.1 3), .ref (u.1 4)])), (u.1 0, aI cs 20 (fun _ => 0)), (u.1 1, aI cs 20 (fun _ => 0)), (u.1 2, aI cs 20 (fun _ => 0)), (u.1 3, aI cs 20 (fun _ => 0)), (u.1 4, aZ cs 20 (fun _ => 0))]) := by
  refine kMet_v RX1 (by decide) rfl (Nat.le_of_ble_eq_true rfl) ?_
  intro p e s m below meth c ls A Qz H locs hx hb hml hown hin hu hK hsz hA hP hD hS hl hz
  subst hsz
  have hl : lv_has ls 1 [(0, .ref de)] := hl
  refine lv_aload_n hx hb dX1_init_0 rfl (lv_at hl 0 rfl) ?_
  refine W.objInit hx hb hown (hu _ u_111) (hu _ u_84) (hu _ u_85) rfl (by rw [hml]; exact hl.1) rfl dX1_init_1 (Nat.le_of_ble_eq_true rfl) (Nat.le_of_ble_eq_true rfl) ?_
  refine W.eq (g2 := F0 m 4 ls []) rfl ?_
  refine lv_aload_n hx hb dX1_init_4 rfl (lv_at hl 0 rfl) ?_
  refine lv_iconst (v := (-1)) hx hb dX1_init_5 (by decide) ?_
  refine va_put (D := D) (ci := 1) (v := .int (-1)) (ty := tyX1 1) (C := RX1) (T := TX1) (N := 8) hx hb hu in_X1 tyX1 tyX1_ok nmX1 hown hK.1 hP hD hS 0 rfl rfl 1 (by decide) (hu _ u_114) (fun _ h9 => h9) rfl (tyX1_ok 1 (by decide)) rfl rfl (Nat.le_of_ble_eq_true rfl) dX1_init_6 (fun H locs hP hD hS => ?_)
  have hP : va_P D vwCl [(de, .inr (1, [.int 0, .int (-1), .int 0, .null, .null, .null, .null, .null]))] H := hP
  have hD : va_D A [(de, .inr (1, [.int 0, .int (-1), .int 0, .null, .null, .null, .null, .null]))] := hD
  refine lv_aload_n hx hb dX1_init_9 rfl (lv_at hl 0 rfl) ?_
  refine lv_bipush (v := 20) hx hb dX1_init_10 (by decide) ?_
  refine knewa (k := 0) (atype := .int) (ty := .int) (Nn := 20) (a0 := (20, .inl (fun _ => 0))) hx hb hu u_105 rfl hK rfl (fun _ _ h => h) hP hD hS hA (fun _ => rfl) (by decide) (by decide) (Nat.le_of_ble_eq_true rfl) (Nat.le_of_ble_eq_true rfl) (Nat.le_of_ble_eq_true rfl) dX1_init_12 (fun q_1 H hP hD hS => ?_)
  have hP : va_P D vwCl [(de, .inr (1, [.int 0, .int (-1), .int 0, .null, .null, .null, .null, .null])), (q_1, aI cs 20 (fun _ => 0))] H := hP
  have hD : va_D A [(de, .inr (1, [.int 0, .int (-1), .int 0, .null, .null, .null, .null, .null])), (q_1, aI cs 20 (fun _ => 0))] := hD
  refine va_putF (D := D) (ci := 1) (v := .ref q_1) (ty := tyX1 3) (C := RX1) (T := TX1) (N := 8) hx hb hu in_X1 tyX1 tyX1_ok nmX1 hown hK.1 hP hD hS 0 rfl rfl 3 (by decide) (hu _ u_118) (fun _ h9 => h9) rfl hin rfl (tyX1_ok 3 (by decide)) rfl rfl (Nat.le_of_ble_eq_true rfl) dX1_init_14 (fun H locs hP hD hS => ?_)
  have hP : va_P D vwCl [(de, .inr (1, [.int 0, .int (-1), .int 0, .ref q_1, .null, .null, .null, .null])), (q_1, aI cs 20 (fun _ => 0))] H := hP
  have hD : va_D A [(de, .inr (1, [.int 0, .int (-1), .int 0, .ref q_1, .null, .null, .null, .null])), (q_1, aI cs 20 (fun _ => 0))] := hD
  refine lv_aload_n hx hb dX1_init_17 rfl (lv_at hl 0 rfl) ?_
  refine lv_bipush (v := 20) hx hb dX1_init_18 (by decide) ?_
  refine knewa (k := 0) (atype := .int) (ty := .int) (Nn := 20) (a0 := (20, .inl (fun _ => 0))) hx hb hu u_105 rfl hK rfl (fun _ _ h => h) hP hD hS hA (fun _ => rfl) (by decide) (by decide) (Nat.le_of_ble_eq_true rfl) (Nat.le_of_ble_eq_true rfl) (Nat.le_of_ble_eq_true rfl) dX1_init_20 (fun q_2 H hP hD hS => ?_)
  have hP : va_P D vwCl [(de, .inr (1, [.int 0, .int (-1), .int 0, .ref q_1, .null, .null, .null, .null])), (q_1, aI cs 20 (fun _ => 0)), (q_2, aI cs 20 (fun _ => 0))] H := hP
  have hD : va_D A [(de, .inr (1, [.int 0, .int (-1), .int 0, .ref q_1, .null, .null, .null, .null])), (q_1, aI cs 20 (fun _ => 0)), (q_2, aI cs 20 (fun _ => 0))] := hD
  refine va_putF (D := D) (ci := 1) (v := .ref q_2) (ty := tyX1 4) (C := RX1) (T := TX1) (N := 8) hx hb hu in_X1 tyX1 tyX1_ok nmX1 hown hK.1 hP hD hS 0 rfl rfl 4 (by decide) (hu _ u_119) (fun _ h9 => h9) rfl hin rfl (tyX1_ok 4 (by decide)) rfl rfl (Nat.le_of_ble_eq_true rfl) dX1_init_22 (fun H locs hP hD hS => ?_)
  have hP : va_P D vwCl [(de, .inr (1, [.int 0, .int (-1), .int 0, .ref q_1, .ref q_2, .null, .null, .null])), (q_1, aI cs 20 (fun _ => 0)), (q_2, aI cs 20 (fun _ => 0))] H := hP
  have hD : va_D A [(de, .inr (1, [.int 0, .int (-1), .int 0, .ref q_1, .ref q_2, .null, .null, .null])), (q_1, aI cs 20 (fun _ => 0)), (q_2, aI cs 20 (fun _ => 0))] := hD
  refine lv_aload_n hx hb dX1_init_25 rfl (lv_at hl 0 rfl) ?_
  refine lv_bipush (v := 20) hx hb dX1_init_26 (by decide) ?_
  refine knewa (k := 0) (atype := .int) (ty := .int) (Nn := 20) (a0 := (20, .inl (fun _ => 0))) hx hb hu u_105 rfl hK rfl (fun _ _ h => h) hP hD hS hA (fun _ => rfl) (by decide) (by decide) (Nat.le_of_ble_eq_true rfl) (Nat.le_of_ble_eq_true rfl) (Nat.le_of_ble_eq_true rfl) dX1_init_28 (fun q_3 H hP hD hS => ?_)
  have hP : va_P D vwCl [(de, .inr (1, [.int 0, .int (-1), .int 0, .ref q_1, .ref q_2, .null, .null, .null])), (q_1, aI cs 20 (fun _ => 0)), (q_2, aI cs 20 (fun _ => 0)), (q_3, aI cs 20 (fun _ => 0))] H := hP
  have hD : va_D A [(de, .inr (1, [.int 0, .int (-1), .int 0, .ref q_1, .ref q_2, .null, .null, .null])), (q_1, aI cs 20 (fun _ => 0)), (q_2, aI cs 20 (fun _ => 0)), (q_3, aI cs 20 (fun _ => 0))] := hD
  refine va_putF (D := D) (ci := 1) (v := .ref q_3) (ty := tyX1 5) (C := RX1) (T := TX1) (N := 8) hx hb hu in_X1 tyX1 tyX1_ok nmX1 hown hK.1 hP hD hS 0 rfl rfl 5 (by decide) (hu _ u_120) (fun _ h9 => h9) rfl hin rfl (tyX1_ok 5 (by decide)) rfl rfl (Nat.le_of_ble_eq_true rfl) dX1_init_30 (fun H locs hP hD hS => ?_)
  have hP : va_P D vwCl [(de, .inr (1, [.int 0, .int (-1), .int 0, .ref q_1, .ref q_2, .ref q_3, .null, .null])), (q_1, aI cs 20 (fun _ => 0)), (q_2, aI cs 20 (fun _ => 0)), (q_3, aI cs 20 (fun _ => 0))] H := hP
  have hD : va_D A [(de, .inr (1, [.int 0, .int (-1), .int 0, .ref q_1, .ref q_2, .ref q_3, .null, .null])), (q_1, aI cs 20 (fun _ => 0)), (q_2, aI cs 20 (fun _ => 0)), (q_3, aI cs 20 (fun _ => 0))] := hD
  refine lv_aload_n hx hb dX1_init_33 rfl (lv_at hl 0 rfl) ?_
  refine lv_bipush (v := 20) hx hb dX1_init_34 (by decide) ?_
  refine knewa (k := 0) (atype := .int) (ty := .int) (Nn := 20) (a0 := (20, .inl (fun _ => 0))) hx hb hu u_105 rfl hK rfl (fun _ _ h => h) hP hD hS hA (fun _ => rfl) (by decide) (by decide) (Nat.le_of_ble_eq_true rfl) (Nat.le_of_ble_eq_true rfl) (Nat.le_of_ble_eq_true rfl) dX1_init_36 (fun q_4 H hP hD hS => ?_)
  have hP : va_P D vwCl [(de, .inr (1, [.int 0, .int (-1), .int 0, .ref q_1, .ref q_2, .ref q_3, .null, .null])), (q_1, aI cs 20 (fun _ => 0)), (q_2, aI cs 20 (fun _ => 0)), (q_3, aI cs 20 (fun _ => 0)), (q_4, aI cs 20 (fun _ => 0))] H := hP
  have hD : va_D A [(de, .inr (1, [.int 0, .int (-1), .int 0, .ref q_1, .ref q_2, .ref q_3, .null, .null])), (q_1, aI cs 20 (fun _ => 0)), (q_2, aI cs 20 (fun _ => 0)), (q_3, aI cs 20 (fun _ => 0)), (q_4, aI cs 20 (fun _ => 0))] := hD
  refine va_putF (D := D) (ci := 1) (v := .ref q_4) (ty := tyX1 6) (C := RX1) (T := TX1) (N := 8) hx hb hu in_X1 tyX1 tyX1_ok nmX1 hown hK.1 hP hD hS 0 rfl rfl 6 (by decide) (hu _ u_121) (fun _ h9 => h9) rfl hin rfl (tyX1_ok 6 (by decide)) rfl rfl (Nat.le_of_ble_eq_true rfl) dX1_init_38 (fun H locs hP hD hS => ?_)
  have hP : va_P D vwCl [(de, .inr (1, [.int 0, .int (-1), .int 0, .ref q_1, .ref q_2, .ref q_3, .ref q_4, .null])), (q_1, aI cs 20 (fun _ => 0)), (q_2, aI cs 20 (fun _ => 0)), (q_3, aI cs 20 (fun _ => 0)), (q_4, aI cs 20 (fun _ => 0))] H := hP
  have hD : va_D A [(de, .inr (1, [.int 0, .int (-1), .int 0, .ref q_1, .ref q_2, .ref q_3, .ref q_4, .null])), (q_1, aI cs 20 (fun _ => 0)), (q_2, aI cs 20 (fun _ => 0)), (q_3, aI cs 20 (fun _ => 0)), (q_4, aI cs 20 (fun _ => 0))] := hD
  refine lv_aload_n hx hb dX1_init_41 rfl (lv_at hl 0 rfl) ?_
  refine lv_bipush (v := 20) hx hb dX1_init_42 (by decide) ?_
  refine knewa (k := 1) (atype := .boolean) (ty := .boolean) (Nn := 20) (a0 := (20, .inl (fun _ => 0))) hx hb hu u_140 rfl hK rfl (fun _ _ h => h) hP hD hS hA (fun _ => rfl) (by decide) (by decide) (Nat.le_of_ble_eq_true rfl) (Nat.le_of_ble_eq_true rfl) (Nat.le_of_ble_eq_true rfl) dX1_init_44 (fun q_5 H hP hD hS => ?_)
  have hP : va_P D vwCl [(de, .inr (1, [.int 0, .int (-1), .int 0, .ref q_1, .ref q_2, .ref q_3, .ref q_4, .null])), (q_1, aI cs 20 (fun _ => 0)), (q_2, aI cs 20 (fun _ => 0)), (q_3, aI cs 20 (fun _ => 0)), (q_4, aI cs 20 (fun _ => 0)), (q_5, aZ cs 20 (fun _ => 0))] H := hP
  have hD : va_D A [(de, .inr (1, [.int 0, .int (-1), .int 0, .ref q_1, .ref q_2, .ref q_3, .ref q_4, .null])), (q_1, aI cs 20 (fun _ => 0)), (q_2, aI cs 20 (fun _ => 0)), (q_3, aI cs 20 (fun _ => 0)), (q_4, aI cs 20 (fun _ => 0)), (q_5, aZ cs 20 (fun _ => 0))] := hD
  refine va_putF (D := D) (ci := 1) (v := .ref q_5) (ty := tyX1 7) (C := RX1) (T := TX1) (N := 8) hx hb hu in_X1 tyX1 tyX1_ok nmX1 hown hK.1 hP hD hS 0 rfl rfl 7 (by decide) (hu _ u_122) (fun _ h9 => h9) rfl hin rfl (tyX1_ok 7 (by decide)) rfl rfl (Nat.le_of_ble_eq_true rfl) dX1_init_46 (fun H locs hP hD hS => ?_)
  have hP : va_P D vwCl [(de, .inr (1, [.int 0, .int (-1), .int 0, .ref q_1, .ref q_2, .ref q_3, .ref q_4, .ref q_5])), (q_1, aI cs 20 (fun _ => 0)), (q_2, aI cs 20 (fun _ => 0)), (q_3, aI cs 20 (fun _ => 0)), (q_4, aI cs 20 (fun _ => 0)), (q_5, aZ cs 20 (fun _ => 0))] H := hP
  have hD : va_D A [(de, .inr (1, [.int 0, .int (-1), .int 0, .ref q_1, .ref q_2, .ref q_3, .ref q_4, .ref q_5])), (q_1, aI cs 20 (fun _ => 0)), (q_2, aI cs 20 (fun _ => 0)), (q_3, aI cs 20 (fun _ => 0)), (q_4, aI cs 20 (fun _ => 0)), (q_5, aZ cs 20 (fun _ => 0))] := hD
  exact hz ((fun k => match k with | 0 => q_1 | 1 => q_2 | 2 => q_3 | 3 => q_4 | 4 => q_5 | _ => 0), (fun _ _ => 0)) hP hD hS trivial [0, 1, 2, 3, 4, 5] rfl rfl (Nat.le_of_ble_eq_true rfl) (Nat.le_of_ble_eq_true rfl) rfl dX1_init_49
abbrev rm_c_X0_init : Room := { frames := 1, cells := 2, slots := 11, locals := 12 }
set_option maxHeartbeats 4000000 in
set_option maxRecDepth 100000 in
theorem c_X0_init (l : Launch) (D : va_G) (cs : Nat → ClassId) (sz : Nat) (bu : Nat)  : cMv l yX0_init (Cond.code yX0_init cX0_init 1 none) (rm_c_X0_init) D cs [.ref bu] sz [(bu, .inr (0, [.int 0, .int 0, .int 0, .int 0, .null, .null]))] (fun (u : (Nat → Nat) × (Nat → Nat → Int32)) => True) (fun (u : (Nat → Nat) × (Nat → Nat → Int32)) => [(bu, .inr (0, [.int 0, .int 0, .int 0, .int 0, .ref (u.1 0), .ref (u.1 1)])), (u.1 0, aI cs 3 (fun _ => 0)), (u.1 1, aZ cs 8 (fun _ => 0))]) := by
  refine kMet_v RX0 (by decide) rfl (Nat.le_of_ble_eq_true rfl) ?_
  intro p e s m below meth c ls A Qz H locs hx hb hml hown hin hu hK hsz hA hP hD hS hl hz
  subst hsz
  have hl : lv_has ls 1 [(0, .ref bu)] := hl
  refine lv_aload_n hx hb dX0_init_0 rfl (lv_at hl 0 rfl) ?_
  refine W.objInit hx hb hown (hu _ u_146) (hu _ u_84) (hu _ u_85) rfl (by rw [hml]; exact hl.1) rfl dX0_init_1 (Nat.le_of_ble_eq_true rfl) (Nat.le_of_ble_eq_true rfl) ?_
  refine W.eq (g2 := F0 m 4 ls []) rfl ?_
  refine lv_aload_n hx hb dX0_init_4 rfl (lv_at hl 0 rfl) ?_
  refine lv_iconst (v := 3) hx hb dX0_init_5 (by decide) ?_
  refine knewa (k := 0) (atype := .int) (ty := .int) (Nn := 3) (a0 := (3, .inl (fun _ => 0))) hx hb hu u_105 rfl hK rfl (fun _ _ h => h) hP hD hS hA (fun _ => rfl) (by decide) (by decide) (Nat.le_of_ble_eq_true rfl) (Nat.le_of_ble_eq_true rfl) (Nat.le_of_ble_eq_true rfl) dX0_init_6 (fun q_1 H hP hD hS => ?_)
  have hP : va_P D vwCl [(bu, .inr (0, [.int 0, .int 0, .int 0, .int 0, .null, .null])), (q_1, aI cs 3 (fun _ => 0))] H := hP
  have hD : va_D A [(bu, .inr (0, [.int 0, .int 0, .int 0, .int 0, .null, .null])), (q_1, aI cs 3 (fun _ => 0))] := hD
  refine va_putF (D := D) (ci := 0) (v := .ref q_1) (ty := tyX0 4) (C := RX0) (T := TX0) (N := 6) hx hb hu in_X0 tyX0 tyX0_ok nmX0 hown hK.1 hP hD hS 0 rfl rfl 4 (by decide) (hu _ u_154) (fun _ h9 => h9) rfl hin rfl (tyX0_ok 4 (by decide)) rfl rfl (Nat.le_of_ble_eq_true rfl) dX0_init_8 (fun H locs hP hD hS => ?_)
  have hP : va_P D vwCl [(bu, .inr (0, [.int 0, .int 0, .int 0, .int 0, .ref q_1, .null])), (q_1, aI cs 3 (fun _ => 0))] H := hP
  have hD : va_D A [(bu, .inr (0, [.int 0, .int 0, .int 0, .int 0, .ref q_1, .null])), (q_1, aI cs 3 (fun _ => 0))] := hD
  refine lv_aload_n hx hb dX0_init_11 rfl (lv_at hl 0 rfl) ?_
  refine lv_bipush (v := 8) hx hb dX0_init_12 (by decide) ?_
  refine knewa (k := 1) (atype := .boolean) (ty := .boolean) (Nn := 8) (a0 := (8, .inl (fun _ => 0))) hx hb hu u_140 rfl hK rfl (fun _ _ h => h) hP hD hS hA (fun _ => rfl) (by decide) (by decide) (Nat.le_of_ble_eq_true rfl) (Nat.le_of_ble_eq_true rfl) (Nat.le_of_ble_eq_true rfl) dX0_init_14 (fun q_2 H hP hD hS => ?_)
  have hP : va_P D vwCl [(bu, .inr (0, [.int 0, .int 0, .int 0, .int 0, .ref q_1, .null])), (q_1, aI cs 3 (fun _ => 0)), (q_2, aZ cs 8 (fun _ => 0))] H := hP
  have hD : va_D A [(bu, .inr (0, [.int 0, .int 0, .int 0, .int 0, .ref q_1, .null])), (q_1, aI cs 3 (fun _ => 0)), (q_2, aZ cs 8 (fun _ => 0))] := hD
  refine va_putF (D := D) (ci := 0) (v := .ref q_2) (ty := tyX0 5) (C := RX0) (T := TX0) (N := 6) hx hb hu in_X0 tyX0 tyX0_ok nmX0 hown hK.1 hP hD hS 0 rfl rfl 5 (by decide) (hu _ u_155) (fun _ h9 => h9) rfl hin rfl (tyX0_ok 5 (by decide)) rfl rfl (Nat.le_of_ble_eq_true rfl) dX0_init_16 (fun H locs hP hD hS => ?_)
  have hP : va_P D vwCl [(bu, .inr (0, [.int 0, .int 0, .int 0, .int 0, .ref q_1, .ref q_2])), (q_1, aI cs 3 (fun _ => 0)), (q_2, aZ cs 8 (fun _ => 0))] H := hP
  have hD : va_D A [(bu, .inr (0, [.int 0, .int 0, .int 0, .int 0, .ref q_1, .ref q_2])), (q_1, aI cs 3 (fun _ => 0)), (q_2, aZ cs 8 (fun _ => 0))] := hD
  exact hz ((fun k => match k with | 0 => q_1 | 1 => q_2 | _ => 0), (fun _ _ => 0)) hP hD hS trivial [0, 1, 2] rfl rfl (Nat.le_of_ble_eq_true rfl) (Nat.le_of_ble_eq_true rfl) rfl dX0_init_19
abbrev rm_c_X5_init : Room := { frames := 1, cells := 3, slots := 720, locals := 12 }
set_option maxHeartbeats 4000000 in
set_option maxRecDepth 100000 in
theorem c_X5_init (l : Launch) (D : va_G) (cs : Nat → ClassId) (sz : Nat) (pk : Nat)  : cMv l yX5_init (Cond.code yX5_init cX5_init 1 none) (rm_c_X5_init) D cs [.ref pk] sz [(pk, .inr (5, [.int 0, .int 0, .null, .null, .null]))] (fun (u : (Nat → Nat) × (Nat → Nat → Int32)) => True) (fun (u : (Nat → Nat) × (Nat → Nat → Int32)) => [(pk, .inr (5, [.int 0, .int 0, .ref (u.1 0), .ref (u.1 1), .ref (u.1 2)])), (u.1 0, aI cs 240 (fun _ => 0)), (u.1 1, aI cs 240 (fun _ => 0)), (u.1 2, aI cs 240 (fun _ => 0))]) := by
  refine kMet_v RX5 (by decide) rfl (Nat.le_of_ble_eq_true rfl) ?_
  intro p e s m below meth c ls A Qz H locs hx hb hml hown hin hu hK hsz hA hP hD hS hl hz
  subst hsz
  have hl : lv_has ls 1 [(0, .ref pk)] := hl
  refine lv_aload_n hx hb dX5_init_0 rfl (lv_at hl 0 rfl) ?_
  refine W.objInit hx hb hown (hu _ u_174) (hu _ u_84) (hu _ u_85) rfl (by rw [hml]; exact hl.1) rfl dX5_init_1 (Nat.le_of_ble_eq_true rfl) (Nat.le_of_ble_eq_true rfl) ?_
  refine W.eq (g2 := F0 m 4 ls []) rfl ?_
  refine lv_aload_n hx hb dX5_init_4 rfl (lv_at hl 0 rfl) ?_
  refine lv_sipush (v := 240) hx hb dX5_init_5 (by decide) ?_
  refine knewa (k := 0) (atype := .int) (ty := .int) (Nn := 240) (a0 := (240, .inl (fun _ => 0))) hx hb hu u_105 rfl hK rfl (fun _ _ h => h) hP hD hS hA (fun _ => rfl) (by decide) (by decide) (Nat.le_of_ble_eq_true rfl) (Nat.le_of_ble_eq_true rfl) (Nat.le_of_ble_eq_true rfl) dX5_init_8 (fun q_1 H hP hD hS => ?_)
  have hP : va_P D vwCl [(pk, .inr (5, [.int 0, .int 0, .null, .null, .null])), (q_1, aI cs 240 (fun _ => 0))] H := hP
  have hD : va_D A [(pk, .inr (5, [.int 0, .int 0, .null, .null, .null])), (q_1, aI cs 240 (fun _ => 0))] := hD
  refine va_putF (D := D) (ci := 5) (v := .ref q_1) (ty := tyX5 2) (C := RX5) (T := TX5) (N := 5) hx hb hu in_X5 tyX5 tyX5_ok nmX5 hown hK.1 hP hD hS 0 rfl rfl 2 (by decide) (hu _ u_177) (fun _ h9 => h9) rfl hin rfl (tyX5_ok 2 (by decide)) rfl rfl (Nat.le_of_ble_eq_true rfl) dX5_init_10 (fun H locs hP hD hS => ?_)
  have hP : va_P D vwCl [(pk, .inr (5, [.int 0, .int 0, .ref q_1, .null, .null])), (q_1, aI cs 240 (fun _ => 0))] H := hP
  have hD : va_D A [(pk, .inr (5, [.int 0, .int 0, .ref q_1, .null, .null])), (q_1, aI cs 240 (fun _ => 0))] := hD
  refine lv_aload_n hx hb dX5_init_13 rfl (lv_at hl 0 rfl) ?_
  refine lv_sipush (v := 240) hx hb dX5_init_14 (by decide) ?_
  refine knewa (k := 0) (atype := .int) (ty := .int) (Nn := 240) (a0 := (240, .inl (fun _ => 0))) hx hb hu u_105 rfl hK rfl (fun _ _ h => h) hP hD hS hA (fun _ => rfl) (by decide) (by decide) (Nat.le_of_ble_eq_true rfl) (Nat.le_of_ble_eq_true rfl) (Nat.le_of_ble_eq_true rfl) dX5_init_17 (fun q_2 H hP hD hS => ?_)
  have hP : va_P D vwCl [(pk, .inr (5, [.int 0, .int 0, .ref q_1, .null, .null])), (q_1, aI cs 240 (fun _ => 0)), (q_2, aI cs 240 (fun _ => 0))] H := hP
  have hD : va_D A [(pk, .inr (5, [.int 0, .int 0, .ref q_1, .null, .null])), (q_1, aI cs 240 (fun _ => 0)), (q_2, aI cs 240 (fun _ => 0))] := hD
  refine va_putF (D := D) (ci := 5) (v := .ref q_2) (ty := tyX5 3) (C := RX5) (T := TX5) (N := 5) hx hb hu in_X5 tyX5 tyX5_ok nmX5 hown hK.1 hP hD hS 0 rfl rfl 3 (by decide) (hu _ u_178) (fun _ h9 => h9) rfl hin rfl (tyX5_ok 3 (by decide)) rfl rfl (Nat.le_of_ble_eq_true rfl) dX5_init_19 (fun H locs hP hD hS => ?_)
  have hP : va_P D vwCl [(pk, .inr (5, [.int 0, .int 0, .ref q_1, .ref q_2, .null])), (q_1, aI cs 240 (fun _ => 0)), (q_2, aI cs 240 (fun _ => 0))] H := hP
  have hD : va_D A [(pk, .inr (5, [.int 0, .int 0, .ref q_1, .ref q_2, .null])), (q_1, aI cs 240 (fun _ => 0)), (q_2, aI cs 240 (fun _ => 0))] := hD
  refine lv_aload_n hx hb dX5_init_22 rfl (lv_at hl 0 rfl) ?_
  refine lv_sipush (v := 240) hx hb dX5_init_23 (by decide) ?_
  refine knewa (k := 0) (atype := .int) (ty := .int) (Nn := 240) (a0 := (240, .inl (fun _ => 0))) hx hb hu u_105 rfl hK rfl (fun _ _ h => h) hP hD hS hA (fun _ => rfl) (by decide) (by decide) (Nat.le_of_ble_eq_true rfl) (Nat.le_of_ble_eq_true rfl) (Nat.le_of_ble_eq_true rfl) dX5_init_26 (fun q_3 H hP hD hS => ?_)
  have hP : va_P D vwCl [(pk, .inr (5, [.int 0, .int 0, .ref q_1, .ref q_2, .null])), (q_1, aI cs 240 (fun _ => 0)), (q_2, aI cs 240 (fun _ => 0)), (q_3, aI cs 240 (fun _ => 0))] H := hP
  have hD : va_D A [(pk, .inr (5, [.int 0, .int 0, .ref q_1, .ref q_2, .null])), (q_1, aI cs 240 (fun _ => 0)), (q_2, aI cs 240 (fun _ => 0)), (q_3, aI cs 240 (fun _ => 0))] := hD
  refine va_putF (D := D) (ci := 5) (v := .ref q_3) (ty := tyX5 4) (C := RX5) (T := TX5) (N := 5) hx hb hu in_X5 tyX5 tyX5_ok nmX5 hown hK.1 hP hD hS 0 rfl rfl 4 (by decide) (hu _ u_179) (fun _ h9 => h9) rfl hin rfl (tyX5_ok 4 (by decide)) rfl rfl (Nat.le_of_ble_eq_true rfl) dX5_init_28 (fun H locs hP hD hS => ?_)
  have hP : va_P D vwCl [(pk, .inr (5, [.int 0, .int 0, .ref q_1, .ref q_2, .ref q_3])), (q_1, aI cs 240 (fun _ => 0)), (q_2, aI cs 240 (fun _ => 0)), (q_3, aI cs 240 (fun _ => 0))] H := hP
  have hD : va_D A [(pk, .inr (5, [.int 0, .int 0, .ref q_1, .ref q_2, .ref q_3])), (q_1, aI cs 240 (fun _ => 0)), (q_2, aI cs 240 (fun _ => 0)), (q_3, aI cs 240 (fun _ => 0))] := hD
  exact hz ((fun k => match k with | 0 => q_1 | 1 => q_2 | 2 => q_3 | _ => 0), (fun _ _ => 0)) hP hD hS trivial [0, 1, 2, 3] rfl rfl (Nat.le_of_ble_eq_true rfl) (Nat.le_of_ble_eq_true rfl) rfl dX5_init_31
abbrev rm_c_X4_init : Room := { frames := 1, cells := 4, slots := 16, locals := 12 }
set_option maxHeartbeats 4000000 in
set_option maxRecDepth 100000 in
theorem c_X4_init (l : Launch) (D : va_G) (cs : Nat → ClassId) (sz : Nat) (drm : Nat)  : cMv l yX4_init (Cond.code yX4_init cX4_init 2 none) (rm_c_X4_init) D cs [.ref drm] sz [(drm, .inr (4, [.null, .null, .null, .null]))] (fun (u : (Nat → Nat) × (Nat → Nat → Int32)) => (∀ j, j < 7 → u.2 0 j = -1)) (fun (u : (Nat → Nat) × (Nat → Nat → Int32)) => [(drm, .inr (4, [.ref (u.1 0), .ref (u.1 1), .ref (u.1 2), .ref (u.1 3)])), (u.1 0, aI cs 7 (u.2 0)), (u.1 1, aJ cs 3 (fun _ => 0)), (u.1 2, aI cs 3 (fun _ => 0)), (u.1 3, aI cs 3 (fun _ => 0))]) := by
  refine kMet_v RX4 (by decide) rfl (Nat.le_of_ble_eq_true rfl) ?_
  intro p e s m below meth c ls A Qz H locs hx hb hml hown hin hu hK hsz hA hP hD hS hl hz
  subst hsz
  have hl : lv_has ls 2 [(0, .ref drm)] := hl
  refine lv_aload_n hx hb dX4_init_0 rfl (lv_at hl 0 rfl) ?_
  refine W.objInit hx hb hown (hu _ u_302) (hu _ u_84) (hu _ u_85) rfl (by rw [hml]; exact hl.1) rfl dX4_init_1 (Nat.le_of_ble_eq_true rfl) (Nat.le_of_ble_eq_true rfl) ?_
  refine W.eq (g2 := F0 m 4 ls []) rfl ?_
  refine lv_aload_n hx hb dX4_init_4 rfl (lv_at hl 0 rfl) ?_
  refine lv_bipush (v := 7) hx hb dX4_init_5 (by decide) ?_
  refine knewa (k := 0) (atype := .int) (ty := .int) (Nn := 7) (a0 := (7, .inl (fun _ => 0))) hx hb hu u_105 rfl hK rfl (fun _ _ h => h) hP hD hS hA (fun _ => rfl) (by decide) (by decide) (Nat.le_of_ble_eq_true rfl) (Nat.le_of_ble_eq_true rfl) (Nat.le_of_ble_eq_true rfl) dX4_init_7 (fun q_1 H hP hD hS => ?_)
  have hP : va_P D vwCl [(drm, .inr (4, [.null, .null, .null, .null])), (q_1, aI cs 7 (fun _ => 0))] H := hP
  have hD : va_D A [(drm, .inr (4, [.null, .null, .null, .null])), (q_1, aI cs 7 (fun _ => 0))] := hD
  refine va_putF (D := D) (ci := 4) (v := .ref q_1) (ty := tyX4 0) (C := RX4) (T := TX4) (N := 4) hx hb hu in_X4 tyX4 tyX4_ok nmX4 hown hK.1 hP hD hS 0 rfl rfl 0 (by decide) (hu _ u_303) (fun _ h9 => h9) rfl hin rfl (tyX4_ok 0 (by decide)) rfl rfl (Nat.le_of_ble_eq_true rfl) dX4_init_9 (fun H locs hP hD hS => ?_)
  have hP : va_P D vwCl [(drm, .inr (4, [.ref q_1, .null, .null, .null])), (q_1, aI cs 7 (fun _ => 0))] H := hP
  have hD : va_D A [(drm, .inr (4, [.ref q_1, .null, .null, .null])), (q_1, aI cs 7 (fun _ => 0))] := hD
  refine lv_aload_n hx hb dX4_init_12 rfl (lv_at hl 0 rfl) ?_
  refine lv_iconst (v := 3) hx hb dX4_init_13 (by decide) ?_
  refine knewa (k := 3) (atype := .long) (ty := .long) (Nn := 3) (a0 := (3, .inr (.inl (fun _ => 0)))) hx hb hu u_296 rfl hK rfl (fun _ _ h => h) hP hD hS hA (fun _ => rfl) (by decide) (by decide) (Nat.le_of_ble_eq_true rfl) (Nat.le_of_ble_eq_true rfl) (Nat.le_of_ble_eq_true rfl) dX4_init_14 (fun q_2 H hP hD hS => ?_)
  have hP : va_P D vwCl [(drm, .inr (4, [.ref q_1, .null, .null, .null])), (q_1, aI cs 7 (fun _ => 0)), (q_2, aJ cs 3 (fun _ => 0))] H := hP
  have hD : va_D A [(drm, .inr (4, [.ref q_1, .null, .null, .null])), (q_1, aI cs 7 (fun _ => 0)), (q_2, aJ cs 3 (fun _ => 0))] := hD
  refine va_putF (D := D) (ci := 4) (v := .ref q_2) (ty := tyX4 1) (C := RX4) (T := TX4) (N := 4) hx hb hu in_X4 tyX4 tyX4_ok nmX4 hown hK.1 hP hD hS 0 rfl rfl 1 (by decide) (hu _ u_304) (fun _ h9 => h9) rfl hin rfl (tyX4_ok 1 (by decide)) rfl rfl (Nat.le_of_ble_eq_true rfl) dX4_init_16 (fun H locs hP hD hS => ?_)
  have hP : va_P D vwCl [(drm, .inr (4, [.ref q_1, .ref q_2, .null, .null])), (q_1, aI cs 7 (fun _ => 0)), (q_2, aJ cs 3 (fun _ => 0))] H := hP
  have hD : va_D A [(drm, .inr (4, [.ref q_1, .ref q_2, .null, .null])), (q_1, aI cs 7 (fun _ => 0)), (q_2, aJ cs 3 (fun _ => 0))] := hD
  refine lv_aload_n hx hb dX4_init_19 rfl (lv_at hl 0 rfl) ?_
  refine lv_iconst (v := 3) hx hb dX4_init_20 (by decide) ?_
  refine knewa (k := 0) (atype := .int) (ty := .int) (Nn := 3) (a0 := (3, .inl (fun _ => 0))) hx hb hu u_105 rfl hK rfl (fun _ _ h => h) hP hD hS hA (fun _ => rfl) (by decide) (by decide) (Nat.le_of_ble_eq_true rfl) (Nat.le_of_ble_eq_true rfl) (Nat.le_of_ble_eq_true rfl) dX4_init_21 (fun q_3 H hP hD hS => ?_)
  have hP : va_P D vwCl [(drm, .inr (4, [.ref q_1, .ref q_2, .null, .null])), (q_1, aI cs 7 (fun _ => 0)), (q_2, aJ cs 3 (fun _ => 0)), (q_3, aI cs 3 (fun _ => 0))] H := hP
  have hD : va_D A [(drm, .inr (4, [.ref q_1, .ref q_2, .null, .null])), (q_1, aI cs 7 (fun _ => 0)), (q_2, aJ cs 3 (fun _ => 0)), (q_3, aI cs 3 (fun _ => 0))] := hD
  refine va_putF (D := D) (ci := 4) (v := .ref q_3) (ty := tyX4 2) (C := RX4) (T := TX4) (N := 4) hx hb hu in_X4 tyX4 tyX4_ok nmX4 hown hK.1 hP hD hS 0 rfl rfl 2 (by decide) (hu _ u_305) (fun _ h9 => h9) rfl hin rfl (tyX4_ok 2 (by decide)) rfl rfl (Nat.le_of_ble_eq_true rfl) dX4_init_23 (fun H locs hP hD hS => ?_)
  have hP : va_P D vwCl [(drm, .inr (4, [.ref q_1, .ref q_2, .ref q_3, .null])), (q_1, aI cs 7 (fun _ => 0)), (q_2, aJ cs 3 (fun _ => 0)), (q_3, aI cs 3 (fun _ => 0))] H := hP
  have hD : va_D A [(drm, .inr (4, [.ref q_1, .ref q_2, .ref q_3, .null])), (q_1, aI cs 7 (fun _ => 0)), (q_2, aJ cs 3 (fun _ => 0)), (q_3, aI cs 3 (fun _ => 0))] := hD
  refine lv_aload_n hx hb dX4_init_26 rfl (lv_at hl 0 rfl) ?_
  refine lv_iconst (v := 3) hx hb dX4_init_27 (by decide) ?_
  refine knewa (k := 0) (atype := .int) (ty := .int) (Nn := 3) (a0 := (3, .inl (fun _ => 0))) hx hb hu u_105 rfl hK rfl (fun _ _ h => h) hP hD hS hA (fun _ => rfl) (by decide) (by decide) (Nat.le_of_ble_eq_true rfl) (Nat.le_of_ble_eq_true rfl) (Nat.le_of_ble_eq_true rfl) dX4_init_28 (fun q_4 H hP hD hS => ?_)
  have hP : va_P D vwCl [(drm, .inr (4, [.ref q_1, .ref q_2, .ref q_3, .null])), (q_1, aI cs 7 (fun _ => 0)), (q_2, aJ cs 3 (fun _ => 0)), (q_3, aI cs 3 (fun _ => 0)), (q_4, aI cs 3 (fun _ => 0))] H := hP
  have hD : va_D A [(drm, .inr (4, [.ref q_1, .ref q_2, .ref q_3, .null])), (q_1, aI cs 7 (fun _ => 0)), (q_2, aJ cs 3 (fun _ => 0)), (q_3, aI cs 3 (fun _ => 0)), (q_4, aI cs 3 (fun _ => 0))] := hD
  refine va_putF (D := D) (ci := 4) (v := .ref q_4) (ty := tyX4 3) (C := RX4) (T := TX4) (N := 4) hx hb hu in_X4 tyX4 tyX4_ok nmX4 hown hK.1 hP hD hS 0 rfl rfl 3 (by decide) (hu _ u_306) (fun _ h9 => h9) rfl hin rfl (tyX4_ok 3 (by decide)) rfl rfl (Nat.le_of_ble_eq_true rfl) dX4_init_30 (fun H locs hP hD hS => ?_)
  have hP : va_P D vwCl [(drm, .inr (4, [.ref q_1, .ref q_2, .ref q_3, .ref q_4])), (q_1, aI cs 7 (fun _ => 0)), (q_2, aJ cs 3 (fun _ => 0)), (q_3, aI cs 3 (fun _ => 0)), (q_4, aI cs 3 (fun _ => 0))] H := hP
  have hD : va_D A [(drm, .inr (4, [.ref q_1, .ref q_2, .ref q_3, .ref q_4])), (q_1, aI cs 7 (fun _ => 0)), (q_2, aJ cs 3 (fun _ => 0)), (q_3, aI cs 3 (fun _ => 0)), (q_4, aI cs 3 (fun _ => 0))] := hD
  refine lv_iconst (v := 0) hx hb dX4_init_33 (by decide) ?_
  refine lv_istore_n (lv' := [(1, .int 0), (0, .ref drm)]) hx hb dX4_init_34 rfl hl (by decide) rfl (fun ls hl => ?_)
  have lp_5 : ∀ (fuel : Nat) (i : Nat) (f : Nat → Int32) (hfuel : 7 < i + fuel) (hi : i ≤ 7) (hf : ∀ j, j < i → f j = -1) (H : Heap) (locs : List Loc) (hP : va_P D vwCl [(drm, .inr (4, [.ref q_1, .ref q_2, .ref q_3, .ref q_4])), (q_1, aI cs 7 f), (q_2, aJ cs 3 (fun _ => 0)), (q_3, aI cs 3 (fun _ => 0)), (q_4, aI cs 3 (fun _ => 0))] H) (hD : va_D A [(drm, .inr (4, [.ref q_1, .ref q_2, .ref q_3, .ref q_4])), (q_1, aI cs 7 f), (q_2, aJ cs 3 (fun _ => 0)), (q_3, aI cs 3 (fun _ => 0)), (q_4, aI cs 3 (fun _ => 0))]) (hS : va_S A s.heap H locs) (ls : Array Slot) (hl : lv_has ls 2 [(1, .int (nI i)), (0, .ref drm)]), W p l e rm_c_X4_init s m [.ref drm].toArray below meth c H locs 4 16 Qz (F0 m 35 ls []) := by
    intro fuel
    induction fuel with
    | zero =>
      intro i f hfuel hi hf H locs hP hD hS ls hl
      exact absurd hfuel (by omega)
    | succ fuel ih =>
      intro i f hfuel hi hf H locs hP hD hS ls hl
      refine lv_iload_n hx hb dX4_init_35 rfl (lv_at hl 0 rfl) ?_
      refine lv_bipush (v := 7) hx hb dX4_init_36 (by decide) ?_
      refine lv_icmp_ge (tgt := 54) hx hb dX4_init_38 (by decide) (fun c_6 => ?_) (fun c_6 => ?_)
      · have gc_6 : 7 ≤ i := (nI_leI (a := 7) (b := i) (by omega) (by omega)).mp c_6
        exact hz ((fun k => match k with | 0 => q_1 | 1 => q_2 | 2 => q_3 | 3 => q_4 | _ => 0), (fun k => match k with | 0 => f | _ => fun _ => 0)) hP hD hS (fun j hj => hf j (by omega)) [0, 1, 2, 3, 4] rfl rfl (Nat.le_of_ble_eq_true rfl) (Nat.le_of_ble_eq_true rfl) rfl dX4_init_54
      · have gc_6 : ¬ 7 ≤ i := fun h => c_6 ((nI_leI (a := 7) (b := i) (by omega) (by omega)).mpr h)
        refine lv_aload_n hx hb dX4_init_41 rfl (lv_at hl 1 rfl) ?_
        refine va_get (D := D) (ci := 4) (v := .ref q_1) (C := RX4) (T := TX4) (N := 4) hx hb hu in_X4 hown hK.1 hP 0 rfl rfl 0 (by decide) (hu _ u_303) (fun _ h9 => h9) rfl dX4_init_42 ?_
        refine lv_iload_n hx hb dX4_init_45 rfl (lv_at hl 0 rfl) ?_
        refine lv_iconst (v := (-1)) hx hb dX4_init_46 (by decide) ?_
        refine va_iast hx hb hK.1 hP hD hS 1 0 rfl rfl (vp_in_nI (by omega) (by omega)) dX4_init_47 (fun H locs hP hD hS => ?_)
        have hP : va_P D vwCl [(drm, .inr (4, [.ref q_1, .ref q_2, .ref q_3, .ref q_4])), (q_1, aI cs 7 (upd f (nI i).toNatClampNeg (-1))), (q_2, aJ cs 3 (fun _ => 0)), (q_3, aI cs 3 (fun _ => 0)), (q_4, aI cs 3 (fun _ => 0))] H := hP
        have hD : va_D A [(drm, .inr (4, [.ref q_1, .ref q_2, .ref q_3, .ref q_4])), (q_1, aI cs 7 (upd f (nI i).toNatClampNeg (-1))), (q_2, aJ cs 3 (fun _ => 0)), (q_3, aI cs 3 (fun _ => 0)), (q_4, aI cs 3 (fun _ => 0))] := hD
        refine lv_iinc (v := nI (i + 1)) (lv' := [(1, .int (nI (i + 1))), (0, .ref drm)]) hx hb dX4_init_48 hl (k := 0) rfl (nI_1 _) (by decide) rfl (fun ls hl => ?_)
        refine lv_goto (tgt := 35) hx hb dX4_init_51 (by decide) ?_
        exact ih (i + 1) (upd f (nI i).toNatClampNeg (-1)) (by omega) (by omega) (upd_fill hf (by omega)) H locs (hP.sub [0, 1, 2, 3, 4] rfl) (hD.sub [0, 1, 2, 3, 4] rfl rfl) hS ls (lv_sub hl [0, 1] rfl)
  exact lp_5 (7 + 1) 0 (fun _ => 0) (by omega) (by omega) (fun j hj => absurd hj (by omega)) H locs (hP.sub [0, 1, 2, 3, 4] rfl) (hD.sub [0, 1, 2, 3, 4] rfl rfl) hS ls (lv_sub hl [0, 1] rfl)
abbrev rm_c_X3_init : Room := { frames := 1, cells := 6, slots := 5280, locals := 12 }
set_option maxHeartbeats 4000000 in
set_option maxRecDepth 100000 in
theorem c_X3_init (l : Launch) (D : va_G) (cs : Nat → ClassId) (sz : Nat) (drk : Nat)  : cMv l yX3_init (Cond.code yX3_init cX3_init 2 none) (rm_c_X3_init) D cs [.ref drk] sz [(drk, .inr (3, [.int 0, .null, .null, .null, .null, .null, .null]))] (fun (u : (Nat → Nat) × (Nat → Nat → Int32)) => True) (fun (u : (Nat → Nat) × (Nat → Nat → Int32)) => [(drk, .inr (3, [.int 0, .ref (u.1 0), .ref (u.1 1), .ref (u.1 2), .ref (u.1 3), .ref (u.1 4), .ref (u.1 5)])), (u.1 0, aI cs 240 (u.2 0)), (u.1 1, aJ cs 240 (fun _ => 0)), (u.1 2, aI cs 240 (fun _ => 0)), (u.1 3, aI cs 240 (fun _ => 0)), (u.1 4, aI cs 2160 (fun _ => 0)), (u.1 5, aI cs 2160 (fun _ => 0))]) := by
  refine kMet_v RX3 (by decide) rfl (Nat.le_of_ble_eq_true rfl) ?_
  intro p e s m below meth c ls A Qz H locs hx hb hml hown hin hu hK hsz hA hP hD hS hl hz
  subst hsz
  have hl : lv_has ls 2 [(0, .ref drk)] := hl
  refine lv_aload_n hx hb dX3_init_0 rfl (lv_at hl 0 rfl) ?_
  refine W.objInit hx hb hown (hu _ u_270) (hu _ u_84) (hu _ u_85) rfl (by rw [hml]; exact hl.1) rfl dX3_init_1 (Nat.le_of_ble_eq_true rfl) (Nat.le_of_ble_eq_true rfl) ?_
  refine W.eq (g2 := F0 m 4 ls []) rfl ?_
  refine lv_aload_n hx hb dX3_init_4 rfl (lv_at hl 0 rfl) ?_
  refine lv_sipush (v := 240) hx hb dX3_init_5 (by decide) ?_
  refine knewa (k := 0) (atype := .int) (ty := .int) (Nn := 240) (a0 := (240, .inl (fun _ => 0))) hx hb hu u_105 rfl hK rfl (fun _ _ h => h) hP hD hS hA (fun _ => rfl) (by decide) (by decide) (Nat.le_of_ble_eq_true rfl) (Nat.le_of_ble_eq_true rfl) (Nat.le_of_ble_eq_true rfl) dX3_init_8 (fun q_1 H hP hD hS => ?_)
  have hP : va_P D vwCl [(drk, .inr (3, [.int 0, .null, .null, .null, .null, .null, .null])), (q_1, aI cs 240 (fun _ => 0))] H := hP
  have hD : va_D A [(drk, .inr (3, [.int 0, .null, .null, .null, .null, .null, .null])), (q_1, aI cs 240 (fun _ => 0))] := hD
  refine va_putF (D := D) (ci := 3) (v := .ref q_1) (ty := tyX3 1) (C := RX3) (T := TX3) (N := 7) hx hb hu in_X3 tyX3 tyX3_ok nmX3 hown hK.1 hP hD hS 0 rfl rfl 1 (by decide) (hu _ u_275) (fun _ h9 => h9) rfl hin rfl (tyX3_ok 1 (by decide)) rfl rfl (Nat.le_of_ble_eq_true rfl) dX3_init_10 (fun H locs hP hD hS => ?_)
  have hP : va_P D vwCl [(drk, .inr (3, [.int 0, .ref q_1, .null, .null, .null, .null, .null])), (q_1, aI cs 240 (fun _ => 0))] H := hP
  have hD : va_D A [(drk, .inr (3, [.int 0, .ref q_1, .null, .null, .null, .null, .null])), (q_1, aI cs 240 (fun _ => 0))] := hD
  refine lv_aload_n hx hb dX3_init_13 rfl (lv_at hl 0 rfl) ?_
  refine lv_sipush (v := 240) hx hb dX3_init_14 (by decide) ?_
  refine knewa (k := 3) (atype := .long) (ty := .long) (Nn := 240) (a0 := (240, .inr (.inl (fun _ => 0)))) hx hb hu u_296 rfl hK rfl (fun _ _ h => h) hP hD hS hA (fun _ => rfl) (by decide) (by decide) (Nat.le_of_ble_eq_true rfl) (Nat.le_of_ble_eq_true rfl) (Nat.le_of_ble_eq_true rfl) dX3_init_17 (fun q_2 H hP hD hS => ?_)
  have hP : va_P D vwCl [(drk, .inr (3, [.int 0, .ref q_1, .null, .null, .null, .null, .null])), (q_1, aI cs 240 (fun _ => 0)), (q_2, aJ cs 240 (fun _ => 0))] H := hP
  have hD : va_D A [(drk, .inr (3, [.int 0, .ref q_1, .null, .null, .null, .null, .null])), (q_1, aI cs 240 (fun _ => 0)), (q_2, aJ cs 240 (fun _ => 0))] := hD
  refine va_putF (D := D) (ci := 3) (v := .ref q_2) (ty := tyX3 2) (C := RX3) (T := TX3) (N := 7) hx hb hu in_X3 tyX3 tyX3_ok nmX3 hown hK.1 hP hD hS 0 rfl rfl 2 (by decide) (hu _ u_276) (fun _ h9 => h9) rfl hin rfl (tyX3_ok 2 (by decide)) rfl rfl (Nat.le_of_ble_eq_true rfl) dX3_init_19 (fun H locs hP hD hS => ?_)
  have hP : va_P D vwCl [(drk, .inr (3, [.int 0, .ref q_1, .ref q_2, .null, .null, .null, .null])), (q_1, aI cs 240 (fun _ => 0)), (q_2, aJ cs 240 (fun _ => 0))] H := hP
  have hD : va_D A [(drk, .inr (3, [.int 0, .ref q_1, .ref q_2, .null, .null, .null, .null])), (q_1, aI cs 240 (fun _ => 0)), (q_2, aJ cs 240 (fun _ => 0))] := hD
  refine lv_aload_n hx hb dX3_init_22 rfl (lv_at hl 0 rfl) ?_
  refine lv_sipush (v := 240) hx hb dX3_init_23 (by decide) ?_
  refine knewa (k := 0) (atype := .int) (ty := .int) (Nn := 240) (a0 := (240, .inl (fun _ => 0))) hx hb hu u_105 rfl hK rfl (fun _ _ h => h) hP hD hS hA (fun _ => rfl) (by decide) (by decide) (Nat.le_of_ble_eq_true rfl) (Nat.le_of_ble_eq_true rfl) (Nat.le_of_ble_eq_true rfl) dX3_init_26 (fun q_3 H hP hD hS => ?_)
  have hP : va_P D vwCl [(drk, .inr (3, [.int 0, .ref q_1, .ref q_2, .null, .null, .null, .null])), (q_1, aI cs 240 (fun _ => 0)), (q_2, aJ cs 240 (fun _ => 0)), (q_3, aI cs 240 (fun _ => 0))] H := hP
  have hD : va_D A [(drk, .inr (3, [.int 0, .ref q_1, .ref q_2, .null, .null, .null, .null])), (q_1, aI cs 240 (fun _ => 0)), (q_2, aJ cs 240 (fun _ => 0)), (q_3, aI cs 240 (fun _ => 0))] := hD
  refine va_putF (D := D) (ci := 3) (v := .ref q_3) (ty := tyX3 3) (C := RX3) (T := TX3) (N := 7) hx hb hu in_X3 tyX3 tyX3_ok nmX3 hown hK.1 hP hD hS 0 rfl rfl 3 (by decide) (hu _ u_277) (fun _ h9 => h9) rfl hin rfl (tyX3_ok 3 (by decide)) rfl rfl (Nat.le_of_ble_eq_true rfl) dX3_init_28 (fun H locs hP hD hS => ?_)
  have hP : va_P D vwCl [(drk, .inr (3, [.int 0, .ref q_1, .ref q_2, .ref q_3, .null, .null, .null])), (q_1, aI cs 240 (fun _ => 0)), (q_2, aJ cs 240 (fun _ => 0)), (q_3, aI cs 240 (fun _ => 0))] H := hP
  have hD : va_D A [(drk, .inr (3, [.int 0, .ref q_1, .ref q_2, .ref q_3, .null, .null, .null])), (q_1, aI cs 240 (fun _ => 0)), (q_2, aJ cs 240 (fun _ => 0)), (q_3, aI cs 240 (fun _ => 0))] := hD
  refine lv_aload_n hx hb dX3_init_31 rfl (lv_at hl 0 rfl) ?_
  refine lv_sipush (v := 240) hx hb dX3_init_32 (by decide) ?_
  refine knewa (k := 0) (atype := .int) (ty := .int) (Nn := 240) (a0 := (240, .inl (fun _ => 0))) hx hb hu u_105 rfl hK rfl (fun _ _ h => h) hP hD hS hA (fun _ => rfl) (by decide) (by decide) (Nat.le_of_ble_eq_true rfl) (Nat.le_of_ble_eq_true rfl) (Nat.le_of_ble_eq_true rfl) dX3_init_35 (fun q_4 H hP hD hS => ?_)
  have hP : va_P D vwCl [(drk, .inr (3, [.int 0, .ref q_1, .ref q_2, .ref q_3, .null, .null, .null])), (q_1, aI cs 240 (fun _ => 0)), (q_2, aJ cs 240 (fun _ => 0)), (q_3, aI cs 240 (fun _ => 0)), (q_4, aI cs 240 (fun _ => 0))] H := hP
  have hD : va_D A [(drk, .inr (3, [.int 0, .ref q_1, .ref q_2, .ref q_3, .null, .null, .null])), (q_1, aI cs 240 (fun _ => 0)), (q_2, aJ cs 240 (fun _ => 0)), (q_3, aI cs 240 (fun _ => 0)), (q_4, aI cs 240 (fun _ => 0))] := hD
  refine va_putF (D := D) (ci := 3) (v := .ref q_4) (ty := tyX3 4) (C := RX3) (T := TX3) (N := 7) hx hb hu in_X3 tyX3 tyX3_ok nmX3 hown hK.1 hP hD hS 0 rfl rfl 4 (by decide) (hu _ u_278) (fun _ h9 => h9) rfl hin rfl (tyX3_ok 4 (by decide)) rfl rfl (Nat.le_of_ble_eq_true rfl) dX3_init_37 (fun H locs hP hD hS => ?_)
  have hP : va_P D vwCl [(drk, .inr (3, [.int 0, .ref q_1, .ref q_2, .ref q_3, .ref q_4, .null, .null])), (q_1, aI cs 240 (fun _ => 0)), (q_2, aJ cs 240 (fun _ => 0)), (q_3, aI cs 240 (fun _ => 0)), (q_4, aI cs 240 (fun _ => 0))] H := hP
  have hD : va_D A [(drk, .inr (3, [.int 0, .ref q_1, .ref q_2, .ref q_3, .ref q_4, .null, .null])), (q_1, aI cs 240 (fun _ => 0)), (q_2, aJ cs 240 (fun _ => 0)), (q_3, aI cs 240 (fun _ => 0)), (q_4, aI cs 240 (fun _ => 0))] := hD
  refine lv_aload_n hx hb dX3_init_40 rfl (lv_at hl 0 rfl) ?_
  refine lv_sipush (v := 2160) hx hb dX3_init_41 (by decide) ?_
  refine knewa (k := 0) (atype := .int) (ty := .int) (Nn := 2160) (a0 := (2160, .inl (fun _ => 0))) hx hb hu u_105 rfl hK rfl (fun _ _ h => h) hP hD hS hA (fun _ => rfl) (by decide) (by decide) (Nat.le_of_ble_eq_true rfl) (Nat.le_of_ble_eq_true rfl) (Nat.le_of_ble_eq_true rfl) dX3_init_44 (fun q_5 H hP hD hS => ?_)
  have hP : va_P D vwCl [(drk, .inr (3, [.int 0, .ref q_1, .ref q_2, .ref q_3, .ref q_4, .null, .null])), (q_1, aI cs 240 (fun _ => 0)), (q_2, aJ cs 240 (fun _ => 0)), (q_3, aI cs 240 (fun _ => 0)), (q_4, aI cs 240 (fun _ => 0)), (q_5, aI cs 2160 (fun _ => 0))] H := hP
  have hD : va_D A [(drk, .inr (3, [.int 0, .ref q_1, .ref q_2, .ref q_3, .ref q_4, .null, .null])), (q_1, aI cs 240 (fun _ => 0)), (q_2, aJ cs 240 (fun _ => 0)), (q_3, aI cs 240 (fun _ => 0)), (q_4, aI cs 240 (fun _ => 0)), (q_5, aI cs 2160 (fun _ => 0))] := hD
  refine va_putF (D := D) (ci := 3) (v := .ref q_5) (ty := tyX3 5) (C := RX3) (T := TX3) (N := 7) hx hb hu in_X3 tyX3 tyX3_ok nmX3 hown hK.1 hP hD hS 0 rfl rfl 5 (by decide) (hu _ u_279) (fun _ h9 => h9) rfl hin rfl (tyX3_ok 5 (by decide)) rfl rfl (Nat.le_of_ble_eq_true rfl) dX3_init_46 (fun H locs hP hD hS => ?_)
  have hP : va_P D vwCl [(drk, .inr (3, [.int 0, .ref q_1, .ref q_2, .ref q_3, .ref q_4, .ref q_5, .null])), (q_1, aI cs 240 (fun _ => 0)), (q_2, aJ cs 240 (fun _ => 0)), (q_3, aI cs 240 (fun _ => 0)), (q_4, aI cs 240 (fun _ => 0)), (q_5, aI cs 2160 (fun _ => 0))] H := hP
  have hD : va_D A [(drk, .inr (3, [.int 0, .ref q_1, .ref q_2, .ref q_3, .ref q_4, .ref q_5, .null])), (q_1, aI cs 240 (fun _ => 0)), (q_2, aJ cs 240 (fun _ => 0)), (q_3, aI cs 240 (fun _ => 0)), (q_4, aI cs 240 (fun _ => 0)), (q_5, aI cs 2160 (fun _ => 0))] := hD
  refine lv_aload_n hx hb dX3_init_49 rfl (lv_at hl 0 rfl) ?_
  refine lv_sipush (v := 2160) hx hb dX3_init_50 (by decide) ?_
  refine knewa (k := 0) (atype := .int) (ty := .int) (Nn := 2160) (a0 := (2160, .inl (fun _ => 0))) hx hb hu u_105 rfl hK rfl (fun _ _ h => h) hP hD hS hA (fun _ => rfl) (by decide) (by decide) (Nat.le_of_ble_eq_true rfl) (Nat.le_of_ble_eq_true rfl) (Nat.le_of_ble_eq_true rfl) dX3_init_53 (fun q_6 H hP hD hS => ?_)
  have hP : va_P D vwCl [(drk, .inr (3, [.int 0, .ref q_1, .ref q_2, .ref q_3, .ref q_4, .ref q_5, .null])), (q_1, aI cs 240 (fun _ => 0)), (q_2, aJ cs 240 (fun _ => 0)), (q_3, aI cs 240 (fun _ => 0)), (q_4, aI cs 240 (fun _ => 0)), (q_5, aI cs 2160 (fun _ => 0)), (q_6, aI cs 2160 (fun _ => 0))] H := hP
  have hD : va_D A [(drk, .inr (3, [.int 0, .ref q_1, .ref q_2, .ref q_3, .ref q_4, .ref q_5, .null])), (q_1, aI cs 240 (fun _ => 0)), (q_2, aJ cs 240 (fun _ => 0)), (q_3, aI cs 240 (fun _ => 0)), (q_4, aI cs 240 (fun _ => 0)), (q_5, aI cs 2160 (fun _ => 0)), (q_6, aI cs 2160 (fun _ => 0))] := hD
  refine va_putF (D := D) (ci := 3) (v := .ref q_6) (ty := tyX3 6) (C := RX3) (T := TX3) (N := 7) hx hb hu in_X3 tyX3 tyX3_ok nmX3 hown hK.1 hP hD hS 0 rfl rfl 6 (by decide) (hu _ u_280) (fun _ h9 => h9) rfl hin rfl (tyX3_ok 6 (by decide)) rfl rfl (Nat.le_of_ble_eq_true rfl) dX3_init_55 (fun H locs hP hD hS => ?_)
  have hP : va_P D vwCl [(drk, .inr (3, [.int 0, .ref q_1, .ref q_2, .ref q_3, .ref q_4, .ref q_5, .ref q_6])), (q_1, aI cs 240 (fun _ => 0)), (q_2, aJ cs 240 (fun _ => 0)), (q_3, aI cs 240 (fun _ => 0)), (q_4, aI cs 240 (fun _ => 0)), (q_5, aI cs 2160 (fun _ => 0)), (q_6, aI cs 2160 (fun _ => 0))] H := hP
  have hD : va_D A [(drk, .inr (3, [.int 0, .ref q_1, .ref q_2, .ref q_3, .ref q_4, .ref q_5, .ref q_6])), (q_1, aI cs 240 (fun _ => 0)), (q_2, aJ cs 240 (fun _ => 0)), (q_3, aI cs 240 (fun _ => 0)), (q_4, aI cs 240 (fun _ => 0)), (q_5, aI cs 2160 (fun _ => 0)), (q_6, aI cs 2160 (fun _ => 0))] := hD
  refine lv_iconst (v := 0) hx hb dX3_init_58 (by decide) ?_
  refine lv_istore_n (lv' := [(1, .int 0), (0, .ref drk)]) hx hb dX3_init_59 rfl hl (by decide) rfl (fun ls hl => ?_)
  have lp_7 : ∀ (fuel : Nat) (i : Nat) (f : Nat → Int32) (hfuel : 240 < i + fuel) (hi : i ≤ 240) (H : Heap) (locs : List Loc) (hP : va_P D vwCl [(drk, .inr (3, [.int 0, .ref q_1, .ref q_2, .ref q_3, .ref q_4, .ref q_5, .ref q_6])), (q_1, aI cs 240 f), (q_2, aJ cs 240 (fun _ => 0)), (q_3, aI cs 240 (fun _ => 0)), (q_4, aI cs 240 (fun _ => 0)), (q_5, aI cs 2160 (fun _ => 0)), (q_6, aI cs 2160 (fun _ => 0))] H) (hD : va_D A [(drk, .inr (3, [.int 0, .ref q_1, .ref q_2, .ref q_3, .ref q_4, .ref q_5, .ref q_6])), (q_1, aI cs 240 f), (q_2, aJ cs 240 (fun _ => 0)), (q_3, aI cs 240 (fun _ => 0)), (q_4, aI cs 240 (fun _ => 0)), (q_5, aI cs 2160 (fun _ => 0)), (q_6, aI cs 2160 (fun _ => 0))]) (hS : va_S A s.heap H locs) (ls : Array Slot) (hl : lv_has ls 2 [(1, .int (nI i)), (0, .ref drk)]), W p l e rm_c_X3_init s m [.ref drk].toArray below meth c H locs 6 5280 Qz (F0 m 60 ls []) := by
    intro fuel
    induction fuel with
    | zero =>
      intro i f hfuel hi H locs hP hD hS ls hl
      exact absurd hfuel (by omega)
    | succ fuel ih =>
      intro i f hfuel hi H locs hP hD hS ls hl
      refine lv_iload_n hx hb dX3_init_60 rfl (lv_at hl 0 rfl) ?_
      refine lv_sipush (v := 240) hx hb dX3_init_61 (by decide) ?_
      refine lv_icmp_ge (tgt := 80) hx hb dX3_init_64 (by decide) (fun c_8 => ?_) (fun c_8 => ?_)
      · have gc_8 : 240 ≤ i := (nI_leI (a := 240) (b := i) (by omega) (by omega)).mp c_8
        exact hz ((fun k => match k with | 0 => q_1 | 1 => q_2 | 2 => q_3 | 3 => q_4 | 4 => q_5 | 5 => q_6 | _ => 0), (fun k => match k with | 0 => f | _ => fun _ => 0)) hP hD hS trivial [0, 1, 2, 3, 4, 5, 6] rfl rfl (Nat.le_of_ble_eq_true rfl) (Nat.le_of_ble_eq_true rfl) rfl dX3_init_80
      · have gc_8 : ¬ 240 ≤ i := fun h => c_8 ((nI_leI (a := 240) (b := i) (by omega) (by omega)).mpr h)
        refine lv_aload_n hx hb dX3_init_67 rfl (lv_at hl 1 rfl) ?_
        refine va_get (D := D) (ci := 3) (v := .ref q_1) (C := RX3) (T := TX3) (N := 7) hx hb hu in_X3 hown hK.1 hP 0 rfl rfl 1 (by decide) (hu _ u_275) (fun _ h9 => h9) rfl dX3_init_68 ?_
        refine lv_iload_n hx hb dX3_init_71 rfl (lv_at hl 0 rfl) ?_
        refine lv_iload_n hx hb dX3_init_72 rfl (lv_at hl 0 rfl) ?_
        refine va_iast hx hb hK.1 hP hD hS 1 0 rfl rfl (vp_in_nI (by omega) (by omega)) dX3_init_73 (fun H locs hP hD hS => ?_)
        have hP : va_P D vwCl [(drk, .inr (3, [.int 0, .ref q_1, .ref q_2, .ref q_3, .ref q_4, .ref q_5, .ref q_6])), (q_1, aI cs 240 (upd f (nI i).toNatClampNeg (nI i))), (q_2, aJ cs 240 (fun _ => 0)), (q_3, aI cs 240 (fun _ => 0)), (q_4, aI cs 240 (fun _ => 0)), (q_5, aI cs 2160 (fun _ => 0)), (q_6, aI cs 2160 (fun _ => 0))] H := hP
        have hD : va_D A [(drk, .inr (3, [.int 0, .ref q_1, .ref q_2, .ref q_3, .ref q_4, .ref q_5, .ref q_6])), (q_1, aI cs 240 (upd f (nI i).toNatClampNeg (nI i))), (q_2, aJ cs 240 (fun _ => 0)), (q_3, aI cs 240 (fun _ => 0)), (q_4, aI cs 240 (fun _ => 0)), (q_5, aI cs 2160 (fun _ => 0)), (q_6, aI cs 2160 (fun _ => 0))] := hD
        refine lv_iinc (v := nI (i + 1)) (lv' := [(1, .int (nI (i + 1))), (0, .ref drk)]) hx hb dX3_init_74 hl (k := 0) rfl (nI_1 _) (by decide) rfl (fun ls hl => ?_)
        refine lv_goto (tgt := 60) hx hb dX3_init_77 (by decide) ?_
        exact ih (i + 1) (upd f (nI i).toNatClampNeg (nI i)) (by omega) (by omega) H locs (hP.sub [0, 1, 2, 3, 4, 5, 6] rfl) (hD.sub [0, 1, 2, 3, 4, 5, 6] rfl rfl) hS ls (lv_sub hl [0, 1] rfl)
  exact lp_7 (240 + 1) 0 (fun _ => 0) (by omega) (by omega) H locs (hP.sub [0, 1, 2, 3, 4, 5, 6] rfl) (hD.sub [0, 1, 2, 3, 4, 5, 6] rfl rfl) hS ls (lv_sub hl [0, 1] rfl)
abbrev rm_c_X6_init : Room := { frames := 1, cells := 10, slots := 3048, locals := 12 }
set_option maxHeartbeats 4000000 in
set_option maxRecDepth 100000 in
theorem c_X6_init (l : Launch) (D : va_G) (cs : Nat → ClassId) (sz : Nat) (drp : Nat)  : cMv l yX6_init (Cond.code yX6_init cX6_init 2 none) (rm_c_X6_init) D cs [.ref drp] sz [(drp, .inr (6, [.int 0, .int 0, .int 0, .int 0, .int 0, .int 0, .int 0, .null, .null, .null, .null, .null, .null, .null, .null, .null, .null]))] (fun (u : (Nat → Nat) × (Nat → Nat → Int32)) => (∀ j, j < 240 → ¬ u.2 0 j < 0 ∧ u.2 0 j < 240)) (fun (u : (Nat → Nat) × (Nat → Nat → Int32)) => [(drp, .inr (6, [.int 0, .int 0, .int (-1), .int 0, .int 0, .int 0, .int 240, .ref (u.1 0), .ref (u.1 1), .ref (u.1 2), .ref (u.1 3), .ref (u.1 4), .ref (u.1 5), .ref (u.1 6), .ref (u.1 7), .ref (u.1 8), .ref (u.1 9)])), (u.1 0, aI cs 24 (fun _ => 0)), (u.1 1, aI cs 24 (fun _ => 0)), (u.1 2, aI cs 24 (fun _ => 0)), (u.1 3, aI cs 240 (fun _ => 0)), (u.1 4, aI cs 240 (fun _ => 0)), (u.1 5, aI cs 240 (u.2 0)), (u.1 6, aI cs 240 (fun _ => 0)), (u.1 7, aI cs 240 (fun _ => 0)), (u.1 8, aI cs 240 (fun _ => 0)), (u.1 9, aB cs 1536 (fun _ => 0))]) := by
  refine kMet_v RX6 (by decide) rfl (Nat.le_of_ble_eq_true rfl) ?_
  intro p e s m below meth c ls A Qz H locs hx hb hml hown hin hu hK hsz hA hP hD hS hl hz
  subst hsz
  have hl : lv_has ls 2 [(0, .ref drp)] := hl
  refine lv_aload_n hx hb dX6_init_0 rfl (lv_at hl 0 rfl) ?_
  refine W.objInit hx hb hown (hu _ u_196) (hu _ u_84) (hu _ u_85) rfl (by rw [hml]; exact hl.1) rfl dX6_init_1 (Nat.le_of_ble_eq_true rfl) (Nat.le_of_ble_eq_true rfl) ?_
  refine W.eq (g2 := F0 m 4 ls []) rfl ?_
  refine lv_aload_n hx hb dX6_init_4 rfl (lv_at hl 0 rfl) ?_
  refine lv_iconst (v := (-1)) hx hb dX6_init_5 (by decide) ?_
  refine va_put (D := D) (ci := 6) (v := .int (-1)) (ty := tyX6 2) (C := RX6) (T := TX6) (N := 17) hx hb hu in_X6 tyX6 tyX6_ok nmX6 hown hK.1 hP hD hS 0 rfl rfl 2 (by decide) (hu _ u_201) (fun _ h9 => h9) rfl (tyX6_ok 2 (by decide)) rfl rfl (Nat.le_of_ble_eq_true rfl) dX6_init_6 (fun H locs hP hD hS => ?_)
  have hP : va_P D vwCl [(drp, .inr (6, [.int 0, .int 0, .int (-1), .int 0, .int 0, .int 0, .int 0, .null, .null, .null, .null, .null, .null, .null, .null, .null, .null]))] H := hP
  have hD : va_D A [(drp, .inr (6, [.int 0, .int 0, .int (-1), .int 0, .int 0, .int 0, .int 0, .null, .null, .null, .null, .null, .null, .null, .null, .null, .null]))] := hD
  refine lv_aload_n hx hb dX6_init_9 rfl (lv_at hl 0 rfl) ?_
  refine lv_sipush (v := 240) hx hb dX6_init_10 (by decide) ?_
  refine va_put (D := D) (ci := 6) (v := .int 240) (ty := tyX6 6) (C := RX6) (T := TX6) (N := 17) hx hb hu in_X6 tyX6 tyX6_ok nmX6 hown hK.1 hP hD hS 0 rfl rfl 6 (by decide) (hu _ u_209) (fun _ h9 => h9) rfl (tyX6_ok 6 (by decide)) rfl rfl (Nat.le_of_ble_eq_true rfl) dX6_init_13 (fun H locs hP hD hS => ?_)
  have hP : va_P D vwCl [(drp, .inr (6, [.int 0, .int 0, .int (-1), .int 0, .int 0, .int 0, .int 240, .null, .null, .null, .null, .null, .null, .null, .null, .null, .null]))] H := hP
  have hD : va_D A [(drp, .inr (6, [.int 0, .int 0, .int (-1), .int 0, .int 0, .int 0, .int 240, .null, .null, .null, .null, .null, .null, .null, .null, .null, .null]))] := hD
  refine lv_aload_n hx hb dX6_init_16 rfl (lv_at hl 0 rfl) ?_
  refine lv_bipush (v := 24) hx hb dX6_init_17 (by decide) ?_
  refine knewa (k := 0) (atype := .int) (ty := .int) (Nn := 24) (a0 := (24, .inl (fun _ => 0))) hx hb hu u_105 rfl hK rfl (fun _ _ h => h) hP hD hS hA (fun _ => rfl) (by decide) (by decide) (Nat.le_of_ble_eq_true rfl) (Nat.le_of_ble_eq_true rfl) (Nat.le_of_ble_eq_true rfl) dX6_init_19 (fun q_1 H hP hD hS => ?_)
  have hP : va_P D vwCl [(drp, .inr (6, [.int 0, .int 0, .int (-1), .int 0, .int 0, .int 0, .int 240, .null, .null, .null, .null, .null, .null, .null, .null, .null, .null])), (q_1, aI cs 24 (fun _ => 0))] H := hP
  have hD : va_D A [(drp, .inr (6, [.int 0, .int 0, .int (-1), .int 0, .int 0, .int 0, .int 240, .null, .null, .null, .null, .null, .null, .null, .null, .null, .null])), (q_1, aI cs 24 (fun _ => 0))] := hD
  refine va_putF (D := D) (ci := 6) (v := .ref q_1) (ty := tyX6 7) (C := RX6) (T := TX6) (N := 17) hx hb hu in_X6 tyX6 tyX6_ok nmX6 hown hK.1 hP hD hS 0 rfl rfl 7 (by decide) (hu _ u_210) (fun _ h9 => h9) rfl hin rfl (tyX6_ok 7 (by decide)) rfl rfl (Nat.le_of_ble_eq_true rfl) dX6_init_21 (fun H locs hP hD hS => ?_)
  have hP : va_P D vwCl [(drp, .inr (6, [.int 0, .int 0, .int (-1), .int 0, .int 0, .int 0, .int 240, .ref q_1, .null, .null, .null, .null, .null, .null, .null, .null, .null])), (q_1, aI cs 24 (fun _ => 0))] H := hP
  have hD : va_D A [(drp, .inr (6, [.int 0, .int 0, .int (-1), .int 0, .int 0, .int 0, .int 240, .ref q_1, .null, .null, .null, .null, .null, .null, .null, .null, .null])), (q_1, aI cs 24 (fun _ => 0))] := hD
  refine lv_aload_n hx hb dX6_init_24 rfl (lv_at hl 0 rfl) ?_
  refine lv_bipush (v := 24) hx hb dX6_init_25 (by decide) ?_
  refine knewa (k := 0) (atype := .int) (ty := .int) (Nn := 24) (a0 := (24, .inl (fun _ => 0))) hx hb hu u_105 rfl hK rfl (fun _ _ h => h) hP hD hS hA (fun _ => rfl) (by decide) (by decide) (Nat.le_of_ble_eq_true rfl) (Nat.le_of_ble_eq_true rfl) (Nat.le_of_ble_eq_true rfl) dX6_init_27 (fun q_2 H hP hD hS => ?_)
  have hP : va_P D vwCl [(drp, .inr (6, [.int 0, .int 0, .int (-1), .int 0, .int 0, .int 0, .int 240, .ref q_1, .null, .null, .null, .null, .null, .null, .null, .null, .null])), (q_1, aI cs 24 (fun _ => 0)), (q_2, aI cs 24 (fun _ => 0))] H := hP
  have hD : va_D A [(drp, .inr (6, [.int 0, .int 0, .int (-1), .int 0, .int 0, .int 0, .int 240, .ref q_1, .null, .null, .null, .null, .null, .null, .null, .null, .null])), (q_1, aI cs 24 (fun _ => 0)), (q_2, aI cs 24 (fun _ => 0))] := hD
  refine va_putF (D := D) (ci := 6) (v := .ref q_2) (ty := tyX6 8) (C := RX6) (T := TX6) (N := 17) hx hb hu in_X6 tyX6 tyX6_ok nmX6 hown hK.1 hP hD hS 0 rfl rfl 8 (by decide) (hu _ u_211) (fun _ h9 => h9) rfl hin rfl (tyX6_ok 8 (by decide)) rfl rfl (Nat.le_of_ble_eq_true rfl) dX6_init_29 (fun H locs hP hD hS => ?_)
  have hP : va_P D vwCl [(drp, .inr (6, [.int 0, .int 0, .int (-1), .int 0, .int 0, .int 0, .int 240, .ref q_1, .ref q_2, .null, .null, .null, .null, .null, .null, .null, .null])), (q_1, aI cs 24 (fun _ => 0)), (q_2, aI cs 24 (fun _ => 0))] H := hP
  have hD : va_D A [(drp, .inr (6, [.int 0, .int 0, .int (-1), .int 0, .int 0, .int 0, .int 240, .ref q_1, .ref q_2, .null, .null, .null, .null, .null, .null, .null, .null])), (q_1, aI cs 24 (fun _ => 0)), (q_2, aI cs 24 (fun _ => 0))] := hD
  refine lv_aload_n hx hb dX6_init_32 rfl (lv_at hl 0 rfl) ?_
  refine lv_bipush (v := 24) hx hb dX6_init_33 (by decide) ?_
  refine knewa (k := 0) (atype := .int) (ty := .int) (Nn := 24) (a0 := (24, .inl (fun _ => 0))) hx hb hu u_105 rfl hK rfl (fun _ _ h => h) hP hD hS hA (fun _ => rfl) (by decide) (by decide) (Nat.le_of_ble_eq_true rfl) (Nat.le_of_ble_eq_true rfl) (Nat.le_of_ble_eq_true rfl) dX6_init_35 (fun q_3 H hP hD hS => ?_)
  have hP : va_P D vwCl [(drp, .inr (6, [.int 0, .int 0, .int (-1), .int 0, .int 0, .int 0, .int 240, .ref q_1, .ref q_2, .null, .null, .null, .null, .null, .null, .null, .null])), (q_1, aI cs 24 (fun _ => 0)), (q_2, aI cs 24 (fun _ => 0)), (q_3, aI cs 24 (fun _ => 0))] H := hP
  have hD : va_D A [(drp, .inr (6, [.int 0, .int 0, .int (-1), .int 0, .int 0, .int 0, .int 240, .ref q_1, .ref q_2, .null, .null, .null, .null, .null, .null, .null, .null])), (q_1, aI cs 24 (fun _ => 0)), (q_2, aI cs 24 (fun _ => 0)), (q_3, aI cs 24 (fun _ => 0))] := hD
  refine va_putF (D := D) (ci := 6) (v := .ref q_3) (ty := tyX6 9) (C := RX6) (T := TX6) (N := 17) hx hb hu in_X6 tyX6 tyX6_ok nmX6 hown hK.1 hP hD hS 0 rfl rfl 9 (by decide) (hu _ u_212) (fun _ h9 => h9) rfl hin rfl (tyX6_ok 9 (by decide)) rfl rfl (Nat.le_of_ble_eq_true rfl) dX6_init_37 (fun H locs hP hD hS => ?_)
  have hP : va_P D vwCl [(drp, .inr (6, [.int 0, .int 0, .int (-1), .int 0, .int 0, .int 0, .int 240, .ref q_1, .ref q_2, .ref q_3, .null, .null, .null, .null, .null, .null, .null])), (q_1, aI cs 24 (fun _ => 0)), (q_2, aI cs 24 (fun _ => 0)), (q_3, aI cs 24 (fun _ => 0))] H := hP
  have hD : va_D A [(drp, .inr (6, [.int 0, .int 0, .int (-1), .int 0, .int 0, .int 0, .int 240, .ref q_1, .ref q_2, .ref q_3, .null, .null, .null, .null, .null, .null, .null])), (q_1, aI cs 24 (fun _ => 0)), (q_2, aI cs 24 (fun _ => 0)), (q_3, aI cs 24 (fun _ => 0))] := hD
  refine lv_aload_n hx hb dX6_init_40 rfl (lv_at hl 0 rfl) ?_
  refine lv_sipush (v := 240) hx hb dX6_init_41 (by decide) ?_
  refine knewa (k := 0) (atype := .int) (ty := .int) (Nn := 240) (a0 := (240, .inl (fun _ => 0))) hx hb hu u_105 rfl hK rfl (fun _ _ h => h) hP hD hS hA (fun _ => rfl) (by decide) (by decide) (Nat.le_of_ble_eq_true rfl) (Nat.le_of_ble_eq_true rfl) (Nat.le_of_ble_eq_true rfl) dX6_init_44 (fun q_4 H hP hD hS => ?_)
  have hP : va_P D vwCl [(drp, .inr (6, [.int 0, .int 0, .int (-1), .int 0, .int 0, .int 0, .int 240, .ref q_1, .ref q_2, .ref q_3, .null, .null, .null, .null, .null, .null, .null])), (q_1, aI cs 24 (fun _ => 0)), (q_2, aI cs 24 (fun _ => 0)), (q_3, aI cs 24 (fun _ => 0)), (q_4, aI cs 240 (fun _ => 0))] H := hP
  have hD : va_D A [(drp, .inr (6, [.int 0, .int 0, .int (-1), .int 0, .int 0, .int 0, .int 240, .ref q_1, .ref q_2, .ref q_3, .null, .null, .null, .null, .null, .null, .null])), (q_1, aI cs 24 (fun _ => 0)), (q_2, aI cs 24 (fun _ => 0)), (q_3, aI cs 24 (fun _ => 0)), (q_4, aI cs 240 (fun _ => 0))] := hD
  refine va_putF (D := D) (ci := 6) (v := .ref q_4) (ty := tyX6 10) (C := RX6) (T := TX6) (N := 17) hx hb hu in_X6 tyX6 tyX6_ok nmX6 hown hK.1 hP hD hS 0 rfl rfl 10 (by decide) (hu _ u_213) (fun _ h9 => h9) rfl hin rfl (tyX6_ok 10 (by decide)) rfl rfl (Nat.le_of_ble_eq_true rfl) dX6_init_46 (fun H locs hP hD hS => ?_)
  have hP : va_P D vwCl [(drp, .inr (6, [.int 0, .int 0, .int (-1), .int 0, .int 0, .int 0, .int 240, .ref q_1, .ref q_2, .ref q_3, .ref q_4, .null, .null, .null, .null, .null, .null])), (q_1, aI cs 24 (fun _ => 0)), (q_2, aI cs 24 (fun _ => 0)), (q_3, aI cs 24 (fun _ => 0)), (q_4, aI cs 240 (fun _ => 0))] H := hP
  have hD : va_D A [(drp, .inr (6, [.int 0, .int 0, .int (-1), .int 0, .int 0, .int 0, .int 240, .ref q_1, .ref q_2, .ref q_3, .ref q_4, .null, .null, .null, .null, .null, .null])), (q_1, aI cs 24 (fun _ => 0)), (q_2, aI cs 24 (fun _ => 0)), (q_3, aI cs 24 (fun _ => 0)), (q_4, aI cs 240 (fun _ => 0))] := hD
  refine lv_aload_n hx hb dX6_init_49 rfl (lv_at hl 0 rfl) ?_
  refine lv_sipush (v := 240) hx hb dX6_init_50 (by decide) ?_
  refine knewa (k := 0) (atype := .int) (ty := .int) (Nn := 240) (a0 := (240, .inl (fun _ => 0))) hx hb hu u_105 rfl hK rfl (fun _ _ h => h) hP hD hS hA (fun _ => rfl) (by decide) (by decide) (Nat.le_of_ble_eq_true rfl) (Nat.le_of_ble_eq_true rfl) (Nat.le_of_ble_eq_true rfl) dX6_init_53 (fun q_5 H hP hD hS => ?_)
  have hP : va_P D vwCl [(drp, .inr (6, [.int 0, .int 0, .int (-1), .int 0, .int 0, .int 0, .int 240, .ref q_1, .ref q_2, .ref q_3, .ref q_4, .null, .null, .null, .null, .null, .null])), (q_1, aI cs 24 (fun _ => 0)), (q_2, aI cs 24 (fun _ => 0)), (q_3, aI cs 24 (fun _ => 0)), (q_4, aI cs 240 (fun _ => 0)), (q_5, aI cs 240 (fun _ => 0))] H := hP
  have hD : va_D A [(drp, .inr (6, [.int 0, .int 0, .int (-1), .int 0, .int 0, .int 0, .int 240, .ref q_1, .ref q_2, .ref q_3, .ref q_4, .null, .null, .null, .null, .null, .null])), (q_1, aI cs 24 (fun _ => 0)), (q_2, aI cs 24 (fun _ => 0)), (q_3, aI cs 24 (fun _ => 0)), (q_4, aI cs 240 (fun _ => 0)), (q_5, aI cs 240 (fun _ => 0))] := hD
  refine va_putF (D := D) (ci := 6) (v := .ref q_5) (ty := tyX6 11) (C := RX6) (T := TX6) (N := 17) hx hb hu in_X6 tyX6 tyX6_ok nmX6 hown hK.1 hP hD hS 0 rfl rfl 11 (by decide) (hu _ u_214) (fun _ h9 => h9) rfl hin rfl (tyX6_ok 11 (by decide)) rfl rfl (Nat.le_of_ble_eq_true rfl) dX6_init_55 (fun H locs hP hD hS => ?_)
  have hP : va_P D vwCl [(drp, .inr (6, [.int 0, .int 0, .int (-1), .int 0, .int 0, .int 0, .int 240, .ref q_1, .ref q_2, .ref q_3, .ref q_4, .ref q_5, .null, .null, .null, .null, .null])), (q_1, aI cs 24 (fun _ => 0)), (q_2, aI cs 24 (fun _ => 0)), (q_3, aI cs 24 (fun _ => 0)), (q_4, aI cs 240 (fun _ => 0)), (q_5, aI cs 240 (fun _ => 0))] H := hP
  have hD : va_D A [(drp, .inr (6, [.int 0, .int 0, .int (-1), .int 0, .int 0, .int 0, .int 240, .ref q_1, .ref q_2, .ref q_3, .ref q_4, .ref q_5, .null, .null, .null, .null, .null])), (q_1, aI cs 24 (fun _ => 0)), (q_2, aI cs 24 (fun _ => 0)), (q_3, aI cs 24 (fun _ => 0)), (q_4, aI cs 240 (fun _ => 0)), (q_5, aI cs 240 (fun _ => 0))] := hD
  refine lv_aload_n hx hb dX6_init_58 rfl (lv_at hl 0 rfl) ?_
  refine lv_sipush (v := 240) hx hb dX6_init_59 (by decide) ?_
  refine knewa (k := 0) (atype := .int) (ty := .int) (Nn := 240) (a0 := (240, .inl (fun _ => 0))) hx hb hu u_105 rfl hK rfl (fun _ _ h => h) hP hD hS hA (fun _ => rfl) (by decide) (by decide) (Nat.le_of_ble_eq_true rfl) (Nat.le_of_ble_eq_true rfl) (Nat.le_of_ble_eq_true rfl) dX6_init_62 (fun q_6 H hP hD hS => ?_)
  have hP : va_P D vwCl [(drp, .inr (6, [.int 0, .int 0, .int (-1), .int 0, .int 0, .int 0, .int 240, .ref q_1, .ref q_2, .ref q_3, .ref q_4, .ref q_5, .null, .null, .null, .null, .null])), (q_1, aI cs 24 (fun _ => 0)), (q_2, aI cs 24 (fun _ => 0)), (q_3, aI cs 24 (fun _ => 0)), (q_4, aI cs 240 (fun _ => 0)), (q_5, aI cs 240 (fun _ => 0)), (q_6, aI cs 240 (fun _ => 0))] H := hP
  have hD : va_D A [(drp, .inr (6, [.int 0, .int 0, .int (-1), .int 0, .int 0, .int 0, .int 240, .ref q_1, .ref q_2, .ref q_3, .ref q_4, .ref q_5, .null, .null, .null, .null, .null])), (q_1, aI cs 24 (fun _ => 0)), (q_2, aI cs 24 (fun _ => 0)), (q_3, aI cs 24 (fun _ => 0)), (q_4, aI cs 240 (fun _ => 0)), (q_5, aI cs 240 (fun _ => 0)), (q_6, aI cs 240 (fun _ => 0))] := hD
  refine va_putF (D := D) (ci := 6) (v := .ref q_6) (ty := tyX6 12) (C := RX6) (T := TX6) (N := 17) hx hb hu in_X6 tyX6 tyX6_ok nmX6 hown hK.1 hP hD hS 0 rfl rfl 12 (by decide) (hu _ u_215) (fun _ h9 => h9) rfl hin rfl (tyX6_ok 12 (by decide)) rfl rfl (Nat.le_of_ble_eq_true rfl) dX6_init_64 (fun H locs hP hD hS => ?_)
  have hP : va_P D vwCl [(drp, .inr (6, [.int 0, .int 0, .int (-1), .int 0, .int 0, .int 0, .int 240, .ref q_1, .ref q_2, .ref q_3, .ref q_4, .ref q_5, .ref q_6, .null, .null, .null, .null])), (q_1, aI cs 24 (fun _ => 0)), (q_2, aI cs 24 (fun _ => 0)), (q_3, aI cs 24 (fun _ => 0)), (q_4, aI cs 240 (fun _ => 0)), (q_5, aI cs 240 (fun _ => 0)), (q_6, aI cs 240 (fun _ => 0))] H := hP
  have hD : va_D A [(drp, .inr (6, [.int 0, .int 0, .int (-1), .int 0, .int 0, .int 0, .int 240, .ref q_1, .ref q_2, .ref q_3, .ref q_4, .ref q_5, .ref q_6, .null, .null, .null, .null])), (q_1, aI cs 24 (fun _ => 0)), (q_2, aI cs 24 (fun _ => 0)), (q_3, aI cs 24 (fun _ => 0)), (q_4, aI cs 240 (fun _ => 0)), (q_5, aI cs 240 (fun _ => 0)), (q_6, aI cs 240 (fun _ => 0))] := hD
  refine lv_aload_n hx hb dX6_init_67 rfl (lv_at hl 0 rfl) ?_
  refine lv_sipush (v := 240) hx hb dX6_init_68 (by decide) ?_
  refine knewa (k := 0) (atype := .int) (ty := .int) (Nn := 240) (a0 := (240, .inl (fun _ => 0))) hx hb hu u_105 rfl hK rfl (fun _ _ h => h) hP hD hS hA (fun _ => rfl) (by decide) (by decide) (Nat.le_of_ble_eq_true rfl) (Nat.le_of_ble_eq_true rfl) (Nat.le_of_ble_eq_true rfl) dX6_init_71 (fun q_7 H hP hD hS => ?_)
  have hP : va_P D vwCl [(drp, .inr (6, [.int 0, .int 0, .int (-1), .int 0, .int 0, .int 0, .int 240, .ref q_1, .ref q_2, .ref q_3, .ref q_4, .ref q_5, .ref q_6, .null, .null, .null, .null])), (q_1, aI cs 24 (fun _ => 0)), (q_2, aI cs 24 (fun _ => 0)), (q_3, aI cs 24 (fun _ => 0)), (q_4, aI cs 240 (fun _ => 0)), (q_5, aI cs 240 (fun _ => 0)), (q_6, aI cs 240 (fun _ => 0)), (q_7, aI cs 240 (fun _ => 0))] H := hP
  have hD : va_D A [(drp, .inr (6, [.int 0, .int 0, .int (-1), .int 0, .int 0, .int 0, .int 240, .ref q_1, .ref q_2, .ref q_3, .ref q_4, .ref q_5, .ref q_6, .null, .null, .null, .null])), (q_1, aI cs 24 (fun _ => 0)), (q_2, aI cs 24 (fun _ => 0)), (q_3, aI cs 24 (fun _ => 0)), (q_4, aI cs 240 (fun _ => 0)), (q_5, aI cs 240 (fun _ => 0)), (q_6, aI cs 240 (fun _ => 0)), (q_7, aI cs 240 (fun _ => 0))] := hD
  refine va_putF (D := D) (ci := 6) (v := .ref q_7) (ty := tyX6 13) (C := RX6) (T := TX6) (N := 17) hx hb hu in_X6 tyX6 tyX6_ok nmX6 hown hK.1 hP hD hS 0 rfl rfl 13 (by decide) (hu _ u_216) (fun _ h9 => h9) rfl hin rfl (tyX6_ok 13 (by decide)) rfl rfl (Nat.le_of_ble_eq_true rfl) dX6_init_73 (fun H locs hP hD hS => ?_)
  have hP : va_P D vwCl [(drp, .inr (6, [.int 0, .int 0, .int (-1), .int 0, .int 0, .int 0, .int 240, .ref q_1, .ref q_2, .ref q_3, .ref q_4, .ref q_5, .ref q_6, .ref q_7, .null, .null, .null])), (q_1, aI cs 24 (fun _ => 0)), (q_2, aI cs 24 (fun _ => 0)), (q_3, aI cs 24 (fun _ => 0)), (q_4, aI cs 240 (fun _ => 0)), (q_5, aI cs 240 (fun _ => 0)), (q_6, aI cs 240 (fun _ => 0)), (q_7, aI cs 240 (fun _ => 0))] H := hP
  have hD : va_D A [(drp, .inr (6, [.int 0, .int 0, .int (-1), .int 0, .int 0, .int 0, .int 240, .ref q_1, .ref q_2, .ref q_3, .ref q_4, .ref q_5, .ref q_6, .ref q_7, .null, .null, .null])), (q_1, aI cs 24 (fun _ => 0)), (q_2, aI cs 24 (fun _ => 0)), (q_3, aI cs 24 (fun _ => 0)), (q_4, aI cs 240 (fun _ => 0)), (q_5, aI cs 240 (fun _ => 0)), (q_6, aI cs 240 (fun _ => 0)), (q_7, aI cs 240 (fun _ => 0))] := hD
  refine lv_aload_n hx hb dX6_init_76 rfl (lv_at hl 0 rfl) ?_
  refine lv_sipush (v := 240) hx hb dX6_init_77 (by decide) ?_
  refine knewa (k := 0) (atype := .int) (ty := .int) (Nn := 240) (a0 := (240, .inl (fun _ => 0))) hx hb hu u_105 rfl hK rfl (fun _ _ h => h) hP hD hS hA (fun _ => rfl) (by decide) (by decide) (Nat.le_of_ble_eq_true rfl) (Nat.le_of_ble_eq_true rfl) (Nat.le_of_ble_eq_true rfl) dX6_init_80 (fun q_8 H hP hD hS => ?_)
  have hP : va_P D vwCl [(drp, .inr (6, [.int 0, .int 0, .int (-1), .int 0, .int 0, .int 0, .int 240, .ref q_1, .ref q_2, .ref q_3, .ref q_4, .ref q_5, .ref q_6, .ref q_7, .null, .null, .null])), (q_1, aI cs 24 (fun _ => 0)), (q_2, aI cs 24 (fun _ => 0)), (q_3, aI cs 24 (fun _ => 0)), (q_4, aI cs 240 (fun _ => 0)), (q_5, aI cs 240 (fun _ => 0)), (q_6, aI cs 240 (fun _ => 0)), (q_7, aI cs 240 (fun _ => 0)), (q_8, aI cs 240 (fun _ => 0))] H := hP
  have hD : va_D A [(drp, .inr (6, [.int 0, .int 0, .int (-1), .int 0, .int 0, .int 0, .int 240, .ref q_1, .ref q_2, .ref q_3, .ref q_4, .ref q_5, .ref q_6, .ref q_7, .null, .null, .null])), (q_1, aI cs 24 (fun _ => 0)), (q_2, aI cs 24 (fun _ => 0)), (q_3, aI cs 24 (fun _ => 0)), (q_4, aI cs 240 (fun _ => 0)), (q_5, aI cs 240 (fun _ => 0)), (q_6, aI cs 240 (fun _ => 0)), (q_7, aI cs 240 (fun _ => 0)), (q_8, aI cs 240 (fun _ => 0))] := hD
  refine va_putF (D := D) (ci := 6) (v := .ref q_8) (ty := tyX6 14) (C := RX6) (T := TX6) (N := 17) hx hb hu in_X6 tyX6 tyX6_ok nmX6 hown hK.1 hP hD hS 0 rfl rfl 14 (by decide) (hu _ u_217) (fun _ h9 => h9) rfl hin rfl (tyX6_ok 14 (by decide)) rfl rfl (Nat.le_of_ble_eq_true rfl) dX6_init_82 (fun H locs hP hD hS => ?_)
  have hP : va_P D vwCl [(drp, .inr (6, [.int 0, .int 0, .int (-1), .int 0, .int 0, .int 0, .int 240, .ref q_1, .ref q_2, .ref q_3, .ref q_4, .ref q_5, .ref q_6, .ref q_7, .ref q_8, .null, .null])), (q_1, aI cs 24 (fun _ => 0)), (q_2, aI cs 24 (fun _ => 0)), (q_3, aI cs 24 (fun _ => 0)), (q_4, aI cs 240 (fun _ => 0)), (q_5, aI cs 240 (fun _ => 0)), (q_6, aI cs 240 (fun _ => 0)), (q_7, aI cs 240 (fun _ => 0)), (q_8, aI cs 240 (fun _ => 0))] H := hP
  have hD : va_D A [(drp, .inr (6, [.int 0, .int 0, .int (-1), .int 0, .int 0, .int 0, .int 240, .ref q_1, .ref q_2, .ref q_3, .ref q_4, .ref q_5, .ref q_6, .ref q_7, .ref q_8, .null, .null])), (q_1, aI cs 24 (fun _ => 0)), (q_2, aI cs 24 (fun _ => 0)), (q_3, aI cs 24 (fun _ => 0)), (q_4, aI cs 240 (fun _ => 0)), (q_5, aI cs 240 (fun _ => 0)), (q_6, aI cs 240 (fun _ => 0)), (q_7, aI cs 240 (fun _ => 0)), (q_8, aI cs 240 (fun _ => 0))] := hD
  refine lv_aload_n hx hb dX6_init_85 rfl (lv_at hl 0 rfl) ?_
  refine lv_sipush (v := 240) hx hb dX6_init_86 (by decide) ?_
  refine knewa (k := 0) (atype := .int) (ty := .int) (Nn := 240) (a0 := (240, .inl (fun _ => 0))) hx hb hu u_105 rfl hK rfl (fun _ _ h => h) hP hD hS hA (fun _ => rfl) (by decide) (by decide) (Nat.le_of_ble_eq_true rfl) (Nat.le_of_ble_eq_true rfl) (Nat.le_of_ble_eq_true rfl) dX6_init_89 (fun q_9 H hP hD hS => ?_)
  have hP : va_P D vwCl [(drp, .inr (6, [.int 0, .int 0, .int (-1), .int 0, .int 0, .int 0, .int 240, .ref q_1, .ref q_2, .ref q_3, .ref q_4, .ref q_5, .ref q_6, .ref q_7, .ref q_8, .null, .null])), (q_1, aI cs 24 (fun _ => 0)), (q_2, aI cs 24 (fun _ => 0)), (q_3, aI cs 24 (fun _ => 0)), (q_4, aI cs 240 (fun _ => 0)), (q_5, aI cs 240 (fun _ => 0)), (q_6, aI cs 240 (fun _ => 0)), (q_7, aI cs 240 (fun _ => 0)), (q_8, aI cs 240 (fun _ => 0)), (q_9, aI cs 240 (fun _ => 0))] H := hP
  have hD : va_D A [(drp, .inr (6, [.int 0, .int 0, .int (-1), .int 0, .int 0, .int 0, .int 240, .ref q_1, .ref q_2, .ref q_3, .ref q_4, .ref q_5, .ref q_6, .ref q_7, .ref q_8, .null, .null])), (q_1, aI cs 24 (fun _ => 0)), (q_2, aI cs 24 (fun _ => 0)), (q_3, aI cs 24 (fun _ => 0)), (q_4, aI cs 240 (fun _ => 0)), (q_5, aI cs 240 (fun _ => 0)), (q_6, aI cs 240 (fun _ => 0)), (q_7, aI cs 240 (fun _ => 0)), (q_8, aI cs 240 (fun _ => 0)), (q_9, aI cs 240 (fun _ => 0))] := hD
  refine va_putF (D := D) (ci := 6) (v := .ref q_9) (ty := tyX6 15) (C := RX6) (T := TX6) (N := 17) hx hb hu in_X6 tyX6 tyX6_ok nmX6 hown hK.1 hP hD hS 0 rfl rfl 15 (by decide) (hu _ u_218) (fun _ h9 => h9) rfl hin rfl (tyX6_ok 15 (by decide)) rfl rfl (Nat.le_of_ble_eq_true rfl) dX6_init_91 (fun H locs hP hD hS => ?_)
  have hP : va_P D vwCl [(drp, .inr (6, [.int 0, .int 0, .int (-1), .int 0, .int 0, .int 0, .int 240, .ref q_1, .ref q_2, .ref q_3, .ref q_4, .ref q_5, .ref q_6, .ref q_7, .ref q_8, .ref q_9, .null])), (q_1, aI cs 24 (fun _ => 0)), (q_2, aI cs 24 (fun _ => 0)), (q_3, aI cs 24 (fun _ => 0)), (q_4, aI cs 240 (fun _ => 0)), (q_5, aI cs 240 (fun _ => 0)), (q_6, aI cs 240 (fun _ => 0)), (q_7, aI cs 240 (fun _ => 0)), (q_8, aI cs 240 (fun _ => 0)), (q_9, aI cs 240 (fun _ => 0))] H := hP
  have hD : va_D A [(drp, .inr (6, [.int 0, .int 0, .int (-1), .int 0, .int 0, .int 0, .int 240, .ref q_1, .ref q_2, .ref q_3, .ref q_4, .ref q_5, .ref q_6, .ref q_7, .ref q_8, .ref q_9, .null])), (q_1, aI cs 24 (fun _ => 0)), (q_2, aI cs 24 (fun _ => 0)), (q_3, aI cs 24 (fun _ => 0)), (q_4, aI cs 240 (fun _ => 0)), (q_5, aI cs 240 (fun _ => 0)), (q_6, aI cs 240 (fun _ => 0)), (q_7, aI cs 240 (fun _ => 0)), (q_8, aI cs 240 (fun _ => 0)), (q_9, aI cs 240 (fun _ => 0))] := hD
  refine lv_aload_n hx hb dX6_init_94 rfl (lv_at hl 0 rfl) ?_
  refine lv_sipush (v := 1536) hx hb dX6_init_95 (by decide) ?_
  refine knewa (k := 2) (atype := .byte) (ty := .byte) (Nn := 1536) (a0 := (1536, .inl (fun _ => 0))) hx hb hu u_255 rfl hK rfl (fun _ _ h => h) hP hD hS hA (fun _ => rfl) (by decide) (by decide) (Nat.le_of_ble_eq_true rfl) (Nat.le_of_ble_eq_true rfl) (Nat.le_of_ble_eq_true rfl) dX6_init_98 (fun q_10 H hP hD hS => ?_)
  have hP : va_P D vwCl [(drp, .inr (6, [.int 0, .int 0, .int (-1), .int 0, .int 0, .int 0, .int 240, .ref q_1, .ref q_2, .ref q_3, .ref q_4, .ref q_5, .ref q_6, .ref q_7, .ref q_8, .ref q_9, .null])), (q_1, aI cs 24 (fun _ => 0)), (q_2, aI cs 24 (fun _ => 0)), (q_3, aI cs 24 (fun _ => 0)), (q_4, aI cs 240 (fun _ => 0)), (q_5, aI cs 240 (fun _ => 0)), (q_6, aI cs 240 (fun _ => 0)), (q_7, aI cs 240 (fun _ => 0)), (q_8, aI cs 240 (fun _ => 0)), (q_9, aI cs 240 (fun _ => 0)), (q_10, aB cs 1536 (fun _ => 0))] H := hP
  have hD : va_D A [(drp, .inr (6, [.int 0, .int 0, .int (-1), .int 0, .int 0, .int 0, .int 240, .ref q_1, .ref q_2, .ref q_3, .ref q_4, .ref q_5, .ref q_6, .ref q_7, .ref q_8, .ref q_9, .null])), (q_1, aI cs 24 (fun _ => 0)), (q_2, aI cs 24 (fun _ => 0)), (q_3, aI cs 24 (fun _ => 0)), (q_4, aI cs 240 (fun _ => 0)), (q_5, aI cs 240 (fun _ => 0)), (q_6, aI cs 240 (fun _ => 0)), (q_7, aI cs 240 (fun _ => 0)), (q_8, aI cs 240 (fun _ => 0)), (q_9, aI cs 240 (fun _ => 0)), (q_10, aB cs 1536 (fun _ => 0))] := hD
  refine va_putF (D := D) (ci := 6) (v := .ref q_10) (ty := tyX6 16) (C := RX6) (T := TX6) (N := 17) hx hb hu in_X6 tyX6 tyX6_ok nmX6 hown hK.1 hP hD hS 0 rfl rfl 16 (by decide) (hu _ u_219) (fun _ h9 => h9) rfl hin rfl (tyX6_ok 16 (by decide)) rfl rfl (Nat.le_of_ble_eq_true rfl) dX6_init_100 (fun H locs hP hD hS => ?_)
  have hP : va_P D vwCl [(drp, .inr (6, [.int 0, .int 0, .int (-1), .int 0, .int 0, .int 0, .int 240, .ref q_1, .ref q_2, .ref q_3, .ref q_4, .ref q_5, .ref q_6, .ref q_7, .ref q_8, .ref q_9, .ref q_10])), (q_1, aI cs 24 (fun _ => 0)), (q_2, aI cs 24 (fun _ => 0)), (q_3, aI cs 24 (fun _ => 0)), (q_4, aI cs 240 (fun _ => 0)), (q_5, aI cs 240 (fun _ => 0)), (q_6, aI cs 240 (fun _ => 0)), (q_7, aI cs 240 (fun _ => 0)), (q_8, aI cs 240 (fun _ => 0)), (q_9, aI cs 240 (fun _ => 0)), (q_10, aB cs 1536 (fun _ => 0))] H := hP
  have hD : va_D A [(drp, .inr (6, [.int 0, .int 0, .int (-1), .int 0, .int 0, .int 0, .int 240, .ref q_1, .ref q_2, .ref q_3, .ref q_4, .ref q_5, .ref q_6, .ref q_7, .ref q_8, .ref q_9, .ref q_10])), (q_1, aI cs 24 (fun _ => 0)), (q_2, aI cs 24 (fun _ => 0)), (q_3, aI cs 24 (fun _ => 0)), (q_4, aI cs 240 (fun _ => 0)), (q_5, aI cs 240 (fun _ => 0)), (q_6, aI cs 240 (fun _ => 0)), (q_7, aI cs 240 (fun _ => 0)), (q_8, aI cs 240 (fun _ => 0)), (q_9, aI cs 240 (fun _ => 0)), (q_10, aB cs 1536 (fun _ => 0))] := hD
  refine lv_iconst (v := 0) hx hb dX6_init_103 (by decide) ?_
  refine lv_istore_n (lv' := [(1, .int 0), (0, .ref drp)]) hx hb dX6_init_104 rfl hl (by decide) rfl (fun ls hl => ?_)
  have lp_11 : ∀ (fuel : Nat) (i : Nat) (f : Nat → Int32) (hfuel : 240 < i + fuel) (hi : i ≤ 240) (hf : ∀ j, j < 240 → ¬ f j < 0 ∧ f j < 240) (H : Heap) (locs : List Loc) (hP : va_P D vwCl [(drp, .inr (6, [.int 0, .int 0, .int (-1), .int 0, .int 0, .int 0, .int 240, .ref q_1, .ref q_2, .ref q_3, .ref q_4, .ref q_5, .ref q_6, .ref q_7, .ref q_8, .ref q_9, .ref q_10])), (q_1, aI cs 24 (fun _ => 0)), (q_2, aI cs 24 (fun _ => 0)), (q_3, aI cs 24 (fun _ => 0)), (q_4, aI cs 240 (fun _ => 0)), (q_5, aI cs 240 (fun _ => 0)), (q_6, aI cs 240 f), (q_7, aI cs 240 (fun _ => 0)), (q_8, aI cs 240 (fun _ => 0)), (q_9, aI cs 240 (fun _ => 0)), (q_10, aB cs 1536 (fun _ => 0))] H) (hD : va_D A [(drp, .inr (6, [.int 0, .int 0, .int (-1), .int 0, .int 0, .int 0, .int 240, .ref q_1, .ref q_2, .ref q_3, .ref q_4, .ref q_5, .ref q_6, .ref q_7, .ref q_8, .ref q_9, .ref q_10])), (q_1, aI cs 24 (fun _ => 0)), (q_2, aI cs 24 (fun _ => 0)), (q_3, aI cs 24 (fun _ => 0)), (q_4, aI cs 240 (fun _ => 0)), (q_5, aI cs 240 (fun _ => 0)), (q_6, aI cs 240 f), (q_7, aI cs 240 (fun _ => 0)), (q_8, aI cs 240 (fun _ => 0)), (q_9, aI cs 240 (fun _ => 0)), (q_10, aB cs 1536 (fun _ => 0))]) (hS : va_S A s.heap H locs) (ls : Array Slot) (hl : lv_has ls 2 [(1, .int (nI i)), (0, .ref drp)]), W p l e rm_c_X6_init s m [.ref drp].toArray below meth c H locs 10 3048 Qz (F0 m 105 ls []) := by
    intro fuel
    induction fuel with
    | zero =>
      intro i f hfuel hi hf H locs hP hD hS ls hl
      exact absurd hfuel (by omega)
    | succ fuel ih =>
      intro i f hfuel hi hf H locs hP hD hS ls hl
      refine lv_iload_n hx hb dX6_init_105 rfl (lv_at hl 0 rfl) ?_
      refine lv_sipush (v := 240) hx hb dX6_init_106 (by decide) ?_
      refine lv_icmp_ge (tgt := 129) hx hb dX6_init_109 (by decide) (fun c_12 => ?_) (fun c_12 => ?_)
      · have gc_12 : 240 ≤ i := (nI_leI (a := 240) (b := i) (by omega) (by omega)).mp c_12
        exact hz ((fun k => match k with | 0 => q_1 | 1 => q_2 | 2 => q_3 | 3 => q_4 | 4 => q_5 | 5 => q_6 | 6 => q_7 | 7 => q_8 | 8 => q_9 | 9 => q_10 | _ => 0), (fun k => match k with | 0 => f | _ => fun _ => 0)) hP hD hS hf [0, 1, 2, 3, 4, 5, 6, 7, 8, 9, 10] rfl rfl (Nat.le_of_ble_eq_true rfl) (Nat.le_of_ble_eq_true rfl) rfl dX6_init_129
      · have gc_12 : ¬ 240 ≤ i := fun h => c_12 ((nI_leI (a := 240) (b := i) (by omega) (by omega)).mpr h)
        refine lv_aload_n hx hb dX6_init_112 rfl (lv_at hl 1 rfl) ?_
        refine va_get (D := D) (ci := 6) (v := .ref q_6) (C := RX6) (T := TX6) (N := 17) hx hb hu in_X6 hown hK.1 hP 0 rfl rfl 12 (by decide) (hu _ u_215) (fun _ h9 => h9) rfl dX6_init_113 ?_
        refine lv_iload_n hx hb dX6_init_116 rfl (lv_at hl 0 rfl) ?_
        refine lv_sipush (v := 239) hx hb dX6_init_117 (by decide) ?_
        refine lv_iload_n hx hb dX6_init_120 rfl (lv_at hl 0 rfl) ?_
        refine lv_isub hx hb dX6_init_121 ?_
        refine tpi (y := nI (239 - i)) (pk_sub (a := 239) (b := i) (by omega)) ?_
        refine va_iast hx hb hK.1 hP hD hS 6 0 rfl rfl (vp_in_nI (by omega) (by omega)) dX6_init_122 (fun H locs hP hD hS => ?_)
        have hP : va_P D vwCl [(drp, .inr (6, [.int 0, .int 0, .int (-1), .int 0, .int 0, .int 0, .int 240, .ref q_1, .ref q_2, .ref q_3, .ref q_4, .ref q_5, .ref q_6, .ref q_7, .ref q_8, .ref q_9, .ref q_10])), (q_1, aI cs 24 (fun _ => 0)), (q_2, aI cs 24 (fun _ => 0)), (q_3, aI cs 24 (fun _ => 0)), (q_4, aI cs 240 (fun _ => 0)), (q_5, aI cs 240 (fun _ => 0)), (q_6, aI cs 240 (upd f (nI i).toNatClampNeg (nI (239 - i)))), (q_7, aI cs 240 (fun _ => 0)), (q_8, aI cs 240 (fun _ => 0)), (q_9, aI cs 240 (fun _ => 0)), (q_10, aB cs 1536 (fun _ => 0))] H := hP
        have hD : va_D A [(drp, .inr (6, [.int 0, .int 0, .int (-1), .int 0, .int 0, .int 0, .int 240, .ref q_1, .ref q_2, .ref q_3, .ref q_4, .ref q_5, .ref q_6, .ref q_7, .ref q_8, .ref q_9, .ref q_10])), (q_1, aI cs 24 (fun _ => 0)), (q_2, aI cs 24 (fun _ => 0)), (q_3, aI cs 24 (fun _ => 0)), (q_4, aI cs 240 (fun _ => 0)), (q_5, aI cs 240 (fun _ => 0)), (q_6, aI cs 240 (upd f (nI i).toNatClampNeg (nI (239 - i)))), (q_7, aI cs 240 (fun _ => 0)), (q_8, aI cs 240 (fun _ => 0)), (q_9, aI cs 240 (fun _ => 0)), (q_10, aB cs 1536 (fun _ => 0))] := hD
        refine lv_iinc (v := nI (i + 1)) (lv' := [(1, .int (nI (i + 1))), (0, .ref drp)]) hx hb dX6_init_123 hl (k := 0) rfl (nI_1 _) (by decide) rfl (fun ls hl => ?_)
        refine lv_goto (tgt := 105) hx hb dX6_init_126 (by decide) ?_
        exact ih (i + 1) (upd f (nI i).toNatClampNeg (nI (239 - i))) (by omega) (by omega) (upd_all (P := fun v => ¬ v < 0 ∧ v < 240) hf ⟨nI_pos (by omega), (nI_ltI (b := 240) (by omega) (by omega)).mpr (by omega)⟩) H locs (hP.sub [0, 1, 2, 3, 4, 5, 6, 7, 8, 9, 10] rfl) (hD.sub [0, 1, 2, 3, 4, 5, 6, 7, 8, 9, 10] rfl rfl) hS ls (lv_sub hl [0, 1] rfl)
  exact lp_11 (240 + 1) 0 (fun _ => 0) (by omega) (by omega) (fun j hj => ⟨by decide, by decide⟩) H locs (hP.sub [0, 1, 2, 3, 4, 5, 6, 7, 8, 9, 10] rfl) (hD.sub [0, 1, 2, 3, 4, 5, 6, 7, 8, 9, 10] rfl rfl) hS ls (lv_sub hl [0, 1] rfl)
