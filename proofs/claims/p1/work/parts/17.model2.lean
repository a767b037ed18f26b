theorem u_1077 : Cond.methodLink "KeyDriveModel" 7 objectInit ∈ U0 := um 1077 (by decide +kernel) (by decide +kernel)
theorem u_1078 : Cond.constant "KeyDriveModel" 13 51207 ∈ U0 := um 1078 (by decide +kernel) (by decide +kernel)
theorem u_1079 : Cond.constant "KeyDriveModel" 18 170690 ∈ U0 := um 1079 (by decide +kernel) (by decide +kernel)
theorem u_1085 : Cond.fieldLink "KeyDriveModel" 25 "KeyDriveModel" "hasImage" "[Z" ∈ U0 := um 1085 (by decide +kernel) (by decide +kernel)
theorem u_1086 : Cond.fieldLink "KeyDriveModel" 29 "KeyDriveModel" "tape" "[I" ∈ U0 := um 1086 (by decide +kernel) (by decide +kernel)
theorem u_1087 : Cond.fieldLink "KeyDriveModel" 32 "KeyDriveModel" "key" "[I" ∈ U0 := um 1087 (by decide +kernel) (by decide +kernel)
theorem u_1088 : Cond.fieldLink "KeyDriveModel" 35 "KeyDriveModel" "answered" "[I" ∈ U0 := um 1088 (by decide +kernel) (by decide +kernel)
theorem u_1092 : Cond.fieldLink "KeyDriveModel" 38 "KeyDriveModel" "goes" "[Z" ∈ U0 := um 1092 (by decide +kernel) (by decide +kernel)
theorem u_1094 : Cond.fieldLink "KeyDriveModel" 41 "KeyDriveModel" "hotOnes" "[I" ∈ U0 := um 1094 (by decide +kernel) (by decide +kernel)
theorem u_1095 : Cond.fieldLink "KeyDriveModel" 44 "KeyDriveModel" "indexed" "[I" ∈ U0 := um 1095 (by decide +kernel) (by decide +kernel)
theorem u_1096 : Cond.fieldLink "KeyDriveModel" 47 "KeyDriveModel" "isChanged" "[Z" ∈ U0 := um 1096 (by decide +kernel) (by decide +kernel)
theorem u_1098 : Cond.fieldLink "KeyDriveModel" 50 "KeyDriveModel" "valueNow" "[I" ∈ U0 := um 1098 (by decide +kernel) (by decide +kernel)
theorem u_1100 : Cond.fieldLink "KeyDriveModel" 53 "KeyDriveModel" "wrongAt" "I" ∈ U0 := um 1100 (by decide +kernel) (by decide +kernel)
theorem u_1102 : Cond.fieldLink "KeyDriveModel" 56 "KeyDriveModel" "didSome" "[Z" ∈ U0 := um 1102 (by decide +kernel) (by decide +kernel)
theorem u_1103 : Cond.fieldLink "KeyDriveModel" 59 "KeyDriveModel" "sizes" "[I" ∈ U0 := um 1103 (by decide +kernel) (by decide +kernel)
theorem u_1104 : Cond.fieldLink "KeyDriveModel" 62 "KeyDriveModel" "ends" "[I" ∈ U0 := um 1104 (by decide +kernel) (by decide +kernel)
theorem u_1264 : Cond.code yX9_drops prog_11_method_24_code 7 (some .int) ∈ U0 := um 1264 (by decide +kernel) (by decide +kernel)
theorem u_1261 : Cond.methodLink "KeyDriveModel" 171 yX9_drops ∈ U0 := um 1261 (by decide +kernel) (by decide +kernel)
theorem u_1263 : Cond.instanceMethod yX9_drops ∈ U0 := um 1263 (by decide +kernel) (by decide +kernel)
theorem u_31 : Cond.selects "KeyDriveModel" yX9_drops yX9_drops ∈ U0 := um 31 (by decide +kernel) (by decide +kernel)
theorem u_1195 : Cond.code yX9_freeMany prog_11_method_28_code 3 (some .int) ∈ U0 := um 1195 (by decide +kernel) (by decide +kernel)
theorem u_1192 : Cond.methodLink "KeyDriveModel" 132 yX9_freeMany ∈ U0 := um 1192 (by decide +kernel) (by decide +kernel)
theorem u_1194 : Cond.instanceMethod yX9_freeMany ∈ U0 := um 1194 (by decide +kernel) (by decide +kernel)
theorem u_14 : Cond.selects "KeyDriveModel" yX9_freeMany yX9_freeMany ∈ U0 := um 14 (by decide +kernel) (by decide +kernel)
theorem u_1093 : Cond.fieldLink "KeyDriveModel" 145 "KeyDriveModel" "sweptNow" "I" ∈ U0 := um 1093 (by decide +kernel) (by decide +kernel)
theorem u_1187 : Cond.code yX9_placeFor prog_11_method_31_code 6 (some .int) ∈ U0 := um 1187 (by decide +kernel) (by decide +kernel)
theorem u_1184 : Cond.methodLink "KeyDriveModel" 138 yX9_placeFor ∈ U0 := um 1184 (by decide +kernel) (by decide +kernel)
theorem u_1186 : Cond.instanceMethod yX9_placeFor ∈ U0 := um 1186 (by decide +kernel) (by decide +kernel)
theorem u_12 : Cond.selects "KeyDriveModel" yX9_placeFor yX9_placeFor ∈ U0 := um 12 (by decide +kernel) (by decide +kernel)
theorem dX9_init_0 : decode cX9_init 0 = .ok (.aload_n 0, 1) := by decide +kernel
theorem dX9_init_1 : decode cX9_init 1 = .ok (.invokespecial 7, 3) := by decide +kernel
theorem dX9_init_4 : decode cX9_init 4 = .ok (.aload_n 0, 1) := by decide +kernel
theorem dX9_init_5 : decode cX9_init 5 = .ok (.ldc 13, 2) := by decide +kernel
theorem dX9_init_7 : decode cX9_init 7 = .ok (.newarray .int, 2) := by decide +kernel
theorem dX9_init_9 : decode cX9_init 9 = .ok (.putfield 14, 3) := by decide +kernel
theorem dX9_init_12 : decode cX9_init 12 = .ok (.aload_n 0, 1) := by decide +kernel
theorem dX9_init_13 : decode cX9_init 13 = .ok (.ldc 18, 2) := by decide +kernel
theorem dX9_init_15 : decode cX9_init 15 = .ok (.newarray .int, 2) := by decide +kernel
theorem dX9_init_17 : decode cX9_init 17 = .ok (.putfield 19, 3) := by decide +kernel
theorem dX9_init_20 : decode cX9_init 20 = .ok (.aload_n 0, 1) := by decide +kernel
theorem dX9_init_21 : decode cX9_init 21 = .ok (.sipush 17069, 3) := by decide +kernel
theorem dX9_init_24 : decode cX9_init 24 = .ok (.newarray .int, 2) := by decide +kernel
theorem dX9_init_26 : decode cX9_init 26 = .ok (.putfield 22, 3) := by decide +kernel
theorem dX9_init_29 : decode cX9_init 29 = .ok (.aload_n 0, 1) := by decide +kernel
theorem dX9_init_30 : decode cX9_init 30 = .ok (.iconst 2, 1) := by decide +kernel
theorem dX9_init_31 : decode cX9_init 31 = .ok (.newarray .boolean, 2) := by decide +kernel
theorem dX9_init_33 : decode cX9_init 33 = .ok (.putfield 25, 3) := by decide +kernel
theorem dX9_init_36 : decode cX9_init 36 = .ok (.aload_n 0, 1) := by decide +kernel
theorem dX9_init_37 : decode cX9_init 37 = .ok (.bipush 60, 2) := by decide +kernel
theorem dX9_init_39 : decode cX9_init 39 = .ok (.newarray .int, 2) := by decide +kernel
theorem dX9_init_41 : decode cX9_init 41 = .ok (.putfield 29, 3) := by decide +kernel
theorem dX9_init_44 : decode cX9_init 44 = .ok (.aload_n 0, 1) := by decide +kernel
theorem dX9_init_45 : decode cX9_init 45 = .ok (.bipush 8, 2) := by decide +kernel
theorem dX9_init_47 : decode cX9_init 47 = .ok (.newarray .int, 2) := by decide +kernel
theorem dX9_init_49 : decode cX9_init 49 = .ok (.putfield 32, 3) := by decide +kernel
theorem dX9_init_52 : decode cX9_init 52 = .ok (.aload_n 0, 1) := by decide +kernel
theorem dX9_init_53 : decode cX9_init 53 = .ok (.bipush 40, 2) := by decide +kernel
theorem dX9_init_55 : decode cX9_init 55 = .ok (.newarray .int, 2) := by decide +kernel
theorem dX9_init_57 : decode cX9_init 57 = .ok (.putfield 35, 3) := by decide +kernel
theorem dX9_init_60 : decode cX9_init 60 = .ok (.aload_n 0, 1) := by decide +kernel
theorem dX9_init_61 : decode cX9_init 61 = .ok (.sipush 1930, 3) := by decide +kernel
theorem dX9_init_64 : decode cX9_init 64 = .ok (.newarray .boolean, 2) := by decide +kernel
theorem dX9_init_66 : decode cX9_init 66 = .ok (.putfield 38, 3) := by decide +kernel
theorem dX9_init_69 : decode cX9_init 69 = .ok (.aload_n 0, 1) := by decide +kernel
theorem dX9_init_70 : decode cX9_init 70 = .ok (.iconst 4, 1) := by decide +kernel
theorem dX9_init_71 : decode cX9_init 71 = .ok (.newarray .int, 2) := by decide +kernel
theorem dX9_init_73 : decode cX9_init 73 = .ok (.putfield 41, 3) := by decide +kernel
theorem dX9_init_76 : decode cX9_init 76 = .ok (.aload_n 0, 1) := by decide +kernel
theorem dX9_init_77 : decode cX9_init 77 = .ok (.iconst 3, 1) := by decide +kernel
theorem dX9_init_78 : decode cX9_init 78 = .ok (.newarray .int, 2) := by decide +kernel
theorem dX9_init_80 : decode cX9_init 80 = .ok (.putfield 44, 3) := by decide +kernel
theorem dX9_init_83 : decode cX9_init 83 = .ok (.aload_n 0, 1) := by decide +kernel
theorem dX9_init_84 : decode cX9_init 84 = .ok (.bipush 8, 2) := by decide +kernel
theorem dX9_init_86 : decode cX9_init 86 = .ok (.newarray .boolean, 2) := by decide +kernel
theorem dX9_init_88 : decode cX9_init 88 = .ok (.putfield 47, 3) := by decide +kernel
theorem dX9_init_91 : decode cX9_init 91 = .ok (.aload_n 0, 1) := by decide +kernel
theorem dX9_init_92 : decode cX9_init 92 = .ok (.bipush 40, 2) := by decide +kernel
theorem dX9_init_94 : decode cX9_init 94 = .ok (.newarray .int, 2) := by decide +kernel
theorem dX9_init_96 : decode cX9_init 96 = .ok (.putfield 50, 3) := by decide +kernel
theorem dX9_init_99 : decode cX9_init 99 = .ok (.aload_n 0, 1) := by decide +kernel
theorem dX9_init_100 : decode cX9_init 100 = .ok (.iconst (-1), 1) := by decide +kernel
theorem dX9_init_101 : decode cX9_init 101 = .ok (.putfield 53, 3) := by decide +kernel
theorem dX9_init_104 : decode cX9_init 104 = .ok (.aload_n 0, 1) := by decide +kernel
theorem dX9_init_105 : decode cX9_init 105 = .ok (.bipush 20, 2) := by decide +kernel
theorem dX9_init_107 : decode cX9_init 107 = .ok (.newarray .boolean, 2) := by decide +kernel
theorem dX9_init_109 : decode cX9_init 109 = .ok (.putfield 56, 3) := by decide +kernel
theorem dX9_init_112 : decode cX9_init 112 = .ok (.aload_n 0, 1) := by decide +kernel
theorem dX9_init_113 : decode cX9_init 113 = .ok (.sipush 240, 3) := by decide +kernel
theorem dX9_init_116 : decode cX9_init 116 = .ok (.newarray .int, 2) := by decide +kernel
theorem dX9_init_118 : decode cX9_init 118 = .ok (.putfield 59, 3) := by decide +kernel
theorem dX9_init_121 : decode cX9_init 121 = .ok (.aload_n 0, 1) := by decide +kernel
theorem dX9_init_122 : decode cX9_init 122 = .ok (.sipush 240, 3) := by decide +kernel
theorem dX9_init_125 : decode cX9_init 125 = .ok (.newarray .int, 2) := by decide +kernel
theorem dX9_init_127 : decode cX9_init 127 = .ok (.putfield 62, 3) := by decide +kernel
theorem dX9_init_130 : decode cX9_init 130 = .ok (.aload_n 0, 1) := by decide +kernel
theorem dX9_init_131 : decode cX9_init 131 = .ok (.getfield 14, 3) := by decide +kernel
theorem dX9_init_134 : decode cX9_init 134 = .ok (.iconst 1, 1) := by decide +kernel
theorem dX9_init_135 : decode cX9_init 135 = .ok (.iconst (-1), 1) := by decide +kernel
theorem dX9_init_136 : decode cX9_init 136 = .ok (.iastore, 1) := by decide +kernel
theorem dX9_init_137 : decode cX9_init 137 = .ok (.iconst 0, 1) := by decide +kernel
theorem dX9_init_138 : decode cX9_init 138 = .ok (.istore_n 1, 1) := by decide +kernel
theorem dX9_init_139 : decode cX9_init 139 = .ok (.iload_n 1, 1) := by decide +kernel
theorem dX9_init_140 : decode cX9_init 140 = .ok (.iconst 4, 1) := by decide +kernel
theorem dX9_init_141 : decode cX9_init 141 = .ok (.if_icmp .ge 19, 3) := by decide +kernel
theorem dX9_init_144 : decode cX9_init 144 = .ok (.aload_n 0, 1) := by decide +kernel
theorem dX9_init_145 : decode cX9_init 145 = .ok (.getfield 14, 3) := by decide +kernel
theorem dX9_init_148 : decode cX9_init 148 = .ok (.bipush 55, 2) := by decide +kernel
theorem dX9_init_150 : decode cX9_init 150 = .ok (.iload_n 1, 1) := by decide +kernel
theorem dX9_init_151 : decode cX9_init 151 = .ok (.iadd, 1) := by decide +kernel
theorem dX9_init_152 : decode cX9_init 152 = .ok (.iconst (-1), 1) := by decide +kernel
theorem dX9_init_153 : decode cX9_init 153 = .ok (.iastore, 1) := by decide +kernel
theorem dX9_init_154 : decode cX9_init 154 = .ok (.iinc 1 1, 3) := by decide +kernel
theorem dX9_init_157 : decode cX9_init 157 = .ok (.goto (-18), 3) := by decide +kernel
theorem dX9_init_160 : decode cX9_init 160 = .ok (.iconst 0, 1) := by decide +kernel
theorem dX9_init_161 : decode cX9_init 161 = .ok (.istore_n 1, 1) := by decide +kernel
theorem dX9_init_162 : decode cX9_init 162 = .ok (.iload_n 1, 1) := by decide +kernel
theorem dX9_init_163 : decode cX9_init 163 = .ok (.iconst 3, 1) := by decide +kernel
theorem dX9_init_164 : decode cX9_init 164 = .ok (.if_icmp .ge 24, 3) := by decide +kernel
theorem dX9_init_167 : decode cX9_init 167 = .ok (.aload_n 0, 1) := by decide +kernel
theorem dX9_init_168 : decode cX9_init 168 = .ok (.getfield 14, 3) := by decide +kernel
theorem dX9_init_171 : decode cX9_init 171 = .ok (.bipush 59, 2) := by decide +kernel
theorem dX9_init_173 : decode cX9_init 173 = .ok (.bipush 11, 2) := by decide +kernel
theorem dX9_init_175 : decode cX9_init 175 = .ok (.iload_n 1, 1) := by decide +kernel
theorem dX9_init_176 : decode cX9_init 176 = .ok (.imul, 1) := by decide +kernel
theorem dX9_init_177 : decode cX9_init 177 = .ok (.iadd, 1) := by decide +kernel
theorem dX9_init_178 : decode cX9_init 178 = .ok (.iconst 0, 1) := by decide +kernel
theorem dX9_init_179 : decode cX9_init 179 = .ok (.iadd, 1) := by decide +kernel
theorem dX9_init_180 : decode cX9_init 180 = .ok (.iconst (-1), 1) := by decide +kernel
theorem dX9_init_181 : decode cX9_init 181 = .ok (.iastore, 1) := by decide +kernel
theorem dX9_init_182 : decode cX9_init 182 = .ok (.iinc 1 1, 3) := by decide +kernel
theorem dX9_init_185 : decode cX9_init 185 = .ok (.goto (-23), 3) := by decide +kernel
theorem dX9_init_188 : decode cX9_init 188 = .ok (.return_, 1) := by decide +kernel
theorem dX9_leftOf_0 : decode cX9_leftOf 0 = .ok (.iconst 0, 1) := by decide +kernel
theorem dX9_leftOf_1 : decode cX9_leftOf 1 = .ok (.istore_n 2, 1) := by decide +kernel
theorem dX9_leftOf_2 : decode cX9_leftOf 2 = .ok (.iconst 0, 1) := by decide +kernel
theorem dX9_leftOf_3 : decode cX9_leftOf 3 = .ok (.istore_n 3, 1) := by decide +kernel
theorem dX9_leftOf_4 : decode cX9_leftOf 4 = .ok (.iload_n 3, 1) := by decide +kernel
theorem dX9_leftOf_5 : decode cX9_leftOf 5 = .ok (.aload_n 0, 1) := by decide +kernel
theorem dX9_leftOf_6 : decode cX9_leftOf 6 = .ok (.getfield 14, 3) := by decide +kernel
theorem dX9_leftOf_9 : decode cX9_leftOf 9 = .ok (.sipush 1628, 3) := by decide +kernel
theorem dX9_leftOf_12 : decode cX9_leftOf 12 = .ok (.iaload, 1) := by decide +kernel
theorem dX9_leftOf_13 : decode cX9_leftOf 13 = .ok (.if_icmp .ge 26, 3) := by decide +kernel
theorem dX9_leftOf_39 : decode cX9_leftOf 39 = .ok (.iload_n 2, 1) := by decide +kernel
theorem dX9_leftOf_40 : decode cX9_leftOf 40 = .ok (.aload_n 0, 1) := by decide +kernel
theorem dX9_leftOf_41 : decode cX9_leftOf 41 = .ok (.getfield 14, 3) := by decide +kernel
theorem dX9_leftOf_44 : decode cX9_leftOf 44 = .ok (.bipush 59, 2) := by decide +kernel
theorem dX9_leftOf_46 : decode cX9_leftOf 46 = .ok (.bipush 11, 2) := by decide +kernel
theorem dX9_leftOf_48 : decode cX9_leftOf 48 = .ok (.iload_n 1, 1) := by decide +kernel
theorem dX9_leftOf_49 : decode cX9_leftOf 49 = .ok (.imul, 1) := by decide +kernel
theorem dX9_leftOf_50 : decode cX9_leftOf 50 = .ok (.iadd, 1) := by decide +kernel
theorem dX9_leftOf_51 : decode cX9_leftOf 51 = .ok (.bipush 10, 2) := by decide +kernel
theorem dX9_leftOf_53 : decode cX9_leftOf 53 = .ok (.iadd, 1) := by decide +kernel
theorem dX9_leftOf_54 : decode cX9_leftOf 54 = .ok (.iaload, 1) := by decide +kernel
theorem dX9_leftOf_55 : decode cX9_leftOf 55 = .ok (.isub, 1) := by decide +kernel
theorem dX9_leftOf_56 : decode cX9_leftOf 56 = .ok (.ireturn, 1) := by decide +kernel
theorem dX9_closes_0 : decode cX9_closes 0 = .ok (.bipush 59, 2) := by decide +kernel
theorem dX9_closes_2 : decode cX9_closes 2 = .ok (.bipush 11, 2) := by decide +kernel
theorem dX9_closes_4 : decode cX9_closes 4 = .ok (.iload_n 1, 1) := by decide +kernel
theorem dX9_closes_5 : decode cX9_closes 5 = .ok (.imul, 1) := by decide +kernel
theorem dX9_closes_6 : decode cX9_closes 6 = .ok (.iadd, 1) := by decide +kernel
theorem dX9_closes_7 : decode cX9_closes 7 = .ok (.istore_n 2, 1) := by decide +kernel
theorem dX9_closes_8 : decode cX9_closes 8 = .ok (.iconst 0, 1) := by decide +kernel
theorem dX9_closes_9 : decode cX9_closes 9 = .ok (.istore_n 3, 1) := by decide +kernel
theorem dX9_closes_10 : decode cX9_closes 10 = .ok (.iload_n 3, 1) := by decide +kernel
theorem dX9_closes_11 : decode cX9_closes 11 = .ok (.bipush 11, 2) := by decide +kernel
theorem dX9_closes_13 : decode cX9_closes 13 = .ok (.if_icmp .ge 18, 3) := by decide +kernel
theorem dX9_closes_16 : decode cX9_closes 16 = .ok (.aload_n 0, 1) := by decide +kernel
theorem dX9_closes_17 : decode cX9_closes 17 = .ok (.getfield 14, 3) := by decide +kernel
theorem dX9_closes_20 : decode cX9_closes 20 = .ok (.iload_n 2, 1) := by decide +kernel
theorem dX9_closes_21 : decode cX9_closes 21 = .ok (.iload_n 3, 1) := by decide +kernel
theorem dX9_closes_22 : decode cX9_closes 22 = .ok (.iadd, 1) := by decide +kernel
theorem dX9_closes_23 : decode cX9_closes 23 = .ok (.iconst 0, 1) := by decide +kernel
theorem dX9_closes_24 : decode cX9_closes 24 = .ok (.iastore, 1) := by decide +kernel
theorem dX9_closes_25 : decode cX9_closes 25 = .ok (.iinc 3 1, 3) := by decide +kernel
theorem dX9_closes_28 : decode cX9_closes 28 = .ok (.goto (-18), 3) := by decide +kernel
theorem dX9_closes_31 : decode cX9_closes 31 = .ok (.aload_n 0, 1) := by decide +kernel
theorem dX9_closes_32 : decode cX9_closes 32 = .ok (.getfield 14, 3) := by decide +kernel
theorem dX9_closes_35 : decode cX9_closes 35 = .ok (.iload_n 2, 1) := by decide +kernel
theorem dX9_closes_36 : decode cX9_closes 36 = .ok (.iconst 0, 1) := by decide +kernel
theorem dX9_closes_37 : decode cX9_closes 37 = .ok (.iadd, 1) := by decide +kernel
theorem dX9_closes_38 : decode cX9_closes 38 = .ok (.iconst (-1), 1) := by decide +kernel
theorem dX9_closes_39 : decode cX9_closes 39 = .ok (.iastore, 1) := by decide +kernel
theorem dX9_closes_40 : decode cX9_closes 40 = .ok (.aload_n 0, 1) := by decide +kernel
theorem dX9_closes_41 : decode cX9_closes 41 = .ok (.invokevirtual 171, 3) := by decide +kernel
theorem dX9_closes_44 : decode cX9_closes 44 = .ok (.ireturn, 1) := by decide +kernel
theorem dX9_placeFor_0 : decode cX9_placeFor 0 = .ok (.iconst (-1), 1) := by decide +kernel
theorem dX9_placeFor_1 : decode cX9_placeFor 1 = .ok (.istore 4, 2) := by decide +kernel
theorem dX9_placeFor_3 : decode cX9_placeFor 3 = .ok (.iconst 0, 1) := by decide +kernel
theorem dX9_placeFor_4 : decode cX9_placeFor 4 = .ok (.istore 5, 2) := by decide +kernel
theorem dX9_placeFor_6 : decode cX9_placeFor 6 = .ok (.iload 5, 2) := by decide +kernel
theorem dX9_placeFor_8 : decode cX9_placeFor 8 = .ok (.bipush 24, 2) := by decide +kernel
theorem dX9_placeFor_10 : decode cX9_placeFor 10 = .ok (.if_icmp .ge 110, 3) := by decide +kernel
theorem dX9_placeFor_13 : decode cX9_placeFor 13 = .ok (.iload 5, 2) := by decide +kernel
theorem dX9_placeFor_15 : decode cX9_placeFor 15 = .ok (.iload_n 2, 1) := by decide +kernel
theorem dX9_placeFor_16 : decode cX9_placeFor 16 = .ok (.if_icmp .eq 98, 3) := by decide +kernel
theorem dX9_placeFor_19 : decode cX9_placeFor 19 = .ok (.aload_n 0, 1) := by decide +kernel
theorem dX9_placeFor_20 : decode cX9_placeFor 20 = .ok (.iload 5, 2) := by decide +kernel
theorem dX9_placeFor_22 : decode cX9_placeFor 22 = .ok (.invokevirtual 126, 3) := by decide +kernel
theorem dX9_placeFor_25 : decode cX9_placeFor 25 = .ok (.ifCond .ne 89, 3) := by decide +kernel
theorem dX9_placeFor_114 : decode cX9_placeFor 114 = .ok (.iinc 5 1, 3) := by decide +kernel
theorem dX9_placeFor_117 : decode cX9_placeFor 117 = .ok (.goto (-111), 3) := by decide +kernel
theorem dX9_placeFor_120 : decode cX9_placeFor 120 = .ok (.iload 4, 2) := by decide +kernel
theorem dX9_placeFor_122 : decode cX9_placeFor 122 = .ok (.iconst (-1), 1) := by decide +kernel
theorem dX9_placeFor_123 : decode cX9_placeFor 123 = .ok (.if_icmp .ne 11, 3) := by decide +kernel
theorem dX9_placeFor_126 : decode cX9_placeFor 126 = .ok (.aload_n 0, 1) := by decide +kernel
theorem dX9_placeFor_127 : decode cX9_placeFor 127 = .ok (.invokevirtual 132, 3) := by decide +kernel
theorem dX9_placeFor_130 : decode cX9_placeFor 130 = .ok (.iload_n 3, 1) := by decide +kernel
theorem dX9_placeFor_131 : decode cX9_placeFor 131 = .ok (.if_icmp .ge 6, 3) := by decide +kernel
theorem dX9_placeFor_137 : decode cX9_placeFor 137 = .ok (.iconst 0, 1) := by decide +kernel
theorem dX9_placeFor_138 : decode cX9_placeFor 138 = .ok (.istore 5, 2) := by decide +kernel
theorem dX9_placeFor_140 : decode cX9_placeFor 140 = .ok (.iload 5, 2) := by decide +kernel
theorem dX9_placeFor_142 : decode cX9_placeFor 142 = .ok (.bipush 24, 2) := by decide +kernel
theorem dX9_placeFor_144 : decode cX9_placeFor 144 = .ok (.if_icmp .ge 57, 3) := by decide +kernel
theorem dX9_placeFor_147 : decode cX9_placeFor 147 = .ok (.aload_n 0, 1) := by decide +kernel
theorem dX9_placeFor_148 : decode cX9_placeFor 148 = .ok (.iload 5, 2) := by decide +kernel
theorem dX9_placeFor_150 : decode cX9_placeFor 150 = .ok (.invokevirtual 126, 3) := by decide +kernel
theorem dX9_placeFor_153 : decode cX9_placeFor 153 = .ok (.ifCond .eq 42, 3) := by decide +kernel
theorem dX9_placeFor_156 : decode cX9_placeFor 156 = .ok (.iload 5, 2) := by decide +kernel
theorem dX9_placeFor_158 : decode cX9_placeFor 158 = .ok (.iload_n 2, 1) := by decide +kernel
theorem dX9_placeFor_159 : decode cX9_placeFor 159 = .ok (.if_icmp .eq 36, 3) := by decide +kernel
theorem dX9_placeFor_162 : decode cX9_placeFor 162 = .ok (.iload 4, 2) := by decide +kernel
theorem dX9_placeFor_164 : decode cX9_placeFor 164 = .ok (.iconst (-1), 1) := by decide +kernel
theorem dX9_placeFor_165 : decode cX9_placeFor 165 = .ok (.if_icmp .eq 26, 3) := by decide +kernel
theorem dX9_placeFor_168 : decode cX9_placeFor 168 = .ok (.aload_n 0, 1) := by decide +kernel
theorem dX9_placeFor_169 : decode cX9_placeFor 169 = .ok (.getfield 14, 3) := by decide +kernel
theorem dX9_placeFor_172 : decode cX9_placeFor 172 = .ok (.bipush 31, 2) := by decide +kernel
theorem dX9_placeFor_174 : decode cX9_placeFor 174 = .ok (.iload 5, 2) := by decide +kernel
theorem dX9_placeFor_176 : decode cX9_placeFor 176 = .ok (.iadd, 1) := by decide +kernel
theorem dX9_placeFor_177 : decode cX9_placeFor 177 = .ok (.iaload, 1) := by decide +kernel
theorem dX9_placeFor_178 : decode cX9_placeFor 178 = .ok (.aload_n 0, 1) := by decide +kernel
theorem dX9_placeFor_179 : decode cX9_placeFor 179 = .ok (.getfield 14, 3) := by decide +kernel
theorem dX9_placeFor_182 : decode cX9_placeFor 182 = .ok (.bipush 31, 2) := by decide +kernel
theorem dX9_placeFor_184 : decode cX9_placeFor 184 = .ok (.iload 4, 2) := by decide +kernel
theorem dX9_placeFor_186 : decode cX9_placeFor 186 = .ok (.iadd, 1) := by decide +kernel
theorem dX9_placeFor_187 : decode cX9_placeFor 187 = .ok (.iaload, 1) := by decide +kernel
theorem dX9_placeFor_188 : decode cX9_placeFor 188 = .ok (.if_icmp .ge 7, 3) := by decide +kernel
theorem dX9_placeFor_191 : decode cX9_placeFor 191 = .ok (.iload 5, 2) := by decide +kernel
theorem dX9_placeFor_193 : decode cX9_placeFor 193 = .ok (.istore 4, 2) := by decide +kernel
theorem dX9_placeFor_195 : decode cX9_placeFor 195 = .ok (.iinc 5 1, 3) := by decide +kernel
theorem dX9_placeFor_198 : decode cX9_placeFor 198 = .ok (.goto (-58), 3) := by decide +kernel
theorem dX9_placeFor_201 : decode cX9_placeFor 201 = .ok (.iload 4, 2) := by decide +kernel
theorem dX9_placeFor_203 : decode cX9_placeFor 203 = .ok (.ireturn, 1) := by decide +kernel
theorem dX9_makesPlace_0 : decode cX9_makesPlace 0 = .ok (.aload_n 0, 1) := by decide +kernel
theorem dX9_makesPlace_1 : decode cX9_makesPlace 1 = .ok (.iconst 0, 1) := by decide +kernel
theorem dX9_makesPlace_2 : decode cX9_makesPlace 2 = .ok (.putfield 145, 3) := by decide +kernel
theorem dX9_makesPlace_5 : decode cX9_makesPlace 5 = .ok (.aload_n 0, 1) := by decide +kernel
theorem dX9_makesPlace_6 : decode cX9_makesPlace 6 = .ok (.iload_n 1, 1) := by decide +kernel
theorem dX9_makesPlace_7 : decode cX9_makesPlace 7 = .ok (.iconst (-1), 1) := by decide +kernel
theorem dX9_makesPlace_8 : decode cX9_makesPlace 8 = .ok (.iconst 2, 1) := by decide +kernel
theorem dX9_makesPlace_9 : decode cX9_makesPlace 9 = .ok (.invokevirtual 138, 3) := by decide +kernel
theorem dX9_makesPlace_12 : decode cX9_makesPlace 12 = .ok (.istore_n 2, 1) := by decide +kernel
theorem dX9_makesPlace_13 : decode cX9_makesPlace 13 = .ok (.iload_n 2, 1) := by decide +kernel
theorem dX9_makesPlace_14 : decode cX9_makesPlace 14 = .ok (.iconst (-1), 1) := by decide +kernel
theorem dX9_makesPlace_15 : decode cX9_makesPlace 15 = .ok (.if_icmp .ne 48, 3) := by decide +kernel
theorem dX9_makesPlace_63 : decode cX9_makesPlace 63 = .ok (.iload_n 2, 1) := by decide +kernel
theorem dX9_makesPlace_64 : decode cX9_makesPlace 64 = .ok (.ireturn, 1) := by decide +kernel
theorem hd_X9_drops : yX9_drops.cls = RX9 ∧ yX9_drops.cls ≠ "java/lang/invoke/MethodHandle" ∧ yX9_drops.cls ≠ "java/lang/invoke/VarHandle" ∧ (parseMethodDescriptor yX9_drops.desc).map (fun d => d.parameters.length) = some 0 := by decide +kernel
theorem hd_X9_freeMany : yX9_freeMany.cls = RX9 ∧ yX9_freeMany.cls ≠ "java/lang/invoke/MethodHandle" ∧ yX9_freeMany.cls ≠ "java/lang/invoke/VarHandle" ∧ (parseMethodDescriptor yX9_freeMany.desc).map (fun d => d.parameters.length) = some 0 := by decide +kernel
theorem hd_X9_placeFor : yX9_placeFor.cls = RX9 ∧ yX9_placeFor.cls ≠ "java/lang/invoke/MethodHandle" ∧ yX9_placeFor.cls ≠ "java/lang/invoke/VarHandle" ∧ (parseMethodDescriptor yX9_placeFor.desc).map (fun d => d.parameters.length) = some 3 := by decide +kernel
theorem upd_ALx {f : Nat → Int32} {n k : Nat} {x : Int32} (h : ∀ j, j < n → f j = AL j) : ∀ j, j < n → j ≠ k → upd f k x j = AL j := by
  intro j hj hk
  rw [pk_un hk]; exact h j hj
theorem upd_ALy {f : Nat → Int32} {n k b : Nat} {x : Int32} (h : ∀ j, j < n → j ≠ b → f j = AL j) (hx : AL k = x) : ∀ j, j < n → j ≠ b → upd f k x j = AL j := by
  intro j hj hb
  by_cases e : j = k
  · subst e; rw [pk_us]; exact hx.symm
  · rw [pk_un e]; exact h j hj hb
theorem upd_ALb {f : Nat → Int32} {n k : Nat} {x : Int32} (h : ∀ j, j < n → j ≠ k → f j = AL j) (hx : AL k = x) : ∀ j, j < n → upd f k x j = AL j := by
  intro j hj
  by_cases e : j = k
  · subst e; rw [pk_us]; exact hx.symm
  · rw [pk_un e]; exact h j hj e
theorem AL_made (j : Nat) : upd (upd (upd (upd (upd (upd (upd (upd (fun _ => 0) (1 : Int32).toNatClampNeg (-1)) (55 : Int32).toNatClampNeg (-1)) (56 : Int32).toNatClampNeg (-1)) (57 : Int32).toNatClampNeg (-1)) (58 : Int32).toNatClampNeg (-1)) (59 : Int32).toNatClampNeg (-1)) (70 : Int32).toNatClampNeg (-1)) (81 : Int32).toNatClampNeg (-1) j = AL j := by
  show upd (upd (upd (upd (upd (upd (upd (upd (fun _ => 0) 1 (-1)) 55 (-1)) 56 (-1)) 57 (-1)) 58 (-1)) 59 (-1)) 70 (-1)) 81 (-1) j = AL j
  unfold AL upd
  grind

abbrev rm_c_X9_init : Room := { frames := 1, cells := 15, slots := 241561, locals := 12 }
set_option maxHeartbeats 4000000 in
set_option maxRecDepth 100000 in
theorem c_X9_init (l : Launch) (D : va_G) (cs : Nat → ClassId) (sz : Nat) (md : Nat)  : cMv l yX9_init (Cond.code yX9_init cX9_init 2 none) (rm_c_X9_init) D cs [.ref md] sz [(md, .inr (9, [.int 0, .null, .null, .null, .int 0, .null, .null, .null, .null, .int 0, .int 0, .int 0, .null, .int 0, .null, .null, .null, .int 0, .null, .int 0, .int 0, .int 0, .null, .null, .null]))] (fun (u : (Nat → Nat) × (Nat → Nat → Int32)) => (∀ j, j < 51207 → u.2 0 j = AL j)) (fun (u : (Nat → Nat) × (Nat → Nat → Int32)) => [(md, .inr (9, [.int 0, .ref (u.1 0), .ref (u.1 1), .ref (u.1 2), .int 0, .ref (u.1 3), .ref (u.1 4), .ref (u.1 5), .ref (u.1 6), .int 0, .int 0, .int 0, .ref (u.1 7), .int 0, .ref (u.1 8), .ref (u.1 9), .ref (u.1 10), .int 0, .ref (u.1 11), .int 0, .int (-1), .int 0, .ref (u.1 12), .ref (u.1 13), .ref (u.1 14)])), (u.1 0, aI cs 51207 (u.2 0)), (u.1 1, aI cs 170690 (fun _ => 0)), (u.1 2, aI cs 17069 (fun _ => 0)), (u.1 3, aZ cs 2 (fun _ => 0)), (u.1 4, aI cs 60 (fun _ => 0)), (u.1 5, aI cs 8 (fun _ => 0)), (u.1 6, aI cs 40 (fun _ => 0)), (u.1 7, aZ cs 1930 (fun _ => 0)), (u.1 8, aI cs 4 (fun _ => 0)), (u.1 9, aI cs 3 (fun _ => 0)), (u.1 10, aZ cs 8 (fun _ => 0)), (u.1 11, aI cs 40 (fun _ => 0)), (u.1 12, aZ cs 20 (fun _ => 0)), (u.1 13, aI cs 240 (fun _ => 0)), (u.1 14, aI cs 240 (fun _ => 0))]) := by
  refine kMet_v RX9 (by decide) rfl (Nat.le_of_ble_eq_true rfl) ?_
  intro p e s m below meth c ls A Qz H locs hx hb hml hown hin hu hK hsz hA hP hD hS hl hz
  subst hsz
  have hl : lv_has ls 2 [(0, .ref md)] := hl
  refine lv_aload_n hx hb dX9_init_0 rfl (lv_at hl 0 rfl) ?_
  refine W.objInit hx hb hown (hu _ u_1077) (hu _ u_84) (hu _ u_85) rfl (by rw [hml]; exact hl.1) rfl dX9_init_1 (Nat.le_of_ble_eq_true rfl) (Nat.le_of_ble_eq_true rfl) ?_
  refine W.eq (g2 := F0 m 4 ls []) rfl ?_
  refine lv_aload_n hx hb dX9_init_4 rfl (lv_at hl 0 rfl) ?_
  refine lv_ldc (v := 51207) hx hb hown (hu _ u_1078) dX9_init_5 ?_
  refine knewa (k := 0) (atype := .int) (ty := .int) (Nn := 51207) (a0 := (51207, .inl (fun _ => 0))) hx hb hu u_105 rfl hK rfl (fun _ _ h => h) hP hD hS hA (fun _ => rfl) (by decide) (by decide) (Nat.le_of_ble_eq_true rfl) (Nat.le_of_ble_eq_true rfl) (Nat.le_of_ble_eq_true rfl) dX9_init_7 (fun q_1 H hP hD hS => ?_)
  have hP : va_P D vwCl [(md, .inr (9, [.int 0, .null, .null, .null, .int 0, .null, .null, .null, .null, .int 0, .int 0, .int 0, .null, .int 0, .null, .null, .null, .int 0, .null, .int 0, .int 0, .int 0, .null, .null, .null])), (q_1, aI cs 51207 (fun _ => 0))] H := hP
  have hD : va_D A [(md, .inr (9, [.int 0, .null, .null, .null, .int 0, .null, .null, .null, .null, .int 0, .int 0, .int 0, .null, .int 0, .null, .null, .null, .int 0, .null, .int 0, .int 0, .int 0, .null, .null, .null])), (q_1, aI cs 51207 (fun _ => 0))] := hD
  refine va_putF (D := D) (ci := 9) (v := .ref q_1) (ty := tyX9 1) (C := RX9) (T := TX9) (N := 25) hx hb hu in_X9 tyX9 tyX9_ok nmX9 hown hK.1 hP hD hS 0 rfl rfl 1 (by decide) (hu _ u_1081) (fun _ h9 => h9) rfl hin rfl (tyX9_ok 1 (by decide)) rfl rfl (Nat.le_of_ble_eq_true rfl) dX9_init_9 (fun H locs hP hD hS => ?_)
  have hP : va_P D vwCl [(md, .inr (9, [.int 0, .ref q_1, .null, .null, .int 0, .null, .null, .null, .null, .int 0, .int 0, .int 0, .null, .int 0, .null, .null, .null, .int 0, .null, .int 0, .int 0, .int 0, .null, .null, .null])), (q_1, aI cs 51207 (fun _ => 0))] H := hP
  have hD : va_D A [(md, .inr (9, [.int 0, .ref q_1, .null, .null, .int 0, .null, .null, .null, .null, .int 0, .int 0, .int 0, .null, .int 0, .null, .null, .null, .int 0, .null, .int 0, .int 0, .int 0, .null, .null, .null])), (q_1, aI cs 51207 (fun _ => 0))] := hD
  refine lv_aload_n hx hb dX9_init_12 rfl (lv_at hl 0 rfl) ?_
  refine lv_ldc (v := 170690) hx hb hown (hu _ u_1079) dX9_init_13 ?_
  refine knewa (k := 0) (atype := .int) (ty := .int) (Nn := 170690) (a0 := (170690, .inl (fun _ => 0))) hx hb hu u_105 rfl hK rfl (fun _ _ h => h) hP hD hS hA (fun _ => rfl) (by decide) (by decide) (Nat.le_of_ble_eq_true rfl) (Nat.le_of_ble_eq_true rfl) (Nat.le_of_ble_eq_true rfl) dX9_init_15 (fun q_2 H hP hD hS => ?_)
  have hP : va_P D vwCl [(md, .inr (9, [.int 0, .ref q_1, .null, .null, .int 0, .null, .null, .null, .null, .int 0, .int 0, .int 0, .null, .int 0, .null, .null, .null, .int 0, .null, .int 0, .int 0, .int 0, .null, .null, .null])), (q_1, aI cs 51207 (fun _ => 0)), (q_2, aI cs 170690 (fun _ => 0))] H := hP
  have hD : va_D A [(md, .inr (9, [.int 0, .ref q_1, .null, .null, .int 0, .null, .null, .null, .null, .int 0, .int 0, .int 0, .null, .int 0, .null, .null, .null, .int 0, .null, .int 0, .int 0, .int 0, .null, .null, .null])), (q_1, aI cs 51207 (fun _ => 0)), (q_2, aI cs 170690 (fun _ => 0))] := hD
  refine va_putF (D := D) (ci := 9) (v := .ref q_2) (ty := tyX9 2) (C := RX9) (T := TX9) (N := 25) hx hb hu in_X9 tyX9 tyX9_ok nmX9 hown hK.1 hP hD hS 0 rfl rfl 2 (by decide) (hu _ u_1082) (fun _ h9 => h9) rfl hin rfl (tyX9_ok 2 (by decide)) rfl rfl (Nat.le_of_ble_eq_true rfl) dX9_init_17 (fun H locs hP hD hS => ?_)
  have hP : va_P D vwCl [(md, .inr (9, [.int 0, .ref q_1, .ref q_2, .null, .int 0, .null, .null, .null, .null, .int 0, .int 0, .int 0, .null, .int 0, .null, .null, .null, .int 0, .null, .int 0, .int 0, .int 0, .null, .null, .null])), (q_1, aI cs 51207 (fun _ => 0)), (q_2, aI cs 170690 (fun _ => 0))] H := hP
  have hD : va_D A [(md, .inr (9, [.int 0, .ref q_1, .ref q_2, .null, .int 0, .null, .null, .null, .null, .int 0, .int 0, .int 0, .null, .int 0, .null, .null, .null, .int 0, .null, .int 0, .int 0, .int 0, .null, .null, .null])), (q_1, aI cs 51207 (fun _ => 0)), (q_2, aI cs 170690 (fun _ => 0))] := hD
  refine lv_aload_n hx hb dX9_init_20 rfl (lv_at hl 0 rfl) ?_
  refine lv_sipush (v := 17069) hx hb dX9_init_21 (by decide) ?_
  refine knewa (k := 0) (atype := .int) (ty := .int) (Nn := 17069) (a0 := (17069, .inl (fun _ => 0))) hx hb hu u_105 rfl hK rfl (fun _ _ h => h) hP hD hS hA (fun _ => rfl) (by decide) (by decide) (Nat.le_of_ble_eq_true rfl) (Nat.le_of_ble_eq_true rfl) (Nat.le_of_ble_eq_true rfl) dX9_init_24 (fun q_3 H hP hD hS => ?_)
  have hP : va_P D vwCl [(md, .inr (9, [.int 0, .ref q_1, .ref q_2, .null, .int 0, .null, .null, .null, .null, .int 0, .int 0, .int 0, .null, .int 0, .null, .null, .null, .int 0, .null, .int 0, .int 0, .int 0, .null, .null, .null])), (q_1, aI cs 51207 (fun _ => 0)), (q_2, aI cs 170690 (fun _ => 0)), (q_3, aI cs 17069 (fun _ => 0))] H := hP
  have hD : va_D A [(md, .inr (9, [.int 0, .ref q_1, .ref q_2, .null, .int 0, .null, .null, .null, .null, .int 0, .int 0, .int 0, .null, .int 0, .null, .null, .null, .int 0, .null, .int 0, .int 0, .int 0, .null, .null, .null])), (q_1, aI cs 51207 (fun _ => 0)), (q_2, aI cs 170690 (fun _ => 0)), (q_3, aI cs 17069 (fun _ => 0))] := hD
  refine va_putF (D := D) (ci := 9) (v := .ref q_3) (ty := tyX9 3) (C := RX9) (T := TX9) (N := 25) hx hb hu in_X9 tyX9 tyX9_ok nmX9 hown hK.1 hP hD hS 0 rfl rfl 3 (by decide) (hu _ u_1083) (fun _ h9 => h9) rfl hin rfl (tyX9_ok 3 (by decide)) rfl rfl (Nat.le_of_ble_eq_true rfl) dX9_init_26 (fun H locs hP hD hS => ?_)
  have hP : va_P D vwCl [(md, .inr (9, [.int 0, .ref q_1, .ref q_2, .ref q_3, .int 0, .null, .null, .null, .null, .int 0, .int 0, .int 0, .null, .int 0, .null, .null, .null, .int 0, .null, .int 0, .int 0, .int 0, .null, .null, .null])), (q_1, aI cs 51207 (fun _ => 0)), (q_2, aI cs 170690 (fun _ => 0)), (q_3, aI cs 17069 (fun _ => 0))] H := hP
  have hD : va_D A [(md, .inr (9, [.int 0, .ref q_1, .ref q_2, .ref q_3, .int 0, .null, .null, .null, .null, .int 0, .int 0, .int 0, .null, .int 0, .null, .null, .null, .int 0, .null, .int 0, .int 0, .int 0, .null, .null, .null])), (q_1, aI cs 51207 (fun _ => 0)), (q_2, aI cs 170690 (fun _ => 0)), (q_3, aI cs 17069 (fun _ => 0))] := hD
  refine lv_aload_n hx hb dX9_init_29 rfl (lv_at hl 0 rfl) ?_
  refine lv_iconst (v := 2) hx hb dX9_init_30 (by decide) ?_
  refine knewa (k := 1) (atype := .boolean) (ty := .boolean) (Nn := 2) (a0 := (2, .inl (fun _ => 0))) hx hb hu u_140 rfl hK rfl (fun _ _ h => h) hP hD hS hA (fun _ => rfl) (by decide) (by decide) (Nat.le_of_ble_eq_true rfl) (Nat.le_of_ble_eq_true rfl) (Nat.le_of_ble_eq_true rfl) dX9_init_31 (fun q_4 H hP hD hS => ?_)
  have hP : va_P D vwCl [(md, .inr (9, [.int 0, .ref q_1, .ref q_2, .ref q_3, .int 0, .null, .null, .null, .null, .int 0, .int 0, .int 0, .null, .int 0, .null, .null, .null, .int 0, .null, .int 0, .int 0, .int 0, .null, .null, .null])), (q_1, aI cs 51207 (fun _ => 0)), (q_2, aI cs 170690 (fun _ => 0)), (q_3, aI cs 17069 (fun _ => 0)), (q_4, aZ cs 2 (fun _ => 0))] H := hP
  have hD : va_D A [(md, .inr (9, [.int 0, .ref q_1, .ref q_2, .ref q_3, .int 0, .null, .null, .null, .null, .int 0, .int 0, .int 0, .null, .int 0, .null, .null, .null, .int 0, .null, .int 0, .int 0, .int 0, .null, .null, .null])), (q_1, aI cs 51207 (fun _ => 0)), (q_2, aI cs 170690 (fun _ => 0)), (q_3, aI cs 17069 (fun _ => 0)), (q_4, aZ cs 2 (fun _ => 0))] := hD
  refine va_putF (D := D) (ci := 9) (v := .ref q_4) (ty := tyX9 5) (C := RX9) (T := TX9) (N := 25) hx hb hu in_X9 tyX9 tyX9_ok nmX9 hown hK.1 hP hD hS 0 rfl rfl 5 (by decide) (hu _ u_1085) (fun _ h9 => h9) rfl hin rfl (tyX9_ok 5 (by decide)) rfl rfl (Nat.le_of_ble_eq_true rfl) dX9_init_33 (fun H locs hP hD hS => ?_)
  have hP : va_P D vwCl [(md, .inr (9, [.int 0, .ref q_1, .ref q_2, .ref q_3, .int 0, .ref q_4, .null, .null, .null, .int 0, .int 0, .int 0, .null, .int 0, .null, .null, .null, .int 0, .null, .int 0, .int 0, .int 0, .null, .null, .null])), (q_1, aI cs 51207 (fun _ => 0)), (q_2, aI cs 170690 (fun _ => 0)), (q_3, aI cs 17069 (fun _ => 0)), (q_4, aZ cs 2 (fun _ => 0))] H := hP
  have hD : va_D A [(md, .inr (9, [.int 0, .ref q_1, .ref q_2, .ref q_3, .int 0, .ref q_4, .null, .null, .null, .int 0, .int 0, .int 0, .null, .int 0, .null, .null, .null, .int 0, .null, .int 0, .int 0, .int 0, .null, .null, .null])), (q_1, aI cs 51207 (fun _ => 0)), (q_2, aI cs 170690 (fun _ => 0)), (q_3, aI cs 17069 (fun _ => 0)), (q_4, aZ cs 2 (fun _ => 0))] := hD
  refine lv_aload_n hx hb dX9_init_36 rfl (lv_at hl 0 rfl) ?_
  refine lv_bipush (v := 60) hx hb dX9_init_37 (by decide) ?_
  refine knewa (k := 0) (atype := .int) (ty := .int) (Nn := 60) (a0 := (60, .inl (fun _ => 0))) hx hb hu u_105 rfl hK rfl (fun _ _ h => h) hP hD hS hA (fun _ => rfl) (by decide) (by decide) (Nat.le_of_ble_eq_true rfl) (Nat.le_of_ble_eq_true rfl) (Nat.le_of_ble_eq_true rfl) dX9_init_39 (fun q_5 H hP hD hS => ?_)
  have hP : va_P D vwCl [(md, .inr (9, [.int 0, .ref q_1, .ref q_2, .ref q_3, .int 0, .ref q_4, .null, .null, .null, .int 0, .int 0, .int 0, .null, .int 0, .null, .null, .null, .int 0, .null, .int 0, .int 0, .int 0, .null, .null, .null])), (q_1, aI cs 51207 (fun _ => 0)), (q_2, aI cs 170690 (fun _ => 0)), (q_3, aI cs 17069 (fun _ => 0)), (q_4, aZ cs 2 (fun _ => 0)), (q_5, aI cs 60 (fun _ => 0))] H := hP
  have hD : va_D A [(md, .inr (9, [.int 0, .ref q_1, .ref q_2, .ref q_3, .int 0, .ref q_4, .null, .null, .null, .int 0, .int 0, .int 0, .null, .int 0, .null, .null, .null, .int 0, .null, .int 0, .int 0, .int 0, .null, .null, .null])), (q_1, aI cs 51207 (fun _ => 0)), (q_2, aI cs 170690 (fun _ => 0)), (q_3, aI cs 17069 (fun _ => 0)), (q_4, aZ cs 2 (fun _ => 0)), (q_5, aI cs 60 (fun _ => 0))] := hD
  refine va_putF (D := D) (ci := 9) (v := .ref q_5) (ty := tyX9 6) (C := RX9) (T := TX9) (N := 25) hx hb hu in_X9 tyX9 tyX9_ok nmX9 hown hK.1 hP hD hS 0 rfl rfl 6 (by decide) (hu _ u_1086) (fun _ h9 => h9) rfl hin rfl (tyX9_ok 6 (by decide)) rfl rfl (Nat.le_of_ble_eq_true rfl) dX9_init_41 (fun H locs hP hD hS => ?_)
  have hP : va_P D vwCl [(md, .inr (9, [.int 0, .ref q_1, .ref q_2, .ref q_3, .int 0, .ref q_4, .ref q_5, .null, .null, .int 0, .int 0, .int 0, .null, .int 0, .null, .null, .null, .int 0, .null, .int 0, .int 0, .int 0, .null, .null, .null])), (q_1, aI cs 51207 (fun _ => 0)), (q_2, aI cs 170690 (fun _ => 0)), (q_3, aI cs 17069 (fun _ => 0)), (q_4, aZ cs 2 (fun _ => 0)), (q_5, aI cs 60 (fun _ => 0))] H := hP
  have hD : va_D A [(md, .inr (9, [.int 0, .ref q_1, .ref q_2, .ref q_3, .int 0, .ref q_4, .ref q_5, .null, .null, .int 0, .int 0, .int 0, .null, .int 0, .null, .null, .null, .int 0, .null, .int 0, .int 0, .int 0, .null, .null, .null])), (q_1, aI cs 51207 (fun _ => 0)), (q_2, aI cs 170690 (fun _ => 0)), (q_3, aI cs 17069 (fun _ => 0)), (q_4, aZ cs 2 (fun _ => 0)), (q_5, aI cs 60 (fun _ => 0))] := hD
  refine lv_aload_n hx hb dX9_init_44 rfl (lv_at hl 0 rfl) ?_
  refine lv_bipush (v := 8) hx hb dX9_init_45 (by decide) ?_
  refine knewa (k := 0) (atype := .int) (ty := .int) (Nn := 8) (a0 := (8, .inl (fun _ => 0))) hx hb hu u_105 rfl hK rfl (fun _ _ h => h) hP hD hS hA (fun _ => rfl) (by decide) (by decide) (Nat.le_of_ble_eq_true rfl) (Nat.le_of_ble_eq_true rfl) (Nat.le_of_ble_eq_true rfl) dX9_init_47 (fun q_6 H hP hD hS => ?_)
  have hP : va_P D vwCl [(md, .inr (9, [.int 0, .ref q_1, .ref q_2, .ref q_3, .int 0, .ref q_4, .ref q_5, .null, .null, .int 0, .int 0, .int 0, .null, .int 0, .null, .null, .null, .int 0, .null, .int 0, .int 0, .int 0, .null, .null, .null])), (q_1, aI cs 51207 (fun _ => 0)), (q_2, aI cs 170690 (fun _ => 0)), (q_3, aI cs 17069 (fun _ => 0)), (q_4, aZ cs 2 (fun _ => 0)), (q_5, aI cs 60 (fun _ => 0)), (q_6, aI cs 8 (fun _ => 0))] H := hP
  have hD : va_D A [(md, .inr (9, [.int 0, .ref q_1, .ref q_2, .ref q_3, .int 0, .ref q_4, .ref q_5, .null, .null, .int 0, .int 0, .int 0, .null, .int 0, .null, .null, .null, .int 0, .null, .int 0, .int 0, .int 0, .null, .null, .null])), (q_1, aI cs 51207 (fun _ => 0)), (q_2, aI cs 170690 (fun _ => 0)), (q_3, aI cs 17069 (fun _ => 0)), (q_4, aZ cs 2 (fun _ => 0)), (q_5, aI cs 60 (fun _ => 0)), (q_6, aI cs 8 (fun _ => 0))] := hD
  refine va_putF (D := D) (ci := 9) (v := .ref q_6) (ty := tyX9 7) (C := RX9) (T := TX9) (N := 25) hx hb hu in_X9 tyX9 tyX9_ok nmX9 hown hK.1 hP hD hS 0 rfl rfl 7 (by decide) (hu _ u_1087) (fun _ h9 => h9) rfl hin rfl (tyX9_ok 7 (by decide)) rfl rfl (Nat.le_of_ble_eq_true rfl) dX9_init_49 (fun H locs hP hD hS => ?_)
  have hP : va_P D vwCl [(md, .inr (9, [.int 0, .ref q_1, .ref q_2, .ref q_3, .int 0, .ref q_4, .ref q_5, .ref q_6, .null, .int 0, .int 0, .int 0, .null, .int 0, .null, .null, .null, .int 0, .null, .int 0, .int 0, .int 0, .null, .null, .null])), (q_1, aI cs 51207 (fun _ => 0)), (q_2, aI cs 170690 (fun _ => 0)), (q_3, aI cs 17069 (fun _ => 0)), (q_4, aZ cs 2 (fun _ => 0)), (q_5, aI cs 60 (fun _ => 0)), (q_6, aI cs 8 (fun _ => 0))] H := hP
  have hD : va_D A [(md, .inr (9, [.int 0, .ref q_1, .ref q_2, .ref q_3, .int 0, .ref q_4, .ref q_5, .ref q_6, .null, .int 0, .int 0, .int 0, .null, .int 0, .null, .null, .null, .int 0, .null, .int 0, .int 0, .int 0, .null, .null, .null])), (q_1, aI cs 51207 (fun _ => 0)), (q_2, aI cs 170690 (fun _ => 0)), (q_3, aI cs 17069 (fun _ => 0)), (q_4, aZ cs 2 (fun _ => 0)), (q_5, aI cs 60 (fun _ => 0)), (q_6, aI cs 8 (fun _ => 0))] := hD
  refine lv_aload_n hx hb dX9_init_52 rfl (lv_at hl 0 rfl) ?_
  refine lv_bipush (v := 40) hx hb dX9_init_53 (by decide) ?_
  refine knewa (k := 0) (atype := .int) (ty := .int) (Nn := 40) (a0 := (40, .inl (fun _ => 0))) hx hb hu u_105 rfl hK rfl (fun _ _ h => h) hP hD hS hA (fun _ => rfl) (by decide) (by decide) (Nat.le_of_ble_eq_true rfl) (Nat.le_of_ble_eq_true rfl) (Nat.le_of_ble_eq_true rfl) dX9_init_55 (fun q_7 H hP hD hS => ?_)
  have hP : va_P D vwCl [(md, .inr (9, [.int 0, .ref q_1, .ref q_2, .ref q_3, .int 0, .ref q_4, .ref q_5, .ref q_6, .null, .int 0, .int 0, .int 0, .null, .int 0, .null, .null, .null, .int 0, .null, .int 0, .int 0, .int 0, .null, .null, .null])), (q_1, aI cs 51207 (fun _ => 0)), (q_2, aI cs 170690 (fun _ => 0)), (q_3, aI cs 17069 (fun _ => 0)), (q_4, aZ cs 2 (fun _ => 0)), (q_5, aI cs 60 (fun _ => 0)), (q_6, aI cs 8 (fun _ => 0)), (q_7, aI cs 40 (fun _ => 0))] H := hP
  have hD : va_D A [(md, .inr (9, [.int 0, .ref q_1, .ref q_2, .ref q_3, .int 0, .ref q_4, .ref q_5, .ref q_6, .null, .int 0, .int 0, .int 0, .null, .int 0, .null, .null, .null, .int 0, .null, .int 0, .int 0, .int 0, .null, .null, .null])), (q_1, aI cs 51207 (fun _ => 0)), (q_2, aI cs 170690 (fun _ => 0)), (q_3, aI cs 17069 (fun _ => 0)), (q_4, aZ cs 2 (fun _ => 0)), (q_5, aI cs 60 (fun _ => 0)), (q_6, aI cs 8 (fun _ => 0)), (q_7, aI cs 40 (fun _ => 0))] := hD
  refine va_putF (D := D) (ci := 9) (v := .ref q_7) (ty := tyX9 8) (C := RX9) (T := TX9) (N := 25) hx hb hu in_X9 tyX9 tyX9_ok nmX9 hown hK.1 hP hD hS 0 rfl rfl 8 (by decide) (hu _ u_1088) (fun _ h9 => h9) rfl hin rfl (tyX9_ok 8 (by decide)) rfl rfl (Nat.le_of_ble_eq_true rfl) dX9_init_57 (fun H locs hP hD hS => ?_)
  have hP : va_P D vwCl [(md, .inr (9, [.int 0, .ref q_1, .ref q_2, .ref q_3, .int 0, .ref q_4, .ref q_5, .ref q_6, .ref q_7, .int 0, .int 0, .int 0, .null, .int 0, .null, .null, .null, .int 0, .null, .int 0, .int 0, .int 0, .null, .null, .null])), (q_1, aI cs 51207 (fun _ => 0)), (q_2, aI cs 170690 (fun _ => 0)), (q_3, aI cs 17069 (fun _ => 0)), (q_4, aZ cs 2 (fun _ => 0)), (q_5, aI cs 60 (fun _ => 0)), (q_6, aI cs 8 (fun _ => 0)), (q_7, aI cs 40 (fun _ => 0))] H := hP
  have hD : va_D A [(md, .inr (9, [.int 0, .ref q_1, .ref q_2, .ref q_3, .int 0, .ref q_4, .ref q_5, .ref q_6, .ref q_7, .int 0, .int 0, .int 0, .null, .int 0, .null, .null, .null, .int 0, .null, .int 0, .int 0, .int 0, .null, .null, .null])), (q_1, aI cs 51207 (fun _ => 0)), (q_2, aI cs 170690 (fun _ => 0)), (q_3, aI cs 17069 (fun _ => 0)), (q_4, aZ cs 2 (fun _ => 0)), (q_5, aI cs 60 (fun _ => 0)), (q_6, aI cs 8 (fun _ => 0)), (q_7, aI cs 40 (fun _ => 0))] := hD
  refine lv_aload_n hx hb dX9_init_60 rfl (lv_at hl 0 rfl) ?_
  refine lv_sipush (v := 1930) hx hb dX9_init_61 (by decide) ?_
  refine knewa (k := 1) (atype := .boolean) (ty := .boolean) (Nn := 1930) (a0 := (1930, .inl (fun _ => 0))) hx hb hu u_140 rfl hK rfl (fun _ _ h => h) hP hD hS hA (fun _ => rfl) (by decide) (by decide) (Nat.le_of_ble_eq_true rfl) (Nat.le_of_ble_eq_true rfl) (Nat.le_of_ble_eq_true rfl) dX9_init_64 (fun q_8 H hP hD hS => ?_)
  have hP : va_P D vwCl [(md, .inr (9, [.int 0, .ref q_1, .ref q_2, .ref q_3, .int 0, .ref q_4, .ref q_5, .ref q_6, .ref q_7, .int 0, .int 0, .int 0, .null, .int 0, .null, .null, .null, .int 0, .null, .int 0, .int 0, .int 0, .null, .null, .null])), (q_1, aI cs 51207 (fun _ => 0)), (q_2, aI cs 170690 (fun _ => 0)), (q_3, aI cs 17069 (fun _ => 0)), (q_4, aZ cs 2 (fun _ => 0)), (q_5, aI cs 60 (fun _ => 0)), (q_6, aI cs 8 (fun _ => 0)), (q_7, aI cs 40 (fun _ => 0)), (q_8, aZ cs 1930 (fun _ => 0))] H := hP
  have hD : va_D A [(md, .inr (9, [.int 0, .ref q_1, .ref q_2, .ref q_3, .int 0, .ref q_4, .ref q_5, .ref q_6, .ref q_7, .int 0, .int 0, .int 0, .null, .int 0, .null, .null, .null, .int 0, .null, .int 0, .int 0, .int 0, .null, .null, .null])), (q_1, aI cs 51207 (fun _ => 0)), (q_2, aI cs 170690 (fun _ => 0)), (q_3, aI cs 17069 (fun _ => 0)), (q_4, aZ cs 2 (fun _ => 0)), (q_5, aI cs 60 (fun _ => 0)), (q_6, aI cs 8 (fun _ => 0)), (q_7, aI cs 40 (fun _ => 0)), (q_8, aZ cs 1930 (fun _ => 0))] := hD
  refine va_putF (D := D) (ci := 9) (v := .ref q_8) (ty := tyX9 12) (C := RX9) (T := TX9) (N := 25) hx hb hu in_X9 tyX9 tyX9_ok nmX9 hown hK.1 hP hD hS 0 rfl rfl 12 (by decide) (hu _ u_1092) (fun _ h9 => h9) rfl hin rfl (tyX9_ok 12 (by decide)) rfl rfl (Nat.le_of_ble_eq_true rfl) dX9_init_66 (fun H locs hP hD hS => ?_)
  have hP : va_P D vwCl [(md, .inr (9, [.int 0, .ref q_1, .ref q_2, .ref q_3, .int 0, .ref q_4, .ref q_5, .ref q_6, .ref q_7, .int 0, .int 0, .int 0, .ref q_8, .int 0, .null, .null, .null, .int 0, .null, .int 0, .int 0, .int 0, .null, .null, .null])), (q_1, aI cs 51207 (fun _ => 0)), (q_2, aI cs 170690 (fun _ => 0)), (q_3, aI cs 17069 (fun _ => 0)), (q_4, aZ cs 2 (fun _ => 0)), (q_5, aI cs 60 (fun _ => 0)), (q_6, aI cs 8 (fun _ => 0)), (q_7, aI cs 40 (fun _ => 0)), (q_8, aZ cs 1930 (fun _ => 0))] H := hP
  have hD : va_D A [(md, .inr (9, [.int 0, .ref q_1, .ref q_2, .ref q_3, .int 0, .ref q_4, .ref q_5, .ref q_6, .ref q_7, .int 0, .int 0, .int 0, .ref q_8, .int 0, .null, .null, .null, .int 0, .null, .int 0, .int 0, .int 0, .null, .null, .null])), (q_1, aI cs 51207 (fun _ => 0)), (q_2, aI cs 170690 (fun _ => 0)), (q_3, aI cs 17069 (fun _ => 0)), (q_4, aZ cs 2 (fun _ => 0)), (q_5, aI cs 60 (fun _ => 0)), (q_6, aI cs 8 (fun _ => 0)), (q_7, aI cs 40 (fun _ => 0)), (q_8, aZ cs 1930 (fun _ => 0))] := hD
  refine lv_aload_n hx hb dX9_init_69 rfl (lv_at hl 0 rfl) ?_
  refine lv_iconst (v := 4) hx hb dX9_init_70 (by decide) ?_
  refine knewa (k := 0) (atype := .int) (ty := .int) (Nn := 4) (a0 := (4, .inl (fun _ => 0))) hx hb hu u_105 rfl hK rfl (fun _ _ h => h) hP hD hS hA (fun _ => rfl) (by decide) (by decide) (Nat.le_of_ble_eq_true rfl) (Nat.le_of_ble_eq_true rfl) (Nat.le_of_ble_eq_true rfl) dX9_init_71 (fun q_9 H hP hD hS => ?_)
  have hP : va_P D vwCl [(md, .inr (9, [.int 0, .ref q_1, .ref q_2, .ref q_3, .int 0, .ref q_4, .ref q_5, .ref q_6, .ref q_7, .int 0, .int 0, .int 0, .ref q_8, .int 0, .null, .null, .null, .int 0, .null, .int 0, .int 0, .int 0, .null, .null, .null])), (q_1, aI cs 51207 (fun _ => 0)), (q_2, aI cs 170690 (fun _ => 0)), (q_3, aI cs 17069 (fun _ => 0)), (q_4, aZ cs 2 (fun _ => 0)), (q_5, aI cs 60 (fun _ => 0)), (q_6, aI cs 8 (fun _ => 0)), (q_7, aI cs 40 (fun _ => 0)), (q_8, aZ cs 1930 (fun _ => 0)), (q_9, aI cs 4 (fun _ => 0))] H := hP
  have hD : va_D A [(md, .inr (9, [.int 0, .ref q_1, .ref q_2, .ref q_3, .int 0, .ref q_4, .ref q_5, .ref q_6, .ref q_7, .int 0, .int 0, .int 0, .ref q_8, .int 0, .null, .null, .null, .int 0, .null, .int 0, .int 0, .int 0, .null, .null, .null])), (q_1, aI cs 51207 (fun _ => 0)), (q_2, aI cs 170690 (fun _ => 0)), (q_3, aI cs 17069 (fun _ => 0)), (q_4, aZ cs 2 (fun _ => 0)), (q_5, aI cs 60 (fun _ => 0)), (q_6, aI cs 8 (fun _ => 0)), (q_7, aI cs 40 (fun _ => 0)), (q_8, aZ cs 1930 (fun _ => 0)), (q_9, aI cs 4 (fun _ => 0))] := hD
  refine va_putF (D := D) (ci := 9) (v := .ref q_9) (ty := tyX9 14) (C := RX9) (T := TX9) (N := 25) hx hb hu in_X9 tyX9 tyX9_ok nmX9 hown hK.1 hP hD hS 0 rfl rfl 14 (by decide) (hu _ u_1094) (fun _ h9 => h9) rfl hin rfl (tyX9_ok 14 (by decide)) rfl rfl (Nat.le_of_ble_eq_true rfl) dX9_init_73 (fun H locs hP hD hS => ?_)
  have hP : va_P D vwCl [(md, .inr (9, [.int 0, .ref q_1, .ref q_2, .ref q_3, .int 0, .ref q_4, .ref q_5, .ref q_6, .ref q_7, .int 0, .int 0, .int 0, .ref q_8, .int 0, .ref q_9, .null, .null, .int 0, .null, .int 0, .int 0, .int 0, .null, .null, .null])), (q_1, aI cs 51207 (fun _ => 0)), (q_2, aI cs 170690 (fun _ => 0)), (q_3, aI cs 17069 (fun _ => 0)), (q_4, aZ cs 2 (fun _ => 0)), (q_5, aI cs 60 (fun _ => 0)), (q_6, aI cs 8 (fun _ => 0)), (q_7, aI cs 40 (fun _ => 0)), (q_8, aZ cs 1930 (fun _ => 0)), (q_9, aI cs 4 (fun _ => 0))] H := hP
  have hD : va_D A [(md, .inr (9, [.int 0, .ref q_1, .ref q_2, .ref q_3, .int 0, .ref q_4, .ref q_5, .ref q_6, .ref q_7, .int 0, .int 0, .int 0, .ref q_8, .int 0, .ref q_9, .null, .null, .int 0, .null, .int 0, .int 0, .int 0, .null, .null, .null])), (q_1, aI cs 51207 (fun _ => 0)), (q_2, aI cs 170690 (fun _ => 0)), (q_3, aI cs 17069 (fun _ => 0)), (q_4, aZ cs 2 (fun _ => 0)), (q_5, aI cs 60 (fun _ => 0)), (q_6, aI cs 8 (fun _ => 0)), (q_7, aI cs 40 (fun _ => 0)), (q_8, aZ cs 1930 (fun _ => 0)), (q_9, aI cs 4 (fun _ => 0))] := hD
  refine lv_aload_n hx hb dX9_init_76 rfl (lv_at hl 0 rfl) ?_
  refine lv_iconst (v := 3) hx hb dX9_init_77 (by decide) ?_
  refine knewa (k := 0) (atype := .int) (ty := .int) (Nn := 3) (a0 := (3, .inl (fun _ => 0))) hx hb hu u_105 rfl hK rfl (fun _ _ h => h) hP hD hS hA (fun _ => rfl) (by decide) (by decide) (Nat.le_of_ble_eq_true rfl) (Nat.le_of_ble_eq_true rfl) (Nat.le_of_ble_eq_true rfl) dX9_init_78 (fun q_10 H hP hD hS => ?_)
  have hP : va_P D vwCl [(md, .inr (9, [.int 0, .ref q_1, .ref q_2, .ref q_3, .int 0, .ref q_4, .ref q_5, .ref q_6, .ref q_7, .int 0, .int 0, .int 0, .ref q_8, .int 0, .ref q_9, .null, .null, .int 0, .null, .int 0, .int 0, .int 0, .null, .null, .null])), (q_1, aI cs 51207 (fun _ => 0)), (q_2, aI cs 170690 (fun _ => 0)), (q_3, aI cs 17069 (fun _ => 0)), (q_4, aZ cs 2 (fun _ => 0)), (q_5, aI cs 60 (fun _ => 0)), (q_6, aI cs 8 (fun _ => 0)), (q_7, aI cs 40 (fun _ => 0)), (q_8, aZ cs 1930 (fun _ => 0)), (q_9, aI cs 4 (fun _ => 0)), (q_10, aI cs 3 (fun _ => 0))] H := hP
  have hD : va_D A [(md, .inr (9, [.int 0, .ref q_1, .ref q_2, .ref q_3, .int 0, .ref q_4, .ref q_5, .ref q_6, .ref q_7, .int 0, .int 0, .int 0, .ref q_8, .int 0, .ref q_9, .null, .null, .int 0, .null, .int 0, .int 0, .int 0, .null, .null, .null])), (q_1, aI cs 51207 (fun _ => 0)), (q_2, aI cs 170690 (fun _ => 0)), (q_3, aI cs 17069 (fun _ => 0)), (q_4, aZ cs 2 (fun _ => 0)), (q_5, aI cs 60 (fun _ => 0)), (q_6, aI cs 8 (fun _ => 0)), (q_7, aI cs 40 (fun _ => 0)), (q_8, aZ cs 1930 (fun _ => 0)), (q_9, aI cs 4 (fun _ => 0)), (q_10, aI cs 3 (fun _ => 0))] := hD
  refine va_putF (D := D) (ci := 9) (v := .ref q_10) (ty := tyX9 15) (C := RX9) (T := TX9) (N := 25) hx hb hu in_X9 tyX9 tyX9_ok nmX9 hown hK.1 hP hD hS 0 rfl rfl 15 (by decide) (hu _ u_1095) (fun _ h9 => h9) rfl hin rfl (tyX9_ok 15 (by decide)) rfl rfl (Nat.le_of_ble_eq_true rfl) dX9_init_80 (fun H locs hP hD hS => ?_)
  have hP : va_P D vwCl [(md, .inr (9, [.int 0, .ref q_1, .ref q_2, .ref q_3, .int 0, .ref q_4, .ref q_5, .ref q_6, .ref q_7, .int 0, .int 0, .int 0, .ref q_8, .int 0, .ref q_9, .ref q_10, .null, .int 0, .null, .int 0, .int 0, .int 0, .null, .null, .null])), (q_1, aI cs 51207 (fun _ => 0)), (q_2, aI cs 170690 (fun _ => 0)), (q_3, aI cs 17069 (fun _ => 0)), (q_4, aZ cs 2 (fun _ => 0)), (q_5, aI cs 60 (fun _ => 0)), (q_6, aI cs 8 (fun _ => 0)), (q_7, aI cs 40 (fun _ => 0)), (q_8, aZ cs 1930 (fun _ => 0)), (q_9, aI cs 4 (fun _ => 0)), (q_10, aI cs 3 (fun _ => 0))] H := hP
  have hD : va_D A [(md, .inr (9, [.int 0, .ref q_1, .ref q_2, .ref q_3, .int 0, .ref q_4, .ref q_5, .ref q_6, .ref q_7, .int 0, .int 0, .int 0, .ref q_8, .int 0, .ref q_9, .ref q_10, .null, .int 0, .null, .int 0, .int 0, .int 0, .null, .null, .null])), (q_1, aI cs 51207 (fun _ => 0)), (q_2, aI cs 170690 (fun _ => 0)), (q_3, aI cs 17069 (fun _ => 0)), (q_4, aZ cs 2 (fun _ => 0)), (q_5, aI cs 60 (fun _ => 0)), (q_6, aI cs 8 (fun _ => 0)), (q_7, aI cs 40 (fun _ => 0)), (q_8, aZ cs 1930 (fun _ => 0)), (q_9, aI cs 4 (fun _ => 0)), (q_10, aI cs 3 (fun _ => 0))] := hD
  refine lv_aload_n hx hb dX9_init_83 rfl (lv_at hl 0 rfl) ?_
  refine lv_bipush (v := 8) hx hb dX9_init_84 (by decide) ?_
  refine knewa (k := 1) (atype := .boolean) (ty := .boolean) (Nn := 8) (a0 := (8, .inl (fun _ => 0))) hx hb hu u_140 rfl hK rfl (fun _ _ h => h) hP hD hS hA (fun _ => rfl) (by decide) (by decide) (Nat.le_of_ble_eq_true rfl) (Nat.le_of_ble_eq_true rfl) (Nat.le_of_ble_eq_true rfl) dX9_init_86 (fun q_11 H hP hD hS => ?_)
  have hP : va_P D vwCl [(md, .inr (9, [.int 0, .ref q_1, .ref q_2, .ref q_3, .int 0, .ref q_4, .ref q_5, .ref q_6, .ref q_7, .int 0, .int 0, .int 0, .ref q_8, .int 0, .ref q_9, .ref q_10, .null, .int 0, .null, .int 0, .int 0, .int 0, .null, .null, .null])), (q_1, aI cs 51207 (fun _ => 0)), (q_2, aI cs 170690 (fun _ => 0)), (q_3, aI cs 17069 (fun _ => 0)), (q_4, aZ cs 2 (fun _ => 0)), (q_5, aI cs 60 (fun _ => 0)), (q_6, aI cs 8 (fun _ => 0)), (q_7, aI cs 40 (fun _ => 0)), (q_8, aZ cs 1930 (fun _ => 0)), (q_9, aI cs 4 (fun _ => 0)), (q_10, aI cs 3 (fun _ => 0)), (q_11, aZ cs 8 (fun _ => 0))] H := hP
  have hD : va_D A [(md, .inr (9, [.int 0, .ref q_1, .ref q_2, .ref q_3, .int 0, .ref q_4, .ref q_5, .ref q_6, .ref q_7, .int 0, .int 0, .int 0, .ref q_8, .int 0, .ref q_9, .ref q_10, .null, .int 0, .null, .int 0, .int 0, .int 0, .null, .null, .null])), (q_1, aI cs 51207 (fun _ => 0)), (q_2, aI cs 170690 (fun _ => 0)), (q_3, aI cs 17069 (fun _ => 0)), (q_4, aZ cs 2 (fun _ => 0)), (q_5, aI cs 60 (fun _ => 0)), (q_6, aI cs 8 (fun _ => 0)), (q_7, aI cs 40 (fun _ => 0)), (q_8, aZ cs 1930 (fun _ => 0)), (q_9, aI cs 4 (fun _ => 0)), (q_10, aI cs 3 (fun _ => 0)), (q_11, aZ cs 8 (fun _ => 0))] := hD
  refine va_putF (D := D) (ci := 9) (v := .ref q_11) (ty := tyX9 16) (C := RX9) (T := TX9) (N := 25) hx hb hu in_X9 tyX9 tyX9_ok nmX9 hown hK.1 hP hD hS 0 rfl rfl 16 (by decide) (hu _ u_1096) (fun _ h9 => h9) rfl hin rfl (tyX9_ok 16 (by decide)) rfl rfl (Nat.le_of_ble_eq_true rfl) dX9_init_88 (fun H locs hP hD hS => ?_)
  have hP : va_P D vwCl [(md, .inr (9, [.int 0, .ref q_1, .ref q_2, .ref q_3, .int 0, .ref q_4, .ref q_5, .ref q_6, .ref q_7, .int 0, .int 0, .int 0, .ref q_8, .int 0, .ref q_9, .ref q_10, .ref q_11, .int 0, .null, .int 0, .int 0, .int 0, .null, .null, .null])), (q_1, aI cs 51207 (fun _ => 0)), (q_2, aI cs 170690 (fun _ => 0)), (q_3, aI cs 17069 (fun _ => 0)), (q_4, aZ cs 2 (fun _ => 0)), (q_5, aI cs 60 (fun _ => 0)), (q_6, aI cs 8 (fun _ => 0)), (q_7, aI cs 40 (fun _ => 0)), (q_8, aZ cs 1930 (fun _ => 0)), (q_9, aI cs 4 (fun _ => 0)), (q_10, aI cs 3 (fun _ => 0)), (q_11, aZ cs 8 (fun _ => 0))] H := hP
  have hD : va_D A [(md, .inr (9, [.int 0, .ref q_1, .ref q_2, .ref q_3, .int 0, .ref q_4, .ref q_5, .ref q_6, .ref q_7, .int 0, .int 0, .int 0, .ref q_8, .int 0, .ref q_9, .ref q_10, .ref q_11, .int 0, .null, .int 0, .int 0, .int 0, .null, .null, .null])), (q_1, aI cs 51207 (fun _ => 0)), (q_2, aI cs 170690 (fun _ => 0)), (q_3, aI cs 17069 (fun _ => 0)), (q_4, aZ cs 2 (fun _ => 0)), (q_5, aI cs 60 (fun _ => 0)), (q_6, aI cs 8 (fun _ => 0)), (q_7, aI cs 40 (fun _ => 0)), (q_8, aZ cs 1930 (fun _ => 0)), (q_9, aI cs 4 (fun _ => 0)), (q_10, aI cs 3 (fun _ => 0)), (q_11, aZ cs 8 (fun _ => 0))] := hD
  refine lv_aload_n hx hb dX9_init_91 rfl (lv_at hl 0 rfl) ?_
  refine lv_bipush (v := 40) hx hb dX9_init_92 (by decide) ?_
  refine knewa (k := 0) (atype := .int) (ty := .int) (Nn := 40) (a0 := (40, .inl (fun _ => 0))) hx hb hu u_105 rfl hK rfl (fun _ _ h => h) hP hD hS hA (fun _ => rfl) (by decide) (by decide) (Nat.le_of_ble_eq_true rfl) (Nat.le_of_ble_eq_true rfl) (Nat.le_of_ble_eq_true rfl) dX9_init_94 (fun q_12 H hP hD hS => ?_)
  have hP : va_P D vwCl [(md, .inr (9, [.int 0, .ref q_1, .ref q_2, .ref q_3, .int 0, .ref q_4, .ref q_5, .ref q_6, .ref q_7, .int 0, .int 0, .int 0, .ref q_8, .int 0, .ref q_9, .ref q_10, .ref q_11, .int 0, .null, .int 0, .int 0, .int 0, .null, .null, .null])), (q_1, aI cs 51207 (fun _ => 0)), (q_2, aI cs 170690 (fun _ => 0)), (q_3, aI cs 17069 (fun _ => 0)), (q_4, aZ cs 2 (fun _ => 0)), (q_5, aI cs 60 (fun _ => 0)), (q_6, aI cs 8 (fun _ => 0)), (q_7, aI cs 40 (fun _ => 0)), (q_8, aZ cs 1930 (fun _ => 0)), (q_9, aI cs 4 (fun _ => 0)), (q_10, aI cs 3 (fun _ => 0)), (q_11, aZ cs 8 (fun _ => 0)), (q_12, aI cs 40 (fun _ => 0))] H := hP
  have hD : va_D A [(md, .inr (9, [.int 0, .ref q_1, .ref q_2, .ref q_3, .int 0, .ref q_4, .ref q_5, .ref q_6, .ref q_7, .int 0, .int 0, .int 0, .ref q_8, .int 0, .ref q_9, .ref q_10, .ref q_11, .int 0, .null, .int 0, .int 0, .int 0, .null, .null, .null])), (q_1, aI cs 51207 (fun _ => 0)), (q_2, aI cs 170690 (fun _ => 0)), (q_3, aI cs 17069 (fun _ => 0)), (q_4, aZ cs 2 (fun _ => 0)), (q_5, aI cs 60 (fun _ => 0)), (q_6, aI cs 8 (fun _ => 0)), (q_7, aI cs 40 (fun _ => 0)), (q_8, aZ cs 1930 (fun _ => 0)), (q_9, aI cs 4 (fun _ => 0)), (q_10, aI cs 3 (fun _ => 0)), (q_11, aZ cs 8 (fun _ => 0)), (q_12, aI cs 40 (fun _ => 0))] := hD
  refine va_putF (D := D) (ci := 9) (v := .ref q_12) (ty := tyX9 18) (C := RX9) (T := TX9) (N := 25) hx hb hu in_X9 tyX9 tyX9_ok nmX9 hown hK.1 hP hD hS 0 rfl rfl 18 (by decide) (hu _ u_1098) (fun _ h9 => h9) rfl hin rfl (tyX9_ok 18 (by decide)) rfl rfl (Nat.le_of_ble_eq_true rfl) dX9_init_96 (fun H locs hP hD hS => ?_)
  have hP : va_P D vwCl [(md, .inr (9, [.int 0, .ref q_1, .ref q_2, .ref q_3, .int 0, .ref q_4, .ref q_5, .ref q_6, .ref q_7, .int 0, .int 0, .int 0, .ref q_8, .int 0, .ref q_9, .ref q_10, .ref q_11, .int 0, .ref q_12, .int 0, .int 0, .int 0, .null, .null, .null])), (q_1, aI cs 51207 (fun _ => 0)), (q_2, aI cs 170690 (fun _ => 0)), (q_3, aI cs 17069 (fun _ => 0)), (q_4, aZ cs 2 (fun _ => 0)), (q_5, aI cs 60 (fun _ => 0)), (q_6, aI cs 8 (fun _ => 0)), (q_7, aI cs 40 (fun _ => 0)), (q_8, aZ cs 1930 (fun _ => 0)), (q_9, aI cs 4 (fun _ => 0)), (q_10, aI cs 3 (fun _ => 0)), (q_11, aZ cs 8 (fun _ => 0)), (q_12, aI cs 40 (fun _ => 0))] H := hP
  have hD : va_D A [(md, .inr (9, [.int 0, .ref q_1, .ref q_2, .ref q_3, .int 0, .ref q_4, .ref q_5, .ref q_6, .ref q_7, .int 0, .int 0, .int 0, .ref q_8, .int 0, .ref q_9, .ref q_10, .ref q_11, .int 0, .ref q_12, .int 0, .int 0, .int 0, .null, .null, .null])), (q_1, aI cs 51207 (fun _ => 0)), (q_2, aI cs 170690 (fun _ => 0)), (q_3, aI cs 17069 (fun _ => 0)), (q_4, aZ cs 2 (fun _ => 0)), (q_5, aI cs 60 (fun _ => 0)), (q_6, aI cs 8 (fun _ => 0)), (q_7, aI cs 40 (fun _ => 0)), (q_8, aZ cs 1930 (fun _ => 0)), (q_9, aI cs 4 (fun _ => 0)), (q_10, aI cs 3 (fun _ => 0)), (q_11, aZ cs 8 (fun _ => 0)), (q_12, aI cs 40 (fun _ => 0))] := hD
  refine lv_aload_n hx hb dX9_init_99 rfl (lv_at hl 0 rfl) ?_
  refine lv_iconst (v := (-1)) hx hb dX9_init_100 (by decide) ?_
  refine va_put (D := D) (ci := 9) (v := .int (-1)) (ty := tyX9 20) (C := RX9) (T := TX9) (N := 25) hx hb hu in_X9 tyX9 tyX9_ok nmX9 hown hK.1 hP hD hS 0 rfl rfl 20 (by decide) (hu _ u_1100) (fun _ h9 => h9) rfl (tyX9_ok 20 (by decide)) rfl rfl (Nat.le_of_ble_eq_true rfl) dX9_init_101 (fun H locs hP hD hS => ?_)
  have hP : va_P D vwCl [(md, .inr (9, [.int 0, .ref q_1, .ref q_2, .ref q_3, .int 0, .ref q_4, .ref q_5, .ref q_6, .ref q_7, .int 0, .int 0, .int 0, .ref q_8, .int 0, .ref q_9, .ref q_10, .ref q_11, .int 0, .ref q_12, .int 0, .int (-1), .int 0, .null, .null, .null])), (q_1, aI cs 51207 (fun _ => 0)), (q_2, aI cs 170690 (fun _ => 0)), (q_3, aI cs 17069 (fun _ => 0)), (q_4, aZ cs 2 (fun _ => 0)), (q_5, aI cs 60 (fun _ => 0)), (q_6, aI cs 8 (fun _ => 0)), (q_7, aI cs 40 (fun _ => 0)), (q_8, aZ cs 1930 (fun _ => 0)), (q_9, aI cs 4 (fun _ => 0)), (q_10, aI cs 3 (fun _ => 0)), (q_11, aZ cs 8 (fun _ => 0)), (q_12, aI cs 40 (fun _ => 0))] H := hP
  have hD : va_D A [(md, .inr (9, [.int 0, .ref q_1, .ref q_2, .ref q_3, .int 0, .ref q_4, .ref q_5, .ref q_6, .ref q_7, .int 0, .int 0, .int 0, .ref q_8, .int 0, .ref q_9, .ref q_10, .ref q_11, .int 0, .ref q_12, .int 0, .int (-1), .int 0, .null, .null, .null])), (q_1, aI cs 51207 (fun _ => 0)), (q_2, aI cs 170690 (fun _ => 0)), (q_3, aI cs 17069 (fun _ => 0)), (q_4, aZ cs 2 (fun _ => 0)), (q_5, aI cs 60 (fun _ => 0)), (q_6, aI cs 8 (fun _ => 0)), (q_7, aI cs 40 (fun _ => 0)), (q_8, aZ cs 1930 (fun _ => 0)), (q_9, aI cs 4 (fun _ => 0)), (q_10, aI cs 3 (fun _ => 0)), (q_11, aZ cs 8 (fun _ => 0)), (q_12, aI cs 40 (fun _ => 0))] := hD
  refine lv_aload_n hx hb dX9_init_104 rfl (lv_at hl 0 rfl) ?_
  refine lv_bipush (v := 20) hx hb dX9_init_105 (by decide) ?_
  refine knewa (k := 1) (atype := .boolean) (ty := .boolean) (Nn := 20) (a0 := (20, .inl (fun _ => 0))) hx hb hu u_140 rfl hK rfl (fun _ _ h => h) hP hD hS hA (fun _ => rfl) (by decide) (by decide) (Nat.le_of_ble_eq_true rfl) (Nat.le_of_ble_eq_true rfl) (Nat.le_of_ble_eq_true rfl) dX9_init_107 (fun q_13 H hP hD hS => ?_)
  have hP : va_P D vwCl [(md, .inr (9, [.int 0, .ref q_1, .ref q_2, .ref q_3, .int 0, .ref q_4, .ref q_5, .ref q_6, .ref q_7, .int 0, .int 0, .int 0, .ref q_8, .int 0, .ref q_9, .ref q_10, .ref q_11, .int 0, .ref q_12, .int 0, .int (-1), .int 0, .null, .null, .null])), (q_1, aI cs 51207 (fun _ => 0)), (q_2, aI cs 170690 (fun _ => 0)), (q_3, aI cs 17069 (fun _ => 0)), (q_4, aZ cs 2 (fun _ => 0)), (q_5, aI cs 60 (fun _ => 0)), (q_6, aI cs 8 (fun _ => 0)), (q_7, aI cs 40 (fun _ => 0)), (q_8, aZ cs 1930 (fun _ => 0)), (q_9, aI cs 4 (fun _ => 0)), (q_10, aI cs 3 (fun _ => 0)), (q_11, aZ cs 8 (fun _ => 0)), (q_12, aI cs 40 (fun _ => 0)), (q_13, aZ cs 20 (fun _ => 0))] H := hP
  have hD : va_D A [(md, .inr (9, [.int 0, .ref q_1, .ref q_2, .ref q_3, .int 0, .ref q_4, .ref q_5, .ref q_6, .ref q_7, .int 0, .int 0, .int 0, .ref q_8, .int 0, .ref q_9, .ref q_10, .ref q_11, .int 0, .ref q_12, .int 0, .int (-1), .int 0, .null, .null, .null])), (q_1, aI cs 51207 (fun _ => 0)), (q_2, aI cs 170690 (fun _ => 0)), (q_3, aI cs 17069 (fun _ => 0)), (q_4, aZ cs 2 (fun _ => 0)), (q_5, aI cs 60 (fun _ => 0)), (q_6, aI cs 8 (fun _ => 0)), (q_7, aI cs 40 (fun _ => 0)), (q_8, aZ cs 1930 (fun _ => 0)), (q_9, aI cs 4 (fun _ => 0)), (q_10, aI cs 3 (fun _ => 0)), (q_11, aZ cs 8 (fun _ => 0)), (q_12, aI cs 40 (fun _ => 0)), (q_13, aZ cs 20 (fun _ => 0))] := hD
  refine va_putF (D := D) (ci := 9) (v := .ref q_13) (ty := tyX9 22) (C := RX9) (T := TX9) (N := 25) hx hb hu in_X9 tyX9 tyX9_ok nmX9 hown hK.1 hP hD hS 0 rfl rfl 22 (by decide) (hu _ u_1102) (fun _ h9 => h9) rfl hin rfl (tyX9_ok 22 (by decide)) rfl rfl (Nat.le_of_ble_eq_true rfl) dX9_init_109 (fun H locs hP hD hS => ?_)
  have hP : va_P D vwCl [(md, .inr (9, [.int 0, .ref q_1, .ref q_2, .ref q_3, .int 0, .ref q_4, .ref q_5, .ref q_6, .ref q_7, .int 0, .int 0, .int 0, .ref q_8, .int 0, .ref q_9, .ref q_10, .ref q_11, .int 0, .ref q_12, .int 0, .int (-1), .int 0, .ref q_13, .null, .null])), (q_1, aI cs 51207 (fun _ => 0)), (q_2, aI cs 170690 (fun _ => 0)), (q_3, aI cs 17069 (fun _ => 0)), (q_4, aZ cs 2 (fun _ => 0)), (q_5, aI cs 60 (fun _ => 0)), (q_6, aI cs 8 (fun _ => 0)), (q_7, aI cs 40 (fun _ => 0)), (q_8, aZ cs 1930 (fun _ => 0)), (q_9, aI cs 4 (fun _ => 0)), (q_10, aI cs 3 (fun _ => 0)), (q_11, aZ cs 8 (fun _ => 0)), (q_12, aI cs 40 (fun _ => 0)), (q_13, aZ cs 20 (fun _ => 0))] H := hP
  have hD : va_D A [(md, .inr (9, [.int 0, .ref q_1, .ref q_2, .ref q_3, .int 0, .ref q_4, .ref q_5, .ref q_6, .ref q_7, .int 0, .int 0, .int 0, .ref q_8, .int 0, .ref q_9, .ref q_10, .ref q_11, .int 0, .ref q_12, .int 0, .int (-1), .int 0, .ref q_13, .null, .null])), (q_1, aI cs 51207 (fun _ => 0)), (q_2, aI cs 170690 (fun _ => 0)), (q_3, aI cs 17069 (fun _ => 0)), (q_4, aZ cs 2 (fun _ => 0)), (q_5, aI cs 60 (fun _ => 0)), (q_6, aI cs 8 (fun _ => 0)), (q_7, aI cs 40 (fun _ => 0)), (q_8, aZ cs 1930 (fun _ => 0)), (q_9, aI cs 4 (fun _ => 0)), (q_10, aI cs 3 (fun _ => 0)), (q_11, aZ cs 8 (fun _ => 0)), (q_12, aI cs 40 (fun _ => 0)), (q_13, aZ cs 20 (fun _ => 0))] := hD
  refine lv_aload_n hx hb dX9_init_112 rfl (lv_at hl 0 rfl) ?_
  refine lv_sipush (v := 240) hx hb dX9_init_113 (by decide) ?_
  refine knewa (k := 0) (atype := .int) (ty := .int) (Nn := 240) (a0 := (240, .inl (fun _ => 0))) hx hb hu u_105 rfl hK rfl (fun _ _ h => h) hP hD hS hA (fun _ => rfl) (by decide) (by decide) (Nat.le_of_ble_eq_true rfl) (Nat.le_of_ble_eq_true rfl) (Nat.le_of_ble_eq_true rfl) dX9_init_116 (fun q_14 H hP hD hS => ?_)
  have hP : va_P D vwCl [(md, .inr (9, [.int 0, .ref q_1, .ref q_2, .ref q_3, .int 0, .ref q_4, .ref q_5, .ref q_6, .ref q_7, .int 0, .int 0, .int 0, .ref q_8, .int 0, .ref q_9, .ref q_10, .ref q_11, .int 0, .ref q_12, .int 0, .int (-1), .int 0, .ref q_13, .null, .null])), (q_1, aI cs 51207 (fun _ => 0)), (q_2, aI cs 170690 (fun _ => 0)), (q_3, aI cs 17069 (fun _ => 0)), (q_4, aZ cs 2 (fun _ => 0)), (q_5, aI cs 60 (fun _ => 0)), (q_6, aI cs 8 (fun _ => 0)), (q_7, aI cs 40 (fun _ => 0)), (q_8, aZ cs 1930 (fun _ => 0)), (q_9, aI cs 4 (fun _ => 0)), (q_10, aI cs 3 (fun _ => 0)), (q_11, aZ cs 8 (fun _ => 0)), (q_12, aI cs 40 (fun _ => 0)), (q_13, aZ cs 20 (fun _ => 0)), (q_14, aI cs 240 (fun _ => 0))] H := hP
  have hD : va_D A [(md, .inr (9, [.int 0, .ref q_1, .ref q_2, .ref q_3, .int 0, .ref q_4, .ref q_5, .ref q_6, .ref q_7, .int 0, .int 0, .int 0, .ref q_8, .int 0, .ref q_9, .ref q_10, .ref q_11, .int 0, .ref q_12, .int 0, .int (-1), .int 0, .ref q_13, .null, .null])), (q_1, aI cs 51207 (fun _ => 0)), (q_2, aI cs 170690 (fun _ => 0)), (q_3, aI cs 17069 (fun _ => 0)), (q_4, aZ cs 2 (fun _ => 0)), (q_5, aI cs 60 (fun _ => 0)), (q_6, aI cs 8 (fun _ => 0)), (q_7, aI cs 40 (fun _ => 0)), (q_8, aZ cs 1930 (fun _ => 0)), (q_9, aI cs 4 (fun _ => 0)), (q_10, aI cs 3 (fun _ => 0)), (q_11, aZ cs 8 (fun _ => 0)), (q_12, aI cs 40 (fun _ => 0)), (q_13, aZ cs 20 (fun _ => 0)), (q_14, aI cs 240 (fun _ => 0))] := hD
  refine va_putF (D := D) (ci := 9) (v := .ref q_14) (ty := tyX9 23) (C := RX9) (T := TX9) (N := 25) hx hb hu in_X9 tyX9 tyX9_ok nmX9 hown hK.1 hP hD hS 0 rfl rfl 23 (by decide) (hu _ u_1103) (fun _ h9 => h9) rfl hin rfl (tyX9_ok 23 (by decide)) rfl rfl (Nat.le_of_ble_eq_true rfl) dX9_init_118 (fun H locs hP hD hS => ?_)
  have hP : va_P D vwCl [(md, .inr (9, [.int 0, .ref q_1, .ref q_2, .ref q_3, .int 0, .ref q_4, .ref q_5, .ref q_6, .ref q_7, .int 0, .int 0, .int 0, .ref q_8, .int 0, .ref q_9, .ref q_10, .ref q_11, .int 0, .ref q_12, .int 0, .int (-1), .int 0, .ref q_13, .ref q_14, .null])), (q_1, aI cs 51207 (fun _ => 0)), (q_2, aI cs 170690 (fun _ => 0)), (q_3, aI cs 17069 (fun _ => 0)), (q_4, aZ cs 2 (fun _ => 0)), (q_5, aI cs 60 (fun _ => 0)), (q_6, aI cs 8 (fun _ => 0)), (q_7, aI cs 40 (fun _ => 0)), (q_8, aZ cs 1930 (fun _ => 0)), (q_9, aI cs 4 (fun _ => 0)), (q_10, aI cs 3 (fun _ => 0)), (q_11, aZ cs 8 (fun _ => 0)), (q_12, aI cs 40 (fun _ => 0)), (q_13, aZ cs 20 (fun _ => 0)), (q_14, aI cs 240 (fun _ => 0))] H := hP
  have hD : va_D A [(md, .inr (9, [.int 0, .ref q_1, .ref q_2, .ref q_3, .int 0, .ref q_4, .ref q_5, .ref q_6, .ref q_7, .int 0, .int 0, .int 0, .ref q_8, .int 0, .ref q_9, .ref q_10, .ref q_11, .int 0, .ref q_12, .int 0, .int (-1), .int 0, .ref q_13, .ref q_14, .null])), (q_1, aI cs 51207 (fun _ => 0)), (q_2, aI cs 170690 (fun _ => 0)), (q_3, aI cs 17069 (fun _ => 0)), (q_4, aZ cs 2 (fun _ => 0)), (q_5, aI cs 60 (fun _ => 0)), (q_6, aI cs 8 (fun _ => 0)), (q_7, aI cs 40 (fun _ => 0)), (q_8, aZ cs 1930 (fun _ => 0)), (q_9, aI cs 4 (fun _ => 0)), (q_10, aI cs 3 (fun _ => 0)), (q_11, aZ cs 8 (fun _ => 0)), (q_12, aI cs 40 (fun _ => 0)), (q_13, aZ cs 20 (fun _ => 0)), (q_14, aI cs 240 (fun _ => 0))] := hD
  refine lv_aload_n hx hb dX9_init_121 rfl (lv_at hl 0 rfl) ?_
  refine lv_sipush (v := 240) hx hb dX9_init_122 (by decide) ?_
  refine knewa (k := 0) (atype := .int) (ty := .int) (Nn := 240) (a0 := (240, .inl (fun _ => 0))) hx hb hu u_105 rfl hK rfl (fun _ _ h => h) hP hD hS hA (fun _ => rfl) (by decide) (by decide) (Nat.le_of_ble_eq_true rfl) (Nat.le_of_ble_eq_true rfl) (Nat.le_of_ble_eq_true rfl) dX9_init_125 (fun q_15 H hP hD hS => ?_)
  have hP : va_P D vwCl [(md, .inr (9, [.int 0, .ref q_1, .ref q_2, .ref q_3, .int 0, .ref q_4, .ref q_5, .ref q_6, .ref q_7, .int 0, .int 0, .int 0, .ref q_8, .int 0, .ref q_9, .ref q_10, .ref q_11, .int 0, .ref q_12, .int 0, .int (-1), .int 0, .ref q_13, .ref q_14, .null])), (q_1, aI cs 51207 (fun _ => 0)), (q_2, aI cs 170690 (fun _ => 0)), (q_3, aI cs 17069 (fun _ => 0)), (q_4, aZ cs 2 (fun _ => 0)), (q_5, aI cs 60 (fun _ => 0)), (q_6, aI cs 8 (fun _ => 0)), (q_7, aI cs 40 (fun _ => 0)), (q_8, aZ cs 1930 (fun _ => 0)), (q_9, aI cs 4 (fun _ => 0)), (q_10, aI cs 3 (fun _ => 0)), (q_11, aZ cs 8 (fun _ => 0)), (q_12, aI cs 40 (fun _ => 0)), (q_13, aZ cs 20 (fun _ => 0)), (q_14, aI cs 240 (fun _ => 0)), (q_15, aI cs 240 (fun _ => 0))] H := hP
  have hD : va_D A [(md, .inr (9, [.int 0, .ref q_1, .ref q_2, .ref q_3, .int 0, .ref q_4, .ref q_5, .ref q_6, .ref q_7, .int 0, .int 0, .int 0, .ref q_8, .int 0, .ref q_9, .ref q_10, .ref q_11, .int 0, .ref q_12, .int 0, .int (-1), .int 0, .ref q_13, .ref q_14, .null])), (q_1, aI cs 51207 (fun _ => 0)), (q_2, aI cs 170690 (fun _ => 0)), (q_3, aI cs 17069 (fun _ => 0)), (q_4, aZ cs 2 (fun _ => 0)), (q_5, aI cs 60 (fun _ => 0)), (q_6, aI cs 8 (fun _ => 0)), (q_7, aI cs 40 (fun _ => 0)), (q_8, aZ cs 1930 (fun _ => 0)), (q_9, aI cs 4 (fun _ => 0)), (q_10, aI cs 3 (fun _ => 0)), (q_11, aZ cs 8 (fun _ => 0)), (q_12, aI cs 40 (fun _ => 0)), (q_13, aZ cs 20 (fun _ => 0)), (q_14, aI cs 240 (fun _ => 0)), (q_15, aI cs 240 (fun _ => 0))] := hD
  refine va_putF (D := D) (ci := 9) (v := .ref q_15) (ty := tyX9 24) (C := RX9) (T := TX9) (N := 25) hx hb hu in_X9 tyX9 tyX9_ok nmX9 hown hK.1 hP hD hS 0 rfl rfl 24 (by decide) (hu _ u_1104) (fun _ h9 => h9) rfl hin rfl (tyX9_ok 24 (by decide)) rfl rfl (Nat.le_of_ble_eq_true rfl) dX9_init_127 (fun H locs hP hD hS => ?_)
  have hP : va_P D vwCl [(md, .inr (9, [.int 0, .ref q_1, .ref q_2, .ref q_3, .int 0, .ref q_4, .ref q_5, .ref q_6, .ref q_7, .int 0, .int 0, .int 0, .ref q_8, .int 0, .ref q_9, .ref q_10, .ref q_11, .int 0, .ref q_12, .int 0, .int (-1), .int 0, .ref q_13, .ref q_14, .ref q_15])), (q_1, aI cs 51207 (fun _ => 0)), (q_2, aI cs 170690 (fun _ => 0)), (q_3, aI cs 17069 (fun _ => 0)), (q_4, aZ cs 2 (fun _ => 0)), (q_5, aI cs 60 (fun _ => 0)), (q_6, aI cs 8 (fun _ => 0)), (q_7, aI cs 40 (fun _ => 0)), (q_8, aZ cs 1930 (fun _ => 0)), (q_9, aI cs 4 (fun _ => 0)), (q_10, aI cs 3 (fun _ => 0)), (q_11, aZ cs 8 (fun _ => 0)), (q_12, aI cs 40 (fun _ => 0)), (q_13, aZ cs 20 (fun _ => 0)), (q_14, aI cs 240 (fun _ => 0)), (q_15, aI cs 240 (fun _ => 0))] H := hP
  have hD : va_D A [(md, .inr (9, [.int 0, .ref q_1, .ref q_2, .ref q_3, .int 0, .ref q_4, .ref q_5, .ref q_6, .ref q_7, .int 0, .int 0, .int 0, .ref q_8, .int 0, .ref q_9, .ref q_10, .ref q_11, .int 0, .ref q_12, .int 0, .int (-1), .int 0, .ref q_13, .ref q_14, .ref q_15])), (q_1, aI cs 51207 (fun _ => 0)), (q_2, aI cs 170690 (fun _ => 0)), (q_3, aI cs 17069 (fun _ => 0)), (q_4, aZ cs 2 (fun _ => 0)), (q_5, aI cs 60 (fun _ => 0)), (q_6, aI cs 8 (fun _ => 0)), (q_7, aI cs 40 (fun _ => 0)), (q_8, aZ cs 1930 (fun _ => 0)), (q_9, aI cs 4 (fun _ => 0)), (q_10, aI cs 3 (fun _ => 0)), (q_11, aZ cs 8 (fun _ => 0)), (q_12, aI cs 40 (fun _ => 0)), (q_13, aZ cs 20 (fun _ => 0)), (q_14, aI cs 240 (fun _ => 0)), (q_15, aI cs 240 (fun _ => 0))] := hD
  refine lv_aload_n hx hb dX9_init_130 rfl (lv_at hl 0 rfl) ?_
  refine va_get (D := D) (ci := 9) (v := .ref q_1) (C := RX9) (T := TX9) (N := 25) hx hb hu in_X9 hown hK.1 hP 0 rfl rfl 1 (by decide) (hu _ u_1081) (fun _ h9 => h9) rfl dX9_init_131 ?_
  refine lv_iconst (v := 1) hx hb dX9_init_134 (by decide) ?_
  refine lv_iconst (v := (-1)) hx hb dX9_init_135 (by decide) ?_
  refine va_iast hx hb hK.1 hP hD hS 1 0 rfl rfl (vin_c _ _ rfl) dX9_init_136 (fun H locs hP hD hS => ?_)
  have hP : va_P D vwCl [(md, .inr (9, [.int 0, .ref q_1, .ref q_2, .ref q_3, .int 0, .ref q_4, .ref q_5, .ref q_6, .ref q_7, .int 0, .int 0, .int 0, .ref q_8, .int 0, .ref q_9, .ref q_10, .ref q_11, .int 0, .ref q_12, .int 0, .int (-1), .int 0, .ref q_13, .ref q_14, .ref q_15])), (q_1, aI cs 51207 (upd (fun _ => 0) (1 : Int32).toNatClampNeg (-1))), (q_2, aI cs 170690 (fun _ => 0)), (q_3, aI cs 17069 (fun _ => 0)), (q_4, aZ cs 2 (fun _ => 0)), (q_5, aI cs 60 (fun _ => 0)), (q_6, aI cs 8 (fun _ => 0)), (q_7, aI cs 40 (fun _ => 0)), (q_8, aZ cs 1930 (fun _ => 0)), (q_9, aI cs 4 (fun _ => 0)), (q_10, aI cs 3 (fun _ => 0)), (q_11, aZ cs 8 (fun _ => 0)), (q_12, aI cs 40 (fun _ => 0)), (q_13, aZ cs 20 (fun _ => 0)), (q_14, aI cs 240 (fun _ => 0)), (q_15, aI cs 240 (fun _ => 0))] H := hP
  have hD : va_D A [(md, .inr (9, [.int 0, .ref q_1, .ref q_2, .ref q_3, .int 0, .ref q_4, .ref q_5, .ref q_6, .ref q_7, .int 0, .int 0, .int 0, .ref q_8, .int 0, .ref q_9, .ref q_10, .ref q_11, .int 0, .ref q_12, .int 0, .int (-1), .int 0, .ref q_13, .ref q_14, .ref q_15])), (q_1, aI cs 51207 (upd (fun _ => 0) (1 : Int32).toNatClampNeg (-1))), (q_2, aI cs 170690 (fun _ => 0)), (q_3, aI cs 17069 (fun _ => 0)), (q_4, aZ cs 2 (fun _ => 0)), (q_5, aI cs 60 (fun _ => 0)), (q_6, aI cs 8 (fun _ => 0)), (q_7, aI cs 40 (fun _ => 0)), (q_8, aZ cs 1930 (fun _ => 0)), (q_9, aI cs 4 (fun _ => 0)), (q_10, aI cs 3 (fun _ => 0)), (q_11, aZ cs 8 (fun _ => 0)), (q_12, aI cs 40 (fun _ => 0)), (q_13, aZ cs 20 (fun _ => 0)), (q_14, aI cs 240 (fun _ => 0)), (q_15, aI cs 240 (fun _ => 0))] := hD
  refine lv_iconst (v := 0) hx hb dX9_init_137 (by decide) ?_
  refine lv_istore_n (lv' := [(1, .int 0), (0, .ref md)]) hx hb dX9_init_138 rfl hl (by decide) rfl (fun ls hl => ?_)
  refine lv_iload_n hx hb dX9_init_139 rfl (lv_at hl 0 rfl) ?_
  refine lv_iconst (v := 4) hx hb dX9_init_140 (by decide) ?_
  refine lv_icmp_ge (tgt := 160) hx hb dX9_init_141 (by decide) (fun c_16 => absurd c_16 (by decide)) (fun c_16 => ?_)
  refine lv_aload_n hx hb dX9_init_144 rfl (lv_at hl 1 rfl) ?_
  refine va_get (D := D) (ci := 9) (v := .ref q_1) (C := RX9) (T := TX9) (N := 25) hx hb hu in_X9 hown hK.1 hP 0 rfl rfl 1 (by decide) (hu _ u_1081) (fun _ h9 => h9) rfl dX9_init_145 ?_
  refine lv_bipush (v := 55) hx hb dX9_init_148 (by decide) ?_
  refine lv_iload_n hx hb dX9_init_150 rfl (lv_at hl 0 rfl) ?_
  refine lv_iadd hx hb dX9_init_151 ?_
  refine tpi (y := 55) (by decide) ?_
  refine lv_iconst (v := (-1)) hx hb dX9_init_152 (by decide) ?_
  refine va_iast hx hb hK.1 hP hD hS 1 0 rfl rfl (vin_c _ _ rfl) dX9_init_153 (fun H locs hP hD hS => ?_)
  have hP : va_P D vwCl [(md, .inr (9, [.int 0, .ref q_1, .ref q_2, .ref q_3, .int 0, .ref q_4, .ref q_5, .ref q_6, .ref q_7, .int 0, .int 0, .int 0, .ref q_8, .int 0, .ref q_9, .ref q_10, .ref q_11, .int 0, .ref q_12, .int 0, .int (-1), .int 0, .ref q_13, .ref q_14, .ref q_15])), (q_1, aI cs 51207 (upd (upd (fun _ => 0) (1 : Int32).toNatClampNeg (-1)) (55 : Int32).toNatClampNeg (-1))), (q_2, aI cs 170690 (fun _ => 0)), (q_3, aI cs 17069 (fun _ => 0)), (q_4, aZ cs 2 (fun _ => 0)), (q_5, aI cs 60 (fun _ => 0)), (q_6, aI cs 8 (fun _ => 0)), (q_7, aI cs 40 (fun _ => 0)), (q_8, aZ cs 1930 (fun _ => 0)), (q_9, aI cs 4 (fun _ => 0)), (q_10, aI cs 3 (fun _ => 0)), (q_11, aZ cs 8 (fun _ => 0)), (q_12, aI cs 40 (fun _ => 0)), (q_13, aZ cs 20 (fun _ => 0)), (q_14, aI cs 240 (fun _ => 0)), (q_15, aI cs 240 (fun _ => 0))] H := hP
  have hD : va_D A [(md, .inr (9, [.int 0, .ref q_1, .ref q_2, .ref q_3, .int 0, .ref q_4, .ref q_5, .ref q_6, .ref q_7, .int 0, .int 0, .int 0, .ref q_8, .int 0, .ref q_9, .ref q_10, .ref q_11, .int 0, .ref q_12, .int 0, .int (-1), .int 0, .ref q_13, .ref q_14, .ref q_15])), (q_1, aI cs 51207 (upd (upd (fun _ => 0) (1 : Int32).toNatClampNeg (-1)) (55 : Int32).toNatClampNeg (-1))), (q_2, aI cs 170690 (fun _ => 0)), (q_3, aI cs 17069 (fun _ => 0)), (q_4, aZ cs 2 (fun _ => 0)), (q_5, aI cs 60 (fun _ => 0)), (q_6, aI cs 8 (fun _ => 0)), (q_7, aI cs 40 (fun _ => 0)), (q_8, aZ cs 1930 (fun _ => 0)), (q_9, aI cs 4 (fun _ => 0)), (q_10, aI cs 3 (fun _ => 0)), (q_11, aZ cs 8 (fun _ => 0)), (q_12, aI cs 40 (fun _ => 0)), (q_13, aZ cs 20 (fun _ => 0)), (q_14, aI cs 240 (fun _ => 0)), (q_15, aI cs 240 (fun _ => 0))] := hD
  refine lv_iinc (v := 1) (lv' := [(1, .int 1), (0, .ref md)]) hx hb dX9_init_154 hl (k := 0) rfl (by decide) (by decide) rfl (fun ls hl => ?_)
  refine lv_goto (tgt := 139) hx hb dX9_init_157 (by decide) ?_
  refine lv_iload_n hx hb dX9_init_139 rfl (lv_at hl 0 rfl) ?_
  refine lv_iconst (v := 4) hx hb dX9_init_140 (by decide) ?_
  refine lv_icmp_ge (tgt := 160) hx hb dX9_init_141 (by decide) (fun c_17 => absurd c_17 (by decide)) (fun c_17 => ?_)
  refine lv_aload_n hx hb dX9_init_144 rfl (lv_at hl 1 rfl) ?_
  refine va_get (D := D) (ci := 9) (v := .ref q_1) (C := RX9) (T := TX9) (N := 25) hx hb hu in_X9 hown hK.1 hP 0 rfl rfl 1 (by decide) (hu _ u_1081) (fun _ h9 => h9) rfl dX9_init_145 ?_
  refine lv_bipush (v := 55) hx hb dX9_init_148 (by decide) ?_
  refine lv_iload_n hx hb dX9_init_150 rfl (lv_at hl 0 rfl) ?_
  refine lv_iadd hx hb dX9_init_151 ?_
  refine tpi (y := 56) (by decide) ?_
  refine lv_iconst (v := (-1)) hx hb dX9_init_152 (by decide) ?_
  refine va_iast hx hb hK.1 hP hD hS 1 0 rfl rfl (vin_c _ _ rfl) dX9_init_153 (fun H locs hP hD hS => ?_)
  have hP : va_P D vwCl [(md, .inr (9, [.int 0, .ref q_1, .ref q_2, .ref q_3, .int 0, .ref q_4, .ref q_5, .ref q_6, .ref q_7, .int 0, .int 0, .int 0, .ref q_8, .int 0, .ref q_9, .ref q_10, .ref q_11, .int 0, .ref q_12, .int 0, .int (-1), .int 0, .ref q_13, .ref q_14, .ref q_15])), (q_1, aI cs 51207 (upd (upd (upd (fun _ => 0) (1 : Int32).toNatClampNeg (-1)) (55 : Int32).toNatClampNeg (-1)) (56 : Int32).toNatClampNeg (-1))), (q_2, aI cs 170690 (fun _ => 0)), (q_3, aI cs 17069 (fun _ => 0)), (q_4, aZ cs 2 (fun _ => 0)), (q_5, aI cs 60 (fun _ => 0)), (q_6, aI cs 8 (fun _ => 0)), (q_7, aI cs 40 (fun _ => 0)), (q_8, aZ cs 1930 (fun _ => 0)), (q_9, aI cs 4 (fun _ => 0)), (q_10, aI cs 3 (fun _ => 0)), (q_11, aZ cs 8 (fun _ => 0)), (q_12, aI cs 40 (fun _ => 0)), (q_13, aZ cs 20 (fun _ => 0)), (q_14, aI cs 240 (fun _ => 0)), (q_15, aI cs 240 (fun _ => 0))] H := hP
  have hD : va_D A [(md, .inr (9, [.int 0, .ref q_1, .ref q_2, .ref q_3, .int 0, .ref q_4, .ref q_5, .ref q_6, .ref q_7, .int 0, .int 0, .int 0, .ref q_8, .int 0, .ref q_9, .ref q_10, .ref q_11, .int 0, .ref q_12, .int 0, .int (-1), .int 0, .ref q_13, .ref q_14, .ref q_15])), (q_1, aI cs 51207 (upd (upd (upd (fun _ => 0) (1 : Int32).toNatClampNeg (-1)) (55 : Int32).toNatClampNeg (-1)) (56 : Int32).toNatClampNeg (-1))), (q_2, aI cs 170690 (fun _ => 0)), (q_3, aI cs 17069 (fun _ => 0)), (q_4, aZ cs 2 (fun _ => 0)), (q_5, aI cs 60 (fun _ => 0)), (q_6, aI cs 8 (fun _ => 0)), (q_7, aI cs 40 (fun _ => 0)), (q_8, aZ cs 1930 (fun _ => 0)), (q_9, aI cs 4 (fun _ => 0)), (q_10, aI cs 3 (fun _ => 0)), (q_11, aZ cs 8 (fun _ => 0)), (q_12, aI cs 40 (fun _ => 0)), (q_13, aZ cs 20 (fun _ => 0)), (q_14, aI cs 240 (fun _ => 0)), (q_15, aI cs 240 (fun _ => 0))] := hD
  refine lv_iinc (v := 2) (lv' := [(1, .int 2), (0, .ref md)]) hx hb dX9_init_154 hl (k := 0) rfl (by decide) (by decide) rfl (fun ls hl => ?_)
  refine lv_goto (tgt := 139) hx hb dX9_init_157 (by decide) ?_
  refine lv_iload_n hx hb dX9_init_139 rfl (lv_at hl 0 rfl) ?_
  refine lv_iconst (v := 4) hx hb dX9_init_140 (by decide) ?_
  refine lv_icmp_ge (tgt := 160) hx hb dX9_init_141 (by decide) (fun c_18 => absurd c_18 (by decide)) (fun c_18 => ?_)
  refine lv_aload_n hx hb dX9_init_144 rfl (lv_at hl 1 rfl) ?_
  refine va_get (D := D) (ci := 9) (v := .ref q_1) (C := RX9) (T := TX9) (N := 25) hx hb hu in_X9 hown hK.1 hP 0 rfl rfl 1 (by decide) (hu _ u_1081) (fun _ h9 => h9) rfl dX9_init_145 ?_
  refine lv_bipush (v := 55) hx hb dX9_init_148 (by decide) ?_
  refine lv_iload_n hx hb dX9_init_150 rfl (lv_at hl 0 rfl) ?_
  refine lv_iadd hx hb dX9_init_151 ?_
  refine tpi (y := 57) (by decide) ?_
  refine lv_iconst (v := (-1)) hx hb dX9_init_152 (by decide) ?_
  refine va_iast hx hb hK.1 hP hD hS 1 0 rfl rfl (vin_c _ _ rfl) dX9_init_153 (fun H locs hP hD hS => ?_)
  have hP : va_P D vwCl [(md, .inr (9, [.int 0, .ref q_1, .ref q_2, .ref q_3, .int 0, .ref q_4, .ref q_5, .ref q_6, .ref q_7, .int 0, .int 0, .int 0, .ref q_8, .int 0, .ref q_9, .ref q_10, .ref q_11, .int 0, .ref q_12, .int 0, .int (-1), .int 0, .ref q_13, .ref q_14, .ref q_15])), (q_1, aI cs 51207 (upd (upd (upd (upd (fun _ => 0) (1 : Int32).toNatClampNeg (-1)) (55 : Int32).toNatClampNeg (-1)) (56 : Int32).toNatClampNeg (-1)) (57 : Int32).toNatClampNeg (-1))), (q_2, aI cs 170690 (fun _ => 0)), (q_3, aI cs 17069 (fun _ => 0)), (q_4, aZ cs 2 (fun _ => 0)), (q_5, aI cs 60 (fun _ => 0)), (q_6, aI cs 8 (fun _ => 0)), (q_7, aI cs 40 (fun _ => 0)), (q_8, aZ cs 1930 (fun _ => 0)), (q_9, aI cs 4 (fun _ => 0)), (q_10, aI cs 3 (fun _ => 0)), (q_11, aZ cs 8 (fun _ => 0)), (q_12, aI cs 40 (fun _ => 0)), (q_13, aZ cs 20 (fun _ => 0)), (q_14, aI cs 240 (fun _ => 0)), (q_15, aI cs 240 (fun _ => 0))] H := hP
  have hD : va_D A [(md, .inr (9, [.int 0, .ref q_1, .ref q_2, .ref q_3, .int 0, .ref q_4, .ref q_5, .ref q_6, .ref q_7, .int 0, .int 0, .int 0, .ref q_8, .int 0, .ref q_9, .ref q_10, .ref q_11, .int 0, .ref q_12, .int 0, .int (-1), .int 0, .ref q_13, .ref q_14, .ref q_15])), (q_1, aI cs 51207 (upd (upd (upd (upd (fun _ => 0) (1 : Int32).toNatClampNeg (-1)) (55 : Int32).toNatClampNeg (-1)) (56 : Int32).toNatClampNeg (-1)) (57 : Int32).toNatClampNeg (-1))), (q_2, aI cs 170690 (fun _ => 0)), (q_3, aI cs 17069 (fun _ => 0)), (q_4, aZ cs 2 (fun _ => 0)), (q_5, aI cs 60 (fun _ => 0)), (q_6, aI cs 8 (fun _ => 0)), (q_7, aI cs 40 (fun _ => 0)), (q_8, aZ cs 1930 (fun _ => 0)), (q_9, aI cs 4 (fun _ => 0)), (q_10, aI cs 3 (fun _ => 0)), (q_11, aZ cs 8 (fun _ => 0)), (q_12, aI cs 40 (fun _ => 0)), (q_13, aZ cs 20 (fun _ => 0)), (q_14, aI cs 240 (fun _ => 0)), (q_15, aI cs 240 (fun _ => 0))] := hD
  refine lv_iinc (v := 3) (lv' := [(1, .int 3), (0, .ref md)]) hx hb dX9_init_154 hl (k := 0) rfl (by decide) (by decide) rfl (fun ls hl => ?_)
  refine lv_goto (tgt := 139) hx hb dX9_init_157 (by decide) ?_
  refine lv_iload_n hx hb dX9_init_139 rfl (lv_at hl 0 rfl) ?_
  refine lv_iconst (v := 4) hx hb dX9_init_140 (by decide) ?_
  refine lv_icmp_ge (tgt := 160) hx hb dX9_init_141 (by decide) (fun c_19 => absurd c_19 (by decide)) (fun c_19 => ?_)
  refine lv_aload_n hx hb dX9_init_144 rfl (lv_at hl 1 rfl) ?_
  refine va_get (D := D) (ci := 9) (v := .ref q_1) (C := RX9) (T := TX9) (N := 25) hx hb hu in_X9 hown hK.1 hP 0 rfl rfl 1 (by decide) (hu _ u_1081) (fun _ h9 => h9) rfl dX9_init_145 ?_
  refine lv_bipush (v := 55) hx hb dX9_init_148 (by decide) ?_
  refine lv_iload_n hx hb dX9_init_150 rfl (lv_at hl 0 rfl) ?_
  refine lv_iadd hx hb dX9_init_151 ?_
  refine tpi (y := 58) (by decide) ?_
  refine lv_iconst (v := (-1)) hx hb dX9_init_152 (by decide) ?_
  refine va_iast hx hb hK.1 hP hD hS 1 0 rfl rfl (vin_c _ _ rfl) dX9_init_153 (fun H locs hP hD hS => ?_)
  have hP : va_P D vwCl [(md, .inr (9, [.int 0, .ref q_1, .ref q_2, .ref q_3, .int 0, .ref q_4, .ref q_5, .ref q_6, .ref q_7, .int 0, .int 0, .int 0, .ref q_8, .int 0, .ref q_9, .ref q_10, .ref q_11, .int 0, .ref q_12, .int 0, .int (-1), .int 0, .ref q_13, .ref q_14, .ref q_15])), (q_1, aI cs 51207 (upd (upd (upd (upd (upd (fun _ => 0) (1 : Int32).toNatClampNeg (-1)) (55 : Int32).toNatClampNeg (-1)) (56 : Int32).toNatClampNeg (-1)) (57 : Int32).toNatClampNeg (-1)) (58 : Int32).toNatClampNeg (-1))), (q_2, aI cs 170690 (fun _ => 0)), (q_3, aI cs 17069 (fun _ => 0)), (q_4, aZ cs 2 (fun _ => 0)), (q_5, aI cs 60 (fun _ => 0)), (q_6, aI cs 8 (fun _ => 0)), (q_7, aI cs 40 (fun _ => 0)), (q_8, aZ cs 1930 (fun _ => 0)), (q_9, aI cs 4 (fun _ => 0)), (q_10, aI cs 3 (fun _ => 0)), (q_11, aZ cs 8 (fun _ => 0)), (q_12, aI cs 40 (fun _ => 0)), (q_13, aZ cs 20 (fun _ => 0)), (q_14, aI cs 240 (fun _ => 0)), (q_15, aI cs 240 (fun _ => 0))] H := hP
  have hD : va_D A [(md, .inr (9, [.int 0, .ref q_1, .ref q_2, .ref q_3, .int 0, .ref q_4, .ref q_5, .ref q_6, .ref q_7, .int 0, .int 0, .int 0, .ref q_8, .int 0, .ref q_9, .ref q_10, .ref q_11, .int 0, .ref q_12, .int 0, .int (-1), .int 0, .ref q_13, .ref q_14, .ref q_15])), (q_1, aI cs 51207 (upd (upd (upd (upd (upd (fun _ => 0) (1 : Int32).toNatClampNeg (-1)) (55 : Int32).toNatClampNeg (-1)) (56 : Int32).toNatClampNeg (-1)) (57 : Int32).toNatClampNeg (-1)) (58 : Int32).toNatClampNeg (-1))), (q_2, aI cs 170690 (fun _ => 0)), (q_3, aI cs 17069 (fun _ => 0)), (q_4, aZ cs 2 (fun _ => 0)), (q_5, aI cs 60 (fun _ => 0)), (q_6, aI cs 8 (fun _ => 0)), (q_7, aI cs 40 (fun _ => 0)), (q_8, aZ cs 1930 (fun _ => 0)), (q_9, aI cs 4 (fun _ => 0)), (q_10, aI cs 3 (fun _ => 0)), (q_11, aZ cs 8 (fun _ => 0)), (q_12, aI cs 40 (fun _ => 0)), (q_13, aZ cs 20 (fun _ => 0)), (q_14, aI cs 240 (fun _ => 0)), (q_15, aI cs 240 (fun _ => 0))] := hD
  refine lv_iinc (v := 4) (lv' := [(1, .int 4), (0, .ref md)]) hx hb dX9_init_154 hl (k := 0) rfl (by decide) (by decide) rfl (fun ls hl => ?_)
  refine lv_goto (tgt := 139) hx hb dX9_init_157 (by decide) ?_
  refine lv_iload_n hx hb dX9_init_139 rfl (lv_at hl 0 rfl) ?_
  refine lv_iconst (v := 4) hx hb dX9_init_140 (by decide) ?_
  refine lv_icmp_ge (tgt := 160) hx hb dX9_init_141 (by decide) (fun c_20 => ?_) (fun c_20 => absurd (by decide) c_20)
  refine lv_iconst (v := 0) hx hb dX9_init_160 (by decide) ?_
  refine lv_istore_n (lv' := [(1, .int 0), (0, .ref md)]) hx hb dX9_init_161 rfl hl (by decide) rfl (fun ls hl => ?_)
  refine lv_iload_n hx hb dX9_init_162 rfl (lv_at hl 0 rfl) ?_
  refine lv_iconst (v := 3) hx hb dX9_init_163 (by decide) ?_
  refine lv_icmp_ge (tgt := 188) hx hb dX9_init_164 (by decide) (fun c_21 => absurd c_21 (by decide)) (fun c_21 => ?_)
  refine lv_aload_n hx hb dX9_init_167 rfl (lv_at hl 1 rfl) ?_
  refine va_get (D := D) (ci := 9) (v := .ref q_1) (C := RX9) (T := TX9) (N := 25) hx hb hu in_X9 hown hK.1 hP 0 rfl rfl 1 (by decide) (hu _ u_1081) (fun _ h9 => h9) rfl dX9_init_168 ?_
  refine lv_bipush (v := 59) hx hb dX9_init_171 (by decide) ?_
  refine lv_bipush (v := 11) hx hb dX9_init_173 (by decide) ?_
  refine lv_iload_n hx hb dX9_init_175 rfl (lv_at hl 0 rfl) ?_
  refine lv_imul hx hb dX9_init_176 ?_
  refine tpi (y := 0) (by decide) ?_
  refine lv_iadd hx hb dX9_init_177 ?_
  refine tpi (y := 59) (by decide) ?_
  refine lv_iconst (v := 0) hx hb dX9_init_178 (by decide) ?_
  refine lv_iadd hx hb dX9_init_179 ?_
  refine tpi (y := 59) (by decide) ?_
  refine lv_iconst (v := (-1)) hx hb dX9_init_180 (by decide) ?_
  refine va_iast hx hb hK.1 hP hD hS 1 0 rfl rfl (vin_c _ _ rfl) dX9_init_181 (fun H locs hP hD hS => ?_)
  have hP : va_P D vwCl [(md, .inr (9, [.int 0, .ref q_1, .ref q_2, .ref q_3, .int 0, .ref q_4, .ref q_5, .ref q_6, .ref q_7, .int 0, .int 0, .int 0, .ref q_8, .int 0, .ref q_9, .ref q_10, .ref q_11, .int 0, .ref q_12, .int 0, .int (-1), .int 0, .ref q_13, .ref q_14, .ref q_15])), (q_1, aI cs 51207 (upd (upd (upd (upd (upd (upd (fun _ => 0) (1 : Int32).toNatClampNeg (-1)) (55 : Int32).toNatClampNeg (-1)) (56 : Int32).toNatClampNeg (-1)) (57 : Int32).toNatClampNeg (-1)) (58 : Int32).toNatClampNeg (-1)) (59 : Int32).toNatClampNeg (-1))), (q_2, aI cs 170690 (fun _ => 0)), (q_3, aI cs 17069 (fun _ => 0)), (q_4, aZ cs 2 (fun _ => 0)), (q_5, aI cs 60 (fun _ => 0)), (q_6, aI cs 8 (fun _ => 0)), (q_7, aI cs 40 (fun _ => 0)), (q_8, aZ cs 1930 (fun _ => 0)), (q_9, aI cs 4 (fun _ => 0)), (q_10, aI cs 3 (fun _ => 0)), (q_11, aZ cs 8 (fun _ => 0)), (q_12, aI cs 40 (fun _ => 0)), (q_13, aZ cs 20 (fun _ => 0)), (q_14, aI cs 240 (fun _ => 0)), (q_15, aI cs 240 (fun _ => 0))] H := hP
  have hD : va_D A [(md, .inr (9, [.int 0, .ref q_1, .ref q_2, .ref q_3, .int 0, .ref q_4, .ref q_5, .ref q_6, .ref q_7, .int 0, .int 0, .int 0, .ref q_8, .int 0, .ref q_9, .ref q_10, .ref q_11, .int 0, .ref q_12, .int 0, .int (-1), .int 0, .ref q_13, .ref q_14, .ref q_15])), (q_1, aI cs 51207 (upd (upd (upd (upd (upd (upd (fun _ => 0) (1 : Int32).toNatClampNeg (-1)) (55 : Int32).toNatClampNeg (-1)) (56 : Int32).toNatClampNeg (-1)) (57 : Int32).toNatClampNeg (-1)) (58 : Int32).toNatClampNeg (-1)) (59 : Int32).toNatClampNeg (-1))), (q_2, aI cs 170690 (fun _ => 0)), (q_3, aI cs 17069 (fun _ => 0)), (q_4, aZ cs 2 (fun _ => 0)), (q_5, aI cs 60 (fun _ => 0)), (q_6, aI cs 8 (fun _ => 0)), (q_7, aI cs 40 (fun _ => 0)), (q_8, aZ cs 1930 (fun _ => 0)), (q_9, aI cs 4 (fun _ => 0)), (q_10, aI cs 3 (fun _ => 0)), (q_11, aZ cs 8 (fun _ => 0)), (q_12, aI cs 40 (fun _ => 0)), (q_13, aZ cs 20 (fun _ => 0)), (q_14, aI cs 240 (fun _ => 0)), (q_15, aI cs 240 (fun _ => 0))] := hD
  refine lv_iinc (v := 1) (lv' := [(1, .int 1), (0, .ref md)]) hx hb dX9_init_182 hl (k := 0) rfl (by decide) (by decide) rfl (fun ls hl => ?_)
  refine lv_goto (tgt := 162) hx hb dX9_init_185 (by decide) ?_
  refine lv_iload_n hx hb dX9_init_162 rfl (lv_at hl 0 rfl) ?_
  refine lv_iconst (v := 3) hx hb dX9_init_163 (by decide) ?_
  refine lv_icmp_ge (tgt := 188) hx hb dX9_init_164 (by decide) (fun c_22 => absurd c_22 (by decide)) (fun c_22 => ?_)
  refine lv_aload_n hx hb dX9_init_167 rfl (lv_at hl 1 rfl) ?_
  refine va_get (D := D) (ci := 9) (v := .ref q_1) (C := RX9) (T := TX9) (N := 25) hx hb hu in_X9 hown hK.1 hP 0 rfl rfl 1 (by decide) (hu _ u_1081) (fun _ h9 => h9) rfl dX9_init_168 ?_
  refine lv_bipush (v := 59) hx hb dX9_init_171 (by decide) ?_
  refine lv_bipush (v := 11) hx hb dX9_init_173 (by decide) ?_
  refine lv_iload_n hx hb dX9_init_175 rfl (lv_at hl 0 rfl) ?_
  refine lv_imul hx hb dX9_init_176 ?_
  refine tpi (y := 11) (by decide) ?_
  refine lv_iadd hx hb dX9_init_177 ?_
  refine tpi (y := 70) (by decide) ?_
  refine lv_iconst (v := 0) hx hb dX9_init_178 (by decide) ?_
  refine lv_iadd hx hb dX9_init_179 ?_
  refine tpi (y := 70) (by decide) ?_
  refine lv_iconst (v := (-1)) hx hb dX9_init_180 (by decide) ?_
  refine va_iast hx hb hK.1 hP hD hS 1 0 rfl rfl (vin_c _ _ rfl) dX9_init_181 (fun H locs hP hD hS => ?_)
  have hP : va_P D vwCl [(md, .inr (9, [.int 0, .ref q_1, .ref q_2, .ref q_3, .int 0, .ref q_4, .ref q_5, .ref q_6, .ref q_7, .int 0, .int 0, .int 0, .ref q_8, .int 0, .ref q_9, .ref q_10, .ref q_11, .int 0, .ref q_12, .int 0, .int (-1), .int 0, .ref q_13, .ref q_14, .ref q_15])), (q_1, aI cs 51207 (upd (upd (upd (upd (upd (upd (upd (fun _ => 0) (1 : Int32).toNatClampNeg (-1)) (55 : Int32).toNatClampNeg (-1)) (56 : Int32).toNatClampNeg (-1)) (57 : Int32).toNatClampNeg (-1)) (58 : Int32).toNatClampNeg (-1)) (59 : Int32).toNatClampNeg (-1)) (70 : Int32).toNatClampNeg (-1))), (q_2, aI cs 170690 (fun _ => 0)), (q_3, aI cs 17069 (fun _ => 0)), (q_4, aZ cs 2 (fun _ => 0)), (q_5, aI cs 60 (fun _ => 0)), (q_6, aI cs 8 (fun _ => 0)), (q_7, aI cs 40 (fun _ => 0)), (q_8, aZ cs 1930 (fun _ => 0)), (q_9, aI cs 4 (fun _ => 0)), (q_10, aI cs 3 (fun _ => 0)), (q_11, aZ cs 8 (fun _ => 0)), (q_12, aI cs 40 (fun _ => 0)), (q_13, aZ cs 20 (fun _ => 0)), (q_14, aI cs 240 (fun _ => 0)), (q_15, aI cs 240 (fun _ => 0))] H := hP
  have hD : va_D A [(md, .inr (9, [.int 0, .ref q_1, .ref q_2, .ref q_3, .int 0, .ref q_4, .ref q_5, .ref q_6, .ref q_7, .int 0, .int 0, .int 0, .ref q_8, .int 0, .ref q_9, .ref q_10, .ref q_11, .int 0, .ref q_12, .int 0, .int (-1), .int 0, .ref q_13, .ref q_14, .ref q_15])), (q_1, aI cs 51207 (upd (upd (upd (upd (upd (upd (upd (fun _ => 0) (1 : Int32).toNatClampNeg (-1)) (55 : Int32).toNatClampNeg (-1)) (56 : Int32).toNatClampNeg (-1)) (57 : Int32).toNatClampNeg (-1)) (58 : Int32).toNatClampNeg (-1)) (59 : Int32).toNatClampNeg (-1)) (70 : Int32).toNatClampNeg (-1))), (q_2, aI cs 170690 (fun _ => 0)), (q_3, aI cs 17069 (fun _ => 0)), (q_4, aZ cs 2 (fun _ => 0)), (q_5, aI cs 60 (fun _ => 0)), (q_6, aI cs 8 (fun _ => 0)), (q_7, aI cs 40 (fun _ => 0)), (q_8, aZ cs 1930 (fun _ => 0)), (q_9, aI cs 4 (fun _ => 0)), (q_10, aI cs 3 (fun _ => 0)), (q_11, aZ cs 8 (fun _ => 0)), (q_12, aI cs 40 (fun _ => 0)), (q_13, aZ cs 20 (fun _ => 0)), (q_14, aI cs 240 (fun _ => 0)), (q_15, aI cs 240 (fun _ => 0))] := hD
  refine lv_iinc (v := 2) (lv' := [(1, .int 2), (0, .ref md)]) hx hb dX9_init_182 hl (k := 0) rfl (by decide) (by decide) rfl (fun ls hl => ?_)
  refine lv_goto (tgt := 162) hx hb dX9_init_185 (by decide) ?_
  refine lv_iload_n hx hb dX9_init_162 rfl (lv_at hl 0 rfl) ?_
  refine lv_iconst (v := 3) hx hb dX9_init_163 (by decide) ?_
  refine lv_icmp_ge (tgt := 188) hx hb dX9_init_164 (by decide) (fun c_23 => absurd c_23 (by decide)) (fun c_23 => ?_)
  refine lv_aload_n hx hb dX9_init_167 rfl (lv_at hl 1 rfl) ?_
  refine va_get (D := D) (ci := 9) (v := .ref q_1) (C := RX9) (T := TX9) (N := 25) hx hb hu in_X9 hown hK.1 hP 0 rfl rfl 1 (by decide) (hu _ u_1081) (fun _ h9 => h9) rfl dX9_init_168 ?_
  refine lv_bipush (v := 59) hx hb dX9_init_171 (by decide) ?_
  refine lv_bipush (v := 11) hx hb dX9_init_173 (by decide) ?_
  refine lv_iload_n hx hb dX9_init_175 rfl (lv_at hl 0 rfl) ?_
  refine lv_imul hx hb dX9_init_176 ?_
  refine tpi (y := 22) (by decide) ?_
  refine lv_iadd hx hb dX9_init_177 ?_
  refine tpi (y := 81) (by decide) ?_
  refine lv_iconst (v := 0) hx hb dX9_init_178 (by decide) ?_
  refine lv_iadd hx hb dX9_init_179 ?_
  refine tpi (y := 81) (by decide) ?_
  refine lv_iconst (v := (-1)) hx hb dX9_init_180 (by decide) ?_
  refine va_iast hx hb hK.1 hP hD hS 1 0 rfl rfl (vin_c _ _ rfl) dX9_init_181 (fun H locs hP hD hS => ?_)
  have hP : va_P D vwCl [(md, .inr (9, [.int 0, .ref q_1, .ref q_2, .ref q_3, .int 0, .ref q_4, .ref q_5, .ref q_6, .ref q_7, .int 0, .int 0, .int 0, .ref q_8, .int 0, .ref q_9, .ref q_10, .ref q_11, .int 0, .ref q_12, .int 0, .int (-1), .int 0, .ref q_13, .ref q_14, .ref q_15])), (q_1, aI cs 51207 (upd (upd (upd (upd (upd (upd (upd (upd (fun _ => 0) (1 : Int32).toNatClampNeg (-1)) (55 : Int32).toNatClampNeg (-1)) (56 : Int32).toNatClampNeg (-1)) (57 : Int32).toNatClampNeg (-1)) (58 : Int32).toNatClampNeg (-1)) (59 : Int32).toNatClampNeg (-1)) (70 : Int32).toNatClampNeg (-1)) (81 : Int32).toNatClampNeg (-1))), (q_2, aI cs 170690 (fun _ => 0)), (q_3, aI cs 17069 (fun _ => 0)), (q_4, aZ cs 2 (fun _ => 0)), (q_5, aI cs 60 (fun _ => 0)), (q_6, aI cs 8 (fun _ => 0)), (q_7, aI cs 40 (fun _ => 0)), (q_8, aZ cs 1930 (fun _ => 0)), (q_9, aI cs 4 (fun _ => 0)), (q_10, aI cs 3 (fun _ => 0)), (q_11, aZ cs 8 (fun _ => 0)), (q_12, aI cs 40 (fun _ => 0)), (q_13, aZ cs 20 (fun _ => 0)), (q_14, aI cs 240 (fun _ => 0)), (q_15, aI cs 240 (fun _ => 0))] H := hP
  have hD : va_D A [(md, .inr (9, [.int 0, .ref q_1, .ref q_2, .ref q_3, .int 0, .ref q_4, .ref q_5, .ref q_6, .ref q_7, .int 0, .int 0, .int 0, .ref q_8, .int 0, .ref q_9, .ref q_10, .ref q_11, .int 0, .ref q_12, .int 0, .int (-1), .int 0, .ref q_13, .ref q_14, .ref q_15])), (q_1, aI cs 51207 (upd (upd (upd (upd (upd (upd (upd (upd (fun _ => 0) (1 : Int32).toNatClampNeg (-1)) (55 : Int32).toNatClampNeg (-1)) (56 : Int32).toNatClampNeg (-1)) (57 : Int32).toNatClampNeg (-1)) (58 : Int32).toNatClampNeg (-1)) (59 : Int32).toNatClampNeg (-1)) (70 : Int32).toNatClampNeg (-1)) (81 : Int32).toNatClampNeg (-1))), (q_2, aI cs 170690 (fun _ => 0)), (q_3, aI cs 17069 (fun _ => 0)), (q_4, aZ cs 2 (fun _ => 0)), (q_5, aI cs 60 (fun _ => 0)), (q_6, aI cs 8 (fun _ => 0)), (q_7, aI cs 40 (fun _ => 0)), (q_8, aZ cs 1930 (fun _ => 0)), (q_9, aI cs 4 (fun _ => 0)), (q_10, aI cs 3 (fun _ => 0)), (q_11, aZ cs 8 (fun _ => 0)), (q_12, aI cs 40 (fun _ => 0)), (q_13, aZ cs 20 (fun _ => 0)), (q_14, aI cs 240 (fun _ => 0)), (q_15, aI cs 240 (fun _ => 0))] := hD
  refine lv_iinc (v := 3) (lv' := [(1, .int 3), (0, .ref md)]) hx hb dX9_init_182 hl (k := 0) rfl (by decide) (by decide) rfl (fun ls hl => ?_)
  refine lv_goto (tgt := 162) hx hb dX9_init_185 (by decide) ?_
  refine lv_iload_n hx hb dX9_init_162 rfl (lv_at hl 0 rfl) ?_
  refine lv_iconst (v := 3) hx hb dX9_init_163 (by decide) ?_
  refine lv_icmp_ge (tgt := 188) hx hb dX9_init_164 (by decide) (fun c_24 => ?_) (fun c_24 => absurd (by decide) c_24)
  exact hz ((fun k => match k with | 0 => q_1 | 1 => q_2 | 2 => q_3 | 3 => q_4 | 4 => q_5 | 5 => q_6 | 6 => q_7 | 7 => q_8 | 8 => q_9 | 9 => q_10 | 10 => q_11 | 11 => q_12 | 12 => q_13 | 13 => q_14 | 14 => q_15 | _ => 0), (fun k => match k with | 0 => upd (upd (upd (upd (upd (upd (upd (upd (fun _ => 0) (1 : Int32).toNatClampNeg (-1)) (55 : Int32).toNatClampNeg (-1)) (56 : Int32).toNatClampNeg (-1)) (57 : Int32).toNatClampNeg (-1)) (58 : Int32).toNatClampNeg (-1)) (59 : Int32).toNatClampNeg (-1)) (70 : Int32).toNatClampNeg (-1)) (81 : Int32).toNatClampNeg (-1) | _ => fun _ => 0)) hP hD hS (fun j _ => AL_made j) [0, 1, 2, 3, 4, 5, 6, 7, 8, 9, 10, 11, 12, 13, 14, 15] rfl rfl (Nat.le_of_ble_eq_true rfl) (Nat.le_of_ble_eq_true rfl) rfl dX9_init_188
abbrev rm_c_X9_leftOf0 : Room := { frames := 0, cells := 0, slots := 0, locals := 0 }
set_option maxHeartbeats 4000000 in
set_option maxRecDepth 100000 in
theorem c_X9_leftOf0 (l : Launch) (D : va_G) (cs : Nat → ClassId) (sz : Nat) (md : Nat) (m_all : Nat) (m_deeds : Nat) (m_trial : Nat) (m_hasImage : Nat) (m_tape : Nat) (m_key : Nat) (m_answered : Nat) (m_goes : Nat) (m_hotOnes : Nat) (m_indexed : Nat) (m_isChanged : Nat) (m_valueNow : Nat) (m_didSome : Nat) (m_sizes : Nat) (m_ends : Nat) (dm : Int32) (th : Int32) (sw : Int32) (f_x59 : Nat → Int32) (z_x59 : ∀ j, j < 51207 → j ≠ 59 → f_x59 j = AL j) : cMi l yX9_leftOf (Cond.code yX9_leftOf cX9_leftOf 4 (some .int)) (rm_c_X9_leftOf0) D cs [.ref md, .int 0] sz [(md, .inr (9, [.int th, .ref m_all, .ref m_deeds, .ref m_trial, .int dm, .ref m_hasImage, .ref m_tape, .ref m_key, .ref m_answered, .int 0, .int 0, .int 0, .ref m_goes, .int sw, .ref m_hotOnes, .ref m_indexed, .ref m_isChanged, .int 0, .ref m_valueNow, .int 0, .int (-1), .int 0, .ref m_didSome, .ref m_sizes, .ref m_ends])), (m_all, aI cs 51207 f_x59)] (fun (r : Int32) (u : Unit) => (r = 0)) (fun (u : Unit) => []) := by
  refine kMet_i RX9 (by decide) rfl (Nat.le_of_ble_eq_true rfl) ?_
  intro p e s m below meth c ls A Qz H locs hx hb hml hown hin hu hK hsz hA hP hD hS hl hz
  subst hsz
  have hl : lv_has ls 4 [(0, .ref md), (1, .int 0)] := hl
  refine lv_iconst (v := 0) hx hb dX9_leftOf_0 (by decide) ?_
  refine lv_istore_n (lv' := [(2, .int 0), (0, .ref md), (1, .int 0)]) hx hb dX9_leftOf_1 rfl hl (by decide) rfl (fun ls hl => ?_)
  refine lv_iconst (v := 0) hx hb dX9_leftOf_2 (by decide) ?_
  refine lv_istore_n (lv' := [(3, .int 0), (2, .int 0), (0, .ref md), (1, .int 0)]) hx hb dX9_leftOf_3 rfl hl (by decide) rfl (fun ls hl => ?_)
  refine lv_iload_n hx hb dX9_leftOf_4 rfl (lv_at hl 0 rfl) ?_
  refine lv_aload_n hx hb dX9_leftOf_5 rfl (lv_at hl 2 rfl) ?_
  refine va_get (D := D) (ci := 9) (v := .ref m_all) (C := RX9) (T := TX9) (N := 25) hx hb hu in_X9 hown hK.1 hP 0 rfl rfl 1 (by decide) (hu _ u_1081) (fun _ h9 => h9) rfl dX9_leftOf_6 ?_
  refine lv_sipush (v := 1628) hx hb dX9_leftOf_9 (by decide) ?_
  refine va_iald hx hb hK.1 hP 1 0 rfl rfl (vin_c _ _ rfl) dX9_leftOf_12 ?_
  refine tpi (y := 0) ((z_x59 _ (cl_lt (vin_c _ _ rfl)) (by decide)).trans (by decide +kernel)) ?_
  refine lv_icmp_ge (tgt := 39) hx hb dX9_leftOf_13 (by decide) (fun c_1 => ?_) (fun c_1 => absurd (by decide) c_1)
  refine lv_iload_n hx hb dX9_leftOf_39 rfl (lv_at hl 1 rfl) ?_
  refine lv_aload_n hx hb dX9_leftOf_40 rfl (lv_at hl 2 rfl) ?_
  refine va_get (D := D) (ci := 9) (v := .ref m_all) (C := RX9) (T := TX9) (N := 25) hx hb hu in_X9 hown hK.1 hP 0 rfl rfl 1 (by decide) (hu _ u_1081) (fun _ h9 => h9) rfl dX9_leftOf_41 ?_
  refine lv_bipush (v := 59) hx hb dX9_leftOf_44 (by decide) ?_
  refine lv_bipush (v := 11) hx hb dX9_leftOf_46 (by decide) ?_
  refine lv_iload_n hx hb dX9_leftOf_48 rfl (lv_at hl 3 rfl) ?_
  refine lv_imul hx hb dX9_leftOf_49 ?_
  refine tpi (y := 0) (by decide) ?_
  refine lv_iadd hx hb dX9_leftOf_50 ?_
  refine tpi (y := 59) (by decide) ?_
  refine lv_bipush (v := 10) hx hb dX9_leftOf_51 (by decide) ?_
  refine lv_iadd hx hb dX9_leftOf_53 ?_
  refine tpi (y := 69) (by decide) ?_
  refine va_iald hx hb hK.1 hP 1 0 rfl rfl (vin_c _ _ rfl) dX9_leftOf_54 ?_
  refine tpi (y := 0) ((z_x59 _ (cl_lt (vin_c _ _ rfl)) (by decide)).trans (by decide +kernel)) ?_
  refine lv_isub hx hb dX9_leftOf_55 ?_
  refine tpi (y := 0) (by decide) ?_
  exact hz () hP hD hS rfl [] rfl rfl (Nat.le_of_ble_eq_true rfl) (Nat.le_of_ble_eq_true rfl) .int rfl rfl dX9_leftOf_56
abbrev rm_c_X9_leftOf1 : Room := { frames := 0, cells := 0, slots := 0, locals := 0 }
set_option maxHeartbeats 4000000 in
set_option maxRecDepth 100000 in
theorem c_X9_leftOf1 (l : Launch) (D : va_G) (cs : Nat → ClassId) (sz : Nat) (md : Nat) (m_all : Nat) (m_deeds : Nat) (m_trial : Nat) (m_hasImage : Nat) (m_tape : Nat) (m_key : Nat) (m_answered : Nat) (m_goes : Nat) (m_hotOnes : Nat) (m_indexed : Nat) (m_isChanged : Nat) (m_valueNow : Nat) (m_didSome : Nat) (m_sizes : Nat) (m_ends : Nat) (dm : Int32) (th : Int32) (sw : Int32) (f_x70 : Nat → Int32) (z_x70 : ∀ j, j < 51207 → j ≠ 70 → f_x70 j = AL j) : cMi l yX9_leftOf (Cond.code yX9_leftOf cX9_leftOf 4 (some .int)) (rm_c_X9_leftOf1) D cs [.ref md, .int 1] sz [(md, .inr (9, [.int th, .ref m_all, .ref m_deeds, .ref m_trial, .int dm, .ref m_hasImage, .ref m_tape, .ref m_key, .ref m_answered, .int 0, .int 0, .int 0, .ref m_goes, .int sw, .ref m_hotOnes, .ref m_indexed, .ref m_isChanged, .int 0, .ref m_valueNow, .int 0, .int (-1), .int 0, .ref m_didSome, .ref m_sizes, .ref m_ends])), (m_all, aI cs 51207 f_x70)] (fun (r : Int32) (u : Unit) => (r = 0)) (fun (u : Unit) => []) := by
  refine kMet_i RX9 (by decide) rfl (Nat.le_of_ble_eq_true rfl) ?_
  intro p e s m below meth c ls A Qz H locs hx hb hml hown hin hu hK hsz hA hP hD hS hl hz
  subst hsz
  have hl : lv_has ls 4 [(0, .ref md), (1, .int 1)] := hl
  refine lv_iconst (v := 0) hx hb dX9_leftOf_0 (by decide) ?_
  refine lv_istore_n (lv' := [(2, .int 0), (0, .ref md), (1, .int 1)]) hx hb dX9_leftOf_1 rfl hl (by decide) rfl (fun ls hl => ?_)
  refine lv_iconst (v := 0) hx hb dX9_leftOf_2 (by decide) ?_
  refine lv_istore_n (lv' := [(3, .int 0), (2, .int 0), (0, .ref md), (1, .int 1)]) hx hb dX9_leftOf_3 rfl hl (by decide) rfl (fun ls hl => ?_)
  refine lv_iload_n hx hb dX9_leftOf_4 rfl (lv_at hl 0 rfl) ?_
  refine lv_aload_n hx hb dX9_leftOf_5 rfl (lv_at hl 2 rfl) ?_
  refine va_get (D := D) (ci := 9) (v := .ref m_all) (C := RX9) (T := TX9) (N := 25) hx hb hu in_X9 hown hK.1 hP 0 rfl rfl 1 (by decide) (hu _ u_1081) (fun _ h9 => h9) rfl dX9_leftOf_6 ?_
  refine lv_sipush (v := 1628) hx hb dX9_leftOf_9 (by decide) ?_
  refine va_iald hx hb hK.1 hP 1 0 rfl rfl (vin_c _ _ rfl) dX9_leftOf_12 ?_
  refine tpi (y := 0) ((z_x70 _ (cl_lt (vin_c _ _ rfl)) (by decide)).trans (by decide +kernel)) ?_
  refine lv_icmp_ge (tgt := 39) hx hb dX9_leftOf_13 (by decide) (fun c_1 => ?_) (fun c_1 => absurd (by decide) c_1)
  refine lv_iload_n hx hb dX9_leftOf_39 rfl (lv_at hl 1 rfl) ?_
  refine lv_aload_n hx hb dX9_leftOf_40 rfl (lv_at hl 2 rfl) ?_
  refine va_get (D := D) (ci := 9) (v := .ref m_all) (C := RX9) (T := TX9) (N := 25) hx hb hu in_X9 hown hK.1 hP 0 rfl rfl 1 (by decide) (hu _ u_1081) (fun _ h9 => h9) rfl dX9_leftOf_41 ?_
  refine lv_bipush (v := 59) hx hb dX9_leftOf_44 (by decide) ?_
  refine lv_bipush (v := 11) hx hb dX9_leftOf_46 (by decide) ?_
  refine lv_iload_n hx hb dX9_leftOf_48 rfl (lv_at hl 3 rfl) ?_
  refine lv_imul hx hb dX9_leftOf_49 ?_
  refine tpi (y := 11) (by decide) ?_
  refine lv_iadd hx hb dX9_leftOf_50 ?_
  refine tpi (y := 70) (by decide) ?_
  refine lv_bipush (v := 10) hx hb dX9_leftOf_51 (by decide) ?_
  refine lv_iadd hx hb dX9_leftOf_53 ?_
  refine tpi (y := 80) (by decide) ?_
  refine va_iald hx hb hK.1 hP 1 0 rfl rfl (vin_c _ _ rfl) dX9_leftOf_54 ?_
  refine tpi (y := 0) ((z_x70 _ (cl_lt (vin_c _ _ rfl)) (by decide)).trans (by decide +kernel)) ?_
  refine lv_isub hx hb dX9_leftOf_55 ?_
  refine tpi (y := 0) (by decide) ?_
  exact hz () hP hD hS rfl [] rfl rfl (Nat.le_of_ble_eq_true rfl) (Nat.le_of_ble_eq_true rfl) .int rfl rfl dX9_leftOf_56
abbrev rm_c_X9_leftOf2 : Room := { frames := 0, cells := 0, slots := 0, locals := 0 }
set_option maxHeartbeats 4000000 in
set_option maxRecDepth 100000 in
theorem c_X9_leftOf2 (l : Launch) (D : va_G) (cs : Nat → ClassId) (sz : Nat) (md : Nat) (m_all : Nat) (m_deeds : Nat) (m_trial : Nat) (m_hasImage : Nat) (m_tape : Nat) (m_key : Nat) (m_answered : Nat) (m_goes : Nat) (m_hotOnes : Nat) (m_indexed : Nat) (m_isChanged : Nat) (m_valueNow : Nat) (m_didSome : Nat) (m_sizes : Nat) (m_ends : Nat) (dm : Int32) (th : Int32) (sw : Int32) (f_x81 : Nat → Int32) (z_x81 : ∀ j, j < 51207 → j ≠ 81 → f_x81 j = AL j) : cMi l yX9_leftOf (Cond.code yX9_leftOf cX9_leftOf 4 (some .int)) (rm_c_X9_leftOf2) D cs [.ref md, .int 2] sz [(md, .inr (9, [.int th, .ref m_all, .ref m_deeds, .ref m_trial, .int dm, .ref m_hasImage, .ref m_tape, .ref m_key, .ref m_answered, .int 0, .int 0, .int 0, .ref m_goes, .int sw, .ref m_hotOnes, .ref m_indexed, .ref m_isChanged, .int 0, .ref m_valueNow, .int 0, .int (-1), .int 0, .ref m_didSome, .ref m_sizes, .ref m_ends])), (m_all, aI cs 51207 f_x81)] (fun (r : Int32) (u : Unit) => (r = 0)) (fun (u : Unit) => []) := by
  refine kMet_i RX9 (by decide) rfl (Nat.le_of_ble_eq_true rfl) ?_
  intro p e s m below meth c ls A Qz H locs hx hb hml hown hin hu hK hsz hA hP hD hS hl hz
  subst hsz
  have hl : lv_has ls 4 [(0, .ref md), (1, .int 2)] := hl
  refine lv_iconst (v := 0) hx hb dX9_leftOf_0 (by decide) ?_
  refine lv_istore_n (lv' := [(2, .int 0), (0, .ref md), (1, .int 2)]) hx hb dX9_leftOf_1 rfl hl (by decide) rfl (fun ls hl => ?_)
  refine lv_iconst (v := 0) hx hb dX9_leftOf_2 (by decide) ?_
  refine lv_istore_n (lv' := [(3, .int 0), (2, .int 0), (0, .ref md), (1, .int 2)]) hx hb dX9_leftOf_3 rfl hl (by decide) rfl (fun ls hl => ?_)
  refine lv_iload_n hx hb dX9_leftOf_4 rfl (lv_at hl 0 rfl) ?_
  refine lv_aload_n hx hb dX9_leftOf_5 rfl (lv_at hl 2 rfl) ?_
  refine va_get (D := D) (ci := 9) (v := .ref m_all) (C := RX9) (T := TX9) (N := 25) hx hb hu in_X9 hown hK.1 hP 0 rfl rfl 1 (by decide) (hu _ u_1081) (fun _ h9 => h9) rfl dX9_leftOf_6 ?_
  refine lv_sipush (v := 1628) hx hb dX9_leftOf_9 (by decide) ?_
  refine va_iald hx hb hK.1 hP 1 0 rfl rfl (vin_c _ _ rfl) dX9_leftOf_12 ?_
  refine tpi (y := 0) ((z_x81 _ (cl_lt (vin_c _ _ rfl)) (by decide)).trans (by decide +kernel)) ?_
  refine lv_icmp_ge (tgt := 39) hx hb dX9_leftOf_13 (by decide) (fun c_1 => ?_) (fun c_1 => absurd (by decide) c_1)
  refine lv_iload_n hx hb dX9_leftOf_39 rfl (lv_at hl 1 rfl) ?_
  refine lv_aload_n hx hb dX9_leftOf_40 rfl (lv_at hl 2 rfl) ?_
  refine va_get (D := D) (ci := 9) (v := .ref m_all) (C := RX9) (T := TX9) (N := 25) hx hb hu in_X9 hown hK.1 hP 0 rfl rfl 1 (by decide) (hu _ u_1081) (fun _ h9 => h9) rfl dX9_leftOf_41 ?_
  refine lv_bipush (v := 59) hx hb dX9_leftOf_44 (by decide) ?_
  refine lv_bipush (v := 11) hx hb dX9_leftOf_46 (by decide) ?_
  refine lv_iload_n hx hb dX9_leftOf_48 rfl (lv_at hl 3 rfl) ?_
  refine lv_imul hx hb dX9_leftOf_49 ?_
  refine tpi (y := 22) (by decide) ?_
  refine lv_iadd hx hb dX9_leftOf_50 ?_
  refine tpi (y := 81) (by decide) ?_
  refine lv_bipush (v := 10) hx hb dX9_leftOf_51 (by decide) ?_
  refine lv_iadd hx hb dX9_leftOf_53 ?_
  refine tpi (y := 91) (by decide) ?_
  refine va_iald hx hb hK.1 hP 1 0 rfl rfl (vin_c _ _ rfl) dX9_leftOf_54 ?_
  refine tpi (y := 0) ((z_x81 _ (cl_lt (vin_c _ _ rfl)) (by decide)).trans (by decide +kernel)) ?_
  refine lv_isub hx hb dX9_leftOf_55 ?_
  refine tpi (y := 0) (by decide) ?_
  exact hz () hP hD hS rfl [] rfl rfl (Nat.le_of_ble_eq_true rfl) (Nat.le_of_ble_eq_true rfl) .int rfl rfl dX9_leftOf_56
abbrev rm_c_X9_closes0 : Room := { frames := 1, cells := 0, slots := 0, locals := 26 }
set_option maxHeartbeats 4000000 in
set_option maxRecDepth 100000 in
theorem c_X9_closes0 (l : Launch) (D : va_G) (cs : Nat → ClassId) (sz : Nat) (md : Nat) (m_all : Nat) (f_m_all : Nat → Int32) (m_deeds : Nat) (m_trial : Nat) (m_hasImage : Nat) (m_tape : Nat) (m_key : Nat) (m_answered : Nat) (m_goes : Nat) (m_hotOnes : Nat) (m_indexed : Nat) (m_isChanged : Nat) (m_valueNow : Nat) (m_didSome : Nat) (m_sizes : Nat) (m_ends : Nat) (dm : Int32) (th : Int32) (sw : Int32) (z_all : ∀ j, j < 51207 → f_m_all j = AL j) : cMi l yX9_closes (Cond.code yX9_closes cX9_closes 4 (some .int)) (rm_c_X9_closes0) D cs [.ref md, .int 0] sz [(md, .inr (9, [.int th, .ref m_all, .ref m_deeds, .ref m_trial, .int dm, .ref m_hasImage, .ref m_tape, .ref m_key, .ref m_answered, .int 0, .int 0, .int 0, .ref m_goes, .int sw, .ref m_hotOnes, .ref m_indexed, .ref m_isChanged, .int 0, .ref m_valueNow, .int 0, .int (-1), .int 0, .ref m_didSome, .ref m_sizes, .ref m_ends])), (m_all, aI cs 51207 f_m_all)] (fun (r : Int32) (u : Nat → Int32) => (r = 0) ∧ (∀ j, j < 51207 → u j = AL j)) (fun (u : Nat → Int32) => [(md, .inr (9, [.int th, .ref m_all, .ref m_deeds, .ref m_trial, .int dm, .ref m_hasImage, .ref m_tape, .ref m_key, .ref m_answered, .int 0, .int 0, .int 0, .ref m_goes, .int sw, .ref m_hotOnes, .ref m_indexed, .ref m_isChanged, .int 0, .ref m_valueNow, .int 0, .int (-1), .int 0, .ref m_didSome, .ref m_sizes, .ref m_ends])), (m_all, aI cs 51207 u)]) := by
  refine kMet_i RX9 (by decide) rfl (Nat.le_of_ble_eq_true rfl) ?_
  intro p e s m below meth c ls A Qz H locs hx hb hml hown hin hu hK hsz hA hP hD hS hl hz
  subst hsz
  have hl : lv_has ls 4 [(0, .ref md), (1, .int 0)] := hl
  refine lv_bipush (v := 59) hx hb dX9_closes_0 (by decide) ?_
  refine lv_bipush (v := 11) hx hb dX9_closes_2 (by decide) ?_
  refine lv_iload_n hx hb dX9_closes_4 rfl (lv_at hl 1 rfl) ?_
  refine lv_imul hx hb dX9_closes_5 ?_
  refine tpi (y := 0) (by decide) ?_
  refine lv_iadd hx hb dX9_closes_6 ?_
  refine tpi (y := 59) (by decide) ?_
  refine lv_istore_n (lv' := [(2, .int 59), (0, .ref md), (1, .int 0)]) hx hb dX9_closes_7 rfl hl (by decide) rfl (fun ls hl => ?_)
  refine lv_iconst (v := 0) hx hb dX9_closes_8 (by decide) ?_
  refine lv_istore_n (lv' := [(3, .int 0), (2, .int 59), (0, .ref md), (1, .int 0)]) hx hb dX9_closes_9 rfl hl (by decide) rfl (fun ls hl => ?_)
  refine lv_iload_n hx hb dX9_closes_10 rfl (lv_at hl 0 rfl) ?_
  refine lv_bipush (v := 11) hx hb dX9_closes_11 (by decide) ?_
  refine lv_icmp_ge (tgt := 31) hx hb dX9_closes_13 (by decide) (fun c_1 => absurd c_1 (by decide)) (fun c_1 => ?_)
  refine lv_aload_n hx hb dX9_closes_16 rfl (lv_at hl 2 rfl) ?_
  refine va_get (D := D) (ci := 9) (v := .ref m_all) (C := RX9) (T := TX9) (N := 25) hx hb hu in_X9 hown hK.1 hP 0 rfl rfl 1 (by decide) (hu _ u_1081) (fun _ h9 => h9) rfl dX9_closes_17 ?_
  refine lv_iload_n hx hb dX9_closes_20 rfl (lv_at hl 1 rfl) ?_
  refine lv_iload_n hx hb dX9_closes_21 rfl (lv_at hl 0 rfl) ?_
  refine lv_iadd hx hb dX9_closes_22 ?_
  refine tpi (y := 59) (by decide) ?_
  refine lv_iconst (v := 0) hx hb dX9_closes_23 (by decide) ?_
  refine va_iast hx hb hK.1 hP hD hS 1 0 rfl rfl (vin_c _ _ rfl) dX9_closes_24 (fun H locs hP hD hS => ?_)
  have hP : va_P D vwCl [(md, .inr (9, [.int th, .ref m_all, .ref m_deeds, .ref m_trial, .int dm, .ref m_hasImage, .ref m_tape, .ref m_key, .ref m_answered, .int 0, .int 0, .int 0, .ref m_goes, .int sw, .ref m_hotOnes, .ref m_indexed, .ref m_isChanged, .int 0, .ref m_valueNow, .int 0, .int (-1), .int 0, .ref m_didSome, .ref m_sizes, .ref m_ends])), (m_all, aI cs 51207 (upd f_m_all (59 : Int32).toNatClampNeg 0))] H := hP
  have hD : va_D A [(md, .inr (9, [.int th, .ref m_all, .ref m_deeds, .ref m_trial, .int dm, .ref m_hasImage, .ref m_tape, .ref m_key, .ref m_answered, .int 0, .int 0, .int 0, .ref m_goes, .int sw, .ref m_hotOnes, .ref m_indexed, .ref m_isChanged, .int 0, .ref m_valueNow, .int 0, .int (-1), .int 0, .ref m_didSome, .ref m_sizes, .ref m_ends])), (m_all, aI cs 51207 (upd f_m_all (59 : Int32).toNatClampNeg 0))] := hD
  have za_2 : ∀ j, j < 51207 → j ≠ 59 → (upd f_m_all (59 : Int32).toNatClampNeg 0) j = AL j := upd_ALx z_all
  obtain ⟨g_3, eg_4⟩ : ∃ g9 : Nat → Int32, upd f_m_all (59 : Int32).toNatClampNeg 0 = g9 := ⟨_, rfl⟩
  rw [eg_4] at hP hD za_2
  refine lv_iinc (v := 1) (lv' := [(3, .int 1), (2, .int 59), (0, .ref md), (1, .int 0)]) hx hb dX9_closes_25 hl (k := 0) rfl (by decide) (by decide) rfl (fun ls hl => ?_)
  refine lv_goto (tgt := 10) hx hb dX9_closes_28 (by decide) ?_
  refine lv_iload_n hx hb dX9_closes_10 rfl (lv_at hl 0 rfl) ?_
  refine lv_bipush (v := 11) hx hb dX9_closes_11 (by decide) ?_
  refine lv_icmp_ge (tgt := 31) hx hb dX9_closes_13 (by decide) (fun c_5 => absurd c_5 (by decide)) (fun c_5 => ?_)
  refine lv_aload_n hx hb dX9_closes_16 rfl (lv_at hl 2 rfl) ?_
  refine va_get (D := D) (ci := 9) (v := .ref m_all) (C := RX9) (T := TX9) (N := 25) hx hb hu in_X9 hown hK.1 hP 0 rfl rfl 1 (by decide) (hu _ u_1081) (fun _ h9 => h9) rfl dX9_closes_17 ?_
  refine lv_iload_n hx hb dX9_closes_20 rfl (lv_at hl 1 rfl) ?_
  refine lv_iload_n hx hb dX9_closes_21 rfl (lv_at hl 0 rfl) ?_
  refine lv_iadd hx hb dX9_closes_22 ?_
  refine tpi (y := 60) (by decide) ?_
  refine lv_iconst (v := 0) hx hb dX9_closes_23 (by decide) ?_
  refine va_iast hx hb hK.1 hP hD hS 1 0 rfl rfl (vin_c _ _ rfl) dX9_closes_24 (fun H locs hP hD hS => ?_)
  have hP : va_P D vwCl [(md, .inr (9, [.int th, .ref m_all, .ref m_deeds, .ref m_trial, .int dm, .ref m_hasImage, .ref m_tape, .ref m_key, .ref m_answered, .int 0, .int 0, .int 0, .ref m_goes, .int sw, .ref m_hotOnes, .ref m_indexed, .ref m_isChanged, .int 0, .ref m_valueNow, .int 0, .int (-1), .int 0, .ref m_didSome, .ref m_sizes, .ref m_ends])), (m_all, aI cs 51207 (upd g_3 (60 : Int32).toNatClampNeg 0))] H := hP
  have hD : va_D A [(md, .inr (9, [.int th, .ref m_all, .ref m_deeds, .ref m_trial, .int dm, .ref m_hasImage, .ref m_tape, .ref m_key, .ref m_answered, .int 0, .int 0, .int 0, .ref m_goes, .int sw, .ref m_hotOnes, .ref m_indexed, .ref m_isChanged, .int 0, .ref m_valueNow, .int 0, .int (-1), .int 0, .ref m_didSome, .ref m_sizes, .ref m_ends])), (m_all, aI cs 51207 (upd g_3 (60 : Int32).toNatClampNeg 0))] := hD
  have za_6 : ∀ j, j < 51207 → j ≠ 59 → (upd g_3 (60 : Int32).toNatClampNeg 0) j = AL j := upd_ALy za_2 (by decide +kernel)
  obtain ⟨g_7, eg_8⟩ : ∃ g9 : Nat → Int32, upd g_3 (60 : Int32).toNatClampNeg 0 = g9 := ⟨_, rfl⟩
  rw [eg_8] at hP hD za_6
  refine lv_iinc (v := 2) (lv' := [(3, .int 2), (2, .int 59), (0, .ref md), (1, .int 0)]) hx hb dX9_closes_25 hl (k := 0) rfl (by decide) (by decide) rfl (fun ls hl => ?_)
  refine lv_goto (tgt := 10) hx hb dX9_closes_28 (by decide) ?_
  refine lv_iload_n hx hb dX9_closes_10 rfl (lv_at hl 0 rfl) ?_
  refine lv_bipush (v := 11) hx hb dX9_closes_11 (by decide) ?_
  refine lv_icmp_ge (tgt := 31) hx hb dX9_closes_13 (by decide) (fun c_9 => absurd c_9 (by decide)) (fun c_9 => ?_)
  refine lv_aload_n hx hb dX9_closes_16 rfl (lv_at hl 2 rfl) ?_
  refine va_get (D := D) (ci := 9) (v := .ref m_all) (C := RX9) (T := TX9) (N := 25) hx hb hu in_X9 hown hK.1 hP 0 rfl rfl 1 (by decide) (hu _ u_1081) (fun _ h9 => h9) rfl dX9_closes_17 ?_
  refine lv_iload_n hx hb dX9_closes_20 rfl (lv_at hl 1 rfl) ?_
  refine lv_iload_n hx hb dX9_closes_21 rfl (lv_at hl 0 rfl) ?_
  refine lv_iadd hx hb dX9_closes_22 ?_
  refine tpi (y := 61) (by decide) ?_
  refine lv_iconst (v := 0) hx hb dX9_closes_23 (by decide) ?_
  refine va_iast hx hb hK.1 hP hD hS 1 0 rfl rfl (vin_c _ _ rfl) dX9_closes_24 (fun H locs hP hD hS => ?_)
  have hP : va_P D vwCl [(md, .inr (9, [.int th, .ref m_all, .ref m_deeds, .ref m_trial, .int dm, .ref m_hasImage, .ref m_tape, .ref m_key, .ref m_answered, .int 0, .int 0, .int 0, .ref m_goes, .int sw, .ref m_hotOnes, .ref m_indexed, .ref m_isChanged, .int 0, .ref m_valueNow, .int 0, .int (-1), .int 0, .ref m_didSome, .ref m_sizes, .ref m_ends])), (m_all, aI cs 51207 (upd g_7 (61 : Int32).toNatClampNeg 0))] H := hP
  have hD : va_D A [(md, .inr (9, [.int th, .ref m_all, .ref m_deeds, .ref m_trial, .int dm, .ref m_hasImage, .ref m_tape, .ref m_key, .ref m_answered, .int 0, .int 0, .int 0, .ref m_goes, .int sw, .ref m_hotOnes, .ref m_indexed, .ref m_isChanged, .int 0, .ref m_valueNow, .int 0, .int (-1), .int 0, .ref m_didSome, .ref m_sizes, .ref m_ends])), (m_all, aI cs 51207 (upd g_7 (61 : Int32).toNatClampNeg 0))] := hD
  have za_10 : ∀ j, j < 51207 → j ≠ 59 → (upd g_7 (61 : Int32).toNatClampNeg 0) j = AL j := upd_ALy za_6 (by decide +kernel)
  obtain ⟨g_11, eg_12⟩ : ∃ g9 : Nat → Int32, upd g_7 (61 : Int32).toNatClampNeg 0 = g9 := ⟨_, rfl⟩
  rw [eg_12] at hP hD za_10
  refine lv_iinc (v := 3) (lv' := [(3, .int 3), (2, .int 59), (0, .ref md), (1, .int 0)]) hx hb dX9_closes_25 hl (k := 0) rfl (by decide) (by decide) rfl (fun ls hl => ?_)
  refine lv_goto (tgt := 10) hx hb dX9_closes_28 (by decide) ?_
  refine lv_iload_n hx hb dX9_closes_10 rfl (lv_at hl 0 rfl) ?_
  refine lv_bipush (v := 11) hx hb dX9_closes_11 (by decide) ?_
  refine lv_icmp_ge (tgt := 31) hx hb dX9_closes_13 (by decide) (fun c_13 => absurd c_13 (by decide)) (fun c_13 => ?_)
  refine lv_aload_n hx hb dX9_closes_16 rfl (lv_at hl 2 rfl) ?_
  refine va_get (D := D) (ci := 9) (v := .ref m_all) (C := RX9) (T := TX9) (N := 25) hx hb hu in_X9 hown hK.1 hP 0 rfl rfl 1 (by decide) (hu _ u_1081) (fun _ h9 => h9) rfl dX9_closes_17 ?_
  refine lv_iload_n hx hb dX9_closes_20 rfl (lv_at hl 1 rfl) ?_
  refine lv_iload_n hx hb dX9_closes_21 rfl (lv_at hl 0 rfl) ?_
  refine lv_iadd hx hb dX9_closes_22 ?_
  refine tpi (y := 62) (by decide) ?_
  refine lv_iconst (v := 0) hx hb dX9_closes_23 (by decide) ?_
  refine va_iast hx hb hK.1 hP hD hS 1 0 rfl rfl (vin_c _ _ rfl) dX9_closes_24 (fun H locs hP hD hS => ?_)
  have hP : va_P D vwCl [(md, .inr (9, [.int th, .ref m_all, .ref m_deeds, .ref m_trial, .int dm, .ref m_hasImage, .ref m_tape, .ref m_key, .ref m_answered, .int 0, .int 0, .int 0, .ref m_goes, .int sw, .ref m_hotOnes, .ref m_indexed, .ref m_isChanged, .int 0, .ref m_valueNow, .int 0, .int (-1), .int 0, .ref m_didSome, .ref m_sizes, .ref m_ends])), (m_all, aI cs 51207 (upd g_11 (62 : Int32).toNatClampNeg 0))] H := hP
  have hD : va_D A [(md, .inr (9, [.int th, .ref m_all, .ref m_deeds, .ref m_trial, .int dm, .ref m_hasImage, .ref m_tape, .ref m_key, .ref m_answered, .int 0, .int 0, .int 0, .ref m_goes, .int sw, .ref m_hotOnes, .ref m_indexed, .ref m_isChanged, .int 0, .ref m_valueNow, .int 0, .int (-1), .int 0, .ref m_didSome, .ref m_sizes, .ref m_ends])), (m_all, aI cs 51207 (upd g_11 (62 : Int32).toNatClampNeg 0))] := hD
  have za_14 : ∀ j, j < 51207 → j ≠ 59 → (upd g_11 (62 : Int32).toNatClampNeg 0) j = AL j := upd_ALy za_10 (by decide +kernel)
  obtain ⟨g_15, eg_16⟩ : ∃ g9 : Nat → Int32, upd g_11 (62 : Int32).toNatClampNeg 0 = g9 := ⟨_, rfl⟩
  rw [eg_16] at hP hD za_14
  refine lv_iinc (v := 4) (lv' := [(3, .int 4), (2, .int 59), (0, .ref md), (1, .int 0)]) hx hb dX9_closes_25 hl (k := 0) rfl (by decide) (by decide) rfl (fun ls hl => ?_)
  refine lv_goto (tgt := 10) hx hb dX9_closes_28 (by decide) ?_
  refine lv_iload_n hx hb dX9_closes_10 rfl (lv_at hl 0 rfl) ?_
  refine lv_bipush (v := 11) hx hb dX9_closes_11 (by decide) ?_
  refine lv_icmp_ge (tgt := 31) hx hb dX9_closes_13 (by decide) (fun c_17 => absurd c_17 (by decide)) (fun c_17 => ?_)
  refine lv_aload_n hx hb dX9_closes_16 rfl (lv_at hl 2 rfl) ?_
  refine va_get (D := D) (ci := 9) (v := .ref m_all) (C := RX9) (T := TX9) (N := 25) hx hb hu in_X9 hown hK.1 hP 0 rfl rfl 1 (by decide) (hu _ u_1081) (fun _ h9 => h9) rfl dX9_closes_17 ?_
  refine lv_iload_n hx hb dX9_closes_20 rfl (lv_at hl 1 rfl) ?_
  refine lv_iload_n hx hb dX9_closes_21 rfl (lv_at hl 0 rfl) ?_
  refine lv_iadd hx hb dX9_closes_22 ?_
  refine tpi (y := 63) (by decide) ?_
  refine lv_iconst (v := 0) hx hb dX9_closes_23 (by decide) ?_
  refine va_iast hx hb hK.1 hP hD hS 1 0 rfl rfl (vin_c _ _ rfl) dX9_closes_24 (fun H locs hP hD hS => ?_)
  have hP : va_P D vwCl [(md, .inr (9, [.int th, .ref m_all, .ref m_deeds, .ref m_trial, .int dm, .ref m_hasImage, .ref m_tape, .ref m_key, .ref m_answered, .int 0, .int 0, .int 0, .ref m_goes, .int sw, .ref m_hotOnes, .ref m_indexed, .ref m_isChanged, .int 0, .ref m_valueNow, .int 0, .int (-1), .int 0, .ref m_didSome, .ref m_sizes, .ref m_ends])), (m_all, aI cs 51207 (upd g_15 (63 : Int32).toNatClampNeg 0))] H := hP
  have hD : va_D A [(md, .inr (9, [.int th, .ref m_all, .ref m_deeds, .ref m_trial, .int dm, .ref m_hasImage, .ref m_tape, .ref m_key, .ref m_answered, .int 0, .int 0, .int 0, .ref m_goes, .int sw, .ref m_hotOnes, .ref m_indexed, .ref m_isChanged, .int 0, .ref m_valueNow, .int 0, .int (-1), .int 0, .ref m_didSome, .ref m_sizes, .ref m_ends])), (m_all, aI cs 51207 (upd g_15 (63 : Int32).toNatClampNeg 0))] := hD
  have za_18 : ∀ j, j < 51207 → j ≠ 59 → (upd g_15 (63 : Int32).toNatClampNeg 0) j = AL j := upd_ALy za_14 (by decide +kernel)
  obtain ⟨g_19, eg_20⟩ : ∃ g9 : Nat → Int32, upd g_15 (63 : Int32).toNatClampNeg 0 = g9 := ⟨_, rfl⟩
  rw [eg_20] at hP hD za_18
  refine lv_iinc (v := 5) (lv' := [(3, .int 5), (2, .int 59), (0, .ref md), (1, .int 0)]) hx hb dX9_closes_25 hl (k := 0) rfl (by decide) (by decide) rfl (fun ls hl => ?_)
  refine lv_goto (tgt := 10) hx hb dX9_closes_28 (by decide) ?_
  refine lv_iload_n hx hb dX9_closes_10 rfl (lv_at hl 0 rfl) ?_
  refine lv_bipush (v := 11) hx hb dX9_closes_11 (by decide) ?_
  refine lv_icmp_ge (tgt := 31) hx hb dX9_closes_13 (by decide) (fun c_21 => absurd c_21 (by decide)) (fun c_21 => ?_)
  refine lv_aload_n hx hb dX9_closes_16 rfl (lv_at hl 2 rfl) ?_
  refine va_get (D := D) (ci := 9) (v := .ref m_all) (C := RX9) (T := TX9) (N := 25) hx hb hu in_X9 hown hK.1 hP 0 rfl rfl 1 (by decide) (hu _ u_1081) (fun _ h9 => h9) rfl dX9_closes_17 ?_
  refine lv_iload_n hx hb dX9_closes_20 rfl (lv_at hl 1 rfl) ?_
  refine lv_iload_n hx hb dX9_closes_21 rfl (lv_at hl 0 rfl) ?_
  refine lv_iadd hx hb dX9_closes_22 ?_
  refine tpi (y := 64) (by decide) ?_
  refine lv_iconst (v := 0) hx hb dX9_closes_23 (by decide) ?_
  refine va_iast hx hb hK.1 hP hD hS 1 0 rfl rfl (vin_c _ _ rfl) dX9_closes_24 (fun H locs hP hD hS => ?_)
  have hP : va_P D vwCl [(md, .inr (9, [.int th, .ref m_all, .ref m_deeds, .ref m_trial, .int dm, .ref m_hasImage, .ref m_tape, .ref m_key, .ref m_answered, .int 0, .int 0, .int 0, .ref m_goes, .int sw, .ref m_hotOnes, .ref m_indexed, .ref m_isChanged, .int 0, .ref m_valueNow, .int 0, .int (-1), .int 0, .ref m_didSome, .ref m_sizes, .ref m_ends])), (m_all, aI cs 51207 (upd g_19 (64 : Int32).toNatClampNeg 0))] H := hP
  have hD : va_D A [(md, .inr (9, [.int th, .ref m_all, .ref m_deeds, .ref m_trial, .int dm, .ref m_hasImage, .ref m_tape, .ref m_key, .ref m_answered, .int 0, .int 0, .int 0, .ref m_goes, .int sw, .ref m_hotOnes, .ref m_indexed, .ref m_isChanged, .int 0, .ref m_valueNow, .int 0, .int (-1), .int 0, .ref m_didSome, .ref m_sizes, .ref m_ends])), (m_all, aI cs 51207 (upd g_19 (64 : Int32).toNatClampNeg 0))] := hD
  have za_22 : ∀ j, j < 51207 → j ≠ 59 → (upd g_19 (64 : Int32).toNatClampNeg 0) j = AL j := upd_ALy za_18 (by decide +kernel)
  obtain ⟨g_23, eg_24⟩ : ∃ g9 : Nat → Int32, upd g_19 (64 : Int32).toNatClampNeg 0 = g9 := ⟨_, rfl⟩
  rw [eg_24] at hP hD za_22
  refine lv_iinc (v := 6) (lv' := [(3, .int 6), (2, .int 59), (0, .ref md), (1, .int 0)]) hx hb dX9_closes_25 hl (k := 0) rfl (by decide) (by decide) rfl (fun ls hl => ?_)
  refine lv_goto (tgt := 10) hx hb dX9_closes_28 (by decide) ?_
  refine lv_iload_n hx hb dX9_closes_10 rfl (lv_at hl 0 rfl) ?_
  refine lv_bipush (v := 11) hx hb dX9_closes_11 (by decide) ?_
  refine lv_icmp_ge (tgt := 31) hx hb dX9_closes_13 (by decide) (fun c_25 => absurd c_25 (by decide)) (fun c_25 => ?_)
  refine lv_aload_n hx hb dX9_closes_16 rfl (lv_at hl 2 rfl) ?_
  refine va_get (D := D) (ci := 9) (v := .ref m_all) (C := RX9) (T := TX9) (N := 25) hx hb hu in_X9 hown hK.1 hP 0 rfl rfl 1 (by decide) (hu _ u_1081) (fun _ h9 => h9) rfl dX9_closes_17 ?_
  refine lv_iload_n hx hb dX9_closes_20 rfl (lv_at hl 1 rfl) ?_
  refine lv_iload_n hx hb dX9_closes_21 rfl (lv_at hl 0 rfl) ?_
  refine lv_iadd hx hb dX9_closes_22 ?_
  refine tpi (y := 65) (by decide) ?_
  refine lv_iconst (v := 0) hx hb dX9_closes_23 (by decide) ?_
  refine va_iast hx hb hK.1 hP hD hS 1 0 rfl rfl (vin_c _ _ rfl) dX9_closes_24 (fun H locs hP hD hS => ?_)
  have hP : va_P D vwCl [(md, .inr (9, [.int th, .ref m_all, .ref m_deeds, .ref m_trial, .int dm, .ref m_hasImage, .ref m_tape, .ref m_key, .ref m_answered, .int 0, .int 0, .int 0, .ref m_goes, .int sw, .ref m_hotOnes, .ref m_indexed, .ref m_isChanged, .int 0, .ref m_valueNow, .int 0, .int (-1), .int 0, .ref m_didSome, .ref m_sizes, .ref m_ends])), (m_all, aI cs 51207 (upd g_23 (65 : Int32).toNatClampNeg 0))] H := hP
  have hD : va_D A [(md, .inr (9, [.int th, .ref m_all, .ref m_deeds, .ref m_trial, .int dm, .ref m_hasImage, .ref m_tape, .ref m_key, .ref m_answered, .int 0, .int 0, .int 0, .ref m_goes, .int sw, .ref m_hotOnes, .ref m_indexed, .ref m_isChanged, .int 0, .ref m_valueNow, .int 0, .int (-1), .int 0, .ref m_didSome, .ref m_sizes, .ref m_ends])), (m_all, aI cs 51207 (upd g_23 (65 : Int32).toNatClampNeg 0))] := hD
  have za_26 : ∀ j, j < 51207 → j ≠ 59 → (upd g_23 (65 : Int32).toNatClampNeg 0) j = AL j := upd_ALy za_22 (by decide +kernel)
  obtain ⟨g_27, eg_28⟩ : ∃ g9 : Nat → Int32, upd g_23 (65 : Int32).toNatClampNeg 0 = g9 := ⟨_, rfl⟩
  rw [eg_28] at hP hD za_26
  refine lv_iinc (v := 7) (lv' := [(3, .int 7), (2, .int 59), (0, .ref md), (1, .int 0)]) hx hb dX9_closes_25 hl (k := 0) rfl (by decide) (by decide) rfl (fun ls hl => ?_)
  refine lv_goto (tgt := 10) hx hb dX9_closes_28 (by decide) ?_
  refine lv_iload_n hx hb dX9_closes_10 rfl (lv_at hl 0 rfl) ?_
  refine lv_bipush (v := 11) hx hb dX9_closes_11 (by decide) ?_
  refine lv_icmp_ge (tgt := 31) hx hb dX9_closes_13 (by decide) (fun c_29 => absurd c_29 (by decide)) (fun c_29 => ?_)
  refine lv_aload_n hx hb dX9_closes_16 rfl (lv_at hl 2 rfl) ?_
  refine va_get (D := D) (ci := 9) (v := .ref m_all) (C := RX9) (T := TX9) (N := 25) hx hb hu in_X9 hown hK.1 hP 0 rfl rfl 1 (by decide) (hu _ u_1081) (fun _ h9 => h9) rfl dX9_closes_17 ?_
  refine lv_iload_n hx hb dX9_closes_20 rfl (lv_at hl 1 rfl) ?_
  refine lv_iload_n hx hb dX9_closes_21 rfl (lv_at hl 0 rfl) ?_
  refine lv_iadd hx hb dX9_closes_22 ?_
  refine tpi (y := 66) (by decide) ?_
  refine lv_iconst (v := 0) hx hb dX9_closes_23 (by decide) ?_
  refine va_iast hx hb hK.1 hP hD hS 1 0 rfl rfl (vin_c _ _ rfl) dX9_closes_24 (fun H locs hP hD hS => ?_)
  have hP : va_P D vwCl [(md, .inr (9, [.int th, .ref m_all, .ref m_deeds, .ref m_trial, .int dm, .ref m_hasImage, .ref m_tape, .ref m_key, .ref m_answered, .int 0, .int 0, .int 0, .ref m_goes, .int sw, .ref m_hotOnes, .ref m_indexed, .ref m_isChanged, .int 0, .ref m_valueNow, .int 0, .int (-1), .int 0, .ref m_didSome, .ref m_sizes, .ref m_ends])), (m_all, aI cs 51207 (upd g_27 (66 : Int32).toNatClampNeg 0))] H := hP
  have hD : va_D A [(md, .inr (9, [.int th, .ref m_all, .ref m_deeds, .ref m_trial, .int dm, .ref m_hasImage, .ref m_tape, .ref m_key, .ref m_answered, .int 0, .int 0, .int 0, .ref m_goes, .int sw, .ref m_hotOnes, .ref m_indexed, .ref m_isChanged, .int 0, .ref m_valueNow, .int 0, .int (-1), .int 0, .ref m_didSome, .ref m_sizes, .ref m_ends])), (m_all, aI cs 51207 (upd g_27 (66 : Int32).toNatClampNeg 0))] := hD
  have za_30 : ∀ j, j < 51207 → j ≠ 59 → (upd g_27 (66 : Int32).toNatClampNeg 0) j = AL j := upd_ALy za_26 (by decide +kernel)
  obtain ⟨g_31, eg_32⟩ : ∃ g9 : Nat → Int32, upd g_27 (66 : Int32).toNatClampNeg 0 = g9 := ⟨_, rfl⟩
  rw [eg_32] at hP hD za_30
  refine lv_iinc (v := 8) (lv' := [(3, .int 8), (2, .int 59), (0, .ref md), (1, .int 0)]) hx hb dX9_closes_25 hl (k := 0) rfl (by decide) (by decide) rfl (fun ls hl => ?_)
  refine lv_goto (tgt := 10) hx hb dX9_closes_28 (by decide) ?_
  refine lv_iload_n hx hb dX9_closes_10 rfl (lv_at hl 0 rfl) ?_
  refine lv_bipush (v := 11) hx hb dX9_closes_11 (by decide) ?_
  refine lv_icmp_ge (tgt := 31) hx hb dX9_closes_13 (by decide) (fun c_33 => absurd c_33 (by decide)) (fun c_33 => ?_)
  refine lv_aload_n hx hb dX9_closes_16 rfl (lv_at hl 2 rfl) ?_
  refine va_get (D := D) (ci := 9) (v := .ref m_all) (C := RX9) (T := TX9) (N := 25) hx hb hu in_X9 hown hK.1 hP 0 rfl rfl 1 (by decide) (hu _ u_1081) (fun _ h9 => h9) rfl dX9_closes_17 ?_
  refine lv_iload_n hx hb dX9_closes_20 rfl (lv_at hl 1 rfl) ?_
  refine lv_iload_n hx hb dX9_closes_21 rfl (lv_at hl 0 rfl) ?_
  refine lv_iadd hx hb dX9_closes_22 ?_
  refine tpi (y := 67) (by decide) ?_
  refine lv_iconst (v := 0) hx hb dX9_closes_23 (by decide) ?_
  refine va_iast hx hb hK.1 hP hD hS 1 0 rfl rfl (vin_c _ _ rfl) dX9_closes_24 (fun H locs hP hD hS => ?_)
  have hP : va_P D vwCl [(md, .inr (9, [.int th, .ref m_all, .ref m_deeds, .ref m_trial, .int dm, .ref m_hasImage, .ref m_tape, .ref m_key, .ref m_answered, .int 0, .int 0, .int 0, .ref m_goes, .int sw, .ref m_hotOnes, .ref m_indexed, .ref m_isChanged, .int 0, .ref m_valueNow, .int 0, .int (-1), .int 0, .ref m_didSome, .ref m_sizes, .ref m_ends])), (m_all, aI cs 51207 (upd g_31 (67 : Int32).toNatClampNeg 0))] H := hP
  have hD : va_D A [(md, .inr (9, [.int th, .ref m_all, .ref m_deeds, .ref m_trial, .int dm, .ref m_hasImage, .ref m_tape, .ref m_key, .ref m_answered, .int 0, .int 0, .int 0, .ref m_goes, .int sw, .ref m_hotOnes, .ref m_indexed, .ref m_isChanged, .int 0, .ref m_valueNow, .int 0, .int (-1), .int 0, .ref m_didSome, .ref m_sizes, .ref m_ends])), (m_all, aI cs 51207 (upd g_31 (67 : Int32).toNatClampNeg 0))] := hD
  have za_34 : ∀ j, j < 51207 → j ≠ 59 → (upd g_31 (67 : Int32).toNatClampNeg 0) j = AL j := upd_ALy za_30 (by decide +kernel)
  obtain ⟨g_35, eg_36⟩ : ∃ g9 : Nat → Int32, upd g_31 (67 : Int32).toNatClampNeg 0 = g9 := ⟨_, rfl⟩
  rw [eg_36] at hP hD za_34
  refine lv_iinc (v := 9) (lv' := [(3, .int 9), (2, .int 59), (0, .ref md), (1, .int 0)]) hx hb dX9_closes_25 hl (k := 0) rfl (by decide) (by decide) rfl (fun ls hl => ?_)
  refine lv_goto (tgt := 10) hx hb dX9_closes_28 (by decide) ?_
  refine lv_iload_n hx hb dX9_closes_10 rfl (lv_at hl 0 rfl) ?_
  refine lv_bipush (v := 11) hx hb dX9_closes_11 (by decide) ?_
  refine lv_icmp_ge (tgt := 31) hx hb dX9_closes_13 (by decide) (fun c_37 => absurd c_37 (by decide)) (fun c_37 => ?_)
  refine lv_aload_n hx hb dX9_closes_16 rfl (lv_at hl 2 rfl) ?_
  refine va_get (D := D) (ci := 9) (v := .ref m_all) (C := RX9) (T := TX9) (N := 25) hx hb hu in_X9 hown hK.1 hP 0 rfl rfl 1 (by decide) (hu _ u_1081) (fun _ h9 => h9) rfl dX9_closes_17 ?_
  refine lv_iload_n hx hb dX9_closes_20 rfl (lv_at hl 1 rfl) ?_
  refine lv_iload_n hx hb dX9_closes_21 rfl (lv_at hl 0 rfl) ?_
  refine lv_iadd hx hb dX9_closes_22 ?_
  refine tpi (y := 68) (by decide) ?_
  refine lv_iconst (v := 0) hx hb dX9_closes_23 (by decide) ?_
  refine va_iast hx hb hK.1 hP hD hS 1 0 rfl rfl (vin_c _ _ rfl) dX9_closes_24 (fun H locs hP hD hS => ?_)
  have hP : va_P D vwCl [(md, .inr (9, [.int th, .ref m_all, .ref m_deeds, .ref m_trial, .int dm, .ref m_hasImage, .ref m_tape, .ref m_key, .ref m_answered, .int 0, .int 0, .int 0, .ref m_goes, .int sw, .ref m_hotOnes, .ref m_indexed, .ref m_isChanged, .int 0, .ref m_valueNow, .int 0, .int (-1), .int 0, .ref m_didSome, .ref m_sizes, .ref m_ends])), (m_all, aI cs 51207 (upd g_35 (68 : Int32).toNatClampNeg 0))] H := hP
  have hD : va_D A [(md, .inr (9, [.int th, .ref m_all, .ref m_deeds, .ref m_trial, .int dm, .ref m_hasImage, .ref m_tape, .ref m_key, .ref m_answered, .int 0, .int 0, .int 0, .ref m_goes, .int sw, .ref m_hotOnes, .ref m_indexed, .ref m_isChanged, .int 0, .ref m_valueNow, .int 0, .int (-1), .int 0, .ref m_didSome, .ref m_sizes, .ref m_ends])), (m_all, aI cs 51207 (upd g_35 (68 : Int32).toNatClampNeg 0))] := hD
  have za_38 : ∀ j, j < 51207 → j ≠ 59 → (upd g_35 (68 : Int32).toNatClampNeg 0) j = AL j := upd_ALy za_34 (by decide +kernel)
  obtain ⟨g_39, eg_40⟩ : ∃ g9 : Nat → Int32, upd g_35 (68 : Int32).toNatClampNeg 0 = g9 := ⟨_, rfl⟩
  rw [eg_40] at hP hD za_38
  refine lv_iinc (v := 10) (lv' := [(3, .int 10), (2, .int 59), (0, .ref md), (1, .int 0)]) hx hb dX9_closes_25 hl (k := 0) rfl (by decide) (by decide) rfl (fun ls hl => ?_)
  refine lv_goto (tgt := 10) hx hb dX9_closes_28 (by decide) ?_
  refine lv_iload_n hx hb dX9_closes_10 rfl (lv_at hl 0 rfl) ?_
  refine lv_bipush (v := 11) hx hb dX9_closes_11 (by decide) ?_
  refine lv_icmp_ge (tgt := 31) hx hb dX9_closes_13 (by decide) (fun c_41 => absurd c_41 (by decide)) (fun c_41 => ?_)
  refine lv_aload_n hx hb dX9_closes_16 rfl (lv_at hl 2 rfl) ?_
  refine va_get (D := D) (ci := 9) (v := .ref m_all) (C := RX9) (T := TX9) (N := 25) hx hb hu in_X9 hown hK.1 hP 0 rfl rfl 1 (by decide) (hu _ u_1081) (fun _ h9 => h9) rfl dX9_closes_17 ?_
  refine lv_iload_n hx hb dX9_closes_20 rfl (lv_at hl 1 rfl) ?_
  refine lv_iload_n hx hb dX9_closes_21 rfl (lv_at hl 0 rfl) ?_
  refine lv_iadd hx hb dX9_closes_22 ?_
  refine tpi (y := 69) (by decide) ?_
  refine lv_iconst (v := 0) hx hb dX9_closes_23 (by decide) ?_
  refine va_iast hx hb hK.1 hP hD hS 1 0 rfl rfl (vin_c _ _ rfl) dX9_closes_24 (fun H locs hP hD hS => ?_)
  have hP : va_P D vwCl [(md, .inr (9, [.int th, .ref m_all, .ref m_deeds, .ref m_trial, .int dm, .ref m_hasImage, .ref m_tape, .ref m_key, .ref m_answered, .int 0, .int 0, .int 0, .ref m_goes, .int sw, .ref m_hotOnes, .ref m_indexed, .ref m_isChanged, .int 0, .ref m_valueNow, .int 0, .int (-1), .int 0, .ref m_didSome, .ref m_sizes, .ref m_ends])), (m_all, aI cs 51207 (upd g_39 (69 : Int32).toNatClampNeg 0))] H := hP
  have hD : va_D A [(md, .inr (9, [.int th, .ref m_all, .ref m_deeds, .ref m_trial, .int dm, .ref m_hasImage, .ref m_tape, .ref m_key, .ref m_answered, .int 0, .int 0, .int 0, .ref m_goes, .int sw, .ref m_hotOnes, .ref m_indexed, .ref m_isChanged, .int 0, .ref m_valueNow, .int 0, .int (-1), .int 0, .ref m_didSome, .ref m_sizes, .ref m_ends])), (m_all, aI cs 51207 (upd g_39 (69 : Int32).toNatClampNeg 0))] := hD
  have za_42 : ∀ j, j < 51207 → j ≠ 59 → (upd g_39 (69 : Int32).toNatClampNeg 0) j = AL j := upd_ALy za_38 (by decide +kernel)
  obtain ⟨g_43, eg_44⟩ : ∃ g9 : Nat → Int32, upd g_39 (69 : Int32).toNatClampNeg 0 = g9 := ⟨_, rfl⟩
  rw [eg_44] at hP hD za_42
  refine lv_iinc (v := 11) (lv' := [(3, .int 11), (2, .int 59), (0, .ref md), (1, .int 0)]) hx hb dX9_closes_25 hl (k := 0) rfl (by decide) (by decide) rfl (fun ls hl => ?_)
  refine lv_goto (tgt := 10) hx hb dX9_closes_28 (by decide) ?_
  refine lv_iload_n hx hb dX9_closes_10 rfl (lv_at hl 0 rfl) ?_
  refine lv_bipush (v := 11) hx hb dX9_closes_11 (by decide) ?_
  refine lv_icmp_ge (tgt := 31) hx hb dX9_closes_13 (by decide) (fun c_45 => ?_) (fun c_45 => absurd (by decide) c_45)
  refine lv_aload_n hx hb dX9_closes_31 rfl (lv_at hl 2 rfl) ?_
  refine va_get (D := D) (ci := 9) (v := .ref m_all) (C := RX9) (T := TX9) (N := 25) hx hb hu in_X9 hown hK.1 hP 0 rfl rfl 1 (by decide) (hu _ u_1081) (fun _ h9 => h9) rfl dX9_closes_32 ?_
  refine lv_iload_n hx hb dX9_closes_35 rfl (lv_at hl 1 rfl) ?_
  refine lv_iconst (v := 0) hx hb dX9_closes_36 (by decide) ?_
  refine lv_iadd hx hb dX9_closes_37 ?_
  refine tpi (y := 59) (by decide) ?_
  refine lv_iconst (v := (-1)) hx hb dX9_closes_38 (by decide) ?_
  refine va_iast hx hb hK.1 hP hD hS 1 0 rfl rfl (vin_c _ _ rfl) dX9_closes_39 (fun H locs hP hD hS => ?_)
  have hP : va_P D vwCl [(md, .inr (9, [.int th, .ref m_all, .ref m_deeds, .ref m_trial, .int dm, .ref m_hasImage, .ref m_tape, .ref m_key, .ref m_answered, .int 0, .int 0, .int 0, .ref m_goes, .int sw, .ref m_hotOnes, .ref m_indexed, .ref m_isChanged, .int 0, .ref m_valueNow, .int 0, .int (-1), .int 0, .ref m_didSome, .ref m_sizes, .ref m_ends])), (m_all, aI cs 51207 (upd g_43 (59 : Int32).toNatClampNeg (-1)))] H := hP
  have hD : va_D A [(md, .inr (9, [.int th, .ref m_all, .ref m_deeds, .ref m_trial, .int dm, .ref m_hasImage, .ref m_tape, .ref m_key, .ref m_answered, .int 0, .int 0, .int 0, .ref m_goes, .int sw, .ref m_hotOnes, .ref m_indexed, .ref m_isChanged, .int 0, .ref m_valueNow, .int 0, .int (-1), .int 0, .ref m_didSome, .ref m_sizes, .ref m_ends])), (m_all, aI cs 51207 (upd g_43 (59 : Int32).toNatClampNeg (-1)))] := hD
  have za_46 : ∀ j, j < 51207 → (upd g_43 (59 : Int32).toNatClampNeg (-1)) j = AL j := upd_ALb za_42 (by decide +kernel)
  obtain ⟨g_47, eg_48⟩ : ∃ g9 : Nat → Int32, upd g_43 (59 : Int32).toNatClampNeg (-1) = g9 := ⟨_, rfl⟩
  rw [eg_48] at hP hD za_46
  refine lv_aload_n hx hb dX9_closes_40 rfl (lv_at hl 2 rfl) ?_
  refine kV_i (ci := 9) (As := []) (rest := []) (wc := [(md, .inr (9, [.int th, .ref m_all, .ref m_deeds, .ref m_trial, .int dm, .ref m_hasImage, .ref m_tape, .ref m_key, .ref m_answered, .int 0, .int 0, .int 0, .ref m_goes, .int sw, .ref m_hotOnes, .ref m_indexed, .ref m_isChanged, .int 0, .ref m_valueNow, .int 0, .int (-1), .int 0, .ref m_didSome, .ref m_sizes, .ref m_ends])), (m_all, aI cs 51207 g_47)]) (wr := []) hx hb hml hown hu hK hP hD hS hA hl.1 (c_X9_drops l D cs H.size md m_all g_47 m_deeds m_trial m_hasImage m_tape m_key m_answered m_goes m_hotOnes m_indexed m_isChanged m_valueNow m_didSome m_sizes m_ends dm th sw za_46) (gV u_1261 u_1263 u_31 u_76 u_1264) hd_X9_drops ⟨(Nat.le_of_ble_eq_true rfl), (Nat.le_of_ble_eq_true rfl)⟩ [0, 1] [] rfl rfl rfl rfl (by decide) rfl 0 rfl rfl rfl (Nat.le_of_ble_eq_true rfl) dX9_closes_41 ⟨(Nat.le_of_ble_eq_true rfl), (Nat.le_of_ble_eq_true rfl)⟩ (fun r_49 ut_50 H locs hw_51 hP hD hS => ?_)
  have hP : va_P D vwCl [(md, .inr (9, [.int th, .ref m_all, .ref m_deeds, .ref m_trial, .int dm, .ref m_hasImage, .ref m_tape, .ref m_key, .ref m_answered, .int 0, .int 0, .int 0, .ref m_goes, .int sw, .ref m_hotOnes, .ref m_indexed, .ref m_isChanged, .int 0, .ref m_valueNow, .int 0, .int (-1), .int 0, .ref m_didSome, .ref m_sizes, .ref m_ends])), (m_all, aI cs 51207 ut_50)] H := hP
  have hD : va_D A [(md, .inr (9, [.int th, .ref m_all, .ref m_deeds, .ref m_trial, .int dm, .ref m_hasImage, .ref m_tape, .ref m_key, .ref m_answered, .int 0, .int 0, .int 0, .ref m_goes, .int sw, .ref m_hotOnes, .ref m_indexed, .ref m_isChanged, .int 0, .ref m_valueNow, .int 0, .int (-1), .int 0, .ref m_didSome, .ref m_sizes, .ref m_ends])), (m_all, aI cs 51207 ut_50)] := hD
  obtain ⟨ug_52, rfl⟩ : ∃ z, z = ut_50 := ⟨_, rfl⟩
  have hP : va_P D vwCl [(md, .inr (9, [.int th, .ref m_all, .ref m_deeds, .ref m_trial, .int dm, .ref m_hasImage, .ref m_tape, .ref m_key, .ref m_answered, .int 0, .int 0, .int 0, .ref m_goes, .int sw, .ref m_hotOnes, .ref m_indexed, .ref m_isChanged, .int 0, .ref m_valueNow, .int 0, .int (-1), .int 0, .ref m_didSome, .ref m_sizes, .ref m_ends])), (m_all, aI cs 51207 ug_52)] H := hP
  have hD : va_D A [(md, .inr (9, [.int th, .ref m_all, .ref m_deeds, .ref m_trial, .int dm, .ref m_hasImage, .ref m_tape, .ref m_key, .ref m_answered, .int 0, .int 0, .int 0, .ref m_goes, .int sw, .ref m_hotOnes, .ref m_indexed, .ref m_isChanged, .int 0, .ref m_valueNow, .int 0, .int (-1), .int 0, .ref m_didSome, .ref m_sizes, .ref m_ends])), (m_all, aI cs 51207 ug_52)] := hD
  try dsimp only at hw_51
  obtain ⟨er_53, hf_54⟩ := hw_51
  subst er_53
  exact hz (ug_52) hP hD hS ⟨rfl, hf_54⟩ [0, 1] rfl rfl (Nat.le_of_ble_eq_true rfl) (Nat.le_of_ble_eq_true rfl) .int rfl rfl dX9_closes_44
abbrev rm_c_X9_closes1 : Room := { frames := 1, cells := 0, slots := 0, locals := 26 }
set_option maxHeartbeats 4000000 in
set_option maxRecDepth 100000 in
theorem c_X9_closes1 (l : Launch) (D : va_G) (cs : Nat → ClassId) (sz : Nat) (md : Nat) (m_all : Nat) (f_m_all : Nat → Int32) (m_deeds : Nat) (m_trial : Nat) (m_hasImage : Nat) (m_tape : Nat) (m_key : Nat) (m_answered : Nat) (m_goes : Nat) (m_hotOnes : Nat) (m_indexed : Nat) (m_isChanged : Nat) (m_valueNow : Nat) (m_didSome : Nat) (m_sizes : Nat) (m_ends : Nat) (dm : Int32) (th : Int32) (sw : Int32) (z_all : ∀ j, j < 51207 → f_m_all j = AL j) : cMi l yX9_closes (Cond.code yX9_closes cX9_closes 4 (some .int)) (rm_c_X9_closes1) D cs [.ref md, .int 1] sz [(md, .inr (9, [.int th, .ref m_all, .ref m_deeds, .ref m_trial, .int dm, .ref m_hasImage, .ref m_tape, .ref m_key, .ref m_answered, .int 0, .int 0, .int 0, .ref m_goes, .int sw, .ref m_hotOnes, .ref m_indexed, .ref m_isChanged, .int 0, .ref m_valueNow, .int 0, .int (-1), .int 0, .ref m_didSome, .ref m_sizes, .ref m_ends])), (m_all, aI cs 51207 f_m_all)] (fun (r : Int32) (u : Nat → Int32) => (r = 0) ∧ (∀ j, j < 51207 → u j = AL j)) (fun (u : Nat → Int32) => [(md, .inr (9, [.int th, .ref m_all, .ref m_deeds, .ref m_trial, .int dm, .ref m_hasImage, .ref m_tape, .ref m_key, .ref m_answered, .int 0, .int 0, .int 0, .ref m_goes, .int sw, .ref m_hotOnes, .ref m_indexed, .ref m_isChanged, .int 0, .ref m_valueNow, .int 0, .int (-1), .int 0, .ref m_didSome, .ref m_sizes, .ref m_ends])), (m_all, aI cs 51207 u)]) := by
  refine kMet_i RX9 (by decide) rfl (Nat.le_of_ble_eq_true rfl) ?_
  intro p e s m below meth c ls A Qz H locs hx hb hml hown hin hu hK hsz hA hP hD hS hl hz
  subst hsz
  have hl : lv_has ls 4 [(0, .ref md), (1, .int 1)] := hl
  refine lv_bipush (v := 59) hx hb dX9_closes_0 (by decide) ?_
  refine lv_bipush (v := 11) hx hb dX9_closes_2 (by decide) ?_
  refine lv_iload_n hx hb dX9_closes_4 rfl (lv_at hl 1 rfl) ?_
  refine lv_imul hx hb dX9_closes_5 ?_
  refine tpi (y := 11) (by decide) ?_
  refine lv_iadd hx hb dX9_closes_6 ?_
  refine tpi (y := 70) (by decide) ?_
  refine lv_istore_n (lv' := [(2, .int 70), (0, .ref md), (1, .int 1)]) hx hb dX9_closes_7 rfl hl (by decide) rfl (fun ls hl => ?_)
  refine lv_iconst (v := 0) hx hb dX9_closes_8 (by decide) ?_
  refine lv_istore_n (lv' := [(3, .int 0), (2, .int 70), (0, .ref md), (1, .int 1)]) hx hb dX9_closes_9 rfl hl (by decide) rfl (fun ls hl => ?_)
  refine lv_iload_n hx hb dX9_closes_10 rfl (lv_at hl 0 rfl) ?_
  refine lv_bipush (v := 11) hx hb dX9_closes_11 (by decide) ?_
  refine lv_icmp_ge (tgt := 31) hx hb dX9_closes_13 (by decide) (fun c_1 => absurd c_1 (by decide)) (fun c_1 => ?_)
  refine lv_aload_n hx hb dX9_closes_16 rfl (lv_at hl 2 rfl) ?_
  refine va_get (D := D) (ci := 9) (v := .ref m_all) (C := RX9) (T := TX9) (N := 25) hx hb hu in_X9 hown hK.1 hP 0 rfl rfl 1 (by decide) (hu _ u_1081) (fun _ h9 => h9) rfl dX9_closes_17 ?_
  refine lv_iload_n hx hb dX9_closes_20 rfl (lv_at hl 1 rfl) ?_
  refine lv_iload_n hx hb dX9_closes_21 rfl (lv_at hl 0 rfl) ?_
  refine lv_iadd hx hb dX9_closes_22 ?_
  refine tpi (y := 70) (by decide) ?_
  refine lv_iconst (v := 0) hx hb dX9_closes_23 (by decide) ?_
  refine va_iast hx hb hK.1 hP hD hS 1 0 rfl rfl (vin_c _ _ rfl) dX9_closes_24 (fun H locs hP hD hS => ?_)
  have hP : va_P D vwCl [(md, .inr (9, [.int th, .ref m_all, .ref m_deeds, .ref m_trial, .int dm, .ref m_hasImage, .ref m_tape, .ref m_key, .ref m_answered, .int 0, .int 0, .int 0, .ref m_goes, .int sw, .ref m_hotOnes, .ref m_indexed, .ref m_isChanged, .int 0, .ref m_valueNow, .int 0, .int (-1), .int 0, .ref m_didSome, .ref m_sizes, .ref m_ends])), (m_all, aI cs 51207 (upd f_m_all (70 : Int32).toNatClampNeg 0))] H := hP
  have hD : va_D A [(md, .inr (9, [.int th, .ref m_all, .ref m_deeds, .ref m_trial, .int dm, .ref m_hasImage, .ref m_tape, .ref m_key, .ref m_answered, .int 0, .int 0, .int 0, .ref m_goes, .int sw, .ref m_hotOnes, .ref m_indexed, .ref m_isChanged, .int 0, .ref m_valueNow, .int 0, .int (-1), .int 0, .ref m_didSome, .ref m_sizes, .ref m_ends])), (m_all, aI cs 51207 (upd f_m_all (70 : Int32).toNatClampNeg 0))] := hD
  have za_2 : ∀ j, j < 51207 → j ≠ 70 → (upd f_m_all (70 : Int32).toNatClampNeg 0) j = AL j := upd_ALx z_all
  obtain ⟨g_3, eg_4⟩ : ∃ g9 : Nat → Int32, upd f_m_all (70 : Int32).toNatClampNeg 0 = g9 := ⟨_, rfl⟩
  rw [eg_4] at hP hD za_2
  refine lv_iinc (v := 1) (lv' := [(3, .int 1), (2, .int 70), (0, .ref md), (1, .int 1)]) hx hb dX9_closes_25 hl (k := 0) rfl (by decide) (by decide) rfl (fun ls hl => ?_)
  refine lv_goto (tgt := 10) hx hb dX9_closes_28 (by decide) ?_
  refine lv_iload_n hx hb dX9_closes_10 rfl (lv_at hl 0 rfl) ?_
  refine lv_bipush (v := 11) hx hb dX9_closes_11 (by decide) ?_
  refine lv_icmp_ge (tgt := 31) hx hb dX9_closes_13 (by decide) (fun c_5 => absurd c_5 (by decide)) (fun c_5 => ?_)
  refine lv_aload_n hx hb dX9_closes_16 rfl (lv_at hl 2 rfl) ?_
  refine va_get (D := D) (ci := 9) (v := .ref m_all) (C := RX9) (T := TX9) (N := 25) hx hb hu in_X9 hown hK.1 hP 0 rfl rfl 1 (by decide) (hu _ u_1081) (fun _ h9 => h9) rfl dX9_closes_17 ?_
  refine lv_iload_n hx hb dX9_closes_20 rfl (lv_at hl 1 rfl) ?_
  refine lv_iload_n hx hb dX9_closes_21 rfl (lv_at hl 0 rfl) ?_
  refine lv_iadd hx hb dX9_closes_22 ?_
  refine tpi (y := 71) (by decide) ?_
  refine lv_iconst (v := 0) hx hb dX9_closes_23 (by decide) ?_
  refine va_iast hx hb hK.1 hP hD hS 1 0 rfl rfl (vin_c _ _ rfl) dX9_closes_24 (fun H locs hP hD hS => ?_)
  have hP : va_P D vwCl [(md, .inr (9, [.int th, .ref m_all, .ref m_deeds, .ref m_trial, .int dm, .ref m_hasImage, .ref m_tape, .ref m_key, .ref m_answered, .int 0, .int 0, .int 0, .ref m_goes, .int sw, .ref m_hotOnes, .ref m_indexed, .ref m_isChanged, .int 0, .ref m_valueNow, .int 0, .int (-1), .int 0, .ref m_didSome, .ref m_sizes, .ref m_ends])), (m_all, aI cs 51207 (upd g_3 (71 : Int32).toNatClampNeg 0))] H := hP
  have hD : va_D A [(md, .inr (9, [.int th, .ref m_all, .ref m_deeds, .ref m_trial, .int dm, .ref m_hasImage, .ref m_tape, .ref m_key, .ref m_answered, .int 0, .int 0, .int 0, .ref m_goes, .int sw, .ref m_hotOnes, .ref m_indexed, .ref m_isChanged, .int 0, .ref m_valueNow, .int 0, .int (-1), .int 0, .ref m_didSome, .ref m_sizes, .ref m_ends])), (m_all, aI cs 51207 (upd g_3 (71 : Int32).toNatClampNeg 0))] := hD
  have za_6 : ∀ j, j < 51207 → j ≠ 70 → (upd g_3 (71 : Int32).toNatClampNeg 0) j = AL j := upd_ALy za_2 (by decide +kernel)
  obtain ⟨g_7, eg_8⟩ : ∃ g9 : Nat → Int32, upd g_3 (71 : Int32).toNatClampNeg 0 = g9 := ⟨_, rfl⟩
  rw [eg_8] at hP hD za_6
  refine lv_iinc (v := 2) (lv' := [(3, .int 2), (2, .int 70), (0, .ref md), (1, .int 1)]) hx hb dX9_closes_25 hl (k := 0) rfl (by decide) (by decide) rfl (fun ls hl => ?_)
  refine lv_goto (tgt := 10) hx hb dX9_closes_28 (by decide) ?_
  refine lv_iload_n hx hb dX9_closes_10 rfl (lv_at hl 0 rfl) ?_
  refine lv_bipush (v := 11) hx hb dX9_closes_11 (by decide) ?_
  refine lv_icmp_ge (tgt := 31) hx hb dX9_closes_13 (by decide) (fun c_9 => absurd c_9 (by decide)) (fun c_9 => ?_)
  refine lv_aload_n hx hb dX9_closes_16 rfl (lv_at hl 2 rfl) ?_
  refine va_get (D := D) (ci := 9) (v := .ref m_all) (C := RX9) (T := TX9) (N := 25) hx hb hu in_X9 hown hK.1 hP 0 rfl rfl 1 (by decide) (hu _ u_1081) (fun _ h9 => h9) rfl dX9_closes_17 ?_
  refine lv_iload_n hx hb dX9_closes_20 rfl (lv_at hl 1 rfl) ?_
  refine lv_iload_n hx hb dX9_closes_21 rfl (lv_at hl 0 rfl) ?_
  refine lv_iadd hx hb dX9_closes_22 ?_
  refine tpi (y := 72) (by decide) ?_
  refine lv_iconst (v := 0) hx hb dX9_closes_23 (by decide) ?_
  refine va_iast hx hb hK.1 hP hD hS 1 0 rfl rfl (vin_c _ _ rfl) dX9_closes_24 (fun H locs hP hD hS => ?_)
  have hP : va_P D vwCl [(md, .inr (9, [.int th, .ref m_all, .ref m_deeds, .ref m_trial, .int dm, .ref m_hasImage, .ref m_tape, .ref m_key, .ref m_answered, .int 0, .int 0, .int 0, .ref m_goes, .int sw, .ref m_hotOnes, .ref m_indexed, .ref m_isChanged, .int 0, .ref m_valueNow, .int 0, .int (-1), .int 0, .ref m_didSome, .ref m_sizes, .ref m_ends])), (m_all, aI cs 51207 (upd g_7 (72 : Int32).toNatClampNeg 0))] H := hP
  have hD : va_D A [(md, .inr (9, [.int th, .ref m_all, .ref m_deeds, .ref m_trial, .int dm, .ref m_hasImage, .ref m_tape, .ref m_key, .ref m_answered, .int 0, .int 0, .int 0, .ref m_goes, .int sw, .ref m_hotOnes, .ref m_indexed, .ref m_isChanged, .int 0, .ref m_valueNow, .int 0, .int (-1), .int 0, .ref m_didSome, .ref m_sizes, .ref m_ends])), (m_all, aI cs 51207 (upd g_7 (72 : Int32).toNatClampNeg 0))] := hD
  have za_10 : ∀ j, j < 51207 → j ≠ 70 → (upd g_7 (72 : Int32).toNatClampNeg 0) j = AL j := upd_ALy za_6 (by decide +kernel)
  obtain ⟨g_11, eg_12⟩ : ∃ g9 : Nat → Int32, upd g_7 (72 : Int32).toNatClampNeg 0 = g9 := ⟨_, rfl⟩
  rw [eg_12] at hP hD za_10
  refine lv_iinc (v := 3) (lv' := [(3, .int 3), (2, .int 70), (0, .ref md), (1, .int 1)]) hx hb dX9_closes_25 hl (k := 0) rfl (by decide) (by decide) rfl (fun ls hl => ?_)
  refine lv_goto (tgt := 10) hx hb dX9_closes_28 (by decide) ?_
  refine lv_iload_n hx hb dX9_closes_10 rfl (lv_at hl 0 rfl) ?_
  refine lv_bipush (v := 11) hx hb dX9_closes_11 (by decide) ?_
  refine lv_icmp_ge (tgt := 31) hx hb dX9_closes_13 (by decide) (fun c_13 => absurd c_13 (by decide)) (fun c_13 => ?_)
  refine lv_aload_n hx hb dX9_closes_16 rfl (lv_at hl 2 rfl) ?_
  refine va_get (D := D) (ci := 9) (v := .ref m_all) (C := RX9) (T := TX9) (N := 25) hx hb hu in_X9 hown hK.1 hP 0 rfl rfl 1 (by decide) (hu _ u_1081) (fun _ h9 => h9) rfl dX9_closes_17 ?_
  refine lv_iload_n hx hb dX9_closes_20 rfl (lv_at hl 1 rfl) ?_
  refine lv_iload_n hx hb dX9_closes_21 rfl (lv_at hl 0 rfl) ?_
  refine lv_iadd hx hb dX9_closes_22 ?_
  refine tpi (y := 73) (by decide) ?_
  refine lv_iconst (v := 0) hx hb dX9_closes_23 (by decide) ?_
  refine va_iast hx hb hK.1 hP hD hS 1 0 rfl rfl (vin_c _ _ rfl) dX9_closes_24 (fun H locs hP hD hS => ?_)
  have hP : va_P D vwCl [(md, .inr (9, [.int th, .ref m_all, .ref m_deeds, .ref m_trial, .int dm, .ref m_hasImage, .ref m_tape, .ref m_key, .ref m_answered, .int 0, .int 0, .int 0, .ref m_goes, .int sw, .ref m_hotOnes, .ref m_indexed, .ref m_isChanged, .int 0, .ref m_valueNow, .int 0, .int (-1), .int 0, .ref m_didSome, .ref m_sizes, .ref m_ends])), (m_all, aI cs 51207 (upd g_11 (73 : Int32).toNatClampNeg 0))] H := hP
  have hD : va_D A [(md, .inr (9, [.int th, .ref m_all, .ref m_deeds, .ref m_trial, .int dm, .ref m_hasImage, .ref m_tape, .ref m_key, .ref m_answered, .int 0, .int 0, .int 0, .ref m_goes, .int sw, .ref m_hotOnes, .ref m_indexed, .ref m_isChanged, .int 0, .ref m_valueNow, .int 0, .int (-1), .int 0, .ref m_didSome, .ref m_sizes, .ref m_ends])), (m_all, aI cs 51207 (upd g_11 (73 : Int32).toNatClampNeg 0))] := hD
  have za_14 : ∀ j, j < 51207 → j ≠ 70 → (upd g_11 (73 : Int32).toNatClampNeg 0) j = AL j := upd_ALy za_10 (by decide +kernel)
  obtain ⟨g_15, eg_16⟩ : ∃ g9 : Nat → Int32, upd g_11 (73 : Int32).toNatClampNeg 0 = g9 := ⟨_, rfl⟩
  rw [eg_16] at hP hD za_14
  refine lv_iinc (v := 4) (lv' := [(3, .int 4), (2, .int 70), (0, .ref md), (1, .int 1)]) hx hb dX9_closes_25 hl (k := 0) rfl (by decide) (by decide) rfl (fun ls hl => ?_)
  refine lv_goto (tgt := 10) hx hb dX9_closes_28 (by decide) ?_
  refine lv_iload_n hx hb dX9_closes_10 rfl (lv_at hl 0 rfl) ?_
  refine lv_bipush (v := 11) hx hb dX9_closes_11 (by decide) ?_
  refine lv_icmp_ge (tgt := 31) hx hb dX9_closes_13 (by decide) (fun c_17 => absurd c_17 (by decide)) (fun c_17 => ?_)
  refine lv_aload_n hx hb dX9_closes_16 rfl (lv_at hl 2 rfl) ?_
  refine va_get (D := D) (ci := 9) (v := .ref m_all) (C := RX9) (T := TX9) (N := 25) hx hb hu in_X9 hown hK.1 hP 0 rfl rfl 1 (by decide) (hu _ u_1081) (fun _ h9 => h9) rfl dX9_closes_17 ?_
  refine lv_iload_n hx hb dX9_closes_20 rfl (lv_at hl 1 rfl) ?_
  refine lv_iload_n hx hb dX9_closes_21 rfl (lv_at hl 0 rfl) ?_
  refine lv_iadd hx hb dX9_closes_22 ?_
  refine tpi (y := 74) (by decide) ?_
  refine lv_iconst (v := 0) hx hb dX9_closes_23 (by decide) ?_
  refine va_iast hx hb hK.1 hP hD hS 1 0 rfl rfl (vin_c _ _ rfl) dX9_closes_24 (fun H locs hP hD hS => ?_)
  have hP : va_P D vwCl [(md, .inr (9, [.int th, .ref m_all, .ref m_deeds, .ref m_trial, .int dm, .ref m_hasImage, .ref m_tape, .ref m_key, .ref m_answered, .int 0, .int 0, .int 0, .ref m_goes, .int sw, .ref m_hotOnes, .ref m_indexed, .ref m_isChanged, .int 0, .ref m_valueNow, .int 0, .int (-1), .int 0, .ref m_didSome, .ref m_sizes, .ref m_ends])), (m_all, aI cs 51207 (upd g_15 (74 : Int32).toNatClampNeg 0))] H := hP
  have hD : va_D A [(md, .inr (9, [.int th, .ref m_all, .ref m_deeds, .ref m_trial, .int dm, .ref m_hasImage, .ref m_tape, .ref m_key, .ref m_answered, .int 0, .int 0, .int 0, .ref m_goes, .int sw, .ref m_hotOnes, .ref m_indexed, .ref m_isChanged, .int 0, .ref m_valueNow, .int 0, .int (-1), .int 0, .ref m_didSome, .ref m_sizes, .ref m_ends])), (m_all, aI cs 51207 (upd g_15 (74 : Int32).toNatClampNeg 0))] := hD
  have za_18 : ∀ j, j < 51207 → j ≠ 70 → (upd g_15 (74 : Int32).toNatClampNeg 0) j = AL j := upd_ALy za_14 (by decide +kernel)
  obtain ⟨g_19, eg_20⟩ : ∃ g9 : Nat → Int32, upd g_15 (74 : Int32).toNatClampNeg 0 = g9 := ⟨_, rfl⟩
  rw [eg_20] at hP hD za_18
  refine lv_iinc (v := 5) (lv' := [(3, .int 5), (2, .int 70), (0, .ref md), (1, .int 1)]) hx hb dX9_closes_25 hl (k := 0) rfl (by decide) (by decide) rfl (fun ls hl => ?_)
  refine lv_goto (tgt := 10) hx hb dX9_closes_28 (by decide) ?_
  refine lv_iload_n hx hb dX9_closes_10 rfl (lv_at hl 0 rfl) ?_
  refine lv_bipush (v := 11) hx hb dX9_closes_11 (by decide) ?_
  refine lv_icmp_ge (tgt := 31) hx hb dX9_closes_13 (by decide) (fun c_21 => absurd c_21 (by decide)) (fun c_21 => ?_)
  refine lv_aload_n hx hb dX9_closes_16 rfl (lv_at hl 2 rfl) ?_
  refine va_get (D := D) (ci := 9) (v := .ref m_all) (C := RX9) (T := TX9) (N := 25) hx hb hu in_X9 hown hK.1 hP 0 rfl rfl 1 (by decide) (hu _ u_1081) (fun _ h9 => h9) rfl dX9_closes_17 ?_
  refine lv_iload_n hx hb dX9_closes_20 rfl (lv_at hl 1 rfl) ?_
  refine lv_iload_n hx hb dX9_closes_21 rfl (lv_at hl 0 rfl) ?_
  refine lv_iadd hx hb dX9_closes_22 ?_
  refine tpi (y := 75) (by decide) ?_
  refine lv_iconst (v := 0) hx hb dX9_closes_23 (by decide) ?_
  refine va_iast hx hb hK.1 hP hD hS 1 0 rfl rfl (vin_c _ _ rfl) dX9_closes_24 (fun H locs hP hD hS => ?_)
  have hP : va_P D vwCl [(md, .inr (9, [.int th, .ref m_all, .ref m_deeds, .ref m_trial, .int dm, .ref m_hasImage, .ref m_tape, .ref m_key, .ref m_answered, .int 0, .int 0, .int 0, .ref m_goes, .int sw, .ref m_hotOnes, .ref m_indexed, .ref m_isChanged, .int 0, .ref m_valueNow, .int 0, .int (-1), .int 0, .ref m_didSome, .ref m_sizes, .ref m_ends])), (m_all, aI cs 51207 (upd g_19 (75 : Int32).toNatClampNeg 0))] H := hP
  have hD : va_D A [(md, .inr (9, [.int th, .ref m_all, .ref m_deeds, .ref m_trial, .int dm, .ref m_hasImage, .ref m_tape, .ref m_key, .ref m_answered, .int 0, .int 0, .int 0, .ref m_goes, .int sw, .ref m_hotOnes, .ref m_indexed, .ref m_isChanged, .int 0, .ref m_valueNow, .int 0, .int (-1), .int 0, .ref m_didSome, .ref m_sizes, .ref m_ends])), (m_all, aI cs 51207 (upd g_19 (75 : Int32).toNatClampNeg 0))] := hD
  have za_22 : ∀ j, j < 51207 → j ≠ 70 → (upd g_19 (75 : Int32).toNatClampNeg 0) j = AL j := upd_ALy za_18 (by decide +kernel)
  obtain ⟨g_23, eg_24⟩ : ∃ g9 : Nat → Int32, upd g_19 (75 : Int32).toNatClampNeg 0 = g9 := ⟨_, rfl⟩
  rw [eg_24] at hP hD za_22
  refine lv_iinc (v := 6) (lv' := [(3, .int 6), (2, .int 70), (0, .ref md), (1, .int 1)]) hx hb dX9_closes_25 hl (k := 0) rfl (by decide) (by decide) rfl (fun ls hl => ?_)
  refine lv_goto (tgt := 10) hx hb dX9_closes_28 (by decide) ?_
  refine lv_iload_n hx hb dX9_closes_10 rfl (lv_at hl 0 rfl) ?_
  refine lv_bipush (v := 11) hx hb dX9_closes_11 (by decide) ?_
  refine lv_icmp_ge (tgt := 31) hx hb dX9_closes_13 (by decide) (fun c_25 => absurd c_25 (by decide)) (fun c_25 => ?_)
  refine lv_aload_n hx hb dX9_closes_16 rfl (lv_at hl 2 rfl) ?_
  refine va_get (D := D) (ci := 9) (v := .ref m_all) (C := RX9) (T := TX9) (N := 25) hx hb hu in_X9 hown hK.1 hP 0 rfl rfl 1 (by decide) (hu _ u_1081) (fun _ h9 => h9) rfl dX9_closes_17 ?_
  refine lv_iload_n hx hb dX9_closes_20 rfl (lv_at hl 1 rfl) ?_
  refine lv_iload_n hx hb dX9_closes_21 rfl (lv_at hl 0 rfl) ?_
  refine lv_iadd hx hb dX9_closes_22 ?_
  refine tpi (y := 76) (by decide) ?_
  refine lv_iconst (v := 0) hx hb dX9_closes_23 (by decide) ?_
  refine va_iast hx hb hK.1 hP hD hS 1 0 rfl rfl (vin_c _ _ rfl) dX9_closes_24 (fun H locs hP hD hS => ?_)
  have hP : va_P D vwCl [(md, .inr (9, [.int th, .ref m_all, .ref m_deeds, .ref m_trial, .int dm, .ref m_hasImage, .ref m_tape, .ref m_key, .ref m_answered, .int 0, .int 0, .int 0, .ref m_goes, .int sw, .ref m_hotOnes, .ref m_indexed, .ref m_isChanged, .int 0, .ref m_valueNow, .int 0, .int (-1), .int 0, .ref m_didSome, .ref m_sizes, .ref m_ends])), (m_all, aI cs 51207 (upd g_23 (76 : Int32).toNatClampNeg 0))] H := hP
  have hD : va_D A [(md, .inr (9, [.int th, .ref m_all, .ref m_deeds, .ref m_trial, .int dm, .ref m_hasImage, .ref m_tape, .ref m_key, .ref m_answered, .int 0, .int 0, .int 0, .ref m_goes, .int sw, .ref m_hotOnes, .ref m_indexed, .ref m_isChanged, .int 0, .ref m_valueNow, .int 0, .int (-1), .int 0, .ref m_didSome, .ref m_sizes, .ref m_ends])), (m_all, aI cs 51207 (upd g_23 (76 : Int32).toNatClampNeg 0))] := hD
  have za_26 : ∀ j, j < 51207 → j ≠ 70 → (upd g_23 (76 : Int32).toNatClampNeg 0) j = AL j := upd_ALy za_22 (by decide +kernel)
  obtain ⟨g_27, eg_28⟩ : ∃ g9 : Nat → Int32, upd g_23 (76 : Int32).toNatClampNeg 0 = g9 := ⟨_, rfl⟩
  rw [eg_28] at hP hD za_26
  refine lv_iinc (v := 7) (lv' := [(3, .int 7), (2, .int 70), (0, .ref md), (1, .int 1)]) hx hb dX9_closes_25 hl (k := 0) rfl (by decide) (by decide) rfl (fun ls hl => ?_)
  refine lv_goto (tgt := 10) hx hb dX9_closes_28 (by decide) ?_
  refine lv_iload_n hx hb dX9_closes_10 rfl (lv_at hl 0 rfl) ?_
  refine lv_bipush (v := 11) hx hb dX9_closes_11 (by decide) ?_
  refine lv_icmp_ge (tgt := 31) hx hb dX9_closes_13 (by decide) (fun c_29 => absurd c_29 (by decide)) (fun c_29 => ?_)
  refine lv_aload_n hx hb dX9_closes_16 rfl (lv_at hl 2 rfl) ?_
  refine va_get (D := D) (ci := 9) (v := .ref m_all) (C := RX9) (T := TX9) (N := 25) hx hb hu in_X9 hown hK.1 hP 0 rfl rfl 1 (by decide) (hu _ u_1081) (fun _ h9 => h9) rfl dX9_closes_17 ?_
  refine lv_iload_n hx hb dX9_closes_20 rfl (lv_at hl 1 rfl) ?_
  refine lv_iload_n hx hb dX9_closes_21 rfl (lv_at hl 0 rfl) ?_
  refine lv_iadd hx hb dX9_closes_22 ?_
  refine tpi (y := 77) (by decide) ?_
  refine lv_iconst (v := 0) hx hb dX9_closes_23 (by decide) ?_
  refine va_iast hx hb hK.1 hP hD hS 1 0 rfl rfl (vin_c _ _ rfl) dX9_closes_24 (fun H locs hP hD hS => ?_)
  have hP : va_P D vwCl [(md, .inr (9, [.int th, .ref m_all, .ref m_deeds, .ref m_trial, .int dm, .ref m_hasImage, .ref m_tape, .ref m_key, .ref m_answered, .int 0, .int 0, .int 0, .ref m_goes, .int sw, .ref m_hotOnes, .ref m_indexed, .ref m_isChanged, .int 0, .ref m_valueNow, .int 0, .int (-1), .int 0, .ref m_didSome, .ref m_sizes, .ref m_ends])), (m_all, aI cs 51207 (upd g_27 (77 : Int32).toNatClampNeg 0))] H := hP
  have hD : va_D A [(md, .inr (9, [.int th, .ref m_all, .ref m_deeds, .ref m_trial, .int dm, .ref m_hasImage, .ref m_tape, .ref m_key, .ref m_answered, .int 0, .int 0, .int 0, .ref m_goes, .int sw, .ref m_hotOnes, .ref m_indexed, .ref m_isChanged, .int 0, .ref m_valueNow, .int 0, .int (-1), .int 0, .ref m_didSome, .ref m_sizes, .ref m_ends])), (m_all, aI cs 51207 (upd g_27 (77 : Int32).toNatClampNeg 0))] := hD
  have za_30 : ∀ j, j < 51207 → j ≠ 70 → (upd g_27 (77 : Int32).toNatClampNeg 0) j = AL j := upd_ALy za_26 (by decide +kernel)
  obtain ⟨g_31, eg_32⟩ : ∃ g9 : Nat → Int32, upd g_27 (77 : Int32).toNatClampNeg 0 = g9 := ⟨_, rfl⟩
  rw [eg_32] at hP hD za_30
  refine lv_iinc (v := 8) (lv' := [(3, .int 8), (2, .int 70), (0, .ref md), (1, .int 1)]) hx hb dX9_closes_25 hl (k := 0) rfl (by decide) (by decide) rfl (fun ls hl => ?_)
  refine lv_goto (tgt := 10) hx hb dX9_closes_28 (by decide) ?_
  refine lv_iload_n hx hb dX9_closes_10 rfl (lv_at hl 0 rfl) ?_
  refine lv_bipush (v := 11) hx hb dX9_closes_11 (by decide) ?_
  refine lv_icmp_ge (tgt := 31) hx hb dX9_closes_13 (by decide) (fun c_33 => absurd c_33 (by decide)) (fun c_33 => ?_)
  refine lv_aload_n hx hb dX9_closes_16 rfl (lv_at hl 2 rfl) ?_
  refine va_get (D := D) (ci := 9) (v := .ref m_all) (C := RX9) (T := TX9) (N := 25) hx hb hu in_X9 hown hK.1 hP 0 rfl rfl 1 (by decide) (hu _ u_1081) (fun _ h9 => h9) rfl dX9_closes_17 ?_
  refine lv_iload_n hx hb dX9_closes_20 rfl (lv_at hl 1 rfl) ?_
  refine lv_iload_n hx hb dX9_closes_21 rfl (lv_at hl 0 rfl) ?_
  refine lv_iadd hx hb dX9_closes_22 ?_
  refine tpi (y := 78) (by decide) ?_
  refine lv_iconst (v := 0) hx hb dX9_closes_23 (by decide) ?_
  refine va_iast hx hb hK.1 hP hD hS 1 0 rfl rfl (vin_c _ _ rfl) dX9_closes_24 (fun H locs hP hD hS => ?_)
  have hP : va_P D vwCl [(md, .inr (9, [.int th, .ref m_all, .ref m_deeds, .ref m_trial, .int dm, .ref m_hasImage, .ref m_tape, .ref m_key, .ref m_answered, .int 0, .int 0, .int 0, .ref m_goes, .int sw, .ref m_hotOnes, .ref m_indexed, .ref m_isChanged, .int 0, .ref m_valueNow, .int 0, .int (-1), .int 0, .ref m_didSome, .ref m_sizes, .ref m_ends])), (m_all, aI cs 51207 (upd g_31 (78 : Int32).toNatClampNeg 0))] H := hP
  have hD : va_D A [(md, .inr (9, [.int th, .ref m_all, .ref m_deeds, .ref m_trial, .int dm, .ref m_hasImage, .ref m_tape, .ref m_key, .ref m_answered, .int 0, .int 0, .int 0, .ref m_goes, .int sw, .ref m_hotOnes, .ref m_indexed, .ref m_isChanged, .int 0, .ref m_valueNow, .int 0, .int (-1), .int 0, .ref m_didSome, .ref m_sizes, .ref m_ends])), (m_all, aI cs 51207 (upd g_31 (78 : Int32).toNatClampNeg 0))] := hD
  have za_34 : ∀ j, j < 51207 → j ≠ 70 → (upd g_31 (78 : Int32).toNatClampNeg 0) j = AL j := upd_ALy za_30 (by decide +kernel)
  obtain ⟨g_35, eg_36⟩ : ∃ g9 : Nat → Int32, upd g_31 (78 : Int32).toNatClampNeg 0 = g9 := ⟨_, rfl⟩
  rw [eg_36] at hP hD za_34
  refine lv_iinc (v := 9) (lv' := [(3, .int 9), (2, .int 70), (0, .ref md), (1, .int 1)]) hx hb dX9_closes_25 hl (k := 0) rfl (by decide) (by decide) rfl (fun ls hl => ?_)
  refine lv_goto (tgt := 10) hx hb dX9_closes_28 (by decide) ?_
  refine lv_iload_n hx hb dX9_closes_10 rfl (lv_at hl 0 rfl) ?_
  refine lv_bipush (v := 11) hx hb dX9_closes_11 (by decide) ?_
  refine lv_icmp_ge (tgt := 31) hx hb dX9_closes_13 (by decide) (fun c_37 => absurd c_37 (by decide)) (fun c_37 => ?_)
  refine lv_aload_n hx hb dX9_closes_16 rfl (lv_at hl 2 rfl) ?_
  refine va_get (D := D) (ci := 9) (v := .ref m_all) (C := RX9) (T := TX9) (N := 25) hx hb hu in_X9 hown hK.1 hP 0 rfl rfl 1 (by decide) (hu _ u_1081) (fun _ h9 => h9) rfl dX9_closes_17 ?_
  refine lv_iload_n hx hb dX9_closes_20 rfl (lv_at hl 1 rfl) ?_
  refine lv_iload_n hx hb dX9_closes_21 rfl (lv_at hl 0 rfl) ?_
  refine lv_iadd hx hb dX9_closes_22 ?_
  refine tpi (y := 79) (by decide) ?_
  refine lv_iconst (v := 0) hx hb dX9_closes_23 (by decide) ?_
  refine va_iast hx hb hK.1 hP hD hS 1 0 rfl rfl (vin_c _ _ rfl) dX9_closes_24 (fun H locs hP hD hS => ?_)
  have hP : va_P D vwCl [(md, .inr (9, [.int th, .ref m_all, .ref m_deeds, .ref m_trial, .int dm, .ref m_hasImage, .ref m_tape, .ref m_key, .ref m_answered, .int 0, .int 0, .int 0, .ref m_goes, .int sw, .ref m_hotOnes, .ref m_indexed, .ref m_isChanged, .int 0, .ref m_valueNow, .int 0, .int (-1), .int 0, .ref m_didSome, .ref m_sizes, .ref m_ends])), (m_all, aI cs 51207 (upd g_35 (79 : Int32).toNatClampNeg 0))] H := hP
  have hD : va_D A [(md, .inr (9, [.int th, .ref m_all, .ref m_deeds, .ref m_trial, .int dm, .ref m_hasImage, .ref m_tape, .ref m_key, .ref m_answered, .int 0, .int 0, .int 0, .ref m_goes, .int sw, .ref m_hotOnes, .ref m_indexed, .ref m_isChanged, .int 0, .ref m_valueNow, .int 0, .int (-1), .int 0, .ref m_didSome, .ref m_sizes, .ref m_ends])), (m_all, aI cs 51207 (upd g_35 (79 : Int32).toNatClampNeg 0))] := hD
  have za_38 : ∀ j, j < 51207 → j ≠ 70 → (upd g_35 (79 : Int32).toNatClampNeg 0) j = AL j := upd_ALy za_34 (by decide +kernel)
  obtain ⟨g_39, eg_40⟩ : ∃ g9 : Nat → Int32, upd g_35 (79 : Int32).toNatClampNeg 0 = g9 := ⟨_, rfl⟩
  rw [eg_40] at hP hD za_38
  refine lv_iinc (v := 10) (lv' := [(3, .int 10), (2, .int 70), (0, .ref md), (1, .int 1)]) hx hb dX9_closes_25 hl (k := 0) rfl (by decide) (by decide) rfl (fun ls hl => ?_)
  refine lv_goto (tgt := 10) hx hb dX9_closes_28 (by decide) ?_
  refine lv_iload_n hx hb dX9_closes_10 rfl (lv_at hl 0 rfl) ?_
  refine lv_bipush (v := 11) hx hb dX9_closes_11 (by decide) ?_
  refine lv_icmp_ge (tgt := 31) hx hb dX9_closes_13 (by decide) (fun c_41 => absurd c_41 (by decide)) (fun c_41 => ?_)
  refine lv_aload_n hx hb dX9_closes_16 rfl (lv_at hl 2 rfl) ?_
  refine va_get (D := D) (ci := 9) (v := .ref m_all) (C := RX9) (T := TX9) (N := 25) hx hb hu in_X9 hown hK.1 hP 0 rfl rfl 1 (by decide) (hu _ u_1081) (fun _ h9 => h9) rfl dX9_closes_17 ?_
  refine lv_iload_n hx hb dX9_closes_20 rfl (lv_at hl 1 rfl) ?_
  refine lv_iload_n hx hb dX9_closes_21 rfl (lv_at hl 0 rfl) ?_
  refine lv_iadd hx hb dX9_closes_22 ?_
  refine tpi (y := 80) (by decide) ?_
  refine lv_iconst (v := 0) hx hb dX9_closes_23 (by decide) ?_
  refine va_iast hx hb hK.1 hP hD hS 1 0 rfl rfl (vin_c _ _ rfl) dX9_closes_24 (fun H locs hP hD hS => ?_)
  have hP : va_P D vwCl [(md, .inr (9, [.int th, .ref m_all, .ref m_deeds, .ref m_trial, .int dm, .ref m_hasImage, .ref m_tape, .ref m_key, .ref m_answered, .int 0, .int 0, .int 0, .ref m_goes, .int sw, .ref m_hotOnes, .ref m_indexed, .ref m_isChanged, .int 0, .ref m_valueNow, .int 0, .int (-1), .int 0, .ref m_didSome, .ref m_sizes, .ref m_ends])), (m_all, aI cs 51207 (upd g_39 (80 : Int32).toNatClampNeg 0))] H := hP
  have hD : va_D A [(md, .inr (9, [.int th, .ref m_all, .ref m_deeds, .ref m_trial, .int dm, .ref m_hasImage, .ref m_tape, .ref m_key, .ref m_answered, .int 0, .int 0, .int 0, .ref m_goes, .int sw, .ref m_hotOnes, .ref m_indexed, .ref m_isChanged, .int 0, .ref m_valueNow, .int 0, .int (-1), .int 0, .ref m_didSome, .ref m_sizes, .ref m_ends])), (m_all, aI cs 51207 (upd g_39 (80 : Int32).toNatClampNeg 0))] := hD
  have za_42 : ∀ j, j < 51207 → j ≠ 70 → (upd g_39 (80 : Int32).toNatClampNeg 0) j = AL j := upd_ALy za_38 (by decide +kernel)
  obtain ⟨g_43, eg_44⟩ : ∃ g9 : Nat → Int32, upd g_39 (80 : Int32).toNatClampNeg 0 = g9 := ⟨_, rfl⟩
  rw [eg_44] at hP hD za_42
  refine lv_iinc (v := 11) (lv' := [(3, .int 11), (2, .int 70), (0, .ref md), (1, .int 1)]) hx hb dX9_closes_25 hl (k := 0) rfl (by decide) (by decide) rfl (fun ls hl => ?_)
  refine lv_goto (tgt := 10) hx hb dX9_closes_28 (by decide) ?_
  refine lv_iload_n hx hb dX9_closes_10 rfl (lv_at hl 0 rfl) ?_
  refine lv_bipush (v := 11) hx hb dX9_closes_11 (by decide) ?_
  refine lv_icmp_ge (tgt := 31) hx hb dX9_closes_13 (by decide) (fun c_45 => ?_) (fun c_45 => absurd (by decide) c_45)
  refine lv_aload_n hx hb dX9_closes_31 rfl (lv_at hl 2 rfl) ?_
  refine va_get (D := D) (ci := 9) (v := .ref m_all) (C := RX9) (T := TX9) (N := 25) hx hb hu in_X9 hown hK.1 hP 0 rfl rfl 1 (by decide) (hu _ u_1081) (fun _ h9 => h9) rfl dX9_closes_32 ?_
  refine lv_iload_n hx hb dX9_closes_35 rfl (lv_at hl 1 rfl) ?_
  refine lv_iconst (v := 0) hx hb dX9_closes_36 (by decide) ?_
  refine lv_iadd hx hb dX9_closes_37 ?_
  refine tpi (y := 70) (by decide) ?_
  refine lv_iconst (v := (-1)) hx hb dX9_closes_38 (by decide) ?_
  refine va_iast hx hb hK.1 hP hD hS 1 0 rfl rfl (vin_c _ _ rfl) dX9_closes_39 (fun H locs hP hD hS => ?_)
  have hP : va_P D vwCl [(md, .inr (9, [.int th, .ref m_all, .ref m_deeds, .ref m_trial, .int dm, .ref m_hasImage, .ref m_tape, .ref m_key, .ref m_answered, .int 0, .int 0, .int 0, .ref m_goes, .int sw, .ref m_hotOnes, .ref m_indexed, .ref m_isChanged, .int 0, .ref m_valueNow, .int 0, .int (-1), .int 0, .ref m_didSome, .ref m_sizes, .ref m_ends])), (m_all, aI cs 51207 (upd g_43 (70 : Int32).toNatClampNeg (-1)))] H := hP
  have hD : va_D A [(md, .inr (9, [.int th, .ref m_all, .ref m_deeds, .ref m_trial, .int dm, .ref m_hasImage, .ref m_tape, .ref m_key, .ref m_answered, .int 0, .int 0, .int 0, .ref m_goes, .int sw, .ref m_hotOnes, .ref m_indexed, .ref m_isChanged, .int 0, .ref m_valueNow, .int 0, .int (-1), .int 0, .ref m_didSome, .ref m_sizes, .ref m_ends])), (m_all, aI cs 51207 (upd g_43 (70 : Int32).toNatClampNeg (-1)))] := hD
  have za_46 : ∀ j, j < 51207 → (upd g_43 (70 : Int32).toNatClampNeg (-1)) j = AL j := upd_ALb za_42 (by decide +kernel)
  obtain ⟨g_47, eg_48⟩ : ∃ g9 : Nat → Int32, upd g_43 (70 : Int32).toNatClampNeg (-1) = g9 := ⟨_, rfl⟩
  rw [eg_48] at hP hD za_46
  refine lv_aload_n hx hb dX9_closes_40 rfl (lv_at hl 2 rfl) ?_
  refine kV_i (ci := 9) (As := []) (rest := []) (wc := [(md, .inr (9, [.int th, .ref m_all, .ref m_deeds, .ref m_trial, .int dm, .ref m_hasImage, .ref m_tape, .ref m_key, .ref m_answered, .int 0, .int 0, .int 0, .ref m_goes, .int sw, .ref m_hotOnes, .ref m_indexed, .ref m_isChanged, .int 0, .ref m_valueNow, .int 0, .int (-1), .int 0, .ref m_didSome, .ref m_sizes, .ref m_ends])), (m_all, aI cs 51207 g_47)]) (wr := []) hx hb hml hown hu hK hP hD hS hA hl.1 (c_X9_drops l D cs H.size md m_all g_47 m_deeds m_trial m_hasImage m_tape m_key m_answered m_goes m_hotOnes m_indexed m_isChanged m_valueNow m_didSome m_sizes m_ends dm th sw za_46) (gV u_1261 u_1263 u_31 u_76 u_1264) hd_X9_drops ⟨(Nat.le_of_ble_eq_true rfl), (Nat.le_of_ble_eq_true rfl)⟩ [0, 1] [] rfl rfl rfl rfl (by decide) rfl 0 rfl rfl rfl (Nat.le_of_ble_eq_true rfl) dX9_closes_41 ⟨(Nat.le_of_ble_eq_true rfl), (Nat.le_of_ble_eq_true rfl)⟩ (fun r_49 ut_50 H locs hw_51 hP hD hS => ?_)
  have hP : va_P D vwCl [(md, .inr (9, [.int th, .ref m_all, .ref m_deeds, .ref m_trial, .int dm, .ref m_hasImage, .ref m_tape, .ref m_key, .ref m_answered, .int 0, .int 0, .int 0, .ref m_goes, .int sw, .ref m_hotOnes, .ref m_indexed, .ref m_isChanged, .int 0, .ref m_valueNow, .int 0, .int (-1), .int 0, .ref m_didSome, .ref m_sizes, .ref m_ends])), (m_all, aI cs 51207 ut_50)] H := hP
  have hD : va_D A [(md, .inr (9, [.int th, .ref m_all, .ref m_deeds, .ref m_trial, .int dm, .ref m_hasImage, .ref m_tape, .ref m_key, .ref m_answered, .int 0, .int 0, .int 0, .ref m_goes, .int sw, .ref m_hotOnes, .ref m_indexed, .ref m_isChanged, .int 0, .ref m_valueNow, .int 0, .int (-1), .int 0, .ref m_didSome, .ref m_sizes, .ref m_ends])), (m_all, aI cs 51207 ut_50)] := hD
  obtain ⟨ug_52, rfl⟩ : ∃ z, z = ut_50 := ⟨_, rfl⟩
  have hP : va_P D vwCl [(md, .inr (9, [.int th, .ref m_all, .ref m_deeds, .ref m_trial, .int dm, .ref m_hasImage, .ref m_tape, .ref m_key, .ref m_answered, .int 0, .int 0, .int 0, .ref m_goes, .int sw, .ref m_hotOnes, .ref m_indexed, .ref m_isChanged, .int 0, .ref m_valueNow, .int 0, .int (-1), .int 0, .ref m_didSome, .ref m_sizes, .ref m_ends])), (m_all, aI cs 51207 ug_52)] H := hP
  have hD : va_D A [(md, .inr (9, [.int th, .ref m_all, .ref m_deeds, .ref m_trial, .int dm, .ref m_hasImage, .ref m_tape, .ref m_key, .ref m_answered, .int 0, .int 0, .int 0, .ref m_goes, .int sw, .ref m_hotOnes, .ref m_indexed, .ref m_isChanged, .int 0, .ref m_valueNow, .int 0, .int (-1), .int 0, .ref m_didSome, .ref m_sizes, .ref m_ends])), (m_all, aI cs 51207 ug_52)] := hD
  try dsimp only at hw_51
  obtain ⟨er_53, hf_54⟩ := hw_51
  subst er_53
  exact hz (ug_52) hP hD hS ⟨rfl, hf_54⟩ [0, 1] rfl rfl (Nat.le_of_ble_eq_true rfl) (Nat.le_of_ble_eq_true rfl) .int rfl rfl dX9_closes_44
abbrev rm_c_X9_closes2 : Room := { frames := 1, cells := 0, slots := 0, locals := 26 }
set_option maxHeartbeats 4000000 in
set_option maxRecDepth 100000 in
theorem c_X9_closes2 (l : Launch) (D : va_G) (cs : Nat → ClassId) (sz : Nat) (md : Nat) (m_all : Nat) (f_m_all : Nat → Int32) (m_deeds : Nat) (m_trial : Nat) (m_hasImage : Nat) (m_tape : Nat) (m_key : Nat) (m_answered : Nat) (m_goes : Nat) (m_hotOnes : Nat) (m_indexed : Nat) (m_isChanged : Nat) (m_valueNow : Nat) (m_didSome : Nat) (m_sizes : Nat) (m_ends : Nat) (dm : Int32) (th : Int32) (sw : Int32) (z_all : ∀ j, j < 51207 → f_m_all j = AL j) : cMi l yX9_closes (Cond.code yX9_closes cX9_closes 4 (some .int)) (rm_c_X9_closes2) D cs [.ref md, .int 2] sz [(md, .inr (9, [.int th, .ref m_all, .ref m_deeds, .ref m_trial, .int dm, .ref m_hasImage, .ref m_tape, .ref m_key, .ref m_answered, .int 0, .int 0, .int 0, .ref m_goes, .int sw, .ref m_hotOnes, .ref m_indexed, .ref m_isChanged, .int 0, .ref m_valueNow, .int 0, .int (-1), .int 0, .ref m_didSome, .ref m_sizes, .ref m_ends])), (m_all, aI cs 51207 f_m_all)] (fun (r : Int32) (u : Nat → Int32) => (r = 0) ∧ (∀ j, j < 51207 → u j = AL j)) (fun (u : Nat → Int32) => [(md, .inr (9, [.int th, .ref m_all, .ref m_deeds, .ref m_trial, .int dm, .ref m_hasImage, .ref m_tape, .ref m_key, .ref m_answered, .int 0, .int 0, .int 0, .ref m_goes, .int sw, .ref m_hotOnes, .ref m_indexed, .ref m_isChanged, .int 0, .ref m_valueNow, .int 0, .int (-1), .int 0, .ref m_didSome, .ref m_sizes, .ref m_ends])), (m_all, aI cs 51207 u)]) := by
  refine kMet_i RX9 (by decide) rfl (Nat.le_of_ble_eq_true rfl) ?_
  intro p e s m below meth c ls A Qz H locs hx hb hml hown hin hu hK hsz hA hP hD hS hl hz
  subst hsz
  have hl : lv_has ls 4 [(0, .ref md), (1, .int 2)] := hl
  refine lv_bipush (v := 59) hx hb dX9_closes_0 (by decide) ?_
  refine lv_bipush (v := 11) hx hb dX9_closes_2 (by decide) ?_
  refine lv_iload_n hx hb dX9_closes_4 rfl (lv_at hl 1 rfl) ?_
  refine lv_imul hx hb dX9_closes_5 ?_
  refine tpi (y := 22) (by decide) ?_
  refine lv_iadd hx hb dX9_closes_6 ?_
  refine tpi (y := 81) (by decide) ?_
  refine lv_istore_n (lv' := [(2, .int 81), (0, .ref md), (1, .int 2)]) hx hb dX9_closes_7 rfl hl (by decide) rfl (fun ls hl => ?_)
  refine lv_iconst (v := 0) hx hb dX9_closes_8 (by decide) ?_
  refine lv_istore_n (lv' := [(3, .int 0), (2, .int 81), (0, .ref md), (1, .int 2)]) hx hb dX9_closes_9 rfl hl (by decide) rfl (fun ls hl => ?_)
  refine lv_iload_n hx hb dX9_closes_10 rfl (lv_at hl 0 rfl) ?_
  refine lv_bipush (v := 11) hx hb dX9_closes_11 (by decide) ?_
  refine lv_icmp_ge (tgt := 31) hx hb dX9_closes_13 (by decide) (fun c_1 => absurd c_1 (by decide)) (fun c_1 => ?_)
  refine lv_aload_n hx hb dX9_closes_16 rfl (lv_at hl 2 rfl) ?_
  refine va_get (D := D) (ci := 9) (v := .ref m_all) (C := RX9) (T := TX9) (N := 25) hx hb hu in_X9 hown hK.1 hP 0 rfl rfl 1 (by decide) (hu _ u_1081) (fun _ h9 => h9) rfl dX9_closes_17 ?_
  refine lv_iload_n hx hb dX9_closes_20 rfl (lv_at hl 1 rfl) ?_
  refine lv_iload_n hx hb dX9_closes_21 rfl (lv_at hl 0 rfl) ?_
  refine lv_iadd hx hb dX9_closes_22 ?_
  refine tpi (y := 81) (by decide) ?_
  refine lv_iconst (v := 0) hx hb dX9_closes_23 (by decide) ?_
  refine va_iast hx hb hK.1 hP hD hS 1 0 rfl rfl (vin_c _ _ rfl) dX9_closes_24 (fun H locs hP hD hS => ?_)
  have hP : va_P D vwCl [(md, .inr (9, [.int th, .ref m_all, .ref m_deeds, .ref m_trial, .int dm, .ref m_hasImage, .ref m_tape, .ref m_key, .ref m_answered, .int 0, .int 0, .int 0, .ref m_goes, .int sw, .ref m_hotOnes, .ref m_indexed, .ref m_isChanged, .int 0, .ref m_valueNow, .int 0, .int (-1), .int 0, .ref m_didSome, .ref m_sizes, .ref m_ends])), (m_all, aI cs 51207 (upd f_m_all (81 : Int32).toNatClampNeg 0))] H := hP
  have hD : va_D A [(md, .inr (9, [.int th, .ref m_all, .ref m_deeds, .ref m_trial, .int dm, .ref m_hasImage, .ref m_tape, .ref m_key, .ref m_answered, .int 0, .int 0, .int 0, .ref m_goes, .int sw, .ref m_hotOnes, .ref m_indexed, .ref m_isChanged, .int 0, .ref m_valueNow, .int 0, .int (-1), .int 0, .ref m_didSome, .ref m_sizes, .ref m_ends])), (m_all, aI cs 51207 (upd f_m_all (81 : Int32).toNatClampNeg 0))] := hD
  have za_2 : ∀ j, j < 51207 → j ≠ 81 → (upd f_m_all (81 : Int32).toNatClampNeg 0) j = AL j := upd_ALx z_all
  obtain ⟨g_3, eg_4⟩ : ∃ g9 : Nat → Int32, upd f_m_all (81 : Int32).toNatClampNeg 0 = g9 := ⟨_, rfl⟩
  rw [eg_4] at hP hD za_2
  refine lv_iinc (v := 1) (lv' := [(3, .int 1), (2, .int 81), (0, .ref md), (1, .int 2)]) hx hb dX9_closes_25 hl (k := 0) rfl (by decide) (by decide) rfl (fun ls hl => ?_)
  refine lv_goto (tgt := 10) hx hb dX9_closes_28 (by decide) ?_
  refine lv_iload_n hx hb dX9_closes_10 rfl (lv_at hl 0 rfl) ?_
  refine lv_bipush (v := 11) hx hb dX9_closes_11 (by decide) ?_
  refine lv_icmp_ge (tgt := 31) hx hb dX9_closes_13 (by decide) (fun c_5 => absurd c_5 (by decide)) (fun c_5 => ?_)
  refine lv_aload_n hx hb dX9_closes_16 rfl (lv_at hl 2 rfl) ?_
  refine va_get (D := D) (ci := 9) (v := .ref m_all) (C := RX9) (T := TX9) (N := 25) hx hb hu in_X9 hown hK.1 hP 0 rfl rfl 1 (by decide) (hu _ u_1081) (fun _ h9 => h9) rfl dX9_closes_17 ?_
  refine lv_iload_n hx hb dX9_closes_20 rfl (lv_at hl 1 rfl) ?_
  refine lv_iload_n hx hb dX9_closes_21 rfl (lv_at hl 0 rfl) ?_
  refine lv_iadd hx hb dX9_closes_22 ?_
  refine tpi (y := 82) (by decide) ?_
  refine lv_iconst (v := 0) hx hb dX9_closes_23 (by decide) ?_
  refine va_iast hx hb hK.1 hP hD hS 1 0 rfl rfl (vin_c _ _ rfl) dX9_closes_24 (fun H locs hP hD hS => ?_)
  have hP : va_P D vwCl [(md, .inr (9, [.int th, .ref m_all, .ref m_deeds, .ref m_trial, .int dm, .ref m_hasImage, .ref m_tape, .ref m_key, .ref m_answered, .int 0, .int 0, .int 0, .ref m_goes, .int sw, .ref m_hotOnes, .ref m_indexed, .ref m_isChanged, .int 0, .ref m_valueNow, .int 0, .int (-1), .int 0, .ref m_didSome, .ref m_sizes, .ref m_ends])), (m_all, aI cs 51207 (upd g_3 (82 : Int32).toNatClampNeg 0))] H := hP
  have hD : va_D A [(md, .inr (9, [.int th, .ref m_all, .ref m_deeds, .ref m_trial, .int dm, .ref m_hasImage, .ref m_tape, .ref m_key, .ref m_answered, .int 0, .int 0, .int 0, .ref m_goes, .int sw, .ref m_hotOnes, .ref m_indexed, .ref m_isChanged, .int 0, .ref m_valueNow, .int 0, .int (-1), .int 0, .ref m_didSome, .ref m_sizes, .ref m_ends])), (m_all, aI cs 51207 (upd g_3 (82 : Int32).toNatClampNeg 0))] := hD
  have za_6 : ∀ j, j < 51207 → j ≠ 81 → (upd g_3 (82 : Int32).toNatClampNeg 0) j = AL j := upd_ALy za_2 (by decide +kernel)
  obtain ⟨g_7, eg_8⟩ : ∃ g9 : Nat → Int32, upd g_3 (82 : Int32).toNatClampNeg 0 = g9 := ⟨_, rfl⟩
  rw [eg_8] at hP hD za_6
  refine lv_iinc (v := 2) (lv' := [(3, .int 2), (2, .int 81), (0, .ref md), (1, .int 2)]) hx hb dX9_closes_25 hl (k := 0) rfl (by decide) (by decide) rfl (fun ls hl => ?_)
  refine lv_goto (tgt := 10) hx hb dX9_closes_28 (by decide) ?_
  refine lv_iload_n hx hb dX9_closes_10 rfl (lv_at hl 0 rfl) ?_
  refine lv_bipush (v := 11) hx hb dX9_closes_11 (by decide) ?_
  refine lv_icmp_ge (tgt := 31) hx hb dX9_closes_13 (by decide) (fun c_9 => absurd c_9 (by decide)) (fun c_9 => ?_)
  refine lv_aload_n hx hb dX9_closes_16 rfl (lv_at hl 2 rfl) ?_
  refine va_get (D := D) (ci := 9) (v := .ref m_all) (C := RX9) (T := TX9) (N := 25) hx hb hu in_X9 hown hK.1 hP 0 rfl rfl 1 (by decide) (hu _ u_1081) (fun _ h9 => h9) rfl dX9_closes_17 ?_
  refine lv_iload_n hx hb dX9_closes_20 rfl (lv_at hl 1 rfl) ?_
  refine lv_iload_n hx hb dX9_closes_21 rfl (lv_at hl 0 rfl) ?_
  refine lv_iadd hx hb dX9_closes_22 ?_
  refine tpi (y := 83) (by decide) ?_
  refine lv_iconst (v := 0) hx hb dX9_closes_23 (by decide) ?_
  refine va_iast hx hb hK.1 hP hD hS 1 0 rfl rfl (vin_c _ _ rfl) dX9_closes_24 (fun H locs hP hD hS => ?_)
  have hP : va_P D vwCl [(md, .inr (9, [.int th, .ref m_all, .ref m_deeds, .ref m_trial, .int dm, .ref m_hasImage, .ref m_tape, .ref m_key, .ref m_answered, .int 0, .int 0, .int 0, .ref m_goes, .int sw, .ref m_hotOnes, .ref m_indexed, .ref m_isChanged, .int 0, .ref m_valueNow, .int 0, .int (-1), .int 0, .ref m_didSome, .ref m_sizes, .ref m_ends])), (m_all, aI cs 51207 (upd g_7 (83 : Int32).toNatClampNeg 0))] H := hP
  have hD : va_D A [(md, .inr (9, [.int th, .ref m_all, .ref m_deeds, .ref m_trial, .int dm, .ref m_hasImage, .ref m_tape, .ref m_key, .ref m_answered, .int 0, .int 0, .int 0, .ref m_goes, .int sw, .ref m_hotOnes, .ref m_indexed, .ref m_isChanged, .int 0, .ref m_valueNow, .int 0, .int (-1), .int 0, .ref m_didSome, .ref m_sizes, .ref m_ends])), (m_all, aI cs 51207 (upd g_7 (83 : Int32).toNatClampNeg 0))] := hD
  have za_10 : ∀ j, j < 51207 → j ≠ 81 → (upd g_7 (83 : Int32).toNatClampNeg 0) j = AL j := upd_ALy za_6 (by decide +kernel)
  obtain ⟨g_11, eg_12⟩ : ∃ g9 : Nat → Int32, upd g_7 (83 : Int32).toNatClampNeg 0 = g9 := ⟨_, rfl⟩
  rw [eg_12] at hP hD za_10
  refine lv_iinc (v := 3) (lv' := [(3, .int 3), (2, .int 81), (0, .ref md), (1, .int 2)]) hx hb dX9_closes_25 hl (k := 0) rfl (by decide) (by decide) rfl (fun ls hl => ?_)
  refine lv_goto (tgt := 10) hx hb dX9_closes_28 (by decide) ?_
  refine lv_iload_n hx hb dX9_closes_10 rfl (lv_at hl 0 rfl) ?_
  refine lv_bipush (v := 11) hx hb dX9_closes_11 (by decide) ?_
  refine lv_icmp_ge (tgt := 31) hx hb dX9_closes_13 (by decide) (fun c_13 => absurd c_13 (by decide)) (fun c_13 => ?_)
  refine lv_aload_n hx hb dX9_closes_16 rfl (lv_at hl 2 rfl) ?_
  refine va_get (D := D) (ci := 9) (v := .ref m_all) (C := RX9) (T := TX9) (N := 25) hx hb hu in_X9 hown hK.1 hP 0 rfl rfl 1 (by decide) (hu _ u_1081) (fun _ h9 => h9) rfl dX9_closes_17 ?_
  refine lv_iload_n hx hb dX9_closes_20 rfl (lv_at hl 1 rfl) ?_
  refine lv_iload_n hx hb dX9_closes_21 rfl (lv_at hl 0 rfl) ?_
  refine lv_iadd hx hb dX9_closes_22 ?_
  refine tpi (y := 84) (by decide) ?_
  refine lv_iconst (v := 0) hx hb dX9_closes_23 (by decide) ?_
  refine va_iast hx hb hK.1 hP hD hS 1 0 rfl rfl (vin_c _ _ rfl) dX9_closes_24 (fun H locs hP hD hS => ?_)
  have hP : va_P D vwCl [(md, .inr (9, [.int th, .ref m_all, .ref m_deeds, .ref m_trial, .int dm, .ref m_hasImage, .ref m_tape, .ref m_key, .ref m_answered, .int 0, .int 0, .int 0, .ref m_goes, .int sw, .ref m_hotOnes, .ref m_indexed, .ref m_isChanged, .int 0, .ref m_valueNow, .int 0, .int (-1), .int 0, .ref m_didSome, .ref m_sizes, .ref m_ends])), (m_all, aI cs 51207 (upd g_11 (84 : Int32).toNatClampNeg 0))] H := hP
  have hD : va_D A [(md, .inr (9, [.int th, .ref m_all, .ref m_deeds, .ref m_trial, .int dm, .ref m_hasImage, .ref m_tape, .ref m_key, .ref m_answered, .int 0, .int 0, .int 0, .ref m_goes, .int sw, .ref m_hotOnes, .ref m_indexed, .ref m_isChanged, .int 0, .ref m_valueNow, .int 0, .int (-1), .int 0, .ref m_didSome, .ref m_sizes, .ref m_ends])), (m_all, aI cs 51207 (upd g_11 (84 : Int32).toNatClampNeg 0))] := hD
  have za_14 : ∀ j, j < 51207 → j ≠ 81 → (upd g_11 (84 : Int32).toNatClampNeg 0) j = AL j := upd_ALy za_10 (by decide +kernel)
  obtain ⟨g_15, eg_16⟩ : ∃ g9 : Nat → Int32, upd g_11 (84 : Int32).toNatClampNeg 0 = g9 := ⟨_, rfl⟩
  rw [eg_16] at hP hD za_14
  refine lv_iinc (v := 4) (lv' := [(3, .int 4), (2, .int 81), (0, .ref md), (1, .int 2)]) hx hb dX9_closes_25 hl (k := 0) rfl (by decide) (by decide) rfl (fun ls hl => ?_)
  refine lv_goto (tgt := 10) hx hb dX9_closes_28 (by decide) ?_
  refine lv_iload_n hx hb dX9_closes_10 rfl (lv_at hl 0 rfl) ?_
  refine lv_bipush (v := 11) hx hb dX9_closes_11 (by decide) ?_
  refine lv_icmp_ge (tgt := 31) hx hb dX9_closes_13 (by decide) (fun c_17 => absurd c_17 (by decide)) (fun c_17 => ?_)
  refine lv_aload_n hx hb dX9_closes_16 rfl (lv_at hl 2 rfl) ?_
  refine va_get (D := D) (ci := 9) (v := .ref m_all) (C := RX9) (T := TX9) (N := 25) hx hb hu in_X9 hown hK.1 hP 0 rfl rfl 1 (by decide) (hu _ u_1081) (fun _ h9 => h9) rfl dX9_closes_17 ?_
  refine lv_iload_n hx hb dX9_closes_20 rfl (lv_at hl 1 rfl) ?_
  refine lv_iload_n hx hb dX9_closes_21 rfl (lv_at hl 0 rfl) ?_
  refine lv_iadd hx hb dX9_closes_22 ?_
  refine tpi (y := 85) (by decide) ?_
  refine lv_iconst (v := 0) hx hb dX9_closes_23 (by decide) ?_
  refine va_iast hx hb hK.1 hP hD hS 1 0 rfl rfl (vin_c _ _ rfl) dX9_closes_24 (fun H locs hP hD hS => ?_)
  have hP : va_P D vwCl [(md, .inr (9, [.int th, .ref m_all, .ref m_deeds, .ref m_trial, .int dm, .ref m_hasImage, .ref m_tape, .ref m_key, .ref m_answered, .int 0, .int 0, .int 0, .ref m_goes, .int sw, .ref m_hotOnes, .ref m_indexed, .ref m_isChanged, .int 0, .ref m_valueNow, .int 0, .int (-1), .int 0, .ref m_didSome, .ref m_sizes, .ref m_ends])), (m_all, aI cs 51207 (upd g_15 (85 : Int32).toNatClampNeg 0))] H := hP
  have hD : va_D A [(md, .inr (9, [.int th, .ref m_all, .ref m_deeds, .ref m_trial, .int dm, .ref m_hasImage, .ref m_tape, .ref m_key, .ref m_answered, .int 0, .int 0, .int 0, .ref m_goes, .int sw, .ref m_hotOnes, .ref m_indexed, .ref m_isChanged, .int 0, .ref m_valueNow, .int 0, .int (-1), .int 0, .ref m_didSome, .ref m_sizes, .ref m_ends])), (m_all, aI cs 51207 (upd g_15 (85 : Int32).toNatClampNeg 0))] := hD
  have za_18 : ∀ j, j < 51207 → j ≠ 81 → (upd g_15 (85 : Int32).toNatClampNeg 0) j = AL j := upd_ALy za_14 (by decide +kernel)
  obtain ⟨g_19, eg_20⟩ : ∃ g9 : Nat → Int32, upd g_15 (85 : Int32).toNatClampNeg 0 = g9 := ⟨_, rfl⟩
  rw [eg_20] at hP hD za_18
  refine lv_iinc (v := 5) (lv' := [(3, .int 5), (2, .int 81), (0, .ref md), (1, .int 2)]) hx hb dX9_closes_25 hl (k := 0) rfl (by decide) (by decide) rfl (fun ls hl => ?_)
  refine lv_goto (tgt := 10) hx hb dX9_closes_28 (by decide) ?_
  refine lv_iload_n hx hb dX9_closes_10 rfl (lv_at hl 0 rfl) ?_
  refine lv_bipush (v := 11) hx hb dX9_closes_11 (by decide) ?_
  refine lv_icmp_ge (tgt := 31) hx hb dX9_closes_13 (by decide) (fun c_21 => absurd c_21 (by decide)) (fun c_21 => ?_)
  refine lv_aload_n hx hb dX9_closes_16 rfl (lv_at hl 2 rfl) ?_
  refine va_get (D := D) (ci := 9) (v := .ref m_all) (C := RX9) (T := TX9) (N := 25) hx hb hu in_X9 hown hK.1 hP 0 rfl rfl 1 (by decide) (hu _ u_1081) (fun _ h9 => h9) rfl dX9_closes_17 ?_
  refine lv_iload_n hx hb dX9_closes_20 rfl (lv_at hl 1 rfl) ?_
  refine lv_iload_n hx hb dX9_closes_21 rfl (lv_at hl 0 rfl) ?_
  refine lv_iadd hx hb dX9_closes_22 ?_
  refine tpi (y := 86) (by decide) ?_
  refine lv_iconst (v := 0) hx hb dX9_closes_23 (by decide) ?_
  refine va_iast hx hb hK.1 hP hD hS 1 0 rfl rfl (vin_c _ _ rfl) dX9_closes_24 (fun H locs hP hD hS => ?_)
  have hP : va_P D vwCl [(md, .inr (9, [.int th, .ref m_all, .ref m_deeds, .ref m_trial, .int dm, .ref m_hasImage, .ref m_tape, .ref m_key, .ref m_answered, .int 0, .int 0, .int 0, .ref m_goes, .int sw, .ref m_hotOnes, .ref m_indexed, .ref m_isChanged, .int 0, .ref m_valueNow, .int 0, .int (-1), .int 0, .ref m_didSome, .ref m_sizes, .ref m_ends])), (m_all, aI cs 51207 (upd g_19 (86 : Int32).toNatClampNeg 0))] H := hP
  have hD : va_D A [(md, .inr (9, [.int th, .ref m_all, .ref m_deeds, .ref m_trial, .int dm, .ref m_hasImage, .ref m_tape, .ref m_key, .ref m_answered, .int 0, .int 0, .int 0, .ref m_goes, .int sw, .ref m_hotOnes, .ref m_indexed, .ref m_isChanged, .int 0, .ref m_valueNow, .int 0, .int (-1), .int 0, .ref m_didSome, .ref m_sizes, .ref m_ends])), (m_all, aI cs 51207 (upd g_19 (86 : Int32).toNatClampNeg 0))] := hD
  have za_22 : ∀ j, j < 51207 → j ≠ 81 → (upd g_19 (86 : Int32).toNatClampNeg 0) j = AL j := upd_ALy za_18 (by decide +kernel)
  obtain ⟨g_23, eg_24⟩ : ∃ g9 : Nat → Int32, upd g_19 (86 : Int32).toNatClampNeg 0 = g9 := ⟨_, rfl⟩
  rw [eg_24] at hP hD za_22
  refine lv_iinc (v := 6) (lv' := [(3, .int 6), (2, .int 81), (0, .ref md), (1, .int 2)]) hx hb dX9_closes_25 hl (k := 0) rfl (by decide) (by decide) rfl (fun ls hl => ?_)
  refine lv_goto (tgt := 10) hx hb dX9_closes_28 (by decide) ?_
  refine lv_iload_n hx hb dX9_closes_10 rfl (lv_at hl 0 rfl) ?_
  refine lv_bipush (v := 11) hx hb dX9_closes_11 (by decide) ?_
  refine lv_icmp_ge (tgt := 31) hx hb dX9_closes_13 (by decide) (fun c_25 => absurd c_25 (by decide)) (fun c_25 => ?_)
  refine lv_aload_n hx hb dX9_closes_16 rfl (lv_at hl 2 rfl) ?_
  refine va_get (D := D) (ci := 9) (v := .ref m_all) (C := RX9) (T := TX9) (N := 25) hx hb hu in_X9 hown hK.1 hP 0 rfl rfl 1 (by decide) (hu _ u_1081) (fun _ h9 => h9) rfl dX9_closes_17 ?_
  refine lv_iload_n hx hb dX9_closes_20 rfl (lv_at hl 1 rfl) ?_
  refine lv_iload_n hx hb dX9_closes_21 rfl (lv_at hl 0 rfl) ?_
  refine lv_iadd hx hb dX9_closes_22 ?_
  refine tpi (y := 87) (by decide) ?_
  refine lv_iconst (v := 0) hx hb dX9_closes_23 (by decide) ?_
  refine va_iast hx hb hK.1 hP hD hS 1 0 rfl rfl (vin_c _ _ rfl) dX9_closes_24 (fun H locs hP hD hS => ?_)
  have hP : va_P D vwCl [(md, .inr (9, [.int th, .ref m_all, .ref m_deeds, .ref m_trial, .int dm, .ref m_hasImage, .ref m_tape, .ref m_key, .ref m_answered, .int 0, .int 0, .int 0, .ref m_goes, .int sw, .ref m_hotOnes, .ref m_indexed, .ref m_isChanged, .int 0, .ref m_valueNow, .int 0, .int (-1), .int 0, .ref m_didSome, .ref m_sizes, .ref m_ends])), (m_all, aI cs 51207 (upd g_23 (87 : Int32).toNatClampNeg 0))] H := hP
  have hD : va_D A [(md, .inr (9, [.int th, .ref m_all, .ref m_deeds, .ref m_trial, .int dm, .ref m_hasImage, .ref m_tape, .ref m_key, .ref m_answered, .int 0, .int 0, .int 0, .ref m_goes, .int sw, .ref m_hotOnes, .ref m_indexed, .ref m_isChanged, .int 0, .ref m_valueNow, .int 0, .int (-1), .int 0, .ref m_didSome, .ref m_sizes, .ref m_ends])), (m_all, aI cs 51207 (upd g_23 (87 : Int32).toNatClampNeg 0))] := hD
  have za_26 : ∀ j, j < 51207 → j ≠ 81 → (upd g_23 (87 : Int32).toNatClampNeg 0) j = AL j := upd_ALy za_22 (by decide +kernel)
  obtain ⟨g_27, eg_28⟩ : ∃ g9 : Nat → Int32, upd g_23 (87 : Int32).toNatClampNeg 0 = g9 := ⟨_, rfl⟩
  rw [eg_28] at hP hD za_26
  refine lv_iinc (v := 7) (lv' := [(3, .int 7), (2, .int 81), (0, .ref md), (1, .int 2)]) hx hb dX9_closes_25 hl (k := 0) rfl (by decide) (by decide) rfl (fun ls hl => ?_)
  refine lv_goto (tgt := 10) hx hb dX9_closes_28 (by decide) ?_
  refine lv_iload_n hx hb dX9_closes_10 rfl (lv_at hl 0 rfl) ?_
  refine lv_bipush (v := 11) hx hb dX9_closes_11 (by decide) ?_
  refine lv_icmp_ge (tgt := 31) hx hb dX9_closes_13 (by decide) (fun c_29 => absurd c_29 (by decide)) (fun c_29 => ?_)
  refine lv_aload_n hx hb dX9_closes_16 rfl (lv_at hl 2 rfl) ?_
  refine va_get (D := D) (ci := 9) (v := .ref m_all) (C := RX9) (T := TX9) (N := 25) hx hb hu in_X9 hown hK.1 hP 0 rfl rfl 1 (by decide) (hu _ u_1081) (fun _ h9 => h9) rfl dX9_closes_17 ?_
  refine lv_iload_n hx hb dX9_closes_20 rfl (lv_at hl 1 rfl) ?_
  refine lv_iload_n hx hb dX9_closes_21 rfl (lv_at hl 0 rfl) ?_
  refine lv_iadd hx hb dX9_closes_22 ?_
  refine tpi (y := 88) (by decide) ?_
  refine lv_iconst (v := 0) hx hb dX9_closes_23 (by decide) ?_
  refine va_iast hx hb hK.1 hP hD hS 1 0 rfl rfl (vin_c _ _ rfl) dX9_closes_24 (fun H locs hP hD hS => ?_)
  have hP : va_P D vwCl [(md, .inr (9, [.int th, .ref m_all, .ref m_deeds, .ref m_trial, .int dm, .ref m_hasImage, .ref m_tape, .ref m_key, .ref m_answered, .int 0, .int 0, .int 0, .ref m_goes, .int sw, .ref m_hotOnes, .ref m_indexed, .ref m_isChanged, .int 0, .ref m_valueNow, .int 0, .int (-1), .int 0, .ref m_didSome, .ref m_sizes, .ref m_ends])), (m_all, aI cs 51207 (upd g_27 (88 : Int32).toNatClampNeg 0))] H := hP
  have hD : va_D A [(md, .inr (9, [.int th, .ref m_all, .ref m_deeds, .ref m_trial, .int dm, .ref m_hasImage, .ref m_tape, .ref m_key, .ref m_answered, .int 0, .int 0, .int 0, .ref m_goes, .int sw, .ref m_hotOnes, .ref m_indexed, .ref m_isChanged, .int 0, .ref m_valueNow, .int 0, .int (-1), .int 0, .ref m_didSome, .ref m_sizes, .ref m_ends])), (m_all, aI cs 51207 (upd g_27 (88 : Int32).toNatClampNeg 0))] := hD
  have za_30 : ∀ j, j < 51207 → j ≠ 81 → (upd g_27 (88 : Int32).toNatClampNeg 0) j = AL j := upd_ALy za_26 (by decide +kernel)
  obtain ⟨g_31, eg_32⟩ : ∃ g9 : Nat → Int32, upd g_27 (88 : Int32).toNatClampNeg 0 = g9 := ⟨_, rfl⟩
  rw [eg_32] at hP hD za_30
  refine lv_iinc (v := 8) (lv' := [(3, .int 8), (2, .int 81), (0, .ref md), (1, .int 2)]) hx hb dX9_closes_25 hl (k := 0) rfl (by decide) (by decide) rfl (fun ls hl => ?_)
  refine lv_goto (tgt := 10) hx hb dX9_closes_28 (by decide) ?_
  refine lv_iload_n hx hb dX9_closes_10 rfl (lv_at hl 0 rfl) ?_
  refine lv_bipush (v := 11) hx hb dX9_closes_11 (by decide) ?_
  refine lv_icmp_ge (tgt := 31) hx hb dX9_closes_13 (by decide) (fun c_33 => absurd c_33 (by decide)) (fun c_33 => ?_)
  refine lv_aload_n hx hb dX9_closes_16 rfl (lv_at hl 2 rfl) ?_
  refine va_get (D := D) (ci := 9) (v := .ref m_all) (C := RX9) (T := TX9) (N := 25) hx hb hu in_X9 hown hK.1 hP 0 rfl rfl 1 (by decide) (hu _ u_1081) (fun _ h9 => h9) rfl dX9_closes_17 ?_
  refine lv_iload_n hx hb dX9_closes_20 rfl (lv_at hl 1 rfl) ?_
  refine lv_iload_n hx hb dX9_closes_21 rfl (lv_at hl 0 rfl) ?_
  refine lv_iadd hx hb dX9_closes_22 ?_
  refine tpi (y := 89) (by decide) ?_
  refine lv_iconst (v := 0) hx hb dX9_closes_23 (by decide) ?_
  refine va_iast hx hb hK.1 hP hD hS 1 0 rfl rfl (vin_c _ _ rfl) dX9_closes_24 (fun H locs hP hD hS => ?_)
  have hP : va_P D vwCl [(md, .inr (9, [.int th, .ref m_all, .ref m_deeds, .ref m_trial, .int dm, .ref m_hasImage, .ref m_tape, .ref m_key, .ref m_answered, .int 0, .int 0, .int 0, .ref m_goes, .int sw, .ref m_hotOnes, .ref m_indexed, .ref m_isChanged, .int 0, .ref m_valueNow, .int 0, .int (-1), .int 0, .ref m_didSome, .ref m_sizes, .ref m_ends])), (m_all, aI cs 51207 (upd g_31 (89 : Int32).toNatClampNeg 0))] H := hP
  have hD : va_D A [(md, .inr (9, [.int th, .ref m_all, .ref m_deeds, .ref m_trial, .int dm, .ref m_hasImage, .ref m_tape, .ref m_key, .ref m_answered, .int 0, .int 0, .int 0, .ref m_goes, .int sw, .ref m_hotOnes, .ref m_indexed, .ref m_isChanged, .int 0, .ref m_valueNow, .int 0, .int (-1), .int 0, .ref m_didSome, .ref m_sizes, .ref m_ends])), (m_all, aI cs 51207 (upd g_31 (89 : Int32).toNatClampNeg 0))] := hD
  have za_34 : ∀ j, j < 51207 → j ≠ 81 → (upd g_31 (89 : Int32).toNatClampNeg 0) j = AL j := upd_ALy za_30 (by decide +kernel)
  obtain ⟨g_35, eg_36⟩ : ∃ g9 : Nat → Int32, upd g_31 (89 : Int32).toNatClampNeg 0 = g9 := ⟨_, rfl⟩
  rw [eg_36] at hP hD za_34
  refine lv_iinc (v := 9) (lv' := [(3, .int 9), (2, .int 81), (0, .ref md), (1, .int 2)]) hx hb dX9_closes_25 hl (k := 0) rfl (by decide) (by decide) rfl (fun ls hl => ?_)
  refine lv_goto (tgt := 10) hx hb dX9_closes_28 (by decide) ?_
  refine lv_iload_n hx hb dX9_closes_10 rfl (lv_at hl 0 rfl) ?_
  refine lv_bipush (v := 11) hx hb dX9_closes_11 (by decide) ?_
  refine lv_icmp_ge (tgt := 31) hx hb dX9_closes_13 (by decide) (fun c_37 => absurd c_37 (by decide)) (fun c_37 => ?_)
  refine lv_aload_n hx hb dX9_closes_16 rfl (lv_at hl 2 rfl) ?_
  refine va_get (D := D) (ci := 9) (v := .ref m_all) (C := RX9) (T := TX9) (N := 25) hx hb hu in_X9 hown hK.1 hP 0 rfl rfl 1 (by decide) (hu _ u_1081) (fun _ h9 => h9) rfl dX9_closes_17 ?_
  refine lv_iload_n hx hb dX9_closes_20 rfl (lv_at hl 1 rfl) ?_
  refine lv_iload_n hx hb dX9_closes_21 rfl (lv_at hl 0 rfl) ?_
  refine lv_iadd hx hb dX9_closes_22 ?_
  refine tpi (y := 90) (by decide) ?_
  refine lv_iconst (v := 0) hx hb dX9_closes_23 (by decide) ?_
  refine va_iast hx hb hK.1 hP hD hS 1 0 rfl rfl (vin_c _ _ rfl) dX9_closes_24 (fun H locs hP hD hS => ?_)
  have hP : va_P D vwCl [(md, .inr (9, [.int th, .ref m_all, .ref m_deeds, .ref m_trial, .int dm, .ref m_hasImage, .ref m_tape, .ref m_key, .ref m_answered, .int 0, .int 0, .int 0, .ref m_goes, .int sw, .ref m_hotOnes, .ref m_indexed, .ref m_isChanged, .int 0, .ref m_valueNow, .int 0, .int (-1), .int 0, .ref m_didSome, .ref m_sizes, .ref m_ends])), (m_all, aI cs 51207 (upd g_35 (90 : Int32).toNatClampNeg 0))] H := hP
  have hD : va_D A [(md, .inr (9, [.int th, .ref m_all, .ref m_deeds, .ref m_trial, .int dm, .ref m_hasImage, .ref m_tape, .ref m_key, .ref m_answered, .int 0, .int 0, .int 0, .ref m_goes, .int sw, .ref m_hotOnes, .ref m_indexed, .ref m_isChanged, .int 0, .ref m_valueNow, .int 0, .int (-1), .int 0, .ref m_didSome, .ref m_sizes, .ref m_ends])), (m_all, aI cs 51207 (upd g_35 (90 : Int32).toNatClampNeg 0))] := hD
  have za_38 : ∀ j, j < 51207 → j ≠ 81 → (upd g_35 (90 : Int32).toNatClampNeg 0) j = AL j := upd_ALy za_34 (by decide +kernel)
  obtain ⟨g_39, eg_40⟩ : ∃ g9 : Nat → Int32, upd g_35 (90 : Int32).toNatClampNeg 0 = g9 := ⟨_, rfl⟩
  rw [eg_40] at hP hD za_38
  refine lv_iinc (v := 10) (lv' := [(3, .int 10), (2, .int 81), (0, .ref md), (1, .int 2)]) hx hb dX9_closes_25 hl (k := 0) rfl (by decide) (by decide) rfl (fun ls hl => ?_)
  refine lv_goto (tgt := 10) hx hb dX9_closes_28 (by decide) ?_
  refine lv_iload_n hx hb dX9_closes_10 rfl (lv_at hl 0 rfl) ?_
  refine lv_bipush (v := 11) hx hb dX9_closes_11 (by decide) ?_
  refine lv_icmp_ge (tgt := 31) hx hb dX9_closes_13 (by decide) (fun c_41 => absurd c_41 (by decide)) (fun c_41 => ?_)
  refine lv_aload_n hx hb dX9_closes_16 rfl (lv_at hl 2 rfl) ?_
  refine va_get (D := D) (ci := 9) (v := .ref m_all) (C := RX9) (T := TX9) (N := 25) hx hb hu in_X9 hown hK.1 hP 0 rfl rfl 1 (by decide) (hu _ u_1081) (fun _ h9 => h9) rfl dX9_closes_17 ?_
  refine lv_iload_n hx hb dX9_closes_20 rfl (lv_at hl 1 rfl) ?_
  refine lv_iload_n hx hb dX9_closes_21 rfl (lv_at hl 0 rfl) ?_
  refine lv_iadd hx hb dX9_closes_22 ?_
  refine tpi (y := 91) (by decide) ?_
  refine lv_iconst (v := 0) hx hb dX9_closes_23 (by decide) ?_
  refine va_iast hx hb hK.1 hP hD hS 1 0 rfl rfl (vin_c _ _ rfl) dX9_closes_24 (fun H locs hP hD hS => ?_)
  have hP : va_P D vwCl [(md, .inr (9, [.int th, .ref m_all, .ref m_deeds, .ref m_trial, .int dm, .ref m_hasImage, .ref m_tape, .ref m_key, .ref m_answered, .int 0, .int 0, .int 0, .ref m_goes, .int sw, .ref m_hotOnes, .ref m_indexed, .ref m_isChanged, .int 0, .ref m_valueNow, .int 0, .int (-1), .int 0, .ref m_didSome, .ref m_sizes, .ref m_ends])), (m_all, aI cs 51207 (upd g_39 (91 : Int32).toNatClampNeg 0))] H := hP
  have hD : va_D A [(md, .inr (9, [.int th, .ref m_all, .ref m_deeds, .ref m_trial, .int dm, .ref m_hasImage, .ref m_tape, .ref m_key, .ref m_answered, .int 0, .int 0, .int 0, .ref m_goes, .int sw, .ref m_hotOnes, .ref m_indexed, .ref m_isChanged, .int 0, .ref m_valueNow, .int 0, .int (-1), .int 0, .ref m_didSome, .ref m_sizes, .ref m_ends])), (m_all, aI cs 51207 (upd g_39 (91 : Int32).toNatClampNeg 0))] := hD
  have za_42 : ∀ j, j < 51207 → j ≠ 81 → (upd g_39 (91 : Int32).toNatClampNeg 0) j = AL j := upd_ALy za_38 (by decide +kernel)
  obtain ⟨g_43, eg_44⟩ : ∃ g9 : Nat → Int32, upd g_39 (91 : Int32).toNatClampNeg 0 = g9 := ⟨_, rfl⟩
  rw [eg_44] at hP hD za_42
  refine lv_iinc (v := 11) (lv' := [(3, .int 11), (2, .int 81), (0, .ref md), (1, .int 2)]) hx hb dX9_closes_25 hl (k := 0) rfl (by decide) (by decide) rfl (fun ls hl => ?_)
  refine lv_goto (tgt := 10) hx hb dX9_closes_28 (by decide) ?_
  refine lv_iload_n hx hb dX9_closes_10 rfl (lv_at hl 0 rfl) ?_
  refine lv_bipush (v := 11) hx hb dX9_closes_11 (by decide) ?_
  refine lv_icmp_ge (tgt := 31) hx hb dX9_closes_13 (by decide) (fun c_45 => ?_) (fun c_45 => absurd (by decide) c_45)
  refine lv_aload_n hx hb dX9_closes_31 rfl (lv_at hl 2 rfl) ?_
  refine va_get (D := D) (ci := 9) (v := .ref m_all) (C := RX9) (T := TX9) (N := 25) hx hb hu in_X9 hown hK.1 hP 0 rfl rfl 1 (by decide) (hu _ u_1081) (fun _ h9 => h9) rfl dX9_closes_32 ?_
  refine lv_iload_n hx hb dX9_closes_35 rfl (lv_at hl 1 rfl) ?_
  refine lv_iconst (v := 0) hx hb dX9_closes_36 (by decide) ?_
  refine lv_iadd hx hb dX9_closes_37 ?_
  refine tpi (y := 81) (by decide) ?_
  refine lv_iconst (v := (-1)) hx hb dX9_closes_38 (by decide) ?_
  refine va_iast hx hb hK.1 hP hD hS 1 0 rfl rfl (vin_c _ _ rfl) dX9_closes_39 (fun H locs hP hD hS => ?_)
  have hP : va_P D vwCl [(md, .inr (9, [.int th, .ref m_all, .ref m_deeds, .ref m_trial, .int dm, .ref m_hasImage, .ref m_tape, .ref m_key, .ref m_answered, .int 0, .int 0, .int 0, .ref m_goes, .int sw, .ref m_hotOnes, .ref m_indexed, .ref m_isChanged, .int 0, .ref m_valueNow, .int 0, .int (-1), .int 0, .ref m_didSome, .ref m_sizes, .ref m_ends])), (m_all, aI cs 51207 (upd g_43 (81 : Int32).toNatClampNeg (-1)))] H := hP
  have hD : va_D A [(md, .inr (9, [.int th, .ref m_all, .ref m_deeds, .ref m_trial, .int dm, .ref m_hasImage, .ref m_tape, .ref m_key, .ref m_answered, .int 0, .int 0, .int 0, .ref m_goes, .int sw, .ref m_hotOnes, .ref m_indexed, .ref m_isChanged, .int 0, .ref m_valueNow, .int 0, .int (-1), .int 0, .ref m_didSome, .ref m_sizes, .ref m_ends])), (m_all, aI cs 51207 (upd g_43 (81 : Int32).toNatClampNeg (-1)))] := hD
  have za_46 : ∀ j, j < 51207 → (upd g_43 (81 : Int32).toNatClampNeg (-1)) j = AL j := upd_ALb za_42 (by decide +kernel)
  obtain ⟨g_47, eg_48⟩ : ∃ g9 : Nat → Int32, upd g_43 (81 : Int32).toNatClampNeg (-1) = g9 := ⟨_, rfl⟩
  rw [eg_48] at hP hD za_46
  refine lv_aload_n hx hb dX9_closes_40 rfl (lv_at hl 2 rfl) ?_
  refine kV_i (ci := 9) (As := []) (rest := []) (wc := [(md, .inr (9, [.int th, .ref m_all, .ref m_deeds, .ref m_trial, .int dm, .ref m_hasImage, .ref m_tape, .ref m_key, .ref m_answered, .int 0, .int 0, .int 0, .ref m_goes, .int sw, .ref m_hotOnes, .ref m_indexed, .ref m_isChanged, .int 0, .ref m_valueNow, .int 0, .int (-1), .int 0, .ref m_didSome, .ref m_sizes, .ref m_ends])), (m_all, aI cs 51207 g_47)]) (wr := []) hx hb hml hown hu hK hP hD hS hA hl.1 (c_X9_drops l D cs H.size md m_all g_47 m_deeds m_trial m_hasImage m_tape m_key m_answered m_goes m_hotOnes m_indexed m_isChanged m_valueNow m_didSome m_sizes m_ends dm th sw za_46) (gV u_1261 u_1263 u_31 u_76 u_1264) hd_X9_drops ⟨(Nat.le_of_ble_eq_true rfl), (Nat.le_of_ble_eq_true rfl)⟩ [0, 1] [] rfl rfl rfl rfl (by decide) rfl 0 rfl rfl rfl (Nat.le_of_ble_eq_true rfl) dX9_closes_41 ⟨(Nat.le_of_ble_eq_true rfl), (Nat.le_of_ble_eq_true rfl)⟩ (fun r_49 ut_50 H locs hw_51 hP hD hS => ?_)
  have hP : va_P D vwCl [(md, .inr (9, [.int th, .ref m_all, .ref m_deeds, .ref m_trial, .int dm, .ref m_hasImage, .ref m_tape, .ref m_key, .ref m_answered, .int 0, .int 0, .int 0, .ref m_goes, .int sw, .ref m_hotOnes, .ref m_indexed, .ref m_isChanged, .int 0, .ref m_valueNow, .int 0, .int (-1), .int 0, .ref m_didSome, .ref m_sizes, .ref m_ends])), (m_all, aI cs 51207 ut_50)] H := hP
  have hD : va_D A [(md, .inr (9, [.int th, .ref m_all, .ref m_deeds, .ref m_trial, .int dm, .ref m_hasImage, .ref m_tape, .ref m_key, .ref m_answered, .int 0, .int 0, .int 0, .ref m_goes, .int sw, .ref m_hotOnes, .ref m_indexed, .ref m_isChanged, .int 0, .ref m_valueNow, .int 0, .int (-1), .int 0, .ref m_didSome, .ref m_sizes, .ref m_ends])), (m_all, aI cs 51207 ut_50)] := hD
  obtain ⟨ug_52, rfl⟩ : ∃ z, z = ut_50 := ⟨_, rfl⟩
  have hP : va_P D vwCl [(md, .inr (9, [.int th, .ref m_all, .ref m_deeds, .ref m_trial, .int dm, .ref m_hasImage, .ref m_tape, .ref m_key, .ref m_answered, .int 0, .int 0, .int 0, .ref m_goes, .int sw, .ref m_hotOnes, .ref m_indexed, .ref m_isChanged, .int 0, .ref m_valueNow, .int 0, .int (-1), .int 0, .ref m_didSome, .ref m_sizes, .ref m_ends])), (m_all, aI cs 51207 ug_52)] H := hP
  have hD : va_D A [(md, .inr (9, [.int th, .ref m_all, .ref m_deeds, .ref m_trial, .int dm, .ref m_hasImage, .ref m_tape, .ref m_key, .ref m_answered, .int 0, .int 0, .int 0, .ref m_goes, .int sw, .ref m_hotOnes, .ref m_indexed, .ref m_isChanged, .int 0, .ref m_valueNow, .int 0, .int (-1), .int 0, .ref m_didSome, .ref m_sizes, .ref m_ends])), (m_all, aI cs 51207 ug_52)] := hD
  try dsimp only at hw_51
  obtain ⟨er_53, hf_54⟩ := hw_51
  subst er_53
  exact hz (ug_52) hP hD hS ⟨rfl, hf_54⟩ [0, 1] rfl rfl (Nat.le_of_ble_eq_true rfl) (Nat.le_of_ble_eq_true rfl) .int rfl rfl dX9_closes_44
abbrev rm_c_X9_placeFor : Room := { frames := 2, cells := 0, slots := 0, locals := 43 }
set_option maxHeartbeats 4000000 in
set_option maxRecDepth 100000 in
theorem c_X9_placeFor (l : Launch) (D : va_G) (cs : Nat → ClassId) (sz : Nat) (x : Int32) (md : Nat) (m_all : Nat) (f_m_all : Nat → Int32) (m_deeds : Nat) (m_trial : Nat) (m_hasImage : Nat) (m_tape : Nat) (m_key : Nat) (m_answered : Nat) (m_goes : Nat) (m_hotOnes : Nat) (m_indexed : Nat) (m_isChanged : Nat) (m_valueNow : Nat) (m_didSome : Nat) (m_sizes : Nat) (m_ends : Nat) (dm : Int32) (th : Int32) (sw : Int32) (z_all : ∀ j, j < 51207 → f_m_all j = AL j) : cMi l yX9_placeFor (Cond.code yX9_placeFor cX9_placeFor 6 (some .int)) (rm_c_X9_placeFor) D cs [.ref md, .int x, .int (-1), .int 2] sz [(md, .inr (9, [.int th, .ref m_all, .ref m_deeds, .ref m_trial, .int dm, .ref m_hasImage, .ref m_tape, .ref m_key, .ref m_answered, .int 0, .int 0, .int 0, .ref m_goes, .int sw, .ref m_hotOnes, .ref m_indexed, .ref m_isChanged, .int 0, .ref m_valueNow, .int 0, .int (-1), .int 0, .ref m_didSome, .ref m_sizes, .ref m_ends])), (m_all, aI cs 51207 f_m_all)] (fun (r : Int32) (u : Unit) => (r = 0)) (fun (u : Unit) => [(md, .inr (9, [.int th, .ref m_all, .ref m_deeds, .ref m_trial, .int dm, .ref m_hasImage, .ref m_tape, .ref m_key, .ref m_answered, .int 0, .int 0, .int 0, .ref m_goes, .int sw, .ref m_hotOnes, .ref m_indexed, .ref m_isChanged, .int 0, .ref m_valueNow, .int 0, .int (-1), .int 0, .ref m_didSome, .ref m_sizes, .ref m_ends])), (m_all, aI cs 51207 f_m_all)]) := by
  refine kMet_i RX9 (by decide) rfl (Nat.le_of_ble_eq_true rfl) ?_
  intro p e s m below meth c ls A Qz H locs hx hb hml hown hin hu hK hsz hA hP hD hS hl hz
  subst hsz
  have hl : lv_has ls 6 [(0, .ref md), (1, .int x), (2, .int (-1)), (3, .int 2)] := hl
  refine lv_iconst (v := (-1)) hx hb dX9_placeFor_0 (by decide) ?_
  refine lv_istore (lv' := [(4, .int (-1)), (0, .ref md), (1, .int x), (2, .int (-1)), (3, .int 2)]) hx hb dX9_placeFor_1 hl (by decide) rfl (fun ls hl => ?_)
  refine lv_iconst (v := 0) hx hb dX9_placeFor_3 (by decide) ?_
  refine lv_istore (lv' := [(5, .int 0), (4, .int (-1)), (0, .ref md), (1, .int x), (2, .int (-1)), (3, .int 2)]) hx hb dX9_placeFor_4 hl (by decide) rfl (fun ls hl => ?_)
  refine lv_iload hx hb dX9_placeFor_6 (lv_at hl 0 rfl) ?_
  refine lv_bipush (v := 24) hx hb dX9_placeFor_8 (by decide) ?_
  refine lv_icmp_ge (tgt := 120) hx hb dX9_placeFor_10 (by decide) (fun c_1 => absurd c_1 (by decide)) (fun c_1 => ?_)
  refine lv_iload hx hb dX9_placeFor_13 (lv_at hl 0 rfl) ?_
  refine lv_iload_n hx hb dX9_placeFor_15 rfl (lv_at hl 4 rfl) ?_
  refine lv_icmp_eq (tgt := 114) hx hb dX9_placeFor_16 (by decide) (fun c_2 => absurd c_2 (by decide)) (fun c_2 => ?_)
  refine lv_aload_n hx hb dX9_placeFor_19 rfl (lv_at hl 2 rfl) ?_
  refine lv_iload hx hb dX9_placeFor_20 (lv_at hl 0 rfl) ?_
  refine kV_i (ci := 9) (As := [.int 0]) (rest := []) (wc := [(md, .inr (9, [.int th, .ref m_all, .ref m_deeds, .ref m_trial, .int dm, .ref m_hasImage, .ref m_tape, .ref m_key, .ref m_answered, .int 0, .int 0, .int 0, .ref m_goes, .int sw, .ref m_hotOnes, .ref m_indexed, .ref m_isChanged, .int 0, .ref m_valueNow, .int 0, .int (-1), .int 0, .ref m_didSome, .ref m_sizes, .ref m_ends])), (m_all, aI cs 51207 f_m_all)]) (wr := []) hx hb hml hown hu hK hP hD hS hA hl.1 (c_X9_isFree l D cs H.size 0 md m_all f_m_all m_deeds m_trial m_hasImage m_tape m_key m_answered m_goes m_hotOnes m_indexed m_isChanged m_valueNow m_didSome m_sizes m_ends dm th sw z_all (by first | decide | grind)) (gV u_1188 u_1190 u_13 u_76 u_1191) hd_X9_isFree ⟨(Nat.le_of_ble_eq_true rfl), (Nat.le_of_ble_eq_true rfl)⟩ [0, 1] [] rfl rfl rfl rfl (by decide) rfl 0 rfl rfl rfl (Nat.le_of_ble_eq_true rfl) dX9_placeFor_22 ⟨(Nat.le_of_ble_eq_true rfl), (Nat.le_of_ble_eq_true rfl)⟩ (fun r_3 ut_4 H locs hw_5 hP hD hS => ?_)
  have hP : va_P D vwCl [(md, .inr (9, [.int th, .ref m_all, .ref m_deeds, .ref m_trial, .int dm, .ref m_hasImage, .ref m_tape, .ref m_key, .ref m_answered, .int 0, .int 0, .int 0, .ref m_goes, .int sw, .ref m_hotOnes, .ref m_indexed, .ref m_isChanged, .int 0, .ref m_valueNow, .int 0, .int (-1), .int 0, .ref m_didSome, .ref m_sizes, .ref m_ends])), (m_all, aI cs 51207 f_m_all)] H := hP
  have hD : va_D A [(md, .inr (9, [.int th, .ref m_all, .ref m_deeds, .ref m_trial, .int dm, .ref m_hasImage, .ref m_tape, .ref m_key, .ref m_answered, .int 0, .int 0, .int 0, .ref m_goes, .int sw, .ref m_hotOnes, .ref m_indexed, .ref m_isChanged, .int 0, .ref m_valueNow, .int 0, .int (-1), .int 0, .ref m_didSome, .ref m_sizes, .ref m_ends])), (m_all, aI cs 51207 f_m_all)] := hD
  have er_6 := hw_5
  subst er_6
  refine lv_if_ne (tgt := 114) hx hb dX9_placeFor_25 (by decide) (fun c_7 => ?_) (fun c_7 => absurd c_7 (by decide))
  refine lv_iinc (v := 1) (lv' := [(5, .int 1), (4, .int (-1)), (0, .ref md), (1, .int x), (2, .int (-1)), (3, .int 2)]) hx hb dX9_placeFor_114 hl (k := 0) rfl (by decide) (by decide) rfl (fun ls hl => ?_)
  refine lv_goto (tgt := 6) hx hb dX9_placeFor_117 (by decide) ?_
  refine lv_iload hx hb dX9_placeFor_6 (lv_at hl 0 rfl) ?_
  refine lv_bipush (v := 24) hx hb dX9_placeFor_8 (by decide) ?_
  refine lv_icmp_ge (tgt := 120) hx hb dX9_placeFor_10 (by decide) (fun c_8 => absurd c_8 (by decide)) (fun c_8 => ?_)
  refine lv_iload hx hb dX9_placeFor_13 (lv_at hl 0 rfl) ?_
  refine lv_iload_n hx hb dX9_placeFor_15 rfl (lv_at hl 4 rfl) ?_
  refine lv_icmp_eq (tgt := 114) hx hb dX9_placeFor_16 (by decide) (fun c_9 => absurd c_9 (by decide)) (fun c_9 => ?_)
  refine lv_aload_n hx hb dX9_placeFor_19 rfl (lv_at hl 2 rfl) ?_
  refine lv_iload hx hb dX9_placeFor_20 (lv_at hl 0 rfl) ?_
  refine kV_i (ci := 9) (As := [.int 1]) (rest := []) (wc := [(md, .inr (9, [.int th, .ref m_all, .ref m_deeds, .ref m_trial, .int dm, .ref m_hasImage, .ref m_tape, .ref m_key, .ref m_answered, .int 0, .int 0, .int 0, .ref m_goes, .int sw, .ref m_hotOnes, .ref m_indexed, .ref m_isChanged, .int 0, .ref m_valueNow, .int 0, .int (-1), .int 0, .ref m_didSome, .ref m_sizes, .ref m_ends])), (m_all, aI cs 51207 f_m_all)]) (wr := []) hx hb hml hown hu hK hP hD hS hA hl.1 (c_X9_isFree l D cs H.size 1 md m_all f_m_all m_deeds m_trial m_hasImage m_tape m_key m_answered m_goes m_hotOnes m_indexed m_isChanged m_valueNow m_didSome m_sizes m_ends dm th sw z_all (by first | decide | grind)) (gV u_1188 u_1190 u_13 u_76 u_1191) hd_X9_isFree ⟨(Nat.le_of_ble_eq_true rfl), (Nat.le_of_ble_eq_true rfl)⟩ [0, 1] [] rfl rfl rfl rfl (by decide) rfl 0 rfl rfl rfl (Nat.le_of_ble_eq_true rfl) dX9_placeFor_22 ⟨(Nat.le_of_ble_eq_true rfl), (Nat.le_of_ble_eq_true rfl)⟩ (fun r_10 ut_11 H locs hw_12 hP hD hS => ?_)
  have hP : va_P D vwCl [(md, .inr (9, [.int th, .ref m_all, .ref m_deeds, .ref m_trial, .int dm, .ref m_hasImage, .ref m_tape, .ref m_key, .ref m_answered, .int 0, .int 0, .int 0, .ref m_goes, .int sw, .ref m_hotOnes, .ref m_indexed, .ref m_isChanged, .int 0, .ref m_valueNow, .int 0, .int (-1), .int 0, .ref m_didSome, .ref m_sizes, .ref m_ends])), (m_all, aI cs 51207 f_m_all)] H := hP
  have hD : va_D A [(md, .inr (9, [.int th, .ref m_all, .ref m_deeds, .ref m_trial, .int dm, .ref m_hasImage, .ref m_tape, .ref m_key, .ref m_answered, .int 0, .int 0, .int 0, .ref m_goes, .int sw, .ref m_hotOnes, .ref m_indexed, .ref m_isChanged, .int 0, .ref m_valueNow, .int 0, .int (-1), .int 0, .ref m_didSome, .ref m_sizes, .ref m_ends])), (m_all, aI cs 51207 f_m_all)] := hD
  have er_13 := hw_12
  subst er_13
  refine lv_if_ne (tgt := 114) hx hb dX9_placeFor_25 (by decide) (fun c_14 => ?_) (fun c_14 => absurd c_14 (by decide))
  refine lv_iinc (v := 2) (lv' := [(5, .int 2), (4, .int (-1)), (0, .ref md), (1, .int x), (2, .int (-1)), (3, .int 2)]) hx hb dX9_placeFor_114 hl (k := 0) rfl (by decide) (by decide) rfl (fun ls hl => ?_)
  refine lv_goto (tgt := 6) hx hb dX9_placeFor_117 (by decide) ?_
  refine lv_iload hx hb dX9_placeFor_6 (lv_at hl 0 rfl) ?_
  refine lv_bipush (v := 24) hx hb dX9_placeFor_8 (by decide) ?_
  refine lv_icmp_ge (tgt := 120) hx hb dX9_placeFor_10 (by decide) (fun c_15 => absurd c_15 (by decide)) (fun c_15 => ?_)
  refine lv_iload hx hb dX9_placeFor_13 (lv_at hl 0 rfl) ?_
  refine lv_iload_n hx hb dX9_placeFor_15 rfl (lv_at hl 4 rfl) ?_
  refine lv_icmp_eq (tgt := 114) hx hb dX9_placeFor_16 (by decide) (fun c_16 => absurd c_16 (by decide)) (fun c_16 => ?_)
  refine lv_aload_n hx hb dX9_placeFor_19 rfl (lv_at hl 2 rfl) ?_
  refine lv_iload hx hb dX9_placeFor_20 (lv_at hl 0 rfl) ?_
  refine kV_i (ci := 9) (As := [.int 2]) (rest := []) (wc := [(md, .inr (9, [.int th, .ref m_all, .ref m_deeds, .ref m_trial, .int dm, .ref m_hasImage, .ref m_tape, .ref m_key, .ref m_answered, .int 0, .int 0, .int 0, .ref m_goes, .int sw, .ref m_hotOnes, .ref m_indexed, .ref m_isChanged, .int 0, .ref m_valueNow, .int 0, .int (-1), .int 0, .ref m_didSome, .ref m_sizes, .ref m_ends])), (m_all, aI cs 51207 f_m_all)]) (wr := []) hx hb hml hown hu hK hP hD hS hA hl.1 (c_X9_isFree l D cs H.size 2 md m_all f_m_all m_deeds m_trial m_hasImage m_tape m_key m_answered m_goes m_hotOnes m_indexed m_isChanged m_valueNow m_didSome m_sizes m_ends dm th sw z_all (by first | decide | grind)) (gV u_1188 u_1190 u_13 u_76 u_1191) hd_X9_isFree ⟨(Nat.le_of_ble_eq_true rfl), (Nat.le_of_ble_eq_true rfl)⟩ [0, 1] [] rfl rfl rfl rfl (by decide) rfl 0 rfl rfl rfl (Nat.le_of_ble_eq_true rfl) dX9_placeFor_22 ⟨(Nat.le_of_ble_eq_true rfl), (Nat.le_of_ble_eq_true rfl)⟩ (fun r_17 ut_18 H locs hw_19 hP hD hS => ?_)
  have hP : va_P D vwCl [(md, .inr (9, [.int th, .ref m_all, .ref m_deeds, .ref m_trial, .int dm, .ref m_hasImage, .ref m_tape, .ref m_key, .ref m_answered, .int 0, .int 0, .int 0, .ref m_goes, .int sw, .ref m_hotOnes, .ref m_indexed, .ref m_isChanged, .int 0, .ref m_valueNow, .int 0, .int (-1), .int 0, .ref m_didSome, .ref m_sizes, .ref m_ends])), (m_all, aI cs 51207 f_m_all)] H := hP
  have hD : va_D A [(md, .inr (9, [.int th, .ref m_all, .ref m_deeds, .ref m_trial, .int dm, .ref m_hasImage, .ref m_tape, .ref m_key, .ref m_answered, .int 0, .int 0, .int 0, .ref m_goes, .int sw, .ref m_hotOnes, .ref m_indexed, .ref m_isChanged, .int 0, .ref m_valueNow, .int 0, .int (-1), .int 0, .ref m_didSome, .ref m_sizes, .ref m_ends])), (m_all, aI cs 51207 f_m_all)] := hD
  have er_20 := hw_19
  subst er_20
  refine lv_if_ne (tgt := 114) hx hb dX9_placeFor_25 (by decide) (fun c_21 => ?_) (fun c_21 => absurd c_21 (by decide))
  refine lv_iinc (v := 3) (lv' := [(5, .int 3), (4, .int (-1)), (0, .ref md), (1, .int x), (2, .int (-1)), (3, .int 2)]) hx hb dX9_placeFor_114 hl (k := 0) rfl (by decide) (by decide) rfl (fun ls hl => ?_)
  refine lv_goto (tgt := 6) hx hb dX9_placeFor_117 (by decide) ?_
  refine lv_iload hx hb dX9_placeFor_6 (lv_at hl 0 rfl) ?_
  refine lv_bipush (v := 24) hx hb dX9_placeFor_8 (by decide) ?_
  refine lv_icmp_ge (tgt := 120) hx hb dX9_placeFor_10 (by decide) (fun c_22 => absurd c_22 (by decide)) (fun c_22 => ?_)
  refine lv_iload hx hb dX9_placeFor_13 (lv_at hl 0 rfl) ?_
  refine lv_iload_n hx hb dX9_placeFor_15 rfl (lv_at hl 4 rfl) ?_
  refine lv_icmp_eq (tgt := 114) hx hb dX9_placeFor_16 (by decide) (fun c_23 => absurd c_23 (by decide)) (fun c_23 => ?_)
  refine lv_aload_n hx hb dX9_placeFor_19 rfl (lv_at hl 2 rfl) ?_
  refine lv_iload hx hb dX9_placeFor_20 (lv_at hl 0 rfl) ?_
  refine kV_i (ci := 9) (As := [.int 3]) (rest := []) (wc := [(md, .inr (9, [.int th, .ref m_all, .ref m_deeds, .ref m_trial, .int dm, .ref m_hasImage, .ref m_tape, .ref m_key, .ref m_answered, .int 0, .int 0, .int 0, .ref m_goes, .int sw, .ref m_hotOnes, .ref m_indexed, .ref m_isChanged, .int 0, .ref m_valueNow, .int 0, .int (-1), .int 0, .ref m_didSome, .ref m_sizes, .ref m_ends])), (m_all, aI cs 51207 f_m_all)]) (wr := []) hx hb hml hown hu hK hP hD hS hA hl.1 (c_X9_isFree l D cs H.size 3 md m_all f_m_all m_deeds m_trial m_hasImage m_tape m_key m_answered m_goes m_hotOnes m_indexed m_isChanged m_valueNow m_didSome m_sizes m_ends dm th sw z_all (by first | decide | grind)) (gV u_1188 u_1190 u_13 u_76 u_1191) hd_X9_isFree ⟨(Nat.le_of_ble_eq_true rfl), (Nat.le_of_ble_eq_true rfl)⟩ [0, 1] [] rfl rfl rfl rfl (by decide) rfl 0 rfl rfl rfl (Nat.le_of_ble_eq_true rfl) dX9_placeFor_22 ⟨(Nat.le_of_ble_eq_true rfl), (Nat.le_of_ble_eq_true rfl)⟩ (fun r_24 ut_25 H locs hw_26 hP hD hS => ?_)
  have hP : va_P D vwCl [(md, .inr (9, [.int th, .ref m_all, .ref m_deeds, .ref m_trial, .int dm, .ref m_hasImage, .ref m_tape, .ref m_key, .ref m_answered, .int 0, .int 0, .int 0, .ref m_goes, .int sw, .ref m_hotOnes, .ref m_indexed, .ref m_isChanged, .int 0, .ref m_valueNow, .int 0, .int (-1), .int 0, .ref m_didSome, .ref m_sizes, .ref m_ends])), (m_all, aI cs 51207 f_m_all)] H := hP
  have hD : va_D A [(md, .inr (9, [.int th, .ref m_all, .ref m_deeds, .ref m_trial, .int dm, .ref m_hasImage, .ref m_tape, .ref m_key, .ref m_answered, .int 0, .int 0, .int 0, .ref m_goes, .int sw, .ref m_hotOnes, .ref m_indexed, .ref m_isChanged, .int 0, .ref m_valueNow, .int 0, .int (-1), .int 0, .ref m_didSome, .ref m_sizes, .ref m_ends])), (m_all, aI cs 51207 f_m_all)] := hD
  have er_27 := hw_26
  subst er_27
  refine lv_if_ne (tgt := 114) hx hb dX9_placeFor_25 (by decide) (fun c_28 => ?_) (fun c_28 => absurd c_28 (by decide))
  refine lv_iinc (v := 4) (lv' := [(5, .int 4), (4, .int (-1)), (0, .ref md), (1, .int x), (2, .int (-1)), (3, .int 2)]) hx hb dX9_placeFor_114 hl (k := 0) rfl (by decide) (by decide) rfl (fun ls hl => ?_)
  refine lv_goto (tgt := 6) hx hb dX9_placeFor_117 (by decide) ?_
  refine lv_iload hx hb dX9_placeFor_6 (lv_at hl 0 rfl) ?_
  refine lv_bipush (v := 24) hx hb dX9_placeFor_8 (by decide) ?_
  refine lv_icmp_ge (tgt := 120) hx hb dX9_placeFor_10 (by decide) (fun c_29 => absurd c_29 (by decide)) (fun c_29 => ?_)
  refine lv_iload hx hb dX9_placeFor_13 (lv_at hl 0 rfl) ?_
  refine lv_iload_n hx hb dX9_placeFor_15 rfl (lv_at hl 4 rfl) ?_
  refine lv_icmp_eq (tgt := 114) hx hb dX9_placeFor_16 (by decide) (fun c_30 => absurd c_30 (by decide)) (fun c_30 => ?_)
  refine lv_aload_n hx hb dX9_placeFor_19 rfl (lv_at hl 2 rfl) ?_
  refine lv_iload hx hb dX9_placeFor_20 (lv_at hl 0 rfl) ?_
  refine kV_i (ci := 9) (As := [.int 4]) (rest := []) (wc := [(md, .inr (9, [.int th, .ref m_all, .ref m_deeds, .ref m_trial, .int dm, .ref m_hasImage, .ref m_tape, .ref m_key, .ref m_answered, .int 0, .int 0, .int 0, .ref m_goes, .int sw, .ref m_hotOnes, .ref m_indexed, .ref m_isChanged, .int 0, .ref m_valueNow, .int 0, .int (-1), .int 0, .ref m_didSome, .ref m_sizes, .ref m_ends])), (m_all, aI cs 51207 f_m_all)]) (wr := []) hx hb hml hown hu hK hP hD hS hA hl.1 (c_X9_isFree l D cs H.size 4 md m_all f_m_all m_deeds m_trial m_hasImage m_tape m_key m_answered m_goes m_hotOnes m_indexed m_isChanged m_valueNow m_didSome m_sizes m_ends dm th sw z_all (by first | decide | grind)) (gV u_1188 u_1190 u_13 u_76 u_1191) hd_X9_isFree ⟨(Nat.le_of_ble_eq_true rfl), (Nat.le_of_ble_eq_true rfl)⟩ [0, 1] [] rfl rfl rfl rfl (by decide) rfl 0 rfl rfl rfl (Nat.le_of_ble_eq_true rfl) dX9_placeFor_22 ⟨(Nat.le_of_ble_eq_true rfl), (Nat.le_of_ble_eq_true rfl)⟩ (fun r_31 ut_32 H locs hw_33 hP hD hS => ?_)
  have hP : va_P D vwCl [(md, .inr (9, [.int th, .ref m_all, .ref m_deeds, .ref m_trial, .int dm, .ref m_hasImage, .ref m_tape, .ref m_key, .ref m_answered, .int 0, .int 0, .int 0, .ref m_goes, .int sw, .ref m_hotOnes, .ref m_indexed, .ref m_isChanged, .int 0, .ref m_valueNow, .int 0, .int (-1), .int 0, .ref m_didSome, .ref m_sizes, .ref m_ends])), (m_all, aI cs 51207 f_m_all)] H := hP
  have hD : va_D A [(md, .inr (9, [.int th, .ref m_all, .ref m_deeds, .ref m_trial, .int dm, .ref m_hasImage, .ref m_tape, .ref m_key, .ref m_answered, .int 0, .int 0, .int 0, .ref m_goes, .int sw, .ref m_hotOnes, .ref m_indexed, .ref m_isChanged, .int 0, .ref m_valueNow, .int 0, .int (-1), .int 0, .ref m_didSome, .ref m_sizes, .ref m_ends])), (m_all, aI cs 51207 f_m_all)] := hD
  have er_34 := hw_33
  subst er_34
  refine lv_if_ne (tgt := 114) hx hb dX9_placeFor_25 (by decide) (fun c_35 => ?_) (fun c_35 => absurd c_35 (by decide))
  refine lv_iinc (v := 5) (lv' := [(5, .int 5), (4, .int (-1)), (0, .ref md), (1, .int x), (2, .int (-1)), (3, .int 2)]) hx hb dX9_placeFor_114 hl (k := 0) rfl (by decide) (by decide) rfl (fun ls hl => ?_)
  refine lv_goto (tgt := 6) hx hb dX9_placeFor_117 (by decide) ?_
  refine lv_iload hx hb dX9_placeFor_6 (lv_at hl 0 rfl) ?_
  refine lv_bipush (v := 24) hx hb dX9_placeFor_8 (by decide) ?_
  refine lv_icmp_ge (tgt := 120) hx hb dX9_placeFor_10 (by decide) (fun c_36 => absurd c_36 (by decide)) (fun c_36 => ?_)
  refine lv_iload hx hb dX9_placeFor_13 (lv_at hl 0 rfl) ?_
  refine lv_iload_n hx hb dX9_placeFor_15 rfl (lv_at hl 4 rfl) ?_
  refine lv_icmp_eq (tgt := 114) hx hb dX9_placeFor_16 (by decide) (fun c_37 => absurd c_37 (by decide)) (fun c_37 => ?_)
  refine lv_aload_n hx hb dX9_placeFor_19 rfl (lv_at hl 2 rfl) ?_
  refine lv_iload hx hb dX9_placeFor_20 (lv_at hl 0 rfl) ?_
  refine kV_i (ci := 9) (As := [.int 5]) (rest := []) (wc := [(md, .inr (9, [.int th, .ref m_all, .ref m_deeds, .ref m_trial, .int dm, .ref m_hasImage, .ref m_tape, .ref m_key, .ref m_answered, .int 0, .int 0, .int 0, .ref m_goes, .int sw, .ref m_hotOnes, .ref m_indexed, .ref m_isChanged, .int 0, .ref m_valueNow, .int 0, .int (-1), .int 0, .ref m_didSome, .ref m_sizes, .ref m_ends])), (m_all, aI cs 51207 f_m_all)]) (wr := []) hx hb hml hown hu hK hP hD hS hA hl.1 (c_X9_isFree l D cs H.size 5 md m_all f_m_all m_deeds m_trial m_hasImage m_tape m_key m_answered m_goes m_hotOnes m_indexed m_isChanged m_valueNow m_didSome m_sizes m_ends dm th sw z_all (by first | decide | grind)) (gV u_1188 u_1190 u_13 u_76 u_1191) hd_X9_isFree ⟨(Nat.le_of_ble_eq_true rfl), (Nat.le_of_ble_eq_true rfl)⟩ [0, 1] [] rfl rfl rfl rfl (by decide) rfl 0 rfl rfl rfl (Nat.le_of_ble_eq_true rfl) dX9_placeFor_22 ⟨(Nat.le_of_ble_eq_true rfl), (Nat.le_of_ble_eq_true rfl)⟩ (fun r_38 ut_39 H locs hw_40 hP hD hS => ?_)
  have hP : va_P D vwCl [(md, .inr (9, [.int th, .ref m_all, .ref m_deeds, .ref m_trial, .int dm, .ref m_hasImage, .ref m_tape, .ref m_key, .ref m_answered, .int 0, .int 0, .int 0, .ref m_goes, .int sw, .ref m_hotOnes, .ref m_indexed, .ref m_isChanged, .int 0, .ref m_valueNow, .int 0, .int (-1), .int 0, .ref m_didSome, .ref m_sizes, .ref m_ends])), (m_all, aI cs 51207 f_m_all)] H := hP
  have hD : va_D A [(md, .inr (9, [.int th, .ref m_all, .ref m_deeds, .ref m_trial, .int dm, .ref m_hasImage, .ref m_tape, .ref m_key, .ref m_answered, .int 0, .int 0, .int 0, .ref m_goes, .int sw, .ref m_hotOnes, .ref m_indexed, .ref m_isChanged, .int 0, .ref m_valueNow, .int 0, .int (-1), .int 0, .ref m_didSome, .ref m_sizes, .ref m_ends])), (m_all, aI cs 51207 f_m_all)] := hD
  have er_41 := hw_40
  subst er_41
  refine lv_if_ne (tgt := 114) hx hb dX9_placeFor_25 (by decide) (fun c_42 => ?_) (fun c_42 => absurd c_42 (by decide))
  refine lv_iinc (v := 6) (lv' := [(5, .int 6), (4, .int (-1)), (0, .ref md), (1, .int x), (2, .int (-1)), (3, .int 2)]) hx hb dX9_placeFor_114 hl (k := 0) rfl (by decide) (by decide) rfl (fun ls hl => ?_)
  refine lv_goto (tgt := 6) hx hb dX9_placeFor_117 (by decide) ?_
  refine lv_iload hx hb dX9_placeFor_6 (lv_at hl 0 rfl) ?_
  refine lv_bipush (v := 24) hx hb dX9_placeFor_8 (by decide) ?_
  refine lv_icmp_ge (tgt := 120) hx hb dX9_placeFor_10 (by decide) (fun c_43 => absurd c_43 (by decide)) (fun c_43 => ?_)
  refine lv_iload hx hb dX9_placeFor_13 (lv_at hl 0 rfl) ?_
  refine lv_iload_n hx hb dX9_placeFor_15 rfl (lv_at hl 4 rfl) ?_
  refine lv_icmp_eq (tgt := 114) hx hb dX9_placeFor_16 (by decide) (fun c_44 => absurd c_44 (by decide)) (fun c_44 => ?_)
  refine lv_aload_n hx hb dX9_placeFor_19 rfl (lv_at hl 2 rfl) ?_
  refine lv_iload hx hb dX9_placeFor_20 (lv_at hl 0 rfl) ?_
  refine kV_i (ci := 9) (As := [.int 6]) (rest := []) (wc := [(md, .inr (9, [.int th, .ref m_all, .ref m_deeds, .ref m_trial, .int dm, .ref m_hasImage, .ref m_tape, .ref m_key, .ref m_answered, .int 0, .int 0, .int 0, .ref m_goes, .int sw, .ref m_hotOnes, .ref m_indexed, .ref m_isChanged, .int 0, .ref m_valueNow, .int 0, .int (-1), .int 0, .ref m_didSome, .ref m_sizes, .ref m_ends])), (m_all, aI cs 51207 f_m_all)]) (wr := []) hx hb hml hown hu hK hP hD hS hA hl.1 (c_X9_isFree l D cs H.size 6 md m_all f_m_all m_deeds m_trial m_hasImage m_tape m_key m_answered m_goes m_hotOnes m_indexed m_isChanged m_valueNow m_didSome m_sizes m_ends dm th sw z_all (by first | decide | grind)) (gV u_1188 u_1190 u_13 u_76 u_1191) hd_X9_isFree ⟨(Nat.le_of_ble_eq_true rfl), (Nat.le_of_ble_eq_true rfl)⟩ [0, 1] [] rfl rfl rfl rfl (by decide) rfl 0 rfl rfl rfl (Nat.le_of_ble_eq_true rfl) dX9_placeFor_22 ⟨(Nat.le_of_ble_eq_true rfl), (Nat.le_of_ble_eq_true rfl)⟩ (fun r_45 ut_46 H locs hw_47 hP hD hS => ?_)
  have hP : va_P D vwCl [(md, .inr (9, [.int th, .ref m_all, .ref m_deeds, .ref m_trial, .int dm, .ref m_hasImage, .ref m_tape, .ref m_key, .ref m_answered, .int 0, .int 0, .int 0, .ref m_goes, .int sw, .ref m_hotOnes, .ref m_indexed, .ref m_isChanged, .int 0, .ref m_valueNow, .int 0, .int (-1), .int 0, .ref m_didSome, .ref m_sizes, .ref m_ends])), (m_all, aI cs 51207 f_m_all)] H := hP
  have hD : va_D A [(md, .inr (9, [.int th, .ref m_all, .ref m_deeds, .ref m_trial, .int dm, .ref m_hasImage, .ref m_tape, .ref m_key, .ref m_answered, .int 0, .int 0, .int 0, .ref m_goes, .int sw, .ref m_hotOnes, .ref m_indexed, .ref m_isChanged, .int 0, .ref m_valueNow, .int 0, .int (-1), .int 0, .ref m_didSome, .ref m_sizes, .ref m_ends])), (m_all, aI cs 51207 f_m_all)] := hD
  have er_48 := hw_47
  subst er_48
  refine lv_if_ne (tgt := 114) hx hb dX9_placeFor_25 (by decide) (fun c_49 => ?_) (fun c_49 => absurd c_49 (by decide))
  refine lv_iinc (v := 7) (lv' := [(5, .int 7), (4, .int (-1)), (0, .ref md), (1, .int x), (2, .int (-1)), (3, .int 2)]) hx hb dX9_placeFor_114 hl (k := 0) rfl (by decide) (by decide) rfl (fun ls hl => ?_)
  refine lv_goto (tgt := 6) hx hb dX9_placeFor_117 (by decide) ?_
  refine lv_iload hx hb dX9_placeFor_6 (lv_at hl 0 rfl) ?_
  refine lv_bipush (v := 24) hx hb dX9_placeFor_8 (by decide) ?_
  refine lv_icmp_ge (tgt := 120) hx hb dX9_placeFor_10 (by decide) (fun c_50 => absurd c_50 (by decide)) (fun c_50 => ?_)
  refine lv_iload hx hb dX9_placeFor_13 (lv_at hl 0 rfl) ?_
  refine lv_iload_n hx hb dX9_placeFor_15 rfl (lv_at hl 4 rfl) ?_
  refine lv_icmp_eq (tgt := 114) hx hb dX9_placeFor_16 (by decide) (fun c_51 => absurd c_51 (by decide)) (fun c_51 => ?_)
  refine lv_aload_n hx hb dX9_placeFor_19 rfl (lv_at hl 2 rfl) ?_
  refine lv_iload hx hb dX9_placeFor_20 (lv_at hl 0 rfl) ?_
  refine kV_i (ci := 9) (As := [.int 7]) (rest := []) (wc := [(md, .inr (9, [.int th, .ref m_all, .ref m_deeds, .ref m_trial, .int dm, .ref m_hasImage, .ref m_tape, .ref m_key, .ref m_answered, .int 0, .int 0, .int 0, .ref m_goes, .int sw, .ref m_hotOnes, .ref m_indexed, .ref m_isChanged, .int 0, .ref m_valueNow, .int 0, .int (-1), .int 0, .ref m_didSome, .ref m_sizes, .ref m_ends])), (m_all, aI cs 51207 f_m_all)]) (wr := []) hx hb hml hown hu hK hP hD hS hA hl.1 (c_X9_isFree l D cs H.size 7 md m_all f_m_all m_deeds m_trial m_hasImage m_tape m_key m_answered m_goes m_hotOnes m_indexed m_isChanged m_valueNow m_didSome m_sizes m_ends dm th sw z_all (by first | decide | grind)) (gV u_1188 u_1190 u_13 u_76 u_1191) hd_X9_isFree ⟨(Nat.le_of_ble_eq_true rfl), (Nat.le_of_ble_eq_true rfl)⟩ [0, 1] [] rfl rfl rfl rfl (by decide) rfl 0 rfl rfl rfl (Nat.le_of_ble_eq_true rfl) dX9_placeFor_22 ⟨(Nat.le_of_ble_eq_true rfl), (Nat.le_of_ble_eq_true rfl)⟩ (fun r_52 ut_53 H locs hw_54 hP hD hS => ?_)
  have hP : va_P D vwCl [(md, .inr (9, [.int th, .ref m_all, .ref m_deeds, .ref m_trial, .int dm, .ref m_hasImage, .ref m_tape, .ref m_key, .ref m_answered, .int 0, .int 0, .int 0, .ref m_goes, .int sw, .ref m_hotOnes, .ref m_indexed, .ref m_isChanged, .int 0, .ref m_valueNow, .int 0, .int (-1), .int 0, .ref m_didSome, .ref m_sizes, .ref m_ends])), (m_all, aI cs 51207 f_m_all)] H := hP
  have hD : va_D A [(md, .inr (9, [.int th, .ref m_all, .ref m_deeds, .ref m_trial, .int dm, .ref m_hasImage, .ref m_tape, .ref m_key, .ref m_answered, .int 0, .int 0, .int 0, .ref m_goes, .int sw, .ref m_hotOnes, .ref m_indexed, .ref m_isChanged, .int 0, .ref m_valueNow, .int 0, .int (-1), .int 0, .ref m_didSome, .ref m_sizes, .ref m_ends])), (m_all, aI cs 51207 f_m_all)] := hD
  have er_55 := hw_54
  subst er_55
  refine lv_if_ne (tgt := 114) hx hb dX9_placeFor_25 (by decide) (fun c_56 => ?_) (fun c_56 => absurd c_56 (by decide))
  refine lv_iinc (v := 8) (lv' := [(5, .int 8), (4, .int (-1)), (0, .ref md), (1, .int x), (2, .int (-1)), (3, .int 2)]) hx hb dX9_placeFor_114 hl (k := 0) rfl (by decide) (by decide) rfl (fun ls hl => ?_)
  refine lv_goto (tgt := 6) hx hb dX9_placeFor_117 (by decide) ?_
  refine lv_iload hx hb dX9_placeFor_6 (lv_at hl 0 rfl) ?_
  refine lv_bipush (v := 24) hx hb dX9_placeFor_8 (by decide) ?_
  refine lv_icmp_ge (tgt := 120) hx hb dX9_placeFor_10 (by decide) (fun c_57 => absurd c_57 (by decide)) (fun c_57 => ?_)
  refine lv_iload hx hb dX9_placeFor_13 (lv_at hl 0 rfl) ?_
  refine lv_iload_n hx hb dX9_placeFor_15 rfl (lv_at hl 4 rfl) ?_
  refine lv_icmp_eq (tgt := 114) hx hb dX9_placeFor_16 (by decide) (fun c_58 => absurd c_58 (by decide)) (fun c_58 => ?_)
  refine lv_aload_n hx hb dX9_placeFor_19 rfl (lv_at hl 2 rfl) ?_
  refine lv_iload hx hb dX9_placeFor_20 (lv_at hl 0 rfl) ?_
  refine kV_i (ci := 9) (As := [.int 8]) (rest := []) (wc := [(md, .inr (9, [.int th, .ref m_all, .ref m_deeds, .ref m_trial, .int dm, .ref m_hasImage, .ref m_tape, .ref m_key, .ref m_answered, .int 0, .int 0, .int 0, .ref m_goes, .int sw, .ref m_hotOnes, .ref m_indexed, .ref m_isChanged, .int 0, .ref m_valueNow, .int 0, .int (-1), .int 0, .ref m_didSome, .ref m_sizes, .ref m_ends])), (m_all, aI cs 51207 f_m_all)]) (wr := []) hx hb hml hown hu hK hP hD hS hA hl.1 (c_X9_isFree l D cs H.size 8 md m_all f_m_all m_deeds m_trial m_hasImage m_tape m_key m_answered m_goes m_hotOnes m_indexed m_isChanged m_valueNow m_didSome m_sizes m_ends dm th sw z_all (by first | decide | grind)) (gV u_1188 u_1190 u_13 u_76 u_1191) hd_X9_isFree ⟨(Nat.le_of_ble_eq_true rfl), (Nat.le_of_ble_eq_true rfl)⟩ [0, 1] [] rfl rfl rfl rfl (by decide) rfl 0 rfl rfl rfl (Nat.le_of_ble_eq_true rfl) dX9_placeFor_22 ⟨(Nat.le_of_ble_eq_true rfl), (Nat.le_of_ble_eq_true rfl)⟩ (fun r_59 ut_60 H locs hw_61 hP hD hS => ?_)
  have hP : va_P D vwCl [(md, .inr (9, [.int th, .ref m_all, .ref m_deeds, .ref m_trial, .int dm, .ref m_hasImage, .ref m_tape, .ref m_key, .ref m_answered, .int 0, .int 0, .int 0, .ref m_goes, .int sw, .ref m_hotOnes, .ref m_indexed, .ref m_isChanged, .int 0, .ref m_valueNow, .int 0, .int (-1), .int 0, .ref m_didSome, .ref m_sizes, .ref m_ends])), (m_all, aI cs 51207 f_m_all)] H := hP
  have hD : va_D A [(md, .inr (9, [.int th, .ref m_all, .ref m_deeds, .ref m_trial, .int dm, .ref m_hasImage, .ref m_tape, .ref m_key, .ref m_answered, .int 0, .int 0, .int 0, .ref m_goes, .int sw, .ref m_hotOnes, .ref m_indexed, .ref m_isChanged, .int 0, .ref m_valueNow, .int 0, .int (-1), .int 0, .ref m_didSome, .ref m_sizes, .ref m_ends])), (m_all, aI cs 51207 f_m_all)] := hD
  have er_62 := hw_61
  subst er_62
  refine lv_if_ne (tgt := 114) hx hb dX9_placeFor_25 (by decide) (fun c_63 => ?_) (fun c_63 => absurd c_63 (by decide))
  refine lv_iinc (v := 9) (lv' := [(5, .int 9), (4, .int (-1)), (0, .ref md), (1, .int x), (2, .int (-1)), (3, .int 2)]) hx hb dX9_placeFor_114 hl (k := 0) rfl (by decide) (by decide) rfl (fun ls hl => ?_)
  refine lv_goto (tgt := 6) hx hb dX9_placeFor_117 (by decide) ?_
  refine lv_iload hx hb dX9_placeFor_6 (lv_at hl 0 rfl) ?_
  refine lv_bipush (v := 24) hx hb dX9_placeFor_8 (by decide) ?_
  refine lv_icmp_ge (tgt := 120) hx hb dX9_placeFor_10 (by decide) (fun c_64 => absurd c_64 (by decide)) (fun c_64 => ?_)
  refine lv_iload hx hb dX9_placeFor_13 (lv_at hl 0 rfl) ?_
  refine lv_iload_n hx hb dX9_placeFor_15 rfl (lv_at hl 4 rfl) ?_
  refine lv_icmp_eq (tgt := 114) hx hb dX9_placeFor_16 (by decide) (fun c_65 => absurd c_65 (by decide)) (fun c_65 => ?_)
  refine lv_aload_n hx hb dX9_placeFor_19 rfl (lv_at hl 2 rfl) ?_
  refine lv_iload hx hb dX9_placeFor_20 (lv_at hl 0 rfl) ?_
  refine kV_i (ci := 9) (As := [.int 9]) (rest := []) (wc := [(md, .inr (9, [.int th, .ref m_all, .ref m_deeds, .ref m_trial, .int dm, .ref m_hasImage, .ref m_tape, .ref m_key, .ref m_answered, .int 0, .int 0, .int 0, .ref m_goes, .int sw, .ref m_hotOnes, .ref m_indexed, .ref m_isChanged, .int 0, .ref m_valueNow, .int 0, .int (-1), .int 0, .ref m_didSome, .ref m_sizes, .ref m_ends])), (m_all, aI cs 51207 f_m_all)]) (wr := []) hx hb hml hown hu hK hP hD hS hA hl.1 (c_X9_isFree l D cs H.size 9 md m_all f_m_all m_deeds m_trial m_hasImage m_tape m_key m_answered m_goes m_hotOnes m_indexed m_isChanged m_valueNow m_didSome m_sizes m_ends dm th sw z_all (by first | decide | grind)) (gV u_1188 u_1190 u_13 u_76 u_1191) hd_X9_isFree ⟨(Nat.le_of_ble_eq_true rfl), (Nat.le_of_ble_eq_true rfl)⟩ [0, 1] [] rfl rfl rfl rfl (by decide) rfl 0 rfl rfl rfl (Nat.le_of_ble_eq_true rfl) dX9_placeFor_22 ⟨(Nat.le_of_ble_eq_true rfl), (Nat.le_of_ble_eq_true rfl)⟩ (fun r_66 ut_67 H locs hw_68 hP hD hS => ?_)
  have hP : va_P D vwCl [(md, .inr (9, [.int th, .ref m_all, .ref m_deeds, .ref m_trial, .int dm, .ref m_hasImage, .ref m_tape, .ref m_key, .ref m_answered, .int 0, .int 0, .int 0, .ref m_goes, .int sw, .ref m_hotOnes, .ref m_indexed, .ref m_isChanged, .int 0, .ref m_valueNow, .int 0, .int (-1), .int 0, .ref m_didSome, .ref m_sizes, .ref m_ends])), (m_all, aI cs 51207 f_m_all)] H := hP
  have hD : va_D A [(md, .inr (9, [.int th, .ref m_all, .ref m_deeds, .ref m_trial, .int dm, .ref m_hasImage, .ref m_tape, .ref m_key, .ref m_answered, .int 0, .int 0, .int 0, .ref m_goes, .int sw, .ref m_hotOnes, .ref m_indexed, .ref m_isChanged, .int 0, .ref m_valueNow, .int 0, .int (-1), .int 0, .ref m_didSome, .ref m_sizes, .ref m_ends])), (m_all, aI cs 51207 f_m_all)] := hD
  have er_69 := hw_68
  subst er_69
  refine lv_if_ne (tgt := 114) hx hb dX9_placeFor_25 (by decide) (fun c_70 => ?_) (fun c_70 => absurd c_70 (by decide))
  refine lv_iinc (v := 10) (lv' := [(5, .int 10), (4, .int (-1)), (0, .ref md), (1, .int x), (2, .int (-1)), (3, .int 2)]) hx hb dX9_placeFor_114 hl (k := 0) rfl (by decide) (by decide) rfl (fun ls hl => ?_)
  refine lv_goto (tgt := 6) hx hb dX9_placeFor_117 (by decide) ?_
  refine lv_iload hx hb dX9_placeFor_6 (lv_at hl 0 rfl) ?_
  refine lv_bipush (v := 24) hx hb dX9_placeFor_8 (by decide) ?_
  refine lv_icmp_ge (tgt := 120) hx hb dX9_placeFor_10 (by decide) (fun c_71 => absurd c_71 (by decide)) (fun c_71 => ?_)
  refine lv_iload hx hb dX9_placeFor_13 (lv_at hl 0 rfl) ?_
  refine lv_iload_n hx hb dX9_placeFor_15 rfl (lv_at hl 4 rfl) ?_
  refine lv_icmp_eq (tgt := 114) hx hb dX9_placeFor_16 (by decide) (fun c_72 => absurd c_72 (by decide)) (fun c_72 => ?_)
  refine lv_aload_n hx hb dX9_placeFor_19 rfl (lv_at hl 2 rfl) ?_
  refine lv_iload hx hb dX9_placeFor_20 (lv_at hl 0 rfl) ?_
  refine kV_i (ci := 9) (As := [.int 10]) (rest := []) (wc := [(md, .inr (9, [.int th, .ref m_all, .ref m_deeds, .ref m_trial, .int dm, .ref m_hasImage, .ref m_tape, .ref m_key, .ref m_answered, .int 0, .int 0, .int 0, .ref m_goes, .int sw, .ref m_hotOnes, .ref m_indexed, .ref m_isChanged, .int 0, .ref m_valueNow, .int 0, .int (-1), .int 0, .ref m_didSome, .ref m_sizes, .ref m_ends])), (m_all, aI cs 51207 f_m_all)]) (wr := []) hx hb hml hown hu hK hP hD hS hA hl.1 (c_X9_isFree l D cs H.size 10 md m_all f_m_all m_deeds m_trial m_hasImage m_tape m_key m_answered m_goes m_hotOnes m_indexed m_isChanged m_valueNow m_didSome m_sizes m_ends dm th sw z_all (by first | decide | grind)) (gV u_1188 u_1190 u_13 u_76 u_1191) hd_X9_isFree ⟨(Nat.le_of_ble_eq_true rfl), (Nat.le_of_ble_eq_true rfl)⟩ [0, 1] [] rfl rfl rfl rfl (by decide) rfl 0 rfl rfl rfl (Nat.le_of_ble_eq_true rfl) dX9_placeFor_22 ⟨(Nat.le_of_ble_eq_true rfl), (Nat.le_of_ble_eq_true rfl)⟩ (fun r_73 ut_74 H locs hw_75 hP hD hS => ?_)
  have hP : va_P D vwCl [(md, .inr (9, [.int th, .ref m_all, .ref m_deeds, .ref m_trial, .int dm, .ref m_hasImage, .ref m_tape, .ref m_key, .ref m_answered, .int 0, .int 0, .int 0, .ref m_goes, .int sw, .ref m_hotOnes, .ref m_indexed, .ref m_isChanged, .int 0, .ref m_valueNow, .int 0, .int (-1), .int 0, .ref m_didSome, .ref m_sizes, .ref m_ends])), (m_all, aI cs 51207 f_m_all)] H := hP
  have hD : va_D A [(md, .inr (9, [.int th, .ref m_all, .ref m_deeds, .ref m_trial, .int dm, .ref m_hasImage, .ref m_tape, .ref m_key, .ref m_answered, .int 0, .int 0, .int 0, .ref m_goes, .int sw, .ref m_hotOnes, .ref m_indexed, .ref m_isChanged, .int 0, .ref m_valueNow, .int 0, .int (-1), .int 0, .ref m_didSome, .ref m_sizes, .ref m_ends])), (m_all, aI cs 51207 f_m_all)] := hD
  have er_76 := hw_75
  subst er_76
  refine lv_if_ne (tgt := 114) hx hb dX9_placeFor_25 (by decide) (fun c_77 => ?_) (fun c_77 => absurd c_77 (by decide))
  refine lv_iinc (v := 11) (lv' := [(5, .int 11), (4, .int (-1)), (0, .ref md), (1, .int x), (2, .int (-1)), (3, .int 2)]) hx hb dX9_placeFor_114 hl (k := 0) rfl (by decide) (by decide) rfl (fun ls hl => ?_)
  refine lv_goto (tgt := 6) hx hb dX9_placeFor_117 (by decide) ?_
  refine lv_iload hx hb dX9_placeFor_6 (lv_at hl 0 rfl) ?_
  refine lv_bipush (v := 24) hx hb dX9_placeFor_8 (by decide) ?_
  refine lv_icmp_ge (tgt := 120) hx hb dX9_placeFor_10 (by decide) (fun c_78 => absurd c_78 (by decide)) (fun c_78 => ?_)
  refine lv_iload hx hb dX9_placeFor_13 (lv_at hl 0 rfl) ?_
  refine lv_iload_n hx hb dX9_placeFor_15 rfl (lv_at hl 4 rfl) ?_
  refine lv_icmp_eq (tgt := 114) hx hb dX9_placeFor_16 (by decide) (fun c_79 => absurd c_79 (by decide)) (fun c_79 => ?_)
  refine lv_aload_n hx hb dX9_placeFor_19 rfl (lv_at hl 2 rfl) ?_
  refine lv_iload hx hb dX9_placeFor_20 (lv_at hl 0 rfl) ?_
  refine kV_i (ci := 9) (As := [.int 11]) (rest := []) (wc := [(md, .inr (9, [.int th, .ref m_all, .ref m_deeds, .ref m_trial, .int dm, .ref m_hasImage, .ref m_tape, .ref m_key, .ref m_answered, .int 0, .int 0, .int 0, .ref m_goes, .int sw, .ref m_hotOnes, .ref m_indexed, .ref m_isChanged, .int 0, .ref m_valueNow, .int 0, .int (-1), .int 0, .ref m_didSome, .ref m_sizes, .ref m_ends])), (m_all, aI cs 51207 f_m_all)]) (wr := []) hx hb hml hown hu hK hP hD hS hA hl.1 (c_X9_isFree l D cs H.size 11 md m_all f_m_all m_deeds m_trial m_hasImage m_tape m_key m_answered m_goes m_hotOnes m_indexed m_isChanged m_valueNow m_didSome m_sizes m_ends dm th sw z_all (by first | decide | grind)) (gV u_1188 u_1190 u_13 u_76 u_1191) hd_X9_isFree ⟨(Nat.le_of_ble_eq_true rfl), (Nat.le_of_ble_eq_true rfl)⟩ [0, 1] [] rfl rfl rfl rfl (by decide) rfl 0 rfl rfl rfl (Nat.le_of_ble_eq_true rfl) dX9_placeFor_22 ⟨(Nat.le_of_ble_eq_true rfl), (Nat.le_of_ble_eq_true rfl)⟩ (fun r_80 ut_81 H locs hw_82 hP hD hS => ?_)
  have hP : va_P D vwCl [(md, .inr (9, [.int th, .ref m_all, .ref m_deeds, .ref m_trial, .int dm, .ref m_hasImage, .ref m_tape, .ref m_key, .ref m_answered, .int 0, .int 0, .int 0, .ref m_goes, .int sw, .ref m_hotOnes, .ref m_indexed, .ref m_isChanged, .int 0, .ref m_valueNow, .int 0, .int (-1), .int 0, .ref m_didSome, .ref m_sizes, .ref m_ends])), (m_all, aI cs 51207 f_m_all)] H := hP
  have hD : va_D A [(md, .inr (9, [.int th, .ref m_all, .ref m_deeds, .ref m_trial, .int dm, .ref m_hasImage, .ref m_tape, .ref m_key, .ref m_answered, .int 0, .int 0, .int 0, .ref m_goes, .int sw, .ref m_hotOnes, .ref m_indexed, .ref m_isChanged, .int 0, .ref m_valueNow, .int 0, .int (-1), .int 0, .ref m_didSome, .ref m_sizes, .ref m_ends])), (m_all, aI cs 51207 f_m_all)] := hD
  have er_83 := hw_82
  subst er_83
  refine lv_if_ne (tgt := 114) hx hb dX9_placeFor_25 (by decide) (fun c_84 => ?_) (fun c_84 => absurd c_84 (by decide))
  refine lv_iinc (v := 12) (lv' := [(5, .int 12), (4, .int (-1)), (0, .ref md), (1, .int x), (2, .int (-1)), (3, .int 2)]) hx hb dX9_placeFor_114 hl (k := 0) rfl (by decide) (by decide) rfl (fun ls hl => ?_)
  refine lv_goto (tgt := 6) hx hb dX9_placeFor_117 (by decide) ?_
  refine lv_iload hx hb dX9_placeFor_6 (lv_at hl 0 rfl) ?_
  refine lv_bipush (v := 24) hx hb dX9_placeFor_8 (by decide) ?_
  refine lv_icmp_ge (tgt := 120) hx hb dX9_placeFor_10 (by decide) (fun c_85 => absurd c_85 (by decide)) (fun c_85 => ?_)
  refine lv_iload hx hb dX9_placeFor_13 (lv_at hl 0 rfl) ?_
  refine lv_iload_n hx hb dX9_placeFor_15 rfl (lv_at hl 4 rfl) ?_
  refine lv_icmp_eq (tgt := 114) hx hb dX9_placeFor_16 (by decide) (fun c_86 => absurd c_86 (by decide)) (fun c_86 => ?_)
  refine lv_aload_n hx hb dX9_placeFor_19 rfl (lv_at hl 2 rfl) ?_
  refine lv_iload hx hb dX9_placeFor_20 (lv_at hl 0 rfl) ?_
  refine kV_i (ci := 9) (As := [.int 12]) (rest := []) (wc := [(md, .inr (9, [.int th, .ref m_all, .ref m_deeds, .ref m_trial, .int dm, .ref m_hasImage, .ref m_tape, .ref m_key, .ref m_answered, .int 0, .int 0, .int 0, .ref m_goes, .int sw, .ref m_hotOnes, .ref m_indexed, .ref m_isChanged, .int 0, .ref m_valueNow, .int 0, .int (-1), .int 0, .ref m_didSome, .ref m_sizes, .ref m_ends])), (m_all, aI cs 51207 f_m_all)]) (wr := []) hx hb hml hown hu hK hP hD hS hA hl.1 (c_X9_isFree l D cs H.size 12 md m_all f_m_all m_deeds m_trial m_hasImage m_tape m_key m_answered m_goes m_hotOnes m_indexed m_isChanged m_valueNow m_didSome m_sizes m_ends dm th sw z_all (by first | decide | grind)) (gV u_1188 u_1190 u_13 u_76 u_1191) hd_X9_isFree ⟨(Nat.le_of_ble_eq_true rfl), (Nat.le_of_ble_eq_true rfl)⟩ [0, 1] [] rfl rfl rfl rfl (by decide) rfl 0 rfl rfl rfl (Nat.le_of_ble_eq_true rfl) dX9_placeFor_22 ⟨(Nat.le_of_ble_eq_true rfl), (Nat.le_of_ble_eq_true rfl)⟩ (fun r_87 ut_88 H locs hw_89 hP hD hS => ?_)
  have hP : va_P D vwCl [(md, .inr (9, [.int th, .ref m_all, .ref m_deeds, .ref m_trial, .int dm, .ref m_hasImage, .ref m_tape, .ref m_key, .ref m_answered, .int 0, .int 0, .int 0, .ref m_goes, .int sw, .ref m_hotOnes, .ref m_indexed, .ref m_isChanged, .int 0, .ref m_valueNow, .int 0, .int (-1), .int 0, .ref m_didSome, .ref m_sizes, .ref m_ends])), (m_all, aI cs 51207 f_m_all)] H := hP
  have hD : va_D A [(md, .inr (9, [.int th, .ref m_all, .ref m_deeds, .ref m_trial, .int dm, .ref m_hasImage, .ref m_tape, .ref m_key, .ref m_answered, .int 0, .int 0, .int 0, .ref m_goes, .int sw, .ref m_hotOnes, .ref m_indexed, .ref m_isChanged, .int 0, .ref m_valueNow, .int 0, .int (-1), .int 0, .ref m_didSome, .ref m_sizes, .ref m_ends])), (m_all, aI cs 51207 f_m_all)] := hD
  have er_90 := hw_89
  subst er_90
  refine lv_if_ne (tgt := 114) hx hb dX9_placeFor_25 (by decide) (fun c_91 => ?_) (fun c_91 => absurd c_91 (by decide))
  refine lv_iinc (v := 13) (lv' := [(5, .int 13), (4, .int (-1)), (0, .ref md), (1, .int x), (2, .int (-1)), (3, .int 2)]) hx hb dX9_placeFor_114 hl (k := 0) rfl (by decide) (by decide) rfl (fun ls hl => ?_)
  refine lv_goto (tgt := 6) hx hb dX9_placeFor_117 (by decide) ?_
  refine lv_iload hx hb dX9_placeFor_6 (lv_at hl 0 rfl) ?_
  refine lv_bipush (v := 24) hx hb dX9_placeFor_8 (by decide) ?_
  refine lv_icmp_ge (tgt := 120) hx hb dX9_placeFor_10 (by decide) (fun c_92 => absurd c_92 (by decide)) (fun c_92 => ?_)
  refine lv_iload hx hb dX9_placeFor_13 (lv_at hl 0 rfl) ?_
  refine lv_iload_n hx hb dX9_placeFor_15 rfl (lv_at hl 4 rfl) ?_
  refine lv_icmp_eq (tgt := 114) hx hb dX9_placeFor_16 (by decide) (fun c_93 => absurd c_93 (by decide)) (fun c_93 => ?_)
  refine lv_aload_n hx hb dX9_placeFor_19 rfl (lv_at hl 2 rfl) ?_
  refine lv_iload hx hb dX9_placeFor_20 (lv_at hl 0 rfl) ?_
  refine kV_i (ci := 9) (As := [.int 13]) (rest := []) (wc := [(md, .inr (9, [.int th, .ref m_all, .ref m_deeds, .ref m_trial, .int dm, .ref m_hasImage, .ref m_tape, .ref m_key, .ref m_answered, .int 0, .int 0, .int 0, .ref m_goes, .int sw, .ref m_hotOnes, .ref m_indexed, .ref m_isChanged, .int 0, .ref m_valueNow, .int 0, .int (-1), .int 0, .ref m_didSome, .ref m_sizes, .ref m_ends])), (m_all, aI cs 51207 f_m_all)]) (wr := []) hx hb hml hown hu hK hP hD hS hA hl.1 (c_X9_isFree l D cs H.size 13 md m_all f_m_all m_deeds m_trial m_hasImage m_tape m_key m_answered m_goes m_hotOnes m_indexed m_isChanged m_valueNow m_didSome m_sizes m_ends dm th sw z_all (by first | decide | grind)) (gV u_1188 u_1190 u_13 u_76 u_1191) hd_X9_isFree ⟨(Nat.le_of_ble_eq_true rfl), (Nat.le_of_ble_eq_true rfl)⟩ [0, 1] [] rfl rfl rfl rfl (by decide) rfl 0 rfl rfl rfl (Nat.le_of_ble_eq_true rfl) dX9_placeFor_22 ⟨(Nat.le_of_ble_eq_true rfl), (Nat.le_of_ble_eq_true rfl)⟩ (fun r_94 ut_95 H locs hw_96 hP hD hS => ?_)
  have hP : va_P D vwCl [(md, .inr (9, [.int th, .ref m_all, .ref m_deeds, .ref m_trial, .int dm, .ref m_hasImage, .ref m_tape, .ref m_key, .ref m_answered, .int 0, .int 0, .int 0, .ref m_goes, .int sw, .ref m_hotOnes, .ref m_indexed, .ref m_isChanged, .int 0, .ref m_valueNow, .int 0, .int (-1), .int 0, .ref m_didSome, .ref m_sizes, .ref m_ends])), (m_all, aI cs 51207 f_m_all)] H := hP
  have hD : va_D A [(md, .inr (9, [.int th, .ref m_all, .ref m_deeds, .ref m_trial, .int dm, .ref m_hasImage, .ref m_tape, .ref m_key, .ref m_answered, .int 0, .int 0, .int 0, .ref m_goes, .int sw, .ref m_hotOnes, .ref m_indexed, .ref m_isChanged, .int 0, .ref m_valueNow, .int 0, .int (-1), .int 0, .ref m_didSome, .ref m_sizes, .ref m_ends])), (m_all, aI cs 51207 f_m_all)] := hD
  have er_97 := hw_96
  subst er_97
  refine lv_if_ne (tgt := 114) hx hb dX9_placeFor_25 (by decide) (fun c_98 => ?_) (fun c_98 => absurd c_98 (by decide))
  refine lv_iinc (v := 14) (lv' := [(5, .int 14), (4, .int (-1)), (0, .ref md), (1, .int x), (2, .int (-1)), (3, .int 2)]) hx hb dX9_placeFor_114 hl (k := 0) rfl (by decide) (by decide) rfl (fun ls hl => ?_)
  refine lv_goto (tgt := 6) hx hb dX9_placeFor_117 (by decide) ?_
  refine lv_iload hx hb dX9_placeFor_6 (lv_at hl 0 rfl) ?_
  refine lv_bipush (v := 24) hx hb dX9_placeFor_8 (by decide) ?_
  refine lv_icmp_ge (tgt := 120) hx hb dX9_placeFor_10 (by decide) (fun c_99 => absurd c_99 (by decide)) (fun c_99 => ?_)
  refine lv_iload hx hb dX9_placeFor_13 (lv_at hl 0 rfl) ?_
  refine lv_iload_n hx hb dX9_placeFor_15 rfl (lv_at hl 4 rfl) ?_
  refine lv_icmp_eq (tgt := 114) hx hb dX9_placeFor_16 (by decide) (fun c_100 => absurd c_100 (by decide)) (fun c_100 => ?_)
  refine lv_aload_n hx hb dX9_placeFor_19 rfl (lv_at hl 2 rfl) ?_
  refine lv_iload hx hb dX9_placeFor_20 (lv_at hl 0 rfl) ?_
  refine kV_i (ci := 9) (As := [.int 14]) (rest := []) (wc := [(md, .inr (9, [.int th, .ref m_all, .ref m_deeds, .ref m_trial, .int dm, .ref m_hasImage, .ref m_tape, .ref m_key, .ref m_answered, .int 0, .int 0, .int 0, .ref m_goes, .int sw, .ref m_hotOnes, .ref m_indexed, .ref m_isChanged, .int 0, .ref m_valueNow, .int 0, .int (-1), .int 0, .ref m_didSome, .ref m_sizes, .ref m_ends])), (m_all, aI cs 51207 f_m_all)]) (wr := []) hx hb hml hown hu hK hP hD hS hA hl.1 (c_X9_isFree l D cs H.size 14 md m_all f_m_all m_deeds m_trial m_hasImage m_tape m_key m_answered m_goes m_hotOnes m_indexed m_isChanged m_valueNow m_didSome m_sizes m_ends dm th sw z_all (by first | decide | grind)) (gV u_1188 u_1190 u_13 u_76 u_1191) hd_X9_isFree ⟨(Nat.le_of_ble_eq_true rfl), (Nat.le_of_ble_eq_true rfl)⟩ [0, 1] [] rfl rfl rfl rfl (by decide) rfl 0 rfl rfl rfl (Nat.le_of_ble_eq_true rfl) dX9_placeFor_22 ⟨(Nat.le_of_ble_eq_true rfl), (Nat.le_of_ble_eq_true rfl)⟩ (fun r_101 ut_102 H locs hw_103 hP hD hS => ?_)
  have hP : va_P D vwCl [(md, .inr (9, [.int th, .ref m_all, .ref m_deeds, .ref m_trial, .int dm, .ref m_hasImage, .ref m_tape, .ref m_key, .ref m_answered, .int 0, .int 0, .int 0, .ref m_goes, .int sw, .ref m_hotOnes, .ref m_indexed, .ref m_isChanged, .int 0, .ref m_valueNow, .int 0, .int (-1), .int 0, .ref m_didSome, .ref m_sizes, .ref m_ends])), (m_all, aI cs 51207 f_m_all)] H := hP
  have hD : va_D A [(md, .inr (9, [.int th, .ref m_all, .ref m_deeds, .ref m_trial, .int dm, .ref m_hasImage, .ref m_tape, .ref m_key, .ref m_answered, .int 0, .int 0, .int 0, .ref m_goes, .int sw, .ref m_hotOnes, .ref m_indexed, .ref m_isChanged, .int 0, .ref m_valueNow, .int 0, .int (-1), .int 0, .ref m_didSome, .ref m_sizes, .ref m_ends])), (m_all, aI cs 51207 f_m_all)] := hD
  have er_104 := hw_103
  subst er_104
  refine lv_if_ne (tgt := 114) hx hb dX9_placeFor_25 (by decide) (fun c_105 => ?_) (fun c_105 => absurd c_105 (by decide))
  refine lv_iinc (v := 15) (lv' := [(5, .int 15), (4, .int (-1)), (0, .ref md), (1, .int x), (2, .int (-1)), (3, .int 2)]) hx hb dX9_placeFor_114 hl (k := 0) rfl (by decide) (by decide) rfl (fun ls hl => ?_)
  refine lv_goto (tgt := 6) hx hb dX9_placeFor_117 (by decide) ?_
  refine lv_iload hx hb dX9_placeFor_6 (lv_at hl 0 rfl) ?_
  refine lv_bipush (v := 24) hx hb dX9_placeFor_8 (by decide) ?_
  refine lv_icmp_ge (tgt := 120) hx hb dX9_placeFor_10 (by decide) (fun c_106 => absurd c_106 (by decide)) (fun c_106 => ?_)
  refine lv_iload hx hb dX9_placeFor_13 (lv_at hl 0 rfl) ?_
  refine lv_iload_n hx hb dX9_placeFor_15 rfl (lv_at hl 4 rfl) ?_
  refine lv_icmp_eq (tgt := 114) hx hb dX9_placeFor_16 (by decide) (fun c_107 => absurd c_107 (by decide)) (fun c_107 => ?_)
  refine lv_aload_n hx hb dX9_placeFor_19 rfl (lv_at hl 2 rfl) ?_
  refine lv_iload hx hb dX9_placeFor_20 (lv_at hl 0 rfl) ?_
  refine kV_i (ci := 9) (As := [.int 15]) (rest := []) (wc := [(md, .inr (9, [.int th, .ref m_all, .ref m_deeds, .ref m_trial, .int dm, .ref m_hasImage, .ref m_tape, .ref m_key, .ref m_answered, .int 0, .int 0, .int 0, .ref m_goes, .int sw, .ref m_hotOnes, .ref m_indexed, .ref m_isChanged, .int 0, .ref m_valueNow, .int 0, .int (-1), .int 0, .ref m_didSome, .ref m_sizes, .ref m_ends])), (m_all, aI cs 51207 f_m_all)]) (wr := []) hx hb hml hown hu hK hP hD hS hA hl.1 (c_X9_isFree l D cs H.size 15 md m_all f_m_all m_deeds m_trial m_hasImage m_tape m_key m_answered m_goes m_hotOnes m_indexed m_isChanged m_valueNow m_didSome m_sizes m_ends dm th sw z_all (by first | decide | grind)) (gV u_1188 u_1190 u_13 u_76 u_1191) hd_X9_isFree ⟨(Nat.le_of_ble_eq_true rfl), (Nat.le_of_ble_eq_true rfl)⟩ [0, 1] [] rfl rfl rfl rfl (by decide) rfl 0 rfl rfl rfl (Nat.le_of_ble_eq_true rfl) dX9_placeFor_22 ⟨(Nat.le_of_ble_eq_true rfl), (Nat.le_of_ble_eq_true rfl)⟩ (fun r_108 ut_109 H locs hw_110 hP hD hS => ?_)
  have hP : va_P D vwCl [(md, .inr (9, [.int th, .ref m_all, .ref m_deeds, .ref m_trial, .int dm, .ref m_hasImage, .ref m_tape, .ref m_key, .ref m_answered, .int 0, .int 0, .int 0, .ref m_goes, .int sw, .ref m_hotOnes, .ref m_indexed, .ref m_isChanged, .int 0, .ref m_valueNow, .int 0, .int (-1), .int 0, .ref m_didSome, .ref m_sizes, .ref m_ends])), (m_all, aI cs 51207 f_m_all)] H := hP
  have hD : va_D A [(md, .inr (9, [.int th, .ref m_all, .ref m_deeds, .ref m_trial, .int dm, .ref m_hasImage, .ref m_tape, .ref m_key, .ref m_answered, .int 0, .int 0, .int 0, .ref m_goes, .int sw, .ref m_hotOnes, .ref m_indexed, .ref m_isChanged, .int 0, .ref m_valueNow, .int 0, .int (-1), .int 0, .ref m_didSome, .ref m_sizes, .ref m_ends])), (m_all, aI cs 51207 f_m_all)] := hD
  have er_111 := hw_110
  subst er_111
  refine lv_if_ne (tgt := 114) hx hb dX9_placeFor_25 (by decide) (fun c_112 => ?_) (fun c_112 => absurd c_112 (by decide))
  refine lv_iinc (v := 16) (lv' := [(5, .int 16), (4, .int (-1)), (0, .ref md), (1, .int x), (2, .int (-1)), (3, .int 2)]) hx hb dX9_placeFor_114 hl (k := 0) rfl (by decide) (by decide) rfl (fun ls hl => ?_)
  refine lv_goto (tgt := 6) hx hb dX9_placeFor_117 (by decide) ?_
  refine lv_iload hx hb dX9_placeFor_6 (lv_at hl 0 rfl) ?_
  refine lv_bipush (v := 24) hx hb dX9_placeFor_8 (by decide) ?_
  refine lv_icmp_ge (tgt := 120) hx hb dX9_placeFor_10 (by decide) (fun c_113 => absurd c_113 (by decide)) (fun c_113 => ?_)
  refine lv_iload hx hb dX9_placeFor_13 (lv_at hl 0 rfl) ?_
  refine lv_iload_n hx hb dX9_placeFor_15 rfl (lv_at hl 4 rfl) ?_
  refine lv_icmp_eq (tgt := 114) hx hb dX9_placeFor_16 (by decide) (fun c_114 => absurd c_114 (by decide)) (fun c_114 => ?_)
  refine lv_aload_n hx hb dX9_placeFor_19 rfl (lv_at hl 2 rfl) ?_
  refine lv_iload hx hb dX9_placeFor_20 (lv_at hl 0 rfl) ?_
  refine kV_i (ci := 9) (As := [.int 16]) (rest := []) (wc := [(md, .inr (9, [.int th, .ref m_all, .ref m_deeds, .ref m_trial, .int dm, .ref m_hasImage, .ref m_tape, .ref m_key, .ref m_answered, .int 0, .int 0, .int 0, .ref m_goes, .int sw, .ref m_hotOnes, .ref m_indexed, .ref m_isChanged, .int 0, .ref m_valueNow, .int 0, .int (-1), .int 0, .ref m_didSome, .ref m_sizes, .ref m_ends])), (m_all, aI cs 51207 f_m_all)]) (wr := []) hx hb hml hown hu hK hP hD hS hA hl.1 (c_X9_isFree l D cs H.size 16 md m_all f_m_all m_deeds m_trial m_hasImage m_tape m_key m_answered m_goes m_hotOnes m_indexed m_isChanged m_valueNow m_didSome m_sizes m_ends dm th sw z_all (by first | decide | grind)) (gV u_1188 u_1190 u_13 u_76 u_1191) hd_X9_isFree ⟨(Nat.le_of_ble_eq_true rfl), (Nat.le_of_ble_eq_true rfl)⟩ [0, 1] [] rfl rfl rfl rfl (by decide) rfl 0 rfl rfl rfl (Nat.le_of_ble_eq_true rfl) dX9_placeFor_22 ⟨(Nat.le_of_ble_eq_true rfl), (Nat.le_of_ble_eq_true rfl)⟩ (fun r_115 ut_116 H locs hw_117 hP hD hS => ?_)
  have hP : va_P D vwCl [(md, .inr (9, [.int th, .ref m_all, .ref m_deeds, .ref m_trial, .int dm, .ref m_hasImage, .ref m_tape, .ref m_key, .ref m_answered, .int 0, .int 0, .int 0, .ref m_goes, .int sw, .ref m_hotOnes, .ref m_indexed, .ref m_isChanged, .int 0, .ref m_valueNow, .int 0, .int (-1), .int 0, .ref m_didSome, .ref m_sizes, .ref m_ends])), (m_all, aI cs 51207 f_m_all)] H := hP
  have hD : va_D A [(md, .inr (9, [.int th, .ref m_all, .ref m_deeds, .ref m_trial, .int dm, .ref m_hasImage, .ref m_tape, .ref m_key, .ref m_answered, .int 0, .int 0, .int 0, .ref m_goes, .int sw, .ref m_hotOnes, .ref m_indexed, .ref m_isChanged, .int 0, .ref m_valueNow, .int 0, .int (-1), .int 0, .ref m_didSome, .ref m_sizes, .ref m_ends])), (m_all, aI cs 51207 f_m_all)] := hD
  have er_118 := hw_117
  subst er_118
  refine lv_if_ne (tgt := 114) hx hb dX9_placeFor_25 (by decide) (fun c_119 => ?_) (fun c_119 => absurd c_119 (by decide))
  refine lv_iinc (v := 17) (lv' := [(5, .int 17), (4, .int (-1)), (0, .ref md), (1, .int x), (2, .int (-1)), (3, .int 2)]) hx hb dX9_placeFor_114 hl (k := 0) rfl (by decide) (by decide) rfl (fun ls hl => ?_)
  refine lv_goto (tgt := 6) hx hb dX9_placeFor_117 (by decide) ?_
  refine lv_iload hx hb dX9_placeFor_6 (lv_at hl 0 rfl) ?_
  refine lv_bipush (v := 24) hx hb dX9_placeFor_8 (by decide) ?_
  refine lv_icmp_ge (tgt := 120) hx hb dX9_placeFor_10 (by decide) (fun c_120 => absurd c_120 (by decide)) (fun c_120 => ?_)
  refine lv_iload hx hb dX9_placeFor_13 (lv_at hl 0 rfl) ?_
  refine lv_iload_n hx hb dX9_placeFor_15 rfl (lv_at hl 4 rfl) ?_
  refine lv_icmp_eq (tgt := 114) hx hb dX9_placeFor_16 (by decide) (fun c_121 => absurd c_121 (by decide)) (fun c_121 => ?_)
  refine lv_aload_n hx hb dX9_placeFor_19 rfl (lv_at hl 2 rfl) ?_
  refine lv_iload hx hb dX9_placeFor_20 (lv_at hl 0 rfl) ?_
  refine kV_i (ci := 9) (As := [.int 17]) (rest := []) (wc := [(md, .inr (9, [.int th, .ref m_all, .ref m_deeds, .ref m_trial, .int dm, .ref m_hasImage, .ref m_tape, .ref m_key, .ref m_answered, .int 0, .int 0, .int 0, .ref m_goes, .int sw, .ref m_hotOnes, .ref m_indexed, .ref m_isChanged, .int 0, .ref m_valueNow, .int 0, .int (-1), .int 0, .ref m_didSome, .ref m_sizes, .ref m_ends])), (m_all, aI cs 51207 f_m_all)]) (wr := []) hx hb hml hown hu hK hP hD hS hA hl.1 (c_X9_isFree l D cs H.size 17 md m_all f_m_all m_deeds m_trial m_hasImage m_tape m_key m_answered m_goes m_hotOnes m_indexed m_isChanged m_valueNow m_didSome m_sizes m_ends dm th sw z_all (by first | decide | grind)) (gV u_1188 u_1190 u_13 u_76 u_1191) hd_X9_isFree ⟨(Nat.le_of_ble_eq_true rfl), (Nat.le_of_ble_eq_true rfl)⟩ [0, 1] [] rfl rfl rfl rfl (by decide) rfl 0 rfl rfl rfl (Nat.le_of_ble_eq_true rfl) dX9_placeFor_22 ⟨(Nat.le_of_ble_eq_true rfl), (Nat.le_of_ble_eq_true rfl)⟩ (fun r_122 ut_123 H locs hw_124 hP hD hS => ?_)
  have hP : va_P D vwCl [(md, .inr (9, [.int th, .ref m_all, .ref m_deeds, .ref m_trial, .int dm, .ref m_hasImage, .ref m_tape, .ref m_key, .ref m_answered, .int 0, .int 0, .int 0, .ref m_goes, .int sw, .ref m_hotOnes, .ref m_indexed, .ref m_isChanged, .int 0, .ref m_valueNow, .int 0, .int (-1), .int 0, .ref m_didSome, .ref m_sizes, .ref m_ends])), (m_all, aI cs 51207 f_m_all)] H := hP
  have hD : va_D A [(md, .inr (9, [.int th, .ref m_all, .ref m_deeds, .ref m_trial, .int dm, .ref m_hasImage, .ref m_tape, .ref m_key, .ref m_answered, .int 0, .int 0, .int 0, .ref m_goes, .int sw, .ref m_hotOnes, .ref m_indexed, .ref m_isChanged, .int 0, .ref m_valueNow, .int 0, .int (-1), .int 0, .ref m_didSome, .ref m_sizes, .ref m_ends])), (m_all, aI cs 51207 f_m_all)] := hD
  have er_125 := hw_124
  subst er_125
  refine lv_if_ne (tgt := 114) hx hb dX9_placeFor_25 (by decide) (fun c_126 => ?_) (fun c_126 => absurd c_126 (by decide))
  refine lv_iinc (v := 18) (lv' := [(5, .int 18), (4, .int (-1)), (0, .ref md), (1, .int x), (2, .int (-1)), (3, .int 2)]) hx hb dX9_placeFor_114 hl (k := 0) rfl (by decide) (by decide) rfl (fun ls hl => ?_)
  refine lv_goto (tgt := 6) hx hb dX9_placeFor_117 (by decide) ?_
  refine lv_iload hx hb dX9_placeFor_6 (lv_at hl 0 rfl) ?_
  refine lv_bipush (v := 24) hx hb dX9_placeFor_8 (by decide) ?_
  refine lv_icmp_ge (tgt := 120) hx hb dX9_placeFor_10 (by decide) (fun c_127 => absurd c_127 (by decide)) (fun c_127 => ?_)
  refine lv_iload hx hb dX9_placeFor_13 (lv_at hl 0 rfl) ?_
  refine lv_iload_n hx hb dX9_placeFor_15 rfl (lv_at hl 4 rfl) ?_
  refine lv_icmp_eq (tgt := 114) hx hb dX9_placeFor_16 (by decide) (fun c_128 => absurd c_128 (by decide)) (fun c_128 => ?_)
  refine lv_aload_n hx hb dX9_placeFor_19 rfl (lv_at hl 2 rfl) ?_
  refine lv_iload hx hb dX9_placeFor_20 (lv_at hl 0 rfl) ?_
  refine kV_i (ci := 9) (As := [.int 18]) (rest := []) (wc := [(md, .inr (9, [.int th, .ref m_all, .ref m_deeds, .ref m_trial, .int dm, .ref m_hasImage, .ref m_tape, .ref m_key, .ref m_answered, .int 0, .int 0, .int 0, .ref m_goes, .int sw, .ref m_hotOnes, .ref m_indexed, .ref m_isChanged, .int 0, .ref m_valueNow, .int 0, .int (-1), .int 0, .ref m_didSome, .ref m_sizes, .ref m_ends])), (m_all, aI cs 51207 f_m_all)]) (wr := []) hx hb hml hown hu hK hP hD hS hA hl.1 (c_X9_isFree l D cs H.size 18 md m_all f_m_all m_deeds m_trial m_hasImage m_tape m_key m_answered m_goes m_hotOnes m_indexed m_isChanged m_valueNow m_didSome m_sizes m_ends dm th sw z_all (by first | decide | grind)) (gV u_1188 u_1190 u_13 u_76 u_1191) hd_X9_isFree ⟨(Nat.le_of_ble_eq_true rfl), (Nat.le_of_ble_eq_true rfl)⟩ [0, 1] [] rfl rfl rfl rfl (by decide) rfl 0 rfl rfl rfl (Nat.le_of_ble_eq_true rfl) dX9_placeFor_22 ⟨(Nat.le_of_ble_eq_true rfl), (Nat.le_of_ble_eq_true rfl)⟩ (fun r_129 ut_130 H locs hw_131 hP hD hS => ?_)
  have hP : va_P D vwCl [(md, .inr (9, [.int th, .ref m_all, .ref m_deeds, .ref m_trial, .int dm, .ref m_hasImage, .ref m_tape, .ref m_key, .ref m_answered, .int 0, .int 0, .int 0, .ref m_goes, .int sw, .ref m_hotOnes, .ref m_indexed, .ref m_isChanged, .int 0, .ref m_valueNow, .int 0, .int (-1), .int 0, .ref m_didSome, .ref m_sizes, .ref m_ends])), (m_all, aI cs 51207 f_m_all)] H := hP
  have hD : va_D A [(md, .inr (9, [.int th, .ref m_all, .ref m_deeds, .ref m_trial, .int dm, .ref m_hasImage, .ref m_tape, .ref m_key, .ref m_answered, .int 0, .int 0, .int 0, .ref m_goes, .int sw, .ref m_hotOnes, .ref m_indexed, .ref m_isChanged, .int 0, .ref m_valueNow, .int 0, .int (-1), .int 0, .ref m_didSome, .ref m_sizes, .ref m_ends])), (m_all, aI cs 51207 f_m_all)] := hD
  have er_132 := hw_131
  subst er_132
  refine lv_if_ne (tgt := 114) hx hb dX9_placeFor_25 (by decide) (fun c_133 => ?_) (fun c_133 => absurd c_133 (by decide))
  refine lv_iinc (v := 19) (lv' := [(5, .int 19), (4, .int (-1)), (0, .ref md), (1, .int x), (2, .int (-1)), (3, .int 2)]) hx hb dX9_placeFor_114 hl (k := 0) rfl (by decide) (by decide) rfl (fun ls hl => ?_)
  refine lv_goto (tgt := 6) hx hb dX9_placeFor_117 (by decide) ?_
  refine lv_iload hx hb dX9_placeFor_6 (lv_at hl 0 rfl) ?_
  refine lv_bipush (v := 24) hx hb dX9_placeFor_8 (by decide) ?_
  refine lv_icmp_ge (tgt := 120) hx hb dX9_placeFor_10 (by decide) (fun c_134 => absurd c_134 (by decide)) (fun c_134 => ?_)
  refine lv_iload hx hb dX9_placeFor_13 (lv_at hl 0 rfl) ?_
  refine lv_iload_n hx hb dX9_placeFor_15 rfl (lv_at hl 4 rfl) ?_
  refine lv_icmp_eq (tgt := 114) hx hb dX9_placeFor_16 (by decide) (fun c_135 => absurd c_135 (by decide)) (fun c_135 => ?_)
  refine lv_aload_n hx hb dX9_placeFor_19 rfl (lv_at hl 2 rfl) ?_
  refine lv_iload hx hb dX9_placeFor_20 (lv_at hl 0 rfl) ?_
  refine kV_i (ci := 9) (As := [.int 19]) (rest := []) (wc := [(md, .inr (9, [.int th, .ref m_all, .ref m_deeds, .ref m_trial, .int dm, .ref m_hasImage, .ref m_tape, .ref m_key, .ref m_answered, .int 0, .int 0, .int 0, .ref m_goes, .int sw, .ref m_hotOnes, .ref m_indexed, .ref m_isChanged, .int 0, .ref m_valueNow, .int 0, .int (-1), .int 0, .ref m_didSome, .ref m_sizes, .ref m_ends])), (m_all, aI cs 51207 f_m_all)]) (wr := []) hx hb hml hown hu hK hP hD hS hA hl.1 (c_X9_isFree l D cs H.size 19 md m_all f_m_all m_deeds m_trial m_hasImage m_tape m_key m_answered m_goes m_hotOnes m_indexed m_isChanged m_valueNow m_didSome m_sizes m_ends dm th sw z_all (by first | decide | grind)) (gV u_1188 u_1190 u_13 u_76 u_1191) hd_X9_isFree ⟨(Nat.le_of_ble_eq_true rfl), (Nat.le_of_ble_eq_true rfl)⟩ [0, 1] [] rfl rfl rfl rfl (by decide) rfl 0 rfl rfl rfl (Nat.le_of_ble_eq_true rfl) dX9_placeFor_22 ⟨(Nat.le_of_ble_eq_true rfl), (Nat.le_of_ble_eq_true rfl)⟩ (fun r_136 ut_137 H locs hw_138 hP hD hS => ?_)
  have hP : va_P D vwCl [(md, .inr (9, [.int th, .ref m_all, .ref m_deeds, .ref m_trial, .int dm, .ref m_hasImage, .ref m_tape, .ref m_key, .ref m_answered, .int 0, .int 0, .int 0, .ref m_goes, .int sw, .ref m_hotOnes, .ref m_indexed, .ref m_isChanged, .int 0, .ref m_valueNow, .int 0, .int (-1), .int 0, .ref m_didSome, .ref m_sizes, .ref m_ends])), (m_all, aI cs 51207 f_m_all)] H := hP
  have hD : va_D A [(md, .inr (9, [.int th, .ref m_all, .ref m_deeds, .ref m_trial, .int dm, .ref m_hasImage, .ref m_tape, .ref m_key, .ref m_answered, .int 0, .int 0, .int 0, .ref m_goes, .int sw, .ref m_hotOnes, .ref m_indexed, .ref m_isChanged, .int 0, .ref m_valueNow, .int 0, .int (-1), .int 0, .ref m_didSome, .ref m_sizes, .ref m_ends])), (m_all, aI cs 51207 f_m_all)] := hD
  have er_139 := hw_138
  subst er_139
  refine lv_if_ne (tgt := 114) hx hb dX9_placeFor_25 (by decide) (fun c_140 => ?_) (fun c_140 => absurd c_140 (by decide))
  refine lv_iinc (v := 20) (lv' := [(5, .int 20), (4, .int (-1)), (0, .ref md), (1, .int x), (2, .int (-1)), (3, .int 2)]) hx hb dX9_placeFor_114 hl (k := 0) rfl (by decide) (by decide) rfl (fun ls hl => ?_)
  refine lv_goto (tgt := 6) hx hb dX9_placeFor_117 (by decide) ?_
  refine lv_iload hx hb dX9_placeFor_6 (lv_at hl 0 rfl) ?_
  refine lv_bipush (v := 24) hx hb dX9_placeFor_8 (by decide) ?_
  refine lv_icmp_ge (tgt := 120) hx hb dX9_placeFor_10 (by decide) (fun c_141 => absurd c_141 (by decide)) (fun c_141 => ?_)
  refine lv_iload hx hb dX9_placeFor_13 (lv_at hl 0 rfl) ?_
  refine lv_iload_n hx hb dX9_placeFor_15 rfl (lv_at hl 4 rfl) ?_
  refine lv_icmp_eq (tgt := 114) hx hb dX9_placeFor_16 (by decide) (fun c_142 => absurd c_142 (by decide)) (fun c_142 => ?_)
  refine lv_aload_n hx hb dX9_placeFor_19 rfl (lv_at hl 2 rfl) ?_
  refine lv_iload hx hb dX9_placeFor_20 (lv_at hl 0 rfl) ?_
  refine kV_i (ci := 9) (As := [.int 20]) (rest := []) (wc := [(md, .inr (9, [.int th, .ref m_all, .ref m_deeds, .ref m_trial, .int dm, .ref m_hasImage, .ref m_tape, .ref m_key, .ref m_answered, .int 0, .int 0, .int 0, .ref m_goes, .int sw, .ref m_hotOnes, .ref m_indexed, .ref m_isChanged, .int 0, .ref m_valueNow, .int 0, .int (-1), .int 0, .ref m_didSome, .ref m_sizes, .ref m_ends])), (m_all, aI cs 51207 f_m_all)]) (wr := []) hx hb hml hown hu hK hP hD hS hA hl.1 (c_X9_isFree l D cs H.size 20 md m_all f_m_all m_deeds m_trial m_hasImage m_tape m_key m_answered m_goes m_hotOnes m_indexed m_isChanged m_valueNow m_didSome m_sizes m_ends dm th sw z_all (by first | decide | grind)) (gV u_1188 u_1190 u_13 u_76 u_1191) hd_X9_isFree ⟨(Nat.le_of_ble_eq_true rfl), (Nat.le_of_ble_eq_true rfl)⟩ [0, 1] [] rfl rfl rfl rfl (by decide) rfl 0 rfl rfl rfl (Nat.le_of_ble_eq_true rfl) dX9_placeFor_22 ⟨(Nat.le_of_ble_eq_true rfl), (Nat.le_of_ble_eq_true rfl)⟩ (fun r_143 ut_144 H locs hw_145 hP hD hS => ?_)
  have hP : va_P D vwCl [(md, .inr (9, [.int th, .ref m_all, .ref m_deeds, .ref m_trial, .int dm, .ref m_hasImage, .ref m_tape, .ref m_key, .ref m_answered, .int 0, .int 0, .int 0, .ref m_goes, .int sw, .ref m_hotOnes, .ref m_indexed, .ref m_isChanged, .int 0, .ref m_valueNow, .int 0, .int (-1), .int 0, .ref m_didSome, .ref m_sizes, .ref m_ends])), (m_all, aI cs 51207 f_m_all)] H := hP
  have hD : va_D A [(md, .inr (9, [.int th, .ref m_all, .ref m_deeds, .ref m_trial, .int dm, .ref m_hasImage, .ref m_tape, .ref m_key, .ref m_answered, .int 0, .int 0, .int 0, .ref m_goes, .int sw, .ref m_hotOnes, .ref m_indexed, .ref m_isChanged, .int 0, .ref m_valueNow, .int 0, .int (-1), .int 0, .ref m_didSome, .ref m_sizes, .ref m_ends])), (m_all, aI cs 51207 f_m_all)] := hD
  have er_146 := hw_145
  subst er_146
  refine lv_if_ne (tgt := 114) hx hb dX9_placeFor_25 (by decide) (fun c_147 => ?_) (fun c_147 => absurd c_147 (by decide))
  refine lv_iinc (v := 21) (lv' := [(5, .int 21), (4, .int (-1)), (0, .ref md), (1, .int x), (2, .int (-1)), (3, .int 2)]) hx hb dX9_placeFor_114 hl (k := 0) rfl (by decide) (by decide) rfl (fun ls hl => ?_)
  refine lv_goto (tgt := 6) hx hb dX9_placeFor_117 (by decide) ?_
  refine lv_iload hx hb dX9_placeFor_6 (lv_at hl 0 rfl) ?_
  refine lv_bipush (v := 24) hx hb dX9_placeFor_8 (by decide) ?_
  refine lv_icmp_ge (tgt := 120) hx hb dX9_placeFor_10 (by decide) (fun c_148 => absurd c_148 (by decide)) (fun c_148 => ?_)
  refine lv_iload hx hb dX9_placeFor_13 (lv_at hl 0 rfl) ?_
  refine lv_iload_n hx hb dX9_placeFor_15 rfl (lv_at hl 4 rfl) ?_
  refine lv_icmp_eq (tgt := 114) hx hb dX9_placeFor_16 (by decide) (fun c_149 => absurd c_149 (by decide)) (fun c_149 => ?_)
  refine lv_aload_n hx hb dX9_placeFor_19 rfl (lv_at hl 2 rfl) ?_
  refine lv_iload hx hb dX9_placeFor_20 (lv_at hl 0 rfl) ?_
  refine kV_i (ci := 9) (As := [.int 21]) (rest := []) (wc := [(md, .inr (9, [.int th, .ref m_all, .ref m_deeds, .ref m_trial, .int dm, .ref m_hasImage, .ref m_tape, .ref m_key, .ref m_answered, .int 0, .int 0, .int 0, .ref m_goes, .int sw, .ref m_hotOnes, .ref m_indexed, .ref m_isChanged, .int 0, .ref m_valueNow, .int 0, .int (-1), .int 0, .ref m_didSome, .ref m_sizes, .ref m_ends])), (m_all, aI cs 51207 f_m_all)]) (wr := []) hx hb hml hown hu hK hP hD hS hA hl.1 (c_X9_isFree l D cs H.size 21 md m_all f_m_all m_deeds m_trial m_hasImage m_tape m_key m_answered m_goes m_hotOnes m_indexed m_isChanged m_valueNow m_didSome m_sizes m_ends dm th sw z_all (by first | decide | grind)) (gV u_1188 u_1190 u_13 u_76 u_1191) hd_X9_isFree ⟨(Nat.le_of_ble_eq_true rfl), (Nat.le_of_ble_eq_true rfl)⟩ [0, 1] [] rfl rfl rfl rfl (by decide) rfl 0 rfl rfl rfl (Nat.le_of_ble_eq_true rfl) dX9_placeFor_22 ⟨(Nat.le_of_ble_eq_true rfl), (Nat.le_of_ble_eq_true rfl)⟩ (fun r_150 ut_151 H locs hw_152 hP hD hS => ?_)
  have hP : va_P D vwCl [(md, .inr (9, [.int th, .ref m_all, .ref m_deeds, .ref m_trial, .int dm, .ref m_hasImage, .ref m_tape, .ref m_key, .ref m_answered, .int 0, .int 0, .int 0, .ref m_goes, .int sw, .ref m_hotOnes, .ref m_indexed, .ref m_isChanged, .int 0, .ref m_valueNow, .int 0, .int (-1), .int 0, .ref m_didSome, .ref m_sizes, .ref m_ends])), (m_all, aI cs 51207 f_m_all)] H := hP
  have hD : va_D A [(md, .inr (9, [.int th, .ref m_all, .ref m_deeds, .ref m_trial, .int dm, .ref m_hasImage, .ref m_tape, .ref m_key, .ref m_answered, .int 0, .int 0, .int 0, .ref m_goes, .int sw, .ref m_hotOnes, .ref m_indexed, .ref m_isChanged, .int 0, .ref m_valueNow, .int 0, .int (-1), .int 0, .ref m_didSome, .ref m_sizes, .ref m_ends])), (m_all, aI cs 51207 f_m_all)] := hD
  have er_153 := hw_152
  subst er_153
  refine lv_if_ne (tgt := 114) hx hb dX9_placeFor_25 (by decide) (fun c_154 => ?_) (fun c_154 => absurd c_154 (by decide))
  refine lv_iinc (v := 22) (lv' := [(5, .int 22), (4, .int (-1)), (0, .ref md), (1, .int x), (2, .int (-1)), (3, .int 2)]) hx hb dX9_placeFor_114 hl (k := 0) rfl (by decide) (by decide) rfl (fun ls hl => ?_)
  refine lv_goto (tgt := 6) hx hb dX9_placeFor_117 (by decide) ?_
  refine lv_iload hx hb dX9_placeFor_6 (lv_at hl 0 rfl) ?_
  refine lv_bipush (v := 24) hx hb dX9_placeFor_8 (by decide) ?_
  refine lv_icmp_ge (tgt := 120) hx hb dX9_placeFor_10 (by decide) (fun c_155 => absurd c_155 (by decide)) (fun c_155 => ?_)
  refine lv_iload hx hb dX9_placeFor_13 (lv_at hl 0 rfl) ?_
  refine lv_iload_n hx hb dX9_placeFor_15 rfl (lv_at hl 4 rfl) ?_
  refine lv_icmp_eq (tgt := 114) hx hb dX9_placeFor_16 (by decide) (fun c_156 => absurd c_156 (by decide)) (fun c_156 => ?_)
  refine lv_aload_n hx hb dX9_placeFor_19 rfl (lv_at hl 2 rfl) ?_
  refine lv_iload hx hb dX9_placeFor_20 (lv_at hl 0 rfl) ?_
  refine kV_i (ci := 9) (As := [.int 22]) (rest := []) (wc := [(md, .inr (9, [.int th, .ref m_all, .ref m_deeds, .ref m_trial, .int dm, .ref m_hasImage, .ref m_tape, .ref m_key, .ref m_answered, .int 0, .int 0, .int 0, .ref m_goes, .int sw, .ref m_hotOnes, .ref m_indexed, .ref m_isChanged, .int 0, .ref m_valueNow, .int 0, .int (-1), .int 0, .ref m_didSome, .ref m_sizes, .ref m_ends])), (m_all, aI cs 51207 f_m_all)]) (wr := []) hx hb hml hown hu hK hP hD hS hA hl.1 (c_X9_isFree l D cs H.size 22 md m_all f_m_all m_deeds m_trial m_hasImage m_tape m_key m_answered m_goes m_hotOnes m_indexed m_isChanged m_valueNow m_didSome m_sizes m_ends dm th sw z_all (by first | decide | grind)) (gV u_1188 u_1190 u_13 u_76 u_1191) hd_X9_isFree ⟨(Nat.le_of_ble_eq_true rfl), (Nat.le_of_ble_eq_true rfl)⟩ [0, 1] [] rfl rfl rfl rfl (by decide) rfl 0 rfl rfl rfl (Nat.le_of_ble_eq_true rfl) dX9_placeFor_22 ⟨(Nat.le_of_ble_eq_true rfl), (Nat.le_of_ble_eq_true rfl)⟩ (fun r_157 ut_158 H locs hw_159 hP hD hS => ?_)
  have hP : va_P D vwCl [(md, .inr (9, [.int th, .ref m_all, .ref m_deeds, .ref m_trial, .int dm, .ref m_hasImage, .ref m_tape, .ref m_key, .ref m_answered, .int 0, .int 0, .int 0, .ref m_goes, .int sw, .ref m_hotOnes, .ref m_indexed, .ref m_isChanged, .int 0, .ref m_valueNow, .int 0, .int (-1), .int 0, .ref m_didSome, .ref m_sizes, .ref m_ends])), (m_all, aI cs 51207 f_m_all)] H := hP
  have hD : va_D A [(md, .inr (9, [.int th, .ref m_all, .ref m_deeds, .ref m_trial, .int dm, .ref m_hasImage, .ref m_tape, .ref m_key, .ref m_answered, .int 0, .int 0, .int 0, .ref m_goes, .int sw, .ref m_hotOnes, .ref m_indexed, .ref m_isChanged, .int 0, .ref m_valueNow, .int 0, .int (-1), .int 0, .ref m_didSome, .ref m_sizes, .ref m_ends])), (m_all, aI cs 51207 f_m_all)] := hD
  have er_160 := hw_159
  subst er_160
  refine lv_if_ne (tgt := 114) hx hb dX9_placeFor_25 (by decide) (fun c_161 => ?_) (fun c_161 => absurd c_161 (by decide))
  refine lv_iinc (v := 23) (lv' := [(5, .int 23), (4, .int (-1)), (0, .ref md), (1, .int x), (2, .int (-1)), (3, .int 2)]) hx hb dX9_placeFor_114 hl (k := 0) rfl (by decide) (by decide) rfl (fun ls hl => ?_)
  refine lv_goto (tgt := 6) hx hb dX9_placeFor_117 (by decide) ?_
  refine lv_iload hx hb dX9_placeFor_6 (lv_at hl 0 rfl) ?_
  refine lv_bipush (v := 24) hx hb dX9_placeFor_8 (by decide) ?_
  refine lv_icmp_ge (tgt := 120) hx hb dX9_placeFor_10 (by decide) (fun c_162 => absurd c_162 (by decide)) (fun c_162 => ?_)
  refine lv_iload hx hb dX9_placeFor_13 (lv_at hl 0 rfl) ?_
  refine lv_iload_n hx hb dX9_placeFor_15 rfl (lv_at hl 4 rfl) ?_
  refine lv_icmp_eq (tgt := 114) hx hb dX9_placeFor_16 (by decide) (fun c_163 => absurd c_163 (by decide)) (fun c_163 => ?_)
  refine lv_aload_n hx hb dX9_placeFor_19 rfl (lv_at hl 2 rfl) ?_
  refine lv_iload hx hb dX9_placeFor_20 (lv_at hl 0 rfl) ?_
  refine kV_i (ci := 9) (As := [.int 23]) (rest := []) (wc := [(md, .inr (9, [.int th, .ref m_all, .ref m_deeds, .ref m_trial, .int dm, .ref m_hasImage, .ref m_tape, .ref m_key, .ref m_answered, .int 0, .int 0, .int 0, .ref m_goes, .int sw, .ref m_hotOnes, .ref m_indexed, .ref m_isChanged, .int 0, .ref m_valueNow, .int 0, .int (-1), .int 0, .ref m_didSome, .ref m_sizes, .ref m_ends])), (m_all, aI cs 51207 f_m_all)]) (wr := []) hx hb hml hown hu hK hP hD hS hA hl.1 (c_X9_isFree l D cs H.size 23 md m_all f_m_all m_deeds m_trial m_hasImage m_tape m_key m_answered m_goes m_hotOnes m_indexed m_isChanged m_valueNow m_didSome m_sizes m_ends dm th sw z_all (by first | decide | grind)) (gV u_1188 u_1190 u_13 u_76 u_1191) hd_X9_isFree ⟨(Nat.le_of_ble_eq_true rfl), (Nat.le_of_ble_eq_true rfl)⟩ [0, 1] [] rfl rfl rfl rfl (by decide) rfl 0 rfl rfl rfl (Nat.le_of_ble_eq_true rfl) dX9_placeFor_22 ⟨(Nat.le_of_ble_eq_true rfl), (Nat.le_of_ble_eq_true rfl)⟩ (fun r_164 ut_165 H locs hw_166 hP hD hS => ?_)
  have hP : va_P D vwCl [(md, .inr (9, [.int th, .ref m_all, .ref m_deeds, .ref m_trial, .int dm, .ref m_hasImage, .ref m_tape, .ref m_key, .ref m_answered, .int 0, .int 0, .int 0, .ref m_goes, .int sw, .ref m_hotOnes, .ref m_indexed, .ref m_isChanged, .int 0, .ref m_valueNow, .int 0, .int (-1), .int 0, .ref m_didSome, .ref m_sizes, .ref m_ends])), (m_all, aI cs 51207 f_m_all)] H := hP
  have hD : va_D A [(md, .inr (9, [.int th, .ref m_all, .ref m_deeds, .ref m_trial, .int dm, .ref m_hasImage, .ref m_tape, .ref m_key, .ref m_answered, .int 0, .int 0, .int 0, .ref m_goes, .int sw, .ref m_hotOnes, .ref m_indexed, .ref m_isChanged, .int 0, .ref m_valueNow, .int 0, .int (-1), .int 0, .ref m_didSome, .ref m_sizes, .ref m_ends])), (m_all, aI cs 51207 f_m_all)] := hD
  have er_167 := hw_166
  subst er_167
  refine lv_if_ne (tgt := 114) hx hb dX9_placeFor_25 (by decide) (fun c_168 => ?_) (fun c_168 => absurd c_168 (by decide))
  refine lv_iinc (v := 24) (lv' := [(5, .int 24), (4, .int (-1)), (0, .ref md), (1, .int x), (2, .int (-1)), (3, .int 2)]) hx hb dX9_placeFor_114 hl (k := 0) rfl (by decide) (by decide) rfl (fun ls hl => ?_)
  refine lv_goto (tgt := 6) hx hb dX9_placeFor_117 (by decide) ?_
  refine lv_iload hx hb dX9_placeFor_6 (lv_at hl 0 rfl) ?_
  refine lv_bipush (v := 24) hx hb dX9_placeFor_8 (by decide) ?_
  refine lv_icmp_ge (tgt := 120) hx hb dX9_placeFor_10 (by decide) (fun c_169 => ?_) (fun c_169 => absurd (by decide) c_169)
  refine lv_iload hx hb dX9_placeFor_120 (lv_at hl 1 rfl) ?_
  refine lv_iconst (v := (-1)) hx hb dX9_placeFor_122 (by decide) ?_
  refine lv_icmp_ne (tgt := 134) hx hb dX9_placeFor_123 (by decide) (fun c_170 => absurd (by decide) c_170) (fun c_170 => ?_)
  refine lv_aload_n hx hb dX9_placeFor_126 rfl (lv_at hl 2 rfl) ?_
  refine kV_i (ci := 9) (As := []) (rest := []) (wc := [(md, .inr (9, [.int th, .ref m_all, .ref m_deeds, .ref m_trial, .int dm, .ref m_hasImage, .ref m_tape, .ref m_key, .ref m_answered, .int 0, .int 0, .int 0, .ref m_goes, .int sw, .ref m_hotOnes, .ref m_indexed, .ref m_isChanged, .int 0, .ref m_valueNow, .int 0, .int (-1), .int 0, .ref m_didSome, .ref m_sizes, .ref m_ends])), (m_all, aI cs 51207 f_m_all)]) (wr := []) hx hb hml hown hu hK hP hD hS hA hl.1 (c_X9_freeMany l D cs H.size md m_all f_m_all m_deeds m_trial m_hasImage m_tape m_key m_answered m_goes m_hotOnes m_indexed m_isChanged m_valueNow m_didSome m_sizes m_ends dm th sw z_all) (gV u_1192 u_1194 u_14 u_76 u_1195) hd_X9_freeMany ⟨(Nat.le_of_ble_eq_true rfl), (Nat.le_of_ble_eq_true rfl)⟩ [0, 1] [] rfl rfl rfl rfl (by decide) rfl 0 rfl rfl rfl (Nat.le_of_ble_eq_true rfl) dX9_placeFor_127 ⟨(Nat.le_of_ble_eq_true rfl), (Nat.le_of_ble_eq_true rfl)⟩ (fun r_171 ut_172 H locs hw_173 hP hD hS => ?_)
  have hP : va_P D vwCl [(md, .inr (9, [.int th, .ref m_all, .ref m_deeds, .ref m_trial, .int dm, .ref m_hasImage, .ref m_tape, .ref m_key, .ref m_answered, .int 0, .int 0, .int 0, .ref m_goes, .int sw, .ref m_hotOnes, .ref m_indexed, .ref m_isChanged, .int 0, .ref m_valueNow, .int 0, .int (-1), .int 0, .ref m_didSome, .ref m_sizes, .ref m_ends])), (m_all, aI cs 51207 f_m_all)] H := hP
  have hD : va_D A [(md, .inr (9, [.int th, .ref m_all, .ref m_deeds, .ref m_trial, .int dm, .ref m_hasImage, .ref m_tape, .ref m_key, .ref m_answered, .int 0, .int 0, .int 0, .ref m_goes, .int sw, .ref m_hotOnes, .ref m_indexed, .ref m_isChanged, .int 0, .ref m_valueNow, .int 0, .int (-1), .int 0, .ref m_didSome, .ref m_sizes, .ref m_ends])), (m_all, aI cs 51207 f_m_all)] := hD
  have er_174 := hw_173
  subst er_174
  refine lv_iload_n hx hb dX9_placeFor_130 rfl (lv_at hl 5 rfl) ?_
  refine lv_icmp_ge (tgt := 137) hx hb dX9_placeFor_131 (by decide) (fun c_175 => ?_) (fun c_175 => absurd (by decide) c_175)
  refine lv_iconst (v := 0) hx hb dX9_placeFor_137 (by decide) ?_
  refine lv_istore (lv' := [(5, .int 0), (4, .int (-1)), (0, .ref md), (1, .int x), (2, .int (-1)), (3, .int 2)]) hx hb dX9_placeFor_138 hl (by decide) rfl (fun ls hl => ?_)
  refine lv_iload hx hb dX9_placeFor_140 (lv_at hl 0 rfl) ?_
  refine lv_bipush (v := 24) hx hb dX9_placeFor_142 (by decide) ?_
  refine lv_icmp_ge (tgt := 201) hx hb dX9_placeFor_144 (by decide) (fun c_176 => absurd c_176 (by decide)) (fun c_176 => ?_)
  refine lv_aload_n hx hb dX9_placeFor_147 rfl (lv_at hl 2 rfl) ?_
  refine lv_iload hx hb dX9_placeFor_148 (lv_at hl 0 rfl) ?_
  refine kV_i (ci := 9) (As := [.int 0]) (rest := []) (wc := [(md, .inr (9, [.int th, .ref m_all, .ref m_deeds, .ref m_trial, .int dm, .ref m_hasImage, .ref m_tape, .ref m_key, .ref m_answered, .int 0, .int 0, .int 0, .ref m_goes, .int sw, .ref m_hotOnes, .ref m_indexed, .ref m_isChanged, .int 0, .ref m_valueNow, .int 0, .int (-1), .int 0, .ref m_didSome, .ref m_sizes, .ref m_ends])), (m_all, aI cs 51207 f_m_all)]) (wr := []) hx hb hml hown hu hK hP hD hS hA hl.1 (c_X9_isFree l D cs H.size 0 md m_all f_m_all m_deeds m_trial m_hasImage m_tape m_key m_answered m_goes m_hotOnes m_indexed m_isChanged m_valueNow m_didSome m_sizes m_ends dm th sw z_all (by first | decide | grind)) (gV u_1188 u_1190 u_13 u_76 u_1191) hd_X9_isFree ⟨(Nat.le_of_ble_eq_true rfl), (Nat.le_of_ble_eq_true rfl)⟩ [0, 1] [] rfl rfl rfl rfl (by decide) rfl 0 rfl rfl rfl (Nat.le_of_ble_eq_true rfl) dX9_placeFor_150 ⟨(Nat.le_of_ble_eq_true rfl), (Nat.le_of_ble_eq_true rfl)⟩ (fun r_177 ut_178 H locs hw_179 hP hD hS => ?_)
  have hP : va_P D vwCl [(md, .inr (9, [.int th, .ref m_all, .ref m_deeds, .ref m_trial, .int dm, .ref m_hasImage, .ref m_tape, .ref m_key, .ref m_answered, .int 0, .int 0, .int 0, .ref m_goes, .int sw, .ref m_hotOnes, .ref m_indexed, .ref m_isChanged, .int 0, .ref m_valueNow, .int 0, .int (-1), .int 0, .ref m_didSome, .ref m_sizes, .ref m_ends])), (m_all, aI cs 51207 f_m_all)] H := hP
  have hD : va_D A [(md, .inr (9, [.int th, .ref m_all, .ref m_deeds, .ref m_trial, .int dm, .ref m_hasImage, .ref m_tape, .ref m_key, .ref m_answered, .int 0, .int 0, .int 0, .ref m_goes, .int sw, .ref m_hotOnes, .ref m_indexed, .ref m_isChanged, .int 0, .ref m_valueNow, .int 0, .int (-1), .int 0, .ref m_didSome, .ref m_sizes, .ref m_ends])), (m_all, aI cs 51207 f_m_all)] := hD
  have er_180 := hw_179
  subst er_180
  refine lv_if_eq (tgt := 195) hx hb dX9_placeFor_153 (by decide) (fun c_181 => absurd c_181 (by decide)) (fun c_181 => ?_)
  refine lv_iload hx hb dX9_placeFor_156 (lv_at hl 0 rfl) ?_
  refine lv_iload_n hx hb dX9_placeFor_158 rfl (lv_at hl 4 rfl) ?_
  refine lv_icmp_eq (tgt := 195) hx hb dX9_placeFor_159 (by decide) (fun c_182 => absurd c_182 (by decide)) (fun c_182 => ?_)
  refine lv_iload hx hb dX9_placeFor_162 (lv_at hl 1 rfl) ?_
  refine lv_iconst (v := (-1)) hx hb dX9_placeFor_164 (by decide) ?_
  refine lv_icmp_eq (tgt := 191) hx hb dX9_placeFor_165 (by decide) (fun c_183 => ?_) (fun c_183 => absurd (by decide) c_183)
  refine lv_iload hx hb dX9_placeFor_191 (lv_at hl 0 rfl) ?_
  refine lv_istore (lv' := [(4, .int 0), (5, .int 0), (0, .ref md), (1, .int x), (2, .int (-1)), (3, .int 2)]) hx hb dX9_placeFor_193 hl (by decide) rfl (fun ls hl => ?_)
  refine lv_iinc (v := 1) (lv' := [(5, .int 1), (4, .int 0), (0, .ref md), (1, .int x), (2, .int (-1)), (3, .int 2)]) hx hb dX9_placeFor_195 hl (k := 1) rfl (by decide) (by decide) rfl (fun ls hl => ?_)
  refine lv_goto (tgt := 140) hx hb dX9_placeFor_198 (by decide) ?_
  refine lv_iload hx hb dX9_placeFor_140 (lv_at hl 0 rfl) ?_
  refine lv_bipush (v := 24) hx hb dX9_placeFor_142 (by decide) ?_
  refine lv_icmp_ge (tgt := 201) hx hb dX9_placeFor_144 (by decide) (fun c_184 => absurd c_184 (by decide)) (fun c_184 => ?_)
  refine lv_aload_n hx hb dX9_placeFor_147 rfl (lv_at hl 2 rfl) ?_
  refine lv_iload hx hb dX9_placeFor_148 (lv_at hl 0 rfl) ?_
  refine kV_i (ci := 9) (As := [.int 1]) (rest := []) (wc := [(md, .inr (9, [.int th, .ref m_all, .ref m_deeds, .ref m_trial, .int dm, .ref m_hasImage, .ref m_tape, .ref m_key, .ref m_answered, .int 0, .int 0, .int 0, .ref m_goes, .int sw, .ref m_hotOnes, .ref m_indexed, .ref m_isChanged, .int 0, .ref m_valueNow, .int 0, .int (-1), .int 0, .ref m_didSome, .ref m_sizes, .ref m_ends])), (m_all, aI cs 51207 f_m_all)]) (wr := []) hx hb hml hown hu hK hP hD hS hA hl.1 (c_X9_isFree l D cs H.size 1 md m_all f_m_all m_deeds m_trial m_hasImage m_tape m_key m_answered m_goes m_hotOnes m_indexed m_isChanged m_valueNow m_didSome m_sizes m_ends dm th sw z_all (by first | decide | grind)) (gV u_1188 u_1190 u_13 u_76 u_1191) hd_X9_isFree ⟨(Nat.le_of_ble_eq_true rfl), (Nat.le_of_ble_eq_true rfl)⟩ [0, 1] [] rfl rfl rfl rfl (by decide) rfl 0 rfl rfl rfl (Nat.le_of_ble_eq_true rfl) dX9_placeFor_150 ⟨(Nat.le_of_ble_eq_true rfl), (Nat.le_of_ble_eq_true rfl)⟩ (fun r_185 ut_186 H locs hw_187 hP hD hS => ?_)
  have hP : va_P D vwCl [(md, .inr (9, [.int th, .ref m_all, .ref m_deeds, .ref m_trial, .int dm, .ref m_hasImage, .ref m_tape, .ref m_key, .ref m_answered, .int 0, .int 0, .int 0, .ref m_goes, .int sw, .ref m_hotOnes, .ref m_indexed, .ref m_isChanged, .int 0, .ref m_valueNow, .int 0, .int (-1), .int 0, .ref m_didSome, .ref m_sizes, .ref m_ends])), (m_all, aI cs 51207 f_m_all)] H := hP
  have hD : va_D A [(md, .inr (9, [.int th, .ref m_all, .ref m_deeds, .ref m_trial, .int dm, .ref m_hasImage, .ref m_tape, .ref m_key, .ref m_answered, .int 0, .int 0, .int 0, .ref m_goes, .int sw, .ref m_hotOnes, .ref m_indexed, .ref m_isChanged, .int 0, .ref m_valueNow, .int 0, .int (-1), .int 0, .ref m_didSome, .ref m_sizes, .ref m_ends])), (m_all, aI cs 51207 f_m_all)] := hD
  have er_188 := hw_187
  subst er_188
  refine lv_if_eq (tgt := 195) hx hb dX9_placeFor_153 (by decide) (fun c_189 => absurd c_189 (by decide)) (fun c_189 => ?_)
  refine lv_iload hx hb dX9_placeFor_156 (lv_at hl 0 rfl) ?_
  refine lv_iload_n hx hb dX9_placeFor_158 rfl (lv_at hl 4 rfl) ?_
  refine lv_icmp_eq (tgt := 195) hx hb dX9_placeFor_159 (by decide) (fun c_190 => absurd c_190 (by decide)) (fun c_190 => ?_)
  refine lv_iload hx hb dX9_placeFor_162 (lv_at hl 1 rfl) ?_
  refine lv_iconst (v := (-1)) hx hb dX9_placeFor_164 (by decide) ?_
  refine lv_icmp_eq (tgt := 191) hx hb dX9_placeFor_165 (by decide) (fun c_191 => absurd c_191 (by decide)) (fun c_191 => ?_)
  refine lv_aload_n hx hb dX9_placeFor_168 rfl (lv_at hl 2 rfl) ?_
  refine va_get (D := D) (ci := 9) (v := .ref m_all) (C := RX9) (T := TX9) (N := 25) hx hb hu in_X9 hown hK.1 hP 0 rfl rfl 1 (by decide) (hu _ u_1081) (fun _ h9 => h9) rfl dX9_placeFor_169 ?_
  refine lv_bipush (v := 31) hx hb dX9_placeFor_172 (by decide) ?_
  refine lv_iload hx hb dX9_placeFor_174 (lv_at hl 0 rfl) ?_
  refine lv_iadd hx hb dX9_placeFor_176 ?_
  refine tpi (y := 32) (by decide) ?_
  refine va_iald hx hb hK.1 hP 1 0 rfl rfl (vin_c _ _ rfl) dX9_placeFor_177 ?_
  refine tpi (y := 0) ((z_all _ (cl_lt (vin_c _ _ rfl))).trans (by decide +kernel)) ?_
  refine lv_aload_n hx hb dX9_placeFor_178 rfl (lv_at hl 2 rfl) ?_
  refine va_get (D := D) (ci := 9) (v := .ref m_all) (C := RX9) (T := TX9) (N := 25) hx hb hu in_X9 hown hK.1 hP 0 rfl rfl 1 (by decide) (hu _ u_1081) (fun _ h9 => h9) rfl dX9_placeFor_179 ?_
  refine lv_bipush (v := 31) hx hb dX9_placeFor_182 (by decide) ?_
  refine lv_iload hx hb dX9_placeFor_184 (lv_at hl 1 rfl) ?_
  refine lv_iadd hx hb dX9_placeFor_186 ?_
  refine tpi (y := 31) (by decide) ?_
  refine va_iald hx hb hK.1 hP 1 0 rfl rfl (vin_c _ _ rfl) dX9_placeFor_187 ?_
  refine tpi (y := 0) ((z_all _ (cl_lt (vin_c _ _ rfl))).trans (by decide +kernel)) ?_
  refine lv_icmp_ge (tgt := 195) hx hb dX9_placeFor_188 (by decide) (fun c_192 => ?_) (fun c_192 => absurd (by decide) c_192)
  refine lv_iinc (v := 2) (lv' := [(5, .int 2), (4, .int 0), (0, .ref md), (1, .int x), (2, .int (-1)), (3, .int 2)]) hx hb dX9_placeFor_195 hl (k := 0) rfl (by decide) (by decide) rfl (fun ls hl => ?_)
  refine lv_goto (tgt := 140) hx hb dX9_placeFor_198 (by decide) ?_
  refine lv_iload hx hb dX9_placeFor_140 (lv_at hl 0 rfl) ?_
  refine lv_bipush (v := 24) hx hb dX9_placeFor_142 (by decide) ?_
  refine lv_icmp_ge (tgt := 201) hx hb dX9_placeFor_144 (by decide) (fun c_193 => absurd c_193 (by decide)) (fun c_193 => ?_)
  refine lv_aload_n hx hb dX9_placeFor_147 rfl (lv_at hl 2 rfl) ?_
  refine lv_iload hx hb dX9_placeFor_148 (lv_at hl 0 rfl) ?_
  refine kV_i (ci := 9) (As := [.int 2]) (rest := []) (wc := [(md, .inr (9, [.int th, .ref m_all, .ref m_deeds, .ref m_trial, .int dm, .ref m_hasImage, .ref m_tape, .ref m_key, .ref m_answered, .int 0, .int 0, .int 0, .ref m_goes, .int sw, .ref m_hotOnes, .ref m_indexed, .ref m_isChanged, .int 0, .ref m_valueNow, .int 0, .int (-1), .int 0, .ref m_didSome, .ref m_sizes, .ref m_ends])), (m_all, aI cs 51207 f_m_all)]) (wr := []) hx hb hml hown hu hK hP hD hS hA hl.1 (c_X9_isFree l D cs H.size 2 md m_all f_m_all m_deeds m_trial m_hasImage m_tape m_key m_answered m_goes m_hotOnes m_indexed m_isChanged m_valueNow m_didSome m_sizes m_ends dm th sw z_all (by first | decide | grind)) (gV u_1188 u_1190 u_13 u_76 u_1191) hd_X9_isFree ⟨(Nat.le_of_ble_eq_true rfl), (Nat.le_of_ble_eq_true rfl)⟩ [0, 1] [] rfl rfl rfl rfl (by decide) rfl 0 rfl rfl rfl (Nat.le_of_ble_eq_true rfl) dX9_placeFor_150 ⟨(Nat.le_of_ble_eq_true rfl), (Nat.le_of_ble_eq_true rfl)⟩ (fun r_194 ut_195 H locs hw_196 hP hD hS => ?_)
  have hP : va_P D vwCl [(md, .inr (9, [.int th, .ref m_all, .ref m_deeds, .ref m_trial, .int dm, .ref m_hasImage, .ref m_tape, .ref m_key, .ref m_answered, .int 0, .int 0, .int 0, .ref m_goes, .int sw, .ref m_hotOnes, .ref m_indexed, .ref m_isChanged, .int 0, .ref m_valueNow, .int 0, .int (-1), .int 0, .ref m_didSome, .ref m_sizes, .ref m_ends])), (m_all, aI cs 51207 f_m_all)] H := hP
  have hD : va_D A [(md, .inr (9, [.int th, .ref m_all, .ref m_deeds, .ref m_trial, .int dm, .ref m_hasImage, .ref m_tape, .ref m_key, .ref m_answered, .int 0, .int 0, .int 0, .ref m_goes, .int sw, .ref m_hotOnes, .ref m_indexed, .ref m_isChanged, .int 0, .ref m_valueNow, .int 0, .int (-1), .int 0, .ref m_didSome, .ref m_sizes, .ref m_ends])), (m_all, aI cs 51207 f_m_all)] := hD
  have er_197 := hw_196
  subst er_197
  refine lv_if_eq (tgt := 195) hx hb dX9_placeFor_153 (by decide) (fun c_198 => absurd c_198 (by decide)) (fun c_198 => ?_)
  refine lv_iload hx hb dX9_placeFor_156 (lv_at hl 0 rfl) ?_
  refine lv_iload_n hx hb dX9_placeFor_158 rfl (lv_at hl 4 rfl) ?_
  refine lv_icmp_eq (tgt := 195) hx hb dX9_placeFor_159 (by decide) (fun c_199 => absurd c_199 (by decide)) (fun c_199 => ?_)
  refine lv_iload hx hb dX9_placeFor_162 (lv_at hl 1 rfl) ?_
  refine lv_iconst (v := (-1)) hx hb dX9_placeFor_164 (by decide) ?_
  refine lv_icmp_eq (tgt := 191) hx hb dX9_placeFor_165 (by decide) (fun c_200 => absurd c_200 (by decide)) (fun c_200 => ?_)
  refine lv_aload_n hx hb dX9_placeFor_168 rfl (lv_at hl 2 rfl) ?_
  refine va_get (D := D) (ci := 9) (v := .ref m_all) (C := RX9) (T := TX9) (N := 25) hx hb hu in_X9 hown hK.1 hP 0 rfl rfl 1 (by decide) (hu _ u_1081) (fun _ h9 => h9) rfl dX9_placeFor_169 ?_
  refine lv_bipush (v := 31) hx hb dX9_placeFor_172 (by decide) ?_
  refine lv_iload hx hb dX9_placeFor_174 (lv_at hl 0 rfl) ?_
  refine lv_iadd hx hb dX9_placeFor_176 ?_
  refine tpi (y := 33) (by decide) ?_
  refine va_iald hx hb hK.1 hP 1 0 rfl rfl (vin_c _ _ rfl) dX9_placeFor_177 ?_
  refine tpi (y := 0) ((z_all _ (cl_lt (vin_c _ _ rfl))).trans (by decide +kernel)) ?_
  refine lv_aload_n hx hb dX9_placeFor_178 rfl (lv_at hl 2 rfl) ?_
  refine va_get (D := D) (ci := 9) (v := .ref m_all) (C := RX9) (T := TX9) (N := 25) hx hb hu in_X9 hown hK.1 hP 0 rfl rfl 1 (by decide) (hu _ u_1081) (fun _ h9 => h9) rfl dX9_placeFor_179 ?_
  refine lv_bipush (v := 31) hx hb dX9_placeFor_182 (by decide) ?_
  refine lv_iload hx hb dX9_placeFor_184 (lv_at hl 1 rfl) ?_
  refine lv_iadd hx hb dX9_placeFor_186 ?_
  refine tpi (y := 31) (by decide) ?_
  refine va_iald hx hb hK.1 hP 1 0 rfl rfl (vin_c _ _ rfl) dX9_placeFor_187 ?_
  refine tpi (y := 0) ((z_all _ (cl_lt (vin_c _ _ rfl))).trans (by decide +kernel)) ?_
  refine lv_icmp_ge (tgt := 195) hx hb dX9_placeFor_188 (by decide) (fun c_201 => ?_) (fun c_201 => absurd (by decide) c_201)
  refine lv_iinc (v := 3) (lv' := [(5, .int 3), (4, .int 0), (0, .ref md), (1, .int x), (2, .int (-1)), (3, .int 2)]) hx hb dX9_placeFor_195 hl (k := 0) rfl (by decide) (by decide) rfl (fun ls hl => ?_)
  refine lv_goto (tgt := 140) hx hb dX9_placeFor_198 (by decide) ?_
  refine lv_iload hx hb dX9_placeFor_140 (lv_at hl 0 rfl) ?_
  refine lv_bipush (v := 24) hx hb dX9_placeFor_142 (by decide) ?_
  refine lv_icmp_ge (tgt := 201) hx hb dX9_placeFor_144 (by decide) (fun c_202 => absurd c_202 (by decide)) (fun c_202 => ?_)
  refine lv_aload_n hx hb dX9_placeFor_147 rfl (lv_at hl 2 rfl) ?_
  refine lv_iload hx hb dX9_placeFor_148 (lv_at hl 0 rfl) ?_
  refine kV_i (ci := 9) (As := [.int 3]) (rest := []) (wc := [(md, .inr (9, [.int th, .ref m_all, .ref m_deeds, .ref m_trial, .int dm, .ref m_hasImage, .ref m_tape, .ref m_key, .ref m_answered, .int 0, .int 0, .int 0, .ref m_goes, .int sw, .ref m_hotOnes, .ref m_indexed, .ref m_isChanged, .int 0, .ref m_valueNow, .int 0, .int (-1), .int 0, .ref m_didSome, .ref m_sizes, .ref m_ends])), (m_all, aI cs 51207 f_m_all)]) (wr := []) hx hb hml hown hu hK hP hD hS hA hl.1 (c_X9_isFree l D cs H.size 3 md m_all f_m_all m_deeds m_trial m_hasImage m_tape m_key m_answered m_goes m_hotOnes m_indexed m_isChanged m_valueNow m_didSome m_sizes m_ends dm th sw z_all (by first | decide | grind)) (gV u_1188 u_1190 u_13 u_76 u_1191) hd_X9_isFree ⟨(Nat.le_of_ble_eq_true rfl), (Nat.le_of_ble_eq_true rfl)⟩ [0, 1] [] rfl rfl rfl rfl (by decide) rfl 0 rfl rfl rfl (Nat.le_of_ble_eq_true rfl) dX9_placeFor_150 ⟨(Nat.le_of_ble_eq_true rfl), (Nat.le_of_ble_eq_true rfl)⟩ (fun r_203 ut_204 H locs hw_205 hP hD hS => ?_)
  have hP : va_P D vwCl [(md, .inr (9, [.int th, .ref m_all, .ref m_deeds, .ref m_trial, .int dm, .ref m_hasImage, .ref m_tape, .ref m_key, .ref m_answered, .int 0, .int 0, .int 0, .ref m_goes, .int sw, .ref m_hotOnes, .ref m_indexed, .ref m_isChanged, .int 0, .ref m_valueNow, .int 0, .int (-1), .int 0, .ref m_didSome, .ref m_sizes, .ref m_ends])), (m_all, aI cs 51207 f_m_all)] H := hP
  have hD : va_D A [(md, .inr (9, [.int th, .ref m_all, .ref m_deeds, .ref m_trial, .int dm, .ref m_hasImage, .ref m_tape, .ref m_key, .ref m_answered, .int 0, .int 0, .int 0, .ref m_goes, .int sw, .ref m_hotOnes, .ref m_indexed, .ref m_isChanged, .int 0, .ref m_valueNow, .int 0, .int (-1), .int 0, .ref m_didSome, .ref m_sizes, .ref m_ends])), (m_all, aI cs 51207 f_m_all)] := hD
  have er_206 := hw_205
  subst er_206
  refine lv_if_eq (tgt := 195) hx hb dX9_placeFor_153 (by decide) (fun c_207 => absurd c_207 (by decide)) (fun c_207 => ?_)
  refine lv_iload hx hb dX9_placeFor_156 (lv_at hl 0 rfl) ?_
  refine lv_iload_n hx hb dX9_placeFor_158 rfl (lv_at hl 4 rfl) ?_
  refine lv_icmp_eq (tgt := 195) hx hb dX9_placeFor_159 (by decide) (fun c_208 => absurd c_208 (by decide)) (fun c_208 => ?_)
  refine lv_iload hx hb dX9_placeFor_162 (lv_at hl 1 rfl) ?_
  refine lv_iconst (v := (-1)) hx hb dX9_placeFor_164 (by decide) ?_
  refine lv_icmp_eq (tgt := 191) hx hb dX9_placeFor_165 (by decide) (fun c_209 => absurd c_209 (by decide)) (fun c_209 => ?_)
  refine lv_aload_n hx hb dX9_placeFor_168 rfl (lv_at hl 2 rfl) ?_
  refine va_get (D := D) (ci := 9) (v := .ref m_all) (C := RX9) (T := TX9) (N := 25) hx hb hu in_X9 hown hK.1 hP 0 rfl rfl 1 (by decide) (hu _ u_1081) (fun _ h9 => h9) rfl dX9_placeFor_169 ?_
  refine lv_bipush (v := 31) hx hb dX9_placeFor_172 (by decide) ?_
  refine lv_iload hx hb dX9_placeFor_174 (lv_at hl 0 rfl) ?_
  refine lv_iadd hx hb dX9_placeFor_176 ?_
  refine tpi (y := 34) (by decide) ?_
  refine va_iald hx hb hK.1 hP 1 0 rfl rfl (vin_c _ _ rfl) dX9_placeFor_177 ?_
  refine tpi (y := 0) ((z_all _ (cl_lt (vin_c _ _ rfl))).trans (by decide +kernel)) ?_
  refine lv_aload_n hx hb dX9_placeFor_178 rfl (lv_at hl 2 rfl) ?_
  refine va_get (D := D) (ci := 9) (v := .ref m_all) (C := RX9) (T := TX9) (N := 25) hx hb hu in_X9 hown hK.1 hP 0 rfl rfl 1 (by decide) (hu _ u_1081) (fun _ h9 => h9) rfl dX9_placeFor_179 ?_
  refine lv_bipush (v := 31) hx hb dX9_placeFor_182 (by decide) ?_
  refine lv_iload hx hb dX9_placeFor_184 (lv_at hl 1 rfl) ?_
  refine lv_iadd hx hb dX9_placeFor_186 ?_
  refine tpi (y := 31) (by decide) ?_
  refine va_iald hx hb hK.1 hP 1 0 rfl rfl (vin_c _ _ rfl) dX9_placeFor_187 ?_
  refine tpi (y := 0) ((z_all _ (cl_lt (vin_c _ _ rfl))).trans (by decide +kernel)) ?_
  refine lv_icmp_ge (tgt := 195) hx hb dX9_placeFor_188 (by decide) (fun c_210 => ?_) (fun c_210 => absurd (by decide) c_210)
  refine lv_iinc (v := 4) (lv' := [(5, .int 4), (4, .int 0), (0, .ref md), (1, .int x), (2, .int (-1)), (3, .int 2)]) hx hb dX9_placeFor_195 hl (k := 0) rfl (by decide) (by decide) rfl (fun ls hl => ?_)
  refine lv_goto (tgt := 140) hx hb dX9_placeFor_198 (by decide) ?_
  refine lv_iload hx hb dX9_placeFor_140 (lv_at hl 0 rfl) ?_
  refine lv_bipush (v := 24) hx hb dX9_placeFor_142 (by decide) ?_
  refine lv_icmp_ge (tgt := 201) hx hb dX9_placeFor_144 (by decide) (fun c_211 => absurd c_211 (by decide)) (fun c_211 => ?_)
  refine lv_aload_n hx hb dX9_placeFor_147 rfl (lv_at hl 2 rfl) ?_
  refine lv_iload hx hb dX9_placeFor_148 (lv_at hl 0 rfl) ?_
  refine kV_i (ci := 9) (As := [.int 4]) (rest := []) (wc := [(md, .inr (9, [.int th, .ref m_all, .ref m_deeds, .ref m_trial, .int dm, .ref m_hasImage, .ref m_tape, .ref m_key, .ref m_answered, .int 0, .int 0, .int 0, .ref m_goes, .int sw, .ref m_hotOnes, .ref m_indexed, .ref m_isChanged, .int 0, .ref m_valueNow, .int 0, .int (-1), .int 0, .ref m_didSome, .ref m_sizes, .ref m_ends])), (m_all, aI cs 51207 f_m_all)]) (wr := []) hx hb hml hown hu hK hP hD hS hA hl.1 (c_X9_isFree l D cs H.size 4 md m_all f_m_all m_deeds m_trial m_hasImage m_tape m_key m_answered m_goes m_hotOnes m_indexed m_isChanged m_valueNow m_didSome m_sizes m_ends dm th sw z_all (by first | decide | grind)) (gV u_1188 u_1190 u_13 u_76 u_1191) hd_X9_isFree ⟨(Nat.le_of_ble_eq_true rfl), (Nat.le_of_ble_eq_true rfl)⟩ [0, 1] [] rfl rfl rfl rfl (by decide) rfl 0 rfl rfl rfl (Nat.le_of_ble_eq_true rfl) dX9_placeFor_150 ⟨(Nat.le_of_ble_eq_true rfl), (Nat.le_of_ble_eq_true rfl)⟩ (fun r_212 ut_213 H locs hw_214 hP hD hS => ?_)
  have hP : va_P D vwCl [(md, .inr (9, [.int th, .ref m_all, .ref m_deeds, .ref m_trial, .int dm, .ref m_hasImage, .ref m_tape, .ref m_key, .ref m_answered, .int 0, .int 0, .int 0, .ref m_goes, .int sw, .ref m_hotOnes, .ref m_indexed, .ref m_isChanged, .int 0, .ref m_valueNow, .int 0, .int (-1), .int 0, .ref m_didSome, .ref m_sizes, .ref m_ends])), (m_all, aI cs 51207 f_m_all)] H := hP
  have hD : va_D A [(md, .inr (9, [.int th, .ref m_all, .ref m_deeds, .ref m_trial, .int dm, .ref m_hasImage, .ref m_tape, .ref m_key, .ref m_answered, .int 0, .int 0, .int 0, .ref m_goes, .int sw, .ref m_hotOnes, .ref m_indexed, .ref m_isChanged, .int 0, .ref m_valueNow, .int 0, .int (-1), .int 0, .ref m_didSome, .ref m_sizes, .ref m_ends])), (m_all, aI cs 51207 f_m_all)] := hD
  have er_215 := hw_214
  subst er_215
  refine lv_if_eq (tgt := 195) hx hb dX9_placeFor_153 (by decide) (fun c_216 => absurd c_216 (by decide)) (fun c_216 => ?_)
  refine lv_iload hx hb dX9_placeFor_156 (lv_at hl 0 rfl) ?_
  refine lv_iload_n hx hb dX9_placeFor_158 rfl (lv_at hl 4 rfl) ?_
  refine lv_icmp_eq (tgt := 195) hx hb dX9_placeFor_159 (by decide) (fun c_217 => absurd c_217 (by decide)) (fun c_217 => ?_)
  refine lv_iload hx hb dX9_placeFor_162 (lv_at hl 1 rfl) ?_
  refine lv_iconst (v := (-1)) hx hb dX9_placeFor_164 (by decide) ?_
  refine lv_icmp_eq (tgt := 191) hx hb dX9_placeFor_165 (by decide) (fun c_218 => absurd c_218 (by decide)) (fun c_218 => ?_)
  refine lv_aload_n hx hb dX9_placeFor_168 rfl (lv_at hl 2 rfl) ?_
  refine va_get (D := D) (ci := 9) (v := .ref m_all) (C := RX9) (T := TX9) (N := 25) hx hb hu in_X9 hown hK.1 hP 0 rfl rfl 1 (by decide) (hu _ u_1081) (fun _ h9 => h9) rfl dX9_placeFor_169 ?_
  refine lv_bipush (v := 31) hx hb dX9_placeFor_172 (by decide) ?_
  refine lv_iload hx hb dX9_placeFor_174 (lv_at hl 0 rfl) ?_
  refine lv_iadd hx hb dX9_placeFor_176 ?_
  refine tpi (y := 35) (by decide) ?_
  refine va_iald hx hb hK.1 hP 1 0 rfl rfl (vin_c _ _ rfl) dX9_placeFor_177 ?_
  refine tpi (y := 0) ((z_all _ (cl_lt (vin_c _ _ rfl))).trans (by decide +kernel)) ?_
  refine lv_aload_n hx hb dX9_placeFor_178 rfl (lv_at hl 2 rfl) ?_
  refine va_get (D := D) (ci := 9) (v := .ref m_all) (C := RX9) (T := TX9) (N := 25) hx hb hu in_X9 hown hK.1 hP 0 rfl rfl 1 (by decide) (hu _ u_1081) (fun _ h9 => h9) rfl dX9_placeFor_179 ?_
  refine lv_bipush (v := 31) hx hb dX9_placeFor_182 (by decide) ?_
  refine lv_iload hx hb dX9_placeFor_184 (lv_at hl 1 rfl) ?_
  refine lv_iadd hx hb dX9_placeFor_186 ?_
  refine tpi (y := 31) (by decide) ?_
  refine va_iald hx hb hK.1 hP 1 0 rfl rfl (vin_c _ _ rfl) dX9_placeFor_187 ?_
  refine tpi (y := 0) ((z_all _ (cl_lt (vin_c _ _ rfl))).trans (by decide +kernel)) ?_
  refine lv_icmp_ge (tgt := 195) hx hb dX9_placeFor_188 (by decide) (fun c_219 => ?_) (fun c_219 => absurd (by decide) c_219)
  refine lv_iinc (v := 5) (lv' := [(5, .int 5), (4, .int 0), (0, .ref md), (1, .int x), (2, .int (-1)), (3, .int 2)]) hx hb dX9_placeFor_195 hl (k := 0) rfl (by decide) (by decide) rfl (fun ls hl => ?_)
  refine lv_goto (tgt := 140) hx hb dX9_placeFor_198 (by decide) ?_
  refine lv_iload hx hb dX9_placeFor_140 (lv_at hl 0 rfl) ?_
  refine lv_bipush (v := 24) hx hb dX9_placeFor_142 (by decide) ?_
  refine lv_icmp_ge (tgt := 201) hx hb dX9_placeFor_144 (by decide) (fun c_220 => absurd c_220 (by decide)) (fun c_220 => ?_)
  refine lv_aload_n hx hb dX9_placeFor_147 rfl (lv_at hl 2 rfl) ?_
  refine lv_iload hx hb dX9_placeFor_148 (lv_at hl 0 rfl) ?_
  refine kV_i (ci := 9) (As := [.int 5]) (rest := []) (wc := [(md, .inr (9, [.int th, .ref m_all, .ref m_deeds, .ref m_trial, .int dm, .ref m_hasImage, .ref m_tape, .ref m_key, .ref m_answered, .int 0, .int 0, .int 0, .ref m_goes, .int sw, .ref m_hotOnes, .ref m_indexed, .ref m_isChanged, .int 0, .ref m_valueNow, .int 0, .int (-1), .int 0, .ref m_didSome, .ref m_sizes, .ref m_ends])), (m_all, aI cs 51207 f_m_all)]) (wr := []) hx hb hml hown hu hK hP hD hS hA hl.1 (c_X9_isFree l D cs H.size 5 md m_all f_m_all m_deeds m_trial m_hasImage m_tape m_key m_answered m_goes m_hotOnes m_indexed m_isChanged m_valueNow m_didSome m_sizes m_ends dm th sw z_all (by first | decide | grind)) (gV u_1188 u_1190 u_13 u_76 u_1191) hd_X9_isFree ⟨(Nat.le_of_ble_eq_true rfl), (Nat.le_of_ble_eq_true rfl)⟩ [0, 1] [] rfl rfl rfl rfl (by decide) rfl 0 rfl rfl rfl (Nat.le_of_ble_eq_true rfl) dX9_placeFor_150 ⟨(Nat.le_of_ble_eq_true rfl), (Nat.le_of_ble_eq_true rfl)⟩ (fun r_221 ut_222 H locs hw_223 hP hD hS => ?_)
  have hP : va_P D vwCl [(md, .inr (9, [.int th, .ref m_all, .ref m_deeds, .ref m_trial, .int dm, .ref m_hasImage, .ref m_tape, .ref m_key, .ref m_answered, .int 0, .int 0, .int 0, .ref m_goes, .int sw, .ref m_hotOnes, .ref m_indexed, .ref m_isChanged, .int 0, .ref m_valueNow, .int 0, .int (-1), .int 0, .ref m_didSome, .ref m_sizes, .ref m_ends])), (m_all, aI cs 51207 f_m_all)] H := hP
  have hD : va_D A [(md, .inr (9, [.int th, .ref m_all, .ref m_deeds, .ref m_trial, .int dm, .ref m_hasImage, .ref m_tape, .ref m_key, .ref m_answered, .int 0, .int 0, .int 0, .ref m_goes, .int sw, .ref m_hotOnes, .ref m_indexed, .ref m_isChanged, .int 0, .ref m_valueNow, .int 0, .int (-1), .int 0, .ref m_didSome, .ref m_sizes, .ref m_ends])), (m_all, aI cs 51207 f_m_all)] := hD
  have er_224 := hw_223
  subst er_224
  refine lv_if_eq (tgt := 195) hx hb dX9_placeFor_153 (by decide) (fun c_225 => absurd c_225 (by decide)) (fun c_225 => ?_)
  refine lv_iload hx hb dX9_placeFor_156 (lv_at hl 0 rfl) ?_
  refine lv_iload_n hx hb dX9_placeFor_158 rfl (lv_at hl 4 rfl) ?_
  refine lv_icmp_eq (tgt := 195) hx hb dX9_placeFor_159 (by decide) (fun c_226 => absurd c_226 (by decide)) (fun c_226 => ?_)
  refine lv_iload hx hb dX9_placeFor_162 (lv_at hl 1 rfl) ?_
  refine lv_iconst (v := (-1)) hx hb dX9_placeFor_164 (by decide) ?_
  refine lv_icmp_eq (tgt := 191) hx hb dX9_placeFor_165 (by decide) (fun c_227 => absurd c_227 (by decide)) (fun c_227 => ?_)
  refine lv_aload_n hx hb dX9_placeFor_168 rfl (lv_at hl 2 rfl) ?_
  refine va_get (D := D) (ci := 9) (v := .ref m_all) (C := RX9) (T := TX9) (N := 25) hx hb hu in_X9 hown hK.1 hP 0 rfl rfl 1 (by decide) (hu _ u_1081) (fun _ h9 => h9) rfl dX9_placeFor_169 ?_
  refine lv_bipush (v := 31) hx hb dX9_placeFor_172 (by decide) ?_
  refine lv_iload hx hb dX9_placeFor_174 (lv_at hl 0 rfl) ?_
  refine lv_iadd hx hb dX9_placeFor_176 ?_
  refine tpi (y := 36) (by decide) ?_
  refine va_iald hx hb hK.1 hP 1 0 rfl rfl (vin_c _ _ rfl) dX9_placeFor_177 ?_
  refine tpi (y := 0) ((z_all _ (cl_lt (vin_c _ _ rfl))).trans (by decide +kernel)) ?_
  refine lv_aload_n hx hb dX9_placeFor_178 rfl (lv_at hl 2 rfl) ?_
  refine va_get (D := D) (ci := 9) (v := .ref m_all) (C := RX9) (T := TX9) (N := 25) hx hb hu in_X9 hown hK.1 hP 0 rfl rfl 1 (by decide) (hu _ u_1081) (fun _ h9 => h9) rfl dX9_placeFor_179 ?_
  refine lv_bipush (v := 31) hx hb dX9_placeFor_182 (by decide) ?_
  refine lv_iload hx hb dX9_placeFor_184 (lv_at hl 1 rfl) ?_
  refine lv_iadd hx hb dX9_placeFor_186 ?_
  refine tpi (y := 31) (by decide) ?_
  refine va_iald hx hb hK.1 hP 1 0 rfl rfl (vin_c _ _ rfl) dX9_placeFor_187 ?_
  refine tpi (y := 0) ((z_all _ (cl_lt (vin_c _ _ rfl))).trans (by decide +kernel)) ?_
  refine lv_icmp_ge (tgt := 195) hx hb dX9_placeFor_188 (by decide) (fun c_228 => ?_) (fun c_228 => absurd (by decide) c_228)
  refine lv_iinc (v := 6) (lv' := [(5, .int 6), (4, .int 0), (0, .ref md), (1, .int x), (2, .int (-1)), (3, .int 2)]) hx hb dX9_placeFor_195 hl (k := 0) rfl (by decide) (by decide) rfl (fun ls hl => ?_)
  refine lv_goto (tgt := 140) hx hb dX9_placeFor_198 (by decide) ?_
  refine lv_iload hx hb dX9_placeFor_140 (lv_at hl 0 rfl) ?_
  refine lv_bipush (v := 24) hx hb dX9_placeFor_142 (by decide) ?_
  refine lv_icmp_ge (tgt := 201) hx hb dX9_placeFor_144 (by decide) (fun c_229 => absurd c_229 (by decide)) (fun c_229 => ?_)
  refine lv_aload_n hx hb dX9_placeFor_147 rfl (lv_at hl 2 rfl) ?_
  refine lv_iload hx hb dX9_placeFor_148 (lv_at hl 0 rfl) ?_
  refine kV_i (ci := 9) (As := [.int 6]) (rest := []) (wc := [(md, .inr (9, [.int th, .ref m_all, .ref m_deeds, .ref m_trial, .int dm, .ref m_hasImage, .ref m_tape, .ref m_key, .ref m_answered, .int 0, .int 0, .int 0, .ref m_goes, .int sw, .ref m_hotOnes, .ref m_indexed, .ref m_isChanged, .int 0, .ref m_valueNow, .int 0, .int (-1), .int 0, .ref m_didSome, .ref m_sizes, .ref m_ends])), (m_all, aI cs 51207 f_m_all)]) (wr := []) hx hb hml hown hu hK hP hD hS hA hl.1 (c_X9_isFree l D cs H.size 6 md m_all f_m_all m_deeds m_trial m_hasImage m_tape m_key m_answered m_goes m_hotOnes m_indexed m_isChanged m_valueNow m_didSome m_sizes m_ends dm th sw z_all (by first | decide | grind)) (gV u_1188 u_1190 u_13 u_76 u_1191) hd_X9_isFree ⟨(Nat.le_of_ble_eq_true rfl), (Nat.le_of_ble_eq_true rfl)⟩ [0, 1] [] rfl rfl rfl rfl (by decide) rfl 0 rfl rfl rfl (Nat.le_of_ble_eq_true rfl) dX9_placeFor_150 ⟨(Nat.le_of_ble_eq_true rfl), (Nat.le_of_ble_eq_true rfl)⟩ (fun r_230 ut_231 H locs hw_232 hP hD hS => ?_)
  have hP : va_P D vwCl [(md, .inr (9, [.int th, .ref m_all, .ref m_deeds, .ref m_trial, .int dm, .ref m_hasImage, .ref m_tape, .ref m_key, .ref m_answered, .int 0, .int 0, .int 0, .ref m_goes, .int sw, .ref m_hotOnes, .ref m_indexed, .ref m_isChanged, .int 0, .ref m_valueNow, .int 0, .int (-1), .int 0, .ref m_didSome, .ref m_sizes, .ref m_ends])), (m_all, aI cs 51207 f_m_all)] H := hP
  have hD : va_D A [(md, .inr (9, [.int th, .ref m_all, .ref m_deeds, .ref m_trial, .int dm, .ref m_hasImage, .ref m_tape, .ref m_key, .ref m_answered, .int 0, .int 0, .int 0, .ref m_goes, .int sw, .ref m_hotOnes, .ref m_indexed, .ref m_isChanged, .int 0, .ref m_valueNow, .int 0, .int (-1), .int 0, .ref m_didSome, .ref m_sizes, .ref m_ends])), (m_all, aI cs 51207 f_m_all)] := hD
  have er_233 := hw_232
  subst er_233
  refine lv_if_eq (tgt := 195) hx hb dX9_placeFor_153 (by decide) (fun c_234 => absurd c_234 (by decide)) (fun c_234 => ?_)
  refine lv_iload hx hb dX9_placeFor_156 (lv_at hl 0 rfl) ?_
  refine lv_iload_n hx hb dX9_placeFor_158 rfl (lv_at hl 4 rfl) ?_
  refine lv_icmp_eq (tgt := 195) hx hb dX9_placeFor_159 (by decide) (fun c_235 => absurd c_235 (by decide)) (fun c_235 => ?_)
  refine lv_iload hx hb dX9_placeFor_162 (lv_at hl 1 rfl) ?_
  refine lv_iconst (v := (-1)) hx hb dX9_placeFor_164 (by decide) ?_
  refine lv_icmp_eq (tgt := 191) hx hb dX9_placeFor_165 (by decide) (fun c_236 => absurd c_236 (by decide)) (fun c_236 => ?_)
  refine lv_aload_n hx hb dX9_placeFor_168 rfl (lv_at hl 2 rfl) ?_
  refine va_get (D := D) (ci := 9) (v := .ref m_all) (C := RX9) (T := TX9) (N := 25) hx hb hu in_X9 hown hK.1 hP 0 rfl rfl 1 (by decide) (hu _ u_1081) (fun _ h9 => h9) rfl dX9_placeFor_169 ?_
  refine lv_bipush (v := 31) hx hb dX9_placeFor_172 (by decide) ?_
  refine lv_iload hx hb dX9_placeFor_174 (lv_at hl 0 rfl) ?_
  refine lv_iadd hx hb dX9_placeFor_176 ?_
  refine tpi (y := 37) (by decide) ?_
  refine va_iald hx hb hK.1 hP 1 0 rfl rfl (vin_c _ _ rfl) dX9_placeFor_177 ?_
  refine tpi (y := 0) ((z_all _ (cl_lt (vin_c _ _ rfl))).trans (by decide +kernel)) ?_
  refine lv_aload_n hx hb dX9_placeFor_178 rfl (lv_at hl 2 rfl) ?_
  refine va_get (D := D) (ci := 9) (v := .ref m_all) (C := RX9) (T := TX9) (N := 25) hx hb hu in_X9 hown hK.1 hP 0 rfl rfl 1 (by decide) (hu _ u_1081) (fun _ h9 => h9) rfl dX9_placeFor_179 ?_
  refine lv_bipush (v := 31) hx hb dX9_placeFor_182 (by decide) ?_
  refine lv_iload hx hb dX9_placeFor_184 (lv_at hl 1 rfl) ?_
  refine lv_iadd hx hb dX9_placeFor_186 ?_
  refine tpi (y := 31) (by decide) ?_
  refine va_iald hx hb hK.1 hP 1 0 rfl rfl (vin_c _ _ rfl) dX9_placeFor_187 ?_
  refine tpi (y := 0) ((z_all _ (cl_lt (vin_c _ _ rfl))).trans (by decide +kernel)) ?_
  refine lv_icmp_ge (tgt := 195) hx hb dX9_placeFor_188 (by decide) (fun c_237 => ?_) (fun c_237 => absurd (by decide) c_237)
  refine lv_iinc (v := 7) (lv' := [(5, .int 7), (4, .int 0), (0, .ref md), (1, .int x), (2, .int (-1)), (3, .int 2)]) hx hb dX9_placeFor_195 hl (k := 0) rfl (by decide) (by decide) rfl (fun ls hl => ?_)
  refine lv_goto (tgt := 140) hx hb dX9_placeFor_198 (by decide) ?_
  refine lv_iload hx hb dX9_placeFor_140 (lv_at hl 0 rfl) ?_
  refine lv_bipush (v := 24) hx hb dX9_placeFor_142 (by decide) ?_
  refine lv_icmp_ge (tgt := 201) hx hb dX9_placeFor_144 (by decide) (fun c_238 => absurd c_238 (by decide)) (fun c_238 => ?_)
  refine lv_aload_n hx hb dX9_placeFor_147 rfl (lv_at hl 2 rfl) ?_
  refine lv_iload hx hb dX9_placeFor_148 (lv_at hl 0 rfl) ?_
  refine kV_i (ci := 9) (As := [.int 7]) (rest := []) (wc := [(md, .inr (9, [.int th, .ref m_all, .ref m_deeds, .ref m_trial, .int dm, .ref m_hasImage, .ref m_tape, .ref m_key, .ref m_answered, .int 0, .int 0, .int 0, .ref m_goes, .int sw, .ref m_hotOnes, .ref m_indexed, .ref m_isChanged, .int 0, .ref m_valueNow, .int 0, .int (-1), .int 0, .ref m_didSome, .ref m_sizes, .ref m_ends])), (m_all, aI cs 51207 f_m_all)]) (wr := []) hx hb hml hown hu hK hP hD hS hA hl.1 (c_X9_isFree l D cs H.size 7 md m_all f_m_all m_deeds m_trial m_hasImage m_tape m_key m_answered m_goes m_hotOnes m_indexed m_isChanged m_valueNow m_didSome m_sizes m_ends dm th sw z_all (by first | decide | grind)) (gV u_1188 u_1190 u_13 u_76 u_1191) hd_X9_isFree ⟨(Nat.le_of_ble_eq_true rfl), (Nat.le_of_ble_eq_true rfl)⟩ [0, 1] [] rfl rfl rfl rfl (by decide) rfl 0 rfl rfl rfl (Nat.le_of_ble_eq_true rfl) dX9_placeFor_150 ⟨(Nat.le_of_ble_eq_true rfl), (Nat.le_of_ble_eq_true rfl)⟩ (fun r_239 ut_240 H locs hw_241 hP hD hS => ?_)
  have hP : va_P D vwCl [(md, .inr (9, [.int th, .ref m_all, .ref m_deeds, .ref m_trial, .int dm, .ref m_hasImage, .ref m_tape, .ref m_key, .ref m_answered, .int 0, .int 0, .int 0, .ref m_goes, .int sw, .ref m_hotOnes, .ref m_indexed, .ref m_isChanged, .int 0, .ref m_valueNow, .int 0, .int (-1), .int 0, .ref m_didSome, .ref m_sizes, .ref m_ends])), (m_all, aI cs 51207 f_m_all)] H := hP
  have hD : va_D A [(md, .inr (9, [.int th, .ref m_all, .ref m_deeds, .ref m_trial, .int dm, .ref m_hasImage, .ref m_tape, .ref m_key, .ref m_answered, .int 0, .int 0, .int 0, .ref m_goes, .int sw, .ref m_hotOnes, .ref m_indexed, .ref m_isChanged, .int 0, .ref m_valueNow, .int 0, .int (-1), .int 0, .ref m_didSome, .ref m_sizes, .ref m_ends])), (m_all, aI cs 51207 f_m_all)] := hD
  have er_242 := hw_241
  subst er_242
  refine lv_if_eq (tgt := 195) hx hb dX9_placeFor_153 (by decide) (fun c_243 => absurd c_243 (by decide)) (fun c_243 => ?_)
  refine lv_iload hx hb dX9_placeFor_156 (lv_at hl 0 rfl) ?_
  refine lv_iload_n hx hb dX9_placeFor_158 rfl (lv_at hl 4 rfl) ?_
  refine lv_icmp_eq (tgt := 195) hx hb dX9_placeFor_159 (by decide) (fun c_244 => absurd c_244 (by decide)) (fun c_244 => ?_)
  refine lv_iload hx hb dX9_placeFor_162 (lv_at hl 1 rfl) ?_
  refine lv_iconst (v := (-1)) hx hb dX9_placeFor_164 (by decide) ?_
  refine lv_icmp_eq (tgt := 191) hx hb dX9_placeFor_165 (by decide) (fun c_245 => absurd c_245 (by decide)) (fun c_245 => ?_)
  refine lv_aload_n hx hb dX9_placeFor_168 rfl (lv_at hl 2 rfl) ?_
  refine va_get (D := D) (ci := 9) (v := .ref m_all) (C := RX9) (T := TX9) (N := 25) hx hb hu in_X9 hown hK.1 hP 0 rfl rfl 1 (by decide) (hu _ u_1081) (fun _ h9 => h9) rfl dX9_placeFor_169 ?_
  refine lv_bipush (v := 31) hx hb dX9_placeFor_172 (by decide) ?_
  refine lv_iload hx hb dX9_placeFor_174 (lv_at hl 0 rfl) ?_
  refine lv_iadd hx hb dX9_placeFor_176 ?_
  refine tpi (y := 38) (by decide) ?_
  refine va_iald hx hb hK.1 hP 1 0 rfl rfl (vin_c _ _ rfl) dX9_placeFor_177 ?_
  refine tpi (y := 0) ((z_all _ (cl_lt (vin_c _ _ rfl))).trans (by decide +kernel)) ?_
  refine lv_aload_n hx hb dX9_placeFor_178 rfl (lv_at hl 2 rfl) ?_
  refine va_get (D := D) (ci := 9) (v := .ref m_all) (C := RX9) (T := TX9) (N := 25) hx hb hu in_X9 hown hK.1 hP 0 rfl rfl 1 (by decide) (hu _ u_1081) (fun _ h9 => h9) rfl dX9_placeFor_179 ?_
  refine lv_bipush (v := 31) hx hb dX9_placeFor_182 (by decide) ?_
  refine lv_iload hx hb dX9_placeFor_184 (lv_at hl 1 rfl) ?_
  refine lv_iadd hx hb dX9_placeFor_186 ?_
  refine tpi (y := 31) (by decide) ?_
  refine va_iald hx hb hK.1 hP 1 0 rfl rfl (vin_c _ _ rfl) dX9_placeFor_187 ?_
  refine tpi (y := 0) ((z_all _ (cl_lt (vin_c _ _ rfl))).trans (by decide +kernel)) ?_
  refine lv_icmp_ge (tgt := 195) hx hb dX9_placeFor_188 (by decide) (fun c_246 => ?_) (fun c_246 => absurd (by decide) c_246)
  refine lv_iinc (v := 8) (lv' := [(5, .int 8), (4, .int 0), (0, .ref md), (1, .int x), (2, .int (-1)), (3, .int 2)]) hx hb dX9_placeFor_195 hl (k := 0) rfl (by decide) (by decide) rfl (fun ls hl => ?_)
  refine lv_goto (tgt := 140) hx hb dX9_placeFor_198 (by decide) ?_
  refine lv_iload hx hb dX9_placeFor_140 (lv_at hl 0 rfl) ?_
  refine lv_bipush (v := 24) hx hb dX9_placeFor_142 (by decide) ?_
  refine lv_icmp_ge (tgt := 201) hx hb dX9_placeFor_144 (by decide) (fun c_247 => absurd c_247 (by decide)) (fun c_247 => ?_)
  refine lv_aload_n hx hb dX9_placeFor_147 rfl (lv_at hl 2 rfl) ?_
  refine lv_iload hx hb dX9_placeFor_148 (lv_at hl 0 rfl) ?_
  refine kV_i (ci := 9) (As := [.int 8]) (rest := []) (wc := [(md, .inr (9, [.int th, .ref m_all, .ref m_deeds, .ref m_trial, .int dm, .ref m_hasImage, .ref m_tape, .ref m_key, .ref m_answered, .int 0, .int 0, .int 0, .ref m_goes, .int sw, .ref m_hotOnes, .ref m_indexed, .ref m_isChanged, .int 0, .ref m_valueNow, .int 0, .int (-1), .int 0, .ref m_didSome, .ref m_sizes, .ref m_ends])), (m_all, aI cs 51207 f_m_all)]) (wr := []) hx hb hml hown hu hK hP hD hS hA hl.1 (c_X9_isFree l D cs H.size 8 md m_all f_m_all m_deeds m_trial m_hasImage m_tape m_key m_answered m_goes m_hotOnes m_indexed m_isChanged m_valueNow m_didSome m_sizes m_ends dm th sw z_all (by first | decide | grind)) (gV u_1188 u_1190 u_13 u_76 u_1191) hd_X9_isFree ⟨(Nat.le_of_ble_eq_true rfl), (Nat.le_of_ble_eq_true rfl)⟩ [0, 1] [] rfl rfl rfl rfl (by decide) rfl 0 rfl rfl rfl (Nat.le_of_ble_eq_true rfl) dX9_placeFor_150 ⟨(Nat.le_of_ble_eq_true rfl), (Nat.le_of_ble_eq_true rfl)⟩ (fun r_248 ut_249 H locs hw_250 hP hD hS => ?_)
  have hP : va_P D vwCl [(md, .inr (9, [.int th, .ref m_all, .ref m_deeds, .ref m_trial, .int dm, .ref m_hasImage, .ref m_tape, .ref m_key, .ref m_answered, .int 0, .int 0, .int 0, .ref m_goes, .int sw, .ref m_hotOnes, .ref m_indexed, .ref m_isChanged, .int 0, .ref m_valueNow, .int 0, .int (-1), .int 0, .ref m_didSome, .ref m_sizes, .ref m_ends])), (m_all, aI cs 51207 f_m_all)] H := hP
  have hD : va_D A [(md, .inr (9, [.int th, .ref m_all, .ref m_deeds, .ref m_trial, .int dm, .ref m_hasImage, .ref m_tape, .ref m_key, .ref m_answered, .int 0, .int 0, .int 0, .ref m_goes, .int sw, .ref m_hotOnes, .ref m_indexed, .ref m_isChanged, .int 0, .ref m_valueNow, .int 0, .int (-1), .int 0, .ref m_didSome, .ref m_sizes, .ref m_ends])), (m_all, aI cs 51207 f_m_all)] := hD
  have er_251 := hw_250
  subst er_251
  refine lv_if_eq (tgt := 195) hx hb dX9_placeFor_153 (by decide) (fun c_252 => absurd c_252 (by decide)) (fun c_252 => ?_)
  refine lv_iload hx hb dX9_placeFor_156 (lv_at hl 0 rfl) ?_
  refine lv_iload_n hx hb dX9_placeFor_158 rfl (lv_at hl 4 rfl) ?_
  refine lv_icmp_eq (tgt := 195) hx hb dX9_placeFor_159 (by decide) (fun c_253 => absurd c_253 (by decide)) (fun c_253 => ?_)
  refine lv_iload hx hb dX9_placeFor_162 (lv_at hl 1 rfl) ?_
  refine lv_iconst (v := (-1)) hx hb dX9_placeFor_164 (by decide) ?_
  refine lv_icmp_eq (tgt := 191) hx hb dX9_placeFor_165 (by decide) (fun c_254 => absurd c_254 (by decide)) (fun c_254 => ?_)
  refine lv_aload_n hx hb dX9_placeFor_168 rfl (lv_at hl 2 rfl) ?_
  refine va_get (D := D) (ci := 9) (v := .ref m_all) (C := RX9) (T := TX9) (N := 25) hx hb hu in_X9 hown hK.1 hP 0 rfl rfl 1 (by decide) (hu _ u_1081) (fun _ h9 => h9) rfl dX9_placeFor_169 ?_
  refine lv_bipush (v := 31) hx hb dX9_placeFor_172 (by decide) ?_
  refine lv_iload hx hb dX9_placeFor_174 (lv_at hl 0 rfl) ?_
  refine lv_iadd hx hb dX9_placeFor_176 ?_
  refine tpi (y := 39) (by decide) ?_
  refine va_iald hx hb hK.1 hP 1 0 rfl rfl (vin_c _ _ rfl) dX9_placeFor_177 ?_
  refine tpi (y := 0) ((z_all _ (cl_lt (vin_c _ _ rfl))).trans (by decide +kernel)) ?_
  refine lv_aload_n hx hb dX9_placeFor_178 rfl (lv_at hl 2 rfl) ?_
  refine va_get (D := D) (ci := 9) (v := .ref m_all) (C := RX9) (T := TX9) (N := 25) hx hb hu in_X9 hown hK.1 hP 0 rfl rfl 1 (by decide) (hu _ u_1081) (fun _ h9 => h9) rfl dX9_placeFor_179 ?_
  refine lv_bipush (v := 31) hx hb dX9_placeFor_182 (by decide) ?_
  refine lv_iload hx hb dX9_placeFor_184 (lv_at hl 1 rfl) ?_
  refine lv_iadd hx hb dX9_placeFor_186 ?_
  refine tpi (y := 31) (by decide) ?_
  refine va_iald hx hb hK.1 hP 1 0 rfl rfl (vin_c _ _ rfl) dX9_placeFor_187 ?_
  refine tpi (y := 0) ((z_all _ (cl_lt (vin_c _ _ rfl))).trans (by decide +kernel)) ?_
  refine lv_icmp_ge (tgt := 195) hx hb dX9_placeFor_188 (by decide) (fun c_255 => ?_) (fun c_255 => absurd (by decide) c_255)
  refine lv_iinc (v := 9) (lv' := [(5, .int 9), (4, .int 0), (0, .ref md), (1, .int x), (2, .int (-1)), (3, .int 2)]) hx hb dX9_placeFor_195 hl (k := 0) rfl (by decide) (by decide) rfl (fun ls hl => ?_)
  refine lv_goto (tgt := 140) hx hb dX9_placeFor_198 (by decide) ?_
  refine lv_iload hx hb dX9_placeFor_140 (lv_at hl 0 rfl) ?_
  refine lv_bipush (v := 24) hx hb dX9_placeFor_142 (by decide) ?_
  refine lv_icmp_ge (tgt := 201) hx hb dX9_placeFor_144 (by decide) (fun c_256 => absurd c_256 (by decide)) (fun c_256 => ?_)
  refine lv_aload_n hx hb dX9_placeFor_147 rfl (lv_at hl 2 rfl) ?_
  refine lv_iload hx hb dX9_placeFor_148 (lv_at hl 0 rfl) ?_
  refine kV_i (ci := 9) (As := [.int 9]) (rest := []) (wc := [(md, .inr (9, [.int th, .ref m_all, .ref m_deeds, .ref m_trial, .int dm, .ref m_hasImage, .ref m_tape, .ref m_key, .ref m_answered, .int 0, .int 0, .int 0, .ref m_goes, .int sw, .ref m_hotOnes, .ref m_indexed, .ref m_isChanged, .int 0, .ref m_valueNow, .int 0, .int (-1), .int 0, .ref m_didSome, .ref m_sizes, .ref m_ends])), (m_all, aI cs 51207 f_m_all)]) (wr := []) hx hb hml hown hu hK hP hD hS hA hl.1 (c_X9_isFree l D cs H.size 9 md m_all f_m_all m_deeds m_trial m_hasImage m_tape m_key m_answered m_goes m_hotOnes m_indexed m_isChanged m_valueNow m_didSome m_sizes m_ends dm th sw z_all (by first | decide | grind)) (gV u_1188 u_1190 u_13 u_76 u_1191) hd_X9_isFree ⟨(Nat.le_of_ble_eq_true rfl), (Nat.le_of_ble_eq_true rfl)⟩ [0, 1] [] rfl rfl rfl rfl (by decide) rfl 0 rfl rfl rfl (Nat.le_of_ble_eq_true rfl) dX9_placeFor_150 ⟨(Nat.le_of_ble_eq_true rfl), (Nat.le_of_ble_eq_true rfl)⟩ (fun r_257 ut_258 H locs hw_259 hP hD hS => ?_)
  have hP : va_P D vwCl [(md, .inr (9, [.int th, .ref m_all, .ref m_deeds, .ref m_trial, .int dm, .ref m_hasImage, .ref m_tape, .ref m_key, .ref m_answered, .int 0, .int 0, .int 0, .ref m_goes, .int sw, .ref m_hotOnes, .ref m_indexed, .ref m_isChanged, .int 0, .ref m_valueNow, .int 0, .int (-1), .int 0, .ref m_didSome, .ref m_sizes, .ref m_ends])), (m_all, aI cs 51207 f_m_all)] H := hP
  have hD : va_D A [(md, .inr (9, [.int th, .ref m_all, .ref m_deeds, .ref m_trial, .int dm, .ref m_hasImage, .ref m_tape, .ref m_key, .ref m_answered, .int 0, .int 0, .int 0, .ref m_goes, .int sw, .ref m_hotOnes, .ref m_indexed, .ref m_isChanged, .int 0, .ref m_valueNow, .int 0, .int (-1), .int 0, .ref m_didSome, .ref m_sizes, .ref m_ends])), (m_all, aI cs 51207 f_m_all)] := hD
  have er_260 := hw_259
  subst er_260
  refine lv_if_eq (tgt := 195) hx hb dX9_placeFor_153 (by decide) (fun c_261 => absurd c_261 (by decide)) (fun c_261 => ?_)
  refine lv_iload hx hb dX9_placeFor_156 (lv_at hl 0 rfl) ?_
  refine lv_iload_n hx hb dX9_placeFor_158 rfl (lv_at hl 4 rfl) ?_
  refine lv_icmp_eq (tgt := 195) hx hb dX9_placeFor_159 (by decide) (fun c_262 => absurd c_262 (by decide)) (fun c_262 => ?_)
  refine lv_iload hx hb dX9_placeFor_162 (lv_at hl 1 rfl) ?_
  refine lv_iconst (v := (-1)) hx hb dX9_placeFor_164 (by decide) ?_
  refine lv_icmp_eq (tgt := 191) hx hb dX9_placeFor_165 (by decide) (fun c_263 => absurd c_263 (by decide)) (fun c_263 => ?_)
  refine lv_aload_n hx hb dX9_placeFor_168 rfl (lv_at hl 2 rfl) ?_
  refine va_get (D := D) (ci := 9) (v := .ref m_all) (C := RX9) (T := TX9) (N := 25) hx hb hu in_X9 hown hK.1 hP 0 rfl rfl 1 (by decide) (hu _ u_1081) (fun _ h9 => h9) rfl dX9_placeFor_169 ?_
  refine lv_bipush (v := 31) hx hb dX9_placeFor_172 (by decide) ?_
  refine lv_iload hx hb dX9_placeFor_174 (lv_at hl 0 rfl) ?_
  refine lv_iadd hx hb dX9_placeFor_176 ?_
  refine tpi (y := 40) (by decide) ?_
  refine va_iald hx hb hK.1 hP 1 0 rfl rfl (vin_c _ _ rfl) dX9_placeFor_177 ?_
  refine tpi (y := 0) ((z_all _ (cl_lt (vin_c _ _ rfl))).trans (by decide +kernel)) ?_
  refine lv_aload_n hx hb dX9_placeFor_178 rfl (lv_at hl 2 rfl) ?_
  refine va_get (D := D) (ci := 9) (v := .ref m_all) (C := RX9) (T := TX9) (N := 25) hx hb hu in_X9 hown hK.1 hP 0 rfl rfl 1 (by decide) (hu _ u_1081) (fun _ h9 => h9) rfl dX9_placeFor_179 ?_
  refine lv_bipush (v := 31) hx hb dX9_placeFor_182 (by decide) ?_
  refine lv_iload hx hb dX9_placeFor_184 (lv_at hl 1 rfl) ?_
  refine lv_iadd hx hb dX9_placeFor_186 ?_
  refine tpi (y := 31) (by decide) ?_
  refine va_iald hx hb hK.1 hP 1 0 rfl rfl (vin_c _ _ rfl) dX9_placeFor_187 ?_
  refine tpi (y := 0) ((z_all _ (cl_lt (vin_c _ _ rfl))).trans (by decide +kernel)) ?_
  refine lv_icmp_ge (tgt := 195) hx hb dX9_placeFor_188 (by decide) (fun c_264 => ?_) (fun c_264 => absurd (by decide) c_264)
  refine lv_iinc (v := 10) (lv' := [(5, .int 10), (4, .int 0), (0, .ref md), (1, .int x), (2, .int (-1)), (3, .int 2)]) hx hb dX9_placeFor_195 hl (k := 0) rfl (by decide) (by decide) rfl (fun ls hl => ?_)
  refine lv_goto (tgt := 140) hx hb dX9_placeFor_198 (by decide) ?_
  refine lv_iload hx hb dX9_placeFor_140 (lv_at hl 0 rfl) ?_
  refine lv_bipush (v := 24) hx hb dX9_placeFor_142 (by decide) ?_
  refine lv_icmp_ge (tgt := 201) hx hb dX9_placeFor_144 (by decide) (fun c_265 => absurd c_265 (by decide)) (fun c_265 => ?_)
  refine lv_aload_n hx hb dX9_placeFor_147 rfl (lv_at hl 2 rfl) ?_
  refine lv_iload hx hb dX9_placeFor_148 (lv_at hl 0 rfl) ?_
  refine kV_i (ci := 9) (As := [.int 10]) (rest := []) (wc := [(md, .inr (9, [.int th, .ref m_all, .ref m_deeds, .ref m_trial, .int dm, .ref m_hasImage, .ref m_tape, .ref m_key, .ref m_answered, .int 0, .int 0, .int 0, .ref m_goes, .int sw, .ref m_hotOnes, .ref m_indexed, .ref m_isChanged, .int 0, .ref m_valueNow, .int 0, .int (-1), .int 0, .ref m_didSome, .ref m_sizes, .ref m_ends])), (m_all, aI cs 51207 f_m_all)]) (wr := []) hx hb hml hown hu hK hP hD hS hA hl.1 (c_X9_isFree l D cs H.size 10 md m_all f_m_all m_deeds m_trial m_hasImage m_tape m_key m_answered m_goes m_hotOnes m_indexed m_isChanged m_valueNow m_didSome m_sizes m_ends dm th sw z_all (by first | decide | grind)) (gV u_1188 u_1190 u_13 u_76 u_1191) hd_X9_isFree ⟨(Nat.le_of_ble_eq_true rfl), (Nat.le_of_ble_eq_true rfl)⟩ [0, 1] [] rfl rfl rfl rfl (by decide) rfl 0 rfl rfl rfl (Nat.le_of_ble_eq_true rfl) dX9_placeFor_150 ⟨(Nat.le_of_ble_eq_true rfl), (Nat.le_of_ble_eq_true rfl)⟩ (fun r_266 ut_267 H locs hw_268 hP hD hS => ?_)
  have hP : va_P D vwCl [(md, .inr (9, [.int th, .ref m_all, .ref m_deeds, .ref m_trial, .int dm, .ref m_hasImage, .ref m_tape, .ref m_key, .ref m_answered, .int 0, .int 0, .int 0, .ref m_goes, .int sw, .ref m_hotOnes, .ref m_indexed, .ref m_isChanged, .int 0, .ref m_valueNow, .int 0, .int (-1), .int 0, .ref m_didSome, .ref m_sizes, .ref m_ends])), (m_all, aI cs 51207 f_m_all)] H := hP
  have hD : va_D A [(md, .inr (9, [.int th, .ref m_all, .ref m_deeds, .ref m_trial, .int dm, .ref m_hasImage, .ref m_tape, .ref m_key, .ref m_answered, .int 0, .int 0, .int 0, .ref m_goes, .int sw, .ref m_hotOnes, .ref m_indexed, .ref m_isChanged, .int 0, .ref m_valueNow, .int 0, .int (-1), .int 0, .ref m_didSome, .ref m_sizes, .ref m_ends])), (m_all, aI cs 51207 f_m_all)] := hD
  have er_269 := hw_268
  subst er_269
  refine lv_if_eq (tgt := 195) hx hb dX9_placeFor_153 (by decide) (fun c_270 => absurd c_270 (by decide)) (fun c_270 => ?_)
  refine lv_iload hx hb dX9_placeFor_156 (lv_at hl 0 rfl) ?_
  refine lv_iload_n hx hb dX9_placeFor_158 rfl (lv_at hl 4 rfl) ?_
  refine lv_icmp_eq (tgt := 195) hx hb dX9_placeFor_159 (by decide) (fun c_271 => absurd c_271 (by decide)) (fun c_271 => ?_)
  refine lv_iload hx hb dX9_placeFor_162 (lv_at hl 1 rfl) ?_
  refine lv_iconst (v := (-1)) hx hb dX9_placeFor_164 (by decide) ?_
  refine lv_icmp_eq (tgt := 191) hx hb dX9_placeFor_165 (by decide) (fun c_272 => absurd c_272 (by decide)) (fun c_272 => ?_)
  refine lv_aload_n hx hb dX9_placeFor_168 rfl (lv_at hl 2 rfl) ?_
  refine va_get (D := D) (ci := 9) (v := .ref m_all) (C := RX9) (T := TX9) (N := 25) hx hb hu in_X9 hown hK.1 hP 0 rfl rfl 1 (by decide) (hu _ u_1081) (fun _ h9 => h9) rfl dX9_placeFor_169 ?_
  refine lv_bipush (v := 31) hx hb dX9_placeFor_172 (by decide) ?_
  refine lv_iload hx hb dX9_placeFor_174 (lv_at hl 0 rfl) ?_
  refine lv_iadd hx hb dX9_placeFor_176 ?_
  refine tpi (y := 41) (by decide) ?_
  refine va_iald hx hb hK.1 hP 1 0 rfl rfl (vin_c _ _ rfl) dX9_placeFor_177 ?_
  refine tpi (y := 0) ((z_all _ (cl_lt (vin_c _ _ rfl))).trans (by decide +kernel)) ?_
  refine lv_aload_n hx hb dX9_placeFor_178 rfl (lv_at hl 2 rfl) ?_
  refine va_get (D := D) (ci := 9) (v := .ref m_all) (C := RX9) (T := TX9) (N := 25) hx hb hu in_X9 hown hK.1 hP 0 rfl rfl 1 (by decide) (hu _ u_1081) (fun _ h9 => h9) rfl dX9_placeFor_179 ?_
  refine lv_bipush (v := 31) hx hb dX9_placeFor_182 (by decide) ?_
  refine lv_iload hx hb dX9_placeFor_184 (lv_at hl 1 rfl) ?_
  refine lv_iadd hx hb dX9_placeFor_186 ?_
  refine tpi (y := 31) (by decide) ?_
  refine va_iald hx hb hK.1 hP 1 0 rfl rfl (vin_c _ _ rfl) dX9_placeFor_187 ?_
  refine tpi (y := 0) ((z_all _ (cl_lt (vin_c _ _ rfl))).trans (by decide +kernel)) ?_
  refine lv_icmp_ge (tgt := 195) hx hb dX9_placeFor_188 (by decide) (fun c_273 => ?_) (fun c_273 => absurd (by decide) c_273)
  refine lv_iinc (v := 11) (lv' := [(5, .int 11), (4, .int 0), (0, .ref md), (1, .int x), (2, .int (-1)), (3, .int 2)]) hx hb dX9_placeFor_195 hl (k := 0) rfl (by decide) (by decide) rfl (fun ls hl => ?_)
  refine lv_goto (tgt := 140) hx hb dX9_placeFor_198 (by decide) ?_
  refine lv_iload hx hb dX9_placeFor_140 (lv_at hl 0 rfl) ?_
  refine lv_bipush (v := 24) hx hb dX9_placeFor_142 (by decide) ?_
  refine lv_icmp_ge (tgt := 201) hx hb dX9_placeFor_144 (by decide) (fun c_274 => absurd c_274 (by decide)) (fun c_274 => ?_)
  refine lv_aload_n hx hb dX9_placeFor_147 rfl (lv_at hl 2 rfl) ?_
  refine lv_iload hx hb dX9_placeFor_148 (lv_at hl 0 rfl) ?_
  refine kV_i (ci := 9) (As := [.int 11]) (rest := []) (wc := [(md, .inr (9, [.int th, .ref m_all, .ref m_deeds, .ref m_trial, .int dm, .ref m_hasImage, .ref m_tape, .ref m_key, .ref m_answered, .int 0, .int 0, .int 0, .ref m_goes, .int sw, .ref m_hotOnes, .ref m_indexed, .ref m_isChanged, .int 0, .ref m_valueNow, .int 0, .int (-1), .int 0, .ref m_didSome, .ref m_sizes, .ref m_ends])), (m_all, aI cs 51207 f_m_all)]) (wr := []) hx hb hml hown hu hK hP hD hS hA hl.1 (c_X9_isFree l D cs H.size 11 md m_all f_m_all m_deeds m_trial m_hasImage m_tape m_key m_answered m_goes m_hotOnes m_indexed m_isChanged m_valueNow m_didSome m_sizes m_ends dm th sw z_all (by first | decide | grind)) (gV u_1188 u_1190 u_13 u_76 u_1191) hd_X9_isFree ⟨(Nat.le_of_ble_eq_true rfl), (Nat.le_of_ble_eq_true rfl)⟩ [0, 1] [] rfl rfl rfl rfl (by decide) rfl 0 rfl rfl rfl (Nat.le_of_ble_eq_true rfl) dX9_placeFor_150 ⟨(Nat.le_of_ble_eq_true rfl), (Nat.le_of_ble_eq_true rfl)⟩ (fun r_275 ut_276 H locs hw_277 hP hD hS => ?_)
  have hP : va_P D vwCl [(md, .inr (9, [.int th, .ref m_all, .ref m_deeds, .ref m_trial, .int dm, .ref m_hasImage, .ref m_tape, .ref m_key, .ref m_answered, .int 0, .int 0, .int 0, .ref m_goes, .int sw, .ref m_hotOnes, .ref m_indexed, .ref m_isChanged, .int 0, .ref m_valueNow, .int 0, .int (-1), .int 0, .ref m_didSome, .ref m_sizes, .ref m_ends])), (m_all, aI cs 51207 f_m_all)] H := hP
  have hD : va_D A [(md, .inr (9, [.int th, .ref m_all, .ref m_deeds, .ref m_trial, .int dm, .ref m_hasImage, .ref m_tape, .ref m_key, .ref m_answered, .int 0, .int 0, .int 0, .ref m_goes, .int sw, .ref m_hotOnes, .ref m_indexed, .ref m_isChanged, .int 0, .ref m_valueNow, .int 0, .int (-1), .int 0, .ref m_didSome, .ref m_sizes, .ref m_ends])), (m_all, aI cs 51207 f_m_all)] := hD
  have er_278 := hw_277
  subst er_278
  refine lv_if_eq (tgt := 195) hx hb dX9_placeFor_153 (by decide) (fun c_279 => absurd c_279 (by decide)) (fun c_279 => ?_)
  refine lv_iload hx hb dX9_placeFor_156 (lv_at hl 0 rfl) ?_
  refine lv_iload_n hx hb dX9_placeFor_158 rfl (lv_at hl 4 rfl) ?_
  refine lv_icmp_eq (tgt := 195) hx hb dX9_placeFor_159 (by decide) (fun c_280 => absurd c_280 (by decide)) (fun c_280 => ?_)
  refine lv_iload hx hb dX9_placeFor_162 (lv_at hl 1 rfl) ?_
  refine lv_iconst (v := (-1)) hx hb dX9_placeFor_164 (by decide) ?_
  refine lv_icmp_eq (tgt := 191) hx hb dX9_placeFor_165 (by decide) (fun c_281 => absurd c_281 (by decide)) (fun c_281 => ?_)
  refine lv_aload_n hx hb dX9_placeFor_168 rfl (lv_at hl 2 rfl) ?_
  refine va_get (D := D) (ci := 9) (v := .ref m_all) (C := RX9) (T := TX9) (N := 25) hx hb hu in_X9 hown hK.1 hP 0 rfl rfl 1 (by decide) (hu _ u_1081) (fun _ h9 => h9) rfl dX9_placeFor_169 ?_
  refine lv_bipush (v := 31) hx hb dX9_placeFor_172 (by decide) ?_
  refine lv_iload hx hb dX9_placeFor_174 (lv_at hl 0 rfl) ?_
  refine lv_iadd hx hb dX9_placeFor_176 ?_
  refine tpi (y := 42) (by decide) ?_
  refine va_iald hx hb hK.1 hP 1 0 rfl rfl (vin_c _ _ rfl) dX9_placeFor_177 ?_
  refine tpi (y := 0) ((z_all _ (cl_lt (vin_c _ _ rfl))).trans (by decide +kernel)) ?_
  refine lv_aload_n hx hb dX9_placeFor_178 rfl (lv_at hl 2 rfl) ?_
  refine va_get (D := D) (ci := 9) (v := .ref m_all) (C := RX9) (T := TX9) (N := 25) hx hb hu in_X9 hown hK.1 hP 0 rfl rfl 1 (by decide) (hu _ u_1081) (fun _ h9 => h9) rfl dX9_placeFor_179 ?_
  refine lv_bipush (v := 31) hx hb dX9_placeFor_182 (by decide) ?_
  refine lv_iload hx hb dX9_placeFor_184 (lv_at hl 1 rfl) ?_
  refine lv_iadd hx hb dX9_placeFor_186 ?_
  refine tpi (y := 31) (by decide) ?_
  refine va_iald hx hb hK.1 hP 1 0 rfl rfl (vin_c _ _ rfl) dX9_placeFor_187 ?_
  refine tpi (y := 0) ((z_all _ (cl_lt (vin_c _ _ rfl))).trans (by decide +kernel)) ?_
  refine lv_icmp_ge (tgt := 195) hx hb dX9_placeFor_188 (by decide) (fun c_282 => ?_) (fun c_282 => absurd (by decide) c_282)
  refine lv_iinc (v := 12) (lv' := [(5, .int 12), (4, .int 0), (0, .ref md), (1, .int x), (2, .int (-1)), (3, .int 2)]) hx hb dX9_placeFor_195 hl (k := 0) rfl (by decide) (by decide) rfl (fun ls hl => ?_)
  refine lv_goto (tgt := 140) hx hb dX9_placeFor_198 (by decide) ?_
  refine lv_iload hx hb dX9_placeFor_140 (lv_at hl 0 rfl) ?_
  refine lv_bipush (v := 24) hx hb dX9_placeFor_142 (by decide) ?_
  refine lv_icmp_ge (tgt := 201) hx hb dX9_placeFor_144 (by decide) (fun c_283 => absurd c_283 (by decide)) (fun c_283 => ?_)
  refine lv_aload_n hx hb dX9_placeFor_147 rfl (lv_at hl 2 rfl) ?_
  refine lv_iload hx hb dX9_placeFor_148 (lv_at hl 0 rfl) ?_
  refine kV_i (ci := 9) (As := [.int 12]) (rest := []) (wc := [(md, .inr (9, [.int th, .ref m_all, .ref m_deeds, .ref m_trial, .int dm, .ref m_hasImage, .ref m_tape, .ref m_key, .ref m_answered, .int 0, .int 0, .int 0, .ref m_goes, .int sw, .ref m_hotOnes, .ref m_indexed, .ref m_isChanged, .int 0, .ref m_valueNow, .int 0, .int (-1), .int 0, .ref m_didSome, .ref m_sizes, .ref m_ends])), (m_all, aI cs 51207 f_m_all)]) (wr := []) hx hb hml hown hu hK hP hD hS hA hl.1 (c_X9_isFree l D cs H.size 12 md m_all f_m_all m_deeds m_trial m_hasImage m_tape m_key m_answered m_goes m_hotOnes m_indexed m_isChanged m_valueNow m_didSome m_sizes m_ends dm th sw z_all (by first | decide | grind)) (gV u_1188 u_1190 u_13 u_76 u_1191) hd_X9_isFree ⟨(Nat.le_of_ble_eq_true rfl), (Nat.le_of_ble_eq_true rfl)⟩ [0, 1] [] rfl rfl rfl rfl (by decide) rfl 0 rfl rfl rfl (Nat.le_of_ble_eq_true rfl) dX9_placeFor_150 ⟨(Nat.le_of_ble_eq_true rfl), (Nat.le_of_ble_eq_true rfl)⟩ (fun r_284 ut_285 H locs hw_286 hP hD hS => ?_)
  have hP : va_P D vwCl [(md, .inr (9, [.int th, .ref m_all, .ref m_deeds, .ref m_trial, .int dm, .ref m_hasImage, .ref m_tape, .ref m_key, .ref m_answered, .int 0, .int 0, .int 0, .ref m_goes, .int sw, .ref m_hotOnes, .ref m_indexed, .ref m_isChanged, .int 0, .ref m_valueNow, .int 0, .int (-1), .int 0, .ref m_didSome, .ref m_sizes, .ref m_ends])), (m_all, aI cs 51207 f_m_all)] H := hP
  have hD : va_D A [(md, .inr (9, [.int th, .ref m_all, .ref m_deeds, .ref m_trial, .int dm, .ref m_hasImage, .ref m_tape, .ref m_key, .ref m_answered, .int 0, .int 0, .int 0, .ref m_goes, .int sw, .ref m_hotOnes, .ref m_indexed, .ref m_isChanged, .int 0, .ref m_valueNow, .int 0, .int (-1), .int 0, .ref m_didSome, .ref m_sizes, .ref m_ends])), (m_all, aI cs 51207 f_m_all)] := hD
  have er_287 := hw_286
  subst er_287
  refine lv_if_eq (tgt := 195) hx hb dX9_placeFor_153 (by decide) (fun c_288 => absurd c_288 (by decide)) (fun c_288 => ?_)
  refine lv_iload hx hb dX9_placeFor_156 (lv_at hl 0 rfl) ?_
  refine lv_iload_n hx hb dX9_placeFor_158 rfl (lv_at hl 4 rfl) ?_
  refine lv_icmp_eq (tgt := 195) hx hb dX9_placeFor_159 (by decide) (fun c_289 => absurd c_289 (by decide)) (fun c_289 => ?_)
  refine lv_iload hx hb dX9_placeFor_162 (lv_at hl 1 rfl) ?_
  refine lv_iconst (v := (-1)) hx hb dX9_placeFor_164 (by decide) ?_
  refine lv_icmp_eq (tgt := 191) hx hb dX9_placeFor_165 (by decide) (fun c_290 => absurd c_290 (by decide)) (fun c_290 => ?_)
  refine lv_aload_n hx hb dX9_placeFor_168 rfl (lv_at hl 2 rfl) ?_
  refine va_get (D := D) (ci := 9) (v := .ref m_all) (C := RX9) (T := TX9) (N := 25) hx hb hu in_X9 hown hK.1 hP 0 rfl rfl 1 (by decide) (hu _ u_1081) (fun _ h9 => h9) rfl dX9_placeFor_169 ?_
  refine lv_bipush (v := 31) hx hb dX9_placeFor_172 (by decide) ?_
  refine lv_iload hx hb dX9_placeFor_174 (lv_at hl 0 rfl) ?_
  refine lv_iadd hx hb dX9_placeFor_176 ?_
  refine tpi (y := 43) (by decide) ?_
  refine va_iald hx hb hK.1 hP 1 0 rfl rfl (vin_c _ _ rfl) dX9_placeFor_177 ?_
  refine tpi (y := 0) ((z_all _ (cl_lt (vin_c _ _ rfl))).trans (by decide +kernel)) ?_
  refine lv_aload_n hx hb dX9_placeFor_178 rfl (lv_at hl 2 rfl) ?_
  refine va_get (D := D) (ci := 9) (v := .ref m_all) (C := RX9) (T := TX9) (N := 25) hx hb hu in_X9 hown hK.1 hP 0 rfl rfl 1 (by decide) (hu _ u_1081) (fun _ h9 => h9) rfl dX9_placeFor_179 ?_
  refine lv_bipush (v := 31) hx hb dX9_placeFor_182 (by decide) ?_
  refine lv_iload hx hb dX9_placeFor_184 (lv_at hl 1 rfl) ?_
  refine lv_iadd hx hb dX9_placeFor_186 ?_
  refine tpi (y := 31) (by decide) ?_
  refine va_iald hx hb hK.1 hP 1 0 rfl rfl (vin_c _ _ rfl) dX9_placeFor_187 ?_
  refine tpi (y := 0) ((z_all _ (cl_lt (vin_c _ _ rfl))).trans (by decide +kernel)) ?_
  refine lv_icmp_ge (tgt := 195) hx hb dX9_placeFor_188 (by decide) (fun c_291 => ?_) (fun c_291 => absurd (by decide) c_291)
  refine lv_iinc (v := 13) (lv' := [(5, .int 13), (4, .int 0), (0, .ref md), (1, .int x), (2, .int (-1)), (3, .int 2)]) hx hb dX9_placeFor_195 hl (k := 0) rfl (by decide) (by decide) rfl (fun ls hl => ?_)
  refine lv_goto (tgt := 140) hx hb dX9_placeFor_198 (by decide) ?_
  refine lv_iload hx hb dX9_placeFor_140 (lv_at hl 0 rfl) ?_
  refine lv_bipush (v := 24) hx hb dX9_placeFor_142 (by decide) ?_
  refine lv_icmp_ge (tgt := 201) hx hb dX9_placeFor_144 (by decide) (fun c_292 => absurd c_292 (by decide)) (fun c_292 => ?_)
  refine lv_aload_n hx hb dX9_placeFor_147 rfl (lv_at hl 2 rfl) ?_
  refine lv_iload hx hb dX9_placeFor_148 (lv_at hl 0 rfl) ?_
  refine kV_i (ci := 9) (As := [.int 13]) (rest := []) (wc := [(md, .inr (9, [.int th, .ref m_all, .ref m_deeds, .ref m_trial, .int dm, .ref m_hasImage, .ref m_tape, .ref m_key, .ref m_answered, .int 0, .int 0, .int 0, .ref m_goes, .int sw, .ref m_hotOnes, .ref m_indexed, .ref m_isChanged, .int 0, .ref m_valueNow, .int 0, .int (-1), .int 0, .ref m_didSome, .ref m_sizes, .ref m_ends])), (m_all, aI cs 51207 f_m_all)]) (wr := []) hx hb hml hown hu hK hP hD hS hA hl.1 (c_X9_isFree l D cs H.size 13 md m_all f_m_all m_deeds m_trial m_hasImage m_tape m_key m_answered m_goes m_hotOnes m_indexed m_isChanged m_valueNow m_didSome m_sizes m_ends dm th sw z_all (by first | decide | grind)) (gV u_1188 u_1190 u_13 u_76 u_1191) hd_X9_isFree ⟨(Nat.le_of_ble_eq_true rfl), (Nat.le_of_ble_eq_true rfl)⟩ [0, 1] [] rfl rfl rfl rfl (by decide) rfl 0 rfl rfl rfl (Nat.le_of_ble_eq_true rfl) dX9_placeFor_150 ⟨(Nat.le_of_ble_eq_true rfl), (Nat.le_of_ble_eq_true rfl)⟩ (fun r_293 ut_294 H locs hw_295 hP hD hS => ?_)
  have hP : va_P D vwCl [(md, .inr (9, [.int th, .ref m_all, .ref m_deeds, .ref m_trial, .int dm, .ref m_hasImage, .ref m_tape, .ref m_key, .ref m_answered, .int 0, .int 0, .int 0, .ref m_goes, .int sw, .ref m_hotOnes, .ref m_indexed, .ref m_isChanged, .int 0, .ref m_valueNow, .int 0, .int (-1), .int 0, .ref m_didSome, .ref m_sizes, .ref m_ends])), (m_all, aI cs 51207 f_m_all)] H := hP
  have hD : va_D A [(md, .inr (9, [.int th, .ref m_all, .ref m_deeds, .ref m_trial, .int dm, .ref m_hasImage, .ref m_tape, .ref m_key, .ref m_answered, .int 0, .int 0, .int 0, .ref m_goes, .int sw, .ref m_hotOnes, .ref m_indexed, .ref m_isChanged, .int 0, .ref m_valueNow, .int 0, .int (-1), .int 0, .ref m_didSome, .ref m_sizes, .ref m_ends])), (m_all, aI cs 51207 f_m_all)] := hD
  have er_296 := hw_295
  subst er_296
  refine lv_if_eq (tgt := 195) hx hb dX9_placeFor_153 (by decide) (fun c_297 => absurd c_297 (by decide)) (fun c_297 => ?_)
  refine lv_iload hx hb dX9_placeFor_156 (lv_at hl 0 rfl) ?_
  refine lv_iload_n hx hb dX9_placeFor_158 rfl (lv_at hl 4 rfl) ?_
  refine lv_icmp_eq (tgt := 195) hx hb dX9_placeFor_159 (by decide) (fun c_298 => absurd c_298 (by decide)) (fun c_298 => ?_)
  refine lv_iload hx hb dX9_placeFor_162 (lv_at hl 1 rfl) ?_
  refine lv_iconst (v := (-1)) hx hb dX9_placeFor_164 (by decide) ?_
  refine lv_icmp_eq (tgt := 191) hx hb dX9_placeFor_165 (by decide) (fun c_299 => absurd c_299 (by decide)) (fun c_299 => ?_)
  refine lv_aload_n hx hb dX9_placeFor_168 rfl (lv_at hl 2 rfl) ?_
  refine va_get (D := D) (ci := 9) (v := .ref m_all) (C := RX9) (T := TX9) (N := 25) hx hb hu in_X9 hown hK.1 hP 0 rfl rfl 1 (by decide) (hu _ u_1081) (fun _ h9 => h9) rfl dX9_placeFor_169 ?_
  refine lv_bipush (v := 31) hx hb dX9_placeFor_172 (by decide) ?_
  refine lv_iload hx hb dX9_placeFor_174 (lv_at hl 0 rfl) ?_
  refine lv_iadd hx hb dX9_placeFor_176 ?_
  refine tpi (y := 44) (by decide) ?_
  refine va_iald hx hb hK.1 hP 1 0 rfl rfl (vin_c _ _ rfl) dX9_placeFor_177 ?_
  refine tpi (y := 0) ((z_all _ (cl_lt (vin_c _ _ rfl))).trans (by decide +kernel)) ?_
  refine lv_aload_n hx hb dX9_placeFor_178 rfl (lv_at hl 2 rfl) ?_
  refine va_get (D := D) (ci := 9) (v := .ref m_all) (C := RX9) (T := TX9) (N := 25) hx hb hu in_X9 hown hK.1 hP 0 rfl rfl 1 (by decide) (hu _ u_1081) (fun _ h9 => h9) rfl dX9_placeFor_179 ?_
  refine lv_bipush (v := 31) hx hb dX9_placeFor_182 (by decide) ?_
  refine lv_iload hx hb dX9_placeFor_184 (lv_at hl 1 rfl) ?_
  refine lv_iadd hx hb dX9_placeFor_186 ?_
  refine tpi (y := 31) (by decide) ?_
  refine va_iald hx hb hK.1 hP 1 0 rfl rfl (vin_c _ _ rfl) dX9_placeFor_187 ?_
  refine tpi (y := 0) ((z_all _ (cl_lt (vin_c _ _ rfl))).trans (by decide +kernel)) ?_
  refine lv_icmp_ge (tgt := 195) hx hb dX9_placeFor_188 (by decide) (fun c_300 => ?_) (fun c_300 => absurd (by decide) c_300)
  refine lv_iinc (v := 14) (lv' := [(5, .int 14), (4, .int 0), (0, .ref md), (1, .int x), (2, .int (-1)), (3, .int 2)]) hx hb dX9_placeFor_195 hl (k := 0) rfl (by decide) (by decide) rfl (fun ls hl => ?_)
  refine lv_goto (tgt := 140) hx hb dX9_placeFor_198 (by decide) ?_
  refine lv_iload hx hb dX9_placeFor_140 (lv_at hl 0 rfl) ?_
  refine lv_bipush (v := 24) hx hb dX9_placeFor_142 (by decide) ?_
  refine lv_icmp_ge (tgt := 201) hx hb dX9_placeFor_144 (by decide) (fun c_301 => absurd c_301 (by decide)) (fun c_301 => ?_)
  refine lv_aload_n hx hb dX9_placeFor_147 rfl (lv_at hl 2 rfl) ?_
  refine lv_iload hx hb dX9_placeFor_148 (lv_at hl 0 rfl) ?_
  refine kV_i (ci := 9) (As := [.int 14]) (rest := []) (wc := [(md, .inr (9, [.int th, .ref m_all, .ref m_deeds, .ref m_trial, .int dm, .ref m_hasImage, .ref m_tape, .ref m_key, .ref m_answered, .int 0, .int 0, .int 0, .ref m_goes, .int sw, .ref m_hotOnes, .ref m_indexed, .ref m_isChanged, .int 0, .ref m_valueNow, .int 0, .int (-1), .int 0, .ref m_didSome, .ref m_sizes, .ref m_ends])), (m_all, aI cs 51207 f_m_all)]) (wr := []) hx hb hml hown hu hK hP hD hS hA hl.1 (c_X9_isFree l D cs H.size 14 md m_all f_m_all m_deeds m_trial m_hasImage m_tape m_key m_answered m_goes m_hotOnes m_indexed m_isChanged m_valueNow m_didSome m_sizes m_ends dm th sw z_all (by first | decide | grind)) (gV u_1188 u_1190 u_13 u_76 u_1191) hd_X9_isFree ⟨(Nat.le_of_ble_eq_true rfl), (Nat.le_of_ble_eq_true rfl)⟩ [0, 1] [] rfl rfl rfl rfl (by decide) rfl 0 rfl rfl rfl (Nat.le_of_ble_eq_true rfl) dX9_placeFor_150 ⟨(Nat.le_of_ble_eq_true rfl), (Nat.le_of_ble_eq_true rfl)⟩ (fun r_302 ut_303 H locs hw_304 hP hD hS => ?_)
  have hP : va_P D vwCl [(md, .inr (9, [.int th, .ref m_all, .ref m_deeds, .ref m_trial, .int dm, .ref m_hasImage, .ref m_tape, .ref m_key, .ref m_answered, .int 0, .int 0, .int 0, .ref m_goes, .int sw, .ref m_hotOnes, .ref m_indexed, .ref m_isChanged, .int 0, .ref m_valueNow, .int 0, .int (-1), .int 0, .ref m_didSome, .ref m_sizes, .ref m_ends])), (m_all, aI cs 51207 f_m_all)] H := hP
  have hD : va_D A [(md, .inr (9, [.int th, .ref m_all, .ref m_deeds, .ref m_trial, .int dm, .ref m_hasImage, .ref m_tape, .ref m_key, .ref m_answered, .int 0, .int 0, .int 0, .ref m_goes, .int sw, .ref m_hotOnes, .ref m_indexed, .ref m_isChanged, .int 0, .ref m_valueNow, .int 0, .int (-1), .int 0, .ref m_didSome, .ref m_sizes, .ref m_ends])), (m_all, aI cs 51207 f_m_all)] := hD
  have er_305 := hw_304
  subst er_305
  refine lv_if_eq (tgt := 195) hx hb dX9_placeFor_153 (by decide) (fun c_306 => absurd c_306 (by decide)) (fun c_306 => ?_)
  refine lv_iload hx hb dX9_placeFor_156 (lv_at hl 0 rfl) ?_
  refine lv_iload_n hx hb dX9_placeFor_158 rfl (lv_at hl 4 rfl) ?_
  refine lv_icmp_eq (tgt := 195) hx hb dX9_placeFor_159 (by decide) (fun c_307 => absurd c_307 (by decide)) (fun c_307 => ?_)
  refine lv_iload hx hb dX9_placeFor_162 (lv_at hl 1 rfl) ?_
  refine lv_iconst (v := (-1)) hx hb dX9_placeFor_164 (by decide) ?_
  refine lv_icmp_eq (tgt := 191) hx hb dX9_placeFor_165 (by decide) (fun c_308 => absurd c_308 (by decide)) (fun c_308 => ?_)
  refine lv_aload_n hx hb dX9_placeFor_168 rfl (lv_at hl 2 rfl) ?_
  refine va_get (D := D) (ci := 9) (v := .ref m_all) (C := RX9) (T := TX9) (N := 25) hx hb hu in_X9 hown hK.1 hP 0 rfl rfl 1 (by decide) (hu _ u_1081) (fun _ h9 => h9) rfl dX9_placeFor_169 ?_
  refine lv_bipush (v := 31) hx hb dX9_placeFor_172 (by decide) ?_
  refine lv_iload hx hb dX9_placeFor_174 (lv_at hl 0 rfl) ?_
  refine lv_iadd hx hb dX9_placeFor_176 ?_
  refine tpi (y := 45) (by decide) ?_
  refine va_iald hx hb hK.1 hP 1 0 rfl rfl (vin_c _ _ rfl) dX9_placeFor_177 ?_
  refine tpi (y := 0) ((z_all _ (cl_lt (vin_c _ _ rfl))).trans (by decide +kernel)) ?_
  refine lv_aload_n hx hb dX9_placeFor_178 rfl (lv_at hl 2 rfl) ?_
  refine va_get (D := D) (ci := 9) (v := .ref m_all) (C := RX9) (T := TX9) (N := 25) hx hb hu in_X9 hown hK.1 hP 0 rfl rfl 1 (by decide) (hu _ u_1081) (fun _ h9 => h9) rfl dX9_placeFor_179 ?_
  refine lv_bipush (v := 31) hx hb dX9_placeFor_182 (by decide) ?_
  refine lv_iload hx hb dX9_placeFor_184 (lv_at hl 1 rfl) ?_
  refine lv_iadd hx hb dX9_placeFor_186 ?_
  refine tpi (y := 31) (by decide) ?_
  refine va_iald hx hb hK.1 hP 1 0 rfl rfl (vin_c _ _ rfl) dX9_placeFor_187 ?_
  refine tpi (y := 0) ((z_all _ (cl_lt (vin_c _ _ rfl))).trans (by decide +kernel)) ?_
  refine lv_icmp_ge (tgt := 195) hx hb dX9_placeFor_188 (by decide) (fun c_309 => ?_) (fun c_309 => absurd (by decide) c_309)
  refine lv_iinc (v := 15) (lv' := [(5, .int 15), (4, .int 0), (0, .ref md), (1, .int x), (2, .int (-1)), (3, .int 2)]) hx hb dX9_placeFor_195 hl (k := 0) rfl (by decide) (by decide) rfl (fun ls hl => ?_)
  refine lv_goto (tgt := 140) hx hb dX9_placeFor_198 (by decide) ?_
  refine lv_iload hx hb dX9_placeFor_140 (lv_at hl 0 rfl) ?_
  refine lv_bipush (v := 24) hx hb dX9_placeFor_142 (by decide) ?_
  refine lv_icmp_ge (tgt := 201) hx hb dX9_placeFor_144 (by decide) (fun c_310 => absurd c_310 (by decide)) (fun c_310 => ?_)
  refine lv_aload_n hx hb dX9_placeFor_147 rfl (lv_at hl 2 rfl) ?_
  refine lv_iload hx hb dX9_placeFor_148 (lv_at hl 0 rfl) ?_
  refine kV_i (ci := 9) (As := [.int 15]) (rest := []) (wc := [(md, .inr (9, [.int th, .ref m_all, .ref m_deeds, .ref m_trial, .int dm, .ref m_hasImage, .ref m_tape, .ref m_key, .ref m_answered, .int 0, .int 0, .int 0, .ref m_goes, .int sw, .ref m_hotOnes, .ref m_indexed, .ref m_isChanged, .int 0, .ref m_valueNow, .int 0, .int (-1), .int 0, .ref m_didSome, .ref m_sizes, .ref m_ends])), (m_all, aI cs 51207 f_m_all)]) (wr := []) hx hb hml hown hu hK hP hD hS hA hl.1 (c_X9_isFree l D cs H.size 15 md m_all f_m_all m_deeds m_trial m_hasImage m_tape m_key m_answered m_goes m_hotOnes m_indexed m_isChanged m_valueNow m_didSome m_sizes m_ends dm th sw z_all (by first | decide | grind)) (gV u_1188 u_1190 u_13 u_76 u_1191) hd_X9_isFree ⟨(Nat.le_of_ble_eq_true rfl), (Nat.le_of_ble_eq_true rfl)⟩ [0, 1] [] rfl rfl rfl rfl (by decide) rfl 0 rfl rfl rfl (Nat.le_of_ble_eq_true rfl) dX9_placeFor_150 ⟨(Nat.le_of_ble_eq_true rfl), (Nat.le_of_ble_eq_true rfl)⟩ (fun r_311 ut_312 H locs hw_313 hP hD hS => ?_)
  have hP : va_P D vwCl [(md, .inr (9, [.int th, .ref m_all, .ref m_deeds, .ref m_trial, .int dm, .ref m_hasImage, .ref m_tape, .ref m_key, .ref m_answered, .int 0, .int 0, .int 0, .ref m_goes, .int sw, .ref m_hotOnes, .ref m_indexed, .ref m_isChanged, .int 0, .ref m_valueNow, .int 0, .int (-1), .int 0, .ref m_didSome, .ref m_sizes, .ref m_ends])), (m_all, aI cs 51207 f_m_all)] H := hP
  have hD : va_D A [(md, .inr (9, [.int th, .ref m_all, .ref m_deeds, .ref m_trial, .int dm, .ref m_hasImage, .ref m_tape, .ref m_key, .ref m_answered, .int 0, .int 0, .int 0, .ref m_goes, .int sw, .ref m_hotOnes, .ref m_indexed, .ref m_isChanged, .int 0, .ref m_valueNow, .int 0, .int (-1), .int 0, .ref m_didSome, .ref m_sizes, .ref m_ends])), (m_all, aI cs 51207 f_m_all)] := hD
  have er_314 := hw_313
  subst er_314
  refine lv_if_eq (tgt := 195) hx hb dX9_placeFor_153 (by decide) (fun c_315 => absurd c_315 (by decide)) (fun c_315 => ?_)
  refine lv_iload hx hb dX9_placeFor_156 (lv_at hl 0 rfl) ?_
  refine lv_iload_n hx hb dX9_placeFor_158 rfl (lv_at hl 4 rfl) ?_
  refine lv_icmp_eq (tgt := 195) hx hb dX9_placeFor_159 (by decide) (fun c_316 => absurd c_316 (by decide)) (fun c_316 => ?_)
  refine lv_iload hx hb dX9_placeFor_162 (lv_at hl 1 rfl) ?_
  refine lv_iconst (v := (-1)) hx hb dX9_placeFor_164 (by decide) ?_
  refine lv_icmp_eq (tgt := 191) hx hb dX9_placeFor_165 (by decide) (fun c_317 => absurd c_317 (by decide)) (fun c_317 => ?_)
  refine lv_aload_n hx hb dX9_placeFor_168 rfl (lv_at hl 2 rfl) ?_
  refine va_get (D := D) (ci := 9) (v := .ref m_all) (C := RX9) (T := TX9) (N := 25) hx hb hu in_X9 hown hK.1 hP 0 rfl rfl 1 (by decide) (hu _ u_1081) (fun _ h9 => h9) rfl dX9_placeFor_169 ?_
  refine lv_bipush (v := 31) hx hb dX9_placeFor_172 (by decide) ?_
  refine lv_iload hx hb dX9_placeFor_174 (lv_at hl 0 rfl) ?_
  refine lv_iadd hx hb dX9_placeFor_176 ?_
  refine tpi (y := 46) (by decide) ?_
  refine va_iald hx hb hK.1 hP 1 0 rfl rfl (vin_c _ _ rfl) dX9_placeFor_177 ?_
  refine tpi (y := 0) ((z_all _ (cl_lt (vin_c _ _ rfl))).trans (by decide +kernel)) ?_
  refine lv_aload_n hx hb dX9_placeFor_178 rfl (lv_at hl 2 rfl) ?_
  refine va_get (D := D) (ci := 9) (v := .ref m_all) (C := RX9) (T := TX9) (N := 25) hx hb hu in_X9 hown hK.1 hP 0 rfl rfl 1 (by decide) (hu _ u_1081) (fun _ h9 => h9) rfl dX9_placeFor_179 ?_
  refine lv_bipush (v := 31) hx hb dX9_placeFor_182 (by decide) ?_
  refine lv_iload hx hb dX9_placeFor_184 (lv_at hl 1 rfl) ?_
  refine lv_iadd hx hb dX9_placeFor_186 ?_
  refine tpi (y := 31) (by decide) ?_
  refine va_iald hx hb hK.1 hP 1 0 rfl rfl (vin_c _ _ rfl) dX9_placeFor_187 ?_
  refine tpi (y := 0) ((z_all _ (cl_lt (vin_c _ _ rfl))).trans (by decide +kernel)) ?_
  refine lv_icmp_ge (tgt := 195) hx hb dX9_placeFor_188 (by decide) (fun c_318 => ?_) (fun c_318 => absurd (by decide) c_318)
  refine lv_iinc (v := 16) (lv' := [(5, .int 16), (4, .int 0), (0, .ref md), (1, .int x), (2, .int (-1)), (3, .int 2)]) hx hb dX9_placeFor_195 hl (k := 0) rfl (by decide) (by decide) rfl (fun ls hl => ?_)
  refine lv_goto (tgt := 140) hx hb dX9_placeFor_198 (by decide) ?_
  refine lv_iload hx hb dX9_placeFor_140 (lv_at hl 0 rfl) ?_
  refine lv_bipush (v := 24) hx hb dX9_placeFor_142 (by decide) ?_
  refine lv_icmp_ge (tgt := 201) hx hb dX9_placeFor_144 (by decide) (fun c_319 => absurd c_319 (by decide)) (fun c_319 => ?_)
  refine lv_aload_n hx hb dX9_placeFor_147 rfl (lv_at hl 2 rfl) ?_
  refine lv_iload hx hb dX9_placeFor_148 (lv_at hl 0 rfl) ?_
  refine kV_i (ci := 9) (As := [.int 16]) (rest := []) (wc := [(md, .inr (9, [.int th, .ref m_all, .ref m_deeds, .ref m_trial, .int dm, .ref m_hasImage, .ref m_tape, .ref m_key, .ref m_answered, .int 0, .int 0, .int 0, .ref m_goes, .int sw, .ref m_hotOnes, .ref m_indexed, .ref m_isChanged, .int 0, .ref m_valueNow, .int 0, .int (-1), .int 0, .ref m_didSome, .ref m_sizes, .ref m_ends])), (m_all, aI cs 51207 f_m_all)]) (wr := []) hx hb hml hown hu hK hP hD hS hA hl.1 (c_X9_isFree l D cs H.size 16 md m_all f_m_all m_deeds m_trial m_hasImage m_tape m_key m_answered m_goes m_hotOnes m_indexed m_isChanged m_valueNow m_didSome m_sizes m_ends dm th sw z_all (by first | decide | grind)) (gV u_1188 u_1190 u_13 u_76 u_1191) hd_X9_isFree ⟨(Nat.le_of_ble_eq_true rfl), (Nat.le_of_ble_eq_true rfl)⟩ [0, 1] [] rfl rfl rfl rfl (by decide) rfl 0 rfl rfl rfl (Nat.le_of_ble_eq_true rfl) dX9_placeFor_150 ⟨(Nat.le_of_ble_eq_true rfl), (Nat.le_of_ble_eq_true rfl)⟩ (fun r_320 ut_321 H locs hw_322 hP hD hS => ?_)
  have hP : va_P D vwCl [(md, .inr (9, [.int th, .ref m_all, .ref m_deeds, .ref m_trial, .int dm, .ref m_hasImage, .ref m_tape, .ref m_key, .ref m_answered, .int 0, .int 0, .int 0, .ref m_goes, .int sw, .ref m_hotOnes, .ref m_indexed, .ref m_isChanged, .int 0, .ref m_valueNow, .int 0, .int (-1), .int 0, .ref m_didSome, .ref m_sizes, .ref m_ends])), (m_all, aI cs 51207 f_m_all)] H := hP
  have hD : va_D A [(md, .inr (9, [.int th, .ref m_all, .ref m_deeds, .ref m_trial, .int dm, .ref m_hasImage, .ref m_tape, .ref m_key, .ref m_answered, .int 0, .int 0, .int 0, .ref m_goes, .int sw, .ref m_hotOnes, .ref m_indexed, .ref m_isChanged, .int 0, .ref m_valueNow, .int 0, .int (-1), .int 0, .ref m_didSome, .ref m_sizes, .ref m_ends])), (m_all, aI cs 51207 f_m_all)] := hD
  have er_323 := hw_322
  subst er_323
  refine lv_if_eq (tgt := 195) hx hb dX9_placeFor_153 (by decide) (fun c_324 => absurd c_324 (by decide)) (fun c_324 => ?_)
  refine lv_iload hx hb dX9_placeFor_156 (lv_at hl 0 rfl) ?_
  refine lv_iload_n hx hb dX9_placeFor_158 rfl (lv_at hl 4 rfl) ?_
  refine lv_icmp_eq (tgt := 195) hx hb dX9_placeFor_159 (by decide) (fun c_325 => absurd c_325 (by decide)) (fun c_325 => ?_)
  refine lv_iload hx hb dX9_placeFor_162 (lv_at hl 1 rfl) ?_
  refine lv_iconst (v := (-1)) hx hb dX9_placeFor_164 (by decide) ?_
  refine lv_icmp_eq (tgt := 191) hx hb dX9_placeFor_165 (by decide) (fun c_326 => absurd c_326 (by decide)) (fun c_326 => ?_)
  refine lv_aload_n hx hb dX9_placeFor_168 rfl (lv_at hl 2 rfl) ?_
  refine va_get (D := D) (ci := 9) (v := .ref m_all) (C := RX9) (T := TX9) (N := 25) hx hb hu in_X9 hown hK.1 hP 0 rfl rfl 1 (by decide) (hu _ u_1081) (fun _ h9 => h9) rfl dX9_placeFor_169 ?_
  refine lv_bipush (v := 31) hx hb dX9_placeFor_172 (by decide) ?_
  refine lv_iload hx hb dX9_placeFor_174 (lv_at hl 0 rfl) ?_
  refine lv_iadd hx hb dX9_placeFor_176 ?_
  refine tpi (y := 47) (by decide) ?_
  refine va_iald hx hb hK.1 hP 1 0 rfl rfl (vin_c _ _ rfl) dX9_placeFor_177 ?_
  refine tpi (y := 0) ((z_all _ (cl_lt (vin_c _ _ rfl))).trans (by decide +kernel)) ?_
  refine lv_aload_n hx hb dX9_placeFor_178 rfl (lv_at hl 2 rfl) ?_
  refine va_get (D := D) (ci := 9) (v := .ref m_all) (C := RX9) (T := TX9) (N := 25) hx hb hu in_X9 hown hK.1 hP 0 rfl rfl 1 (by decide) (hu _ u_1081) (fun _ h9 => h9) rfl dX9_placeFor_179 ?_
  refine lv_bipush (v := 31) hx hb dX9_placeFor_182 (by decide) ?_
  refine lv_iload hx hb dX9_placeFor_184 (lv_at hl 1 rfl) ?_
  refine lv_iadd hx hb dX9_placeFor_186 ?_
  refine tpi (y := 31) (by decide) ?_
  refine va_iald hx hb hK.1 hP 1 0 rfl rfl (vin_c _ _ rfl) dX9_placeFor_187 ?_
  refine tpi (y := 0) ((z_all _ (cl_lt (vin_c _ _ rfl))).trans (by decide +kernel)) ?_
  refine lv_icmp_ge (tgt := 195) hx hb dX9_placeFor_188 (by decide) (fun c_327 => ?_) (fun c_327 => absurd (by decide) c_327)
  refine lv_iinc (v := 17) (lv' := [(5, .int 17), (4, .int 0), (0, .ref md), (1, .int x), (2, .int (-1)), (3, .int 2)]) hx hb dX9_placeFor_195 hl (k := 0) rfl (by decide) (by decide) rfl (fun ls hl => ?_)
  refine lv_goto (tgt := 140) hx hb dX9_placeFor_198 (by decide) ?_
  refine lv_iload hx hb dX9_placeFor_140 (lv_at hl 0 rfl) ?_
  refine lv_bipush (v := 24) hx hb dX9_placeFor_142 (by decide) ?_
  refine lv_icmp_ge (tgt := 201) hx hb dX9_placeFor_144 (by decide) (fun c_328 => absurd c_328 (by decide)) (fun c_328 => ?_)
  refine lv_aload_n hx hb dX9_placeFor_147 rfl (lv_at hl 2 rfl) ?_
  refine lv_iload hx hb dX9_placeFor_148 (lv_at hl 0 rfl) ?_
  refine kV_i (ci := 9) (As := [.int 17]) (rest := []) (wc := [(md, .inr (9, [.int th, .ref m_all, .ref m_deeds, .ref m_trial, .int dm, .ref m_hasImage, .ref m_tape, .ref m_key, .ref m_answered, .int 0, .int 0, .int 0, .ref m_goes, .int sw, .ref m_hotOnes, .ref m_indexed, .ref m_isChanged, .int 0, .ref m_valueNow, .int 0, .int (-1), .int 0, .ref m_didSome, .ref m_sizes, .ref m_ends])), (m_all, aI cs 51207 f_m_all)]) (wr := []) hx hb hml hown hu hK hP hD hS hA hl.1 (c_X9_isFree l D cs H.size 17 md m_all f_m_all m_deeds m_trial m_hasImage m_tape m_key m_answered m_goes m_hotOnes m_indexed m_isChanged m_valueNow m_didSome m_sizes m_ends dm th sw z_all (by first | decide | grind)) (gV u_1188 u_1190 u_13 u_76 u_1191) hd_X9_isFree ⟨(Nat.le_of_ble_eq_true rfl), (Nat.le_of_ble_eq_true rfl)⟩ [0, 1] [] rfl rfl rfl rfl (by decide) rfl 0 rfl rfl rfl (Nat.le_of_ble_eq_true rfl) dX9_placeFor_150 ⟨(Nat.le_of_ble_eq_true rfl), (Nat.le_of_ble_eq_true rfl)⟩ (fun r_329 ut_330 H locs hw_331 hP hD hS => ?_)
  have hP : va_P D vwCl [(md, .inr (9, [.int th, .ref m_all, .ref m_deeds, .ref m_trial, .int dm, .ref m_hasImage, .ref m_tape, .ref m_key, .ref m_answered, .int 0, .int 0, .int 0, .ref m_goes, .int sw, .ref m_hotOnes, .ref m_indexed, .ref m_isChanged, .int 0, .ref m_valueNow, .int 0, .int (-1), .int 0, .ref m_didSome, .ref m_sizes, .ref m_ends])), (m_all, aI cs 51207 f_m_all)] H := hP
  have hD : va_D A [(md, .inr (9, [.int th, .ref m_all, .ref m_deeds, .ref m_trial, .int dm, .ref m_hasImage, .ref m_tape, .ref m_key, .ref m_answered, .int 0, .int 0, .int 0, .ref m_goes, .int sw, .ref m_hotOnes, .ref m_indexed, .ref m_isChanged, .int 0, .ref m_valueNow, .int 0, .int (-1), .int 0, .ref m_didSome, .ref m_sizes, .ref m_ends])), (m_all, aI cs 51207 f_m_all)] := hD
  have er_332 := hw_331
  subst er_332
  refine lv_if_eq (tgt := 195) hx hb dX9_placeFor_153 (by decide) (fun c_333 => absurd c_333 (by decide)) (fun c_333 => ?_)
  refine lv_iload hx hb dX9_placeFor_156 (lv_at hl 0 rfl) ?_
  refine lv_iload_n hx hb dX9_placeFor_158 rfl (lv_at hl 4 rfl) ?_
  refine lv_icmp_eq (tgt := 195) hx hb dX9_placeFor_159 (by decide) (fun c_334 => absurd c_334 (by decide)) (fun c_334 => ?_)
  refine lv_iload hx hb dX9_placeFor_162 (lv_at hl 1 rfl) ?_
  refine lv_iconst (v := (-1)) hx hb dX9_placeFor_164 (by decide) ?_
  refine lv_icmp_eq (tgt := 191) hx hb dX9_placeFor_165 (by decide) (fun c_335 => absurd c_335 (by decide)) (fun c_335 => ?_)
  refine lv_aload_n hx hb dX9_placeFor_168 rfl (lv_at hl 2 rfl) ?_
  refine va_get (D := D) (ci := 9) (v := .ref m_all) (C := RX9) (T := TX9) (N := 25) hx hb hu in_X9 hown hK.1 hP 0 rfl rfl 1 (by decide) (hu _ u_1081) (fun _ h9 => h9) rfl dX9_placeFor_169 ?_
  refine lv_bipush (v := 31) hx hb dX9_placeFor_172 (by decide) ?_
  refine lv_iload hx hb dX9_placeFor_174 (lv_at hl 0 rfl) ?_
  refine lv_iadd hx hb dX9_placeFor_176 ?_
  refine tpi (y := 48) (by decide) ?_
  refine va_iald hx hb hK.1 hP 1 0 rfl rfl (vin_c _ _ rfl) dX9_placeFor_177 ?_
  refine tpi (y := 0) ((z_all _ (cl_lt (vin_c _ _ rfl))).trans (by decide +kernel)) ?_
  refine lv_aload_n hx hb dX9_placeFor_178 rfl (lv_at hl 2 rfl) ?_
  refine va_get (D := D) (ci := 9) (v := .ref m_all) (C := RX9) (T := TX9) (N := 25) hx hb hu in_X9 hown hK.1 hP 0 rfl rfl 1 (by decide) (hu _ u_1081) (fun _ h9 => h9) rfl dX9_placeFor_179 ?_
  refine lv_bipush (v := 31) hx hb dX9_placeFor_182 (by decide) ?_
  refine lv_iload hx hb dX9_placeFor_184 (lv_at hl 1 rfl) ?_
  refine lv_iadd hx hb dX9_placeFor_186 ?_
  refine tpi (y := 31) (by decide) ?_
  refine va_iald hx hb hK.1 hP 1 0 rfl rfl (vin_c _ _ rfl) dX9_placeFor_187 ?_
  refine tpi (y := 0) ((z_all _ (cl_lt (vin_c _ _ rfl))).trans (by decide +kernel)) ?_
  refine lv_icmp_ge (tgt := 195) hx hb dX9_placeFor_188 (by decide) (fun c_336 => ?_) (fun c_336 => absurd (by decide) c_336)
  refine lv_iinc (v := 18) (lv' := [(5, .int 18), (4, .int 0), (0, .ref md), (1, .int x), (2, .int (-1)), (3, .int 2)]) hx hb dX9_placeFor_195 hl (k := 0) rfl (by decide) (by decide) rfl (fun ls hl => ?_)
  refine lv_goto (tgt := 140) hx hb dX9_placeFor_198 (by decide) ?_
  refine lv_iload hx hb dX9_placeFor_140 (lv_at hl 0 rfl) ?_
  refine lv_bipush (v := 24) hx hb dX9_placeFor_142 (by decide) ?_
  refine lv_icmp_ge (tgt := 201) hx hb dX9_placeFor_144 (by decide) (fun c_337 => absurd c_337 (by decide)) (fun c_337 => ?_)
  refine lv_aload_n hx hb dX9_placeFor_147 rfl (lv_at hl 2 rfl) ?_
  refine lv_iload hx hb dX9_placeFor_148 (lv_at hl 0 rfl) ?_
  refine kV_i (ci := 9) (As := [.int 18]) (rest := []) (wc := [(md, .inr (9, [.int th, .ref m_all, .ref m_deeds, .ref m_trial, .int dm, .ref m_hasImage, .ref m_tape, .ref m_key, .ref m_answered, .int 0, .int 0, .int 0, .ref m_goes, .int sw, .ref m_hotOnes, .ref m_indexed, .ref m_isChanged, .int 0, .ref m_valueNow, .int 0, .int (-1), .int 0, .ref m_didSome, .ref m_sizes, .ref m_ends])), (m_all, aI cs 51207 f_m_all)]) (wr := []) hx hb hml hown hu hK hP hD hS hA hl.1 (c_X9_isFree l D cs H.size 18 md m_all f_m_all m_deeds m_trial m_hasImage m_tape m_key m_answered m_goes m_hotOnes m_indexed m_isChanged m_valueNow m_didSome m_sizes m_ends dm th sw z_all (by first | decide | grind)) (gV u_1188 u_1190 u_13 u_76 u_1191) hd_X9_isFree ⟨(Nat.le_of_ble_eq_true rfl), (Nat.le_of_ble_eq_true rfl)⟩ [0, 1] [] rfl rfl rfl rfl (by decide) rfl 0 rfl rfl rfl (Nat.le_of_ble_eq_true rfl) dX9_placeFor_150 ⟨(Nat.le_of_ble_eq_true rfl), (Nat.le_of_ble_eq_true rfl)⟩ (fun r_338 ut_339 H locs hw_340 hP hD hS => ?_)
  have hP : va_P D vwCl [(md, .inr (9, [.int th, .ref m_all, .ref m_deeds, .ref m_trial, .int dm, .ref m_hasImage, .ref m_tape, .ref m_key, .ref m_answered, .int 0, .int 0, .int 0, .ref m_goes, .int sw, .ref m_hotOnes, .ref m_indexed, .ref m_isChanged, .int 0, .ref m_valueNow, .int 0, .int (-1), .int 0, .ref m_didSome, .ref m_sizes, .ref m_ends])), (m_all, aI cs 51207 f_m_all)] H := hP
  have hD : va_D A [(md, .inr (9, [.int th, .ref m_all, .ref m_deeds, .ref m_trial, .int dm, .ref m_hasImage, .ref m_tape, .ref m_key, .ref m_answered, .int 0, .int 0, .int 0, .ref m_goes, .int sw, .ref m_hotOnes, .ref m_indexed, .ref m_isChanged, .int 0, .ref m_valueNow, .int 0, .int (-1), .int 0, .ref m_didSome, .ref m_sizes, .ref m_ends])), (m_all, aI cs 51207 f_m_all)] := hD
  have er_341 := hw_340
  subst er_341
  refine lv_if_eq (tgt := 195) hx hb dX9_placeFor_153 (by decide) (fun c_342 => absurd c_342 (by decide)) (fun c_342 => ?_)
  refine lv_iload hx hb dX9_placeFor_156 (lv_at hl 0 rfl) ?_
  refine lv_iload_n hx hb dX9_placeFor_158 rfl (lv_at hl 4 rfl) ?_
  refine lv_icmp_eq (tgt := 195) hx hb dX9_placeFor_159 (by decide) (fun c_343 => absurd c_343 (by decide)) (fun c_343 => ?_)
  refine lv_iload hx hb dX9_placeFor_162 (lv_at hl 1 rfl) ?_
  refine lv_iconst (v := (-1)) hx hb dX9_placeFor_164 (by decide) ?_
  refine lv_icmp_eq (tgt := 191) hx hb dX9_placeFor_165 (by decide) (fun c_344 => absurd c_344 (by decide)) (fun c_344 => ?_)
  refine lv_aload_n hx hb dX9_placeFor_168 rfl (lv_at hl 2 rfl) ?_
  refine va_get (D := D) (ci := 9) (v := .ref m_all) (C := RX9) (T := TX9) (N := 25) hx hb hu in_X9 hown hK.1 hP 0 rfl rfl 1 (by decide) (hu _ u_1081) (fun _ h9 => h9) rfl dX9_placeFor_169 ?_
  refine lv_bipush (v := 31) hx hb dX9_placeFor_172 (by decide) ?_
  refine lv_iload hx hb dX9_placeFor_174 (lv_at hl 0 rfl) ?_
  refine lv_iadd hx hb dX9_placeFor_176 ?_
  refine tpi (y := 49) (by decide) ?_
  refine va_iald hx hb hK.1 hP 1 0 rfl rfl (vin_c _ _ rfl) dX9_placeFor_177 ?_
  refine tpi (y := 0) ((z_all _ (cl_lt (vin_c _ _ rfl))).trans (by decide +kernel)) ?_
  refine lv_aload_n hx hb dX9_placeFor_178 rfl (lv_at hl 2 rfl) ?_
  refine va_get (D := D) (ci := 9) (v := .ref m_all) (C := RX9) (T := TX9) (N := 25) hx hb hu in_X9 hown hK.1 hP 0 rfl rfl 1 (by decide) (hu _ u_1081) (fun _ h9 => h9) rfl dX9_placeFor_179 ?_
  refine lv_bipush (v := 31) hx hb dX9_placeFor_182 (by decide) ?_
  refine lv_iload hx hb dX9_placeFor_184 (lv_at hl 1 rfl) ?_
  refine lv_iadd hx hb dX9_placeFor_186 ?_
  refine tpi (y := 31) (by decide) ?_
  refine va_iald hx hb hK.1 hP 1 0 rfl rfl (vin_c _ _ rfl) dX9_placeFor_187 ?_
  refine tpi (y := 0) ((z_all _ (cl_lt (vin_c _ _ rfl))).trans (by decide +kernel)) ?_
  refine lv_icmp_ge (tgt := 195) hx hb dX9_placeFor_188 (by decide) (fun c_345 => ?_) (fun c_345 => absurd (by decide) c_345)
  refine lv_iinc (v := 19) (lv' := [(5, .int 19), (4, .int 0), (0, .ref md), (1, .int x), (2, .int (-1)), (3, .int 2)]) hx hb dX9_placeFor_195 hl (k := 0) rfl (by decide) (by decide) rfl (fun ls hl => ?_)
  refine lv_goto (tgt := 140) hx hb dX9_placeFor_198 (by decide) ?_
  refine lv_iload hx hb dX9_placeFor_140 (lv_at hl 0 rfl) ?_
  refine lv_bipush (v := 24) hx hb dX9_placeFor_142 (by decide) ?_
  refine lv_icmp_ge (tgt := 201) hx hb dX9_placeFor_144 (by decide) (fun c_346 => absurd c_346 (by decide)) (fun c_346 => ?_)
  refine lv_aload_n hx hb dX9_placeFor_147 rfl (lv_at hl 2 rfl) ?_
  refine lv_iload hx hb dX9_placeFor_148 (lv_at hl 0 rfl) ?_
  refine kV_i (ci := 9) (As := [.int 19]) (rest := []) (wc := [(md, .inr (9, [.int th, .ref m_all, .ref m_deeds, .ref m_trial, .int dm, .ref m_hasImage, .ref m_tape, .ref m_key, .ref m_answered, .int 0, .int 0, .int 0, .ref m_goes, .int sw, .ref m_hotOnes, .ref m_indexed, .ref m_isChanged, .int 0, .ref m_valueNow, .int 0, .int (-1), .int 0, .ref m_didSome, .ref m_sizes, .ref m_ends])), (m_all, aI cs 51207 f_m_all)]) (wr := []) hx hb hml hown hu hK hP hD hS hA hl.1 (c_X9_isFree l D cs H.size 19 md m_all f_m_all m_deeds m_trial m_hasImage m_tape m_key m_answered m_goes m_hotOnes m_indexed m_isChanged m_valueNow m_didSome m_sizes m_ends dm th sw z_all (by first | decide | grind)) (gV u_1188 u_1190 u_13 u_76 u_1191) hd_X9_isFree ⟨(Nat.le_of_ble_eq_true rfl), (Nat.le_of_ble_eq_true rfl)⟩ [0, 1] [] rfl rfl rfl rfl (by decide) rfl 0 rfl rfl rfl (Nat.le_of_ble_eq_true rfl) dX9_placeFor_150 ⟨(Nat.le_of_ble_eq_true rfl), (Nat.le_of_ble_eq_true rfl)⟩ (fun r_347 ut_348 H locs hw_349 hP hD hS => ?_)
  have hP : va_P D vwCl [(md, .inr (9, [.int th, .ref m_all, .ref m_deeds, .ref m_trial, .int dm, .ref m_hasImage, .ref m_tape, .ref m_key, .ref m_answered, .int 0, .int 0, .int 0, .ref m_goes, .int sw, .ref m_hotOnes, .ref m_indexed, .ref m_isChanged, .int 0, .ref m_valueNow, .int 0, .int (-1), .int 0, .ref m_didSome, .ref m_sizes, .ref m_ends])), (m_all, aI cs 51207 f_m_all)] H := hP
  have hD : va_D A [(md, .inr (9, [.int th, .ref m_all, .ref m_deeds, .ref m_trial, .int dm, .ref m_hasImage, .ref m_tape, .ref m_key, .ref m_answered, .int 0, .int 0, .int 0, .ref m_goes, .int sw, .ref m_hotOnes, .ref m_indexed, .ref m_isChanged, .int 0, .ref m_valueNow, .int 0, .int (-1), .int 0, .ref m_didSome, .ref m_sizes, .ref m_ends])), (m_all, aI cs 51207 f_m_all)] := hD
  have er_350 := hw_349
  subst er_350
  refine lv_if_eq (tgt := 195) hx hb dX9_placeFor_153 (by decide) (fun c_351 => absurd c_351 (by decide)) (fun c_351 => ?_)
  refine lv_iload hx hb dX9_placeFor_156 (lv_at hl 0 rfl) ?_
  refine lv_iload_n hx hb dX9_placeFor_158 rfl (lv_at hl 4 rfl) ?_
  refine lv_icmp_eq (tgt := 195) hx hb dX9_placeFor_159 (by decide) (fun c_352 => absurd c_352 (by decide)) (fun c_352 => ?_)
  refine lv_iload hx hb dX9_placeFor_162 (lv_at hl 1 rfl) ?_
  refine lv_iconst (v := (-1)) hx hb dX9_placeFor_164 (by decide) ?_
  refine lv_icmp_eq (tgt := 191) hx hb dX9_placeFor_165 (by decide) (fun c_353 => absurd c_353 (by decide)) (fun c_353 => ?_)
  refine lv_aload_n hx hb dX9_placeFor_168 rfl (lv_at hl 2 rfl) ?_
  refine va_get (D := D) (ci := 9) (v := .ref m_all) (C := RX9) (T := TX9) (N := 25) hx hb hu in_X9 hown hK.1 hP 0 rfl rfl 1 (by decide) (hu _ u_1081) (fun _ h9 => h9) rfl dX9_placeFor_169 ?_
  refine lv_bipush (v := 31) hx hb dX9_placeFor_172 (by decide) ?_
  refine lv_iload hx hb dX9_placeFor_174 (lv_at hl 0 rfl) ?_
  refine lv_iadd hx hb dX9_placeFor_176 ?_
  refine tpi (y := 50) (by decide) ?_
  refine va_iald hx hb hK.1 hP 1 0 rfl rfl (vin_c _ _ rfl) dX9_placeFor_177 ?_
  refine tpi (y := 0) ((z_all _ (cl_lt (vin_c _ _ rfl))).trans (by decide +kernel)) ?_
  refine lv_aload_n hx hb dX9_placeFor_178 rfl (lv_at hl 2 rfl) ?_
  refine va_get (D := D) (ci := 9) (v := .ref m_all) (C := RX9) (T := TX9) (N := 25) hx hb hu in_X9 hown hK.1 hP 0 rfl rfl 1 (by decide) (hu _ u_1081) (fun _ h9 => h9) rfl dX9_placeFor_179 ?_
  refine lv_bipush (v := 31) hx hb dX9_placeFor_182 (by decide) ?_
  refine lv_iload hx hb dX9_placeFor_184 (lv_at hl 1 rfl) ?_
  refine lv_iadd hx hb dX9_placeFor_186 ?_
  refine tpi (y := 31) (by decide) ?_
  refine va_iald hx hb hK.1 hP 1 0 rfl rfl (vin_c _ _ rfl) dX9_placeFor_187 ?_
  refine tpi (y := 0) ((z_all _ (cl_lt (vin_c _ _ rfl))).trans (by decide +kernel)) ?_
  refine lv_icmp_ge (tgt := 195) hx hb dX9_placeFor_188 (by decide) (fun c_354 => ?_) (fun c_354 => absurd (by decide) c_354)
  refine lv_iinc (v := 20) (lv' := [(5, .int 20), (4, .int 0), (0, .ref md), (1, .int x), (2, .int (-1)), (3, .int 2)]) hx hb dX9_placeFor_195 hl (k := 0) rfl (by decide) (by decide) rfl (fun ls hl => ?_)
  refine lv_goto (tgt := 140) hx hb dX9_placeFor_198 (by decide) ?_
  refine lv_iload hx hb dX9_placeFor_140 (lv_at hl 0 rfl) ?_
  refine lv_bipush (v := 24) hx hb dX9_placeFor_142 (by decide) ?_
  refine lv_icmp_ge (tgt := 201) hx hb dX9_placeFor_144 (by decide) (fun c_355 => absurd c_355 (by decide)) (fun c_355 => ?_)
  refine lv_aload_n hx hb dX9_placeFor_147 rfl (lv_at hl 2 rfl) ?_
  refine lv_iload hx hb dX9_placeFor_148 (lv_at hl 0 rfl) ?_
  refine kV_i (ci := 9) (As := [.int 20]) (rest := []) (wc := [(md, .inr (9, [.int th, .ref m_all, .ref m_deeds, .ref m_trial, .int dm, .ref m_hasImage, .ref m_tape, .ref m_key, .ref m_answered, .int 0, .int 0, .int 0, .ref m_goes, .int sw, .ref m_hotOnes, .ref m_indexed, .ref m_isChanged, .int 0, .ref m_valueNow, .int 0, .int (-1), .int 0, .ref m_didSome, .ref m_sizes, .ref m_ends])), (m_all, aI cs 51207 f_m_all)]) (wr := []) hx hb hml hown hu hK hP hD hS hA hl.1 (c_X9_isFree l D cs H.size 20 md m_all f_m_all m_deeds m_trial m_hasImage m_tape m_key m_answered m_goes m_hotOnes m_indexed m_isChanged m_valueNow m_didSome m_sizes m_ends dm th sw z_all (by first | decide | grind)) (gV u_1188 u_1190 u_13 u_76 u_1191) hd_X9_isFree ⟨(Nat.le_of_ble_eq_true rfl), (Nat.le_of_ble_eq_true rfl)⟩ [0, 1] [] rfl rfl rfl rfl (by decide) rfl 0 rfl rfl rfl (Nat.le_of_ble_eq_true rfl) dX9_placeFor_150 ⟨(Nat.le_of_ble_eq_true rfl), (Nat.le_of_ble_eq_true rfl)⟩ (fun r_356 ut_357 H locs hw_358 hP hD hS => ?_)
  have hP : va_P D vwCl [(md, .inr (9, [.int th, .ref m_all, .ref m_deeds, .ref m_trial, .int dm, .ref m_hasImage, .ref m_tape, .ref m_key, .ref m_answered, .int 0, .int 0, .int 0, .ref m_goes, .int sw, .ref m_hotOnes, .ref m_indexed, .ref m_isChanged, .int 0, .ref m_valueNow, .int 0, .int (-1), .int 0, .ref m_didSome, .ref m_sizes, .ref m_ends])), (m_all, aI cs 51207 f_m_all)] H := hP
  have hD : va_D A [(md, .inr (9, [.int th, .ref m_all, .ref m_deeds, .ref m_trial, .int dm, .ref m_hasImage, .ref m_tape, .ref m_key, .ref m_answered, .int 0, .int 0, .int 0, .ref m_goes, .int sw, .ref m_hotOnes, .ref m_indexed, .ref m_isChanged, .int 0, .ref m_valueNow, .int 0, .int (-1), .int 0, .ref m_didSome, .ref m_sizes, .ref m_ends])), (m_all, aI cs 51207 f_m_all)] := hD
  have er_359 := hw_358
  subst er_359
  refine lv_if_eq (tgt := 195) hx hb dX9_placeFor_153 (by decide) (fun c_360 => absurd c_360 (by decide)) (fun c_360 => ?_)
  refine lv_iload hx hb dX9_placeFor_156 (lv_at hl 0 rfl) ?_
  refine lv_iload_n hx hb dX9_placeFor_158 rfl (lv_at hl 4 rfl) ?_
  refine lv_icmp_eq (tgt := 195) hx hb dX9_placeFor_159 (by decide) (fun c_361 => absurd c_361 (by decide)) (fun c_361 => ?_)
  refine lv_iload hx hb dX9_placeFor_162 (lv_at hl 1 rfl) ?_
  refine lv_iconst (v := (-1)) hx hb dX9_placeFor_164 (by decide) ?_
  refine lv_icmp_eq (tgt := 191) hx hb dX9_placeFor_165 (by decide) (fun c_362 => absurd c_362 (by decide)) (fun c_362 => ?_)
  refine lv_aload_n hx hb dX9_placeFor_168 rfl (lv_at hl 2 rfl) ?_
  refine va_get (D := D) (ci := 9) (v := .ref m_all) (C := RX9) (T := TX9) (N := 25) hx hb hu in_X9 hown hK.1 hP 0 rfl rfl 1 (by decide) (hu _ u_1081) (fun _ h9 => h9) rfl dX9_placeFor_169 ?_
  refine lv_bipush (v := 31) hx hb dX9_placeFor_172 (by decide) ?_
  refine lv_iload hx hb dX9_placeFor_174 (lv_at hl 0 rfl) ?_
  refine lv_iadd hx hb dX9_placeFor_176 ?_
  refine tpi (y := 51) (by decide) ?_
  refine va_iald hx hb hK.1 hP 1 0 rfl rfl (vin_c _ _ rfl) dX9_placeFor_177 ?_
  refine tpi (y := 0) ((z_all _ (cl_lt (vin_c _ _ rfl))).trans (by decide +kernel)) ?_
  refine lv_aload_n hx hb dX9_placeFor_178 rfl (lv_at hl 2 rfl) ?_
  refine va_get (D := D) (ci := 9) (v := .ref m_all) (C := RX9) (T := TX9) (N := 25) hx hb hu in_X9 hown hK.1 hP 0 rfl rfl 1 (by decide) (hu _ u_1081) (fun _ h9 => h9) rfl dX9_placeFor_179 ?_
  refine lv_bipush (v := 31) hx hb dX9_placeFor_182 (by decide) ?_
  refine lv_iload hx hb dX9_placeFor_184 (lv_at hl 1 rfl) ?_
  refine lv_iadd hx hb dX9_placeFor_186 ?_
  refine tpi (y := 31) (by decide) ?_
  refine va_iald hx hb hK.1 hP 1 0 rfl rfl (vin_c _ _ rfl) dX9_placeFor_187 ?_
  refine tpi (y := 0) ((z_all _ (cl_lt (vin_c _ _ rfl))).trans (by decide +kernel)) ?_
  refine lv_icmp_ge (tgt := 195) hx hb dX9_placeFor_188 (by decide) (fun c_363 => ?_) (fun c_363 => absurd (by decide) c_363)
  refine lv_iinc (v := 21) (lv' := [(5, .int 21), (4, .int 0), (0, .ref md), (1, .int x), (2, .int (-1)), (3, .int 2)]) hx hb dX9_placeFor_195 hl (k := 0) rfl (by decide) (by decide) rfl (fun ls hl => ?_)
  refine lv_goto (tgt := 140) hx hb dX9_placeFor_198 (by decide) ?_
  refine lv_iload hx hb dX9_placeFor_140 (lv_at hl 0 rfl) ?_
  refine lv_bipush (v := 24) hx hb dX9_placeFor_142 (by decide) ?_
  refine lv_icmp_ge (tgt := 201) hx hb dX9_placeFor_144 (by decide) (fun c_364 => absurd c_364 (by decide)) (fun c_364 => ?_)
  refine lv_aload_n hx hb dX9_placeFor_147 rfl (lv_at hl 2 rfl) ?_
  refine lv_iload hx hb dX9_placeFor_148 (lv_at hl 0 rfl) ?_
  refine kV_i (ci := 9) (As := [.int 21]) (rest := []) (wc := [(md, .inr (9, [.int th, .ref m_all, .ref m_deeds, .ref m_trial, .int dm, .ref m_hasImage, .ref m_tape, .ref m_key, .ref m_answered, .int 0, .int 0, .int 0, .ref m_goes, .int sw, .ref m_hotOnes, .ref m_indexed, .ref m_isChanged, .int 0, .ref m_valueNow, .int 0, .int (-1), .int 0, .ref m_didSome, .ref m_sizes, .ref m_ends])), (m_all, aI cs 51207 f_m_all)]) (wr := []) hx hb hml hown hu hK hP hD hS hA hl.1 (c_X9_isFree l D cs H.size 21 md m_all f_m_all m_deeds m_trial m_hasImage m_tape m_key m_answered m_goes m_hotOnes m_indexed m_isChanged m_valueNow m_didSome m_sizes m_ends dm th sw z_all (by first | decide | grind)) (gV u_1188 u_1190 u_13 u_76 u_1191) hd_X9_isFree ⟨(Nat.le_of_ble_eq_true rfl), (Nat.le_of_ble_eq_true rfl)⟩ [0, 1] [] rfl rfl rfl rfl (by decide) rfl 0 rfl rfl rfl (Nat.le_of_ble_eq_true rfl) dX9_placeFor_150 ⟨(Nat.le_of_ble_eq_true rfl), (Nat.le_of_ble_eq_true rfl)⟩ (fun r_365 ut_366 H locs hw_367 hP hD hS => ?_)
  have hP : va_P D vwCl [(md, .inr (9, [.int th, .ref m_all, .ref m_deeds, .ref m_trial, .int dm, .ref m_hasImage, .ref m_tape, .ref m_key, .ref m_answered, .int 0, .int 0, .int 0, .ref m_goes, .int sw, .ref m_hotOnes, .ref m_indexed, .ref m_isChanged, .int 0, .ref m_valueNow, .int 0, .int (-1), .int 0, .ref m_didSome, .ref m_sizes, .ref m_ends])), (m_all, aI cs 51207 f_m_all)] H := hP
  have hD : va_D A [(md, .inr (9, [.int th, .ref m_all, .ref m_deeds, .ref m_trial, .int dm, .ref m_hasImage, .ref m_tape, .ref m_key, .ref m_answered, .int 0, .int 0, .int 0, .ref m_goes, .int sw, .ref m_hotOnes, .ref m_indexed, .ref m_isChanged, .int 0, .ref m_valueNow, .int 0, .int (-1), .int 0, .ref m_didSome, .ref m_sizes, .ref m_ends])), (m_all, aI cs 51207 f_m_all)] := hD
  have er_368 := hw_367
  subst er_368
  refine lv_if_eq (tgt := 195) hx hb dX9_placeFor_153 (by decide) (fun c_369 => absurd c_369 (by decide)) (fun c_369 => ?_)
  refine lv_iload hx hb dX9_placeFor_156 (lv_at hl 0 rfl) ?_
  refine lv_iload_n hx hb dX9_placeFor_158 rfl (lv_at hl 4 rfl) ?_
  refine lv_icmp_eq (tgt := 195) hx hb dX9_placeFor_159 (by decide) (fun c_370 => absurd c_370 (by decide)) (fun c_370 => ?_)
  refine lv_iload hx hb dX9_placeFor_162 (lv_at hl 1 rfl) ?_
  refine lv_iconst (v := (-1)) hx hb dX9_placeFor_164 (by decide) ?_
  refine lv_icmp_eq (tgt := 191) hx hb dX9_placeFor_165 (by decide) (fun c_371 => absurd c_371 (by decide)) (fun c_371 => ?_)
  refine lv_aload_n hx hb dX9_placeFor_168 rfl (lv_at hl 2 rfl) ?_
  refine va_get (D := D) (ci := 9) (v := .ref m_all) (C := RX9) (T := TX9) (N := 25) hx hb hu in_X9 hown hK.1 hP 0 rfl rfl 1 (by decide) (hu _ u_1081) (fun _ h9 => h9) rfl dX9_placeFor_169 ?_
  refine lv_bipush (v := 31) hx hb dX9_placeFor_172 (by decide) ?_
  refine lv_iload hx hb dX9_placeFor_174 (lv_at hl 0 rfl) ?_
  refine lv_iadd hx hb dX9_placeFor_176 ?_
  refine tpi (y := 52) (by decide) ?_
  refine va_iald hx hb hK.1 hP 1 0 rfl rfl (vin_c _ _ rfl) dX9_placeFor_177 ?_
  refine tpi (y := 0) ((z_all _ (cl_lt (vin_c _ _ rfl))).trans (by decide +kernel)) ?_
  refine lv_aload_n hx hb dX9_placeFor_178 rfl (lv_at hl 2 rfl) ?_
  refine va_get (D := D) (ci := 9) (v := .ref m_all) (C := RX9) (T := TX9) (N := 25) hx hb hu in_X9 hown hK.1 hP 0 rfl rfl 1 (by decide) (hu _ u_1081) (fun _ h9 => h9) rfl dX9_placeFor_179 ?_
  refine lv_bipush (v := 31) hx hb dX9_placeFor_182 (by decide) ?_
  refine lv_iload hx hb dX9_placeFor_184 (lv_at hl 1 rfl) ?_
  refine lv_iadd hx hb dX9_placeFor_186 ?_
  refine tpi (y := 31) (by decide) ?_
  refine va_iald hx hb hK.1 hP 1 0 rfl rfl (vin_c _ _ rfl) dX9_placeFor_187 ?_
  refine tpi (y := 0) ((z_all _ (cl_lt (vin_c _ _ rfl))).trans (by decide +kernel)) ?_
  refine lv_icmp_ge (tgt := 195) hx hb dX9_placeFor_188 (by decide) (fun c_372 => ?_) (fun c_372 => absurd (by decide) c_372)
  refine lv_iinc (v := 22) (lv' := [(5, .int 22), (4, .int 0), (0, .ref md), (1, .int x), (2, .int (-1)), (3, .int 2)]) hx hb dX9_placeFor_195 hl (k := 0) rfl (by decide) (by decide) rfl (fun ls hl => ?_)
  refine lv_goto (tgt := 140) hx hb dX9_placeFor_198 (by decide) ?_
  refine lv_iload hx hb dX9_placeFor_140 (lv_at hl 0 rfl) ?_
  refine lv_bipush (v := 24) hx hb dX9_placeFor_142 (by decide) ?_
  refine lv_icmp_ge (tgt := 201) hx hb dX9_placeFor_144 (by decide) (fun c_373 => absurd c_373 (by decide)) (fun c_373 => ?_)
  refine lv_aload_n hx hb dX9_placeFor_147 rfl (lv_at hl 2 rfl) ?_
  refine lv_iload hx hb dX9_placeFor_148 (lv_at hl 0 rfl) ?_
  refine kV_i (ci := 9) (As := [.int 22]) (rest := []) (wc := [(md, .inr (9, [.int th, .ref m_all, .ref m_deeds, .ref m_trial, .int dm, .ref m_hasImage, .ref m_tape, .ref m_key, .ref m_answered, .int 0, .int 0, .int 0, .ref m_goes, .int sw, .ref m_hotOnes, .ref m_indexed, .ref m_isChanged, .int 0, .ref m_valueNow, .int 0, .int (-1), .int 0, .ref m_didSome, .ref m_sizes, .ref m_ends])), (m_all, aI cs 51207 f_m_all)]) (wr := []) hx hb hml hown hu hK hP hD hS hA hl.1 (c_X9_isFree l D cs H.size 22 md m_all f_m_all m_deeds m_trial m_hasImage m_tape m_key m_answered m_goes m_hotOnes m_indexed m_isChanged m_valueNow m_didSome m_sizes m_ends dm th sw z_all (by first | decide | grind)) (gV u_1188 u_1190 u_13 u_76 u_1191) hd_X9_isFree ⟨(Nat.le_of_ble_eq_true rfl), (Nat.le_of_ble_eq_true rfl)⟩ [0, 1] [] rfl rfl rfl rfl (by decide) rfl 0 rfl rfl rfl (Nat.le_of_ble_eq_true rfl) dX9_placeFor_150 ⟨(Nat.le_of_ble_eq_true rfl), (Nat.le_of_ble_eq_true rfl)⟩ (fun r_374 ut_375 H locs hw_376 hP hD hS => ?_)
  have hP : va_P D vwCl [(md, .inr (9, [.int th, .ref m_all, .ref m_deeds, .ref m_trial, .int dm, .ref m_hasImage, .ref m_tape, .ref m_key, .ref m_answered, .int 0, .int 0, .int 0, .ref m_goes, .int sw, .ref m_hotOnes, .ref m_indexed, .ref m_isChanged, .int 0, .ref m_valueNow, .int 0, .int (-1), .int 0, .ref m_didSome, .ref m_sizes, .ref m_ends])), (m_all, aI cs 51207 f_m_all)] H := hP
  have hD : va_D A [(md, .inr (9, [.int th, .ref m_all, .ref m_deeds, .ref m_trial, .int dm, .ref m_hasImage, .ref m_tape, .ref m_key, .ref m_answered, .int 0, .int 0, .int 0, .ref m_goes, .int sw, .ref m_hotOnes, .ref m_indexed, .ref m_isChanged, .int 0, .ref m_valueNow, .int 0, .int (-1), .int 0, .ref m_didSome, .ref m_sizes, .ref m_ends])), (m_all, aI cs 51207 f_m_all)] := hD
  have er_377 := hw_376
  subst er_377
  refine lv_if_eq (tgt := 195) hx hb dX9_placeFor_153 (by decide) (fun c_378 => absurd c_378 (by decide)) (fun c_378 => ?_)
  refine lv_iload hx hb dX9_placeFor_156 (lv_at hl 0 rfl) ?_
  refine lv_iload_n hx hb dX9_placeFor_158 rfl (lv_at hl 4 rfl) ?_
  refine lv_icmp_eq (tgt := 195) hx hb dX9_placeFor_159 (by decide) (fun c_379 => absurd c_379 (by decide)) (fun c_379 => ?_)
  refine lv_iload hx hb dX9_placeFor_162 (lv_at hl 1 rfl) ?_
  refine lv_iconst (v := (-1)) hx hb dX9_placeFor_164 (by decide) ?_
  refine lv_icmp_eq (tgt := 191) hx hb dX9_placeFor_165 (by decide) (fun c_380 => absurd c_380 (by decide)) (fun c_380 => ?_)
  refine lv_aload_n hx hb dX9_placeFor_168 rfl (lv_at hl 2 rfl) ?_
  refine va_get (D := D) (ci := 9) (v := .ref m_all) (C := RX9) (T := TX9) (N := 25) hx hb hu in_X9 hown hK.1 hP 0 rfl rfl 1 (by decide) (hu _ u_1081) (fun _ h9 => h9) rfl dX9_placeFor_169 ?_
  refine lv_bipush (v := 31) hx hb dX9_placeFor_172 (by decide) ?_
  refine lv_iload hx hb dX9_placeFor_174 (lv_at hl 0 rfl) ?_
  refine lv_iadd hx hb dX9_placeFor_176 ?_
  refine tpi (y := 53) (by decide) ?_
  refine va_iald hx hb hK.1 hP 1 0 rfl rfl (vin_c _ _ rfl) dX9_placeFor_177 ?_
  refine tpi (y := 0) ((z_all _ (cl_lt (vin_c _ _ rfl))).trans (by decide +kernel)) ?_
  refine lv_aload_n hx hb dX9_placeFor_178 rfl (lv_at hl 2 rfl) ?_
  refine va_get (D := D) (ci := 9) (v := .ref m_all) (C := RX9) (T := TX9) (N := 25) hx hb hu in_X9 hown hK.1 hP 0 rfl rfl 1 (by decide) (hu _ u_1081) (fun _ h9 => h9) rfl dX9_placeFor_179 ?_
  refine lv_bipush (v := 31) hx hb dX9_placeFor_182 (by decide) ?_
  refine lv_iload hx hb dX9_placeFor_184 (lv_at hl 1 rfl) ?_
  refine lv_iadd hx hb dX9_placeFor_186 ?_
  refine tpi (y := 31) (by decide) ?_
  refine va_iald hx hb hK.1 hP 1 0 rfl rfl (vin_c _ _ rfl) dX9_placeFor_187 ?_
  refine tpi (y := 0) ((z_all _ (cl_lt (vin_c _ _ rfl))).trans (by decide +kernel)) ?_
  refine lv_icmp_ge (tgt := 195) hx hb dX9_placeFor_188 (by decide) (fun c_381 => ?_) (fun c_381 => absurd (by decide) c_381)
  refine lv_iinc (v := 23) (lv' := [(5, .int 23), (4, .int 0), (0, .ref md), (1, .int x), (2, .int (-1)), (3, .int 2)]) hx hb dX9_placeFor_195 hl (k := 0) rfl (by decide) (by decide) rfl (fun ls hl => ?_)
  refine lv_goto (tgt := 140) hx hb dX9_placeFor_198 (by decide) ?_
  refine lv_iload hx hb dX9_placeFor_140 (lv_at hl 0 rfl) ?_
  refine lv_bipush (v := 24) hx hb dX9_placeFor_142 (by decide) ?_
  refine lv_icmp_ge (tgt := 201) hx hb dX9_placeFor_144 (by decide) (fun c_382 => absurd c_382 (by decide)) (fun c_382 => ?_)
  refine lv_aload_n hx hb dX9_placeFor_147 rfl (lv_at hl 2 rfl) ?_
  refine lv_iload hx hb dX9_placeFor_148 (lv_at hl 0 rfl) ?_
  refine kV_i (ci := 9) (As := [.int 23]) (rest := []) (wc := [(md, .inr (9, [.int th, .ref m_all, .ref m_deeds, .ref m_trial, .int dm, .ref m_hasImage, .ref m_tape, .ref m_key, .ref m_answered, .int 0, .int 0, .int 0, .ref m_goes, .int sw, .ref m_hotOnes, .ref m_indexed, .ref m_isChanged, .int 0, .ref m_valueNow, .int 0, .int (-1), .int 0, .ref m_didSome, .ref m_sizes, .ref m_ends])), (m_all, aI cs 51207 f_m_all)]) (wr := []) hx hb hml hown hu hK hP hD hS hA hl.1 (c_X9_isFree l D cs H.size 23 md m_all f_m_all m_deeds m_trial m_hasImage m_tape m_key m_answered m_goes m_hotOnes m_indexed m_isChanged m_valueNow m_didSome m_sizes m_ends dm th sw z_all (by first | decide | grind)) (gV u_1188 u_1190 u_13 u_76 u_1191) hd_X9_isFree ⟨(Nat.le_of_ble_eq_true rfl), (Nat.le_of_ble_eq_true rfl)⟩ [0, 1] [] rfl rfl rfl rfl (by decide) rfl 0 rfl rfl rfl (Nat.le_of_ble_eq_true rfl) dX9_placeFor_150 ⟨(Nat.le_of_ble_eq_true rfl), (Nat.le_of_ble_eq_true rfl)⟩ (fun r_383 ut_384 H locs hw_385 hP hD hS => ?_)
  have hP : va_P D vwCl [(md, .inr (9, [.int th, .ref m_all, .ref m_deeds, .ref m_trial, .int dm, .ref m_hasImage, .ref m_tape, .ref m_key, .ref m_answered, .int 0, .int 0, .int 0, .ref m_goes, .int sw, .ref m_hotOnes, .ref m_indexed, .ref m_isChanged, .int 0, .ref m_valueNow, .int 0, .int (-1), .int 0, .ref m_didSome, .ref m_sizes, .ref m_ends])), (m_all, aI cs 51207 f_m_all)] H := hP
  have hD : va_D A [(md, .inr (9, [.int th, .ref m_all, .ref m_deeds, .ref m_trial, .int dm, .ref m_hasImage, .ref m_tape, .ref m_key, .ref m_answered, .int 0, .int 0, .int 0, .ref m_goes, .int sw, .ref m_hotOnes, .ref m_indexed, .ref m_isChanged, .int 0, .ref m_valueNow, .int 0, .int (-1), .int 0, .ref m_didSome, .ref m_sizes, .ref m_ends])), (m_all, aI cs 51207 f_m_all)] := hD
  have er_386 := hw_385
  subst er_386
  refine lv_if_eq (tgt := 195) hx hb dX9_placeFor_153 (by decide) (fun c_387 => absurd c_387 (by decide)) (fun c_387 => ?_)
  refine lv_iload hx hb dX9_placeFor_156 (lv_at hl 0 rfl) ?_
  refine lv_iload_n hx hb dX9_placeFor_158 rfl (lv_at hl 4 rfl) ?_
  refine lv_icmp_eq (tgt := 195) hx hb dX9_placeFor_159 (by decide) (fun c_388 => absurd c_388 (by decide)) (fun c_388 => ?_)
  refine lv_iload hx hb dX9_placeFor_162 (lv_at hl 1 rfl) ?_
  refine lv_iconst (v := (-1)) hx hb dX9_placeFor_164 (by decide) ?_
  refine lv_icmp_eq (tgt := 191) hx hb dX9_placeFor_165 (by decide) (fun c_389 => absurd c_389 (by decide)) (fun c_389 => ?_)
  refine lv_aload_n hx hb dX9_placeFor_168 rfl (lv_at hl 2 rfl) ?_
  refine va_get (D := D) (ci := 9) (v := .ref m_all) (C := RX9) (T := TX9) (N := 25) hx hb hu in_X9 hown hK.1 hP 0 rfl rfl 1 (by decide) (hu _ u_1081) (fun _ h9 => h9) rfl dX9_placeFor_169 ?_
  refine lv_bipush (v := 31) hx hb dX9_placeFor_172 (by decide) ?_
  refine lv_iload hx hb dX9_placeFor_174 (lv_at hl 0 rfl) ?_
  refine lv_iadd hx hb dX9_placeFor_176 ?_
  refine tpi (y := 54) (by decide) ?_
  refine va_iald hx hb hK.1 hP 1 0 rfl rfl (vin_c _ _ rfl) dX9_placeFor_177 ?_
  refine tpi (y := 0) ((z_all _ (cl_lt (vin_c _ _ rfl))).trans (by decide +kernel)) ?_
  refine lv_aload_n hx hb dX9_placeFor_178 rfl (lv_at hl 2 rfl) ?_
  refine va_get (D := D) (ci := 9) (v := .ref m_all) (C := RX9) (T := TX9) (N := 25) hx hb hu in_X9 hown hK.1 hP 0 rfl rfl 1 (by decide) (hu _ u_1081) (fun _ h9 => h9) rfl dX9_placeFor_179 ?_
  refine lv_bipush (v := 31) hx hb dX9_placeFor_182 (by decide) ?_
  refine lv_iload hx hb dX9_placeFor_184 (lv_at hl 1 rfl) ?_
  refine lv_iadd hx hb dX9_placeFor_186 ?_
  refine tpi (y := 31) (by decide) ?_
  refine va_iald hx hb hK.1 hP 1 0 rfl rfl (vin_c _ _ rfl) dX9_placeFor_187 ?_
  refine tpi (y := 0) ((z_all _ (cl_lt (vin_c _ _ rfl))).trans (by decide +kernel)) ?_
  refine lv_icmp_ge (tgt := 195) hx hb dX9_placeFor_188 (by decide) (fun c_390 => ?_) (fun c_390 => absurd (by decide) c_390)
  refine lv_iinc (v := 24) (lv' := [(5, .int 24), (4, .int 0), (0, .ref md), (1, .int x), (2, .int (-1)), (3, .int 2)]) hx hb dX9_placeFor_195 hl (k := 0) rfl (by decide) (by decide) rfl (fun ls hl => ?_)
  refine lv_goto (tgt := 140) hx hb dX9_placeFor_198 (by decide) ?_
  refine lv_iload hx hb dX9_placeFor_140 (lv_at hl 0 rfl) ?_
  refine lv_bipush (v := 24) hx hb dX9_placeFor_142 (by decide) ?_
  refine lv_icmp_ge (tgt := 201) hx hb dX9_placeFor_144 (by decide) (fun c_391 => ?_) (fun c_391 => absurd (by decide) c_391)
  refine lv_iload hx hb dX9_placeFor_201 (lv_at hl 1 rfl) ?_
  exact hz () hP hD hS rfl [0, 1] rfl rfl (Nat.le_of_ble_eq_true rfl) (Nat.le_of_ble_eq_true rfl) .int rfl rfl dX9_placeFor_203
abbrev rm_c_X9_makesPlace : Room := { frames := 3, cells := 0, slots := 0, locals := 68 }
set_option maxHeartbeats 4000000 in
set_option maxRecDepth 100000 in
theorem c_X9_makesPlace (l : Launch) (D : va_G) (cs : Nat → ClassId) (sz : Nat) (x : Int32) (md : Nat) (m_all : Nat) (f_m_all : Nat → Int32) (m_deeds : Nat) (m_trial : Nat) (m_hasImage : Nat) (m_tape : Nat) (m_key : Nat) (m_answered : Nat) (m_goes : Nat) (m_hotOnes : Nat) (m_indexed : Nat) (m_isChanged : Nat) (m_valueNow : Nat) (m_didSome : Nat) (m_sizes : Nat) (m_ends : Nat) (dm : Int32) (th : Int32) (sw : Int32) (z_all : ∀ j, j < 51207 → f_m_all j = AL j) : cMi l yX9_makesPlace (Cond.code yX9_makesPlace cX9_makesPlace 4 (some .int)) (rm_c_X9_makesPlace) D cs [.ref md, .int x] sz [(md, .inr (9, [.int th, .ref m_all, .ref m_deeds, .ref m_trial, .int dm, .ref m_hasImage, .ref m_tape, .ref m_key, .ref m_answered, .int 0, .int 0, .int 0, .ref m_goes, .int sw, .ref m_hotOnes, .ref m_indexed, .ref m_isChanged, .int 0, .ref m_valueNow, .int 0, .int (-1), .int 0, .ref m_didSome, .ref m_sizes, .ref m_ends])), (m_all, aI cs 51207 f_m_all)] (fun (r : Int32) (u : Unit) => (r = 0)) (fun (u : Unit) => [(md, .inr (9, [.int th, .ref m_all, .ref m_deeds, .ref m_trial, .int dm, .ref m_hasImage, .ref m_tape, .ref m_key, .ref m_answered, .int 0, .int 0, .int 0, .ref m_goes, .int 0, .ref m_hotOnes, .ref m_indexed, .ref m_isChanged, .int 0, .ref m_valueNow, .int 0, .int (-1), .int 0, .ref m_didSome, .ref m_sizes, .ref m_ends])), (m_all, aI cs 51207 f_m_all)]) := by
  refine kMet_i RX9 (by decide) rfl (Nat.le_of_ble_eq_true rfl) ?_
  intro p e s m below meth c ls A Qz H locs hx hb hml hown hin hu hK hsz hA hP hD hS hl hz
  subst hsz
  have hl : lv_has ls 4 [(0, .ref md), (1, .int x)] := hl
  refine lv_aload_n hx hb dX9_makesPlace_0 rfl (lv_at hl 0 rfl) ?_
  refine lv_iconst (v := 0) hx hb dX9_makesPlace_1 (by decide) ?_
  refine va_put (D := D) (ci := 9) (v := .int 0) (ty := tyX9 13) (C := RX9) (T := TX9) (N := 25) hx hb hu in_X9 tyX9 tyX9_ok nmX9 hown hK.1 hP hD hS 0 rfl rfl 13 (by decide) (hu _ u_1093) (fun _ h9 => h9) rfl (tyX9_ok 13 (by decide)) rfl rfl (Nat.le_of_ble_eq_true rfl) dX9_makesPlace_2 (fun H locs hP hD hS => ?_)
  have hP : va_P D vwCl [(md, .inr (9, [.int th, .ref m_all, .ref m_deeds, .ref m_trial, .int dm, .ref m_hasImage, .ref m_tape, .ref m_key, .ref m_answered, .int 0, .int 0, .int 0, .ref m_goes, .int 0, .ref m_hotOnes, .ref m_indexed, .ref m_isChanged, .int 0, .ref m_valueNow, .int 0, .int (-1), .int 0, .ref m_didSome, .ref m_sizes, .ref m_ends])), (m_all, aI cs 51207 f_m_all)] H := hP
  have hD : va_D A [(md, .inr (9, [.int th, .ref m_all, .ref m_deeds, .ref m_trial, .int dm, .ref m_hasImage, .ref m_tape, .ref m_key, .ref m_answered, .int 0, .int 0, .int 0, .ref m_goes, .int 0, .ref m_hotOnes, .ref m_indexed, .ref m_isChanged, .int 0, .ref m_valueNow, .int 0, .int (-1), .int 0, .ref m_didSome, .ref m_sizes, .ref m_ends])), (m_all, aI cs 51207 f_m_all)] := hD
  refine lv_aload_n hx hb dX9_makesPlace_5 rfl (lv_at hl 0 rfl) ?_
  refine lv_iload_n hx hb dX9_makesPlace_6 rfl (lv_at hl 1 rfl) ?_
  refine lv_iconst (v := (-1)) hx hb dX9_makesPlace_7 (by decide) ?_
  refine lv_iconst (v := 2) hx hb dX9_makesPlace_8 (by decide) ?_
  refine kV_i (ci := 9) (As := [.int x, .int (-1), .int 2]) (rest := []) (wc := [(md, .inr (9, [.int th, .ref m_all, .ref m_deeds, .ref m_trial, .int dm, .ref m_hasImage, .ref m_tape, .ref m_key, .ref m_answered, .int 0, .int 0, .int 0, .ref m_goes, .int 0, .ref m_hotOnes, .ref m_indexed, .ref m_isChanged, .int 0, .ref m_valueNow, .int 0, .int (-1), .int 0, .ref m_didSome, .ref m_sizes, .ref m_ends])), (m_all, aI cs 51207 f_m_all)]) (wr := []) hx hb hml hown hu hK hP hD hS hA hl.1 (c_X9_placeFor l D cs H.size x md m_all f_m_all m_deeds m_trial m_hasImage m_tape m_key m_answered m_goes m_hotOnes m_indexed m_isChanged m_valueNow m_didSome m_sizes m_ends dm th 0 z_all) (gV u_1184 u_1186 u_12 u_76 u_1187) hd_X9_placeFor ⟨(Nat.le_of_ble_eq_true rfl), (Nat.le_of_ble_eq_true rfl)⟩ [0, 1] [] rfl rfl rfl rfl (by decide) rfl 0 rfl rfl rfl (Nat.le_of_ble_eq_true rfl) dX9_makesPlace_9 ⟨(Nat.le_of_ble_eq_true rfl), (Nat.le_of_ble_eq_true rfl)⟩ (fun r_1 ut_2 H locs hw_3 hP hD hS => ?_)
  have hP : va_P D vwCl [(md, .inr (9, [.int th, .ref m_all, .ref m_deeds, .ref m_trial, .int dm, .ref m_hasImage, .ref m_tape, .ref m_key, .ref m_answered, .int 0, .int 0, .int 0, .ref m_goes, .int 0, .ref m_hotOnes, .ref m_indexed, .ref m_isChanged, .int 0, .ref m_valueNow, .int 0, .int (-1), .int 0, .ref m_didSome, .ref m_sizes, .ref m_ends])), (m_all, aI cs 51207 f_m_all)] H := hP
  have hD : va_D A [(md, .inr (9, [.int th, .ref m_all, .ref m_deeds, .ref m_trial, .int dm, .ref m_hasImage, .ref m_tape, .ref m_key, .ref m_answered, .int 0, .int 0, .int 0, .ref m_goes, .int 0, .ref m_hotOnes, .ref m_indexed, .ref m_isChanged, .int 0, .ref m_valueNow, .int 0, .int (-1), .int 0, .ref m_didSome, .ref m_sizes, .ref m_ends])), (m_all, aI cs 51207 f_m_all)] := hD
  have er_4 := hw_3
  subst er_4
  refine lv_istore_n (lv' := [(2, .int 0), (0, .ref md), (1, .int x)]) hx hb dX9_makesPlace_12 rfl hl (by decide) rfl (fun ls hl => ?_)
  refine lv_iload_n hx hb dX9_makesPlace_13 rfl (lv_at hl 0 rfl) ?_
  refine lv_iconst (v := (-1)) hx hb dX9_makesPlace_14 (by decide) ?_
  refine lv_icmp_ne (tgt := 63) hx hb dX9_makesPlace_15 (by decide) (fun c_5 => ?_) (fun c_5 => absurd c_5 (by decide))
  refine lv_iload_n hx hb dX9_makesPlace_63 rfl (lv_at hl 0 rfl) ?_
  exact hz () hP hD hS rfl [0, 1] rfl rfl (Nat.le_of_ble_eq_true rfl) (Nat.le_of_ble_eq_true rfl) .int rfl rfl dX9_makesPlace_64
