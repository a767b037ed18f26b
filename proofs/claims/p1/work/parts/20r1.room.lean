theorem u_453 : Cond.methodLink "KeyDrive$Pages" 104 yX6_chosen ∈ U0 := um 453 (by decide +kernel) (by decide +kernel)
theorem u_470 : Cond.code yX8_isRecord prog_1_method_50_code 1 (some .boolean) ∈ U0 := um 470 (by decide +kernel) (by decide +kernel)
theorem u_469 : Cond.static yX8_isRecord ∈ U0 := um 469 (by decide +kernel) (by decide +kernel)
theorem u_478 : Cond.code yX6_append prog_8_method_18_code 4 none ∈ U0 := um 478 (by decide +kernel) (by decide +kernel)
theorem u_475 : Cond.methodLink "KeyDrive$Pages" 110 yX6_append ∈ U0 := um 475 (by decide +kernel) (by decide +kernel)
theorem u_476 : Cond.instanceMethod yX6_append ∈ U0 := um 476 (by decide +kernel) (by decide +kernel)
theorem u_477 : Cond.selects "KeyDrive$Pages" yX6_append yX6_append ∈ U0 := um 477 (by decide +kernel) (by decide +kernel)
theorem dX6_deadOn_28 : decode cX6_deadOn 28 = .ok (.iload 4, 2) := by decide +kernel
theorem dX6_deadOn_30 : decode cX6_deadOn 30 = .ok (.bipush 10, 2) := by decide +kernel
theorem dX6_deadOn_32 : decode cX6_deadOn 32 = .ok (.if_icmp .ge 38, 3) := by decide +kernel
theorem dX6_deadOn_35 : decode cX6_deadOn 35 = .ok (.iload_n 2, 1) := by decide +kernel
theorem dX6_deadOn_36 : decode cX6_deadOn 36 = .ok (.aload_n 0, 1) := by decide +kernel
theorem dX6_deadOn_37 : decode cX6_deadOn 37 = .ok (.getfield 28, 3) := by decide +kernel
theorem dX6_deadOn_40 : decode cX6_deadOn 40 = .ok (.iload_n 3, 1) := by decide +kernel
theorem dX6_deadOn_41 : decode cX6_deadOn 41 = .ok (.iload 4, 2) := by decide +kernel
theorem dX6_deadOn_43 : decode cX6_deadOn 43 = .ok (.iadd, 1) := by decide +kernel
theorem dX6_deadOn_44 : decode cX6_deadOn 44 = .ok (.iaload, 1) := by decide +kernel
theorem dX6_deadOn_45 : decode cX6_deadOn 45 = .ok (.iconst (-1), 1) := by decide +kernel
theorem dX6_deadOn_46 : decode cX6_deadOn 46 = .ok (.if_icmp .ne 15, 3) := by decide +kernel
theorem dX6_deadOn_61 : decode cX6_deadOn 61 = .ok (.iconst 0, 1) := by decide +kernel
theorem dX6_deadOn_62 : decode cX6_deadOn 62 = .ok (.iadd, 1) := by decide +kernel
theorem dX6_deadOn_63 : decode cX6_deadOn 63 = .ok (.istore_n 2, 1) := by decide +kernel
theorem dX6_deadOn_64 : decode cX6_deadOn 64 = .ok (.iinc 4 1, 3) := by decide +kernel
theorem dX6_deadOn_67 : decode cX6_deadOn 67 = .ok (.goto (-50), 3) := by decide +kernel
theorem dX6_freePages_24 : decode cX6_freePages 24 = .ok (.iconst 0, 1) := by decide +kernel
theorem dX6_fitting_25 : decode cX6_fitting 25 = .ok (.bipush 64, 2) := by decide +kernel
theorem dX6_fitting_27 : decode cX6_fitting 27 = .ok (.aload_n 0, 1) := by decide +kernel
theorem dX6_fitting_28 : decode cX6_fitting 28 = .ok (.getfield 18, 3) := by decide +kernel
theorem dX6_fitting_31 : decode cX6_fitting 31 = .ok (.iload 5, 2) := by decide +kernel
theorem dX6_fitting_33 : decode cX6_fitting 33 = .ok (.iaload, 1) := by decide +kernel
theorem dX6_fitting_34 : decode cX6_fitting 34 = .ok (.isub, 1) := by decide +kernel
theorem dX6_fitting_35 : decode cX6_fitting 35 = .ok (.iload_n 1, 1) := by decide +kernel
theorem dX6_fitting_36 : decode cX6_fitting 36 = .ok (.if_icmp .lt 13, 3) := by decide +kernel
theorem dX6_fitting_39 : decode cX6_fitting 39 = .ok (.iload 5, 2) := by decide +kernel
theorem dX6_fitting_41 : decode cX6_fitting 41 = .ok (.iload_n 2, 1) := by decide +kernel
theorem dX6_fitting_42 : decode cX6_fitting 42 = .ok (.if_icmp .eq 7, 3) := by decide +kernel
theorem dX6_fitting_45 : decode cX6_fitting 45 = .ok (.iconst 1, 1) := by decide +kernel
theorem dX6_fitting_46 : decode cX6_fitting 46 = .ok (.goto 4, 3) := by decide +kernel
theorem dX6_fitting_57 : decode cX6_fitting 57 = .ok (.aload_n 0, 1) := by decide +kernel
theorem dX6_fitting_58 : decode cX6_fitting 58 = .ok (.getfield 50, 3) := by decide +kernel
theorem dX6_fitting_61 : decode cX6_fitting 61 = .ok (.ifCond .ne 15, 3) := by decide +kernel
theorem dX6_fitting_64 : decode cX6_fitting 64 = .ok (.iload 5, 2) := by decide +kernel
theorem dX6_fitting_66 : decode cX6_fitting 66 = .ok (.aload_n 0, 1) := by decide +kernel
theorem dX6_fitting_67 : decode cX6_fitting 67 = .ok (.getfield 9, 3) := by decide +kernel
theorem dX6_fitting_70 : decode cX6_fitting 70 = .ok (.if_icmp .eq 6, 3) := by decide +kernel
theorem dX6_fitting_73 : decode cX6_fitting 73 = .ok (.goto 38, 3) := by decide +kernel
theorem dX6_fitting_76 : decode cX6_fitting 76 = .ok (.aload_n 0, 1) := by decide +kernel
theorem dX6_fitting_77 : decode cX6_fitting 77 = .ok (.getfield 50, 3) := by decide +kernel
theorem dX6_fitting_80 : decode cX6_fitting 80 = .ok (.iconst 1, 1) := by decide +kernel
theorem dX6_fitting_81 : decode cX6_fitting 81 = .ok (.if_icmp .ne 6, 3) := by decide +kernel
theorem dX6_fitting_87 : decode cX6_fitting 87 = .ok (.aload_n 0, 1) := by decide +kernel
theorem dX6_fitting_88 : decode cX6_fitting 88 = .ok (.getfield 18, 3) := by decide +kernel
theorem dX6_fitting_91 : decode cX6_fitting 91 = .ok (.iload 5, 2) := by decide +kernel
theorem dX6_fitting_93 : decode cX6_fitting 93 = .ok (.iaload, 1) := by decide +kernel
theorem dX6_fitting_94 : decode cX6_fitting 94 = .ok (.iload 4, 2) := by decide +kernel
theorem dX6_fitting_96 : decode cX6_fitting 96 = .ok (.if_icmp .le 15, 3) := by decide +kernel
theorem dX6_fitting_99 : decode cX6_fitting 99 = .ok (.aload_n 0, 1) := by decide +kernel
theorem dX6_fitting_100 : decode cX6_fitting 100 = .ok (.getfield 18, 3) := by decide +kernel
theorem dX6_fitting_103 : decode cX6_fitting 103 = .ok (.iload 5, 2) := by decide +kernel
theorem dX6_fitting_105 : decode cX6_fitting 105 = .ok (.iaload, 1) := by decide +kernel
theorem dX6_fitting_106 : decode cX6_fitting 106 = .ok (.istore 4, 2) := by decide +kernel
theorem dX6_fitting_108 : decode cX6_fitting 108 = .ok (.iload 5, 2) := by decide +kernel
theorem dX6_fitting_110 : decode cX6_fitting 110 = .ok (.istore_n 3, 1) := by decide +kernel
theorem dX6_placeToPut_20 : decode cX6_placeToPut 20 = .ok (.iload_n 2, 1) := by decide +kernel
theorem dX6_placeToPut_21 : decode cX6_placeToPut 21 = .ok (.goto 7, 3) := by decide +kernel
theorem dX6_makeRoom_19 : decode cX6_makeRoom 19 = .ok (.aload_n 0, 1) := by decide +kernel
theorem dX6_makeRoom_20 : decode cX6_makeRoom 20 = .ok (.aload_n 0, 1) := by decide +kernel
theorem dX6_makeRoom_21 : decode cX6_makeRoom 21 = .ok (.getfield 53, 3) := by decide +kernel
theorem dX6_makeRoom_24 : decode cX6_makeRoom 24 = .ok (.invokevirtual 104, 3) := by decide +kernel
theorem dX6_makeRoom_27 : decode cX6_makeRoom 27 = .ok (.istore 4, 2) := by decide +kernel
theorem dX6_makeRoom_29 : decode cX6_makeRoom 29 = .ok (.iload 4, 2) := by decide +kernel
theorem dX6_makeRoom_31 : decode cX6_makeRoom 31 = .ok (.iconst (-1), 1) := by decide +kernel
theorem dX6_makeRoom_32 : decode cX6_makeRoom 32 = .ok (.if_icmp .ne 5, 3) := by decide +kernel
theorem dX6_makeRoom_35 : decode cX6_makeRoom 35 = .ok (.iconst (-1), 1) := by decide +kernel
theorem dX6_makeRoom_36 : decode cX6_makeRoom 36 = .ok (.ireturn, 1) := by decide +kernel
theorem dX6_admit_0 : decode cX6_admit 0 = .ok (.iload_n 2, 1) := by decide +kernel
theorem dX6_admit_1 : decode cX6_admit 1 = .ok (.iconst (-1), 1) := by decide +kernel
theorem dX6_admit_2 : decode cX6_admit 2 = .ok (.if_icmp .eq 21, 3) := by decide +kernel
theorem dX6_admit_5 : decode cX6_admit 5 = .ok (.aload_n 0, 1) := by decide +kernel
theorem dX6_admit_6 : decode cX6_admit 6 = .ok (.getfield 15, 3) := by decide +kernel
theorem dX6_admit_9 : decode cX6_admit 9 = .ok (.iconst 1, 1) := by decide +kernel
theorem dX6_admit_10 : decode cX6_admit 10 = .ok (.if_icmp .lt 13, 3) := by decide +kernel
theorem dX6_admit_13 : decode cX6_admit 13 = .ok (.aload_n 0, 1) := by decide +kernel
theorem dX6_admit_14 : decode cX6_admit 14 = .ok (.getfield 15, 3) := by decide +kernel
theorem dX6_admit_17 : decode cX6_admit 17 = .ok (.sipush 240, 3) := by decide +kernel
theorem dX6_admit_20 : decode cX6_admit 20 = .ok (.if_icmp .le 5, 3) := by decide +kernel
theorem dX6_admit_23 : decode cX6_admit 23 = .ok (.iconst (-1), 1) := by decide +kernel
theorem dX6_admit_24 : decode cX6_admit 24 = .ok (.ireturn, 1) := by decide +kernel
theorem dX6_admit_25 : decode cX6_admit 25 = .ok (.aload_n 0, 1) := by decide +kernel
theorem dX6_admit_26 : decode cX6_admit 26 = .ok (.dup, 1) := by decide +kernel
theorem dX6_admit_27 : decode cX6_admit 27 = .ok (.getfield 15, 3) := by decide +kernel
theorem dX6_admit_30 : decode cX6_admit 30 = .ok (.iconst 1, 1) := by decide +kernel
theorem dX6_admit_31 : decode cX6_admit 31 = .ok (.isub, 1) := by decide +kernel
theorem dX6_admit_32 : decode cX6_admit 32 = .ok (.putfield 15, 3) := by decide +kernel
theorem dX6_admit_35 : decode cX6_admit 35 = .ok (.aload_n 0, 1) := by decide +kernel
theorem dX6_admit_36 : decode cX6_admit 36 = .ok (.getfield 34, 3) := by decide +kernel
theorem dX6_admit_39 : decode cX6_admit 39 = .ok (.aload_n 0, 1) := by decide +kernel
theorem dX6_admit_40 : decode cX6_admit 40 = .ok (.getfield 15, 3) := by decide +kernel
theorem dX6_admit_43 : decode cX6_admit 43 = .ok (.iaload, 1) := by decide +kernel
theorem dX6_admit_44 : decode cX6_admit 44 = .ok (.istore_n 3, 1) := by decide +kernel
theorem dX6_admit_45 : decode cX6_admit 45 = .ok (.iload_n 3, 1) := by decide +kernel
theorem dX6_admit_46 : decode cX6_admit 46 = .ok (.invokestatic 88, 3) := by decide +kernel
theorem dX6_admit_49 : decode cX6_admit 49 = .ok (.ifCond .eq 33, 3) := by decide +kernel
theorem dX6_admit_52 : decode cX6_admit 52 = .ok (.aload_n 0, 1) := by decide +kernel
theorem dX6_admit_53 : decode cX6_admit 53 = .ok (.getfield 40, 3) := by decide +kernel
theorem dX6_admit_56 : decode cX6_admit 56 = .ok (.iload_n 3, 1) := by decide +kernel
theorem dX6_admit_57 : decode cX6_admit 57 = .ok (.iload_n 1, 1) := by decide +kernel
theorem dX6_admit_58 : decode cX6_admit 58 = .ok (.iastore, 1) := by decide +kernel
theorem dX6_admit_59 : decode cX6_admit 59 = .ok (.aload_n 0, 1) := by decide +kernel
theorem dX6_admit_60 : decode cX6_admit 60 = .ok (.getfield 43, 3) := by decide +kernel
theorem dX6_admit_63 : decode cX6_admit 63 = .ok (.iload_n 3, 1) := by decide +kernel
theorem dX6_admit_64 : decode cX6_admit 64 = .ok (.iconst 0, 1) := by decide +kernel
theorem dX6_admit_65 : decode cX6_admit 65 = .ok (.iastore, 1) := by decide +kernel
theorem dX6_admit_66 : decode cX6_admit 66 = .ok (.aload_n 0, 1) := by decide +kernel
theorem dX6_admit_67 : decode cX6_admit 67 = .ok (.iload_n 3, 1) := by decide +kernel
theorem dX6_admit_68 : decode cX6_admit 68 = .ok (.iload_n 2, 1) := by decide +kernel
theorem dX6_admit_69 : decode cX6_admit 69 = .ok (.invokevirtual 110, 3) := by decide +kernel
theorem dX6_admit_72 : decode cX6_admit 72 = .ok (.aload_n 0, 1) := by decide +kernel
theorem dX6_admit_73 : decode cX6_admit 73 = .ok (.dup, 1) := by decide +kernel
theorem dX6_admit_74 : decode cX6_admit 74 = .ok (.getfield 56, 3) := by decide +kernel
theorem dX6_admit_77 : decode cX6_admit 77 = .ok (.iload_n 1, 1) := by decide +kernel
theorem dX6_admit_78 : decode cX6_admit 78 = .ok (.iadd, 1) := by decide +kernel
theorem dX6_admit_79 : decode cX6_admit 79 = .ok (.putfield 56, 3) := by decide +kernel
theorem dX6_admit_82 : decode cX6_admit 82 = .ok (.iload_n 3, 1) := by decide +kernel
theorem dX6_admit_83 : decode cX6_admit 83 = .ok (.ireturn, 1) := by decide +kernel
theorem dX6_append_0 : decode cX6_append 0 = .ok (.iload_n 1, 1) := by decide +kernel
theorem dX6_append_1 : decode cX6_append 1 = .ok (.ifCond .lt 40, 3) := by decide +kernel
theorem dX6_append_4 : decode cX6_append 4 = .ok (.iload_n 1, 1) := by decide +kernel
theorem dX6_append_5 : decode cX6_append 5 = .ok (.sipush 240, 3) := by decide +kernel
theorem dX6_append_8 : decode cX6_append 8 = .ok (.if_icmp .ge 33, 3) := by decide +kernel
theorem dX6_append_11 : decode cX6_append 11 = .ok (.iload_n 2, 1) := by decide +kernel
theorem dX6_append_12 : decode cX6_append 12 = .ok (.ifCond .lt 29, 3) := by decide +kernel
theorem dX6_append_15 : decode cX6_append 15 = .ok (.iload_n 2, 1) := by decide +kernel
theorem dX6_append_16 : decode cX6_append 16 = .ok (.bipush 24, 2) := by decide +kernel
theorem dX6_append_18 : decode cX6_append 18 = .ok (.if_icmp .ge 23, 3) := by decide +kernel
theorem dX6_append_21 : decode cX6_append 21 = .ok (.aload_n 0, 1) := by decide +kernel
theorem dX6_append_22 : decode cX6_append 22 = .ok (.getfield 25, 3) := by decide +kernel
theorem dX6_append_25 : decode cX6_append 25 = .ok (.iload_n 2, 1) := by decide +kernel
theorem dX6_append_26 : decode cX6_append 26 = .ok (.iaload, 1) := by decide +kernel
theorem dX6_append_27 : decode cX6_append 27 = .ok (.ifCond .lt 14, 3) := by decide +kernel
theorem dX6_append_30 : decode cX6_append 30 = .ok (.aload_n 0, 1) := by decide +kernel
theorem dX6_append_31 : decode cX6_append 31 = .ok (.getfield 25, 3) := by decide +kernel
theorem dX6_append_34 : decode cX6_append 34 = .ok (.iload_n 2, 1) := by decide +kernel
theorem dX6_append_35 : decode cX6_append 35 = .ok (.iaload, 1) := by decide +kernel
theorem dX6_append_36 : decode cX6_append 36 = .ok (.bipush 10, 2) := by decide +kernel
theorem dX6_append_38 : decode cX6_append 38 = .ok (.if_icmp .lt 4, 3) := by decide +kernel
theorem dX6_append_42 : decode cX6_append 42 = .ok (.iload_n 2, 1) := by decide +kernel
theorem dX6_append_43 : decode cX6_append 43 = .ok (.bipush 10, 2) := by decide +kernel
theorem dX6_append_45 : decode cX6_append 45 = .ok (.imul, 1) := by decide +kernel
theorem dX6_append_46 : decode cX6_append 46 = .ok (.aload_n 0, 1) := by decide +kernel
theorem dX6_append_47 : decode cX6_append 47 = .ok (.getfield 25, 3) := by decide +kernel
theorem dX6_append_50 : decode cX6_append 50 = .ok (.iload_n 2, 1) := by decide +kernel
theorem dX6_append_51 : decode cX6_append 51 = .ok (.iaload, 1) := by decide +kernel
theorem dX6_append_52 : decode cX6_append 52 = .ok (.iadd, 1) := by decide +kernel
theorem dX6_append_53 : decode cX6_append 53 = .ok (.istore_n 3, 1) := by decide +kernel
theorem dX6_append_54 : decode cX6_append 54 = .ok (.aload_n 0, 1) := by decide +kernel
theorem dX6_append_55 : decode cX6_append 55 = .ok (.getfield 28, 3) := by decide +kernel
theorem dX6_append_58 : decode cX6_append 58 = .ok (.iload_n 3, 1) := by decide +kernel
theorem dX6_append_59 : decode cX6_append 59 = .ok (.iload_n 1, 1) := by decide +kernel
theorem dX6_append_60 : decode cX6_append 60 = .ok (.iastore, 1) := by decide +kernel
theorem dX6_append_61 : decode cX6_append 61 = .ok (.aload_n 0, 1) := by decide +kernel
theorem dX6_append_62 : decode cX6_append 62 = .ok (.getfield 31, 3) := by decide +kernel
theorem dX6_append_65 : decode cX6_append 65 = .ok (.iload_n 3, 1) := by decide +kernel
theorem dX6_append_66 : decode cX6_append 66 = .ok (.aload_n 0, 1) := by decide +kernel
theorem dX6_append_67 : decode cX6_append 67 = .ok (.getfield 40, 3) := by decide +kernel
theorem dX6_append_70 : decode cX6_append 70 = .ok (.iload_n 1, 1) := by decide +kernel
theorem dX6_append_71 : decode cX6_append 71 = .ok (.iaload, 1) := by decide +kernel
theorem dX6_append_72 : decode cX6_append 72 = .ok (.iastore, 1) := by decide +kernel
theorem dX6_append_73 : decode cX6_append 73 = .ok (.aload_n 0, 1) := by decide +kernel
theorem dX6_append_74 : decode cX6_append 74 = .ok (.getfield 25, 3) := by decide +kernel
theorem dX6_append_77 : decode cX6_append 77 = .ok (.iload_n 2, 1) := by decide +kernel
theorem dX6_append_78 : decode cX6_append 78 = .ok (.dup2, 1) := by decide +kernel
theorem dX6_append_79 : decode cX6_append 79 = .ok (.iaload, 1) := by decide +kernel
theorem dX6_append_80 : decode cX6_append 80 = .ok (.iconst 1, 1) := by decide +kernel
theorem dX6_append_81 : decode cX6_append 81 = .ok (.iadd, 1) := by decide +kernel
theorem dX6_append_82 : decode cX6_append 82 = .ok (.iastore, 1) := by decide +kernel
theorem dX6_append_83 : decode cX6_append 83 = .ok (.aload_n 0, 1) := by decide +kernel
theorem dX6_append_84 : decode cX6_append 84 = .ok (.getfield 37, 3) := by decide +kernel
theorem dX6_append_87 : decode cX6_append 87 = .ok (.iload_n 1, 1) := by decide +kernel
theorem dX6_append_88 : decode cX6_append 88 = .ok (.iload_n 2, 1) := by decide +kernel
theorem dX6_append_89 : decode cX6_append 89 = .ok (.bipush 64, 2) := by decide +kernel
theorem dX6_append_91 : decode cX6_append 91 = .ok (.imul, 1) := by decide +kernel
theorem dX6_append_92 : decode cX6_append 92 = .ok (.aload_n 0, 1) := by decide +kernel
theorem dX6_append_93 : decode cX6_append 93 = .ok (.getfield 18, 3) := by decide +kernel
theorem dX6_append_96 : decode cX6_append 96 = .ok (.iload_n 2, 1) := by decide +kernel
theorem dX6_append_97 : decode cX6_append 97 = .ok (.iaload, 1) := by decide +kernel
theorem dX6_append_98 : decode cX6_append 98 = .ok (.iadd, 1) := by decide +kernel
theorem dX6_append_99 : decode cX6_append 99 = .ok (.iastore, 1) := by decide +kernel
theorem dX6_append_100 : decode cX6_append 100 = .ok (.aload_n 0, 1) := by decide +kernel
theorem dX6_append_101 : decode cX6_append 101 = .ok (.getfield 18, 3) := by decide +kernel
theorem dX6_append_104 : decode cX6_append 104 = .ok (.iload_n 2, 1) := by decide +kernel
theorem dX6_append_105 : decode cX6_append 105 = .ok (.dup2, 1) := by decide +kernel
theorem dX6_append_106 : decode cX6_append 106 = .ok (.iaload, 1) := by decide +kernel
theorem dX6_append_107 : decode cX6_append 107 = .ok (.aload_n 0, 1) := by decide +kernel
theorem dX6_append_108 : decode cX6_append 108 = .ok (.getfield 40, 3) := by decide +kernel
theorem dX6_append_111 : decode cX6_append 111 = .ok (.iload_n 1, 1) := by decide +kernel
theorem dX6_append_112 : decode cX6_append 112 = .ok (.iaload, 1) := by decide +kernel
theorem dX6_append_113 : decode cX6_append 113 = .ok (.iadd, 1) := by decide +kernel
theorem dX6_append_114 : decode cX6_append 114 = .ok (.iastore, 1) := by decide +kernel
theorem dX6_append_115 : decode cX6_append 115 = .ok (.aload_n 0, 1) := by decide +kernel
theorem dX6_append_116 : decode cX6_append 116 = .ok (.iload_n 2, 1) := by decide +kernel
theorem dX6_append_117 : decode cX6_append 117 = .ok (.putfield 9, 3) := by decide +kernel
theorem dX6_append_120 : decode cX6_append 120 = .ok (.return_, 1) := by decide +kernel
theorem hd_X6_append : yX6_append.cls = RX6 ∧ yX6_append.cls ≠ "java/lang/invoke/MethodHandle" ∧ yX6_append.cls ≠ "java/lang/invoke/VarHandle" ∧ (parseMethodDescriptor yX6_append.desc).map (fun d => d.parameters.length) = some 2 := by decide +kernel
theorem hd_X8_isRecord : yX8_isRecord.cls = RX8 ∧ yX8_isRecord.cls ≠ "java/lang/invoke/MethodHandle" ∧ yX8_isRecord.cls ≠ "java/lang/invoke/VarHandle" ∧ (parseMethodDescriptor yX8_isRecord.desc).map (fun d => d.parameters.length) = some 1 := by decide +kernel
/-! How records of one size come to fresh pages, as numbers: (pages that are full, records on the page at hand, its bytes). -/
def stp (z : Nat) (t : Nat × Nat × Nat) : Nat × Nat × Nat := if t.2.2 + z + z ≤ 64 then (t.1, t.2.1 + 1, t.2.2 + z) else (t.1 + 1, 0, 0)
def stn (z : Nat) : Nat → Nat × Nat × Nat
  | 0 => (0, 0, 0)
  | n + 1 => stp z (stn z n)
theorem stn_in {z n q r w : Nat} (h : stn z n = (q, r, w)) (h2 : w + z + z ≤ 64) : stn z (n + 1) = (q, r + 1, w + z) := by
  show stp z (stn z n) = _
  rw [h]
  unfold stp
  exact if_pos h2
theorem stn_out {z n q r w : Nat} (h : stn z n = (q, r, w)) (h2 : ¬ w + z + z ≤ 64) : stn z (n + 1) = (q + 1, 0, 0) := by
  show stp z (stn z n) = _
  rw [h]
  unfold stp
  exact if_neg h2
def done (z n : Nat) : Prop := (stn z n).1 = 23 ∧ ∀ k, k < n → (stn z k).1 < 23
theorem done_unique {z n k : Nat} (h : done z n) (h' : done z k) : n = k := by
  rcases Nat.lt_trichotomy n k with a | a | a
  · have h1 := h'.2 n a
    have h2 := h.1
    omega
  · exact a
  · have h1 := h.2 k a
    have h2 := h'.1
    omega
def ansRoom (x r : Int32) : Prop := ∃ z n : Nat, z ≤ 52 ∧ x = nI z ∧ r = nI n ∧ done z n
theorem ansRoom_eq {x r r' : Int32} (h : ansRoom x r) (h' : ansRoom x r') : r = r' := by
  obtain ⟨z, n, hz, e1, e2, hd⟩ := h
  obtain ⟨z', n', hz', e1', e2', hd'⟩ := h'
  have ez : z = z' := (nI_eq (by omega) (by omega)).mp (e1.symm.trans e1')
  subst ez
  rw [e2, e2', done_unique hd hd']
theorem size_nat {x : Int32} (h : 6 ≤ x ∧ x ≤ 52) : ∃ z : Nat, 6 ≤ z ∧ z ≤ 52 ∧ x = nI z := by
  obtain ⟨j, hj, e⟩ := nI_of (x := x) (by grind)
  subst e
  exact ⟨j, (nI_leI (a := 6) (by omega) hj).mp h.1, (nI_leI (b := 52) hj (by omega)).mp h.2, rfl⟩
def zc (we : Nat → Nat) : Nat → Nat
  | 0 => 0
  | n + 1 => zc we n + (if we n = 0 then 1 else 0)
theorem zc_1 {we : Nat → Nat} {i : Nat} (h : we i = 0) : zc we (i + 1) = zc we i + 1 := by
  show zc we i + (if we i = 0 then 1 else 0) = _
  rw [if_pos h]
theorem zc_0 {we : Nat → Nat} {i : Nat} (h : ¬ we i = 0) : zc we (i + 1) = zc we i := by
  show zc we i + (if we i = 0 then 1 else 0) = _
  rw [if_neg h]
  rfl
theorem zc_le (we : Nat → Nat) : ∀ n, zc we n ≤ n
  | 0 => Nat.le_refl 0
  | n + 1 => by
    have := zc_le we n
    by_cases h : we n = 0
    · rw [zc_1 h]; omega
    · rw [zc_0 h]; omega
theorem zc_of {we : Nat → Nat} {u : Nat} (h1 : ∀ j, j < u → 0 < we j) : ∀ n, (∀ j, u ≤ j → j < n → we j = 0) → zc we n = n - u
  | 0, _ => by simp [zc]
  | n + 1, h2 => by
    have ih := zc_of h1 n (fun j a b => h2 j a (by omega))
    by_cases h : n < u
    · rw [zc_0 (by have := h1 n h; omega), ih]; omega
    · rw [zc_1 (h2 n (by omega) (by omega)), ih]; omega
theorem nI_nem1 {n : Nat} (h : n < 2 ^ 31) : ¬ nI n = -1 := fun e => by
  have h1 := nI_pos h
  rw [e] at h1
  exact h1 (by decide)
theorem nI_rng {n N : Nat} (h : n < N) (hN : N < 2 ^ 31) : ¬ (nI n < 0 ∨ nI N ≤ nI n) := by
  rintro (a | a)
  · exact nI_pos (by omega) a
  · exact absurd ((nI_leI hN (by omega)).mp a) (by omega)
theorem upd_at {f : Nat → Int32} {k j : Nat} {x : Int32} : upd f k x j = if j = k then x else f j := rfl
def wup (f : Nat → Nat) (k x : Nat) : Nat → Nat := fun j => if j = k then x else f j
theorem wup_s {f : Nat → Nat} {k x : Nat} : wup f k x k = x := if_pos rfl
theorem wup_n {f : Nat → Nat} {k x j : Nat} (h : j ≠ k) : wup f k x j = f j := if_neg h
/-- a record came to page q -/
theorem hE_up {e : Nat → Int32} {we : Nat → Nat} {q z : Nat} (hE : ∀ j, j < 24 → e j = nI (we j) ∧ we j ≤ 64) (hz : we q + z ≤ 64) (hq : q < 24) : ∀ j, j < 24 → upd e q (e q + nI z) j = nI (wup we q (we q + z) j) ∧ wup we q (we q + z) j ≤ 64 := by
  intro j hj
  by_cases h : j = q
  · subst h
    rw [pk_us, wup_s, (hE j hj).1, nI_add]
    exact ⟨rfl, hz⟩
  · rw [pk_un h, wup_n h]
    exact hE j hj
theorem hM_up {sc sr : Nat → Int32} {mm : Nat → Nat} {q r : Nat} {v : Int32} (hM : ∀ j, j < 24 → sc j = nI (mm j) ∧ mm j ≤ 10 ∧ ∀ i, i < mm j → ¬ sr (j * 10 + i) = -1) (hr : mm q = r) (h9 : r < 10) (hv : ¬ v = -1) : ∀ j, j < 24 → upd sc q (nI (r + 1)) j = nI (wup mm q (r + 1) j) ∧ wup mm q (r + 1) j ≤ 10 ∧ ∀ i, i < wup mm q (r + 1) j → ¬ upd sr (q * 10 + r) v (j * 10 + i) = -1 := by
  intro j hj
  by_cases h : j = q
  · subst h
    rw [pk_us, wup_s]
    refine ⟨rfl, by omega, fun i hi => ?_⟩
    by_cases e : i = r
    · subst e; rw [pk_us]; exact hv
    · rw [pk_un (by omega)]; exact (hM j hj).2.2 i (by omega)
  · rw [pk_un h, wup_n h]
    refine ⟨(hM j hj).1, (hM j hj).2.1, fun i hi => ?_⟩
    have h1 := (hM j hj).2.1
    rw [pk_un (by omega)]
    exact (hM j hj).2.2 i hi

abbrev rm_c_X6_fitting_n : Room := { frames := 0, cells := 0, slots := 0, locals := 0 }
set_option maxHeartbeats 4000000 in
set_option maxRecDepth 100000 in
theorem c_X6_fitting_n (l : Launch) (D : va_G) (cs : Nat → ClassId) (sz : Nat) (drp : Nat) (drp1 : Nat) (drp2 : Nat) (drp3 : Nat) (drp4 : Nat) (drp5 : Nat) (drp6 : Nat) (drp7 : Nat) (drp8 : Nat) (drp9 : Nat) (drp10 : Nat) (fe : Nat → Int32) (zz : Nat) (uc : Nat) (la : Int32) (pb : Int32) (we : Nat → Nat) (hE : ∀ j, j < 24 → fe j = nI (we j) ∧ we j ≤ 64) (hzz : 1 ≤ zz ∧ zz ≤ 64) (hN : ∀ j, j < 24 → ¬ (0 < we j ∧ we j + zz ≤ 64)) : cMi l yX6_fitting (Cond.code yX6_fitting cX6_fitting 7 (some .int)) (rm_c_X6_fitting_n) D cs [.ref drp, .int (nI zz), .int (-1)] sz [(drp, .inr (6, [.int 0, .int 0, .int la, .int pb, .int 0, .int 0, .int (nI uc), .ref drp1, .ref drp2, .ref drp3, .ref drp4, .ref drp5, .ref drp6, .ref drp7, .ref drp8, .ref drp9, .ref drp10])), (drp1, aI cs 24 fe)] (fun (r : Int32) (u : Unit) => (r = (-1))) (fun (u : Unit) => [(drp, .inr (6, [.int 0, .int 0, .int la, .int pb, .int 0, .int 0, .int (nI uc), .ref drp1, .ref drp2, .ref drp3, .ref drp4, .ref drp5, .ref drp6, .ref drp7, .ref drp8, .ref drp9, .ref drp10])), (drp1, aI cs 24 fe)]) := by
  refine kMet_i RX6 (by decide) rfl (Nat.le_of_ble_eq_true rfl) ?_
  intro p e s m below meth c ls A Qz H locs hx hb hml hown hin hu hK hsz hA hP hD hS hl hz
  subst hsz
  have hl : lv_has ls 7 [(0, .ref drp), (1, .int (nI zz)), (2, .int (-1))] := hl
  refine lv_iconst (v := (-1)) hx hb dX6_fitting_0 (by decide) ?_
  refine lv_istore_n (lv' := [(3, .int (-1)), (0, .ref drp), (1, .int (nI zz)), (2, .int (-1))]) hx hb dX6_fitting_1 rfl hl (by decide) rfl (fun ls hl => ?_)
  refine lv_iconst (v := 0) hx hb dX6_fitting_2 (by decide) ?_
  refine lv_istore (lv' := [(4, .int 0), (3, .int (-1)), (0, .ref drp), (1, .int (nI zz)), (2, .int (-1))]) hx hb dX6_fitting_3 hl (by decide) rfl (fun ls hl => ?_)
  refine lv_iconst (v := 0) hx hb dX6_fitting_5 (by decide) ?_
  refine lv_istore (lv' := [(5, .int 0), (4, .int 0), (3, .int (-1)), (0, .ref drp), (1, .int (nI zz)), (2, .int (-1))]) hx hb dX6_fitting_6 hl (by decide) rfl (fun ls hl => ?_)
  have lp_1 : ∀ (fuel : Nat) (i : Nat) (hfuel : 24 < i + fuel) (hi : i ≤ 24) (H : Heap) (locs : List Loc) (hP : va_P D vwCl [(drp, .inr (6, [.int 0, .int 0, .int la, .int pb, .int 0, .int 0, .int (nI uc), .ref drp1, .ref drp2, .ref drp3, .ref drp4, .ref drp5, .ref drp6, .ref drp7, .ref drp8, .ref drp9, .ref drp10])), (drp1, aI cs 24 fe)] H) (hD : va_D A [(drp, .inr (6, [.int 0, .int 0, .int la, .int pb, .int 0, .int 0, .int (nI uc), .ref drp1, .ref drp2, .ref drp3, .ref drp4, .ref drp5, .ref drp6, .ref drp7, .ref drp8, .ref drp9, .ref drp10])), (drp1, aI cs 24 fe)]) (hS : va_S A s.heap H locs) (ls : Array Slot) (hl : lv_has ls 7 [(5, .int (nI i)), (4, .int 0), (3, .int (-1)), (0, .ref drp), (1, .int (nI zz)), (2, .int (-1))]), W p l e rm_c_X6_fitting_n s m [.ref drp, .int (nI zz), .int (-1)].toArray below meth c H locs 0 0 Qz (F0 m 8 ls []) := by
    intro fuel
    induction fuel with
    | zero =>
      intro i hfuel hi H locs hP hD hS ls hl
      exact absurd hfuel (by omega)
    | succ fuel ih =>
      intro i hfuel hi H locs hP hD hS ls hl
      refine lv_iload hx hb dX6_fitting_8 (lv_at hl 0 rfl) ?_
      refine lv_bipush (v := 24) hx hb dX6_fitting_10 (by decide) ?_
      refine lv_icmp_ge (tgt := 117) hx hb dX6_fitting_12 (by decide) (fun c_2 => ?_) (fun c_2 => ?_)
      · have gc_2 : 24 ≤ i := (nI_leI (a := 24) (b := i) (by omega) (by omega)).mp c_2
        refine lv_iload_n hx hb dX6_fitting_117 rfl (lv_at hl 2 rfl) ?_
        exact hz () hP hD hS rfl [0, 1] rfl rfl (Nat.le_of_ble_eq_true rfl) (Nat.le_of_ble_eq_true rfl) .int rfl rfl dX6_fitting_118
      · have gc_2 : ¬ 24 ≤ i := fun h => c_2 ((nI_leI (a := 24) (b := i) (by omega) (by omega)).mpr h)
        refine lv_aload_n hx hb dX6_fitting_15 rfl (lv_at hl 3 rfl) ?_
        refine va_get (D := D) (ci := 6) (v := .ref drp1) (C := RX6) (T := TX6) (N := 17) hx hb hu in_X6 hown hK.1 hP 0 rfl rfl 7 (by decide) (hu _ u_210) (fun _ h9 => h9) rfl dX6_fitting_16 ?_
        refine lv_iload hx hb dX6_fitting_19 (lv_at hl 0 rfl) ?_
        refine va_iald hx hb hK.1 hP 1 0 rfl rfl (vp_in_nI (by omega) (by omega)) dX6_fitting_21 ?_
        have hw_3 := (hE i (by omega)).2
        refine tpi (y := nI (we i)) ((congrArg fe (nI_clamp (by omega))).trans (hE _ (by omega)).1) ?_
        refine lv_if_le (tgt := 49) hx hb dX6_fitting_22 (by decide) (fun c_4 => ?_) (fun c_4 => ?_)
        · have gc_4 : we i ≤ 0 := (nI_leI (a := (we i)) (b := 0) (by omega) (by omega)).mp c_4
          refine lv_iconst (v := 0) hx hb dX6_fitting_49 (by decide) ?_
          refine lv_istore (lv' := [(6, .int 0), (5, .int (nI i)), (4, .int 0), (3, .int (-1)), (0, .ref drp), (1, .int (nI zz)), (2, .int (-1))]) hx hb dX6_fitting_50 hl (by decide) rfl (fun ls hl => ?_)
          refine lv_iload hx hb dX6_fitting_52 (lv_at hl 0 rfl) ?_
          refine lv_if_eq (tgt := 111) hx hb dX6_fitting_54 (by decide) (fun c_5 => ?_) (fun c_5 => absurd (by decide) c_5)
          refine lv_iinc (v := nI (i + 1)) (lv' := [(5, .int (nI (i + 1))), (6, .int 0), (4, .int 0), (3, .int (-1)), (0, .ref drp), (1, .int (nI zz)), (2, .int (-1))]) hx hb dX6_fitting_111 hl (k := 1) rfl (nI_1 _) (by decide) rfl (fun ls hl => ?_)
          refine lv_goto (tgt := 8) hx hb dX6_fitting_114 (by decide) ?_
          exact ih (i + 1) (by omega) (by omega) H locs (hP.sub [0, 1] rfl) (hD.sub [0, 1] rfl rfl) hS ls (lv_sub hl [0, 2, 3, 4, 5, 6] rfl)
        · have gc_4 : ¬ (we i) ≤ 0 := fun h => c_4 ((nI_leI (a := (we i)) (b := 0) (by omega) (by omega)).mpr h)
          refine lv_bipush (v := 64) hx hb dX6_fitting_25 (by decide) ?_
          refine lv_aload_n hx hb dX6_fitting_27 rfl (lv_at hl 3 rfl) ?_
          refine va_get (D := D) (ci := 6) (v := .ref drp1) (C := RX6) (T := TX6) (N := 17) hx hb hu in_X6 hown hK.1 hP 0 rfl rfl 7 (by decide) (hu _ u_210) (fun _ h9 => h9) rfl dX6_fitting_28 ?_
          refine lv_iload hx hb dX6_fitting_31 (lv_at hl 0 rfl) ?_
          refine va_iald hx hb hK.1 hP 1 0 rfl rfl (vp_in_nI (by omega) (by omega)) dX6_fitting_33 ?_
          have hw_6 := (hE i (by omega)).2
          refine tpi (y := nI (we i)) ((congrArg fe (nI_clamp (by omega))).trans (hE _ (by omega)).1) ?_
          refine lv_isub hx hb dX6_fitting_34 ?_
          refine tpi (y := nI (64 - (we i))) (pk_sub (a := 64) (b := we i) (by omega)) ?_
          refine lv_iload_n hx hb dX6_fitting_35 rfl (lv_at hl 4 rfl) ?_
          refine lv_icmp_lt (tgt := 49) hx hb dX6_fitting_36 (by decide) (fun c_7 => ?_) (fun c_7 => ?_)
          · have gc_7 : 64 - (we i) < zz := (nI_ltI (a := (64 - (we i))) (b := zz) (by omega) (by omega)).mp c_7
            refine lv_iconst (v := 0) hx hb dX6_fitting_49 (by decide) ?_
            refine lv_istore (lv' := [(6, .int 0), (5, .int (nI i)), (4, .int 0), (3, .int (-1)), (0, .ref drp), (1, .int (nI zz)), (2, .int (-1))]) hx hb dX6_fitting_50 hl (by decide) rfl (fun ls hl => ?_)
            refine lv_iload hx hb dX6_fitting_52 (lv_at hl 0 rfl) ?_
            refine lv_if_eq (tgt := 111) hx hb dX6_fitting_54 (by decide) (fun c_8 => ?_) (fun c_8 => absurd (by decide) c_8)
            refine lv_iinc (v := nI (i + 1)) (lv' := [(5, .int (nI (i + 1))), (6, .int 0), (4, .int 0), (3, .int (-1)), (0, .ref drp), (1, .int (nI zz)), (2, .int (-1))]) hx hb dX6_fitting_111 hl (k := 1) rfl (nI_1 _) (by decide) rfl (fun ls hl => ?_)
            refine lv_goto (tgt := 8) hx hb dX6_fitting_114 (by decide) ?_
            exact ih (i + 1) (by omega) (by omega) H locs (hP.sub [0, 1] rfl) (hD.sub [0, 1] rfl rfl) hS ls (lv_sub hl [0, 2, 3, 4, 5, 6] rfl)
          · have gc_7 : ¬ (64 - (we i)) < zz := fun h => c_7 ((nI_ltI (a := (64 - (we i))) (b := zz) (by omega) (by omega)).mpr h)
            refine lv_iload hx hb dX6_fitting_39 (lv_at hl 0 rfl) ?_
            refine lv_iload_n hx hb dX6_fitting_41 rfl (lv_at hl 5 rfl) ?_
            refine lv_icmp_eq (tgt := 49) hx hb dX6_fitting_42 (by decide) (fun c_9 => absurd c_9 (nI_nem1 (by omega))) (fun c_9 => ?_)
            exact absurd ⟨by omega, by omega⟩ (hN i (by omega))
  exact lp_1 (24 + 1) 0 (by omega) (by omega) H locs (hP.sub [0, 1] rfl) (hD.sub [0, 1] rfl rfl) hS ls (lv_sub hl [0, 1, 2, 3, 4, 5] rfl)
abbrev rm_c_X6_fitting_q : Room := { frames := 0, cells := 0, slots := 0, locals := 0 }
set_option maxHeartbeats 4000000 in
set_option maxRecDepth 100000 in
theorem c_X6_fitting_q (l : Launch) (D : va_G) (cs : Nat → ClassId) (sz : Nat) (drp : Nat) (drp1 : Nat) (drp2 : Nat) (drp3 : Nat) (drp4 : Nat) (drp5 : Nat) (drp6 : Nat) (drp7 : Nat) (drp8 : Nat) (drp9 : Nat) (drp10 : Nat) (fe : Nat → Int32) (zz : Nat) (qq : Nat) (uc : Nat) (pb : Int32) (we : Nat → Nat) (hE : ∀ j, j < 24 → fe j = nI (we j) ∧ we j ≤ 64) (hzz : 1 ≤ zz ∧ zz ≤ 64) (hq24 : qq < 24) (hqp : 0 < we qq) (hqz : we qq + zz ≤ 64) : cMi l yX6_fitting (Cond.code yX6_fitting cX6_fitting 7 (some .int)) (rm_c_X6_fitting_q) D cs [.ref drp, .int (nI zz), .int (-1)] sz [(drp, .inr (6, [.int 0, .int 0, .int (nI qq), .int pb, .int 0, .int 0, .int (nI uc), .ref drp1, .ref drp2, .ref drp3, .ref drp4, .ref drp5, .ref drp6, .ref drp7, .ref drp8, .ref drp9, .ref drp10])), (drp1, aI cs 24 fe)] (fun (r : Int32) (u : Unit) => (r = (nI qq))) (fun (u : Unit) => [(drp, .inr (6, [.int 0, .int 0, .int (nI qq), .int pb, .int 0, .int 0, .int (nI uc), .ref drp1, .ref drp2, .ref drp3, .ref drp4, .ref drp5, .ref drp6, .ref drp7, .ref drp8, .ref drp9, .ref drp10])), (drp1, aI cs 24 fe)]) := by
  refine kMet_i RX6 (by decide) rfl (Nat.le_of_ble_eq_true rfl) ?_
  intro p e s m below meth c ls A Qz H locs hx hb hml hown hin hu hK hsz hA hP hD hS hl hz
  subst hsz
  have hl : lv_has ls 7 [(0, .ref drp), (1, .int (nI zz)), (2, .int (-1))] := hl
  refine lv_iconst (v := (-1)) hx hb dX6_fitting_0 (by decide) ?_
  refine lv_istore_n (lv' := [(3, .int (-1)), (0, .ref drp), (1, .int (nI zz)), (2, .int (-1))]) hx hb dX6_fitting_1 rfl hl (by decide) rfl (fun ls hl => ?_)
  refine lv_iconst (v := 0) hx hb dX6_fitting_2 (by decide) ?_
  refine lv_istore (lv' := [(4, .int 0), (3, .int (-1)), (0, .ref drp), (1, .int (nI zz)), (2, .int (-1))]) hx hb dX6_fitting_3 hl (by decide) rfl (fun ls hl => ?_)
  refine lv_iconst (v := 0) hx hb dX6_fitting_5 (by decide) ?_
  refine lv_istore (lv' := [(5, .int 0), (4, .int 0), (3, .int (-1)), (0, .ref drp), (1, .int (nI zz)), (2, .int (-1))]) hx hb dX6_fitting_6 hl (by decide) rfl (fun ls hl => ?_)
  have lp_1 : ∀ (fuel : Nat) (i : Nat) (t : Int32) (ff : Int32) (hfuel : 24 < i + fuel) (hi : i ≤ 24) (ht : (i ≤ qq → t = -1 ∧ ff = 0) ∧ (qq < i → t = nI qq)) (H : Heap) (locs : List Loc) (hP : va_P D vwCl [(drp, .inr (6, [.int 0, .int 0, .int (nI qq), .int pb, .int 0, .int 0, .int (nI uc), .ref drp1, .ref drp2, .ref drp3, .ref drp4, .ref drp5, .ref drp6, .ref drp7, .ref drp8, .ref drp9, .ref drp10])), (drp1, aI cs 24 fe)] H) (hD : va_D A [(drp, .inr (6, [.int 0, .int 0, .int (nI qq), .int pb, .int 0, .int 0, .int (nI uc), .ref drp1, .ref drp2, .ref drp3, .ref drp4, .ref drp5, .ref drp6, .ref drp7, .ref drp8, .ref drp9, .ref drp10])), (drp1, aI cs 24 fe)]) (hS : va_S A s.heap H locs) (ls : Array Slot) (hl : lv_has ls 7 [(5, .int (nI i)), (4, .int ff), (3, .int t), (0, .ref drp), (1, .int (nI zz)), (2, .int (-1))]), W p l e rm_c_X6_fitting_q s m [.ref drp, .int (nI zz), .int (-1)].toArray below meth c H locs 0 0 Qz (F0 m 8 ls []) := by
    intro fuel
    induction fuel with
    | zero =>
      intro i t ff hfuel hi ht H locs hP hD hS ls hl
      exact absurd hfuel (by omega)
    | succ fuel ih =>
      intro i t ff hfuel hi ht H locs hP hD hS ls hl
      refine lv_iload hx hb dX6_fitting_8 (lv_at hl 0 rfl) ?_
      refine lv_bipush (v := 24) hx hb dX6_fitting_10 (by decide) ?_
      refine lv_icmp_ge (tgt := 117) hx hb dX6_fitting_12 (by decide) (fun c_2 => ?_) (fun c_2 => ?_)
      · have gc_2 : 24 ≤ i := (nI_leI (a := 24) (b := i) (by omega) (by omega)).mp c_2
        refine lv_iload_n hx hb dX6_fitting_117 rfl (lv_at hl 2 rfl) ?_
        exact hz () hP hD hS (ht.2 (by omega)) [0, 1] rfl rfl (Nat.le_of_ble_eq_true rfl) (Nat.le_of_ble_eq_true rfl) .int rfl rfl dX6_fitting_118
      · have gc_2 : ¬ 24 ≤ i := fun h => c_2 ((nI_leI (a := 24) (b := i) (by omega) (by omega)).mpr h)
        refine lv_aload_n hx hb dX6_fitting_15 rfl (lv_at hl 3 rfl) ?_
        refine va_get (D := D) (ci := 6) (v := .ref drp1) (C := RX6) (T := TX6) (N := 17) hx hb hu in_X6 hown hK.1 hP 0 rfl rfl 7 (by decide) (hu _ u_210) (fun _ h9 => h9) rfl dX6_fitting_16 ?_
        refine lv_iload hx hb dX6_fitting_19 (lv_at hl 0 rfl) ?_
        refine va_iald hx hb hK.1 hP 1 0 rfl rfl (vp_in_nI (by omega) (by omega)) dX6_fitting_21 ?_
        have hw_3 := (hE i (by omega)).2
        refine tpi (y := nI (we i)) ((congrArg fe (nI_clamp (by omega))).trans (hE _ (by omega)).1) ?_
        refine lv_if_le (tgt := 49) hx hb dX6_fitting_22 (by decide) (fun c_4 => ?_) (fun c_4 => ?_)
        · have gc_4 : we i ≤ 0 := (nI_leI (a := (we i)) (b := 0) (by omega) (by omega)).mp c_4
          refine lv_iconst (v := 0) hx hb dX6_fitting_49 (by decide) ?_
          refine lv_istore (lv' := [(6, .int 0), (5, .int (nI i)), (4, .int ff), (3, .int t), (0, .ref drp), (1, .int (nI zz)), (2, .int (-1))]) hx hb dX6_fitting_50 hl (by decide) rfl (fun ls hl => ?_)
          refine lv_iload hx hb dX6_fitting_52 (lv_at hl 0 rfl) ?_
          refine lv_if_eq (tgt := 111) hx hb dX6_fitting_54 (by decide) (fun c_5 => ?_) (fun c_5 => absurd (by decide) c_5)
          refine lv_iinc (v := nI (i + 1)) (lv' := [(5, .int (nI (i + 1))), (6, .int 0), (4, .int ff), (3, .int t), (0, .ref drp), (1, .int (nI zz)), (2, .int (-1))]) hx hb dX6_fitting_111 hl (k := 1) rfl (nI_1 _) (by decide) rfl (fun ls hl => ?_)
          refine lv_goto (tgt := 8) hx hb dX6_fitting_114 (by decide) ?_
          exact ih (i + 1) t ff (by omega) (by omega) (by have hne : i ≠ qq := (by intro h; subst h; omega); exact ⟨fun h => ht.1 (by omega), fun h => ht.2 (by omega)⟩) H locs (hP.sub [0, 1] rfl) (hD.sub [0, 1] rfl rfl) hS ls (lv_sub hl [0, 2, 3, 4, 5, 6] rfl)
        · have gc_4 : ¬ (we i) ≤ 0 := fun h => c_4 ((nI_leI (a := (we i)) (b := 0) (by omega) (by omega)).mpr h)
          refine lv_bipush (v := 64) hx hb dX6_fitting_25 (by decide) ?_
          refine lv_aload_n hx hb dX6_fitting_27 rfl (lv_at hl 3 rfl) ?_
          refine va_get (D := D) (ci := 6) (v := .ref drp1) (C := RX6) (T := TX6) (N := 17) hx hb hu in_X6 hown hK.1 hP 0 rfl rfl 7 (by decide) (hu _ u_210) (fun _ h9 => h9) rfl dX6_fitting_28 ?_
          refine lv_iload hx hb dX6_fitting_31 (lv_at hl 0 rfl) ?_
          refine va_iald hx hb hK.1 hP 1 0 rfl rfl (vp_in_nI (by omega) (by omega)) dX6_fitting_33 ?_
          have hw_6 := (hE i (by omega)).2
          refine tpi (y := nI (we i)) ((congrArg fe (nI_clamp (by omega))).trans (hE _ (by omega)).1) ?_
          refine lv_isub hx hb dX6_fitting_34 ?_
          refine tpi (y := nI (64 - (we i))) (pk_sub (a := 64) (b := we i) (by omega)) ?_
          refine lv_iload_n hx hb dX6_fitting_35 rfl (lv_at hl 4 rfl) ?_
          refine lv_icmp_lt (tgt := 49) hx hb dX6_fitting_36 (by decide) (fun c_7 => ?_) (fun c_7 => ?_)
          · have gc_7 : 64 - (we i) < zz := (nI_ltI (a := (64 - (we i))) (b := zz) (by omega) (by omega)).mp c_7
            refine lv_iconst (v := 0) hx hb dX6_fitting_49 (by decide) ?_
            refine lv_istore (lv' := [(6, .int 0), (5, .int (nI i)), (4, .int ff), (3, .int t), (0, .ref drp), (1, .int (nI zz)), (2, .int (-1))]) hx hb dX6_fitting_50 hl (by decide) rfl (fun ls hl => ?_)
            refine lv_iload hx hb dX6_fitting_52 (lv_at hl 0 rfl) ?_
            refine lv_if_eq (tgt := 111) hx hb dX6_fitting_54 (by decide) (fun c_8 => ?_) (fun c_8 => absurd (by decide) c_8)
            refine lv_iinc (v := nI (i + 1)) (lv' := [(5, .int (nI (i + 1))), (6, .int 0), (4, .int ff), (3, .int t), (0, .ref drp), (1, .int (nI zz)), (2, .int (-1))]) hx hb dX6_fitting_111 hl (k := 1) rfl (nI_1 _) (by decide) rfl (fun ls hl => ?_)
            refine lv_goto (tgt := 8) hx hb dX6_fitting_114 (by decide) ?_
            exact ih (i + 1) t ff (by omega) (by omega) (by have hne : i ≠ qq := (by intro h; subst h; omega); exact ⟨fun h => ht.1 (by omega), fun h => ht.2 (by omega)⟩) H locs (hP.sub [0, 1] rfl) (hD.sub [0, 1] rfl rfl) hS ls (lv_sub hl [0, 2, 3, 4, 5, 6] rfl)
          · have gc_7 : ¬ (64 - (we i)) < zz := fun h => c_7 ((nI_ltI (a := (64 - (we i))) (b := zz) (by omega) (by omega)).mpr h)
            refine lv_iload hx hb dX6_fitting_39 (lv_at hl 0 rfl) ?_
            refine lv_iload_n hx hb dX6_fitting_41 rfl (lv_at hl 5 rfl) ?_
            refine lv_icmp_eq (tgt := 49) hx hb dX6_fitting_42 (by decide) (fun c_9 => absurd c_9 (nI_nem1 (by omega))) (fun c_9 => ?_)
            refine lv_iconst (v := 1) hx hb dX6_fitting_45 (by decide) ?_
            refine lv_goto (tgt := 50) hx hb dX6_fitting_46 (by decide) ?_
            refine lv_istore (lv' := [(6, .int 1), (5, .int (nI i)), (4, .int ff), (3, .int t), (0, .ref drp), (1, .int (nI zz)), (2, .int (-1))]) hx hb dX6_fitting_50 hl (by decide) rfl (fun ls hl => ?_)
            refine lv_iload hx hb dX6_fitting_52 (lv_at hl 0 rfl) ?_
            refine lv_if_eq (tgt := 111) hx hb dX6_fitting_54 (by decide) (fun c_10 => absurd c_10 (by decide)) (fun c_10 => ?_)
            refine lv_aload_n hx hb dX6_fitting_57 rfl (lv_at hl 4 rfl) ?_
            refine va_get (D := D) (ci := 6) (v := .int 0) (C := RX6) (T := TX6) (N := 17) hx hb hu in_X6 hown hK.1 hP 0 rfl rfl 0 (by decide) (hu _ u_197) (fun _ h9 => h9) rfl dX6_fitting_58 ?_
            refine lv_if_ne (tgt := 76) hx hb dX6_fitting_61 (by decide) (fun c_11 => absurd (by decide) c_11) (fun c_11 => ?_)
            refine lv_iload hx hb dX6_fitting_64 (lv_at hl 1 rfl) ?_
            refine lv_aload_n hx hb dX6_fitting_66 rfl (lv_at hl 4 rfl) ?_
            refine va_get (D := D) (ci := 6) (v := .int (nI qq)) (C := RX6) (T := TX6) (N := 17) hx hb hu in_X6 hown hK.1 hP 0 rfl rfl 2 (by decide) (hu _ u_201) (fun _ h9 => h9) rfl dX6_fitting_67 ?_
            refine lv_icmp_eq (tgt := 76) hx hb dX6_fitting_70 (by decide) (fun c_12 => ?_) (fun c_12 => ?_)
            · have gc_12 : i = qq := (nI_eq (a := i) (b := qq) (by omega) (by omega)).mp c_12
              refine lv_aload_n hx hb dX6_fitting_76 rfl (lv_at hl 4 rfl) ?_
              refine va_get (D := D) (ci := 6) (v := .int 0) (C := RX6) (T := TX6) (N := 17) hx hb hu in_X6 hown hK.1 hP 0 rfl rfl 0 (by decide) (hu _ u_197) (fun _ h9 => h9) rfl dX6_fitting_77 ?_
              refine lv_iconst (v := 1) hx hb dX6_fitting_80 (by decide) ?_
              refine lv_icmp_ne (tgt := 87) hx hb dX6_fitting_81 (by decide) (fun c_13 => ?_) (fun c_13 => absurd c_13 (by decide))
              refine lv_aload_n hx hb dX6_fitting_87 rfl (lv_at hl 4 rfl) ?_
              refine va_get (D := D) (ci := 6) (v := .ref drp1) (C := RX6) (T := TX6) (N := 17) hx hb hu in_X6 hown hK.1 hP 0 rfl rfl 7 (by decide) (hu _ u_210) (fun _ h9 => h9) rfl dX6_fitting_88 ?_
              refine lv_iload hx hb dX6_fitting_91 (lv_at hl 1 rfl) ?_
              refine va_iald hx hb hK.1 hP 1 0 rfl rfl (vp_in_nI (by omega) (by omega)) dX6_fitting_93 ?_
              have hw_14 := (hE i (by omega)).2
              refine tpi (y := nI (we i)) ((congrArg fe (nI_clamp (by omega))).trans (hE _ (by omega)).1) ?_
              refine lv_iload hx hb dX6_fitting_94 (lv_at hl 2 rfl) ?_
              refine lv_icmp_le (tgt := 111) hx hb dX6_fitting_96 (by decide) (fun c_15 => absurd c_15 (by rw [(ht.1 (by omega)).2]; exact nI_nle (by omega) (by omega))) (fun c_15 => ?_)
              refine lv_aload_n hx hb dX6_fitting_99 rfl (lv_at hl 4 rfl) ?_
              refine va_get (D := D) (ci := 6) (v := .ref drp1) (C := RX6) (T := TX6) (N := 17) hx hb hu in_X6 hown hK.1 hP 0 rfl rfl 7 (by decide) (hu _ u_210) (fun _ h9 => h9) rfl dX6_fitting_100 ?_
              refine lv_iload hx hb dX6_fitting_103 (lv_at hl 1 rfl) ?_
              refine va_iald hx hb hK.1 hP 1 0 rfl rfl (vp_in_nI (by omega) (by omega)) dX6_fitting_105 ?_
              have hw_16 := (hE i (by omega)).2
              refine tpi (y := nI (we i)) ((congrArg fe (nI_clamp (by omega))).trans (hE _ (by omega)).1) ?_
              refine lv_istore (lv' := [(4, .int (nI (we i))), (6, .int 1), (5, .int (nI i)), (3, .int t), (0, .ref drp), (1, .int (nI zz)), (2, .int (-1))]) hx hb dX6_fitting_106 hl (by decide) rfl (fun ls hl => ?_)
              refine lv_iload hx hb dX6_fitting_108 (lv_at hl 2 rfl) ?_
              refine lv_istore_n (lv' := [(3, .int (nI i)), (4, .int (nI (we i))), (6, .int 1), (5, .int (nI i)), (0, .ref drp), (1, .int (nI zz)), (2, .int (-1))]) hx hb dX6_fitting_110 rfl hl (by decide) rfl (fun ls hl => ?_)
              refine lv_iinc (v := nI (i + 1)) (lv' := [(5, .int (nI (i + 1))), (3, .int (nI i)), (4, .int (nI (we i))), (6, .int 1), (0, .ref drp), (1, .int (nI zz)), (2, .int (-1))]) hx hb dX6_fitting_111 hl (k := 3) rfl (nI_1 _) (by decide) rfl (fun ls hl => ?_)
              refine lv_goto (tgt := 8) hx hb dX6_fitting_114 (by decide) ?_
              exact ih (i + 1) (nI i) (nI (we i)) (by omega) (by omega) (⟨fun h => absurd h (by omega), fun _ => congrArg nI gc_12⟩) H locs (hP.sub [0, 1] rfl) (hD.sub [0, 1] rfl rfl) hS ls (lv_sub hl [0, 2, 1, 4, 5, 6] rfl)
            · have gc_12 : ¬ i = qq := fun h => c_12 ((nI_eq (a := i) (b := qq) (by omega) (by omega)).mpr h)
              refine lv_goto (tgt := 111) hx hb dX6_fitting_73 (by decide) ?_
              refine lv_iinc (v := nI (i + 1)) (lv' := [(5, .int (nI (i + 1))), (6, .int 1), (4, .int ff), (3, .int t), (0, .ref drp), (1, .int (nI zz)), (2, .int (-1))]) hx hb dX6_fitting_111 hl (k := 1) rfl (nI_1 _) (by decide) rfl (fun ls hl => ?_)
              refine lv_goto (tgt := 8) hx hb dX6_fitting_114 (by decide) ?_
              exact ih (i + 1) t ff (by omega) (by omega) (by have hne : i ≠ qq := (by intro h; subst h; omega); exact ⟨fun h => ht.1 (by omega), fun h => ht.2 (by omega)⟩) H locs (hP.sub [0, 1] rfl) (hD.sub [0, 1] rfl rfl) hS ls (lv_sub hl [0, 2, 3, 4, 5, 6] rfl)
  exact lp_1 (24 + 1) 0 (-1) 0 (by omega) (by omega) (⟨fun _ => ⟨rfl, rfl⟩, fun h => absurd h (by omega)⟩) H locs (hP.sub [0, 1] rfl) (hD.sub [0, 1] rfl rfl) hS ls (lv_sub hl [0, 1, 2, 3, 4, 5] rfl)
abbrev rm_c_X6_freePages_g : Room := { frames := 0, cells := 0, slots := 0, locals := 0 }
set_option maxHeartbeats 4000000 in
set_option maxRecDepth 100000 in
theorem c_X6_freePages_g (l : Launch) (D : va_G) (cs : Nat → ClassId) (sz : Nat) (drp : Nat) (drp1 : Nat) (drp2 : Nat) (drp3 : Nat) (drp4 : Nat) (drp5 : Nat) (drp6 : Nat) (drp7 : Nat) (drp8 : Nat) (drp9 : Nat) (drp10 : Nat) (fe : Nat → Int32) (we : Nat → Nat) (uc : Nat) (la : Int32) (pb : Int32) (hE : ∀ j, j < 24 → fe j = nI (we j) ∧ we j ≤ 64) : cMi l yX6_freePages (Cond.code yX6_freePages cX6_freePages 3 (some .int)) (rm_c_X6_freePages_g) D cs [.ref drp] sz [(drp, .inr (6, [.int 0, .int 0, .int la, .int pb, .int 0, .int 0, .int (nI uc), .ref drp1, .ref drp2, .ref drp3, .ref drp4, .ref drp5, .ref drp6, .ref drp7, .ref drp8, .ref drp9, .ref drp10])), (drp1, aI cs 24 fe)] (fun (r : Int32) (u : Unit) => (r = (nI (zc we 24)))) (fun (u : Unit) => [(drp, .inr (6, [.int 0, .int 0, .int la, .int pb, .int 0, .int 0, .int (nI uc), .ref drp1, .ref drp2, .ref drp3, .ref drp4, .ref drp5, .ref drp6, .ref drp7, .ref drp8, .ref drp9, .ref drp10])), (drp1, aI cs 24 fe)]) := by
  refine kMet_i RX6 (by decide) rfl (Nat.le_of_ble_eq_true rfl) ?_
  intro p e s m below meth c ls A Qz H locs hx hb hml hown hin hu hK hsz hA hP hD hS hl hz
  subst hsz
  have hl : lv_has ls 3 [(0, .ref drp)] := hl
  refine lv_iconst (v := 0) hx hb dX6_freePages_0 (by decide) ?_
  refine lv_istore_n (lv' := [(1, .int 0), (0, .ref drp)]) hx hb dX6_freePages_1 rfl hl (by decide) rfl (fun ls hl => ?_)
  refine lv_iconst (v := 0) hx hb dX6_freePages_2 (by decide) ?_
  refine lv_istore_n (lv' := [(2, .int 0), (1, .int 0), (0, .ref drp)]) hx hb dX6_freePages_3 rfl hl (by decide) rfl (fun ls hl => ?_)
  have lp_1 : ∀ (fuel : Nat) (i : Nat) (fr : Int32) (hfuel : 24 < i + fuel) (hi : i ≤ 24) (hfr : fr = nI (zc we i)) (H : Heap) (locs : List Loc) (hP : va_P D vwCl [(drp, .inr (6, [.int 0, .int 0, .int la, .int pb, .int 0, .int 0, .int (nI uc), .ref drp1, .ref drp2, .ref drp3, .ref drp4, .ref drp5, .ref drp6, .ref drp7, .ref drp8, .ref drp9, .ref drp10])), (drp1, aI cs 24 fe)] H) (hD : va_D A [(drp, .inr (6, [.int 0, .int 0, .int la, .int pb, .int 0, .int 0, .int (nI uc), .ref drp1, .ref drp2, .ref drp3, .ref drp4, .ref drp5, .ref drp6, .ref drp7, .ref drp8, .ref drp9, .ref drp10])), (drp1, aI cs 24 fe)]) (hS : va_S A s.heap H locs) (ls : Array Slot) (hl : lv_has ls 3 [(2, .int (nI i)), (1, .int fr), (0, .ref drp)]), W p l e rm_c_X6_freePages_g s m [.ref drp].toArray below meth c H locs 0 0 Qz (F0 m 4 ls []) := by
    intro fuel
    induction fuel with
    | zero =>
      intro i fr hfuel hi hfr H locs hP hD hS ls hl
      exact absurd hfuel (by omega)
    | succ fuel ih =>
      intro i fr hfuel hi hfr H locs hP hD hS ls hl
      refine lv_iload_n hx hb dX6_freePages_4 rfl (lv_at hl 0 rfl) ?_
      refine lv_bipush (v := 24) hx hb dX6_freePages_5 (by decide) ?_
      refine lv_icmp_ge (tgt := 33) hx hb dX6_freePages_7 (by decide) (fun c_2 => ?_) (fun c_2 => ?_)
      · have gc_2 : 24 ≤ i := (nI_leI (a := 24) (b := i) (by omega) (by omega)).mp c_2
        refine lv_iload_n hx hb dX6_freePages_33 rfl (lv_at hl 1 rfl) ?_
        exact hz () hP hD hS (by have e9 : i = 24 := (by omega); rw [hfr, e9]) [0, 1] rfl rfl (Nat.le_of_ble_eq_true rfl) (Nat.le_of_ble_eq_true rfl) .int rfl rfl dX6_freePages_34
      · have gc_2 : ¬ 24 ≤ i := fun h => c_2 ((nI_leI (a := 24) (b := i) (by omega) (by omega)).mpr h)
        refine lv_iload_n hx hb dX6_freePages_10 rfl (lv_at hl 1 rfl) ?_
        refine lv_aload_n hx hb dX6_freePages_11 rfl (lv_at hl 2 rfl) ?_
        refine va_get (D := D) (ci := 6) (v := .ref drp1) (C := RX6) (T := TX6) (N := 17) hx hb hu in_X6 hown hK.1 hP 0 rfl rfl 7 (by decide) (hu _ u_210) (fun _ h9 => h9) rfl dX6_freePages_12 ?_
        refine lv_iload_n hx hb dX6_freePages_15 rfl (lv_at hl 0 rfl) ?_
        refine va_iald hx hb hK.1 hP 1 0 rfl rfl (vp_in_nI (by omega) (by omega)) dX6_freePages_16 ?_
        have hw_3 := (hE i (by omega)).2
        refine tpi (y := nI (we i)) ((congrArg fe (nI_clamp (by omega))).trans (hE _ (by omega)).1) ?_
        refine lv_if_ne (tgt := 24) hx hb dX6_freePages_17 (by decide) (fun c_4 => ?_) (fun c_4 => ?_)
        · have gc_4 : ¬ (we i) = 0 := fun h => c_4 ((nI_eq (a := (we i)) (b := 0) (by omega) (by omega)).mpr h)
          refine lv_iconst (v := 0) hx hb dX6_freePages_24 (by decide) ?_
          refine lv_iadd hx hb dX6_freePages_25 ?_
          refine tpi (y := fr) (i_add0 _) ?_
          refine lv_istore_n (lv' := [(1, .int fr), (2, .int (nI i)), (0, .ref drp)]) hx hb dX6_freePages_26 rfl hl (by decide) rfl (fun ls hl => ?_)
          refine lv_iinc (v := nI (i + 1)) (lv' := [(2, .int (nI (i + 1))), (1, .int fr), (0, .ref drp)]) hx hb dX6_freePages_27 hl (k := 1) rfl (nI_1 _) (by decide) rfl (fun ls hl => ?_)
          refine lv_goto (tgt := 4) hx hb dX6_freePages_30 (by decide) ?_
          exact ih (i + 1) fr (by omega) (by omega) (by rw [zc_0 gc_4]; exact hfr) H locs (hP.sub [0, 1] rfl) (hD.sub [0, 1] rfl rfl) hS ls (lv_sub hl [0, 1, 2] rfl)
        · have gc_4 : we i = 0 := (nI_eq (a := (we i)) (b := 0) (by omega) (by omega)).mp c_4
          refine lv_iconst (v := 1) hx hb dX6_freePages_20 (by decide) ?_
          refine lv_goto (tgt := 25) hx hb dX6_freePages_21 (by decide) ?_
          refine lv_iadd hx hb dX6_freePages_25 ?_
          refine lv_istore_n (lv' := [(1, .int (fr + 1)), (2, .int (nI i)), (0, .ref drp)]) hx hb dX6_freePages_26 rfl hl (by decide) rfl (fun ls hl => ?_)
          refine lv_iinc (v := nI (i + 1)) (lv' := [(2, .int (nI (i + 1))), (1, .int (fr + 1)), (0, .ref drp)]) hx hb dX6_freePages_27 hl (k := 1) rfl (nI_1 _) (by decide) rfl (fun ls hl => ?_)
          refine lv_goto (tgt := 4) hx hb dX6_freePages_30 (by decide) ?_
          exact ih (i + 1) (fr + 1) (by omega) (by omega) (by rw [hfr, zc_1 gc_4]; exact nI_1 _) H locs (hP.sub [0, 1] rfl) (hD.sub [0, 1] rfl rfl) hS ls (lv_sub hl [0, 1, 2] rfl)
  exact lp_1 (24 + 1) 0 0 (by omega) (by omega) rfl H locs (hP.sub [0, 1] rfl) (hD.sub [0, 1] rfl rfl) hS ls (lv_sub hl [0, 1, 2] rfl)
abbrev rm_c_X6_leastWornFree_g : Room := { frames := 0, cells := 0, slots := 0, locals := 0 }
set_option maxHeartbeats 4000000 in
set_option maxRecDepth 100000 in
theorem c_X6_leastWornFree_g (l : Launch) (D : va_G) (cs : Nat → ClassId) (sz : Nat) (drp : Nat) (drp1 : Nat) (drp2 : Nat) (drp3 : Nat) (drp4 : Nat) (drp5 : Nat) (drp6 : Nat) (drp7 : Nat) (drp8 : Nat) (drp9 : Nat) (drp10 : Nat) (fe : Nat → Int32) (fer : Nat → Int32) (uu : Nat) (uc : Nat) (la : Int32) (pb : Int32) (we : Nat → Nat) (z_fer : ∀ j, j < 24 → fer j = 0) (hE : ∀ j, j < 24 → fe j = nI (we j) ∧ we j ≤ 64) (hu24 : uu < 24) (hlt : ∀ j, j < uu → 0 < we j) (hu0 : we uu = 0) : cMi l yX6_leastWornFree (Cond.code yX6_leastWornFree cX6_leastWornFree 4 (some .int)) (rm_c_X6_leastWornFree_g) D cs [.ref drp] sz [(drp, .inr (6, [.int 0, .int 0, .int la, .int pb, .int 0, .int 0, .int (nI uc), .ref drp1, .ref drp2, .ref drp3, .ref drp4, .ref drp5, .ref drp6, .ref drp7, .ref drp8, .ref drp9, .ref drp10])), (drp1, aI cs 24 fe), (drp2, aI cs 24 fer)] (fun (r : Int32) (u : Unit) => (r = (nI uu))) (fun (u : Unit) => [(drp, .inr (6, [.int 0, .int 0, .int la, .int pb, .int 0, .int 0, .int (nI uc), .ref drp1, .ref drp2, .ref drp3, .ref drp4, .ref drp5, .ref drp6, .ref drp7, .ref drp8, .ref drp9, .ref drp10])), (drp1, aI cs 24 fe), (drp2, aI cs 24 fer)]) := by
  refine kMet_i RX6 (by decide) rfl (Nat.le_of_ble_eq_true rfl) ?_
  intro p e s m below meth c ls A Qz H locs hx hb hml hown hin hu hK hsz hA hP hD hS hl hz
  subst hsz
  have hl : lv_has ls 4 [(0, .ref drp)] := hl
  refine lv_iconst (v := (-1)) hx hb dX6_leastWornFree_0 (by decide) ?_
  refine lv_istore_n (lv' := [(1, .int (-1)), (0, .ref drp)]) hx hb dX6_leastWornFree_1 rfl hl (by decide) rfl (fun ls hl => ?_)
  refine lv_iconst (v := 0) hx hb dX6_leastWornFree_2 (by decide) ?_
  refine lv_istore_n (lv' := [(2, .int 0), (1, .int (-1)), (0, .ref drp)]) hx hb dX6_leastWornFree_3 rfl hl (by decide) rfl (fun ls hl => ?_)
  refine lv_iconst (v := 0) hx hb dX6_leastWornFree_4 (by decide) ?_
  refine lv_istore_n (lv' := [(3, .int 0), (2, .int 0), (1, .int (-1)), (0, .ref drp)]) hx hb dX6_leastWornFree_5 rfl hl (by decide) rfl (fun ls hl => ?_)
  have lp_1 : ∀ (fuel : Nat) (i : Nat) (t : Int32) (hfuel : 24 < i + fuel) (hi : i ≤ 24) (ht : (i ≤ uu → t = -1) ∧ (uu < i → t = nI uu)) (H : Heap) (locs : List Loc) (hP : va_P D vwCl [(drp, .inr (6, [.int 0, .int 0, .int la, .int pb, .int 0, .int 0, .int (nI uc), .ref drp1, .ref drp2, .ref drp3, .ref drp4, .ref drp5, .ref drp6, .ref drp7, .ref drp8, .ref drp9, .ref drp10])), (drp1, aI cs 24 fe), (drp2, aI cs 24 fer)] H) (hD : va_D A [(drp, .inr (6, [.int 0, .int 0, .int la, .int pb, .int 0, .int 0, .int (nI uc), .ref drp1, .ref drp2, .ref drp3, .ref drp4, .ref drp5, .ref drp6, .ref drp7, .ref drp8, .ref drp9, .ref drp10])), (drp1, aI cs 24 fe), (drp2, aI cs 24 fer)]) (hS : va_S A s.heap H locs) (ls : Array Slot) (hl : lv_has ls 4 [(3, .int (nI i)), (2, .int 0), (1, .int t), (0, .ref drp)]), W p l e rm_c_X6_leastWornFree_g s m [.ref drp].toArray below meth c H locs 0 0 Qz (F0 m 6 ls []) := by
    intro fuel
    induction fuel with
    | zero =>
      intro i t hfuel hi ht H locs hP hD hS ls hl
      exact absurd hfuel (by omega)
    | succ fuel ih =>
      intro i t hfuel hi ht H locs hP hD hS ls hl
      refine lv_iload_n hx hb dX6_leastWornFree_6 rfl (lv_at hl 0 rfl) ?_
      refine lv_bipush (v := 24) hx hb dX6_leastWornFree_7 (by decide) ?_
      refine lv_icmp_ge (tgt := 51) hx hb dX6_leastWornFree_9 (by decide) (fun c_2 => ?_) (fun c_2 => ?_)
      · have gc_2 : 24 ≤ i := (nI_leI (a := 24) (b := i) (by omega) (by omega)).mp c_2
        refine lv_iload_n hx hb dX6_leastWornFree_51 rfl (lv_at hl 2 rfl) ?_
        exact hz () hP hD hS (ht.2 (by omega)) [0, 1, 2] rfl rfl (Nat.le_of_ble_eq_true rfl) (Nat.le_of_ble_eq_true rfl) .int rfl rfl dX6_leastWornFree_52
      · have gc_2 : ¬ 24 ≤ i := fun h => c_2 ((nI_leI (a := 24) (b := i) (by omega) (by omega)).mpr h)
        refine lv_aload_n hx hb dX6_leastWornFree_12 rfl (lv_at hl 3 rfl) ?_
        refine va_get (D := D) (ci := 6) (v := .ref drp1) (C := RX6) (T := TX6) (N := 17) hx hb hu in_X6 hown hK.1 hP 0 rfl rfl 7 (by decide) (hu _ u_210) (fun _ h9 => h9) rfl dX6_leastWornFree_13 ?_
        refine lv_iload_n hx hb dX6_leastWornFree_16 rfl (lv_at hl 0 rfl) ?_
        refine va_iald hx hb hK.1 hP 1 0 rfl rfl (vp_in_nI (by omega) (by omega)) dX6_leastWornFree_17 ?_
        have hw_3 := (hE i (by omega)).2
        refine tpi (y := nI (we i)) ((congrArg fe (nI_clamp (by omega))).trans (hE _ (by omega)).1) ?_
        refine lv_if_ne (tgt := 45) hx hb dX6_leastWornFree_18 (by decide) (fun c_4 => ?_) (fun c_4 => ?_)
        · have gc_4 : ¬ (we i) = 0 := fun h => c_4 ((nI_eq (a := (we i)) (b := 0) (by omega) (by omega)).mpr h)
          refine lv_iinc (v := nI (i + 1)) (lv' := [(3, .int (nI (i + 1))), (2, .int 0), (1, .int t), (0, .ref drp)]) hx hb dX6_leastWornFree_45 hl (k := 0) rfl (nI_1 _) (by decide) rfl (fun ls hl => ?_)
          refine lv_goto (tgt := 6) hx hb dX6_leastWornFree_48 (by decide) ?_
          exact ih (i + 1) t (by omega) (by omega) (by have hne : i ≠ uu := (by intro h; subst h; omega); exact ⟨fun h => ht.1 (by omega), fun h => ht.2 (by omega)⟩) H locs (hP.sub [0, 1, 2] rfl) (hD.sub [0, 1, 2] rfl rfl) hS ls (lv_sub hl [0, 1, 2, 3] rfl)
        · have gc_4 : we i = 0 := (nI_eq (a := (we i)) (b := 0) (by omega) (by omega)).mp c_4
          rcases (Nat.lt_or_ge uu i) with hc | hc
          · obtain rfl : t = nI uu := ht.2 hc
            refine lv_iload_n hx hb dX6_leastWornFree_21 rfl (lv_at hl 2 rfl) ?_
            refine lv_iconst (v := (-1)) hx hb dX6_leastWornFree_22 (by decide) ?_
            refine lv_icmp_eq (tgt := 36) hx hb dX6_leastWornFree_23 (by decide) (fun c_5 => absurd c_5 (nI_nem1 (by omega))) (fun c_5 => ?_)
            refine lv_aload_n hx hb dX6_leastWornFree_26 rfl (lv_at hl 3 rfl) ?_
            refine va_get (D := D) (ci := 6) (v := .ref drp2) (C := RX6) (T := TX6) (N := 17) hx hb hu in_X6 hown hK.1 hP 0 rfl rfl 8 (by decide) (hu _ u_211) (fun _ h9 => h9) rfl dX6_leastWornFree_27 ?_
            refine lv_iload_n hx hb dX6_leastWornFree_30 rfl (lv_at hl 0 rfl) ?_
            refine va_iald hx hb hK.1 hP 2 0 rfl rfl (vp_in_nI (by omega) (by omega)) dX6_leastWornFree_31 ?_
            refine tpi (y := 0) (z_fer _ (cl_lt (vp_in_nI (by omega) (by omega)))) ?_
            refine lv_iload_n hx hb dX6_leastWornFree_32 rfl (lv_at hl 1 rfl) ?_
            refine lv_icmp_ge (tgt := 45) hx hb dX6_leastWornFree_33 (by decide) (fun c_6 => ?_) (fun c_6 => absurd (by decide) c_6)
            refine lv_iinc (v := nI (i + 1)) (lv' := [(3, .int (nI (i + 1))), (2, .int 0), (1, .int (nI uu)), (0, .ref drp)]) hx hb dX6_leastWornFree_45 hl (k := 0) rfl (nI_1 _) (by decide) rfl (fun ls hl => ?_)
            refine lv_goto (tgt := 6) hx hb dX6_leastWornFree_48 (by decide) ?_
            exact ih (i + 1) (nI uu) (by omega) (by omega) (⟨fun h => absurd h (by omega), fun _ => rfl⟩) H locs (hP.sub [0, 1, 2] rfl) (hD.sub [0, 1, 2] rfl rfl) hS ls (lv_sub hl [0, 1, 2, 3] rfl)
          · obtain rfl : t = -1 := ht.1 hc
            refine lv_iload_n hx hb dX6_leastWornFree_21 rfl (lv_at hl 2 rfl) ?_
            refine lv_iconst (v := (-1)) hx hb dX6_leastWornFree_22 (by decide) ?_
            refine lv_icmp_eq (tgt := 36) hx hb dX6_leastWornFree_23 (by decide) (fun c_7 => ?_) (fun c_7 => absurd (by decide) c_7)
            refine lv_iload_n hx hb dX6_leastWornFree_36 rfl (lv_at hl 0 rfl) ?_
            refine lv_istore_n (lv' := [(1, .int (nI i)), (3, .int (nI i)), (2, .int 0), (0, .ref drp)]) hx hb dX6_leastWornFree_37 rfl hl (by decide) rfl (fun ls hl => ?_)
            refine lv_aload_n hx hb dX6_leastWornFree_38 rfl (lv_at hl 3 rfl) ?_
            refine va_get (D := D) (ci := 6) (v := .ref drp2) (C := RX6) (T := TX6) (N := 17) hx hb hu in_X6 hown hK.1 hP 0 rfl rfl 8 (by decide) (hu _ u_211) (fun _ h9 => h9) rfl dX6_leastWornFree_39 ?_
            refine lv_iload_n hx hb dX6_leastWornFree_42 rfl (lv_at hl 1 rfl) ?_
            refine va_iald hx hb hK.1 hP 2 0 rfl rfl (vp_in_nI (by omega) (by omega)) dX6_leastWornFree_43 ?_
            refine tpi (y := 0) (z_fer _ (cl_lt (vp_in_nI (by omega) (by omega)))) ?_
            refine lv_istore_n (lv' := [(2, .int 0), (1, .int (nI i)), (3, .int (nI i)), (0, .ref drp)]) hx hb dX6_leastWornFree_44 rfl hl (by decide) rfl (fun ls hl => ?_)
            refine lv_iinc (v := nI (i + 1)) (lv' := [(3, .int (nI (i + 1))), (2, .int 0), (1, .int (nI i)), (0, .ref drp)]) hx hb dX6_leastWornFree_45 hl (k := 2) rfl (nI_1 _) (by decide) rfl (fun ls hl => ?_)
            refine lv_goto (tgt := 6) hx hb dX6_leastWornFree_48 (by decide) ?_
            exact ih (i + 1) (nI i) (by omega) (by omega) (⟨fun h => absurd h (by have h8 := hlt i; omega), fun _ => congrArg nI (by have h8 := hlt i; omega)⟩) H locs (hP.sub [0, 1, 2] rfl) (hD.sub [0, 1, 2] rfl rfl) hS ls (lv_sub hl [0, 1, 2, 3] rfl)
  exact lp_1 (24 + 1) 0 (-1) (by omega) (by omega) (⟨fun _ => rfl, fun h => absurd h (by omega)⟩) H locs (hP.sub [0, 1, 2] rfl) (hD.sub [0, 1, 2] rfl rfl) hS ls (lv_sub hl [0, 1, 2, 3] rfl)
abbrev rm_c_X6_placeToPut_q : Room := { frames := 1, cells := 0, slots := 0, locals := 26 }
set_option maxHeartbeats 4000000 in
set_option maxRecDepth 100000 in
theorem c_X6_placeToPut_q (l : Launch) (D : va_G) (cs : Nat → ClassId) (sz : Nat) (drp : Nat) (drp1 : Nat) (drp2 : Nat) (drp3 : Nat) (drp4 : Nat) (drp5 : Nat) (drp6 : Nat) (drp7 : Nat) (drp8 : Nat) (drp9 : Nat) (drp10 : Nat) (fe : Nat → Int32) (fer : Nat → Int32) (zz : Nat) (qq : Nat) (uc : Nat) (la : Int32) (pb : Int32) (we : Nat → Nat) (z_fer : ∀ j, j < 24 → fer j = 0) (hE : ∀ j, j < 24 → fe j = nI (we j) ∧ we j ≤ 64) (hzz : 1 ≤ zz ∧ zz ≤ 64) (hF : ∀ j, j < qq → 0 < we j ∧ 64 < we j + zz) (hG : ∀ j, qq < j → j < 24 → we j = 0) (hqz : we qq + zz ≤ 64) (hL : 0 < we qq → la = nI qq) (hq22 : qq ≤ 22) : cMi l yX6_placeToPut (Cond.code yX6_placeToPut cX6_placeToPut 3 (some .int)) (rm_c_X6_placeToPut_q) D cs [.ref drp, .int (nI zz)] sz [(drp, .inr (6, [.int 0, .int 0, .int la, .int pb, .int 0, .int 0, .int (nI uc), .ref drp1, .ref drp2, .ref drp3, .ref drp4, .ref drp5, .ref drp6, .ref drp7, .ref drp8, .ref drp9, .ref drp10])), (drp1, aI cs 24 fe), (drp2, aI cs 24 fer)] (fun (r : Int32) (u : Unit) => (r = (nI qq))) (fun (u : Unit) => [(drp, .inr (6, [.int 0, .int 0, .int la, .int pb, .int 0, .int 0, .int (nI uc), .ref drp1, .ref drp2, .ref drp3, .ref drp4, .ref drp5, .ref drp6, .ref drp7, .ref drp8, .ref drp9, .ref drp10])), (drp1, aI cs 24 fe), (drp2, aI cs 24 fer)]) := by
  refine kMet_i RX6 (by decide) rfl (Nat.le_of_ble_eq_true rfl) ?_
  intro p e s m below meth c ls A Qz H locs hx hb hml hown hin hu hK hsz hA hP hD hS hl hz
  subst hsz
  have hl : lv_has ls 3 [(0, .ref drp), (1, .int (nI zz))] := hl
  rcases (Nat.eq_zero_or_pos (we qq)) with hc | hc
  · refine lv_aload_n hx hb dX6_placeToPut_0 rfl (lv_at hl 0 rfl) ?_
    refine lv_iload_n hx hb dX6_placeToPut_1 rfl (lv_at hl 1 rfl) ?_
    refine lv_iconst (v := (-1)) hx hb dX6_placeToPut_2 (by decide) ?_
    refine kV_i (ci := 6) (As := [.int (nI zz), .int (-1)]) (rest := []) (wc := [(drp, .inr (6, [.int 0, .int 0, .int la, .int pb, .int 0, .int 0, .int (nI uc), .ref drp1, .ref drp2, .ref drp3, .ref drp4, .ref drp5, .ref drp6, .ref drp7, .ref drp8, .ref drp9, .ref drp10])), (drp1, aI cs 24 fe)]) (wr := [(drp2, aI cs 24 fer)]) hx hb hml hown hu hK hP hD hS hA hl.1 (c_X6_fitting_n l D cs H.size drp drp1 drp2 drp3 drp4 drp5 drp6 drp7 drp8 drp9 drp10 fe zz uc la pb we hE hzz (fun j hj h9 => by rcases Nat.lt_trichotomy j qq with a | a | a; (have := hF j a; omega); (subst a; omega); (have := hG j a hj; omega))) (gV u_441 u_442 u_443 u_72 u_444) hd_X6_fitting ⟨(Nat.le_of_ble_eq_true rfl), (Nat.le_of_ble_eq_true rfl)⟩ [0, 1] [2] rfl rfl rfl rfl (by decide) rfl 0 rfl rfl rfl (Nat.le_of_ble_eq_true rfl) dX6_placeToPut_3 ⟨(Nat.le_of_ble_eq_true rfl), (Nat.le_of_ble_eq_true rfl)⟩ (fun r_1 ut_2 H locs hw_3 hP hD hS => ?_)
    have hP : va_P D vwCl [(drp2, aI cs 24 fer), (drp, .inr (6, [.int 0, .int 0, .int la, .int pb, .int 0, .int 0, .int (nI uc), .ref drp1, .ref drp2, .ref drp3, .ref drp4, .ref drp5, .ref drp6, .ref drp7, .ref drp8, .ref drp9, .ref drp10])), (drp1, aI cs 24 fe)] H := hP
    have hD : va_D A [(drp2, aI cs 24 fer), (drp, .inr (6, [.int 0, .int 0, .int la, .int pb, .int 0, .int 0, .int (nI uc), .ref drp1, .ref drp2, .ref drp3, .ref drp4, .ref drp5, .ref drp6, .ref drp7, .ref drp8, .ref drp9, .ref drp10])), (drp1, aI cs 24 fe)] := hD
    have er_4 := hw_3
    subst er_4
    refine lv_istore_n (lv' := [(2, .int (-1)), (0, .ref drp), (1, .int (nI zz))]) hx hb dX6_placeToPut_6 rfl hl (by decide) rfl (fun ls hl => ?_)
    refine lv_iload_n hx hb dX6_placeToPut_7 rfl (lv_at hl 0 rfl) ?_
    refine lv_iconst (v := (-1)) hx hb dX6_placeToPut_8 (by decide) ?_
    refine lv_icmp_ne (tgt := 20) hx hb dX6_placeToPut_9 (by decide) (fun c_5 => absurd (by decide) c_5) (fun c_5 => ?_)
    refine lv_aload_n hx hb dX6_placeToPut_12 rfl (lv_at hl 1 rfl) ?_
    refine kV_i (ci := 6) (As := []) (rest := []) (wc := [(drp, .inr (6, [.int 0, .int 0, .int la, .int pb, .int 0, .int 0, .int (nI uc), .ref drp1, .ref drp2, .ref drp3, .ref drp4, .ref drp5, .ref drp6, .ref drp7, .ref drp8, .ref drp9, .ref drp10])), (drp1, aI cs 24 fe)]) (wr := [(drp2, aI cs 24 fer)]) hx hb hml hown hu hK hP hD hS hA hl.1 (c_X6_freePages_g l D cs H.size drp drp1 drp2 drp3 drp4 drp5 drp6 drp7 drp8 drp9 drp10 fe we uc la pb hE) (gV u_445 u_446 u_447 u_72 u_448) hd_X6_freePages ⟨(Nat.le_of_ble_eq_true rfl), (Nat.le_of_ble_eq_true rfl)⟩ [1, 2] [0] rfl rfl rfl rfl (by decide) rfl 0 rfl rfl rfl (Nat.le_of_ble_eq_true rfl) dX6_placeToPut_13 ⟨(Nat.le_of_ble_eq_true rfl), (Nat.le_of_ble_eq_true rfl)⟩ (fun r_6 ut_7 H locs hw_8 hP hD hS => ?_)
    have hP : va_P D vwCl [(drp2, aI cs 24 fer), (drp, .inr (6, [.int 0, .int 0, .int la, .int pb, .int 0, .int 0, .int (nI uc), .ref drp1, .ref drp2, .ref drp3, .ref drp4, .ref drp5, .ref drp6, .ref drp7, .ref drp8, .ref drp9, .ref drp10])), (drp1, aI cs 24 fe)] H := hP
    have hD : va_D A [(drp2, aI cs 24 fer), (drp, .inr (6, [.int 0, .int 0, .int la, .int pb, .int 0, .int 0, .int (nI uc), .ref drp1, .ref drp2, .ref drp3, .ref drp4, .ref drp5, .ref drp6, .ref drp7, .ref drp8, .ref drp9, .ref drp10])), (drp1, aI cs 24 fe)] := hD
    have er_9 := hw_8
    subst er_9
    refine lv_iconst (v := 2) hx hb dX6_placeToPut_16 (by decide) ?_
    refine lv_icmp_ge (tgt := 24) hx hb dX6_placeToPut_17 (by decide) (fun c_10 => ?_) (fun c_10 => absurd ((nI_leI (a := 2) (by omega) (by have := zc_le we 24; omega)).mpr (by rw [zc_of (u := qq) (fun j hj => (hF j hj).1) 24 (fun j h1 h2 => by rcases Nat.lt_or_ge qq j with a | a; (exact hG j a h2); (obtain rfl : j = qq := (by omega)); exact hc)]; omega)) c_10)
    refine lv_aload_n hx hb dX6_placeToPut_24 rfl (lv_at hl 1 rfl) ?_
    refine kV_i (ci := 6) (As := []) (rest := []) (wc := [(drp, .inr (6, [.int 0, .int 0, .int la, .int pb, .int 0, .int 0, .int (nI uc), .ref drp1, .ref drp2, .ref drp3, .ref drp4, .ref drp5, .ref drp6, .ref drp7, .ref drp8, .ref drp9, .ref drp10])), (drp1, aI cs 24 fe), (drp2, aI cs 24 fer)]) (wr := []) hx hb hml hown hu hK hP hD hS hA hl.1 (c_X6_leastWornFree_g l D cs H.size drp drp1 drp2 drp3 drp4 drp5 drp6 drp7 drp8 drp9 drp10 fe fer qq uc la pb we z_fer hE (by omega) (fun j hj => (hF j hj).1) hc) (gV u_449 u_450 u_451 u_72 u_452) hd_X6_leastWornFree ⟨(Nat.le_of_ble_eq_true rfl), (Nat.le_of_ble_eq_true rfl)⟩ [1, 2, 0] [] rfl rfl rfl rfl (by decide) rfl 0 rfl rfl rfl (Nat.le_of_ble_eq_true rfl) dX6_placeToPut_25 ⟨(Nat.le_of_ble_eq_true rfl), (Nat.le_of_ble_eq_true rfl)⟩ (fun r_11 ut_12 H locs hw_13 hP hD hS => ?_)
    have hP : va_P D vwCl [(drp, .inr (6, [.int 0, .int 0, .int la, .int pb, .int 0, .int 0, .int (nI uc), .ref drp1, .ref drp2, .ref drp3, .ref drp4, .ref drp5, .ref drp6, .ref drp7, .ref drp8, .ref drp9, .ref drp10])), (drp1, aI cs 24 fe), (drp2, aI cs 24 fer)] H := hP
    have hD : va_D A [(drp, .inr (6, [.int 0, .int 0, .int la, .int pb, .int 0, .int 0, .int (nI uc), .ref drp1, .ref drp2, .ref drp3, .ref drp4, .ref drp5, .ref drp6, .ref drp7, .ref drp8, .ref drp9, .ref drp10])), (drp1, aI cs 24 fe), (drp2, aI cs 24 fer)] := hD
    have er_14 := hw_13
    subst er_14
    exact hz () hP hD hS rfl [0, 1, 2] rfl rfl (Nat.le_of_ble_eq_true rfl) (Nat.le_of_ble_eq_true rfl) .int rfl rfl dX6_placeToPut_28
  · obtain rfl : la = nI qq := hL hc
    refine lv_aload_n hx hb dX6_placeToPut_0 rfl (lv_at hl 0 rfl) ?_
    refine lv_iload_n hx hb dX6_placeToPut_1 rfl (lv_at hl 1 rfl) ?_
    refine lv_iconst (v := (-1)) hx hb dX6_placeToPut_2 (by decide) ?_
    refine kV_i (ci := 6) (As := [.int (nI zz), .int (-1)]) (rest := []) (wc := [(drp, .inr (6, [.int 0, .int 0, .int (nI qq), .int pb, .int 0, .int 0, .int (nI uc), .ref drp1, .ref drp2, .ref drp3, .ref drp4, .ref drp5, .ref drp6, .ref drp7, .ref drp8, .ref drp9, .ref drp10])), (drp1, aI cs 24 fe)]) (wr := [(drp2, aI cs 24 fer)]) hx hb hml hown hu hK hP hD hS hA hl.1 (c_X6_fitting_q l D cs H.size drp drp1 drp2 drp3 drp4 drp5 drp6 drp7 drp8 drp9 drp10 fe zz qq uc pb we hE hzz (by omega) hc hqz) (gV u_441 u_442 u_443 u_72 u_444) hd_X6_fitting ⟨(Nat.le_of_ble_eq_true rfl), (Nat.le_of_ble_eq_true rfl)⟩ [0, 1] [2] rfl rfl rfl rfl (by decide) rfl 0 rfl rfl rfl (Nat.le_of_ble_eq_true rfl) dX6_placeToPut_3 ⟨(Nat.le_of_ble_eq_true rfl), (Nat.le_of_ble_eq_true rfl)⟩ (fun r_15 ut_16 H locs hw_17 hP hD hS => ?_)
    have hP : va_P D vwCl [(drp2, aI cs 24 fer), (drp, .inr (6, [.int 0, .int 0, .int (nI qq), .int pb, .int 0, .int 0, .int (nI uc), .ref drp1, .ref drp2, .ref drp3, .ref drp4, .ref drp5, .ref drp6, .ref drp7, .ref drp8, .ref drp9, .ref drp10])), (drp1, aI cs 24 fe)] H := hP
    have hD : va_D A [(drp2, aI cs 24 fer), (drp, .inr (6, [.int 0, .int 0, .int (nI qq), .int pb, .int 0, .int 0, .int (nI uc), .ref drp1, .ref drp2, .ref drp3, .ref drp4, .ref drp5, .ref drp6, .ref drp7, .ref drp8, .ref drp9, .ref drp10])), (drp1, aI cs 24 fe)] := hD
    have er_18 := hw_17
    subst er_18
    refine lv_istore_n (lv' := [(2, .int (nI qq)), (0, .ref drp), (1, .int (nI zz))]) hx hb dX6_placeToPut_6 rfl hl (by decide) rfl (fun ls hl => ?_)
    refine lv_iload_n hx hb dX6_placeToPut_7 rfl (lv_at hl 0 rfl) ?_
    refine lv_iconst (v := (-1)) hx hb dX6_placeToPut_8 (by decide) ?_
    refine lv_icmp_ne (tgt := 20) hx hb dX6_placeToPut_9 (by decide) (fun c_19 => ?_) (fun c_19 => absurd c_19 (nI_nem1 (by omega)))
    refine lv_iload_n hx hb dX6_placeToPut_20 rfl (lv_at hl 0 rfl) ?_
    refine lv_goto (tgt := 28) hx hb dX6_placeToPut_21 (by decide) ?_
    exact hz () hP hD hS rfl [1, 2, 0] rfl rfl (Nat.le_of_ble_eq_true rfl) (Nat.le_of_ble_eq_true rfl) .int rfl rfl dX6_placeToPut_28
abbrev rm_c_X6_placeToPut_n : Room := { frames := 1, cells := 0, slots := 0, locals := 26 }
set_option maxHeartbeats 4000000 in
set_option maxRecDepth 100000 in
theorem c_X6_placeToPut_n (l : Launch) (D : va_G) (cs : Nat → ClassId) (sz : Nat) (drp : Nat) (drp1 : Nat) (drp2 : Nat) (drp3 : Nat) (drp4 : Nat) (drp5 : Nat) (drp6 : Nat) (drp7 : Nat) (drp8 : Nat) (drp9 : Nat) (drp10 : Nat) (fe : Nat → Int32) (zz : Nat) (uc : Nat) (la : Int32) (pb : Int32) (we : Nat → Nat) (hE : ∀ j, j < 24 → fe j = nI (we j) ∧ we j ≤ 64) (hzz : 1 ≤ zz ∧ zz ≤ 64) (hN : ∀ j, j < 24 → ¬ (0 < we j ∧ we j + zz ≤ 64)) (hz2 : zc we 24 < 2) : cMi l yX6_placeToPut (Cond.code yX6_placeToPut cX6_placeToPut 3 (some .int)) (rm_c_X6_placeToPut_n) D cs [.ref drp, .int (nI zz)] sz [(drp, .inr (6, [.int 0, .int 0, .int la, .int pb, .int 0, .int 0, .int (nI uc), .ref drp1, .ref drp2, .ref drp3, .ref drp4, .ref drp5, .ref drp6, .ref drp7, .ref drp8, .ref drp9, .ref drp10])), (drp1, aI cs 24 fe)] (fun (r : Int32) (u : Unit) => (r = (-1))) (fun (u : Unit) => [(drp, .inr (6, [.int 0, .int 0, .int la, .int pb, .int 0, .int 0, .int (nI uc), .ref drp1, .ref drp2, .ref drp3, .ref drp4, .ref drp5, .ref drp6, .ref drp7, .ref drp8, .ref drp9, .ref drp10])), (drp1, aI cs 24 fe)]) := by
  refine kMet_i RX6 (by decide) rfl (Nat.le_of_ble_eq_true rfl) ?_
  intro p e s m below meth c ls A Qz H locs hx hb hml hown hin hu hK hsz hA hP hD hS hl hz
  subst hsz
  have hl : lv_has ls 3 [(0, .ref drp), (1, .int (nI zz))] := hl
  refine lv_aload_n hx hb dX6_placeToPut_0 rfl (lv_at hl 0 rfl) ?_
  refine lv_iload_n hx hb dX6_placeToPut_1 rfl (lv_at hl 1 rfl) ?_
  refine lv_iconst (v := (-1)) hx hb dX6_placeToPut_2 (by decide) ?_
  refine kV_i (ci := 6) (As := [.int (nI zz), .int (-1)]) (rest := []) (wc := [(drp, .inr (6, [.int 0, .int 0, .int la, .int pb, .int 0, .int 0, .int (nI uc), .ref drp1, .ref drp2, .ref drp3, .ref drp4, .ref drp5, .ref drp6, .ref drp7, .ref drp8, .ref drp9, .ref drp10])), (drp1, aI cs 24 fe)]) (wr := []) hx hb hml hown hu hK hP hD hS hA hl.1 (c_X6_fitting_n l D cs H.size drp drp1 drp2 drp3 drp4 drp5 drp6 drp7 drp8 drp9 drp10 fe zz uc la pb we hE hzz hN) (gV u_441 u_442 u_443 u_72 u_444) hd_X6_fitting ⟨(Nat.le_of_ble_eq_true rfl), (Nat.le_of_ble_eq_true rfl)⟩ [0, 1] [] rfl rfl rfl rfl (by decide) rfl 0 rfl rfl rfl (Nat.le_of_ble_eq_true rfl) dX6_placeToPut_3 ⟨(Nat.le_of_ble_eq_true rfl), (Nat.le_of_ble_eq_true rfl)⟩ (fun r_1 ut_2 H locs hw_3 hP hD hS => ?_)
  have hP : va_P D vwCl [(drp, .inr (6, [.int 0, .int 0, .int la, .int pb, .int 0, .int 0, .int (nI uc), .ref drp1, .ref drp2, .ref drp3, .ref drp4, .ref drp5, .ref drp6, .ref drp7, .ref drp8, .ref drp9, .ref drp10])), (drp1, aI cs 24 fe)] H := hP
  have hD : va_D A [(drp, .inr (6, [.int 0, .int 0, .int la, .int pb, .int 0, .int 0, .int (nI uc), .ref drp1, .ref drp2, .ref drp3, .ref drp4, .ref drp5, .ref drp6, .ref drp7, .ref drp8, .ref drp9, .ref drp10])), (drp1, aI cs 24 fe)] := hD
  have er_4 := hw_3
  subst er_4
  refine lv_istore_n (lv' := [(2, .int (-1)), (0, .ref drp), (1, .int (nI zz))]) hx hb dX6_placeToPut_6 rfl hl (by decide) rfl (fun ls hl => ?_)
  refine lv_iload_n hx hb dX6_placeToPut_7 rfl (lv_at hl 0 rfl) ?_
  refine lv_iconst (v := (-1)) hx hb dX6_placeToPut_8 (by decide) ?_
  refine lv_icmp_ne (tgt := 20) hx hb dX6_placeToPut_9 (by decide) (fun c_5 => absurd (by decide) c_5) (fun c_5 => ?_)
  refine lv_aload_n hx hb dX6_placeToPut_12 rfl (lv_at hl 1 rfl) ?_
  refine kV_i (ci := 6) (As := []) (rest := []) (wc := [(drp, .inr (6, [.int 0, .int 0, .int la, .int pb, .int 0, .int 0, .int (nI uc), .ref drp1, .ref drp2, .ref drp3, .ref drp4, .ref drp5, .ref drp6, .ref drp7, .ref drp8, .ref drp9, .ref drp10])), (drp1, aI cs 24 fe)]) (wr := []) hx hb hml hown hu hK hP hD hS hA hl.1 (c_X6_freePages_g l D cs H.size drp drp1 drp2 drp3 drp4 drp5 drp6 drp7 drp8 drp9 drp10 fe we uc la pb hE) (gV u_445 u_446 u_447 u_72 u_448) hd_X6_freePages ⟨(Nat.le_of_ble_eq_true rfl), (Nat.le_of_ble_eq_true rfl)⟩ [0, 1] [] rfl rfl rfl rfl (by decide) rfl 0 rfl rfl rfl (Nat.le_of_ble_eq_true rfl) dX6_placeToPut_13 ⟨(Nat.le_of_ble_eq_true rfl), (Nat.le_of_ble_eq_true rfl)⟩ (fun r_6 ut_7 H locs hw_8 hP hD hS => ?_)
  have hP : va_P D vwCl [(drp, .inr (6, [.int 0, .int 0, .int la, .int pb, .int 0, .int 0, .int (nI uc), .ref drp1, .ref drp2, .ref drp3, .ref drp4, .ref drp5, .ref drp6, .ref drp7, .ref drp8, .ref drp9, .ref drp10])), (drp1, aI cs 24 fe)] H := hP
  have hD : va_D A [(drp, .inr (6, [.int 0, .int 0, .int la, .int pb, .int 0, .int 0, .int (nI uc), .ref drp1, .ref drp2, .ref drp3, .ref drp4, .ref drp5, .ref drp6, .ref drp7, .ref drp8, .ref drp9, .ref drp10])), (drp1, aI cs 24 fe)] := hD
  have er_9 := hw_8
  subst er_9
  refine lv_iconst (v := 2) hx hb dX6_placeToPut_16 (by decide) ?_
  refine lv_icmp_ge (tgt := 24) hx hb dX6_placeToPut_17 (by decide) (fun c_10 => absurd c_10 (fun h => absurd ((nI_leI (a := 2) (by omega) (by omega)).mp h) (by omega))) (fun c_10 => ?_)
  refine lv_iload_n hx hb dX6_placeToPut_20 rfl (lv_at hl 0 rfl) ?_
  refine lv_goto (tgt := 28) hx hb dX6_placeToPut_21 (by decide) ?_
  exact hz () hP hD hS rfl [0, 1] rfl rfl (Nat.le_of_ble_eq_true rfl) (Nat.le_of_ble_eq_true rfl) .int rfl rfl dX6_placeToPut_28
abbrev rm_c_X6_deadOn_g : Room := { frames := 1, cells := 0, slots := 0, locals := 20 }
set_option maxHeartbeats 4000000 in
set_option maxRecDepth 100000 in
theorem c_X6_deadOn_g (l : Launch) (D : va_G) (cs : Nat → ClassId) (sz : Nat) (drp : Nat) (drp1 : Nat) (drp2 : Nat) (drp3 : Nat) (drp4 : Nat) (drp5 : Nat) (drp6 : Nat) (drp7 : Nat) (drp8 : Nat) (drp9 : Nat) (drp10 : Nat) (fsc : Nat → Int32) (fsr : Nat → Int32) (PP : Nat) (uc : Nat) (la : Int32) (pb : Int32) (mm : Nat → Nat) (hM : ∀ j, j < 24 → fsc j = nI (mm j) ∧ mm j ≤ 10 ∧ ∀ i, i < mm j → ¬ fsr (j * 10 + i) = -1) (hP24 : PP < 24) : cMi l yX6_deadOn (Cond.code yX6_deadOn cX6_deadOn 5 (some .int)) (rm_c_X6_deadOn_g) D cs [.ref drp, .int (nI PP)] sz [(drp, .inr (6, [.int 0, .int 0, .int la, .int pb, .int 0, .int 0, .int (nI uc), .ref drp1, .ref drp2, .ref drp3, .ref drp4, .ref drp5, .ref drp6, .ref drp7, .ref drp8, .ref drp9, .ref drp10])), (drp3, aI cs 24 fsc), (drp4, aI cs 240 fsr)] (fun (r : Int32) (u : Unit) => (r = 0)) (fun (u : Unit) => [(drp, .inr (6, [.int 0, .int 0, .int la, .int pb, .int 0, .int 0, .int (nI uc), .ref drp1, .ref drp2, .ref drp3, .ref drp4, .ref drp5, .ref drp6, .ref drp7, .ref drp8, .ref drp9, .ref drp10])), (drp3, aI cs 24 fsc), (drp4, aI cs 240 fsr)]) := by
  refine kMet_i RX6 (by decide) rfl (Nat.le_of_ble_eq_true rfl) ?_
  intro p e s m below meth c ls A Qz H locs hx hb hml hown hin hu hK hsz hA hP hD hS hl hz
  subst hsz
  have hl : lv_has ls 5 [(0, .ref drp), (1, .int (nI PP))] := hl
  refine lv_iconst (v := 0) hx hb dX6_deadOn_0 (by decide) ?_
  refine lv_istore_n (lv' := [(2, .int 0), (0, .ref drp), (1, .int (nI PP))]) hx hb dX6_deadOn_1 rfl hl (by decide) rfl (fun ls hl => ?_)
  refine lv_iload_n hx hb dX6_deadOn_2 rfl (lv_at hl 2 rfl) ?_
  refine kN_i  (As := [.int (nI PP)]) (rest := []) (wc := []) (wr := [(drp, .inr (6, [.int 0, .int 0, .int la, .int pb, .int 0, .int 0, .int (nI uc), .ref drp1, .ref drp2, .ref drp3, .ref drp4, .ref drp5, .ref drp6, .ref drp7, .ref drp8, .ref drp9, .ref drp10])), (drp3, aI cs 24 fsc), (drp4, aI cs 240 fsr)]) hx hb hml hown hu hK hP hD hS hA hl.1 (c_X8_isPage l D cs H.size (nI PP)) u_463 (nest_10) u_462 u_66 hd_X8_isPage.2 ⟨(Nat.le_of_ble_eq_true rfl), (Nat.le_of_ble_eq_true rfl)⟩ [] [0, 1, 2] rfl rfl rfl rfl (by decide) rfl rfl (Nat.le_of_ble_eq_true rfl) dX6_deadOn_3 ⟨(Nat.le_of_ble_eq_true rfl), (Nat.le_of_ble_eq_true rfl)⟩ (fun r_1 ut_2 H locs hw_3 hP hD hS => ?_)
  have hP : va_P D vwCl [(drp, .inr (6, [.int 0, .int 0, .int la, .int pb, .int 0, .int 0, .int (nI uc), .ref drp1, .ref drp2, .ref drp3, .ref drp4, .ref drp5, .ref drp6, .ref drp7, .ref drp8, .ref drp9, .ref drp10])), (drp3, aI cs 24 fsc), (drp4, aI cs 240 fsr)] H := hP
  have hD : va_D A [(drp, .inr (6, [.int 0, .int 0, .int la, .int pb, .int 0, .int 0, .int (nI uc), .ref drp1, .ref drp2, .ref drp3, .ref drp4, .ref drp5, .ref drp6, .ref drp7, .ref drp8, .ref drp9, .ref drp10])), (drp3, aI cs 24 fsc), (drp4, aI cs 240 fsr)] := hD
  rcases hw_3 with hw_3 | hw_3
  · obtain ⟨er_4, hf_5⟩ := hw_3
    subst er_4
    refine lv_if_eq (tgt := 70) hx hb dX6_deadOn_6 (by decide) (fun c_6 => absurd c_6 (by decide)) (fun c_6 => ?_)
    refine lv_iload_n hx hb dX6_deadOn_9 rfl (lv_at hl 2 rfl) ?_
    refine lv_bipush (v := 10) hx hb dX6_deadOn_10 (by decide) ?_
    refine lv_imul hx hb dX6_deadOn_12 ?_
    refine tpi (y := nI (PP * 10)) (pk_mul _ _) ?_
    refine lv_istore_n (lv' := [(3, .int (nI (PP * 10))), (2, .int 0), (0, .ref drp), (1, .int (nI PP))]) hx hb dX6_deadOn_13 rfl hl (by decide) rfl (fun ls hl => ?_)
    refine lv_iconst (v := 0) hx hb dX6_deadOn_14 (by decide) ?_
    refine lv_istore (lv' := [(4, .int 0), (3, .int (nI (PP * 10))), (2, .int 0), (0, .ref drp), (1, .int (nI PP))]) hx hb dX6_deadOn_15 hl (by decide) rfl (fun ls hl => ?_)
    have lp_7 : ∀ (fuel : Nat) (i : Nat) (hfuel : 10 < i + fuel) (hi : i ≤ 10) (H : Heap) (locs : List Loc) (hP : va_P D vwCl [(drp, .inr (6, [.int 0, .int 0, .int la, .int pb, .int 0, .int 0, .int (nI uc), .ref drp1, .ref drp2, .ref drp3, .ref drp4, .ref drp5, .ref drp6, .ref drp7, .ref drp8, .ref drp9, .ref drp10])), (drp3, aI cs 24 fsc), (drp4, aI cs 240 fsr)] H) (hD : va_D A [(drp, .inr (6, [.int 0, .int 0, .int la, .int pb, .int 0, .int 0, .int (nI uc), .ref drp1, .ref drp2, .ref drp3, .ref drp4, .ref drp5, .ref drp6, .ref drp7, .ref drp8, .ref drp9, .ref drp10])), (drp3, aI cs 24 fsc), (drp4, aI cs 240 fsr)]) (hS : va_S A s.heap H locs) (ls : Array Slot) (hl : lv_has ls 5 [(4, .int (nI i)), (3, .int (nI (PP * 10))), (2, .int 0), (0, .ref drp), (1, .int (nI PP))]), W p l e rm_c_X6_deadOn_g s m [.ref drp, .int (nI PP)].toArray below meth c H locs 0 0 Qz (F0 m 17 ls []) := by
      intro fuel
      induction fuel with
      | zero =>
        intro i hfuel hi H locs hP hD hS ls hl
        exact absurd hfuel (by omega)
      | succ fuel ih =>
        intro i hfuel hi H locs hP hD hS ls hl
        refine lv_iload hx hb dX6_deadOn_17 (lv_at hl 0 rfl) ?_
        refine lv_aload_n hx hb dX6_deadOn_19 rfl (lv_at hl 3 rfl) ?_
        refine va_get (D := D) (ci := 6) (v := .ref drp3) (C := RX6) (T := TX6) (N := 17) hx hb hu in_X6 hown hK.1 hP 0 rfl rfl 9 (by decide) (hu _ u_212) (fun _ h9 => h9) rfl dX6_deadOn_20 ?_
        refine lv_iload_n hx hb dX6_deadOn_23 rfl (lv_at hl 4 rfl) ?_
        refine va_iald hx hb hK.1 hP 1 0 rfl rfl (vp_in_nI (by omega) (by omega)) dX6_deadOn_24 ?_
        have hw_8 := (hM PP (by omega)).2.1
        refine tpi (y := nI (mm PP)) ((congrArg fsc (nI_clamp (by omega))).trans (hM _ (by omega)).1) ?_
        refine lv_icmp_ge (tgt := 70) hx hb dX6_deadOn_25 (by decide) (fun c_9 => ?_) (fun c_9 => ?_)
        · have gc_9 : mm PP ≤ i := (nI_leI (a := (mm PP)) (b := i) (by omega) (by omega)).mp c_9
          refine lv_iload_n hx hb dX6_deadOn_70 rfl (lv_at hl 2 rfl) ?_
          exact hz () hP hD hS rfl [0, 1, 2] rfl rfl (Nat.le_of_ble_eq_true rfl) (Nat.le_of_ble_eq_true rfl) .int rfl rfl dX6_deadOn_71
        · have gc_9 : ¬ (mm PP) ≤ i := fun h => c_9 ((nI_leI (a := (mm PP)) (b := i) (by omega) (by omega)).mpr h)
          refine lv_iload hx hb dX6_deadOn_28 (lv_at hl 0 rfl) ?_
          refine lv_bipush (v := 10) hx hb dX6_deadOn_30 (by decide) ?_
          refine lv_icmp_ge (tgt := 70) hx hb dX6_deadOn_32 (by decide) (fun c_10 => ?_) (fun c_10 => ?_)
          · have gc_10 : 10 ≤ i := (nI_leI (a := 10) (b := i) (by omega) (by omega)).mp c_10
            refine lv_iload_n hx hb dX6_deadOn_70 rfl (lv_at hl 2 rfl) ?_
            exact hz () hP hD hS rfl [0, 1, 2] rfl rfl (Nat.le_of_ble_eq_true rfl) (Nat.le_of_ble_eq_true rfl) .int rfl rfl dX6_deadOn_71
          · have gc_10 : ¬ 10 ≤ i := fun h => c_10 ((nI_leI (a := 10) (b := i) (by omega) (by omega)).mpr h)
            refine lv_iload_n hx hb dX6_deadOn_35 rfl (lv_at hl 2 rfl) ?_
            refine lv_aload_n hx hb dX6_deadOn_36 rfl (lv_at hl 3 rfl) ?_
            refine va_get (D := D) (ci := 6) (v := .ref drp4) (C := RX6) (T := TX6) (N := 17) hx hb hu in_X6 hown hK.1 hP 0 rfl rfl 10 (by decide) (hu _ u_213) (fun _ h9 => h9) rfl dX6_deadOn_37 ?_
            refine lv_iload_n hx hb dX6_deadOn_40 rfl (lv_at hl 1 rfl) ?_
            refine lv_iload hx hb dX6_deadOn_41 (lv_at hl 0 rfl) ?_
            refine lv_iadd hx hb dX6_deadOn_43 ?_
            refine tpi (y := nI (PP * 10 + i)) (nI_add _ _) ?_
            refine va_iald hx hb hK.1 hP 2 0 rfl rfl (vp_in_nI (by omega) (by omega)) dX6_deadOn_44 ?_
            refine tpi (y := fsr (PP * 10 + i)) (congrArg fsr (nI_clamp (by omega))) ?_
            refine lv_iconst (v := (-1)) hx hb dX6_deadOn_45 (by decide) ?_
            refine lv_icmp_ne (tgt := 61) hx hb dX6_deadOn_46 (by decide) (fun c_11 => ?_) (fun c_11 => absurd c_11 ((hM PP hP24).2.2 i (by omega)))
            refine lv_iconst (v := 0) hx hb dX6_deadOn_61 (by decide) ?_
            refine lv_iadd hx hb dX6_deadOn_62 ?_
            refine tpi (y := 0) (by decide) ?_
            refine lv_istore_n (lv' := [(2, .int 0), (4, .int (nI i)), (3, .int (nI (PP * 10))), (0, .ref drp), (1, .int (nI PP))]) hx hb dX6_deadOn_63 rfl hl (by decide) rfl (fun ls hl => ?_)
            refine lv_iinc (v := nI (i + 1)) (lv' := [(4, .int (nI (i + 1))), (2, .int 0), (3, .int (nI (PP * 10))), (0, .ref drp), (1, .int (nI PP))]) hx hb dX6_deadOn_64 hl (k := 1) rfl (nI_1 _) (by decide) rfl (fun ls hl => ?_)
            refine lv_goto (tgt := 17) hx hb dX6_deadOn_67 (by decide) ?_
            exact ih (i + 1) (by omega) (by omega) H locs (hP.sub [0, 1, 2] rfl) (hD.sub [0, 1, 2] rfl rfl) hS ls (lv_sub hl [0, 2, 1, 3, 4] rfl)
    exact lp_7 (10 + 1) 0 (by omega) (by omega) H locs (hP.sub [0, 1, 2] rfl) (hD.sub [0, 1, 2] rfl rfl) hS ls (lv_sub hl [0, 1, 2, 3, 4] rfl)
  · obtain ⟨er_12, hf_13⟩ := hw_3
    exact absurd hf_13 (nI_rng (by omega) (by decide))
abbrev rm_c_X6_chosen_g : Room := { frames := 2, cells := 0, slots := 0, locals := 44 }
set_option maxHeartbeats 4000000 in
set_option maxRecDepth 100000 in
theorem c_X6_chosen_g (l : Launch) (D : va_G) (cs : Nat → ClassId) (sz : Nat) (drp : Nat) (drp1 : Nat) (drp2 : Nat) (drp3 : Nat) (drp4 : Nat) (drp5 : Nat) (drp6 : Nat) (drp7 : Nat) (drp8 : Nat) (drp9 : Nat) (drp10 : Nat) (fsc : Nat → Int32) (fsr : Nat → Int32) (uc : Nat) (la : Int32) (pb : Int32) (mm : Nat → Nat) (hM : ∀ j, j < 24 → fsc j = nI (mm j) ∧ mm j ≤ 10 ∧ ∀ i, i < mm j → ¬ fsr (j * 10 + i) = -1) : cMi l yX6_chosen (Cond.code yX6_chosen cX6_chosen 7 (some .int)) (rm_c_X6_chosen_g) D cs [.ref drp, .int 0] sz [(drp, .inr (6, [.int 0, .int 0, .int la, .int pb, .int 0, .int 0, .int (nI uc), .ref drp1, .ref drp2, .ref drp3, .ref drp4, .ref drp5, .ref drp6, .ref drp7, .ref drp8, .ref drp9, .ref drp10])), (drp3, aI cs 24 fsc), (drp4, aI cs 240 fsr)] (fun (r : Int32) (u : Unit) => (r = (-1))) (fun (u : Unit) => [(drp, .inr (6, [.int 0, .int 0, .int la, .int pb, .int 0, .int 0, .int (nI uc), .ref drp1, .ref drp2, .ref drp3, .ref drp4, .ref drp5, .ref drp6, .ref drp7, .ref drp8, .ref drp9, .ref drp10])), (drp3, aI cs 24 fsc), (drp4, aI cs 240 fsr)]) := by
  refine kMet_i RX6 (by decide) rfl (Nat.le_of_ble_eq_true rfl) ?_
  intro p e s m below meth c ls A Qz H locs hx hb hml hown hin hu hK hsz hA hP hD hS hl hz
  subst hsz
  have hl : lv_has ls 7 [(0, .ref drp), (1, .int 0)] := hl
  refine lv_iconst (v := (-1)) hx hb dX6_chosen_0 (by decide) ?_
  refine lv_istore_n (lv' := [(2, .int (-1)), (0, .ref drp), (1, .int 0)]) hx hb dX6_chosen_1 rfl hl (by decide) rfl (fun ls hl => ?_)
  refine lv_iconst (v := 0) hx hb dX6_chosen_2 (by decide) ?_
  refine lv_istore_n (lv' := [(3, .int 0), (2, .int (-1)), (0, .ref drp), (1, .int 0)]) hx hb dX6_chosen_3 rfl hl (by decide) rfl (fun ls hl => ?_)
  refine lv_iconst (v := 0) hx hb dX6_chosen_4 (by decide) ?_
  refine lv_istore (lv' := [(4, .int 0), (3, .int 0), (2, .int (-1)), (0, .ref drp), (1, .int 0)]) hx hb dX6_chosen_5 hl (by decide) rfl (fun ls hl => ?_)
  have lp_1 : ∀ (fuel : Nat) (i : Nat) (hfuel : 24 < i + fuel) (hi : i ≤ 24) (H : Heap) (locs : List Loc) (hP : va_P D vwCl [(drp, .inr (6, [.int 0, .int 0, .int la, .int pb, .int 0, .int 0, .int (nI uc), .ref drp1, .ref drp2, .ref drp3, .ref drp4, .ref drp5, .ref drp6, .ref drp7, .ref drp8, .ref drp9, .ref drp10])), (drp3, aI cs 24 fsc), (drp4, aI cs 240 fsr)] H) (hD : va_D A [(drp, .inr (6, [.int 0, .int 0, .int la, .int pb, .int 0, .int 0, .int (nI uc), .ref drp1, .ref drp2, .ref drp3, .ref drp4, .ref drp5, .ref drp6, .ref drp7, .ref drp8, .ref drp9, .ref drp10])), (drp3, aI cs 24 fsc), (drp4, aI cs 240 fsr)]) (hS : va_S A s.heap H locs) (ls : Array Slot) (hl : lv_has ls 7 [(4, .int (nI i)), (3, .int 0), (2, .int (-1)), (0, .ref drp), (1, .int 0)]), W p l e rm_c_X6_chosen_g s m [.ref drp, .int 0].toArray below meth c H locs 0 0 Qz (F0 m 7 ls []) := by
    intro fuel
    induction fuel with
    | zero =>
      intro i hfuel hi H locs hP hD hS ls hl
      exact absurd hfuel (by omega)
    | succ fuel ih =>
      intro i hfuel hi H locs hP hD hS ls hl
      refine lv_iload hx hb dX6_chosen_7 (lv_at hl 0 rfl) ?_
      refine lv_bipush (v := 24) hx hb dX6_chosen_9 (by decide) ?_
      refine lv_icmp_ge (tgt := 90) hx hb dX6_chosen_11 (by decide) (fun c_2 => ?_) (fun c_2 => ?_)
      · have gc_2 : 24 ≤ i := (nI_leI (a := 24) (b := i) (by omega) (by omega)).mp c_2
        refine lv_iload_n hx hb dX6_chosen_90 rfl (lv_at hl 2 rfl) ?_
        exact hz () hP hD hS rfl [0, 1, 2] rfl rfl (Nat.le_of_ble_eq_true rfl) (Nat.le_of_ble_eq_true rfl) .int rfl rfl dX6_chosen_91
      · have gc_2 : ¬ 24 ≤ i := fun h => c_2 ((nI_leI (a := 24) (b := i) (by omega) (by omega)).mpr h)
        refine lv_aload_n hx hb dX6_chosen_14 rfl (lv_at hl 3 rfl) ?_
        refine lv_iload hx hb dX6_chosen_15 (lv_at hl 0 rfl) ?_
        refine kV_i (ci := 6) (As := [.int (nI i)]) (rest := []) (wc := [(drp, .inr (6, [.int 0, .int 0, .int la, .int pb, .int 0, .int 0, .int (nI uc), .ref drp1, .ref drp2, .ref drp3, .ref drp4, .ref drp5, .ref drp6, .ref drp7, .ref drp8, .ref drp9, .ref drp10])), (drp3, aI cs 24 fsc), (drp4, aI cs 240 fsr)]) (wr := []) hx hb hml hown hu hK hP hD hS hA hl.1 (c_X6_deadOn_g l D cs H.size drp drp1 drp2 drp3 drp4 drp5 drp6 drp7 drp8 drp9 drp10 fsc fsr i uc la pb mm hM (by omega)) (gV u_457 u_458 u_459 u_72 u_460) hd_X6_deadOn ⟨(Nat.le_of_ble_eq_true rfl), (Nat.le_of_ble_eq_true rfl)⟩ [0, 1, 2] [] rfl rfl rfl rfl (by decide) rfl 0 rfl rfl rfl (Nat.le_of_ble_eq_true rfl) dX6_chosen_17 ⟨(Nat.le_of_ble_eq_true rfl), (Nat.le_of_ble_eq_true rfl)⟩ (fun r_3 ut_4 H locs hw_5 hP hD hS => ?_)
        have hP : va_P D vwCl [(drp, .inr (6, [.int 0, .int 0, .int la, .int pb, .int 0, .int 0, .int (nI uc), .ref drp1, .ref drp2, .ref drp3, .ref drp4, .ref drp5, .ref drp6, .ref drp7, .ref drp8, .ref drp9, .ref drp10])), (drp3, aI cs 24 fsc), (drp4, aI cs 240 fsr)] H := hP
        have hD : va_D A [(drp, .inr (6, [.int 0, .int 0, .int la, .int pb, .int 0, .int 0, .int (nI uc), .ref drp1, .ref drp2, .ref drp3, .ref drp4, .ref drp5, .ref drp6, .ref drp7, .ref drp8, .ref drp9, .ref drp10])), (drp3, aI cs 24 fsc), (drp4, aI cs 240 fsr)] := hD
        have er_6 := hw_5
        subst er_6
        refine lv_istore (lv' := [(5, .int 0), (4, .int (nI i)), (3, .int 0), (2, .int (-1)), (0, .ref drp), (1, .int 0)]) hx hb dX6_chosen_20 hl (by decide) rfl (fun ls hl => ?_)
        refine lv_iload hx hb dX6_chosen_22 (lv_at hl 0 rfl) ?_
        refine lv_if_ne (tgt := 30) hx hb dX6_chosen_24 (by decide) (fun c_7 => absurd (by decide) c_7) (fun c_7 => ?_)
        refine lv_goto (tgt := 84) hx hb dX6_chosen_27 (by decide) ?_
        refine lv_iinc (v := nI (i + 1)) (lv' := [(4, .int (nI (i + 1))), (5, .int 0), (3, .int 0), (2, .int (-1)), (0, .ref drp), (1, .int 0)]) hx hb dX6_chosen_84 hl (k := 1) rfl (nI_1 _) (by decide) rfl (fun ls hl => ?_)
        refine lv_goto (tgt := 7) hx hb dX6_chosen_87 (by decide) ?_
        exact ih (i + 1) (by omega) (by omega) H locs (hP.sub [0, 1, 2] rfl) (hD.sub [0, 1, 2] rfl rfl) hS ls (lv_sub hl [0, 2, 3, 4, 5] rfl)
  exact lp_1 (24 + 1) 0 (by omega) (by omega) H locs (hP.sub [0, 1, 2] rfl) (hD.sub [0, 1, 2] rfl rfl) hS ls (lv_sub hl [0, 1, 2, 3, 4] rfl)
abbrev rm_c_X6_makeRoom_q : Room := { frames := 2, cells := 0, slots := 0, locals := 48 }
set_option maxHeartbeats 4000000 in
set_option maxRecDepth 100000 in
theorem c_X6_makeRoom_q (l : Launch) (D : va_G) (cs : Nat → ClassId) (sz : Nat) (drp : Nat) (drp1 : Nat) (drp2 : Nat) (drp3 : Nat) (drp4 : Nat) (drp5 : Nat) (drp6 : Nat) (drp7 : Nat) (drp8 : Nat) (drp9 : Nat) (drp10 : Nat) (fe : Nat → Int32) (fer : Nat → Int32) (zz : Nat) (qq : Nat) (uc : Nat) (la : Int32) (pb : Int32) (we : Nat → Nat) (z_fer : ∀ j, j < 24 → fer j = 0) (hE : ∀ j, j < 24 → fe j = nI (we j) ∧ we j ≤ 64) (hzz : 1 ≤ zz ∧ zz ≤ 64) (hF : ∀ j, j < qq → 0 < we j ∧ 64 < we j + zz) (hG : ∀ j, qq < j → j < 24 → we j = 0) (hqz : we qq + zz ≤ 64) (hL : 0 < we qq → la = nI qq) (hq22 : qq ≤ 22) : cMi l yX6_makeRoom (Cond.code yX6_makeRoom cX6_makeRoom 5 (some .int)) (rm_c_X6_makeRoom_q) D cs [.ref drp, .int (nI zz)] sz [(drp, .inr (6, [.int 0, .int 0, .int la, .int pb, .int 0, .int 0, .int (nI uc), .ref drp1, .ref drp2, .ref drp3, .ref drp4, .ref drp5, .ref drp6, .ref drp7, .ref drp8, .ref drp9, .ref drp10])), (drp1, aI cs 24 fe), (drp2, aI cs 24 fer)] (fun (r : Int32) (u : Unit) => (r = (nI qq))) (fun (u : Unit) => [(drp, .inr (6, [.int 0, .int 0, .int la, .int pb, .int 0, .int 0, .int (nI uc), .ref drp1, .ref drp2, .ref drp3, .ref drp4, .ref drp5, .ref drp6, .ref drp7, .ref drp8, .ref drp9, .ref drp10])), (drp1, aI cs 24 fe), (drp2, aI cs 24 fer)]) := by
  refine kMet_i RX6 (by decide) rfl (Nat.le_of_ble_eq_true rfl) ?_
  intro p e s m below meth c ls A Qz H locs hx hb hml hown hin hu hK hsz hA hP hD hS hl hz
  subst hsz
  have hl : lv_has ls 5 [(0, .ref drp), (1, .int (nI zz))] := hl
  refine lv_aload_n hx hb dX6_makeRoom_0 rfl (lv_at hl 0 rfl) ?_
  refine lv_iload_n hx hb dX6_makeRoom_1 rfl (lv_at hl 1 rfl) ?_
  refine kV_i (ci := 6) (As := [.int (nI zz)]) (rest := []) (wc := [(drp, .inr (6, [.int 0, .int 0, .int la, .int pb, .int 0, .int 0, .int (nI uc), .ref drp1, .ref drp2, .ref drp3, .ref drp4, .ref drp5, .ref drp6, .ref drp7, .ref drp8, .ref drp9, .ref drp10])), (drp1, aI cs 24 fe), (drp2, aI cs 24 fer)]) (wr := []) hx hb hml hown hu hK hP hD hS hA hl.1 (c_X6_placeToPut_q l D cs H.size drp drp1 drp2 drp3 drp4 drp5 drp6 drp7 drp8 drp9 drp10 fe fer zz qq uc la pb we z_fer hE hzz hF hG hqz hL hq22) (gV u_437 u_438 u_439 u_72 u_440) hd_X6_placeToPut ⟨(Nat.le_of_ble_eq_true rfl), (Nat.le_of_ble_eq_true rfl)⟩ [0, 1, 2] [] rfl rfl rfl rfl (by decide) rfl 0 rfl rfl rfl (Nat.le_of_ble_eq_true rfl) dX6_makeRoom_2 ⟨(Nat.le_of_ble_eq_true rfl), (Nat.le_of_ble_eq_true rfl)⟩ (fun r_1 ut_2 H locs hw_3 hP hD hS => ?_)
  have hP : va_P D vwCl [(drp, .inr (6, [.int 0, .int 0, .int la, .int pb, .int 0, .int 0, .int (nI uc), .ref drp1, .ref drp2, .ref drp3, .ref drp4, .ref drp5, .ref drp6, .ref drp7, .ref drp8, .ref drp9, .ref drp10])), (drp1, aI cs 24 fe), (drp2, aI cs 24 fer)] H := hP
  have hD : va_D A [(drp, .inr (6, [.int 0, .int 0, .int la, .int pb, .int 0, .int 0, .int (nI uc), .ref drp1, .ref drp2, .ref drp3, .ref drp4, .ref drp5, .ref drp6, .ref drp7, .ref drp8, .ref drp9, .ref drp10])), (drp1, aI cs 24 fe), (drp2, aI cs 24 fer)] := hD
  have er_4 := hw_3
  subst er_4
  refine lv_istore_n (lv' := [(2, .int (nI qq)), (0, .ref drp), (1, .int (nI zz))]) hx hb dX6_makeRoom_5 rfl hl (by decide) rfl (fun ls hl => ?_)
  refine lv_iconst (v := 0) hx hb dX6_makeRoom_6 (by decide) ?_
  refine lv_istore_n (lv' := [(3, .int 0), (2, .int (nI qq)), (0, .ref drp), (1, .int (nI zz))]) hx hb dX6_makeRoom_7 rfl hl (by decide) rfl (fun ls hl => ?_)
  refine lv_iload_n hx hb dX6_makeRoom_8 rfl (lv_at hl 0 rfl) ?_
  refine lv_bipush (v := 24) hx hb dX6_makeRoom_9 (by decide) ?_
  refine lv_icmp_ge (tgt := 56) hx hb dX6_makeRoom_11 (by decide) (fun c_5 => absurd c_5 (by decide)) (fun c_5 => ?_)
  refine lv_iload_n hx hb dX6_makeRoom_14 rfl (lv_at hl 1 rfl) ?_
  refine lv_iconst (v := (-1)) hx hb dX6_makeRoom_15 (by decide) ?_
  refine lv_icmp_ne (tgt := 56) hx hb dX6_makeRoom_16 (by decide) (fun c_6 => ?_) (fun c_6 => absurd c_6 (nI_nem1 (by omega)))
  refine lv_iload_n hx hb dX6_makeRoom_56 rfl (lv_at hl 1 rfl) ?_
  exact hz () hP hD hS rfl [0, 1, 2] rfl rfl (Nat.le_of_ble_eq_true rfl) (Nat.le_of_ble_eq_true rfl) .int rfl rfl dX6_makeRoom_57
abbrev rm_c_X6_makeRoom_n : Room := { frames := 3, cells := 0, slots := 0, locals := 70 }
set_option maxHeartbeats 4000000 in
set_option maxRecDepth 100000 in
theorem c_X6_makeRoom_n (l : Launch) (D : va_G) (cs : Nat → ClassId) (sz : Nat) (drp : Nat) (drp1 : Nat) (drp2 : Nat) (drp3 : Nat) (drp4 : Nat) (drp5 : Nat) (drp6 : Nat) (drp7 : Nat) (drp8 : Nat) (drp9 : Nat) (drp10 : Nat) (fe : Nat → Int32) (fsc : Nat → Int32) (fsr : Nat → Int32) (zz : Nat) (uc : Nat) (la : Int32) (pb : Int32) (we : Nat → Nat) (mm : Nat → Nat) (hE : ∀ j, j < 24 → fe j = nI (we j) ∧ we j ≤ 64) (hzz : 1 ≤ zz ∧ zz ≤ 64) (hM : ∀ j, j < 24 → fsc j = nI (mm j) ∧ mm j ≤ 10 ∧ ∀ i, i < mm j → ¬ fsr (j * 10 + i) = -1) (hN : ∀ j, j < 24 → ¬ (0 < we j ∧ we j + zz ≤ 64)) (hz2 : zc we 24 < 2) : cMi l yX6_makeRoom (Cond.code yX6_makeRoom cX6_makeRoom 5 (some .int)) (rm_c_X6_makeRoom_n) D cs [.ref drp, .int (nI zz)] sz [(drp, .inr (6, [.int 0, .int 0, .int la, .int pb, .int 0, .int 0, .int (nI uc), .ref drp1, .ref drp2, .ref drp3, .ref drp4, .ref drp5, .ref drp6, .ref drp7, .ref drp8, .ref drp9, .ref drp10])), (drp1, aI cs 24 fe), (drp3, aI cs 24 fsc), (drp4, aI cs 240 fsr)] (fun (r : Int32) (u : Unit) => (r = (-1))) (fun (u : Unit) => [(drp, .inr (6, [.int 0, .int 0, .int la, .int pb, .int 0, .int 0, .int (nI uc), .ref drp1, .ref drp2, .ref drp3, .ref drp4, .ref drp5, .ref drp6, .ref drp7, .ref drp8, .ref drp9, .ref drp10])), (drp1, aI cs 24 fe), (drp3, aI cs 24 fsc), (drp4, aI cs 240 fsr)]) := by
  refine kMet_i RX6 (by decide) rfl (Nat.le_of_ble_eq_true rfl) ?_
  intro p e s m below meth c ls A Qz H locs hx hb hml hown hin hu hK hsz hA hP hD hS hl hz
  subst hsz
  have hl : lv_has ls 5 [(0, .ref drp), (1, .int (nI zz))] := hl
  refine lv_aload_n hx hb dX6_makeRoom_0 rfl (lv_at hl 0 rfl) ?_
  refine lv_iload_n hx hb dX6_makeRoom_1 rfl (lv_at hl 1 rfl) ?_
  refine kV_i (ci := 6) (As := [.int (nI zz)]) (rest := []) (wc := [(drp, .inr (6, [.int 0, .int 0, .int la, .int pb, .int 0, .int 0, .int (nI uc), .ref drp1, .ref drp2, .ref drp3, .ref drp4, .ref drp5, .ref drp6, .ref drp7, .ref drp8, .ref drp9, .ref drp10])), (drp1, aI cs 24 fe)]) (wr := [(drp3, aI cs 24 fsc), (drp4, aI cs 240 fsr)]) hx hb hml hown hu hK hP hD hS hA hl.1 (c_X6_placeToPut_n l D cs H.size drp drp1 drp2 drp3 drp4 drp5 drp6 drp7 drp8 drp9 drp10 fe zz uc la pb we hE hzz hN hz2) (gV u_437 u_438 u_439 u_72 u_440) hd_X6_placeToPut ⟨(Nat.le_of_ble_eq_true rfl), (Nat.le_of_ble_eq_true rfl)⟩ [0, 1] [2, 3] rfl rfl rfl rfl (by decide) rfl 0 rfl rfl rfl (Nat.le_of_ble_eq_true rfl) dX6_makeRoom_2 ⟨(Nat.le_of_ble_eq_true rfl), (Nat.le_of_ble_eq_true rfl)⟩ (fun r_1 ut_2 H locs hw_3 hP hD hS => ?_)
  have hP : va_P D vwCl [(drp3, aI cs 24 fsc), (drp4, aI cs 240 fsr), (drp, .inr (6, [.int 0, .int 0, .int la, .int pb, .int 0, .int 0, .int (nI uc), .ref drp1, .ref drp2, .ref drp3, .ref drp4, .ref drp5, .ref drp6, .ref drp7, .ref drp8, .ref drp9, .ref drp10])), (drp1, aI cs 24 fe)] H := hP
  have hD : va_D A [(drp3, aI cs 24 fsc), (drp4, aI cs 240 fsr), (drp, .inr (6, [.int 0, .int 0, .int la, .int pb, .int 0, .int 0, .int (nI uc), .ref drp1, .ref drp2, .ref drp3, .ref drp4, .ref drp5, .ref drp6, .ref drp7, .ref drp8, .ref drp9, .ref drp10])), (drp1, aI cs 24 fe)] := hD
  have er_4 := hw_3
  subst er_4
  refine lv_istore_n (lv' := [(2, .int (-1)), (0, .ref drp), (1, .int (nI zz))]) hx hb dX6_makeRoom_5 rfl hl (by decide) rfl (fun ls hl => ?_)
  refine lv_iconst (v := 0) hx hb dX6_makeRoom_6 (by decide) ?_
  refine lv_istore_n (lv' := [(3, .int 0), (2, .int (-1)), (0, .ref drp), (1, .int (nI zz))]) hx hb dX6_makeRoom_7 rfl hl (by decide) rfl (fun ls hl => ?_)
  refine lv_iload_n hx hb dX6_makeRoom_8 rfl (lv_at hl 0 rfl) ?_
  refine lv_bipush (v := 24) hx hb dX6_makeRoom_9 (by decide) ?_
  refine lv_icmp_ge (tgt := 56) hx hb dX6_makeRoom_11 (by decide) (fun c_5 => absurd c_5 (by decide)) (fun c_5 => ?_)
  refine lv_iload_n hx hb dX6_makeRoom_14 rfl (lv_at hl 1 rfl) ?_
  refine lv_iconst (v := (-1)) hx hb dX6_makeRoom_15 (by decide) ?_
  refine lv_icmp_ne (tgt := 56) hx hb dX6_makeRoom_16 (by decide) (fun c_6 => absurd (by decide) c_6) (fun c_6 => ?_)
  refine lv_aload_n hx hb dX6_makeRoom_19 rfl (lv_at hl 2 rfl) ?_
  refine lv_aload_n hx hb dX6_makeRoom_20 rfl (lv_at hl 2 rfl) ?_
  refine va_get (D := D) (ci := 6) (v := .int 0) (C := RX6) (T := TX6) (N := 17) hx hb hu in_X6 hown hK.1 hP 2 rfl rfl 1 (by decide) (hu _ u_199) (fun _ h9 => h9) rfl dX6_makeRoom_21 ?_
  refine kV_i (ci := 6) (As := [.int 0]) (rest := []) (wc := [(drp, .inr (6, [.int 0, .int 0, .int la, .int pb, .int 0, .int 0, .int (nI uc), .ref drp1, .ref drp2, .ref drp3, .ref drp4, .ref drp5, .ref drp6, .ref drp7, .ref drp8, .ref drp9, .ref drp10])), (drp3, aI cs 24 fsc), (drp4, aI cs 240 fsr)]) (wr := [(drp1, aI cs 24 fe)]) hx hb hml hown hu hK hP hD hS hA hl.1 (c_X6_chosen_g l D cs H.size drp drp1 drp2 drp3 drp4 drp5 drp6 drp7 drp8 drp9 drp10 fsc fsr uc la pb mm hM) (gV u_453 u_454 u_455 u_72 u_456) hd_X6_chosen ⟨(Nat.le_of_ble_eq_true rfl), (Nat.le_of_ble_eq_true rfl)⟩ [2, 0, 1] [3] rfl rfl rfl rfl (by decide) rfl 0 rfl rfl rfl (Nat.le_of_ble_eq_true rfl) dX6_makeRoom_24 ⟨(Nat.le_of_ble_eq_true rfl), (Nat.le_of_ble_eq_true rfl)⟩ (fun r_7 ut_8 H locs hw_9 hP hD hS => ?_)
  have hP : va_P D vwCl [(drp1, aI cs 24 fe), (drp, .inr (6, [.int 0, .int 0, .int la, .int pb, .int 0, .int 0, .int (nI uc), .ref drp1, .ref drp2, .ref drp3, .ref drp4, .ref drp5, .ref drp6, .ref drp7, .ref drp8, .ref drp9, .ref drp10])), (drp3, aI cs 24 fsc), (drp4, aI cs 240 fsr)] H := hP
  have hD : va_D A [(drp1, aI cs 24 fe), (drp, .inr (6, [.int 0, .int 0, .int la, .int pb, .int 0, .int 0, .int (nI uc), .ref drp1, .ref drp2, .ref drp3, .ref drp4, .ref drp5, .ref drp6, .ref drp7, .ref drp8, .ref drp9, .ref drp10])), (drp3, aI cs 24 fsc), (drp4, aI cs 240 fsr)] := hD
  have er_10 := hw_9
  subst er_10
  refine lv_istore (lv' := [(4, .int (-1)), (3, .int 0), (2, .int (-1)), (0, .ref drp), (1, .int (nI zz))]) hx hb dX6_makeRoom_27 hl (by decide) rfl (fun ls hl => ?_)
  refine lv_iload hx hb dX6_makeRoom_29 (lv_at hl 0 rfl) ?_
  refine lv_iconst (v := (-1)) hx hb dX6_makeRoom_31 (by decide) ?_
  refine lv_icmp_ne (tgt := 37) hx hb dX6_makeRoom_32 (by decide) (fun c_11 => absurd (by decide) c_11) (fun c_11 => ?_)
  refine lv_iconst (v := (-1)) hx hb dX6_makeRoom_35 (by decide) ?_
  exact hz () hP hD hS rfl [1, 0, 2, 3] rfl rfl (Nat.le_of_ble_eq_true rfl) (Nat.le_of_ble_eq_true rfl) .int rfl rfl dX6_makeRoom_36
abbrev rm_c_X6_admit_n : Room := { frames := 0, cells := 0, slots := 0, locals := 0 }
set_option maxHeartbeats 4000000 in
set_option maxRecDepth 100000 in
theorem c_X6_admit_n (l : Launch) (D : va_G) (cs : Nat → ClassId) (sz : Nat) (drp : Nat) (drp1 : Nat) (drp2 : Nat) (drp3 : Nat) (drp4 : Nat) (drp5 : Nat) (drp6 : Nat) (drp7 : Nat) (drp8 : Nat) (drp9 : Nat) (drp10 : Nat) (x : Int32) (uc : Nat) (la : Int32) (pb : Int32)  : cMi l yX6_admit (Cond.code yX6_admit cX6_admit 4 (some .int)) (rm_c_X6_admit_n) D cs [.ref drp, .int x, .int (-1)] sz [(drp, .inr (6, [.int 0, .int 0, .int la, .int pb, .int 0, .int 0, .int (nI uc), .ref drp1, .ref drp2, .ref drp3, .ref drp4, .ref drp5, .ref drp6, .ref drp7, .ref drp8, .ref drp9, .ref drp10]))] (fun (r : Int32) (u : Unit) => (r = (-1))) (fun (u : Unit) => [(drp, .inr (6, [.int 0, .int 0, .int la, .int pb, .int 0, .int 0, .int (nI uc), .ref drp1, .ref drp2, .ref drp3, .ref drp4, .ref drp5, .ref drp6, .ref drp7, .ref drp8, .ref drp9, .ref drp10]))]) := by
  refine kMet_i RX6 (by decide) rfl (Nat.le_of_ble_eq_true rfl) ?_
  intro p e s m below meth c ls A Qz H locs hx hb hml hown hin hu hK hsz hA hP hD hS hl hz
  subst hsz
  have hl : lv_has ls 4 [(0, .ref drp), (1, .int x), (2, .int (-1))] := hl
  refine lv_iload_n hx hb dX6_admit_0 rfl (lv_at hl 2 rfl) ?_
  refine lv_iconst (v := (-1)) hx hb dX6_admit_1 (by decide) ?_
  refine lv_icmp_eq (tgt := 23) hx hb dX6_admit_2 (by decide) (fun c_1 => ?_) (fun c_1 => absurd (by decide) c_1)
  refine lv_iconst (v := (-1)) hx hb dX6_admit_23 (by decide) ?_
  exact hz () hP hD hS rfl [0] rfl rfl (Nat.le_of_ble_eq_true rfl) (Nat.le_of_ble_eq_true rfl) .int rfl rfl dX6_admit_24
abbrev rm_c_X6_append_g : Room := { frames := 0, cells := 0, slots := 0, locals := 0 }
set_option maxHeartbeats 4000000 in
set_option maxRecDepth 100000 in
theorem c_X6_append_g (l : Launch) (D : va_G) (cs : Nat → ClassId) (sz : Nat) (drp : Nat) (drp1 : Nat) (drp2 : Nat) (drp3 : Nat) (drp4 : Nat) (drp5 : Nat) (drp6 : Nat) (drp7 : Nat) (drp8 : Nat) (drp9 : Nat) (drp10 : Nat) (x : Int32) (fe : Nat → Int32) (fsc : Nat → Int32) (fsr : Nat → Int32) (fss : Nat → Int32) (frp : Nat → Int32) (frs : Nat → Int32) (PP : Nat) (m0 : Nat) (uc : Nat) (la : Int32) (pb : Int32) (hx240 : ¬ x < 0 ∧ x < 240) (hP24 : PP < 24) (hm9 : m0 < 10) (hsc : fsc PP = nI m0) : cMv l yX6_append (Cond.code yX6_append cX6_append 4 none) (rm_c_X6_append_g) D cs [.ref drp, .int x, .int (nI PP)] sz [(drp, .inr (6, [.int 0, .int 0, .int la, .int pb, .int 0, .int 0, .int (nI uc), .ref drp1, .ref drp2, .ref drp3, .ref drp4, .ref drp5, .ref drp6, .ref drp7, .ref drp8, .ref drp9, .ref drp10])), (drp1, aI cs 24 fe), (drp3, aI cs 24 fsc), (drp4, aI cs 240 fsr), (drp5, aI cs 240 fss), (drp7, aI cs 240 frp), (drp8, aI cs 240 frs)] (fun (u : (Nat → Int32) × (Nat → Int32) × (Nat → Int32) × (Nat → Int32) × (Nat → Int32)) => (u.1 = upd fe PP (fe PP + frs x.toNatClampNeg)) ∧ (u.2.1 = upd fsc PP (nI (m0 + 1))) ∧ (u.2.2.1 = upd fsr (PP * 10 + m0) x)) (fun (u : (Nat → Int32) × (Nat → Int32) × (Nat → Int32) × (Nat → Int32) × (Nat → Int32)) => [(drp, .inr (6, [.int 0, .int 0, .int (nI PP), .int pb, .int 0, .int 0, .int (nI uc), .ref drp1, .ref drp2, .ref drp3, .ref drp4, .ref drp5, .ref drp6, .ref drp7, .ref drp8, .ref drp9, .ref drp10])), (drp1, aI cs 24 u.1), (drp3, aI cs 24 u.2.1), (drp4, aI cs 240 u.2.2.1), (drp5, aI cs 240 u.2.2.2.1), (drp7, aI cs 240 u.2.2.2.2), (drp8, aI cs 240 frs)]) := by
  refine kMet_v RX6 (by decide) rfl (Nat.le_of_ble_eq_true rfl) ?_
  intro p e s m below meth c ls A Qz H locs hx hb hml hown hin hu hK hsz hA hP hD hS hl hz
  subst hsz
  have hl : lv_has ls 4 [(0, .ref drp), (1, .int x), (2, .int (nI PP))] := hl
  refine lv_iload_n hx hb dX6_append_0 rfl (lv_at hl 1 rfl) ?_
  refine lv_if_lt (tgt := 41) hx hb dX6_append_1 (by decide) (fun c_1 => absurd c_1 (by grind)) (fun c_1 => ?_)
  refine lv_iload_n hx hb dX6_append_4 rfl (lv_at hl 1 rfl) ?_
  refine lv_sipush (v := 240) hx hb dX6_append_5 (by decide) ?_
  refine lv_icmp_ge (tgt := 41) hx hb dX6_append_8 (by decide) (fun c_2 => absurd c_2 (by grind)) (fun c_2 => ?_)
  refine lv_iload_n hx hb dX6_append_11 rfl (lv_at hl 2 rfl) ?_
  refine lv_if_lt (tgt := 41) hx hb dX6_append_12 (by decide) (fun c_3 => absurd c_3 (nI_pos (by omega))) (fun c_3 => ?_)
  refine lv_iload_n hx hb dX6_append_15 rfl (lv_at hl 2 rfl) ?_
  refine lv_bipush (v := 24) hx hb dX6_append_16 (by decide) ?_
  refine lv_icmp_ge (tgt := 41) hx hb dX6_append_18 (by decide) (fun c_4 => absurd c_4 (fun h => absurd ((nI_leI (a := 24) (b := PP) (by omega) (by omega)).mp h) (by omega))) (fun c_4 => ?_)
  refine lv_aload_n hx hb dX6_append_21 rfl (lv_at hl 0 rfl) ?_
  refine va_get (D := D) (ci := 6) (v := .ref drp3) (C := RX6) (T := TX6) (N := 17) hx hb hu in_X6 hown hK.1 hP 0 rfl rfl 9 (by decide) (hu _ u_212) (fun _ h9 => h9) rfl dX6_append_22 ?_
  refine lv_iload_n hx hb dX6_append_25 rfl (lv_at hl 2 rfl) ?_
  refine va_iald hx hb hK.1 hP 2 0 rfl rfl (vp_in_nI (by omega) (by omega)) dX6_append_26 ?_
  refine tpi (y := nI m0) ((congrArg fsc (nI_clamp (by omega))).trans hsc) ?_
  refine lv_if_lt (tgt := 41) hx hb dX6_append_27 (by decide) (fun c_5 => absurd c_5 (nI_pos (by omega))) (fun c_5 => ?_)
  refine lv_aload_n hx hb dX6_append_30 rfl (lv_at hl 0 rfl) ?_
  refine va_get (D := D) (ci := 6) (v := .ref drp3) (C := RX6) (T := TX6) (N := 17) hx hb hu in_X6 hown hK.1 hP 0 rfl rfl 9 (by decide) (hu _ u_212) (fun _ h9 => h9) rfl dX6_append_31 ?_
  refine lv_iload_n hx hb dX6_append_34 rfl (lv_at hl 2 rfl) ?_
  refine va_iald hx hb hK.1 hP 2 0 rfl rfl (vp_in_nI (by omega) (by omega)) dX6_append_35 ?_
  refine tpi (y := nI m0) ((congrArg fsc (nI_clamp (by omega))).trans hsc) ?_
  refine lv_bipush (v := 10) hx hb dX6_append_36 (by decide) ?_
  refine lv_icmp_lt (tgt := 42) hx hb dX6_append_38 (by decide) (fun c_6 => ?_) (fun c_6 => absurd ((nI_ltI (b := 10) (by omega) (by omega)).mpr (by omega)) c_6)
  refine lv_iload_n hx hb dX6_append_42 rfl (lv_at hl 2 rfl) ?_
  refine lv_bipush (v := 10) hx hb dX6_append_43 (by decide) ?_
  refine lv_imul hx hb dX6_append_45 ?_
  refine tpi (y := nI (PP * 10)) (pk_mul _ _) ?_
  refine lv_aload_n hx hb dX6_append_46 rfl (lv_at hl 0 rfl) ?_
  refine va_get (D := D) (ci := 6) (v := .ref drp3) (C := RX6) (T := TX6) (N := 17) hx hb hu in_X6 hown hK.1 hP 0 rfl rfl 9 (by decide) (hu _ u_212) (fun _ h9 => h9) rfl dX6_append_47 ?_
  refine lv_iload_n hx hb dX6_append_50 rfl (lv_at hl 2 rfl) ?_
  refine va_iald hx hb hK.1 hP 2 0 rfl rfl (vp_in_nI (by omega) (by omega)) dX6_append_51 ?_
  refine tpi (y := nI m0) ((congrArg fsc (nI_clamp (by omega))).trans hsc) ?_
  refine lv_iadd hx hb dX6_append_52 ?_
  refine tpi (y := nI (PP * 10 + m0)) (nI_add _ _) ?_
  refine lv_istore_n (lv' := [(3, .int (nI (PP * 10 + m0))), (0, .ref drp), (1, .int x), (2, .int (nI PP))]) hx hb dX6_append_53 rfl hl (by decide) rfl (fun ls hl => ?_)
  refine lv_aload_n hx hb dX6_append_54 rfl (lv_at hl 1 rfl) ?_
  refine va_get (D := D) (ci := 6) (v := .ref drp4) (C := RX6) (T := TX6) (N := 17) hx hb hu in_X6 hown hK.1 hP 0 rfl rfl 10 (by decide) (hu _ u_213) (fun _ h9 => h9) rfl dX6_append_55 ?_
  refine lv_iload_n hx hb dX6_append_58 rfl (lv_at hl 0 rfl) ?_
  refine lv_iload_n hx hb dX6_append_59 rfl (lv_at hl 2 rfl) ?_
  refine va_iast hx hb hK.1 hP hD hS 3 0 rfl rfl (vp_in_nI (by omega) (by omega)) dX6_append_60 (fun H locs hP hD hS => ?_)
  have hP : va_P D vwCl [(drp, .inr (6, [.int 0, .int 0, .int la, .int pb, .int 0, .int 0, .int (nI uc), .ref drp1, .ref drp2, .ref drp3, .ref drp4, .ref drp5, .ref drp6, .ref drp7, .ref drp8, .ref drp9, .ref drp10])), (drp1, aI cs 24 fe), (drp3, aI cs 24 fsc), (drp4, aI cs 240 (upd fsr (nI (PP * 10 + m0)).toNatClampNeg x)), (drp5, aI cs 240 fss), (drp7, aI cs 240 frp), (drp8, aI cs 240 frs)] H := hP
  have hD : va_D A [(drp, .inr (6, [.int 0, .int 0, .int la, .int pb, .int 0, .int 0, .int (nI uc), .ref drp1, .ref drp2, .ref drp3, .ref drp4, .ref drp5, .ref drp6, .ref drp7, .ref drp8, .ref drp9, .ref drp10])), (drp1, aI cs 24 fe), (drp3, aI cs 24 fsc), (drp4, aI cs 240 (upd fsr (nI (PP * 10 + m0)).toNatClampNeg x)), (drp5, aI cs 240 fss), (drp7, aI cs 240 frp), (drp8, aI cs 240 frs)] := hD
  refine lv_aload_n hx hb dX6_append_61 rfl (lv_at hl 1 rfl) ?_
  refine va_get (D := D) (ci := 6) (v := .ref drp5) (C := RX6) (T := TX6) (N := 17) hx hb hu in_X6 hown hK.1 hP 0 rfl rfl 11 (by decide) (hu _ u_214) (fun _ h9 => h9) rfl dX6_append_62 ?_
  refine lv_iload_n hx hb dX6_append_65 rfl (lv_at hl 0 rfl) ?_
  refine lv_aload_n hx hb dX6_append_66 rfl (lv_at hl 1 rfl) ?_
  refine va_get (D := D) (ci := 6) (v := .ref drp8) (C := RX6) (T := TX6) (N := 17) hx hb hu in_X6 hown hK.1 hP 0 rfl rfl 14 (by decide) (hu _ u_217) (fun _ h9 => h9) rfl dX6_append_67 ?_
  refine lv_iload_n hx hb dX6_append_70 rfl (lv_at hl 2 rfl) ?_
  refine va_iald hx hb hK.1 hP 6 0 rfl rfl (vin_of (N := 240) hx240.1 hx240.2 rfl) dX6_append_71 ?_
  refine va_iast hx hb hK.1 hP hD hS 4 0 rfl rfl (vp_in_nI (by omega) (by omega)) dX6_append_72 (fun H locs hP hD hS => ?_)
  have hP : va_P D vwCl [(drp, .inr (6, [.int 0, .int 0, .int la, .int pb, .int 0, .int 0, .int (nI uc), .ref drp1, .ref drp2, .ref drp3, .ref drp4, .ref drp5, .ref drp6, .ref drp7, .ref drp8, .ref drp9, .ref drp10])), (drp1, aI cs 24 fe), (drp3, aI cs 24 fsc), (drp4, aI cs 240 (upd fsr (nI (PP * 10 + m0)).toNatClampNeg x)), (drp5, aI cs 240 (upd fss (nI (PP * 10 + m0)).toNatClampNeg (frs x.toNatClampNeg))), (drp7, aI cs 240 frp), (drp8, aI cs 240 frs)] H := hP
  have hD : va_D A [(drp, .inr (6, [.int 0, .int 0, .int la, .int pb, .int 0, .int 0, .int (nI uc), .ref drp1, .ref drp2, .ref drp3, .ref drp4, .ref drp5, .ref drp6, .ref drp7, .ref drp8, .ref drp9, .ref drp10])), (drp1, aI cs 24 fe), (drp3, aI cs 24 fsc), (drp4, aI cs 240 (upd fsr (nI (PP * 10 + m0)).toNatClampNeg x)), (drp5, aI cs 240 (upd fss (nI (PP * 10 + m0)).toNatClampNeg (frs x.toNatClampNeg))), (drp7, aI cs 240 frp), (drp8, aI cs 240 frs)] := hD
  obtain ⟨g_7, eg_8⟩ : ∃ g9 : Nat → Int32, upd fss (nI (PP * 10 + m0)).toNatClampNeg (frs x.toNatClampNeg) = g9 := ⟨_, rfl⟩
  rw [eg_8] at hP hD
  clear eg_8
  refine lv_aload_n hx hb dX6_append_73 rfl (lv_at hl 1 rfl) ?_
  refine va_get (D := D) (ci := 6) (v := .ref drp3) (C := RX6) (T := TX6) (N := 17) hx hb hu in_X6 hown hK.1 hP 0 rfl rfl 9 (by decide) (hu _ u_212) (fun _ h9 => h9) rfl dX6_append_74 ?_
  refine lv_iload_n hx hb dX6_append_77 rfl (lv_at hl 3 rfl) ?_
  refine lv_dup2_11 hx hb dX6_append_78 rfl rfl ?_
  refine va_iald hx hb hK.1 hP 2 0 rfl rfl (vp_in_nI (by omega) (by omega)) dX6_append_79 ?_
  refine tpi (y := nI m0) ((congrArg fsc (nI_clamp (by omega))).trans hsc) ?_
  refine lv_iconst (v := 1) hx hb dX6_append_80 (by decide) ?_
  refine lv_iadd hx hb dX6_append_81 ?_
  refine tpi (y := nI (m0 + 1)) (nI_add _ _) ?_
  refine va_iast hx hb hK.1 hP hD hS 2 0 rfl rfl (vp_in_nI (by omega) (by omega)) dX6_append_82 (fun H locs hP hD hS => ?_)
  have hP : va_P D vwCl [(drp, .inr (6, [.int 0, .int 0, .int la, .int pb, .int 0, .int 0, .int (nI uc), .ref drp1, .ref drp2, .ref drp3, .ref drp4, .ref drp5, .ref drp6, .ref drp7, .ref drp8, .ref drp9, .ref drp10])), (drp1, aI cs 24 fe), (drp3, aI cs 24 (upd fsc (nI PP).toNatClampNeg (nI (m0 + 1)))), (drp4, aI cs 240 (upd fsr (nI (PP * 10 + m0)).toNatClampNeg x)), (drp5, aI cs 240 g_7), (drp7, aI cs 240 frp), (drp8, aI cs 240 frs)] H := hP
  have hD : va_D A [(drp, .inr (6, [.int 0, .int 0, .int la, .int pb, .int 0, .int 0, .int (nI uc), .ref drp1, .ref drp2, .ref drp3, .ref drp4, .ref drp5, .ref drp6, .ref drp7, .ref drp8, .ref drp9, .ref drp10])), (drp1, aI cs 24 fe), (drp3, aI cs 24 (upd fsc (nI PP).toNatClampNeg (nI (m0 + 1)))), (drp4, aI cs 240 (upd fsr (nI (PP * 10 + m0)).toNatClampNeg x)), (drp5, aI cs 240 g_7), (drp7, aI cs 240 frp), (drp8, aI cs 240 frs)] := hD
  refine lv_aload_n hx hb dX6_append_83 rfl (lv_at hl 1 rfl) ?_
  refine va_get (D := D) (ci := 6) (v := .ref drp7) (C := RX6) (T := TX6) (N := 17) hx hb hu in_X6 hown hK.1 hP 0 rfl rfl 13 (by decide) (hu _ u_216) (fun _ h9 => h9) rfl dX6_append_84 ?_
  refine lv_iload_n hx hb dX6_append_87 rfl (lv_at hl 2 rfl) ?_
  refine lv_iload_n hx hb dX6_append_88 rfl (lv_at hl 3 rfl) ?_
  refine lv_bipush (v := 64) hx hb dX6_append_89 (by decide) ?_
  refine lv_imul hx hb dX6_append_91 ?_
  refine tpi (y := nI (PP * 64)) (pk_mul _ _) ?_
  refine lv_aload_n hx hb dX6_append_92 rfl (lv_at hl 1 rfl) ?_
  refine va_get (D := D) (ci := 6) (v := .ref drp1) (C := RX6) (T := TX6) (N := 17) hx hb hu in_X6 hown hK.1 hP 0 rfl rfl 7 (by decide) (hu _ u_210) (fun _ h9 => h9) rfl dX6_append_93 ?_
  refine lv_iload_n hx hb dX6_append_96 rfl (lv_at hl 3 rfl) ?_
  refine va_iald hx hb hK.1 hP 1 0 rfl rfl (vp_in_nI (by omega) (by omega)) dX6_append_97 ?_
  refine tpi (y := fe PP) (congrArg fe (nI_clamp (by omega))) ?_
  refine lv_iadd hx hb dX6_append_98 ?_
  refine va_iast hx hb hK.1 hP hD hS 5 0 rfl rfl (vin_of (N := 240) hx240.1 hx240.2 rfl) dX6_append_99 (fun H locs hP hD hS => ?_)
  have hP : va_P D vwCl [(drp, .inr (6, [.int 0, .int 0, .int la, .int pb, .int 0, .int 0, .int (nI uc), .ref drp1, .ref drp2, .ref drp3, .ref drp4, .ref drp5, .ref drp6, .ref drp7, .ref drp8, .ref drp9, .ref drp10])), (drp1, aI cs 24 fe), (drp3, aI cs 24 (upd fsc (nI PP).toNatClampNeg (nI (m0 + 1)))), (drp4, aI cs 240 (upd fsr (nI (PP * 10 + m0)).toNatClampNeg x)), (drp5, aI cs 240 g_7), (drp7, aI cs 240 (upd frp x.toNatClampNeg ((nI (PP * 64)) + (fe PP)))), (drp8, aI cs 240 frs)] H := hP
  have hD : va_D A [(drp, .inr (6, [.int 0, .int 0, .int la, .int pb, .int 0, .int 0, .int (nI uc), .ref drp1, .ref drp2, .ref drp3, .ref drp4, .ref drp5, .ref drp6, .ref drp7, .ref drp8, .ref drp9, .ref drp10])), (drp1, aI cs 24 fe), (drp3, aI cs 24 (upd fsc (nI PP).toNatClampNeg (nI (m0 + 1)))), (drp4, aI cs 240 (upd fsr (nI (PP * 10 + m0)).toNatClampNeg x)), (drp5, aI cs 240 g_7), (drp7, aI cs 240 (upd frp x.toNatClampNeg ((nI (PP * 64)) + (fe PP)))), (drp8, aI cs 240 frs)] := hD
  obtain ⟨g_9, eg_10⟩ : ∃ g9 : Nat → Int32, upd frp x.toNatClampNeg ((nI (PP * 64)) + (fe PP)) = g9 := ⟨_, rfl⟩
  rw [eg_10] at hP hD
  clear eg_10
  refine lv_aload_n hx hb dX6_append_100 rfl (lv_at hl 1 rfl) ?_
  refine va_get (D := D) (ci := 6) (v := .ref drp1) (C := RX6) (T := TX6) (N := 17) hx hb hu in_X6 hown hK.1 hP 0 rfl rfl 7 (by decide) (hu _ u_210) (fun _ h9 => h9) rfl dX6_append_101 ?_
  refine lv_iload_n hx hb dX6_append_104 rfl (lv_at hl 3 rfl) ?_
  refine lv_dup2_11 hx hb dX6_append_105 rfl rfl ?_
  refine va_iald hx hb hK.1 hP 1 0 rfl rfl (vp_in_nI (by omega) (by omega)) dX6_append_106 ?_
  refine tpi (y := fe PP) (congrArg fe (nI_clamp (by omega))) ?_
  refine lv_aload_n hx hb dX6_append_107 rfl (lv_at hl 1 rfl) ?_
  refine va_get (D := D) (ci := 6) (v := .ref drp8) (C := RX6) (T := TX6) (N := 17) hx hb hu in_X6 hown hK.1 hP 0 rfl rfl 14 (by decide) (hu _ u_217) (fun _ h9 => h9) rfl dX6_append_108 ?_
  refine lv_iload_n hx hb dX6_append_111 rfl (lv_at hl 2 rfl) ?_
  refine va_iald hx hb hK.1 hP 6 0 rfl rfl (vin_of (N := 240) hx240.1 hx240.2 rfl) dX6_append_112 ?_
  refine lv_iadd hx hb dX6_append_113 ?_
  refine va_iast hx hb hK.1 hP hD hS 1 0 rfl rfl (vp_in_nI (by omega) (by omega)) dX6_append_114 (fun H locs hP hD hS => ?_)
  have hP : va_P D vwCl [(drp, .inr (6, [.int 0, .int 0, .int la, .int pb, .int 0, .int 0, .int (nI uc), .ref drp1, .ref drp2, .ref drp3, .ref drp4, .ref drp5, .ref drp6, .ref drp7, .ref drp8, .ref drp9, .ref drp10])), (drp1, aI cs 24 (upd fe (nI PP).toNatClampNeg ((fe PP) + (frs x.toNatClampNeg)))), (drp3, aI cs 24 (upd fsc (nI PP).toNatClampNeg (nI (m0 + 1)))), (drp4, aI cs 240 (upd fsr (nI (PP * 10 + m0)).toNatClampNeg x)), (drp5, aI cs 240 g_7), (drp7, aI cs 240 g_9), (drp8, aI cs 240 frs)] H := hP
  have hD : va_D A [(drp, .inr (6, [.int 0, .int 0, .int la, .int pb, .int 0, .int 0, .int (nI uc), .ref drp1, .ref drp2, .ref drp3, .ref drp4, .ref drp5, .ref drp6, .ref drp7, .ref drp8, .ref drp9, .ref drp10])), (drp1, aI cs 24 (upd fe (nI PP).toNatClampNeg ((fe PP) + (frs x.toNatClampNeg)))), (drp3, aI cs 24 (upd fsc (nI PP).toNatClampNeg (nI (m0 + 1)))), (drp4, aI cs 240 (upd fsr (nI (PP * 10 + m0)).toNatClampNeg x)), (drp5, aI cs 240 g_7), (drp7, aI cs 240 g_9), (drp8, aI cs 240 frs)] := hD
  refine lv_aload_n hx hb dX6_append_115 rfl (lv_at hl 1 rfl) ?_
  refine lv_iload_n hx hb dX6_append_116 rfl (lv_at hl 3 rfl) ?_
  refine va_put (D := D) (ci := 6) (v := .int (nI PP)) (ty := tyX6 2) (C := RX6) (T := TX6) (N := 17) hx hb hu in_X6 tyX6 tyX6_ok nmX6 hown hK.1 hP hD hS 0 rfl rfl 2 (by decide) (hu _ u_201) (fun _ h9 => h9) rfl (tyX6_ok 2 (by decide)) rfl rfl (Nat.le_of_ble_eq_true rfl) dX6_append_117 (fun H locs hP hD hS => ?_)
  have hP : va_P D vwCl [(drp, .inr (6, [.int 0, .int 0, .int (nI PP), .int pb, .int 0, .int 0, .int (nI uc), .ref drp1, .ref drp2, .ref drp3, .ref drp4, .ref drp5, .ref drp6, .ref drp7, .ref drp8, .ref drp9, .ref drp10])), (drp1, aI cs 24 (upd fe (nI PP).toNatClampNeg ((fe PP) + (frs x.toNatClampNeg)))), (drp3, aI cs 24 (upd fsc (nI PP).toNatClampNeg (nI (m0 + 1)))), (drp4, aI cs 240 (upd fsr (nI (PP * 10 + m0)).toNatClampNeg x)), (drp5, aI cs 240 g_7), (drp7, aI cs 240 g_9), (drp8, aI cs 240 frs)] H := hP
  have hD : va_D A [(drp, .inr (6, [.int 0, .int 0, .int (nI PP), .int pb, .int 0, .int 0, .int (nI uc), .ref drp1, .ref drp2, .ref drp3, .ref drp4, .ref drp5, .ref drp6, .ref drp7, .ref drp8, .ref drp9, .ref drp10])), (drp1, aI cs 24 (upd fe (nI PP).toNatClampNeg ((fe PP) + (frs x.toNatClampNeg)))), (drp3, aI cs 24 (upd fsc (nI PP).toNatClampNeg (nI (m0 + 1)))), (drp4, aI cs 240 (upd fsr (nI (PP * 10 + m0)).toNatClampNeg x)), (drp5, aI cs 240 g_7), (drp7, aI cs 240 g_9), (drp8, aI cs 240 frs)] := hD
  exact hz ((upd fe (nI PP).toNatClampNeg ((fe PP) + (frs x.toNatClampNeg))), (upd fsc (nI PP).toNatClampNeg (nI (m0 + 1))), (upd fsr (nI (PP * 10 + m0)).toNatClampNeg x), g_7, g_9) hP hD hS ⟨(by rw [nI_clamp (n := PP) (by omega)]), (by rw [nI_clamp (n := PP) (by omega)]), (by rw [nI_clamp (n := PP * 10 + m0) (by omega)])⟩ [0, 1, 2, 3, 4, 5, 6] rfl rfl (Nat.le_of_ble_eq_true rfl) (Nat.le_of_ble_eq_true rfl) rfl dX6_append_120
abbrev rm_c_X6_admit_q : Room := { frames := 1, cells := 0, slots := 0, locals := 23 }
set_option maxHeartbeats 4000000 in
set_option maxRecDepth 100000 in
theorem c_X6_admit_q (l : Launch) (D : va_G) (cs : Nat → ClassId) (sz : Nat) (drp : Nat) (drp1 : Nat) (drp2 : Nat) (drp3 : Nat) (drp4 : Nat) (drp5 : Nat) (drp6 : Nat) (drp7 : Nat) (drp8 : Nat) (drp9 : Nat) (drp10 : Nat) (fe : Nat → Int32) (fsc : Nat → Int32) (fsr : Nat → Int32) (fss : Nat → Int32) (funu : Nat → Int32) (frp : Nat → Int32) (frs : Nat → Int32) (fvl : Nat → Int32) (zz : Nat) (PP : Nat) (m0 : Nat) (uc : Nat) (la : Int32) (pb : Int32) (hzz : 1 ≤ zz ∧ zz ≤ 64) (hU : ∀ j, j < 240 → ¬ funu j < 0 ∧ funu j < 240) (huc : 1 ≤ uc ∧ uc ≤ 240) (hP24 : PP < 24) (hm9 : m0 < 10) (hsc : fsc PP = nI m0) : cMi l yX6_admit (Cond.code yX6_admit cX6_admit 4 (some .int)) (rm_c_X6_admit_q) D cs [.ref drp, .int (nI zz), .int (nI PP)] sz [(drp, .inr (6, [.int 0, .int 0, .int la, .int pb, .int 0, .int 0, .int (nI uc), .ref drp1, .ref drp2, .ref drp3, .ref drp4, .ref drp5, .ref drp6, .ref drp7, .ref drp8, .ref drp9, .ref drp10])), (drp1, aI cs 24 fe), (drp3, aI cs 24 fsc), (drp4, aI cs 240 fsr), (drp5, aI cs 240 fss), (drp6, aI cs 240 funu), (drp7, aI cs 240 frp), (drp8, aI cs 240 frs), (drp9, aI cs 240 fvl)] (fun (r : Int32) (u : (Nat → Int32) × (Nat → Int32) × (Nat → Int32) × (Nat → Int32) × (Nat → Int32) × (Nat → Int32) × (Nat → Int32) × Int32) => (¬ r = -1) ∧ (u.1 = upd fe PP (fe PP + nI zz)) ∧ (u.2.1 = upd fsc PP (nI (m0 + 1))) ∧ (∃ v : Int32, ¬ v = -1 ∧ u.2.2.1 = upd fsr (PP * 10 + m0) v)) (fun (u : (Nat → Int32) × (Nat → Int32) × (Nat → Int32) × (Nat → Int32) × (Nat → Int32) × (Nat → Int32) × (Nat → Int32) × Int32) => [(drp, .inr (6, [.int 0, .int 0, .int (nI PP), .int u.2.2.2.2.2.2.2, .int 0, .int 0, .int (nI (uc - 1)), .ref drp1, .ref drp2, .ref drp3, .ref drp4, .ref drp5, .ref drp6, .ref drp7, .ref drp8, .ref drp9, .ref drp10])), (drp1, aI cs 24 u.1), (drp3, aI cs 24 u.2.1), (drp4, aI cs 240 u.2.2.1), (drp5, aI cs 240 u.2.2.2.1), (drp6, aI cs 240 funu), (drp7, aI cs 240 u.2.2.2.2.1), (drp8, aI cs 240 u.2.2.2.2.2.1), (drp9, aI cs 240 u.2.2.2.2.2.2.1)]) := by
  refine kMet_i RX6 (by decide) rfl (Nat.le_of_ble_eq_true rfl) ?_
  intro p e s m below meth c ls A Qz H locs hx hb hml hown hin hu hK hsz hA hP hD hS hl hz
  subst hsz
  have hl : lv_has ls 4 [(0, .ref drp), (1, .int (nI zz)), (2, .int (nI PP))] := hl
  refine lv_iload_n hx hb dX6_admit_0 rfl (lv_at hl 2 rfl) ?_
  refine lv_iconst (v := (-1)) hx hb dX6_admit_1 (by decide) ?_
  refine lv_icmp_eq (tgt := 23) hx hb dX6_admit_2 (by decide) (fun c_1 => absurd c_1 (nI_nem1 (by omega))) (fun c_1 => ?_)
  refine lv_aload_n hx hb dX6_admit_5 rfl (lv_at hl 0 rfl) ?_
  refine va_get (D := D) (ci := 6) (v := .int (nI uc)) (C := RX6) (T := TX6) (N := 17) hx hb hu in_X6 hown hK.1 hP 0 rfl rfl 6 (by decide) (hu _ u_209) (fun _ h9 => h9) rfl dX6_admit_6 ?_
  refine lv_iconst (v := 1) hx hb dX6_admit_9 (by decide) ?_
  refine lv_icmp_lt (tgt := 23) hx hb dX6_admit_10 (by decide) (fun c_2 => absurd c_2 (fun h => absurd ((nI_ltI (b := 1) (by omega) (by omega)).mp h) (by omega))) (fun c_2 => ?_)
  refine lv_aload_n hx hb dX6_admit_13 rfl (lv_at hl 0 rfl) ?_
  refine va_get (D := D) (ci := 6) (v := .int (nI uc)) (C := RX6) (T := TX6) (N := 17) hx hb hu in_X6 hown hK.1 hP 0 rfl rfl 6 (by decide) (hu _ u_209) (fun _ h9 => h9) rfl dX6_admit_14 ?_
  refine lv_sipush (v := 240) hx hb dX6_admit_17 (by decide) ?_
  refine lv_icmp_le (tgt := 25) hx hb dX6_admit_20 (by decide) (fun c_3 => ?_) (fun c_3 => absurd ((nI_leI (b := 240) (by omega) (by omega)).mpr (by omega)) c_3)
  refine lv_aload_n hx hb dX6_admit_25 rfl (lv_at hl 0 rfl) ?_
  refine lv_dup hx hb dX6_admit_26 rfl ?_
  refine va_get (D := D) (ci := 6) (v := .int (nI uc)) (C := RX6) (T := TX6) (N := 17) hx hb hu in_X6 hown hK.1 hP 0 rfl rfl 6 (by decide) (hu _ u_209) (fun _ h9 => h9) rfl dX6_admit_27 ?_
  refine lv_iconst (v := 1) hx hb dX6_admit_30 (by decide) ?_
  refine lv_isub hx hb dX6_admit_31 ?_
  refine tpi (y := nI (uc - 1)) (pk_sub (a := uc) (b := 1) (by omega)) ?_
  refine va_put (D := D) (ci := 6) (v := .int (nI (uc - 1))) (ty := tyX6 6) (C := RX6) (T := TX6) (N := 17) hx hb hu in_X6 tyX6 tyX6_ok nmX6 hown hK.1 hP hD hS 0 rfl rfl 6 (by decide) (hu _ u_209) (fun _ h9 => h9) rfl (tyX6_ok 6 (by decide)) rfl rfl (Nat.le_of_ble_eq_true rfl) dX6_admit_32 (fun H locs hP hD hS => ?_)
  have hP : va_P D vwCl [(drp, .inr (6, [.int 0, .int 0, .int la, .int pb, .int 0, .int 0, .int (nI (uc - 1)), .ref drp1, .ref drp2, .ref drp3, .ref drp4, .ref drp5, .ref drp6, .ref drp7, .ref drp8, .ref drp9, .ref drp10])), (drp1, aI cs 24 fe), (drp3, aI cs 24 fsc), (drp4, aI cs 240 fsr), (drp5, aI cs 240 fss), (drp6, aI cs 240 funu), (drp7, aI cs 240 frp), (drp8, aI cs 240 frs), (drp9, aI cs 240 fvl)] H := hP
  have hD : va_D A [(drp, .inr (6, [.int 0, .int 0, .int la, .int pb, .int 0, .int 0, .int (nI (uc - 1)), .ref drp1, .ref drp2, .ref drp3, .ref drp4, .ref drp5, .ref drp6, .ref drp7, .ref drp8, .ref drp9, .ref drp10])), (drp1, aI cs 24 fe), (drp3, aI cs 24 fsc), (drp4, aI cs 240 fsr), (drp5, aI cs 240 fss), (drp6, aI cs 240 funu), (drp7, aI cs 240 frp), (drp8, aI cs 240 frs), (drp9, aI cs 240 fvl)] := hD
  refine lv_aload_n hx hb dX6_admit_35 rfl (lv_at hl 0 rfl) ?_
  refine va_get (D := D) (ci := 6) (v := .ref drp6) (C := RX6) (T := TX6) (N := 17) hx hb hu in_X6 hown hK.1 hP 0 rfl rfl 12 (by decide) (hu _ u_215) (fun _ h9 => h9) rfl dX6_admit_36 ?_
  refine lv_aload_n hx hb dX6_admit_39 rfl (lv_at hl 0 rfl) ?_
  refine va_get (D := D) (ci := 6) (v := .int (nI (uc - 1))) (C := RX6) (T := TX6) (N := 17) hx hb hu in_X6 hown hK.1 hP 0 rfl rfl 6 (by decide) (hu _ u_209) (fun _ h9 => h9) rfl dX6_admit_40 ?_
  refine va_iald hx hb hK.1 hP 5 0 rfl rfl (vp_in_nI (by omega) (by omega)) dX6_admit_43 ?_
  obtain ⟨rec, hrec, hx240⟩ : ∃ v : Int32, funu (uc - 1) = v ∧ (¬ v < 0 ∧ v < 240) := ⟨_, rfl, hU _ (by omega)⟩
  refine tpi (y := rec) ((congrArg funu (nI_clamp (by omega))).trans hrec) ?_
  refine lv_istore_n (lv' := [(3, .int rec), (0, .ref drp), (1, .int (nI zz)), (2, .int (nI PP))]) hx hb dX6_admit_44 rfl hl (by decide) rfl (fun ls hl => ?_)
  refine lv_iload_n hx hb dX6_admit_45 rfl (lv_at hl 0 rfl) ?_
  refine kN_i  (As := [.int rec]) (rest := []) (wc := []) (wr := [(drp, .inr (6, [.int 0, .int 0, .int la, .int pb, .int 0, .int 0, .int (nI (uc - 1)), .ref drp1, .ref drp2, .ref drp3, .ref drp4, .ref drp5, .ref drp6, .ref drp7, .ref drp8, .ref drp9, .ref drp10])), (drp1, aI cs 24 fe), (drp3, aI cs 24 fsc), (drp4, aI cs 240 fsr), (drp5, aI cs 240 fss), (drp6, aI cs 240 funu), (drp7, aI cs 240 frp), (drp8, aI cs 240 frs), (drp9, aI cs 240 fvl)]) hx hb hml hown hu hK hP hD hS hA hl.1 (c_X8_isRecord l D cs H.size rec) u_470 (nest_11) u_469 u_66 hd_X8_isRecord.2 ⟨(Nat.le_of_ble_eq_true rfl), (Nat.le_of_ble_eq_true rfl)⟩ [] [0, 1, 2, 3, 4, 5, 6, 7, 8] rfl rfl rfl rfl (by decide) rfl rfl (Nat.le_of_ble_eq_true rfl) dX6_admit_46 ⟨(Nat.le_of_ble_eq_true rfl), (Nat.le_of_ble_eq_true rfl)⟩ (fun r_4 ut_5 H locs hw_6 hP hD hS => ?_)
  have hP : va_P D vwCl [(drp, .inr (6, [.int 0, .int 0, .int la, .int pb, .int 0, .int 0, .int (nI (uc - 1)), .ref drp1, .ref drp2, .ref drp3, .ref drp4, .ref drp5, .ref drp6, .ref drp7, .ref drp8, .ref drp9, .ref drp10])), (drp1, aI cs 24 fe), (drp3, aI cs 24 fsc), (drp4, aI cs 240 fsr), (drp5, aI cs 240 fss), (drp6, aI cs 240 funu), (drp7, aI cs 240 frp), (drp8, aI cs 240 frs), (drp9, aI cs 240 fvl)] H := hP
  have hD : va_D A [(drp, .inr (6, [.int 0, .int 0, .int la, .int pb, .int 0, .int 0, .int (nI (uc - 1)), .ref drp1, .ref drp2, .ref drp3, .ref drp4, .ref drp5, .ref drp6, .ref drp7, .ref drp8, .ref drp9, .ref drp10])), (drp1, aI cs 24 fe), (drp3, aI cs 24 fsc), (drp4, aI cs 240 fsr), (drp5, aI cs 240 fss), (drp6, aI cs 240 funu), (drp7, aI cs 240 frp), (drp8, aI cs 240 frs), (drp9, aI cs 240 fvl)] := hD
  rcases hw_6 with hw_6 | hw_6
  · obtain ⟨er_7, hf_8⟩ := hw_6
    subst er_7
    refine lv_if_eq (tgt := 82) hx hb dX6_admit_49 (by decide) (fun c_9 => absurd c_9 (by decide)) (fun c_9 => ?_)
    refine lv_aload_n hx hb dX6_admit_52 rfl (lv_at hl 1 rfl) ?_
    refine va_get (D := D) (ci := 6) (v := .ref drp8) (C := RX6) (T := TX6) (N := 17) hx hb hu in_X6 hown hK.1 hP 0 rfl rfl 14 (by decide) (hu _ u_217) (fun _ h9 => h9) rfl dX6_admit_53 ?_
    refine lv_iload_n hx hb dX6_admit_56 rfl (lv_at hl 0 rfl) ?_
    refine lv_iload_n hx hb dX6_admit_57 rfl (lv_at hl 2 rfl) ?_
    refine va_iast hx hb hK.1 hP hD hS 7 0 rfl rfl (vin_of (N := 240) hx240.1 hx240.2 rfl) dX6_admit_58 (fun H locs hP hD hS => ?_)
    have hP : va_P D vwCl [(drp, .inr (6, [.int 0, .int 0, .int la, .int pb, .int 0, .int 0, .int (nI (uc - 1)), .ref drp1, .ref drp2, .ref drp3, .ref drp4, .ref drp5, .ref drp6, .ref drp7, .ref drp8, .ref drp9, .ref drp10])), (drp1, aI cs 24 fe), (drp3, aI cs 24 fsc), (drp4, aI cs 240 fsr), (drp5, aI cs 240 fss), (drp6, aI cs 240 funu), (drp7, aI cs 240 frp), (drp8, aI cs 240 (upd frs rec.toNatClampNeg (nI zz))), (drp9, aI cs 240 fvl)] H := hP
    have hD : va_D A [(drp, .inr (6, [.int 0, .int 0, .int la, .int pb, .int 0, .int 0, .int (nI (uc - 1)), .ref drp1, .ref drp2, .ref drp3, .ref drp4, .ref drp5, .ref drp6, .ref drp7, .ref drp8, .ref drp9, .ref drp10])), (drp1, aI cs 24 fe), (drp3, aI cs 24 fsc), (drp4, aI cs 240 fsr), (drp5, aI cs 240 fss), (drp6, aI cs 240 funu), (drp7, aI cs 240 frp), (drp8, aI cs 240 (upd frs rec.toNatClampNeg (nI zz))), (drp9, aI cs 240 fvl)] := hD
    refine lv_aload_n hx hb dX6_admit_59 rfl (lv_at hl 1 rfl) ?_
    refine va_get (D := D) (ci := 6) (v := .ref drp9) (C := RX6) (T := TX6) (N := 17) hx hb hu in_X6 hown hK.1 hP 0 rfl rfl 15 (by decide) (hu _ u_218) (fun _ h9 => h9) rfl dX6_admit_60 ?_
    refine lv_iload_n hx hb dX6_admit_63 rfl (lv_at hl 0 rfl) ?_
    refine lv_iconst (v := 0) hx hb dX6_admit_64 (by decide) ?_
    refine va_iast hx hb hK.1 hP hD hS 8 0 rfl rfl (vin_of (N := 240) hx240.1 hx240.2 rfl) dX6_admit_65 (fun H locs hP hD hS => ?_)
    have hP : va_P D vwCl [(drp, .inr (6, [.int 0, .int 0, .int la, .int pb, .int 0, .int 0, .int (nI (uc - 1)), .ref drp1, .ref drp2, .ref drp3, .ref drp4, .ref drp5, .ref drp6, .ref drp7, .ref drp8, .ref drp9, .ref drp10])), (drp1, aI cs 24 fe), (drp3, aI cs 24 fsc), (drp4, aI cs 240 fsr), (drp5, aI cs 240 fss), (drp6, aI cs 240 funu), (drp7, aI cs 240 frp), (drp8, aI cs 240 (upd frs rec.toNatClampNeg (nI zz))), (drp9, aI cs 240 (upd fvl rec.toNatClampNeg 0))] H := hP
    have hD : va_D A [(drp, .inr (6, [.int 0, .int 0, .int la, .int pb, .int 0, .int 0, .int (nI (uc - 1)), .ref drp1, .ref drp2, .ref drp3, .ref drp4, .ref drp5, .ref drp6, .ref drp7, .ref drp8, .ref drp9, .ref drp10])), (drp1, aI cs 24 fe), (drp3, aI cs 24 fsc), (drp4, aI cs 240 fsr), (drp5, aI cs 240 fss), (drp6, aI cs 240 funu), (drp7, aI cs 240 frp), (drp8, aI cs 240 (upd frs rec.toNatClampNeg (nI zz))), (drp9, aI cs 240 (upd fvl rec.toNatClampNeg 0))] := hD
    obtain ⟨g_10, eg_11⟩ : ∃ g9 : Nat → Int32, upd fvl rec.toNatClampNeg 0 = g9 := ⟨_, rfl⟩
    rw [eg_11] at hP hD
    clear eg_11
    refine lv_aload_n hx hb dX6_admit_66 rfl (lv_at hl 1 rfl) ?_
    refine lv_iload_n hx hb dX6_admit_67 rfl (lv_at hl 0 rfl) ?_
    refine lv_iload_n hx hb dX6_admit_68 rfl (lv_at hl 3 rfl) ?_
    refine kV_v (ci := 6) (As := [.int rec, .int (nI PP)]) (rest := []) (wc := [(drp, .inr (6, [.int 0, .int 0, .int la, .int pb, .int 0, .int 0, .int (nI (uc - 1)), .ref drp1, .ref drp2, .ref drp3, .ref drp4, .ref drp5, .ref drp6, .ref drp7, .ref drp8, .ref drp9, .ref drp10])), (drp1, aI cs 24 fe), (drp3, aI cs 24 fsc), (drp4, aI cs 240 fsr), (drp5, aI cs 240 fss), (drp7, aI cs 240 frp), (drp8, aI cs 240 (upd frs rec.toNatClampNeg (nI zz)))]) (wr := [(drp6, aI cs 240 funu), (drp9, aI cs 240 g_10)]) hx hb hml hown hu hK hP hD hS hA hl.1 (c_X6_append_g l D cs H.size drp drp1 drp2 drp3 drp4 drp5 drp6 drp7 drp8 drp9 drp10 rec fe fsc fsr fss frp (upd frs rec.toNatClampNeg (nI zz)) PP m0 (uc - 1) la pb hx240 hP24 hm9 hsc) (gV u_475 u_476 u_477 u_72 u_478) hd_X6_append ⟨(Nat.le_of_ble_eq_true rfl), (Nat.le_of_ble_eq_true rfl)⟩ [0, 1, 2, 3, 4, 6, 7] [5, 8] rfl rfl rfl rfl (by decide) rfl 0 rfl rfl rfl (Nat.le_of_ble_eq_true rfl) dX6_admit_69 ⟨(Nat.le_of_ble_eq_true rfl), (Nat.le_of_ble_eq_true rfl)⟩ (fun ut_13 H locs hw_14 hP hD hS => ?_)
    have hP : va_P D vwCl [(drp6, aI cs 240 funu), (drp9, aI cs 240 g_10), (drp, .inr (6, [.int 0, .int 0, .int (nI PP), .int pb, .int 0, .int 0, .int (nI (uc - 1)), .ref drp1, .ref drp2, .ref drp3, .ref drp4, .ref drp5, .ref drp6, .ref drp7, .ref drp8, .ref drp9, .ref drp10])), (drp1, aI cs 24 ut_13.1), (drp3, aI cs 24 ut_13.2.1), (drp4, aI cs 240 ut_13.2.2.1), (drp5, aI cs 240 ut_13.2.2.2.1), (drp7, aI cs 240 ut_13.2.2.2.2), (drp8, aI cs 240 (upd frs rec.toNatClampNeg (nI zz)))] H := hP
    have hD : va_D A [(drp6, aI cs 240 funu), (drp9, aI cs 240 g_10), (drp, .inr (6, [.int 0, .int 0, .int (nI PP), .int pb, .int 0, .int 0, .int (nI (uc - 1)), .ref drp1, .ref drp2, .ref drp3, .ref drp4, .ref drp5, .ref drp6, .ref drp7, .ref drp8, .ref drp9, .ref drp10])), (drp1, aI cs 24 ut_13.1), (drp3, aI cs 24 ut_13.2.1), (drp4, aI cs 240 ut_13.2.2.1), (drp5, aI cs 240 ut_13.2.2.2.1), (drp7, aI cs 240 ut_13.2.2.2.2), (drp8, aI cs 240 (upd frs rec.toNatClampNeg (nI zz)))] := hD
    obtain ⟨ue1_15, usc1_16, usr1_17, uss1_18, urp1_19⟩ := ut_13
    have hP : va_P D vwCl [(drp6, aI cs 240 funu), (drp9, aI cs 240 g_10), (drp, .inr (6, [.int 0, .int 0, .int (nI PP), .int pb, .int 0, .int 0, .int (nI (uc - 1)), .ref drp1, .ref drp2, .ref drp3, .ref drp4, .ref drp5, .ref drp6, .ref drp7, .ref drp8, .ref drp9, .ref drp10])), (drp1, aI cs 24 ue1_15), (drp3, aI cs 24 usc1_16), (drp4, aI cs 240 usr1_17), (drp5, aI cs 240 uss1_18), (drp7, aI cs 240 urp1_19), (drp8, aI cs 240 (upd frs rec.toNatClampNeg (nI zz)))] H := hP
    have hD : va_D A [(drp6, aI cs 240 funu), (drp9, aI cs 240 g_10), (drp, .inr (6, [.int 0, .int 0, .int (nI PP), .int pb, .int 0, .int 0, .int (nI (uc - 1)), .ref drp1, .ref drp2, .ref drp3, .ref drp4, .ref drp5, .ref drp6, .ref drp7, .ref drp8, .ref drp9, .ref drp10])), (drp1, aI cs 24 ue1_15), (drp3, aI cs 24 usc1_16), (drp4, aI cs 240 usr1_17), (drp5, aI cs 240 uss1_18), (drp7, aI cs 240 urp1_19), (drp8, aI cs 240 (upd frs rec.toNatClampNeg (nI zz)))] := hD
    try dsimp only at hw_14
    obtain ⟨hf_20, hf_21, hf_22⟩ := hw_14
    refine lv_aload_n hx hb dX6_admit_72 rfl (lv_at hl 1 rfl) ?_
    refine lv_dup hx hb dX6_admit_73 rfl ?_
    refine va_get (D := D) (ci := 6) (v := .int pb) (C := RX6) (T := TX6) (N := 17) hx hb hu in_X6 hown hK.1 hP 2 rfl rfl 3 (by decide) (hu _ u_203) (fun _ h9 => h9) rfl dX6_admit_74 ?_
    refine lv_iload_n hx hb dX6_admit_77 rfl (lv_at hl 2 rfl) ?_
    refine lv_iadd hx hb dX6_admit_78 ?_
    refine va_put (D := D) (ci := 6) (v := .int (pb + (nI zz))) (ty := tyX6 3) (C := RX6) (T := TX6) (N := 17) hx hb hu in_X6 tyX6 tyX6_ok nmX6 hown hK.1 hP hD hS 2 rfl rfl 3 (by decide) (hu _ u_203) (fun _ h9 => h9) rfl (tyX6_ok 3 (by decide)) rfl rfl (Nat.le_of_ble_eq_true rfl) dX6_admit_79 (fun H locs hP hD hS => ?_)
    have hP : va_P D vwCl [(drp6, aI cs 240 funu), (drp9, aI cs 240 g_10), (drp, .inr (6, [.int 0, .int 0, .int (nI PP), .int (pb + (nI zz)), .int 0, .int 0, .int (nI (uc - 1)), .ref drp1, .ref drp2, .ref drp3, .ref drp4, .ref drp5, .ref drp6, .ref drp7, .ref drp8, .ref drp9, .ref drp10])), (drp1, aI cs 24 ue1_15), (drp3, aI cs 24 usc1_16), (drp4, aI cs 240 usr1_17), (drp5, aI cs 240 uss1_18), (drp7, aI cs 240 urp1_19), (drp8, aI cs 240 (upd frs rec.toNatClampNeg (nI zz)))] H := hP
    have hD : va_D A [(drp6, aI cs 240 funu), (drp9, aI cs 240 g_10), (drp, .inr (6, [.int 0, .int 0, .int (nI PP), .int (pb + (nI zz)), .int 0, .int 0, .int (nI (uc - 1)), .ref drp1, .ref drp2, .ref drp3, .ref drp4, .ref drp5, .ref drp6, .ref drp7, .ref drp8, .ref drp9, .ref drp10])), (drp1, aI cs 24 ue1_15), (drp3, aI cs 24 usc1_16), (drp4, aI cs 240 usr1_17), (drp5, aI cs 240 uss1_18), (drp7, aI cs 240 urp1_19), (drp8, aI cs 240 (upd frs rec.toNatClampNeg (nI zz)))] := hD
    refine lv_iload_n hx hb dX6_admit_82 rfl (lv_at hl 0 rfl) ?_
    exact hz (ue1_15, usc1_16, usr1_17, uss1_18, urp1_19, (upd frs rec.toNatClampNeg (nI zz)), g_10, (pb + (nI zz))) hP hD hS ⟨(by grind), (by rw [hf_20, pk_us]), hf_21, ⟨_, by grind, hf_22⟩⟩ [2, 3, 4, 5, 6, 0, 7, 8, 1] rfl rfl (Nat.le_of_ble_eq_true rfl) (Nat.le_of_ble_eq_true rfl) .int rfl rfl dX6_admit_83
  · obtain ⟨er_23, hf_24⟩ := hw_6
    exfalso
    grind
