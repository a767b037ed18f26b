theorem dX9_room_0 : decode cX9_room 0 = .ok (.aload_n 0, 1) := by decide +kernel
theorem dX9_room_1 : decode cX9_room 1 = .ok (.iconst 0, 1) := by decide +kernel
theorem dX9_room_2 : decode cX9_room 2 = .ok (.putfield 1, 3) := by decide +kernel
theorem dX9_room_5 : decode cX9_room 5 = .ok (.iload_n 1, 1) := by decide +kernel
theorem dX9_room_6 : decode cX9_room 6 = .ok (.invokestatic 294, 3) := by decide +kernel
theorem dX9_room_9 : decode cX9_room 9 = .ok (.ifCond .ne 6, 3) := by decide +kernel
theorem dX9_room_12 : decode cX9_room 12 = .ok (.bipush (-3), 2) := by decide +kernel
theorem dX9_room_14 : decode cX9_room 14 = .ok (.ireturn, 1) := by decide +kernel
theorem dX9_room_15 : decode cX9_room 15 = .ok (.aload_n 0, 1) := by decide +kernel
theorem dX9_room_16 : decode cX9_room 16 = .ok (.invokevirtual 65, 3) := by decide +kernel
theorem dX9_room_19 : decode cX9_room 19 = .ok (.iconst 0, 1) := by decide +kernel
theorem dX9_room_20 : decode cX9_room 20 = .ok (.istore_n 2, 1) := by decide +kernel
theorem dX9_room_21 : decode cX9_room 21 = .ok (.aload_n 0, 1) := by decide +kernel
theorem dX9_room_22 : decode cX9_room 22 = .ok (.iload_n 1, 1) := by decide +kernel
theorem dX9_room_23 : decode cX9_room 23 = .ok (.invokevirtual 176, 3) := by decide +kernel
theorem dX9_room_26 : decode cX9_room 26 = .ok (.istore_n 3, 1) := by decide +kernel
theorem dX9_room_27 : decode cX9_room 27 = .ok (.iload_n 3, 1) := by decide +kernel
theorem dX9_room_28 : decode cX9_room 28 = .ok (.iconst (-1), 1) := by decide +kernel
theorem dX9_room_29 : decode cX9_room 29 = .ok (.if_icmp .eq 172, 3) := by decide +kernel
theorem dX9_room_32 : decode cX9_room 32 = .ok (.sipush 1629, 3) := by decide +kernel
theorem dX9_room_35 : decode cX9_room 35 = .ok (.bipush 8, 2) := by decide +kernel
theorem dX9_room_37 : decode cX9_room 37 = .ok (.aload_n 0, 1) := by decide +kernel
theorem dX9_room_38 : decode cX9_room 38 = .ok (.getfield 14, 3) := by decide +kernel
theorem dX9_room_41 : decode cX9_room 41 = .ok (.sipush 1628, 3) := by decide +kernel
theorem dX9_room_44 : decode cX9_room 44 = .ok (.iaload, 1) := by decide +kernel
theorem dX9_room_45 : decode cX9_room 45 = .ok (.imul, 1) := by decide +kernel
theorem dX9_room_46 : decode cX9_room 46 = .ok (.iadd, 1) := by decide +kernel
theorem dX9_room_47 : decode cX9_room 47 = .ok (.istore 4, 2) := by decide +kernel
theorem dX9_room_49 : decode cX9_room 49 = .ok (.aload_n 0, 1) := by decide +kernel
theorem dX9_room_50 : decode cX9_room 50 = .ok (.getfield 14, 3) := by decide +kernel
theorem dX9_room_53 : decode cX9_room 53 = .ok (.iconst 0, 1) := by decide +kernel
theorem dX9_room_54 : decode cX9_room 54 = .ok (.dup2, 1) := by decide +kernel
theorem dX9_room_55 : decode cX9_room 55 = .ok (.iaload, 1) := by decide +kernel
theorem dX9_room_56 : decode cX9_room 56 = .ok (.iconst 1, 1) := by decide +kernel
theorem dX9_room_57 : decode cX9_room 57 = .ok (.iadd, 1) := by decide +kernel
theorem dX9_room_58 : decode cX9_room 58 = .ok (.iastore, 1) := by decide +kernel
theorem dX9_room_59 : decode cX9_room 59 = .ok (.aload_n 0, 1) := by decide +kernel
theorem dX9_room_60 : decode cX9_room 60 = .ok (.getfield 14, 3) := by decide +kernel
theorem dX9_room_63 : decode cX9_room 63 = .ok (.iload 4, 2) := by decide +kernel
theorem dX9_room_65 : decode cX9_room 65 = .ok (.iconst 0, 1) := by decide +kernel
theorem dX9_room_66 : decode cX9_room 66 = .ok (.iadd, 1) := by decide +kernel
theorem dX9_room_67 : decode cX9_room 67 = .ok (.bipush 9, 2) := by decide +kernel
theorem dX9_room_69 : decode cX9_room 69 = .ok (.iastore, 1) := by decide +kernel
theorem dX9_room_70 : decode cX9_room 70 = .ok (.aload_n 0, 1) := by decide +kernel
theorem dX9_room_71 : decode cX9_room 71 = .ok (.getfield 14, 3) := by decide +kernel
theorem dX9_room_74 : decode cX9_room 74 = .ok (.iload 4, 2) := by decide +kernel
theorem dX9_room_76 : decode cX9_room 76 = .ok (.iconst 1, 1) := by decide +kernel
theorem dX9_room_77 : decode cX9_room 77 = .ok (.iadd, 1) := by decide +kernel
theorem dX9_room_78 : decode cX9_room 78 = .ok (.iload_n 2, 1) := by decide +kernel
theorem dX9_room_79 : decode cX9_room 79 = .ok (.iastore, 1) := by decide +kernel
theorem dX9_room_80 : decode cX9_room 80 = .ok (.aload_n 0, 1) := by decide +kernel
theorem dX9_room_81 : decode cX9_room 81 = .ok (.getfield 14, 3) := by decide +kernel
theorem dX9_room_84 : decode cX9_room 84 = .ok (.iload 4, 2) := by decide +kernel
theorem dX9_room_86 : decode cX9_room 86 = .ok (.iconst 1, 1) := by decide +kernel
theorem dX9_room_87 : decode cX9_room 87 = .ok (.iadd, 1) := by decide +kernel
theorem dX9_room_88 : decode cX9_room 88 = .ok (.iconst 1, 1) := by decide +kernel
theorem dX9_room_89 : decode cX9_room 89 = .ok (.iadd, 1) := by decide +kernel
theorem dX9_room_90 : decode cX9_room 90 = .ok (.iconst 0, 1) := by decide +kernel
theorem dX9_room_91 : decode cX9_room 91 = .ok (.iastore, 1) := by decide +kernel
theorem dX9_room_92 : decode cX9_room 92 = .ok (.aload_n 0, 1) := by decide +kernel
theorem dX9_room_93 : decode cX9_room 93 = .ok (.getfield 14, 3) := by decide +kernel
theorem dX9_room_96 : decode cX9_room 96 = .ok (.iload 4, 2) := by decide +kernel
theorem dX9_room_98 : decode cX9_room 98 = .ok (.iconst 3, 1) := by decide +kernel
theorem dX9_room_99 : decode cX9_room 99 = .ok (.iadd, 1) := by decide +kernel
theorem dX9_room_100 : decode cX9_room 100 = .ok (.aload_n 0, 1) := by decide +kernel
theorem dX9_room_101 : decode cX9_room 101 = .ok (.getfield 14, 3) := by decide +kernel
theorem dX9_room_104 : decode cX9_room 104 = .ok (.iconst 0, 1) := by decide +kernel
theorem dX9_room_105 : decode cX9_room 105 = .ok (.iaload, 1) := by decide +kernel
theorem dX9_room_106 : decode cX9_room 106 = .ok (.iastore, 1) := by decide +kernel
theorem dX9_room_107 : decode cX9_room 107 = .ok (.aload_n 0, 1) := by decide +kernel
theorem dX9_room_108 : decode cX9_room 108 = .ok (.getfield 14, 3) := by decide +kernel
theorem dX9_room_111 : decode cX9_room 111 = .ok (.iload 4, 2) := by decide +kernel
theorem dX9_room_113 : decode cX9_room 113 = .ok (.iconst 4, 1) := by decide +kernel
theorem dX9_room_114 : decode cX9_room 114 = .ok (.iadd, 1) := by decide +kernel
theorem dX9_room_115 : decode cX9_room 115 = .ok (.iload_n 3, 1) := by decide +kernel
theorem dX9_room_116 : decode cX9_room 116 = .ok (.iastore, 1) := by decide +kernel
theorem dX9_room_117 : decode cX9_room 117 = .ok (.aload_n 0, 1) := by decide +kernel
theorem dX9_room_118 : decode cX9_room 118 = .ok (.getfield 14, 3) := by decide +kernel
theorem dX9_room_121 : decode cX9_room 121 = .ok (.iload 4, 2) := by decide +kernel
theorem dX9_room_123 : decode cX9_room 123 = .ok (.iconst 5, 1) := by decide +kernel
theorem dX9_room_124 : decode cX9_room 124 = .ok (.iadd, 1) := by decide +kernel
theorem dX9_room_125 : decode cX9_room 125 = .ok (.aload_n 0, 1) := by decide +kernel
theorem dX9_room_126 : decode cX9_room 126 = .ok (.getfield 14, 3) := by decide +kernel
theorem dX9_room_129 : decode cX9_room 129 = .ok (.bipush 7, 2) := by decide +kernel
theorem dX9_room_131 : decode cX9_room 131 = .ok (.iload_n 3, 1) := by decide +kernel
theorem dX9_room_132 : decode cX9_room 132 = .ok (.iadd, 1) := by decide +kernel
theorem dX9_room_133 : decode cX9_room 133 = .ok (.iaload, 1) := by decide +kernel
theorem dX9_room_134 : decode cX9_room 134 = .ok (.iastore, 1) := by decide +kernel
theorem dX9_room_135 : decode cX9_room 135 = .ok (.aload_n 0, 1) := by decide +kernel
theorem dX9_room_136 : decode cX9_room 136 = .ok (.getfield 14, 3) := by decide +kernel
theorem dX9_room_139 : decode cX9_room 139 = .ok (.iload 4, 2) := by decide +kernel
theorem dX9_room_141 : decode cX9_room 141 = .ok (.bipush 6, 2) := by decide +kernel
theorem dX9_room_143 : decode cX9_room 143 = .ok (.iadd, 1) := by decide +kernel
theorem dX9_room_144 : decode cX9_room 144 = .ok (.iload_n 1, 1) := by decide +kernel
theorem dX9_room_145 : decode cX9_room 145 = .ok (.iastore, 1) := by decide +kernel
theorem dX9_room_146 : decode cX9_room 146 = .ok (.aload_n 0, 1) := by decide +kernel
theorem dX9_room_147 : decode cX9_room 147 = .ok (.getfield 14, 3) := by decide +kernel
theorem dX9_room_150 : decode cX9_room 150 = .ok (.iload 4, 2) := by decide +kernel
theorem dX9_room_152 : decode cX9_room 152 = .ok (.bipush 7, 2) := by decide +kernel
theorem dX9_room_154 : decode cX9_room 154 = .ok (.iadd, 1) := by decide +kernel
theorem dX9_room_155 : decode cX9_room 155 = .ok (.iconst 0, 1) := by decide +kernel
theorem dX9_room_156 : decode cX9_room 156 = .ok (.iastore, 1) := by decide +kernel
theorem dX9_room_157 : decode cX9_room 157 = .ok (.aload_n 0, 1) := by decide +kernel
theorem dX9_room_158 : decode cX9_room 158 = .ok (.getfield 14, 3) := by decide +kernel
theorem dX9_room_161 : decode cX9_room 161 = .ok (.sipush 1628, 3) := by decide +kernel
theorem dX9_room_164 : decode cX9_room 164 = .ok (.dup2, 1) := by decide +kernel
theorem dX9_room_165 : decode cX9_room 165 = .ok (.iaload, 1) := by decide +kernel
theorem dX9_room_166 : decode cX9_room 166 = .ok (.iconst 1, 1) := by decide +kernel
theorem dX9_room_167 : decode cX9_room 167 = .ok (.iadd, 1) := by decide +kernel
theorem dX9_room_168 : decode cX9_room 168 = .ok (.iastore, 1) := by decide +kernel
theorem dX9_room_169 : decode cX9_room 169 = .ok (.aload_n 0, 1) := by decide +kernel
theorem dX9_room_170 : decode cX9_room 170 = .ok (.getfield 14, 3) := by decide +kernel
theorem dX9_room_173 : decode cX9_room 173 = .ok (.bipush 7, 2) := by decide +kernel
theorem dX9_room_175 : decode cX9_room 175 = .ok (.iload_n 3, 1) := by decide +kernel
theorem dX9_room_176 : decode cX9_room 176 = .ok (.iadd, 1) := by decide +kernel
theorem dX9_room_177 : decode cX9_room 177 = .ok (.dup2, 1) := by decide +kernel
theorem dX9_room_178 : decode cX9_room 178 = .ok (.iaload, 1) := by decide +kernel
theorem dX9_room_179 : decode cX9_room 179 = .ok (.iload_n 1, 1) := by decide +kernel
theorem dX9_room_180 : decode cX9_room 180 = .ok (.iadd, 1) := by decide +kernel
theorem dX9_room_181 : decode cX9_room 181 = .ok (.iastore, 1) := by decide +kernel
theorem dX9_room_182 : decode cX9_room 182 = .ok (.aload_n 0, 1) := by decide +kernel
theorem dX9_room_183 : decode cX9_room 183 = .ok (.getfield 14, 3) := by decide +kernel
theorem dX9_room_186 : decode cX9_room 186 = .ok (.iconst 1, 1) := by decide +kernel
theorem dX9_room_187 : decode cX9_room 187 = .ok (.iload_n 3, 1) := by decide +kernel
theorem dX9_room_188 : decode cX9_room 188 = .ok (.iastore, 1) := by decide +kernel
theorem dX9_room_189 : decode cX9_room 189 = .ok (.iinc 2 1, 3) := by decide +kernel
theorem dX9_room_192 : decode cX9_room 192 = .ok (.aload_n 0, 1) := by decide +kernel
theorem dX9_room_193 : decode cX9_room 193 = .ok (.iload_n 1, 1) := by decide +kernel
theorem dX9_room_194 : decode cX9_room 194 = .ok (.invokevirtual 176, 3) := by decide +kernel
theorem dX9_room_197 : decode cX9_room 197 = .ok (.istore_n 3, 1) := by decide +kernel
theorem dX9_room_198 : decode cX9_room 198 = .ok (.goto (-171), 3) := by decide +kernel
theorem dX9_room_201 : decode cX9_room 201 = .ok (.aload_n 0, 1) := by decide +kernel
theorem dX9_room_202 : decode cX9_room 202 = .ok (.invokevirtual 179, 3) := by decide +kernel
theorem dX9_room_205 : decode cX9_room 205 = .ok (.iload_n 2, 1) := by decide +kernel
theorem dX9_room_206 : decode cX9_room 206 = .ok (.ireturn, 1) := by decide +kernel
abbrev rm_c_X9_bringsBack_g : Room := { frames := 0, cells := 0, slots := 0, locals := 0 }
set_option maxHeartbeats 4000000 in
set_option maxRecDepth 100000 in
theorem c_X9_bringsBack_g (l : Launch) (D : va_G) (cs : Nat → ClassId) (sz : Nat) (md : Nat) (m_all : Nat) (m_deeds : Nat) (m_trial : Nat) (f_m_trial : Nat → Int32) (m_hasImage : Nat) (m_tape : Nat) (m_key : Nat) (m_answered : Nat) (m_goes : Nat) (m_hotOnes : Nat) (m_indexed : Nat) (m_isChanged : Nat) (m_valueNow : Nat) (m_didSome : Nat) (m_sizes : Nat) (m_ends : Nat) (dm : Int32) (th : Int32) (sw : Int32) (fm : Nat → Int32)  : cMv l yX9_bringsBack (Cond.code yX9_bringsBack cX9_bringsBack 2 none) (rm_c_X9_bringsBack_g) D cs [.ref md] sz [(md, .inr (9, [.int th, .ref m_all, .ref m_deeds, .ref m_trial, .int dm, .ref m_hasImage, .ref m_tape, .ref m_key, .ref m_answered, .int 0, .int 0, .int 0, .ref m_goes, .int sw, .ref m_hotOnes, .ref m_indexed, .ref m_isChanged, .int 0, .ref m_valueNow, .int 0, .int (-1), .int 0, .ref m_didSome, .ref m_sizes, .ref m_ends])), (m_all, aI cs 51207 fm), (m_trial, aI cs 17069 f_m_trial)] (fun (u : Unit) => True) (fun (u : Unit) => [(md, .inr (9, [.int th, .ref m_all, .ref m_deeds, .ref m_trial, .int dm, .ref m_hasImage, .ref m_tape, .ref m_key, .ref m_answered, .int 0, .int 0, .int 0, .ref m_goes, .int sw, .ref m_hotOnes, .ref m_indexed, .ref m_isChanged, .int 0, .ref m_valueNow, .int 0, .int (-1), .int 0, .ref m_didSome, .ref m_sizes, .ref m_ends]))]) := by
  refine kMet_v RX9 (by decide) rfl (Nat.le_of_ble_eq_true rfl) ?_
  intro p e s m below meth c ls A Qz H locs hx hb hml hown hin hu hK hsz hA hP hD hS hl hz
  subst hsz
  have hl : lv_has ls 2 [(0, .ref md)] := hl
  refine lv_iconst (v := 0) hx hb dX9_bringsBack_0 (by decide) ?_
  refine lv_istore_n (lv' := [(1, .int 0), (0, .ref md)]) hx hb dX9_bringsBack_1 rfl hl (by decide) rfl (fun ls hl => ?_)
  have lp_1 : ∀ (fuel : Nat) (i : Nat) (f : Nat → Int32) (hfuel : 17069 < i + fuel) (hi : i ≤ 17069) (H : Heap) (locs : List Loc) (hP : va_P D vwCl [(md, .inr (9, [.int th, .ref m_all, .ref m_deeds, .ref m_trial, .int dm, .ref m_hasImage, .ref m_tape, .ref m_key, .ref m_answered, .int 0, .int 0, .int 0, .ref m_goes, .int sw, .ref m_hotOnes, .ref m_indexed, .ref m_isChanged, .int 0, .ref m_valueNow, .int 0, .int (-1), .int 0, .ref m_didSome, .ref m_sizes, .ref m_ends])), (m_all, aI cs 51207 f), (m_trial, aI cs 17069 f_m_trial)] H) (hD : va_D A [(md, .inr (9, [.int th, .ref m_all, .ref m_deeds, .ref m_trial, .int dm, .ref m_hasImage, .ref m_tape, .ref m_key, .ref m_answered, .int 0, .int 0, .int 0, .ref m_goes, .int sw, .ref m_hotOnes, .ref m_indexed, .ref m_isChanged, .int 0, .ref m_valueNow, .int 0, .int (-1), .int 0, .ref m_didSome, .ref m_sizes, .ref m_ends])), (m_all, aI cs 51207 f), (m_trial, aI cs 17069 f_m_trial)]) (hS : va_S A s.heap H locs) (ls : Array Slot) (hl : lv_has ls 2 [(1, .int (nI i)), (0, .ref md)]), W p l e rm_c_X9_bringsBack_g s m [.ref md].toArray below meth c H locs 0 0 Qz (F0 m 2 ls []) := by
    intro fuel
    induction fuel with
    | zero =>
      intro i f hfuel hi H locs hP hD hS ls hl
      exact absurd hfuel (by omega)
    | succ fuel ih =>
      intro i f hfuel hi H locs hP hD hS ls hl
      refine lv_iload_n hx hb dX9_bringsBack_2 rfl (lv_at hl 0 rfl) ?_
      refine lv_sipush (v := 17069) hx hb dX9_bringsBack_3 (by decide) ?_
      refine lv_icmp_ge (tgt := 27) hx hb dX9_bringsBack_6 (by decide) (fun c_2 => ?_) (fun c_2 => ?_)
      · have gc_2 : 17069 ≤ i := (nI_leI (a := 17069) (b := i) (by omega) (by omega)).mp c_2
        exact hz () hP hD hS trivial [0] rfl rfl (Nat.le_of_ble_eq_true rfl) (Nat.le_of_ble_eq_true rfl) rfl dX9_bringsBack_27
      · have gc_2 : ¬ 17069 ≤ i := fun h => c_2 ((nI_leI (a := 17069) (b := i) (by omega) (by omega)).mpr h)
        refine lv_aload_n hx hb dX9_bringsBack_9 rfl (lv_at hl 1 rfl) ?_
        refine va_get (D := D) (ci := 9) (v := .ref m_all) (C := RX9) (T := TX9) (N := 25) hx hb hu in_X9 hown hK.1 hP 0 rfl rfl 1 (by decide) (hu _ u_1081) (fun _ h9 => h9) rfl dX9_bringsBack_10 ?_
        refine lv_iload_n hx hb dX9_bringsBack_13 rfl (lv_at hl 0 rfl) ?_
        refine lv_aload_n hx hb dX9_bringsBack_14 rfl (lv_at hl 1 rfl) ?_
        refine va_get (D := D) (ci := 9) (v := .ref m_trial) (C := RX9) (T := TX9) (N := 25) hx hb hu in_X9 hown hK.1 hP 0 rfl rfl 3 (by decide) (hu _ u_1083) (fun _ h9 => h9) rfl dX9_bringsBack_15 ?_
        refine lv_iload_n hx hb dX9_bringsBack_18 rfl (lv_at hl 0 rfl) ?_
        refine va_iald hx hb hK.1 hP 2 0 rfl rfl (vp_in_nI (by omega) (by omega)) dX9_bringsBack_19 ?_
        refine va_iast hx hb hK.1 hP hD hS 1 0 rfl rfl (vp_in_nI (by omega) (by omega)) dX9_bringsBack_20 (fun H locs hP hD hS => ?_)
        have hP : va_P D vwCl [(md, .inr (9, [.int th, .ref m_all, .ref m_deeds, .ref m_trial, .int dm, .ref m_hasImage, .ref m_tape, .ref m_key, .ref m_answered, .int 0, .int 0, .int 0, .ref m_goes, .int sw, .ref m_hotOnes, .ref m_indexed, .ref m_isChanged, .int 0, .ref m_valueNow, .int 0, .int (-1), .int 0, .ref m_didSome, .ref m_sizes, .ref m_ends])), (m_all, aI cs 51207 (upd f (nI i).toNatClampNeg (f_m_trial (nI i).toNatClampNeg))), (m_trial, aI cs 17069 f_m_trial)] H := hP
        have hD : va_D A [(md, .inr (9, [.int th, .ref m_all, .ref m_deeds, .ref m_trial, .int dm, .ref m_hasImage, .ref m_tape, .ref m_key, .ref m_answered, .int 0, .int 0, .int 0, .ref m_goes, .int sw, .ref m_hotOnes, .ref m_indexed, .ref m_isChanged, .int 0, .ref m_valueNow, .int 0, .int (-1), .int 0, .ref m_didSome, .ref m_sizes, .ref m_ends])), (m_all, aI cs 51207 (upd f (nI i).toNatClampNeg (f_m_trial (nI i).toNatClampNeg))), (m_trial, aI cs 17069 f_m_trial)] := hD
        refine lv_iinc (v := nI (i + 1)) (lv' := [(1, .int (nI (i + 1))), (0, .ref md)]) hx hb dX9_bringsBack_21 hl (k := 0) rfl (nI_1 _) (by decide) rfl (fun ls hl => ?_)
        refine lv_goto (tgt := 2) hx hb dX9_bringsBack_24 (by decide) ?_
        exact ih (i + 1) (upd f (nI i).toNatClampNeg (f_m_trial (nI i).toNatClampNeg)) (by omega) (by omega) H locs (hP.sub [0, 1, 2] rfl) (hD.sub [0, 1, 2] rfl rfl) hS ls (lv_sub hl [0, 1] rfl)
  exact lp_1 (17069 + 1) 0 fm (by omega) (by omega) H locs (hP.sub [0, 1, 2] rfl) (hD.sub [0, 1, 2] rfl rfl) hS ls (lv_sub hl [0, 1] rfl)
theorem AL_lo {j : Nat} (h : 2 ≤ j) (h2 : j < 55) : AL j = 0 := by
  unfold AL
  rw [if_neg (by omega)]
abbrev rm_c_X9_room : Room := { frames := 5, cells := 0, slots := 0, locals := 115 }
set_option maxHeartbeats 4000000 in
set_option maxRecDepth 100000 in
theorem c_X9_room (l : Launch) (D : va_G) (cs : Nat → ClassId) (sz : Nat) (x : Int32) (md : Nat) (m_all : Nat) (f_m_all : Nat → Int32) (m_deeds : Nat) (m_trial : Nat) (f_m_trial : Nat → Int32) (m_hasImage : Nat) (m_tape : Nat) (m_key : Nat) (m_answered : Nat) (m_goes : Nat) (m_hotOnes : Nat) (m_indexed : Nat) (m_isChanged : Nat) (m_valueNow : Nat) (m_didSome : Nat) (m_sizes : Nat) (m_ends : Nat) (z_all : ∀ j, j < 51207 → f_m_all j = AL j) : cMi l yX9_room (Cond.code yX9_room cX9_room 5 (some .int)) (rm_c_X9_room) D cs [.ref md, .int x] sz [(md, .inr (9, [.int 0, .ref m_all, .ref m_deeds, .ref m_trial, .int 0, .ref m_hasImage, .ref m_tape, .ref m_key, .ref m_answered, .int 0, .int 0, .int 0, .ref m_goes, .int 0, .ref m_hotOnes, .ref m_indexed, .ref m_isChanged, .int 0, .ref m_valueNow, .int 0, .int (-1), .int 0, .ref m_didSome, .ref m_sizes, .ref m_ends])), (m_all, aI cs 51207 f_m_all), (m_trial, aI cs 17069 f_m_trial)] (fun (r : Int32) (u : Unit) => ((r = (-3)) ∧ (x < 6 ∨ 52 < x ∨ ¬ x &&& 1 = 0)) ∨ ((6 ≤ x ∧ x ≤ 52 ∧ x &&& 1 = 0) ∧ (ansRoom x r))) (fun (u : Unit) => []) := by
  refine kMet_i RX9 (by decide) rfl (Nat.le_of_ble_eq_true rfl) ?_
  intro p e s m below meth c ls A Qz H locs hx hb hml hown hin hu hK hsz hA hP hD hS hl hz
  subst hsz
  have hl : lv_has ls 5 [(0, .ref md), (1, .int x)] := hl
  refine lv_aload_n hx hb dX9_room_0 rfl (lv_at hl 0 rfl) ?_
  refine lv_iconst (v := 0) hx hb dX9_room_1 (by decide) ?_
  refine va_put (D := D) (ci := 9) (v := .int 0) (ty := tyX9 0) (C := RX9) (T := TX9) (N := 25) hx hb hu in_X9 tyX9 tyX9_ok nmX9 hown hK.1 hP hD hS 0 rfl rfl 0 (by decide) (hu _ u_1080) (fun _ h9 => h9) rfl (tyX9_ok 0 (by decide)) rfl rfl (Nat.le_of_ble_eq_true rfl) dX9_room_2 (fun H locs hP hD hS => ?_)
  have hP : va_P D vwCl [(md, .inr (9, [.int 0, .ref m_all, .ref m_deeds, .ref m_trial, .int 0, .ref m_hasImage, .ref m_tape, .ref m_key, .ref m_answered, .int 0, .int 0, .int 0, .ref m_goes, .int 0, .ref m_hotOnes, .ref m_indexed, .ref m_isChanged, .int 0, .ref m_valueNow, .int 0, .int (-1), .int 0, .ref m_didSome, .ref m_sizes, .ref m_ends])), (m_all, aI cs 51207 f_m_all), (m_trial, aI cs 17069 f_m_trial)] H := hP
  have hD : va_D A [(md, .inr (9, [.int 0, .ref m_all, .ref m_deeds, .ref m_trial, .int 0, .ref m_hasImage, .ref m_tape, .ref m_key, .ref m_answered, .int 0, .int 0, .int 0, .ref m_goes, .int 0, .ref m_hotOnes, .ref m_indexed, .ref m_isChanged, .int 0, .ref m_valueNow, .int 0, .int (-1), .int 0, .ref m_didSome, .ref m_sizes, .ref m_ends])), (m_all, aI cs 51207 f_m_all), (m_trial, aI cs 17069 f_m_trial)] := hD
  refine lv_iload_n hx hb dX9_room_5 rfl (lv_at hl 1 rfl) ?_
  refine kS_i  (As := [.int x]) (rest := []) (wc := []) (wr := [(md, .inr (9, [.int 0, .ref m_all, .ref m_deeds, .ref m_trial, .int 0, .ref m_hasImage, .ref m_tape, .ref m_key, .ref m_answered, .int 0, .int 0, .int 0, .ref m_goes, .int 0, .ref m_hotOnes, .ref m_indexed, .ref m_isChanged, .int 0, .ref m_valueNow, .int 0, .int (-1), .int 0, .ref m_didSome, .ref m_sizes, .ref m_ends])), (m_all, aI cs 51207 f_m_all), (m_trial, aI cs 17069 f_m_trial)]) hx hb hml hown hu hK hP hD hS hA hl.1 (c_X9_isSize l D cs H.size x) (gS u_1516 u_1517 u_76 u_1518) hd_X9_isSize ⟨(Nat.le_of_ble_eq_true rfl), (Nat.le_of_ble_eq_true rfl)⟩ [] [0, 1, 2] rfl rfl rfl rfl (by decide) rfl rfl (Nat.le_of_ble_eq_true rfl) dX9_room_6 ⟨(Nat.le_of_ble_eq_true rfl), (Nat.le_of_ble_eq_true rfl)⟩ (fun r_1 ut_2 H locs hw_3 hP hD hS => ?_)
  have hP : va_P D vwCl [(md, .inr (9, [.int 0, .ref m_all, .ref m_deeds, .ref m_trial, .int 0, .ref m_hasImage, .ref m_tape, .ref m_key, .ref m_answered, .int 0, .int 0, .int 0, .ref m_goes, .int 0, .ref m_hotOnes, .ref m_indexed, .ref m_isChanged, .int 0, .ref m_valueNow, .int 0, .int (-1), .int 0, .ref m_didSome, .ref m_sizes, .ref m_ends])), (m_all, aI cs 51207 f_m_all), (m_trial, aI cs 17069 f_m_trial)] H := hP
  have hD : va_D A [(md, .inr (9, [.int 0, .ref m_all, .ref m_deeds, .ref m_trial, .int 0, .ref m_hasImage, .ref m_tape, .ref m_key, .ref m_answered, .int 0, .int 0, .int 0, .ref m_goes, .int 0, .ref m_hotOnes, .ref m_indexed, .ref m_isChanged, .int 0, .ref m_valueNow, .int 0, .int (-1), .int 0, .ref m_didSome, .ref m_sizes, .ref m_ends])), (m_all, aI cs 51207 f_m_all), (m_trial, aI cs 17069 f_m_trial)] := hD
  rcases hw_3 with hw_3 | hw_3
  · obtain ⟨er_4, hf_5⟩ := hw_3
    subst er_4
    refine lv_if_ne (tgt := 15) hx hb dX9_room_9 (by decide) (fun c_6 => ?_) (fun c_6 => absurd c_6 (by decide))
    obtain ⟨zz, hz6, hz52, rfl⟩ := size_nat (x := x) (by grind)
    refine lv_aload_n hx hb dX9_room_15 rfl (lv_at hl 0 rfl) ?_
    refine kV_v (ci := 9) (As := []) (rest := []) (wc := [(md, .inr (9, [.int 0, .ref m_all, .ref m_deeds, .ref m_trial, .int 0, .ref m_hasImage, .ref m_tape, .ref m_key, .ref m_answered, .int 0, .int 0, .int 0, .ref m_goes, .int 0, .ref m_hotOnes, .ref m_indexed, .ref m_isChanged, .int 0, .ref m_valueNow, .int 0, .int (-1), .int 0, .ref m_didSome, .ref m_sizes, .ref m_ends])), (m_all, aI cs 51207 f_m_all), (m_trial, aI cs 17069 f_m_trial)]) (wr := []) hx hb hml hown hu hK hP hD hS hA hl.1 (c_X9_tries l D cs H.size md m_all f_m_all m_deeds m_trial f_m_trial m_hasImage m_tape m_key m_answered m_goes m_hotOnes m_indexed m_isChanged m_valueNow m_didSome m_sizes m_ends 0 0 0 z_all) (gV u_1176 u_1178 u_10 u_76 u_1179) hd_X9_tries ⟨(Nat.le_of_ble_eq_true rfl), (Nat.le_of_ble_eq_true rfl)⟩ [0, 1, 2] [] rfl rfl rfl rfl (by decide) rfl 0 rfl rfl rfl (Nat.le_of_ble_eq_true rfl) dX9_room_16 ⟨(Nat.le_of_ble_eq_true rfl), (Nat.le_of_ble_eq_true rfl)⟩ (fun ut_8 H locs hw_9 hP hD hS => ?_)
    have hP : va_P D vwCl [(md, .inr (9, [.int 0, .ref m_all, .ref m_deeds, .ref m_trial, .int 0, .ref m_hasImage, .ref m_tape, .ref m_key, .ref m_answered, .int 0, .int 0, .int 0, .ref m_goes, .int 0, .ref m_hotOnes, .ref m_indexed, .ref m_isChanged, .int 0, .ref m_valueNow, .int 0, .int (-1), .int 0, .ref m_didSome, .ref m_sizes, .ref m_ends])), (m_all, aI cs 51207 f_m_all), (m_trial, aI cs 17069 ut_8)] H := hP
    have hD : va_D A [(md, .inr (9, [.int 0, .ref m_all, .ref m_deeds, .ref m_trial, .int 0, .ref m_hasImage, .ref m_tape, .ref m_key, .ref m_answered, .int 0, .int 0, .int 0, .ref m_goes, .int 0, .ref m_hotOnes, .ref m_indexed, .ref m_isChanged, .int 0, .ref m_valueNow, .int 0, .int (-1), .int 0, .ref m_didSome, .ref m_sizes, .ref m_ends])), (m_all, aI cs 51207 f_m_all), (m_trial, aI cs 17069 ut_8)] := hD
    obtain ⟨ug_10, rfl⟩ : ∃ z, z = ut_8 := ⟨_, rfl⟩
    have hP : va_P D vwCl [(md, .inr (9, [.int 0, .ref m_all, .ref m_deeds, .ref m_trial, .int 0, .ref m_hasImage, .ref m_tape, .ref m_key, .ref m_answered, .int 0, .int 0, .int 0, .ref m_goes, .int 0, .ref m_hotOnes, .ref m_indexed, .ref m_isChanged, .int 0, .ref m_valueNow, .int 0, .int (-1), .int 0, .ref m_didSome, .ref m_sizes, .ref m_ends])), (m_all, aI cs 51207 f_m_all), (m_trial, aI cs 17069 ug_10)] H := hP
    have hD : va_D A [(md, .inr (9, [.int 0, .ref m_all, .ref m_deeds, .ref m_trial, .int 0, .ref m_hasImage, .ref m_tape, .ref m_key, .ref m_answered, .int 0, .int 0, .int 0, .ref m_goes, .int 0, .ref m_hotOnes, .ref m_indexed, .ref m_isChanged, .int 0, .ref m_valueNow, .int 0, .int (-1), .int 0, .ref m_didSome, .ref m_sizes, .ref m_ends])), (m_all, aI cs 51207 f_m_all), (m_trial, aI cs 17069 ug_10)] := hD
    try dsimp only at hw_9
    refine lv_iconst (v := 0) hx hb dX9_room_19 (by decide) ?_
    refine lv_istore_n (lv' := [(2, .int 0), (0, .ref md), (1, .int (nI zz))]) hx hb dX9_room_20 rfl hl (by decide) rfl (fun ls hl => ?_)
    have hE0 : ∀ j, j < 24 → f_m_all (7 + j) = nI ((fun _ => 0 : Nat → Nat) j) ∧ (fun _ => 0 : Nat → Nat) j ≤ 64 := fun j hj => ⟨(z_all _ (by omega)).trans (AL_lo (by omega) (by omega)), Nat.zero_le _⟩
    have h20 : f_m_all 2 = 0 := (z_all _ (by omega)).trans (by decide +kernel)
    have h30 : f_m_all 3 = 0 := (z_all _ (by omega)).trans (by decide +kernel)
    have her0 : ∀ j, j < 24 → f_m_all (31 + j) = 0 := fun j hj => (z_all _ (by omega)).trans (AL_lo (by omega) (by omega))
    have hN0 : f_m_all 1628 = nI 0 := (z_all _ (by omega)).trans (by decide +kernel)
    refine lv_aload_n hx hb dX9_room_21 rfl (lv_at hl 1 rfl) ?_
    refine lv_iload_n hx hb dX9_room_22 rfl (lv_at hl 2 rfl) ?_
    refine kV_i (ci := 9) (As := [.int (nI zz)]) (rest := []) (wc := [(md, .inr (9, [.int 0, .ref m_all, .ref m_deeds, .ref m_trial, .int 0, .ref m_hasImage, .ref m_tape, .ref m_key, .ref m_answered, .int 0, .int 0, .int 0, .ref m_goes, .int 0, .ref m_hotOnes, .ref m_indexed, .ref m_isChanged, .int 0, .ref m_valueNow, .int 0, .int (-1), .int 0, .ref m_didSome, .ref m_sizes, .ref m_ends])), (m_all, aI cs 51207 f_m_all)]) (wr := [(m_trial, aI cs 17069 ug_10)]) hx hb hml hown hu hK hP hD hS hA hl.1 (c_X9_makesPlace_q l D cs H.size md m_all m_deeds m_trial m_hasImage m_tape m_key m_answered m_goes m_hotOnes m_indexed m_isChanged m_valueNow m_didSome m_sizes m_ends 0 0 0 zz 0 f_m_all (fun _ => 0) hE0 (by omega) (fun j hj => absurd hj (by omega)) (fun _ _ _ => rfl) (by show 0 + zz ≤ 64; omega) (fun h => absurd h (by decide)) (by omega) h20 her0) (gV u_1180 u_1182 u_11 u_76 u_1183) hd_X9_makesPlace ⟨(Nat.le_of_ble_eq_true rfl), (Nat.le_of_ble_eq_true rfl)⟩ [0, 1] [2] rfl rfl rfl rfl (by decide) rfl 0 rfl rfl rfl (Nat.le_of_ble_eq_true rfl) dX9_room_23 ⟨(Nat.le_of_ble_eq_true rfl), (Nat.le_of_ble_eq_true rfl)⟩ (fun r_11 ut_12 H locs hw_13 hP hD hS => ?_)
    have hP : va_P D vwCl [(m_trial, aI cs 17069 ug_10), (md, .inr (9, [.int 0, .ref m_all, .ref m_deeds, .ref m_trial, .int 0, .ref m_hasImage, .ref m_tape, .ref m_key, .ref m_answered, .int 0, .int 0, .int 0, .ref m_goes, .int 0, .ref m_hotOnes, .ref m_indexed, .ref m_isChanged, .int 0, .ref m_valueNow, .int 0, .int (-1), .int 0, .ref m_didSome, .ref m_sizes, .ref m_ends])), (m_all, aI cs 51207 f_m_all)] H := hP
    have hD : va_D A [(m_trial, aI cs 17069 ug_10), (md, .inr (9, [.int 0, .ref m_all, .ref m_deeds, .ref m_trial, .int 0, .ref m_hasImage, .ref m_tape, .ref m_key, .ref m_answered, .int 0, .int 0, .int 0, .ref m_goes, .int 0, .ref m_hotOnes, .ref m_indexed, .ref m_isChanged, .int 0, .ref m_valueNow, .int 0, .int (-1), .int 0, .ref m_didSome, .ref m_sizes, .ref m_ends])), (m_all, aI cs 51207 f_m_all)] := hD
    have er_14 := hw_13
    subst er_14
    refine lv_istore_n (lv' := [(3, .int (nI 0)), (2, .int 0), (0, .ref md), (1, .int (nI zz))]) hx hb dX9_room_26 rfl hl (by decide) rfl (fun ls hl => ?_)
    have lp_15 : ∀ (fuel : Nat) (n : Nat) (q : Nat) (r : Nat) (w : Nat) (fm : Nat → Int32) (we : Nat → Nat) (pv : Int32) (hfuel : 240 < n + fuel) (hst : stn zz n = (q, r, w)) (hq23 : q ≤ 23) (hbd : 6 * r ≤ w ∧ w + zz ≤ 64 ∧ n ≤ 10 * q + r) (hE : ∀ j, j < 24 → fm (7 + j) = nI (we j) ∧ we j ≤ 64) (hF : ∀ j, j < q → 0 < we j ∧ 64 < we j + zz) (hW : we q = w) (hG : ∀ j, q < j → j < 24 → we j = 0) (hL : 0 < w → fm 1 = nI q) (h2 : fm 2 = 0) (h3 : fm 3 = 0) (her : ∀ j, j < 24 → fm (31 + j) = 0) (hNn : fm 1628 = nI n) (hSum : ∀ p, p < 24 → smo fm p n = fm (7 + p)) (hm : ∀ k, k < n → (stn zz k).1 < 23) (hp : (q < 23 → pv = nI q) ∧ (q = 23 → pv = -1)) (H : Heap) (locs : List Loc) (hP : va_P D vwCl [(m_trial, aI cs 17069 ug_10), (md, .inr (9, [.int 0, .ref m_all, .ref m_deeds, .ref m_trial, .int 0, .ref m_hasImage, .ref m_tape, .ref m_key, .ref m_answered, .int 0, .int 0, .int 0, .ref m_goes, .int 0, .ref m_hotOnes, .ref m_indexed, .ref m_isChanged, .int 0, .ref m_valueNow, .int 0, .int (-1), .int 0, .ref m_didSome, .ref m_sizes, .ref m_ends])), (m_all, aI cs 51207 fm)] H) (hD : va_D A [(m_trial, aI cs 17069 ug_10), (md, .inr (9, [.int 0, .ref m_all, .ref m_deeds, .ref m_trial, .int 0, .ref m_hasImage, .ref m_tape, .ref m_key, .ref m_answered, .int 0, .int 0, .int 0, .ref m_goes, .int 0, .ref m_hotOnes, .ref m_indexed, .ref m_isChanged, .int 0, .ref m_valueNow, .int 0, .int (-1), .int 0, .ref m_didSome, .ref m_sizes, .ref m_ends])), (m_all, aI cs 51207 fm)]) (hS : va_S A s.heap H locs) (ls : Array Slot) (hl : lv_has ls 5 [(3, .int pv), (2, .int (nI n)), (0, .ref md), (1, .int (nI zz))]), W p l e rm_c_X9_room s m [.ref md, .int (nI zz)].toArray below meth c H locs 0 0 Qz (F0 m 27 ls []) := by
      intro fuel
      induction fuel with
      | zero =>
        intro n q r w fm we pv hfuel hst hq23 hbd hE hF hW hG hL h2 h3 her hNn hSum hm hp H locs hP hD hS ls hl
        exact absurd hfuel (by omega)
      | succ fuel ih =>
        intro n q r w fm we pv hfuel hst hq23 hbd hE hF hW hG hL h2 h3 her hNn hSum hm hp H locs hP hD hS ls hl
        refine lv_iload_n hx hb dX9_room_27 rfl (lv_at hl 0 rfl) ?_
        rcases Nat.lt_or_ge q 23 with hc | hc
        · obtain rfl : pv = nI q := hp.1 hc
          refine lv_iconst (v := (-1)) hx hb dX9_room_28 (by decide) ?_
          refine lv_icmp_eq (tgt := 201) hx hb dX9_room_29 (by decide) (fun c_16 => absurd c_16 (nI_nem1 (by omega))) (fun c_16 => ?_)
          refine lv_sipush (v := 1629) hx hb dX9_room_32 (by decide) ?_
          refine lv_bipush (v := 8) hx hb dX9_room_35 (by decide) ?_
          refine lv_aload_n hx hb dX9_room_37 rfl (lv_at hl 2 rfl) ?_
          refine va_get (D := D) (ci := 9) (v := .ref m_all) (C := RX9) (T := TX9) (N := 25) hx hb hu in_X9 hown hK.1 hP 1 rfl rfl 1 (by decide) (hu _ u_1081) (fun _ h9 => h9) rfl dX9_room_38 ?_
          refine lv_sipush (v := 1628) hx hb dX9_room_41 (by decide) ?_
          refine va_iald hx hb hK.1 hP 2 0 rfl rfl (vin_c _ _ rfl) dX9_room_44 ?_
          refine tpi (y := nI n) hNn ?_
          refine lv_imul hx hb dX9_room_45 ?_
          refine tpi (y := nI (8 * n)) (pk_mul _ _) ?_
          refine lv_iadd hx hb dX9_room_46 ?_
          refine tpi (y := nI (1629 + 8 * n)) (nI_add _ _) ?_
          refine lv_istore (lv' := [(4, .int (nI (1629 + 8 * n))), (3, .int (nI q)), (2, .int (nI n)), (0, .ref md), (1, .int (nI zz))]) hx hb dX9_room_47 hl (by decide) rfl (fun ls hl => ?_)
          refine lv_aload_n hx hb dX9_room_49 rfl (lv_at hl 3 rfl) ?_
          refine va_get (D := D) (ci := 9) (v := .ref m_all) (C := RX9) (T := TX9) (N := 25) hx hb hu in_X9 hown hK.1 hP 1 rfl rfl 1 (by decide) (hu _ u_1081) (fun _ h9 => h9) rfl dX9_room_50 ?_
          refine lv_iconst (v := 0) hx hb dX9_room_53 (by decide) ?_
          refine lv_dup2_11 hx hb dX9_room_54 rfl rfl ?_
          refine va_iald hx hb hK.1 hP 2 0 rfl rfl (vin_c _ _ rfl) dX9_room_55 ?_
          refine tpi (y := fm 0) rfl ?_
          refine lv_iconst (v := 1) hx hb dX9_room_56 (by decide) ?_
          refine lv_iadd hx hb dX9_room_57 ?_
          refine va_iast hx hb hK.1 hP hD hS 2 0 rfl rfl (vin_c _ _ rfl) dX9_room_58 (fun H locs hP hD hS => ?_)
          have hP : va_P D vwCl [(m_trial, aI cs 17069 ug_10), (md, .inr (9, [.int 0, .ref m_all, .ref m_deeds, .ref m_trial, .int 0, .ref m_hasImage, .ref m_tape, .ref m_key, .ref m_answered, .int 0, .int 0, .int 0, .ref m_goes, .int 0, .ref m_hotOnes, .ref m_indexed, .ref m_isChanged, .int 0, .ref m_valueNow, .int 0, .int (-1), .int 0, .ref m_didSome, .ref m_sizes, .ref m_ends])), (m_all, aI cs 51207 (upd fm (0 : Int32).toNatClampNeg ((fm 0) + 1)))] H := hP
          have hD : va_D A [(m_trial, aI cs 17069 ug_10), (md, .inr (9, [.int 0, .ref m_all, .ref m_deeds, .ref m_trial, .int 0, .ref m_hasImage, .ref m_tape, .ref m_key, .ref m_answered, .int 0, .int 0, .int 0, .ref m_goes, .int 0, .ref m_hotOnes, .ref m_indexed, .ref m_isChanged, .int 0, .ref m_valueNow, .int 0, .int (-1), .int 0, .ref m_didSome, .ref m_sizes, .ref m_ends])), (m_all, aI cs 51207 (upd fm (0 : Int32).toNatClampNeg ((fm 0) + 1)))] := hD
          have hP : va_P D vwCl [(m_trial, aI cs 17069 ug_10), (md, .inr (9, [.int 0, .ref m_all, .ref m_deeds, .ref m_trial, .int 0, .ref m_hasImage, .ref m_tape, .ref m_key, .ref m_answered, .int 0, .int 0, .int 0, .ref m_goes, .int 0, .ref m_hotOnes, .ref m_indexed, .ref m_isChanged, .int 0, .ref m_valueNow, .int 0, .int (-1), .int 0, .ref m_didSome, .ref m_sizes, .ref m_ends])), (m_all, aI cs 51207 (upd fm 0 ((fm 0) + 1)))] H := hP
          have hD : va_D A [(m_trial, aI cs 17069 ug_10), (md, .inr (9, [.int 0, .ref m_all, .ref m_deeds, .ref m_trial, .int 0, .ref m_hasImage, .ref m_tape, .ref m_key, .ref m_answered, .int 0, .int 0, .int 0, .ref m_goes, .int 0, .ref m_hotOnes, .ref m_indexed, .ref m_isChanged, .int 0, .ref m_valueNow, .int 0, .int (-1), .int 0, .ref m_didSome, .ref m_sizes, .ref m_ends])), (m_all, aI cs 51207 (upd fm 0 ((fm 0) + 1)))] := hD
          obtain ⟨g_17, eg_18⟩ : ∃ g9 : Nat → Int32, upd fm 0 ((fm 0) + 1) = g9 := ⟨_, rfl⟩
          rw [eg_18] at hP hD
          refine lv_aload_n hx hb dX9_room_59 rfl (lv_at hl 3 rfl) ?_
          refine va_get (D := D) (ci := 9) (v := .ref m_all) (C := RX9) (T := TX9) (N := 25) hx hb hu in_X9 hown hK.1 hP 1 rfl rfl 1 (by decide) (hu _ u_1081) (fun _ h9 => h9) rfl dX9_room_60 ?_
          refine lv_iload hx hb dX9_room_63 (lv_at hl 0 rfl) ?_
          refine lv_iconst (v := 0) hx hb dX9_room_65 (by decide) ?_
          refine lv_iadd hx hb dX9_room_66 ?_
          refine tpi (y := nI (1629 + 8 * n)) (i_add0 _) ?_
          refine lv_bipush (v := 9) hx hb dX9_room_67 (by decide) ?_
          refine va_iast hx hb hK.1 hP hD hS 2 0 rfl rfl (vp_in_nI (by omega) (by omega)) dX9_room_69 (fun H locs hP hD hS => ?_)
          have hP : va_P D vwCl [(m_trial, aI cs 17069 ug_10), (md, .inr (9, [.int 0, .ref m_all, .ref m_deeds, .ref m_trial, .int 0, .ref m_hasImage, .ref m_tape, .ref m_key, .ref m_answered, .int 0, .int 0, .int 0, .ref m_goes, .int 0, .ref m_hotOnes, .ref m_indexed, .ref m_isChanged, .int 0, .ref m_valueNow, .int 0, .int (-1), .int 0, .ref m_didSome, .ref m_sizes, .ref m_ends])), (m_all, aI cs 51207 (upd g_17 (nI (1629 + 8 * n)).toNatClampNeg 9))] H := hP
          have hD : va_D A [(m_trial, aI cs 17069 ug_10), (md, .inr (9, [.int 0, .ref m_all, .ref m_deeds, .ref m_trial, .int 0, .ref m_hasImage, .ref m_tape, .ref m_key, .ref m_answered, .int 0, .int 0, .int 0, .ref m_goes, .int 0, .ref m_hotOnes, .ref m_indexed, .ref m_isChanged, .int 0, .ref m_valueNow, .int 0, .int (-1), .int 0, .ref m_didSome, .ref m_sizes, .ref m_ends])), (m_all, aI cs 51207 (upd g_17 (nI (1629 + 8 * n)).toNatClampNeg 9))] := hD
          rw [nI_clamp (n := 1629 + 8 * n) (by omega)] at hP hD
          have hP : va_P D vwCl [(m_trial, aI cs 17069 ug_10), (md, .inr (9, [.int 0, .ref m_all, .ref m_deeds, .ref m_trial, .int 0, .ref m_hasImage, .ref m_tape, .ref m_key, .ref m_answered, .int 0, .int 0, .int 0, .ref m_goes, .int 0, .ref m_hotOnes, .ref m_indexed, .ref m_isChanged, .int 0, .ref m_valueNow, .int 0, .int (-1), .int 0, .ref m_didSome, .ref m_sizes, .ref m_ends])), (m_all, aI cs 51207 (upd g_17 (1629 + 8 * n) 9))] H := hP
          have hD : va_D A [(m_trial, aI cs 17069 ug_10), (md, .inr (9, [.int 0, .ref m_all, .ref m_deeds, .ref m_trial, .int 0, .ref m_hasImage, .ref m_tape, .ref m_key, .ref m_answered, .int 0, .int 0, .int 0, .ref m_goes, .int 0, .ref m_hotOnes, .ref m_indexed, .ref m_isChanged, .int 0, .ref m_valueNow, .int 0, .int (-1), .int 0, .ref m_didSome, .ref m_sizes, .ref m_ends])), (m_all, aI cs 51207 (upd g_17 (1629 + 8 * n) 9))] := hD
          obtain ⟨g_19, eg_20⟩ : ∃ g9 : Nat → Int32, upd g_17 (1629 + 8 * n) 9 = g9 := ⟨_, rfl⟩
          rw [eg_20] at hP hD
          refine lv_aload_n hx hb dX9_room_70 rfl (lv_at hl 3 rfl) ?_
          refine va_get (D := D) (ci := 9) (v := .ref m_all) (C := RX9) (T := TX9) (N := 25) hx hb hu in_X9 hown hK.1 hP 1 rfl rfl 1 (by decide) (hu _ u_1081) (fun _ h9 => h9) rfl dX9_room_71 ?_
          refine lv_iload hx hb dX9_room_74 (lv_at hl 0 rfl) ?_
          refine lv_iconst (v := 1) hx hb dX9_room_76 (by decide) ?_
          refine lv_iadd hx hb dX9_room_77 ?_
          refine tpi (y := nI (1629 + 8 * n + 1)) (nI_add _ _) ?_
          refine lv_iload_n hx hb dX9_room_78 rfl (lv_at hl 2 rfl) ?_
          refine va_iast hx hb hK.1 hP hD hS 2 0 rfl rfl (vp_in_nI (by omega) (by omega)) dX9_room_79 (fun H locs hP hD hS => ?_)
          have hP : va_P D vwCl [(m_trial, aI cs 17069 ug_10), (md, .inr (9, [.int 0, .ref m_all, .ref m_deeds, .ref m_trial, .int 0, .ref m_hasImage, .ref m_tape, .ref m_key, .ref m_answered, .int 0, .int 0, .int 0, .ref m_goes, .int 0, .ref m_hotOnes, .ref m_indexed, .ref m_isChanged, .int 0, .ref m_valueNow, .int 0, .int (-1), .int 0, .ref m_didSome, .ref m_sizes, .ref m_ends])), (m_all, aI cs 51207 (upd g_19 (nI (1629 + 8 * n + 1)).toNatClampNeg (nI n)))] H := hP
          have hD : va_D A [(m_trial, aI cs 17069 ug_10), (md, .inr (9, [.int 0, .ref m_all, .ref m_deeds, .ref m_trial, .int 0, .ref m_hasImage, .ref m_tape, .ref m_key, .ref m_answered, .int 0, .int 0, .int 0, .ref m_goes, .int 0, .ref m_hotOnes, .ref m_indexed, .ref m_isChanged, .int 0, .ref m_valueNow, .int 0, .int (-1), .int 0, .ref m_didSome, .ref m_sizes, .ref m_ends])), (m_all, aI cs 51207 (upd g_19 (nI (1629 + 8 * n + 1)).toNatClampNeg (nI n)))] := hD
          rw [nI_clamp (n := 1629 + 8 * n + 1) (by omega)] at hP hD
          have hP : va_P D vwCl [(m_trial, aI cs 17069 ug_10), (md, .inr (9, [.int 0, .ref m_all, .ref m_deeds, .ref m_trial, .int 0, .ref m_hasImage, .ref m_tape, .ref m_key, .ref m_answered, .int 0, .int 0, .int 0, .ref m_goes, .int 0, .ref m_hotOnes, .ref m_indexed, .ref m_isChanged, .int 0, .ref m_valueNow, .int 0, .int (-1), .int 0, .ref m_didSome, .ref m_sizes, .ref m_ends])), (m_all, aI cs 51207 (upd g_19 (1629 + 8 * n + 1) (nI n)))] H := hP
          have hD : va_D A [(m_trial, aI cs 17069 ug_10), (md, .inr (9, [.int 0, .ref m_all, .ref m_deeds, .ref m_trial, .int 0, .ref m_hasImage, .ref m_tape, .ref m_key, .ref m_answered, .int 0, .int 0, .int 0, .ref m_goes, .int 0, .ref m_hotOnes, .ref m_indexed, .ref m_isChanged, .int 0, .ref m_valueNow, .int 0, .int (-1), .int 0, .ref m_didSome, .ref m_sizes, .ref m_ends])), (m_all, aI cs 51207 (upd g_19 (1629 + 8 * n + 1) (nI n)))] := hD
          obtain ⟨g_21, eg_22⟩ : ∃ g9 : Nat → Int32, upd g_19 (1629 + 8 * n + 1) (nI n) = g9 := ⟨_, rfl⟩
          rw [eg_22] at hP hD
          refine lv_aload_n hx hb dX9_room_80 rfl (lv_at hl 3 rfl) ?_
          refine va_get (D := D) (ci := 9) (v := .ref m_all) (C := RX9) (T := TX9) (N := 25) hx hb hu in_X9 hown hK.1 hP 1 rfl rfl 1 (by decide) (hu _ u_1081) (fun _ h9 => h9) rfl dX9_room_81 ?_
          refine lv_iload hx hb dX9_room_84 (lv_at hl 0 rfl) ?_
          refine lv_iconst (v := 1) hx hb dX9_room_86 (by decide) ?_
          refine lv_iadd hx hb dX9_room_87 ?_
          refine tpi (y := nI (1629 + 8 * n + 1)) (nI_add _ _) ?_
          refine lv_iconst (v := 1) hx hb dX9_room_88 (by decide) ?_
          refine lv_iadd hx hb dX9_room_89 ?_
          refine tpi (y := nI (1629 + 8 * n + 1 + 1)) (nI_add _ _) ?_
          refine lv_iconst (v := 0) hx hb dX9_room_90 (by decide) ?_
          refine va_iast hx hb hK.1 hP hD hS 2 0 rfl rfl (vp_in_nI (by omega) (by omega)) dX9_room_91 (fun H locs hP hD hS => ?_)
          have hP : va_P D vwCl [(m_trial, aI cs 17069 ug_10), (md, .inr (9, [.int 0, .ref m_all, .ref m_deeds, .ref m_trial, .int 0, .ref m_hasImage, .ref m_tape, .ref m_key, .ref m_answered, .int 0, .int 0, .int 0, .ref m_goes, .int 0, .ref m_hotOnes, .ref m_indexed, .ref m_isChanged, .int 0, .ref m_valueNow, .int 0, .int (-1), .int 0, .ref m_didSome, .ref m_sizes, .ref m_ends])), (m_all, aI cs 51207 (upd g_21 (nI (1629 + 8 * n + 1 + 1)).toNatClampNeg 0))] H := hP
          have hD : va_D A [(m_trial, aI cs 17069 ug_10), (md, .inr (9, [.int 0, .ref m_all, .ref m_deeds, .ref m_trial, .int 0, .ref m_hasImage, .ref m_tape, .ref m_key, .ref m_answered, .int 0, .int 0, .int 0, .ref m_goes, .int 0, .ref m_hotOnes, .ref m_indexed, .ref m_isChanged, .int 0, .ref m_valueNow, .int 0, .int (-1), .int 0, .ref m_didSome, .ref m_sizes, .ref m_ends])), (m_all, aI cs 51207 (upd g_21 (nI (1629 + 8 * n + 1 + 1)).toNatClampNeg 0))] := hD
          rw [nI_clamp (n := 1629 + 8 * n + 1 + 1) (by omega)] at hP hD
          have hP : va_P D vwCl [(m_trial, aI cs 17069 ug_10), (md, .inr (9, [.int 0, .ref m_all, .ref m_deeds, .ref m_trial, .int 0, .ref m_hasImage, .ref m_tape, .ref m_key, .ref m_answered, .int 0, .int 0, .int 0, .ref m_goes, .int 0, .ref m_hotOnes, .ref m_indexed, .ref m_isChanged, .int 0, .ref m_valueNow, .int 0, .int (-1), .int 0, .ref m_didSome, .ref m_sizes, .ref m_ends])), (m_all, aI cs 51207 (upd g_21 (1629 + 8 * n + 1 + 1) 0))] H := hP
          have hD : va_D A [(m_trial, aI cs 17069 ug_10), (md, .inr (9, [.int 0, .ref m_all, .ref m_deeds, .ref m_trial, .int 0, .ref m_hasImage, .ref m_tape, .ref m_key, .ref m_answered, .int 0, .int 0, .int 0, .ref m_goes, .int 0, .ref m_hotOnes, .ref m_indexed, .ref m_isChanged, .int 0, .ref m_valueNow, .int 0, .int (-1), .int 0, .ref m_didSome, .ref m_sizes, .ref m_ends])), (m_all, aI cs 51207 (upd g_21 (1629 + 8 * n + 1 + 1) 0))] := hD
          obtain ⟨g_23, eg_24⟩ : ∃ g9 : Nat → Int32, upd g_21 (1629 + 8 * n + 1 + 1) 0 = g9 := ⟨_, rfl⟩
          rw [eg_24] at hP hD
          refine lv_aload_n hx hb dX9_room_92 rfl (lv_at hl 3 rfl) ?_
          refine va_get (D := D) (ci := 9) (v := .ref m_all) (C := RX9) (T := TX9) (N := 25) hx hb hu in_X9 hown hK.1 hP 1 rfl rfl 1 (by decide) (hu _ u_1081) (fun _ h9 => h9) rfl dX9_room_93 ?_
          refine lv_iload hx hb dX9_room_96 (lv_at hl 0 rfl) ?_
          refine lv_iconst (v := 3) hx hb dX9_room_98 (by decide) ?_
          refine lv_iadd hx hb dX9_room_99 ?_
          refine tpi (y := nI (1629 + 8 * n + 3)) (nI_add _ _) ?_
          refine lv_aload_n hx hb dX9_room_100 rfl (lv_at hl 3 rfl) ?_
          refine va_get (D := D) (ci := 9) (v := .ref m_all) (C := RX9) (T := TX9) (N := 25) hx hb hu in_X9 hown hK.1 hP 1 rfl rfl 1 (by decide) (hu _ u_1081) (fun _ h9 => h9) rfl dX9_room_101 ?_
          refine lv_iconst (v := 0) hx hb dX9_room_104 (by decide) ?_
          refine va_iald hx hb hK.1 hP 2 0 rfl rfl (vin_c _ _ rfl) dX9_room_105 ?_
          refine tpi (y := g_23 0) rfl ?_
          refine va_iast hx hb hK.1 hP hD hS 2 0 rfl rfl (vp_in_nI (by omega) (by omega)) dX9_room_106 (fun H locs hP hD hS => ?_)
          have hP : va_P D vwCl [(m_trial, aI cs 17069 ug_10), (md, .inr (9, [.int 0, .ref m_all, .ref m_deeds, .ref m_trial, .int 0, .ref m_hasImage, .ref m_tape, .ref m_key, .ref m_answered, .int 0, .int 0, .int 0, .ref m_goes, .int 0, .ref m_hotOnes, .ref m_indexed, .ref m_isChanged, .int 0, .ref m_valueNow, .int 0, .int (-1), .int 0, .ref m_didSome, .ref m_sizes, .ref m_ends])), (m_all, aI cs 51207 (upd g_23 (nI (1629 + 8 * n + 3)).toNatClampNeg (g_23 0)))] H := hP
          have hD : va_D A [(m_trial, aI cs 17069 ug_10), (md, .inr (9, [.int 0, .ref m_all, .ref m_deeds, .ref m_trial, .int 0, .ref m_hasImage, .ref m_tape, .ref m_key, .ref m_answered, .int 0, .int 0, .int 0, .ref m_goes, .int 0, .ref m_hotOnes, .ref m_indexed, .ref m_isChanged, .int 0, .ref m_valueNow, .int 0, .int (-1), .int 0, .ref m_didSome, .ref m_sizes, .ref m_ends])), (m_all, aI cs 51207 (upd g_23 (nI (1629 + 8 * n + 3)).toNatClampNeg (g_23 0)))] := hD
          rw [nI_clamp (n := 1629 + 8 * n + 3) (by omega)] at hP hD
          have hP : va_P D vwCl [(m_trial, aI cs 17069 ug_10), (md, .inr (9, [.int 0, .ref m_all, .ref m_deeds, .ref m_trial, .int 0, .ref m_hasImage, .ref m_tape, .ref m_key, .ref m_answered, .int 0, .int 0, .int 0, .ref m_goes, .int 0, .ref m_hotOnes, .ref m_indexed, .ref m_isChanged, .int 0, .ref m_valueNow, .int 0, .int (-1), .int 0, .ref m_didSome, .ref m_sizes, .ref m_ends])), (m_all, aI cs 51207 (upd g_23 (1629 + 8 * n + 3) (g_23 0)))] H := hP
          have hD : va_D A [(m_trial, aI cs 17069 ug_10), (md, .inr (9, [.int 0, .ref m_all, .ref m_deeds, .ref m_trial, .int 0, .ref m_hasImage, .ref m_tape, .ref m_key, .ref m_answered, .int 0, .int 0, .int 0, .ref m_goes, .int 0, .ref m_hotOnes, .ref m_indexed, .ref m_isChanged, .int 0, .ref m_valueNow, .int 0, .int (-1), .int 0, .ref m_didSome, .ref m_sizes, .ref m_ends])), (m_all, aI cs 51207 (upd g_23 (1629 + 8 * n + 3) (g_23 0)))] := hD
          obtain ⟨g_25, eg_26⟩ : ∃ g9 : Nat → Int32, upd g_23 (1629 + 8 * n + 3) (g_23 0) = g9 := ⟨_, rfl⟩
          rw [eg_26] at hP hD
          refine lv_aload_n hx hb dX9_room_107 rfl (lv_at hl 3 rfl) ?_
          refine va_get (D := D) (ci := 9) (v := .ref m_all) (C := RX9) (T := TX9) (N := 25) hx hb hu in_X9 hown hK.1 hP 1 rfl rfl 1 (by decide) (hu _ u_1081) (fun _ h9 => h9) rfl dX9_room_108 ?_
          refine lv_iload hx hb dX9_room_111 (lv_at hl 0 rfl) ?_
          refine lv_iconst (v := 4) hx hb dX9_room_113 (by decide) ?_
          refine lv_iadd hx hb dX9_room_114 ?_
          refine tpi (y := nI (1629 + 8 * n + 4)) (nI_add _ _) ?_
          refine lv_iload_n hx hb dX9_room_115 rfl (lv_at hl 1 rfl) ?_
          refine va_iast hx hb hK.1 hP hD hS 2 0 rfl rfl (vp_in_nI (by omega) (by omega)) dX9_room_116 (fun H locs hP hD hS => ?_)
          have hP : va_P D vwCl [(m_trial, aI cs 17069 ug_10), (md, .inr (9, [.int 0, .ref m_all, .ref m_deeds, .ref m_trial, .int 0, .ref m_hasImage, .ref m_tape, .ref m_key, .ref m_answered, .int 0, .int 0, .int 0, .ref m_goes, .int 0, .ref m_hotOnes, .ref m_indexed, .ref m_isChanged, .int 0, .ref m_valueNow, .int 0, .int (-1), .int 0, .ref m_didSome, .ref m_sizes, .ref m_ends])), (m_all, aI cs 51207 (upd g_25 (nI (1629 + 8 * n + 4)).toNatClampNeg (nI q)))] H := hP
          have hD : va_D A [(m_trial, aI cs 17069 ug_10), (md, .inr (9, [.int 0, .ref m_all, .ref m_deeds, .ref m_trial, .int 0, .ref m_hasImage, .ref m_tape, .ref m_key, .ref m_answered, .int 0, .int 0, .int 0, .ref m_goes, .int 0, .ref m_hotOnes, .ref m_indexed, .ref m_isChanged, .int 0, .ref m_valueNow, .int 0, .int (-1), .int 0, .ref m_didSome, .ref m_sizes, .ref m_ends])), (m_all, aI cs 51207 (upd g_25 (nI (1629 + 8 * n + 4)).toNatClampNeg (nI q)))] := hD
          rw [nI_clamp (n := 1629 + 8 * n + 4) (by omega)] at hP hD
          have hP : va_P D vwCl [(m_trial, aI cs 17069 ug_10), (md, .inr (9, [.int 0, .ref m_all, .ref m_deeds, .ref m_trial, .int 0, .ref m_hasImage, .ref m_tape, .ref m_key, .ref m_answered, .int 0, .int 0, .int 0, .ref m_goes, .int 0, .ref m_hotOnes, .ref m_indexed, .ref m_isChanged, .int 0, .ref m_valueNow, .int 0, .int (-1), .int 0, .ref m_didSome, .ref m_sizes, .ref m_ends])), (m_all, aI cs 51207 (upd g_25 (1629 + 8 * n + 4) (nI q)))] H := hP
          have hD : va_D A [(m_trial, aI cs 17069 ug_10), (md, .inr (9, [.int 0, .ref m_all, .ref m_deeds, .ref m_trial, .int 0, .ref m_hasImage, .ref m_tape, .ref m_key, .ref m_answered, .int 0, .int 0, .int 0, .ref m_goes, .int 0, .ref m_hotOnes, .ref m_indexed, .ref m_isChanged, .int 0, .ref m_valueNow, .int 0, .int (-1), .int 0, .ref m_didSome, .ref m_sizes, .ref m_ends])), (m_all, aI cs 51207 (upd g_25 (1629 + 8 * n + 4) (nI q)))] := hD
          obtain ⟨g_27, eg_28⟩ : ∃ g9 : Nat → Int32, upd g_25 (1629 + 8 * n + 4) (nI q) = g9 := ⟨_, rfl⟩
          rw [eg_28] at hP hD
          refine lv_aload_n hx hb dX9_room_117 rfl (lv_at hl 3 rfl) ?_
          refine va_get (D := D) (ci := 9) (v := .ref m_all) (C := RX9) (T := TX9) (N := 25) hx hb hu in_X9 hown hK.1 hP 1 rfl rfl 1 (by decide) (hu _ u_1081) (fun _ h9 => h9) rfl dX9_room_118 ?_
          refine lv_iload hx hb dX9_room_121 (lv_at hl 0 rfl) ?_
          refine lv_iconst (v := 5) hx hb dX9_room_123 (by decide) ?_
          refine lv_iadd hx hb dX9_room_124 ?_
          refine tpi (y := nI (1629 + 8 * n + 5)) (nI_add _ _) ?_
          refine lv_aload_n hx hb dX9_room_125 rfl (lv_at hl 3 rfl) ?_
          refine va_get (D := D) (ci := 9) (v := .ref m_all) (C := RX9) (T := TX9) (N := 25) hx hb hu in_X9 hown hK.1 hP 1 rfl rfl 1 (by decide) (hu _ u_1081) (fun _ h9 => h9) rfl dX9_room_126 ?_
          refine lv_bipush (v := 7) hx hb dX9_room_129 (by decide) ?_
          refine lv_iload_n hx hb dX9_room_131 rfl (lv_at hl 1 rfl) ?_
          refine lv_iadd hx hb dX9_room_132 ?_
          refine tpi (y := nI (7 + q)) (nI_add _ _) ?_
          refine va_iald hx hb hK.1 hP 2 0 rfl rfl (vp_in_nI (by omega) (by omega)) dX9_room_133 ?_
          refine tpi (y := g_27 (7 + q)) (congrArg g_27 (nI_clamp (by omega))) ?_
          refine va_iast hx hb hK.1 hP hD hS 2 0 rfl rfl (vp_in_nI (by omega) (by omega)) dX9_room_134 (fun H locs hP hD hS => ?_)
          have hP : va_P D vwCl [(m_trial, aI cs 17069 ug_10), (md, .inr (9, [.int 0, .ref m_all, .ref m_deeds, .ref m_trial, .int 0, .ref m_hasImage, .ref m_tape, .ref m_key, .ref m_answered, .int 0, .int 0, .int 0, .ref m_goes, .int 0, .ref m_hotOnes, .ref m_indexed, .ref m_isChanged, .int 0, .ref m_valueNow, .int 0, .int (-1), .int 0, .ref m_didSome, .ref m_sizes, .ref m_ends])), (m_all, aI cs 51207 (upd g_27 (nI (1629 + 8 * n + 5)).toNatClampNeg (g_27 (7 + q))))] H := hP
          have hD : va_D A [(m_trial, aI cs 17069 ug_10), (md, .inr (9, [.int 0, .ref m_all, .ref m_deeds, .ref m_trial, .int 0, .ref m_hasImage, .ref m_tape, .ref m_key, .ref m_answered, .int 0, .int 0, .int 0, .ref m_goes, .int 0, .ref m_hotOnes, .ref m_indexed, .ref m_isChanged, .int 0, .ref m_valueNow, .int 0, .int (-1), .int 0, .ref m_didSome, .ref m_sizes, .ref m_ends])), (m_all, aI cs 51207 (upd g_27 (nI (1629 + 8 * n + 5)).toNatClampNeg (g_27 (7 + q))))] := hD
          rw [nI_clamp (n := 1629 + 8 * n + 5) (by omega)] at hP hD
          have hP : va_P D vwCl [(m_trial, aI cs 17069 ug_10), (md, .inr (9, [.int 0, .ref m_all, .ref m_deeds, .ref m_trial, .int 0, .ref m_hasImage, .ref m_tape, .ref m_key, .ref m_answered, .int 0, .int 0, .int 0, .ref m_goes, .int 0, .ref m_hotOnes, .ref m_indexed, .ref m_isChanged, .int 0, .ref m_valueNow, .int 0, .int (-1), .int 0, .ref m_didSome, .ref m_sizes, .ref m_ends])), (m_all, aI cs 51207 (upd g_27 (1629 + 8 * n + 5) (g_27 (7 + q))))] H := hP
          have hD : va_D A [(m_trial, aI cs 17069 ug_10), (md, .inr (9, [.int 0, .ref m_all, .ref m_deeds, .ref m_trial, .int 0, .ref m_hasImage, .ref m_tape, .ref m_key, .ref m_answered, .int 0, .int 0, .int 0, .ref m_goes, .int 0, .ref m_hotOnes, .ref m_indexed, .ref m_isChanged, .int 0, .ref m_valueNow, .int 0, .int (-1), .int 0, .ref m_didSome, .ref m_sizes, .ref m_ends])), (m_all, aI cs 51207 (upd g_27 (1629 + 8 * n + 5) (g_27 (7 + q))))] := hD
          obtain ⟨g_29, eg_30⟩ : ∃ g9 : Nat → Int32, upd g_27 (1629 + 8 * n + 5) (g_27 (7 + q)) = g9 := ⟨_, rfl⟩
          rw [eg_30] at hP hD
          refine lv_aload_n hx hb dX9_room_135 rfl (lv_at hl 3 rfl) ?_
          refine va_get (D := D) (ci := 9) (v := .ref m_all) (C := RX9) (T := TX9) (N := 25) hx hb hu in_X9 hown hK.1 hP 1 rfl rfl 1 (by decide) (hu _ u_1081) (fun _ h9 => h9) rfl dX9_room_136 ?_
          refine lv_iload hx hb dX9_room_139 (lv_at hl 0 rfl) ?_
          refine lv_bipush (v := 6) hx hb dX9_room_141 (by decide) ?_
          refine lv_iadd hx hb dX9_room_143 ?_
          refine tpi (y := nI (1629 + 8 * n + 6)) (nI_add _ _) ?_
          refine lv_iload_n hx hb dX9_room_144 rfl (lv_at hl 4 rfl) ?_
          refine va_iast hx hb hK.1 hP hD hS 2 0 rfl rfl (vp_in_nI (by omega) (by omega)) dX9_room_145 (fun H locs hP hD hS => ?_)
          have hP : va_P D vwCl [(m_trial, aI cs 17069 ug_10), (md, .inr (9, [.int 0, .ref m_all, .ref m_deeds, .ref m_trial, .int 0, .ref m_hasImage, .ref m_tape, .ref m_key, .ref m_answered, .int 0, .int 0, .int 0, .ref m_goes, .int 0, .ref m_hotOnes, .ref m_indexed, .ref m_isChanged, .int 0, .ref m_valueNow, .int 0, .int (-1), .int 0, .ref m_didSome, .ref m_sizes, .ref m_ends])), (m_all, aI cs 51207 (upd g_29 (nI (1629 + 8 * n + 6)).toNatClampNeg (nI zz)))] H := hP
          have hD : va_D A [(m_trial, aI cs 17069 ug_10), (md, .inr (9, [.int 0, .ref m_all, .ref m_deeds, .ref m_trial, .int 0, .ref m_hasImage, .ref m_tape, .ref m_key, .ref m_answered, .int 0, .int 0, .int 0, .ref m_goes, .int 0, .ref m_hotOnes, .ref m_indexed, .ref m_isChanged, .int 0, .ref m_valueNow, .int 0, .int (-1), .int 0, .ref m_didSome, .ref m_sizes, .ref m_ends])), (m_all, aI cs 51207 (upd g_29 (nI (1629 + 8 * n + 6)).toNatClampNeg (nI zz)))] := hD
          rw [nI_clamp (n := 1629 + 8 * n + 6) (by omega)] at hP hD
          have hP : va_P D vwCl [(m_trial, aI cs 17069 ug_10), (md, .inr (9, [.int 0, .ref m_all, .ref m_deeds, .ref m_trial, .int 0, .ref m_hasImage, .ref m_tape, .ref m_key, .ref m_answered, .int 0, .int 0, .int 0, .ref m_goes, .int 0, .ref m_hotOnes, .ref m_indexed, .ref m_isChanged, .int 0, .ref m_valueNow, .int 0, .int (-1), .int 0, .ref m_didSome, .ref m_sizes, .ref m_ends])), (m_all, aI cs 51207 (upd g_29 (1629 + 8 * n + 6) (nI zz)))] H := hP
          have hD : va_D A [(m_trial, aI cs 17069 ug_10), (md, .inr (9, [.int 0, .ref m_all, .ref m_deeds, .ref m_trial, .int 0, .ref m_hasImage, .ref m_tape, .ref m_key, .ref m_answered, .int 0, .int 0, .int 0, .ref m_goes, .int 0, .ref m_hotOnes, .ref m_indexed, .ref m_isChanged, .int 0, .ref m_valueNow, .int 0, .int (-1), .int 0, .ref m_didSome, .ref m_sizes, .ref m_ends])), (m_all, aI cs 51207 (upd g_29 (1629 + 8 * n + 6) (nI zz)))] := hD
          obtain ⟨g_31, eg_32⟩ : ∃ g9 : Nat → Int32, upd g_29 (1629 + 8 * n + 6) (nI zz) = g9 := ⟨_, rfl⟩
          rw [eg_32] at hP hD
          refine lv_aload_n hx hb dX9_room_146 rfl (lv_at hl 3 rfl) ?_
          refine va_get (D := D) (ci := 9) (v := .ref m_all) (C := RX9) (T := TX9) (N := 25) hx hb hu in_X9 hown hK.1 hP 1 rfl rfl 1 (by decide) (hu _ u_1081) (fun _ h9 => h9) rfl dX9_room_147 ?_
          refine lv_iload hx hb dX9_room_150 (lv_at hl 0 rfl) ?_
          refine lv_bipush (v := 7) hx hb dX9_room_152 (by decide) ?_
          refine lv_iadd hx hb dX9_room_154 ?_
          refine tpi (y := nI (1629 + 8 * n + 7)) (nI_add _ _) ?_
          refine lv_iconst (v := 0) hx hb dX9_room_155 (by decide) ?_
          refine va_iast hx hb hK.1 hP hD hS 2 0 rfl rfl (vp_in_nI (by omega) (by omega)) dX9_room_156 (fun H locs hP hD hS => ?_)
          have hP : va_P D vwCl [(m_trial, aI cs 17069 ug_10), (md, .inr (9, [.int 0, .ref m_all, .ref m_deeds, .ref m_trial, .int 0, .ref m_hasImage, .ref m_tape, .ref m_key, .ref m_answered, .int 0, .int 0, .int 0, .ref m_goes, .int 0, .ref m_hotOnes, .ref m_indexed, .ref m_isChanged, .int 0, .ref m_valueNow, .int 0, .int (-1), .int 0, .ref m_didSome, .ref m_sizes, .ref m_ends])), (m_all, aI cs 51207 (upd g_31 (nI (1629 + 8 * n + 7)).toNatClampNeg 0))] H := hP
          have hD : va_D A [(m_trial, aI cs 17069 ug_10), (md, .inr (9, [.int 0, .ref m_all, .ref m_deeds, .ref m_trial, .int 0, .ref m_hasImage, .ref m_tape, .ref m_key, .ref m_answered, .int 0, .int 0, .int 0, .ref m_goes, .int 0, .ref m_hotOnes, .ref m_indexed, .ref m_isChanged, .int 0, .ref m_valueNow, .int 0, .int (-1), .int 0, .ref m_didSome, .ref m_sizes, .ref m_ends])), (m_all, aI cs 51207 (upd g_31 (nI (1629 + 8 * n + 7)).toNatClampNeg 0))] := hD
          rw [nI_clamp (n := 1629 + 8 * n + 7) (by omega)] at hP hD
          have hP : va_P D vwCl [(m_trial, aI cs 17069 ug_10), (md, .inr (9, [.int 0, .ref m_all, .ref m_deeds, .ref m_trial, .int 0, .ref m_hasImage, .ref m_tape, .ref m_key, .ref m_answered, .int 0, .int 0, .int 0, .ref m_goes, .int 0, .ref m_hotOnes, .ref m_indexed, .ref m_isChanged, .int 0, .ref m_valueNow, .int 0, .int (-1), .int 0, .ref m_didSome, .ref m_sizes, .ref m_ends])), (m_all, aI cs 51207 (upd g_31 (1629 + 8 * n + 7) 0))] H := hP
          have hD : va_D A [(m_trial, aI cs 17069 ug_10), (md, .inr (9, [.int 0, .ref m_all, .ref m_deeds, .ref m_trial, .int 0, .ref m_hasImage, .ref m_tape, .ref m_key, .ref m_answered, .int 0, .int 0, .int 0, .ref m_goes, .int 0, .ref m_hotOnes, .ref m_indexed, .ref m_isChanged, .int 0, .ref m_valueNow, .int 0, .int (-1), .int 0, .ref m_didSome, .ref m_sizes, .ref m_ends])), (m_all, aI cs 51207 (upd g_31 (1629 + 8 * n + 7) 0))] := hD
          obtain ⟨g_33, eg_34⟩ : ∃ g9 : Nat → Int32, upd g_31 (1629 + 8 * n + 7) 0 = g9 := ⟨_, rfl⟩
          rw [eg_34] at hP hD
          refine lv_aload_n hx hb dX9_room_157 rfl (lv_at hl 3 rfl) ?_
          refine va_get (D := D) (ci := 9) (v := .ref m_all) (C := RX9) (T := TX9) (N := 25) hx hb hu in_X9 hown hK.1 hP 1 rfl rfl 1 (by decide) (hu _ u_1081) (fun _ h9 => h9) rfl dX9_room_158 ?_
          refine lv_sipush (v := 1628) hx hb dX9_room_161 (by decide) ?_
          refine lv_dup2_11 hx hb dX9_room_164 rfl rfl ?_
          refine va_iald hx hb hK.1 hP 2 0 rfl rfl (vin_c _ _ rfl) dX9_room_165 ?_
          refine tpi (y := nI n) (by show g_33 1628 = nI n; rw [← eg_34, pk_un (by omega), ← eg_32, pk_un (by omega), ← eg_30, pk_un (by omega), ← eg_28, pk_un (by omega), ← eg_26, pk_un (by omega), ← eg_24, pk_un (by omega), ← eg_22, pk_un (by omega), ← eg_20, pk_un (by omega), ← eg_18, pk_un (by omega), hNn]) ?_
          refine lv_iconst (v := 1) hx hb dX9_room_166 (by decide) ?_
          refine lv_iadd hx hb dX9_room_167 ?_
          refine tpi (y := nI (n + 1)) (nI_add _ _) ?_
          refine va_iast hx hb hK.1 hP hD hS 2 0 rfl rfl (vin_c _ _ rfl) dX9_room_168 (fun H locs hP hD hS => ?_)
          have hP : va_P D vwCl [(m_trial, aI cs 17069 ug_10), (md, .inr (9, [.int 0, .ref m_all, .ref m_deeds, .ref m_trial, .int 0, .ref m_hasImage, .ref m_tape, .ref m_key, .ref m_answered, .int 0, .int 0, .int 0, .ref m_goes, .int 0, .ref m_hotOnes, .ref m_indexed, .ref m_isChanged, .int 0, .ref m_valueNow, .int 0, .int (-1), .int 0, .ref m_didSome, .ref m_sizes, .ref m_ends])), (m_all, aI cs 51207 (upd g_33 (1628 : Int32).toNatClampNeg (nI (n + 1))))] H := hP
          have hD : va_D A [(m_trial, aI cs 17069 ug_10), (md, .inr (9, [.int 0, .ref m_all, .ref m_deeds, .ref m_trial, .int 0, .ref m_hasImage, .ref m_tape, .ref m_key, .ref m_answered, .int 0, .int 0, .int 0, .ref m_goes, .int 0, .ref m_hotOnes, .ref m_indexed, .ref m_isChanged, .int 0, .ref m_valueNow, .int 0, .int (-1), .int 0, .ref m_didSome, .ref m_sizes, .ref m_ends])), (m_all, aI cs 51207 (upd g_33 (1628 : Int32).toNatClampNeg (nI (n + 1))))] := hD
          have hP : va_P D vwCl [(m_trial, aI cs 17069 ug_10), (md, .inr (9, [.int 0, .ref m_all, .ref m_deeds, .ref m_trial, .int 0, .ref m_hasImage, .ref m_tape, .ref m_key, .ref m_answered, .int 0, .int 0, .int 0, .ref m_goes, .int 0, .ref m_hotOnes, .ref m_indexed, .ref m_isChanged, .int 0, .ref m_valueNow, .int 0, .int (-1), .int 0, .ref m_didSome, .ref m_sizes, .ref m_ends])), (m_all, aI cs 51207 (upd g_33 1628 (nI (n + 1))))] H := hP
          have hD : va_D A [(m_trial, aI cs 17069 ug_10), (md, .inr (9, [.int 0, .ref m_all, .ref m_deeds, .ref m_trial, .int 0, .ref m_hasImage, .ref m_tape, .ref m_key, .ref m_answered, .int 0, .int 0, .int 0, .ref m_goes, .int 0, .ref m_hotOnes, .ref m_indexed, .ref m_isChanged, .int 0, .ref m_valueNow, .int 0, .int (-1), .int 0, .ref m_didSome, .ref m_sizes, .ref m_ends])), (m_all, aI cs 51207 (upd g_33 1628 (nI (n + 1))))] := hD
          obtain ⟨g_35, eg_36⟩ : ∃ g9 : Nat → Int32, upd g_33 1628 (nI (n + 1)) = g9 := ⟨_, rfl⟩
          rw [eg_36] at hP hD
          refine lv_aload_n hx hb dX9_room_169 rfl (lv_at hl 3 rfl) ?_
          refine va_get (D := D) (ci := 9) (v := .ref m_all) (C := RX9) (T := TX9) (N := 25) hx hb hu in_X9 hown hK.1 hP 1 rfl rfl 1 (by decide) (hu _ u_1081) (fun _ h9 => h9) rfl dX9_room_170 ?_
          refine lv_bipush (v := 7) hx hb dX9_room_173 (by decide) ?_
          refine lv_iload_n hx hb dX9_room_175 rfl (lv_at hl 1 rfl) ?_
          refine lv_iadd hx hb dX9_room_176 ?_
          refine tpi (y := nI (7 + q)) (nI_add _ _) ?_
          refine lv_dup2_11 hx hb dX9_room_177 rfl rfl ?_
          refine va_iald hx hb hK.1 hP 2 0 rfl rfl (vp_in_nI (by omega) (by omega)) dX9_room_178 ?_
          refine tpi (y := fm (7 + q)) ((congrArg g_35 (nI_clamp (n := 7 + q) (by omega))).trans (by rw [← eg_36, pk_un (by omega), ← eg_34, pk_un (by omega), ← eg_32, pk_un (by omega), ← eg_30, pk_un (by omega), ← eg_28, pk_un (by omega), ← eg_26, pk_un (by omega), ← eg_24, pk_un (by omega), ← eg_22, pk_un (by omega), ← eg_20, pk_un (by omega), ← eg_18, pk_un (by omega)])) ?_
          refine lv_iload_n hx hb dX9_room_179 rfl (lv_at hl 4 rfl) ?_
          refine lv_iadd hx hb dX9_room_180 ?_
          refine va_iast hx hb hK.1 hP hD hS 2 0 rfl rfl (vp_in_nI (by omega) (by omega)) dX9_room_181 (fun H locs hP hD hS => ?_)
          have hP : va_P D vwCl [(m_trial, aI cs 17069 ug_10), (md, .inr (9, [.int 0, .ref m_all, .ref m_deeds, .ref m_trial, .int 0, .ref m_hasImage, .ref m_tape, .ref m_key, .ref m_answered, .int 0, .int 0, .int 0, .ref m_goes, .int 0, .ref m_hotOnes, .ref m_indexed, .ref m_isChanged, .int 0, .ref m_valueNow, .int 0, .int (-1), .int 0, .ref m_didSome, .ref m_sizes, .ref m_ends])), (m_all, aI cs 51207 (upd g_35 (nI (7 + q)).toNatClampNeg ((fm (7 + q)) + (nI zz))))] H := hP
          have hD : va_D A [(m_trial, aI cs 17069 ug_10), (md, .inr (9, [.int 0, .ref m_all, .ref m_deeds, .ref m_trial, .int 0, .ref m_hasImage, .ref m_tape, .ref m_key, .ref m_answered, .int 0, .int 0, .int 0, .ref m_goes, .int 0, .ref m_hotOnes, .ref m_indexed, .ref m_isChanged, .int 0, .ref m_valueNow, .int 0, .int (-1), .int 0, .ref m_didSome, .ref m_sizes, .ref m_ends])), (m_all, aI cs 51207 (upd g_35 (nI (7 + q)).toNatClampNeg ((fm (7 + q)) + (nI zz))))] := hD
          rw [nI_clamp (n := 7 + q) (by omega)] at hP hD
          have hP : va_P D vwCl [(m_trial, aI cs 17069 ug_10), (md, .inr (9, [.int 0, .ref m_all, .ref m_deeds, .ref m_trial, .int 0, .ref m_hasImage, .ref m_tape, .ref m_key, .ref m_answered, .int 0, .int 0, .int 0, .ref m_goes, .int 0, .ref m_hotOnes, .ref m_indexed, .ref m_isChanged, .int 0, .ref m_valueNow, .int 0, .int (-1), .int 0, .ref m_didSome, .ref m_sizes, .ref m_ends])), (m_all, aI cs 51207 (upd g_35 (7 + q) ((fm (7 + q)) + (nI zz))))] H := hP
          have hD : va_D A [(m_trial, aI cs 17069 ug_10), (md, .inr (9, [.int 0, .ref m_all, .ref m_deeds, .ref m_trial, .int 0, .ref m_hasImage, .ref m_tape, .ref m_key, .ref m_answered, .int 0, .int 0, .int 0, .ref m_goes, .int 0, .ref m_hotOnes, .ref m_indexed, .ref m_isChanged, .int 0, .ref m_valueNow, .int 0, .int (-1), .int 0, .ref m_didSome, .ref m_sizes, .ref m_ends])), (m_all, aI cs 51207 (upd g_35 (7 + q) ((fm (7 + q)) + (nI zz))))] := hD
          obtain ⟨g_37, eg_38⟩ : ∃ g9 : Nat → Int32, upd g_35 (7 + q) ((fm (7 + q)) + (nI zz)) = g9 := ⟨_, rfl⟩
          rw [eg_38] at hP hD
          refine lv_aload_n hx hb dX9_room_182 rfl (lv_at hl 3 rfl) ?_
          refine va_get (D := D) (ci := 9) (v := .ref m_all) (C := RX9) (T := TX9) (N := 25) hx hb hu in_X9 hown hK.1 hP 1 rfl rfl 1 (by decide) (hu _ u_1081) (fun _ h9 => h9) rfl dX9_room_183 ?_
          refine lv_iconst (v := 1) hx hb dX9_room_186 (by decide) ?_
          refine lv_iload_n hx hb dX9_room_187 rfl (lv_at hl 1 rfl) ?_
          refine va_iast hx hb hK.1 hP hD hS 2 0 rfl rfl (vin_c _ _ rfl) dX9_room_188 (fun H locs hP hD hS => ?_)
          have hP : va_P D vwCl [(m_trial, aI cs 17069 ug_10), (md, .inr (9, [.int 0, .ref m_all, .ref m_deeds, .ref m_trial, .int 0, .ref m_hasImage, .ref m_tape, .ref m_key, .ref m_answered, .int 0, .int 0, .int 0, .ref m_goes, .int 0, .ref m_hotOnes, .ref m_indexed, .ref m_isChanged, .int 0, .ref m_valueNow, .int 0, .int (-1), .int 0, .ref m_didSome, .ref m_sizes, .ref m_ends])), (m_all, aI cs 51207 (upd g_37 (1 : Int32).toNatClampNeg (nI q)))] H := hP
          have hD : va_D A [(m_trial, aI cs 17069 ug_10), (md, .inr (9, [.int 0, .ref m_all, .ref m_deeds, .ref m_trial, .int 0, .ref m_hasImage, .ref m_tape, .ref m_key, .ref m_answered, .int 0, .int 0, .int 0, .ref m_goes, .int 0, .ref m_hotOnes, .ref m_indexed, .ref m_isChanged, .int 0, .ref m_valueNow, .int 0, .int (-1), .int 0, .ref m_didSome, .ref m_sizes, .ref m_ends])), (m_all, aI cs 51207 (upd g_37 (1 : Int32).toNatClampNeg (nI q)))] := hD
          have hP : va_P D vwCl [(m_trial, aI cs 17069 ug_10), (md, .inr (9, [.int 0, .ref m_all, .ref m_deeds, .ref m_trial, .int 0, .ref m_hasImage, .ref m_tape, .ref m_key, .ref m_answered, .int 0, .int 0, .int 0, .ref m_goes, .int 0, .ref m_hotOnes, .ref m_indexed, .ref m_isChanged, .int 0, .ref m_valueNow, .int 0, .int (-1), .int 0, .ref m_didSome, .ref m_sizes, .ref m_ends])), (m_all, aI cs 51207 (upd g_37 1 (nI q)))] H := hP
          have hD : va_D A [(m_trial, aI cs 17069 ug_10), (md, .inr (9, [.int 0, .ref m_all, .ref m_deeds, .ref m_trial, .int 0, .ref m_hasImage, .ref m_tape, .ref m_key, .ref m_answered, .int 0, .int 0, .int 0, .ref m_goes, .int 0, .ref m_hotOnes, .ref m_indexed, .ref m_isChanged, .int 0, .ref m_valueNow, .int 0, .int (-1), .int 0, .ref m_didSome, .ref m_sizes, .ref m_ends])), (m_all, aI cs 51207 (upd g_37 1 (nI q)))] := hD
          obtain ⟨g_39, eg_40⟩ : ∃ g9 : Nat → Int32, upd g_37 1 (nI q) = g9 := ⟨_, rfl⟩
          rw [eg_40] at hP hD
          refine lv_iinc (v := nI (n + 1)) (lv' := [(2, .int (nI (n + 1))), (4, .int (nI (1629 + 8 * n))), (3, .int (nI q)), (0, .ref md), (1, .int (nI zz))]) hx hb dX9_room_189 hl (k := 2) rfl (nI_1 _) (by decide) rfl (fun ls hl => ?_)
          have hcame : came fm g_39 n q zz := by
            refine ⟨fun j h0 h1 h7 h28 hb => ?_, ?_, ?_, ?_, ?_, ?_⟩
            · rw [← eg_40, pk_un (by omega), ← eg_38, pk_un (by omega), ← eg_36, pk_un (by omega), ← eg_34, pk_un (by omega), ← eg_32, pk_un (by omega), ← eg_30, pk_un (by omega), ← eg_28, pk_un (by omega), ← eg_26, pk_un (by omega), ← eg_24, pk_un (by omega), ← eg_22, pk_un (by omega), ← eg_20, pk_un (by omega), ← eg_18, pk_un (by omega)]
            · rw [← eg_40, pk_us]
            · rw [← eg_40, pk_un (by omega), ← eg_38, pk_us]
            · rw [← eg_40, pk_un (by omega), ← eg_38, pk_un (by omega), ← eg_36, pk_us]
            · rw [← eg_40, pk_un (by omega), ← eg_38, pk_un (by omega), ← eg_36, pk_un (by omega), ← eg_34, pk_un (by omega), ← eg_32, pk_un (by omega), ← eg_30, pk_un (by omega), ← eg_28, pk_us]
            · rw [← eg_40, pk_un (by omega), ← eg_38, pk_un (by omega), ← eg_36, pk_un (by omega), ← eg_34, pk_un (by omega), ← eg_32, pk_us]
          have hE1 := came_E hcame (by omega) hE (by rw [hW]; exact hbd.2.1)
          have hS1 := came_sum hcame (by omega) hSum
          have h21 : g_39 2 = 0 := (came_k hcame (by omega) 2 (by omega) (by omega) (by omega) (by omega)).trans h2
          have h31 : g_39 3 = 0 := (came_k hcame (by omega) 3 (by omega) (by omega) (by omega) (by omega)).trans h3
          have her1 : ∀ j, j < 24 → g_39 (31 + j) = 0 := fun j hj => (came_k hcame (by omega) (31 + j) (by omega) (by omega) (by omega) (by omega)).trans (her j hj)
          have hm1 : ∀ k, k < n + 1 → (stn zz k).1 < 23 := fun k hk => by rcases Nat.lt_or_ge k n with a | a; (exact hm k a); (obtain rfl : k = n := (by omega)); rw [hst]; exact hc
          by_cases hfull : w + zz + zz ≤ 64
          · have hL1 : 0 < w + zz → g_39 1 = nI q := fun _ => hcame.2.1
            refine lv_aload_n hx hb dX9_room_192 rfl (lv_at hl 3 rfl) ?_
            refine lv_iload_n hx hb dX9_room_193 rfl (lv_at hl 4 rfl) ?_
            refine kV_i (ci := 9) (As := [.int (nI zz)]) (rest := []) (wc := [(md, .inr (9, [.int 0, .ref m_all, .ref m_deeds, .ref m_trial, .int 0, .ref m_hasImage, .ref m_tape, .ref m_key, .ref m_answered, .int 0, .int 0, .int 0, .ref m_goes, .int 0, .ref m_hotOnes, .ref m_indexed, .ref m_isChanged, .int 0, .ref m_valueNow, .int 0, .int (-1), .int 0, .ref m_didSome, .ref m_sizes, .ref m_ends])), (m_all, aI cs 51207 g_39)]) (wr := [(m_trial, aI cs 17069 ug_10)]) hx hb hml hown hu hK hP hD hS hA hl.1 (c_X9_makesPlace_q l D cs H.size md m_all m_deeds m_trial m_hasImage m_tape m_key m_answered m_goes m_hotOnes m_indexed m_isChanged m_valueNow m_didSome m_sizes m_ends 0 0 0 zz q g_39 (wup we q (we q + zz)) hE1 (by omega) (fun j hj => by rw [wup_n (by omega)]; exact hF j hj) (fun j h1 h2 => by rw [wup_n (by omega)]; exact hG j h1 h2) (by rw [wup_s, hW]; omega) (fun _ => hcame.2.1) (by omega) h21 her1) (gV u_1180 u_1182 u_11 u_76 u_1183) hd_X9_makesPlace ⟨(Nat.le_of_ble_eq_true rfl), (Nat.le_of_ble_eq_true rfl)⟩ [1, 2] [0] rfl rfl rfl rfl (by decide) rfl 0 rfl rfl rfl (Nat.le_of_ble_eq_true rfl) dX9_room_194 ⟨(Nat.le_of_ble_eq_true rfl), (Nat.le_of_ble_eq_true rfl)⟩ (fun r_41 ut_42 H locs hw_43 hP hD hS => ?_)
            have hP : va_P D vwCl [(m_trial, aI cs 17069 ug_10), (md, .inr (9, [.int 0, .ref m_all, .ref m_deeds, .ref m_trial, .int 0, .ref m_hasImage, .ref m_tape, .ref m_key, .ref m_answered, .int 0, .int 0, .int 0, .ref m_goes, .int 0, .ref m_hotOnes, .ref m_indexed, .ref m_isChanged, .int 0, .ref m_valueNow, .int 0, .int (-1), .int 0, .ref m_didSome, .ref m_sizes, .ref m_ends])), (m_all, aI cs 51207 g_39)] H := hP
            have hD : va_D A [(m_trial, aI cs 17069 ug_10), (md, .inr (9, [.int 0, .ref m_all, .ref m_deeds, .ref m_trial, .int 0, .ref m_hasImage, .ref m_tape, .ref m_key, .ref m_answered, .int 0, .int 0, .int 0, .ref m_goes, .int 0, .ref m_hotOnes, .ref m_indexed, .ref m_isChanged, .int 0, .ref m_valueNow, .int 0, .int (-1), .int 0, .ref m_didSome, .ref m_sizes, .ref m_ends])), (m_all, aI cs 51207 g_39)] := hD
            have er_44 := hw_43
            subst er_44
            refine lv_istore_n (lv' := [(3, .int (nI q)), (2, .int (nI (n + 1))), (4, .int (nI (1629 + 8 * n))), (0, .ref md), (1, .int (nI zz))]) hx hb dX9_room_197 rfl hl (by decide) rfl (fun ls hl => ?_)
            refine lv_goto (tgt := 27) hx hb dX9_room_198 (by decide) ?_
            exact ih (n + 1) q (r + 1) (w + zz) g_39 (wup we q (we q + zz)) (nI q) (by omega) (stn_in hst hfull) (by omega) (by omega) hE1 (fun j hj => by rw [wup_n (by omega)]; exact hF j hj) (by rw [wup_s, hW]) (fun j h1 h2 => by rw [wup_n (by omega)]; exact hG j h1 h2) (fun _ => hcame.2.1) h21 h31 her1 hcame.2.2.2.1 hS1 hm1 ⟨fun _ => rfl, fun h => absurd h (by omega)⟩ H locs (hP.sub [0, 1, 2] rfl) (hD.sub [0, 1, 2] rfl rfl) hS ls (lv_sub hl [0, 1, 3, 4] rfl)
          · rcases Nat.lt_or_ge (q + 1) 23 with hc2 | hc2
            · refine lv_aload_n hx hb dX9_room_192 rfl (lv_at hl 3 rfl) ?_
              refine lv_iload_n hx hb dX9_room_193 rfl (lv_at hl 4 rfl) ?_
              refine kV_i (ci := 9) (As := [.int (nI zz)]) (rest := []) (wc := [(md, .inr (9, [.int 0, .ref m_all, .ref m_deeds, .ref m_trial, .int 0, .ref m_hasImage, .ref m_tape, .ref m_key, .ref m_answered, .int 0, .int 0, .int 0, .ref m_goes, .int 0, .ref m_hotOnes, .ref m_indexed, .ref m_isChanged, .int 0, .ref m_valueNow, .int 0, .int (-1), .int 0, .ref m_didSome, .ref m_sizes, .ref m_ends])), (m_all, aI cs 51207 g_39)]) (wr := [(m_trial, aI cs 17069 ug_10)]) hx hb hml hown hu hK hP hD hS hA hl.1 (c_X9_makesPlace_q l D cs H.size md m_all m_deeds m_trial m_hasImage m_tape m_key m_answered m_goes m_hotOnes m_indexed m_isChanged m_valueNow m_didSome m_sizes m_ends 0 0 0 zz (q + 1) g_39 (wup we q (we q + zz)) hE1 (by omega) (fun j hj => by rcases Nat.lt_or_ge j q with a | a; (rw [wup_n (by omega)]; exact hF j a); (obtain rfl : j = q := (by omega)); rw [wup_s, hW]; omega) (fun j h1 h2 => by rw [wup_n (by omega)]; exact hG j (by omega) h2) (by rw [wup_n (by omega), hG _ (by omega) (by omega)]; omega) (fun h => absurd h (by rw [wup_n (by omega), hG _ (by omega) (by omega)]; omega)) (by omega) h21 her1) (gV u_1180 u_1182 u_11 u_76 u_1183) hd_X9_makesPlace ⟨(Nat.le_of_ble_eq_true rfl), (Nat.le_of_ble_eq_true rfl)⟩ [1, 2] [0] rfl rfl rfl rfl (by decide) rfl 0 rfl rfl rfl (Nat.le_of_ble_eq_true rfl) dX9_room_194 ⟨(Nat.le_of_ble_eq_true rfl), (Nat.le_of_ble_eq_true rfl)⟩ (fun r_45 ut_46 H locs hw_47 hP hD hS => ?_)
              have hP : va_P D vwCl [(m_trial, aI cs 17069 ug_10), (md, .inr (9, [.int 0, .ref m_all, .ref m_deeds, .ref m_trial, .int 0, .ref m_hasImage, .ref m_tape, .ref m_key, .ref m_answered, .int 0, .int 0, .int 0, .ref m_goes, .int 0, .ref m_hotOnes, .ref m_indexed, .ref m_isChanged, .int 0, .ref m_valueNow, .int 0, .int (-1), .int 0, .ref m_didSome, .ref m_sizes, .ref m_ends])), (m_all, aI cs 51207 g_39)] H := hP
              have hD : va_D A [(m_trial, aI cs 17069 ug_10), (md, .inr (9, [.int 0, .ref m_all, .ref m_deeds, .ref m_trial, .int 0, .ref m_hasImage, .ref m_tape, .ref m_key, .ref m_answered, .int 0, .int 0, .int 0, .ref m_goes, .int 0, .ref m_hotOnes, .ref m_indexed, .ref m_isChanged, .int 0, .ref m_valueNow, .int 0, .int (-1), .int 0, .ref m_didSome, .ref m_sizes, .ref m_ends])), (m_all, aI cs 51207 g_39)] := hD
              have er_48 := hw_47
              subst er_48
              refine lv_istore_n (lv' := [(3, .int (nI (q + 1))), (2, .int (nI (n + 1))), (4, .int (nI (1629 + 8 * n))), (0, .ref md), (1, .int (nI zz))]) hx hb dX9_room_197 rfl hl (by decide) rfl (fun ls hl => ?_)
              refine lv_goto (tgt := 27) hx hb dX9_room_198 (by decide) ?_
              exact ih (n + 1) (q + 1) 0 0 g_39 (wup we q (we q + zz)) (nI (q + 1)) (by omega) (stn_out hst hfull) (by omega) (by omega) hE1 (fun j hj => by rcases Nat.lt_or_ge j q with a | a; (rw [wup_n (by omega)]; exact hF j a); (obtain rfl : j = q := (by omega)); rw [wup_s, hW]; omega) (by rw [wup_n (by omega)]; exact hG _ (by omega) (by omega)) (fun j h1 h2 => by rw [wup_n (by omega)]; exact hG j (by omega) h2) (fun h => absurd h (by omega)) h21 h31 her1 hcame.2.2.2.1 hS1 hm1 ⟨fun _ => rfl, fun h => absurd h (by omega)⟩ H locs (hP.sub [0, 1, 2] rfl) (hD.sub [0, 1, 2] rfl rfl) hS ls (lv_sub hl [0, 1, 3, 4] rfl)
            · refine lv_aload_n hx hb dX9_room_192 rfl (lv_at hl 3 rfl) ?_
              refine lv_iload_n hx hb dX9_room_193 rfl (lv_at hl 4 rfl) ?_
              refine kV_i (ci := 9) (As := [.int (nI zz)]) (rest := []) (wc := [(md, .inr (9, [.int 0, .ref m_all, .ref m_deeds, .ref m_trial, .int 0, .ref m_hasImage, .ref m_tape, .ref m_key, .ref m_answered, .int 0, .int 0, .int 0, .ref m_goes, .int 0, .ref m_hotOnes, .ref m_indexed, .ref m_isChanged, .int 0, .ref m_valueNow, .int 0, .int (-1), .int 0, .ref m_didSome, .ref m_sizes, .ref m_ends])), (m_all, aI cs 51207 g_39)]) (wr := [(m_trial, aI cs 17069 ug_10)]) hx hb hml hown hu hK hP hD hS hA hl.1 (c_X9_makesPlace_n l D cs H.size md m_all m_deeds m_trial m_hasImage m_tape m_key m_answered m_goes m_hotOnes m_indexed m_isChanged m_valueNow m_didSome m_sizes m_ends 0 0 0 zz g_39 (wup we q (we q + zz)) (n + 1) hE1 (by omega) (fun j hj h9 => by rcases Nat.lt_trichotomy j q with a | a | a; (rw [wup_n (by omega)] at h9; have := hF j a; omega); (subst a; rw [wup_s, hW] at h9; omega); (rw [wup_n (by omega), hG j a hj] at h9; omega)) (by rw [zc_of (u := 23) (fun j hj => ((show ∀ j, j < q + 1 → 0 < wup we q (we q + zz) j ∧ 64 < wup we q (we q + zz) j + zz from fun j hj => by rcases Nat.lt_or_ge j q with a | a; (rw [wup_n (by omega)]; exact hF j a); (obtain rfl : j = q := (by omega)); rw [wup_s, hW]; omega) j (by omega)).1) 24 (fun j h1 h2 => by rw [wup_n (by omega)]; exact hG j (by omega) h2)]; omega) h31 hcame.2.2.2.1 (by omega) hS1) (gV u_1180 u_1182 u_11 u_76 u_1183) hd_X9_makesPlace ⟨(Nat.le_of_ble_eq_true rfl), (Nat.le_of_ble_eq_true rfl)⟩ [1, 2] [0] rfl rfl rfl rfl (by decide) rfl 0 rfl rfl rfl (Nat.le_of_ble_eq_true rfl) dX9_room_194 ⟨(Nat.le_of_ble_eq_true rfl), (Nat.le_of_ble_eq_true rfl)⟩ (fun r_49 ut_50 H locs hw_51 hP hD hS => ?_)
              have hP : va_P D vwCl [(m_trial, aI cs 17069 ug_10), (md, .inr (9, [.int 0, .ref m_all, .ref m_deeds, .ref m_trial, .int 0, .ref m_hasImage, .ref m_tape, .ref m_key, .ref m_answered, .int 0, .int 0, .int 0, .ref m_goes, .int 0, .ref m_hotOnes, .ref m_indexed, .ref m_isChanged, .int 0, .ref m_valueNow, .int 0, .int (-1), .int 0, .ref m_didSome, .ref m_sizes, .ref m_ends])), (m_all, aI cs 51207 g_39)] H := hP
              have hD : va_D A [(m_trial, aI cs 17069 ug_10), (md, .inr (9, [.int 0, .ref m_all, .ref m_deeds, .ref m_trial, .int 0, .ref m_hasImage, .ref m_tape, .ref m_key, .ref m_answered, .int 0, .int 0, .int 0, .ref m_goes, .int 0, .ref m_hotOnes, .ref m_indexed, .ref m_isChanged, .int 0, .ref m_valueNow, .int 0, .int (-1), .int 0, .ref m_didSome, .ref m_sizes, .ref m_ends])), (m_all, aI cs 51207 g_39)] := hD
              have er_52 := hw_51
              subst er_52
              refine lv_istore_n (lv' := [(3, .int (-1)), (2, .int (nI (n + 1))), (4, .int (nI (1629 + 8 * n))), (0, .ref md), (1, .int (nI zz))]) hx hb dX9_room_197 rfl hl (by decide) rfl (fun ls hl => ?_)
              refine lv_goto (tgt := 27) hx hb dX9_room_198 (by decide) ?_
              exact ih (n + 1) (q + 1) 0 0 g_39 (wup we q (we q + zz)) (-1) (by omega) (stn_out hst hfull) (by omega) (by omega) hE1 (fun j hj => by rcases Nat.lt_or_ge j q with a | a; (rw [wup_n (by omega)]; exact hF j a); (obtain rfl : j = q := (by omega)); rw [wup_s, hW]; omega) (by rw [wup_n (by omega)]; exact hG _ (by omega) (by omega)) (fun j h1 h2 => by rw [wup_n (by omega)]; exact hG j (by omega) h2) (fun h => absurd h (by omega)) h21 h31 her1 hcame.2.2.2.1 hS1 hm1 ⟨fun h => absurd h (by omega), fun _ => rfl⟩ H locs (hP.sub [0, 1, 2] rfl) (hD.sub [0, 1, 2] rfl rfl) hS ls (lv_sub hl [0, 1, 3, 4] rfl)
        · obtain rfl : pv = -1 := hp.2 (by omega)
          refine lv_iconst (v := (-1)) hx hb dX9_room_28 (by decide) ?_
          refine lv_icmp_eq (tgt := 201) hx hb dX9_room_29 (by decide) (fun c_53 => ?_) (fun c_53 => absurd (by decide) c_53)
          refine lv_aload_n hx hb dX9_room_201 rfl (lv_at hl 2 rfl) ?_
          refine kV_v (ci := 9) (As := []) (rest := []) (wc := [(md, .inr (9, [.int 0, .ref m_all, .ref m_deeds, .ref m_trial, .int 0, .ref m_hasImage, .ref m_tape, .ref m_key, .ref m_answered, .int 0, .int 0, .int 0, .ref m_goes, .int 0, .ref m_hotOnes, .ref m_indexed, .ref m_isChanged, .int 0, .ref m_valueNow, .int 0, .int (-1), .int 0, .ref m_didSome, .ref m_sizes, .ref m_ends])), (m_all, aI cs 51207 fm), (m_trial, aI cs 17069 ug_10)]) (wr := []) hx hb hml hown hu hK hP hD hS hA hl.1 (c_X9_bringsBack_g l D cs H.size md m_all m_deeds m_trial ug_10 m_hasImage m_tape m_key m_answered m_goes m_hotOnes m_indexed m_isChanged m_valueNow m_didSome m_sizes m_ends 0 0 0 fm) (gV u_1220 u_1222 u_21 u_76 u_1223) hd_X9_bringsBack ⟨(Nat.le_of_ble_eq_true rfl), (Nat.le_of_ble_eq_true rfl)⟩ [1, 2, 0] [] rfl rfl rfl rfl (by decide) rfl 0 rfl rfl rfl (Nat.le_of_ble_eq_true rfl) dX9_room_202 ⟨(Nat.le_of_ble_eq_true rfl), (Nat.le_of_ble_eq_true rfl)⟩ (fun ut_55 H locs hw_56 hP hD hS => ?_)
          have hP : va_P D vwCl [(md, .inr (9, [.int 0, .ref m_all, .ref m_deeds, .ref m_trial, .int 0, .ref m_hasImage, .ref m_tape, .ref m_key, .ref m_answered, .int 0, .int 0, .int 0, .ref m_goes, .int 0, .ref m_hotOnes, .ref m_indexed, .ref m_isChanged, .int 0, .ref m_valueNow, .int 0, .int (-1), .int 0, .ref m_didSome, .ref m_sizes, .ref m_ends]))] H := hP
          have hD : va_D A [(md, .inr (9, [.int 0, .ref m_all, .ref m_deeds, .ref m_trial, .int 0, .ref m_hasImage, .ref m_tape, .ref m_key, .ref m_answered, .int 0, .int 0, .int 0, .ref m_goes, .int 0, .ref m_hotOnes, .ref m_indexed, .ref m_isChanged, .int 0, .ref m_valueNow, .int 0, .int (-1), .int 0, .ref m_didSome, .ref m_sizes, .ref m_ends]))] := hD
          refine lv_iload_n hx hb dX9_room_205 rfl (lv_at hl 1 rfl) ?_
          exact hz () hP hD hS (Or.inr ⟨by grind, zz, n, by omega, rfl, rfl, by rw [hst]; show q = 23; omega, hm⟩) [] rfl rfl (Nat.le_of_ble_eq_true rfl) (Nat.le_of_ble_eq_true rfl) .int rfl rfl dX9_room_206
    exact lp_15 (240 + 1) 0 0 0 0 f_m_all (fun _ => 0) (nI 0) (by omega) rfl (by omega) (by omega) hE0 (fun j hj => absurd hj (by omega)) rfl (fun _ _ _ => rfl) (fun h => absurd h (by omega)) h20 h30 her0 hN0 (fun p hp => ((hE0 p hp).1).symm) (fun k hk => absurd hk (by omega)) (⟨fun _ => rfl, fun h => absurd h (by omega)⟩) H locs (hP.sub [0, 1, 2] rfl) (hD.sub [0, 1, 2] rfl rfl) hS ls (lv_sub hl [0, 1, 2, 3] rfl)
  · obtain ⟨er_57, hf_58⟩ := hw_3
    subst er_57
    refine lv_if_ne (tgt := 15) hx hb dX9_room_9 (by decide) (fun c_59 => absurd (by decide) c_59) (fun c_59 => ?_)
    refine lv_bipush (v := (-3)) hx hb dX9_room_12 (by decide) ?_
    exact hz () hP hD hS (by first | grind | (have e1 := odd_rem x (by grind); grind)) [] rfl rfl (Nat.le_of_ble_eq_true rfl) (Nat.le_of_ble_eq_true rfl) .int rfl rfl dX9_room_14
