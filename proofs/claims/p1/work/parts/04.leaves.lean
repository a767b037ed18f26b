theorem dX8_isPage_0 : decode cX8_isPage 0 = .ok (.iload_n 0, 1) := by decide +kernel
theorem dX8_isPage_1 : decode cX8_isPage 1 = .ok (.ifCond .lt 13, 3) := by decide +kernel
theorem dX8_isPage_4 : decode cX8_isPage 4 = .ok (.iload_n 0, 1) := by decide +kernel
theorem dX8_isPage_5 : decode cX8_isPage 5 = .ok (.bipush 24, 2) := by decide +kernel
theorem dX8_isPage_7 : decode cX8_isPage 7 = .ok (.if_icmp .ge 7, 3) := by decide +kernel
theorem dX8_isPage_10 : decode cX8_isPage 10 = .ok (.iconst 1, 1) := by decide +kernel
theorem dX8_isPage_11 : decode cX8_isPage 11 = .ok (.goto 4, 3) := by decide +kernel
theorem dX8_isPage_14 : decode cX8_isPage 14 = .ok (.iconst 0, 1) := by decide +kernel
theorem dX8_isPage_15 : decode cX8_isPage 15 = .ok (.ireturn, 1) := by decide +kernel
theorem dX8_isKeyLength_0 : decode cX8_isKeyLength 0 = .ok (.iload_n 0, 1) := by decide +kernel
theorem dX8_isKeyLength_1 : decode cX8_isKeyLength 1 = .ok (.iconst 1, 1) := by decide +kernel
theorem dX8_isKeyLength_2 : decode cX8_isKeyLength 2 = .ok (.if_icmp .lt 13, 3) := by decide +kernel
theorem dX8_isKeyLength_5 : decode cX8_isKeyLength 5 = .ok (.iload_n 0, 1) := by decide +kernel
theorem dX8_isKeyLength_6 : decode cX8_isKeyLength 6 = .ok (.bipush 8, 2) := by decide +kernel
theorem dX8_isKeyLength_8 : decode cX8_isKeyLength 8 = .ok (.if_icmp .gt 7, 3) := by decide +kernel
theorem dX8_isKeyLength_11 : decode cX8_isKeyLength 11 = .ok (.iconst 1, 1) := by decide +kernel
theorem dX8_isKeyLength_12 : decode cX8_isKeyLength 12 = .ok (.goto 4, 3) := by decide +kernel
theorem dX8_isKeyLength_15 : decode cX8_isKeyLength 15 = .ok (.iconst 0, 1) := by decide +kernel
theorem dX8_isKeyLength_16 : decode cX8_isKeyLength 16 = .ok (.ireturn, 1) := by decide +kernel
theorem dX8_isSnapshot_0 : decode cX8_isSnapshot 0 = .ok (.iload_n 0, 1) := by decide +kernel
theorem dX8_isSnapshot_1 : decode cX8_isSnapshot 1 = .ok (.ifCond .lt 12, 3) := by decide +kernel
theorem dX8_isSnapshot_4 : decode cX8_isSnapshot 4 = .ok (.iload_n 0, 1) := by decide +kernel
theorem dX8_isSnapshot_5 : decode cX8_isSnapshot 5 = .ok (.iconst 4, 1) := by decide +kernel
theorem dX8_isSnapshot_6 : decode cX8_isSnapshot 6 = .ok (.if_icmp .ge 7, 3) := by decide +kernel
theorem dX8_isSnapshot_9 : decode cX8_isSnapshot 9 = .ok (.iconst 1, 1) := by decide +kernel
theorem dX8_isSnapshot_10 : decode cX8_isSnapshot 10 = .ok (.goto 4, 3) := by decide +kernel
theorem dX8_isSnapshot_13 : decode cX8_isSnapshot 13 = .ok (.iconst 0, 1) := by decide +kernel
theorem dX8_isSnapshot_14 : decode cX8_isSnapshot 14 = .ok (.ireturn, 1) := by decide +kernel
theorem dX8_isIterator_0 : decode cX8_isIterator 0 = .ok (.iload_n 0, 1) := by decide +kernel
theorem dX8_isIterator_1 : decode cX8_isIterator 1 = .ok (.ifCond .lt 12, 3) := by decide +kernel
theorem dX8_isIterator_4 : decode cX8_isIterator 4 = .ok (.iload_n 0, 1) := by decide +kernel
theorem dX8_isIterator_5 : decode cX8_isIterator 5 = .ok (.iconst 3, 1) := by decide +kernel
theorem dX8_isIterator_6 : decode cX8_isIterator 6 = .ok (.if_icmp .ge 7, 3) := by decide +kernel
theorem dX8_isIterator_9 : decode cX8_isIterator 9 = .ok (.iconst 1, 1) := by decide +kernel
theorem dX8_isIterator_10 : decode cX8_isIterator 10 = .ok (.goto 4, 3) := by decide +kernel
theorem dX8_isIterator_13 : decode cX8_isIterator 13 = .ok (.iconst 0, 1) := by decide +kernel
theorem dX8_isIterator_14 : decode cX8_isIterator 14 = .ok (.ireturn, 1) := by decide +kernel
theorem dX8_isRecord_0 : decode cX8_isRecord 0 = .ok (.iload_n 0, 1) := by decide +kernel
theorem dX8_isRecord_1 : decode cX8_isRecord 1 = .ok (.ifCond .lt 14, 3) := by decide +kernel
theorem dX8_isRecord_4 : decode cX8_isRecord 4 = .ok (.iload_n 0, 1) := by decide +kernel
theorem dX8_isRecord_5 : decode cX8_isRecord 5 = .ok (.sipush 240, 3) := by decide +kernel
theorem dX8_isRecord_8 : decode cX8_isRecord 8 = .ok (.if_icmp .ge 7, 3) := by decide +kernel
theorem dX8_isRecord_11 : decode cX8_isRecord 11 = .ok (.iconst 1, 1) := by decide +kernel
theorem dX8_isRecord_12 : decode cX8_isRecord 12 = .ok (.goto 4, 3) := by decide +kernel
theorem dX8_isRecord_15 : decode cX8_isRecord 15 = .ok (.iconst 0, 1) := by decide +kernel
theorem dX8_isRecord_16 : decode cX8_isRecord 16 = .ok (.ireturn, 1) := by decide +kernel
theorem dX8_isSize_0 : decode cX8_isSize 0 = .ok (.iload_n 0, 1) := by decide +kernel
theorem dX8_isSize_1 : decode cX8_isSize 1 = .ok (.bipush 6, 2) := by decide +kernel
theorem dX8_isSize_3 : decode cX8_isSize 3 = .ok (.if_icmp .lt 19, 3) := by decide +kernel
theorem dX8_isSize_6 : decode cX8_isSize 6 = .ok (.iload_n 0, 1) := by decide +kernel
theorem dX8_isSize_7 : decode cX8_isSize 7 = .ok (.bipush 52, 2) := by decide +kernel
theorem dX8_isSize_9 : decode cX8_isSize 9 = .ok (.if_icmp .gt 13, 3) := by decide +kernel
theorem dX8_isSize_12 : decode cX8_isSize 12 = .ok (.iload_n 0, 1) := by decide +kernel
theorem dX8_isSize_13 : decode cX8_isSize 13 = .ok (.iconst 1, 1) := by decide +kernel
theorem dX8_isSize_14 : decode cX8_isSize 14 = .ok (.iand, 1) := by decide +kernel
theorem dX8_isSize_15 : decode cX8_isSize 15 = .ok (.ifCond .ne 7, 3) := by decide +kernel
theorem dX8_isSize_18 : decode cX8_isSize 18 = .ok (.iconst 1, 1) := by decide +kernel
theorem dX8_isSize_19 : decode cX8_isSize 19 = .ok (.goto 4, 3) := by decide +kernel
theorem dX8_isSize_22 : decode cX8_isSize 22 = .ok (.iconst 0, 1) := by decide +kernel
theorem dX8_isSize_23 : decode cX8_isSize 23 = .ok (.ireturn, 1) := by decide +kernel
abbrev rm_c_X8_isPage : Room := { frames := 0, cells := 0, slots := 0, locals := 0 }
set_option maxHeartbeats 4000000 in
set_option maxRecDepth 100000 in
theorem c_X8_isPage (l : Launch) (D : va_G) (cs : Nat → ClassId) (sz : Nat) (x : Int32)  : cMi l yX8_isPage (Cond.code yX8_isPage cX8_isPage 1 (some .boolean)) (rm_c_X8_isPage) D cs [.int x] sz [] (fun (r : Int32) (u : Unit) => ((r = 1) ∧ (¬ x < 0 ∧ x < 24)) ∨ ((r = 0) ∧ (x < 0 ∨ 24 ≤ x))) (fun (u : Unit) => []) := by
  refine kMet_i RX8 (by decide) rfl (Nat.le_of_ble_eq_true rfl) ?_
  intro p e s m below meth c ls A Qz H locs hx hb hml hown hin hu hK hsz hA hP hD hS hl hz
  subst hsz
  have hl : lv_has ls 1 [(0, .int x)] := hl
  refine lv_iload_n hx hb dX8_isPage_0 rfl (lv_at hl 0 rfl) ?_
  refine lv_if_lt (tgt := 14) hx hb dX8_isPage_1 (by decide) (fun c_1 => ?_) (fun c_1 => ?_)
  · refine lv_iconst (v := 0) hx hb dX8_isPage_14 (by decide) ?_
    exact hz () hP hD hS (by grind) [] rfl rfl (Nat.le_of_ble_eq_true rfl) (Nat.le_of_ble_eq_true rfl) .boolean rfl rfl dX8_isPage_15
  · refine lv_iload_n hx hb dX8_isPage_4 rfl (lv_at hl 0 rfl) ?_
    refine lv_bipush (v := 24) hx hb dX8_isPage_5 (by decide) ?_
    refine lv_icmp_ge (tgt := 14) hx hb dX8_isPage_7 (by decide) (fun c_2 => ?_) (fun c_2 => ?_)
    · refine lv_iconst (v := 0) hx hb dX8_isPage_14 (by decide) ?_
      exact hz () hP hD hS (by grind) [] rfl rfl (Nat.le_of_ble_eq_true rfl) (Nat.le_of_ble_eq_true rfl) .boolean rfl rfl dX8_isPage_15
    · refine lv_iconst (v := 1) hx hb dX8_isPage_10 (by decide) ?_
      refine lv_goto (tgt := 15) hx hb dX8_isPage_11 (by decide) ?_
      exact hz () hP hD hS (by grind) [] rfl rfl (Nat.le_of_ble_eq_true rfl) (Nat.le_of_ble_eq_true rfl) .boolean rfl rfl dX8_isPage_15
abbrev rm_c_X8_isKeyLength : Room := { frames := 0, cells := 0, slots := 0, locals := 0 }
set_option maxHeartbeats 4000000 in
set_option maxRecDepth 100000 in
theorem c_X8_isKeyLength (l : Launch) (D : va_G) (cs : Nat → ClassId) (sz : Nat) (x : Int32)  : cMi l yX8_isKeyLength (Cond.code yX8_isKeyLength cX8_isKeyLength 1 (some .boolean)) (rm_c_X8_isKeyLength) D cs [.int x] sz [] (fun (r : Int32) (u : Unit) => ((r = 1) ∧ (1 ≤ x ∧ x ≤ 8)) ∨ ((r = 0) ∧ (x < 1 ∨ 8 < x))) (fun (u : Unit) => []) := by
  refine kMet_i RX8 (by decide) rfl (Nat.le_of_ble_eq_true rfl) ?_
  intro p e s m below meth c ls A Qz H locs hx hb hml hown hin hu hK hsz hA hP hD hS hl hz
  subst hsz
  have hl : lv_has ls 1 [(0, .int x)] := hl
  refine lv_iload_n hx hb dX8_isKeyLength_0 rfl (lv_at hl 0 rfl) ?_
  refine lv_iconst (v := 1) hx hb dX8_isKeyLength_1 (by decide) ?_
  refine lv_icmp_lt (tgt := 15) hx hb dX8_isKeyLength_2 (by decide) (fun c_1 => ?_) (fun c_1 => ?_)
  · refine lv_iconst (v := 0) hx hb dX8_isKeyLength_15 (by decide) ?_
    exact hz () hP hD hS (by grind) [] rfl rfl (Nat.le_of_ble_eq_true rfl) (Nat.le_of_ble_eq_true rfl) .boolean rfl rfl dX8_isKeyLength_16
  · refine lv_iload_n hx hb dX8_isKeyLength_5 rfl (lv_at hl 0 rfl) ?_
    refine lv_bipush (v := 8) hx hb dX8_isKeyLength_6 (by decide) ?_
    refine lv_icmp_gt (tgt := 15) hx hb dX8_isKeyLength_8 (by decide) (fun c_2 => ?_) (fun c_2 => ?_)
    · refine lv_iconst (v := 0) hx hb dX8_isKeyLength_15 (by decide) ?_
      exact hz () hP hD hS (by grind) [] rfl rfl (Nat.le_of_ble_eq_true rfl) (Nat.le_of_ble_eq_true rfl) .boolean rfl rfl dX8_isKeyLength_16
    · refine lv_iconst (v := 1) hx hb dX8_isKeyLength_11 (by decide) ?_
      refine lv_goto (tgt := 16) hx hb dX8_isKeyLength_12 (by decide) ?_
      exact hz () hP hD hS (by grind) [] rfl rfl (Nat.le_of_ble_eq_true rfl) (Nat.le_of_ble_eq_true rfl) .boolean rfl rfl dX8_isKeyLength_16
abbrev rm_c_X8_isSnapshot : Room := { frames := 0, cells := 0, slots := 0, locals := 0 }
set_option maxHeartbeats 4000000 in
set_option maxRecDepth 100000 in
theorem c_X8_isSnapshot (l : Launch) (D : va_G) (cs : Nat → ClassId) (sz : Nat) (x : Int32)  : cMi l yX8_isSnapshot (Cond.code yX8_isSnapshot cX8_isSnapshot 1 (some .boolean)) (rm_c_X8_isSnapshot) D cs [.int x] sz [] (fun (r : Int32) (u : Unit) => ((r = 1) ∧ (¬ x < 0 ∧ x < 4)) ∨ ((r = 0) ∧ (x < 0 ∨ 4 ≤ x))) (fun (u : Unit) => []) := by
  refine kMet_i RX8 (by decide) rfl (Nat.le_of_ble_eq_true rfl) ?_
  intro p e s m below meth c ls A Qz H locs hx hb hml hown hin hu hK hsz hA hP hD hS hl hz
  subst hsz
  have hl : lv_has ls 1 [(0, .int x)] := hl
  refine lv_iload_n hx hb dX8_isSnapshot_0 rfl (lv_at hl 0 rfl) ?_
  refine lv_if_lt (tgt := 13) hx hb dX8_isSnapshot_1 (by decide) (fun c_1 => ?_) (fun c_1 => ?_)
  · refine lv_iconst (v := 0) hx hb dX8_isSnapshot_13 (by decide) ?_
    exact hz () hP hD hS (by grind) [] rfl rfl (Nat.le_of_ble_eq_true rfl) (Nat.le_of_ble_eq_true rfl) .boolean rfl rfl dX8_isSnapshot_14
  · refine lv_iload_n hx hb dX8_isSnapshot_4 rfl (lv_at hl 0 rfl) ?_
    refine lv_iconst (v := 4) hx hb dX8_isSnapshot_5 (by decide) ?_
    refine lv_icmp_ge (tgt := 13) hx hb dX8_isSnapshot_6 (by decide) (fun c_2 => ?_) (fun c_2 => ?_)
    · refine lv_iconst (v := 0) hx hb dX8_isSnapshot_13 (by decide) ?_
      exact hz () hP hD hS (by grind) [] rfl rfl (Nat.le_of_ble_eq_true rfl) (Nat.le_of_ble_eq_true rfl) .boolean rfl rfl dX8_isSnapshot_14
    · refine lv_iconst (v := 1) hx hb dX8_isSnapshot_9 (by decide) ?_
      refine lv_goto (tgt := 14) hx hb dX8_isSnapshot_10 (by decide) ?_
      exact hz () hP hD hS (by grind) [] rfl rfl (Nat.le_of_ble_eq_true rfl) (Nat.le_of_ble_eq_true rfl) .boolean rfl rfl dX8_isSnapshot_14
abbrev rm_c_X8_isIterator : Room := { frames := 0, cells := 0, slots := 0, locals := 0 }
set_option maxHeartbeats 4000000 in
set_option maxRecDepth 100000 in
theorem c_X8_isIterator (l : Launch) (D : va_G) (cs : Nat → ClassId) (sz : Nat) (x : Int32)  : cMi l yX8_isIterator (Cond.code yX8_isIterator cX8_isIterator 1 (some .boolean)) (rm_c_X8_isIterator) D cs [.int x] sz [] (fun (r : Int32) (u : Unit) => ((r = 1) ∧ (¬ x < 0 ∧ x < 3)) ∨ ((r = 0) ∧ (x < 0 ∨ 3 ≤ x))) (fun (u : Unit) => []) := by
  refine kMet_i RX8 (by decide) rfl (Nat.le_of_ble_eq_true rfl) ?_
  intro p e s m below meth c ls A Qz H locs hx hb hml hown hin hu hK hsz hA hP hD hS hl hz
  subst hsz
  have hl : lv_has ls 1 [(0, .int x)] := hl
  refine lv_iload_n hx hb dX8_isIterator_0 rfl (lv_at hl 0 rfl) ?_
  refine lv_if_lt (tgt := 13) hx hb dX8_isIterator_1 (by decide) (fun c_1 => ?_) (fun c_1 => ?_)
  · refine lv_iconst (v := 0) hx hb dX8_isIterator_13 (by decide) ?_
    exact hz () hP hD hS (by grind) [] rfl rfl (Nat.le_of_ble_eq_true rfl) (Nat.le_of_ble_eq_true rfl) .boolean rfl rfl dX8_isIterator_14
  · refine lv_iload_n hx hb dX8_isIterator_4 rfl (lv_at hl 0 rfl) ?_
    refine lv_iconst (v := 3) hx hb dX8_isIterator_5 (by decide) ?_
    refine lv_icmp_ge (tgt := 13) hx hb dX8_isIterator_6 (by decide) (fun c_2 => ?_) (fun c_2 => ?_)
    · refine lv_iconst (v := 0) hx hb dX8_isIterator_13 (by decide) ?_
      exact hz () hP hD hS (by grind) [] rfl rfl (Nat.le_of_ble_eq_true rfl) (Nat.le_of_ble_eq_true rfl) .boolean rfl rfl dX8_isIterator_14
    · refine lv_iconst (v := 1) hx hb dX8_isIterator_9 (by decide) ?_
      refine lv_goto (tgt := 14) hx hb dX8_isIterator_10 (by decide) ?_
      exact hz () hP hD hS (by grind) [] rfl rfl (Nat.le_of_ble_eq_true rfl) (Nat.le_of_ble_eq_true rfl) .boolean rfl rfl dX8_isIterator_14
abbrev rm_c_X8_isRecord : Room := { frames := 0, cells := 0, slots := 0, locals := 0 }
set_option maxHeartbeats 4000000 in
set_option maxRecDepth 100000 in
theorem c_X8_isRecord (l : Launch) (D : va_G) (cs : Nat → ClassId) (sz : Nat) (x : Int32)  : cMi l yX8_isRecord (Cond.code yX8_isRecord cX8_isRecord 1 (some .boolean)) (rm_c_X8_isRecord) D cs [.int x] sz [] (fun (r : Int32) (u : Unit) => ((r = 1) ∧ (¬ x < 0 ∧ x < 240)) ∨ ((r = 0) ∧ (x < 0 ∨ 240 ≤ x))) (fun (u : Unit) => []) := by
  refine kMet_i RX8 (by decide) rfl (Nat.le_of_ble_eq_true rfl) ?_
  intro p e s m below meth c ls A Qz H locs hx hb hml hown hin hu hK hsz hA hP hD hS hl hz
  subst hsz
  have hl : lv_has ls 1 [(0, .int x)] := hl
  refine lv_iload_n hx hb dX8_isRecord_0 rfl (lv_at hl 0 rfl) ?_
  refine lv_if_lt (tgt := 15) hx hb dX8_isRecord_1 (by decide) (fun c_1 => ?_) (fun c_1 => ?_)
  · refine lv_iconst (v := 0) hx hb dX8_isRecord_15 (by decide) ?_
    exact hz () hP hD hS (by grind) [] rfl rfl (Nat.le_of_ble_eq_true rfl) (Nat.le_of_ble_eq_true rfl) .boolean rfl rfl dX8_isRecord_16
  · refine lv_iload_n hx hb dX8_isRecord_4 rfl (lv_at hl 0 rfl) ?_
    refine lv_sipush (v := 240) hx hb dX8_isRecord_5 (by decide) ?_
    refine lv_icmp_ge (tgt := 15) hx hb dX8_isRecord_8 (by decide) (fun c_2 => ?_) (fun c_2 => ?_)
    · refine lv_iconst (v := 0) hx hb dX8_isRecord_15 (by decide) ?_
      exact hz () hP hD hS (by grind) [] rfl rfl (Nat.le_of_ble_eq_true rfl) (Nat.le_of_ble_eq_true rfl) .boolean rfl rfl dX8_isRecord_16
    · refine lv_iconst (v := 1) hx hb dX8_isRecord_11 (by decide) ?_
      refine lv_goto (tgt := 16) hx hb dX8_isRecord_12 (by decide) ?_
      exact hz () hP hD hS (by grind) [] rfl rfl (Nat.le_of_ble_eq_true rfl) (Nat.le_of_ble_eq_true rfl) .boolean rfl rfl dX8_isRecord_16
abbrev rm_c_X8_isSize : Room := { frames := 0, cells := 0, slots := 0, locals := 0 }
set_option maxHeartbeats 4000000 in
set_option maxRecDepth 100000 in
theorem c_X8_isSize (l : Launch) (D : va_G) (cs : Nat → ClassId) (sz : Nat) (x : Int32)  : cMi l yX8_isSize (Cond.code yX8_isSize cX8_isSize 1 (some .boolean)) (rm_c_X8_isSize) D cs [.int x] sz [] (fun (r : Int32) (u : Unit) => ((r = 1) ∧ (6 ≤ x ∧ x ≤ 52 ∧ x &&& 1 = 0)) ∨ ((r = 0) ∧ (x < 6 ∨ 52 < x ∨ ¬ x &&& 1 = 0))) (fun (u : Unit) => []) := by
  refine kMet_i RX8 (by decide) rfl (Nat.le_of_ble_eq_true rfl) ?_
  intro p e s m below meth c ls A Qz H locs hx hb hml hown hin hu hK hsz hA hP hD hS hl hz
  subst hsz
  have hl : lv_has ls 1 [(0, .int x)] := hl
  refine lv_iload_n hx hb dX8_isSize_0 rfl (lv_at hl 0 rfl) ?_
  refine lv_bipush (v := 6) hx hb dX8_isSize_1 (by decide) ?_
  refine lv_icmp_lt (tgt := 22) hx hb dX8_isSize_3 (by decide) (fun c_1 => ?_) (fun c_1 => ?_)
  · refine lv_iconst (v := 0) hx hb dX8_isSize_22 (by decide) ?_
    exact hz () hP hD hS (by grind) [] rfl rfl (Nat.le_of_ble_eq_true rfl) (Nat.le_of_ble_eq_true rfl) .boolean rfl rfl dX8_isSize_23
  · refine lv_iload_n hx hb dX8_isSize_6 rfl (lv_at hl 0 rfl) ?_
    refine lv_bipush (v := 52) hx hb dX8_isSize_7 (by decide) ?_
    refine lv_icmp_gt (tgt := 22) hx hb dX8_isSize_9 (by decide) (fun c_2 => ?_) (fun c_2 => ?_)
    · refine lv_iconst (v := 0) hx hb dX8_isSize_22 (by decide) ?_
      exact hz () hP hD hS (by grind) [] rfl rfl (Nat.le_of_ble_eq_true rfl) (Nat.le_of_ble_eq_true rfl) .boolean rfl rfl dX8_isSize_23
    · refine lv_iload_n hx hb dX8_isSize_12 rfl (lv_at hl 0 rfl) ?_
      refine lv_iconst (v := 1) hx hb dX8_isSize_13 (by decide) ?_
      refine lv_iand hx hb dX8_isSize_14 ?_
      refine lv_if_ne (tgt := 22) hx hb dX8_isSize_15 (by decide) (fun c_3 => ?_) (fun c_3 => ?_)
      · refine lv_iconst (v := 0) hx hb dX8_isSize_22 (by decide) ?_
        exact hz () hP hD hS (by grind) [] rfl rfl (Nat.le_of_ble_eq_true rfl) (Nat.le_of_ble_eq_true rfl) .boolean rfl rfl dX8_isSize_23
      · refine lv_iconst (v := 1) hx hb dX8_isSize_18 (by decide) ?_
        refine lv_goto (tgt := 23) hx hb dX8_isSize_19 (by decide) ?_
        exact hz () hP hD hS (by grind) [] rfl rfl (Nat.le_of_ble_eq_true rfl) (Nat.le_of_ble_eq_true rfl) .boolean rfl rfl dX8_isSize_23
