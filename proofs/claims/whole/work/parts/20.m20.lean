-- M_order
theorem d_M_order_0 : decode prog_9_method_38_code 0 = .ok (.aload_n 0, 1) := by decide +kernel
theorem d_M_order_1 : decode prog_9_method_38_code 1 = .ok (.iload_n 1, 1) := by decide +kernel
theorem d_M_order_2 : decode prog_9_method_38_code 2 = .ok (.invokevirtual 161, 3) := by decide +kernel
theorem d_M_order_5 : decode prog_9_method_38_code 5 = .ok (.ifCond .eq 20, 3) := by decide +kernel
theorem d_M_order_8 : decode prog_9_method_38_code 8 = .ok (.aload_n 0, 1) := by decide +kernel
theorem d_M_order_9 : decode prog_9_method_38_code 9 = .ok (.iload_n 2, 1) := by decide +kernel
theorem d_M_order_10 : decode prog_9_method_38_code 10 = .ok (.invokevirtual 161, 3) := by decide +kernel
theorem d_M_order_13 : decode prog_9_method_38_code 13 = .ok (.ifCond .eq 12, 3) := by decide +kernel
theorem d_M_order_16 : decode prog_9_method_38_code 16 = .ok (.aload_n 0, 1) := by decide +kernel
theorem d_M_order_17 : decode prog_9_method_38_code 17 = .ok (.iload_n 1, 1) := by decide +kernel
theorem d_M_order_18 : decode prog_9_method_38_code 18 = .ok (.iload_n 2, 1) := by decide +kernel
theorem d_M_order_19 : decode prog_9_method_38_code 19 = .ok (.invokevirtual 178, 3) := by decide +kernel
theorem d_M_order_22 : decode prog_9_method_38_code 22 = .ok (.goto 4, 3) := by decide +kernel
theorem d_M_order_25 : decode prog_9_method_38_code 25 = .ok (.iconst 2, 1) := by decide +kernel
theorem d_M_order_26 : decode prog_9_method_38_code 26 = .ok (.ireturn, 1) := by decide +kernel
def m_M_order_26 (G : Nat → Nat) (s0 : Int32) (h : hp_H) : Option (Int32 × hp_H) := some (s0, h)
set_option maxRecDepth 100000 in
set_option maxHeartbeats 4000000 in
theorem j_M_order_26 {Z : hp_Z} (s0 : Int32) (h : hp_H) : hp_J Y_M_order Z hp_rI h 26 [] [.int s0] (m_M_order_26 (hp_G Z)  s0 h) := by
  unfold m_M_order_26
  exact hp_iret d_M_order_26 rfl
def m_M_order_25 (G : Nat → Nat) (h : hp_H) : Option (Int32 × hp_H) := m_M_order_26 G (2 : Int32) h
set_option maxRecDepth 100000 in
set_option maxHeartbeats 4000000 in
theorem j_M_order_25 {Z : hp_Z} (h : hp_H) : hp_J Y_M_order Z hp_rI h 25 [] [] (m_M_order_25 (hp_G Z)   h) := by
  unfold m_M_order_25
  refine hp_iconst (v := 2) d_M_order_25 (by decide) ?_
  exact j_M_order_26  _ _
def m_M_order (G : Nat → Nat) (a0 : Nat) (a1 : Int32) (a2 : Int32) (h : hp_H) : Option (Int32 × hp_H) := (hp_vck h a0 8 (m_M_isValue G a0 a1 h)).bind fun q1 => if q1.1 = 0 then (m_M_order_25 G q1.2) else ((hp_vck q1.2 a0 8 (m_M_isValue G a0 a2 q1.2)).bind fun q2 => if q2.1 = 0 then (m_M_order_25 G q2.2) else ((hp_vck q2.2 a0 8 (m_M_orderOf G a0 a1 a2 q2.2)).bind fun q3 => m_M_order_26 G q3.1 q3.2))
set_option maxRecDepth 100000 in
set_option maxHeartbeats 4000000 in
theorem j_M_order_0 {Z : hp_Z} (a0 : Nat) (a1 : Int32) (a2 : Int32) (h : hp_H) : hp_J Y_M_order Z hp_rI h 0 [(0, .ref a0), (1, .int a1), (2, .int a2)] [] (m_M_order (hp_G Z)  a0 a1 a2 h) := by
  unfold m_M_order
  refine hp_aload_n (x0 := 0) d_M_order_0 rfl rfl ?_
  refine hp_iload_n (x0 := 1) d_M_order_1 rfl rfl ?_
  refine hp_callI (hp_crV (ci := 8) (t_M_isValue _ _ _ _) cw_M_161 rfl ⟨w_1024, ws_44⟩ (by decide) rfl rfl (Nat.le_of_ble_eq_true rfl) d_M_order_2) fun q1 => ?_
  refine hp_if_eq (tgt := 25) d_M_order_5 (by decide) ?_ ?_
  · refine hp_sub [] rfl ?_
    exact j_M_order_25   _
  · refine hp_aload_n (x0 := 0) d_M_order_8 rfl rfl ?_
    refine hp_iload_n (x0 := 2) d_M_order_9 rfl rfl ?_
    refine hp_callI (hp_crV (ci := 8) (t_M_isValue _ _ _ _) cw_M_161 rfl ⟨w_1024, ws_44⟩ (by decide) rfl rfl (Nat.le_of_ble_eq_true rfl) d_M_order_10) fun q2 => ?_
    refine hp_if_eq (tgt := 25) d_M_order_13 (by decide) ?_ ?_
    · refine hp_sub [] rfl ?_
      exact j_M_order_25   _
    · refine hp_aload_n (x0 := 0) d_M_order_16 rfl rfl ?_
      refine hp_iload_n (x0 := 1) d_M_order_17 rfl rfl ?_
      refine hp_iload_n (x0 := 2) d_M_order_18 rfl rfl ?_
      refine hp_callI (hp_crV (ci := 8) (t_M_orderOf _ _ _ _ _) cw_M_178 rfl ⟨w_1044, ws_45⟩ (by decide) rfl rfl (Nat.le_of_ble_eq_true rfl) d_M_order_19) fun q3 => ?_
      refine hp_goto (tgt := 26) d_M_order_22 (by decide) ?_
      refine hp_sub [] rfl ?_
      exact j_M_order_26  _ _
theorem t_M_order (l : Launch) (E : hp_E) (a0 : Nat) (a1 : Int32) (a2 : Int32) : hp_M l E y_M_order Y_M_order hp_rI [.ref a0, .int a1, .int a2] (m_M_order E.2.2.1 a0 a1 a2) := hp_M.of (plainFor_of_name (by decide)) ⟨rfl, rfl⟩ (Nat.le_of_ble_eq_true rfl) (fun Z h hE => by subst hE; exact j_M_order_0 _ _ _ h)
-- M_word
theorem d_M_word_0 : decode prog_9_method_58_code 0 = .ok (.iload_n 1, 1) := by decide +kernel
theorem d_M_word_1 : decode prog_9_method_58_code 1 = .ok (.ifCond .lt 47, 3) := by decide +kernel
theorem d_M_word_4 : decode prog_9_method_58_code 4 = .ok (.iload_n 1, 1) := by decide +kernel
theorem d_M_word_5 : decode prog_9_method_58_code 5 = .ok (.bipush 41, 2) := by decide +kernel
theorem d_M_word_7 : decode prog_9_method_58_code 7 = .ok (.if_icmp .gt 41, 3) := by decide +kernel
theorem d_M_word_10 : decode prog_9_method_58_code 10 = .ok (.iload_n 1, 1) := by decide +kernel
theorem d_M_word_11 : decode prog_9_method_58_code 11 = .ok (.bipush 23, 2) := by decide +kernel
theorem d_M_word_13 : decode prog_9_method_58_code 13 = .ok (.if_icmp .eq 15, 3) := by decide +kernel
theorem d_M_word_16 : decode prog_9_method_58_code 16 = .ok (.iload_n 1, 1) := by decide +kernel
theorem d_M_word_17 : decode prog_9_method_58_code 17 = .ok (.bipush 24, 2) := by decide +kernel
theorem d_M_word_19 : decode prog_9_method_58_code 19 = .ok (.if_icmp .eq 9, 3) := by decide +kernel
theorem d_M_word_22 : decode prog_9_method_58_code 22 = .ok (.iload_n 1, 1) := by decide +kernel
theorem d_M_word_23 : decode prog_9_method_58_code 23 = .ok (.bipush 29, 2) := by decide +kernel
theorem d_M_word_25 : decode prog_9_method_58_code 25 = .ok (.if_icmp .ne 13, 3) := by decide +kernel
theorem d_M_word_28 : decode prog_9_method_58_code 28 = .ok (.iload_n 2, 1) := by decide +kernel
theorem d_M_word_29 : decode prog_9_method_58_code 29 = .ok (.bipush 20, 2) := by decide +kernel
theorem d_M_word_31 : decode prog_9_method_58_code 31 = .ok (.if_icmp .gt 17, 3) := by decide +kernel
theorem d_M_word_34 : decode prog_9_method_58_code 34 = .ok (.iload_n 2, 1) := by decide +kernel
theorem d_M_word_35 : decode prog_9_method_58_code 35 = .ok (.ifCond .lt 13, 3) := by decide +kernel
theorem d_M_word_38 : decode prog_9_method_58_code 38 = .ok (.iload_n 1, 1) := by decide +kernel
theorem d_M_word_39 : decode prog_9_method_58_code 39 = .ok (.bipush 23, 2) := by decide +kernel
theorem d_M_word_41 : decode prog_9_method_58_code 41 = .ok (.if_icmp .ne 9, 3) := by decide +kernel
theorem d_M_word_44 : decode prog_9_method_58_code 44 = .ok (.iload_n 2, 1) := by decide +kernel
theorem d_M_word_45 : decode prog_9_method_58_code 45 = .ok (.ifCond .ne 5, 3) := by decide +kernel
theorem d_M_word_48 : decode prog_9_method_58_code 48 = .ok (.iconst (-1), 1) := by decide +kernel
theorem d_M_word_49 : decode prog_9_method_58_code 49 = .ok (.ireturn, 1) := by decide +kernel
theorem d_M_word_50 : decode prog_9_method_58_code 50 = .ok (.aload_n 0, 1) := by decide +kernel
theorem d_M_word_51 : decode prog_9_method_58_code 51 = .ok (.getfield 238, 3) := by decide +kernel
theorem d_M_word_54 : decode prog_9_method_58_code 54 = .ok (.bipush 100, 2) := by decide +kernel
theorem d_M_word_56 : decode prog_9_method_58_code 56 = .ok (.if_icmp .ne 6, 3) := by decide +kernel
theorem d_M_word_59 : decode prog_9_method_58_code 59 = .ok (.bipush (-3), 2) := by decide +kernel
theorem d_M_word_61 : decode prog_9_method_58_code 61 = .ok (.ireturn, 1) := by decide +kernel
theorem d_M_word_62 : decode prog_9_method_58_code 62 = .ok (.aload_n 0, 1) := by decide +kernel
theorem d_M_word_63 : decode prog_9_method_58_code 63 = .ok (.getfield 51, 3) := by decide +kernel
theorem d_M_word_66 : decode prog_9_method_58_code 66 = .ok (.aload_n 0, 1) := by decide +kernel
theorem d_M_word_67 : decode prog_9_method_58_code 67 = .ok (.getfield 238, 3) := by decide +kernel
theorem d_M_word_70 : decode prog_9_method_58_code 70 = .ok (.iload_n 1, 1) := by decide +kernel
theorem d_M_word_71 : decode prog_9_method_58_code 71 = .ok (.iastore, 1) := by decide +kernel
theorem d_M_word_72 : decode prog_9_method_58_code 72 = .ok (.aload_n 0, 1) := by decide +kernel
theorem d_M_word_73 : decode prog_9_method_58_code 73 = .ok (.getfield 54, 3) := by decide +kernel
theorem d_M_word_76 : decode prog_9_method_58_code 76 = .ok (.aload_n 0, 1) := by decide +kernel
theorem d_M_word_77 : decode prog_9_method_58_code 77 = .ok (.getfield 238, 3) := by decide +kernel
theorem d_M_word_80 : decode prog_9_method_58_code 80 = .ok (.iload_n 2, 1) := by decide +kernel
theorem d_M_word_81 : decode prog_9_method_58_code 81 = .ok (.iastore, 1) := by decide +kernel
theorem d_M_word_82 : decode prog_9_method_58_code 82 = .ok (.aload_n 0, 1) := by decide +kernel
theorem d_M_word_83 : decode prog_9_method_58_code 83 = .ok (.dup, 1) := by decide +kernel
theorem d_M_word_84 : decode prog_9_method_58_code 84 = .ok (.getfield 238, 3) := by decide +kernel
theorem d_M_word_87 : decode prog_9_method_58_code 87 = .ok (.iconst 1, 1) := by decide +kernel
theorem d_M_word_88 : decode prog_9_method_58_code 88 = .ok (.iadd, 1) := by decide +kernel
theorem d_M_word_89 : decode prog_9_method_58_code 89 = .ok (.putfield 238, 3) := by decide +kernel
theorem d_M_word_92 : decode prog_9_method_58_code 92 = .ok (.aload_n 0, 1) := by decide +kernel
theorem d_M_word_93 : decode prog_9_method_58_code 93 = .ok (.getfield 238, 3) := by decide +kernel
theorem d_M_word_96 : decode prog_9_method_58_code 96 = .ok (.ireturn, 1) := by decide +kernel
def m_M_word_48 (G : Nat → Nat) (h : hp_H) : Option (Int32 × hp_H) := some ((-1 : Int32), h)
set_option maxRecDepth 100000 in
set_option maxHeartbeats 4000000 in
theorem j_M_word_48 {Z : hp_Z} (h : hp_H) : hp_J Y_M_word Z hp_rI h 48 [] [] (m_M_word_48 (hp_G Z)   h) := by
  unfold m_M_word_48
  refine hp_iconst (v := -1) d_M_word_48 (by decide) ?_
  exact hp_iret d_M_word_49 rfl
def m_M_word_50 (G : Nat → Nat) (a0 : Nat) (a1 : Int32) (a2 : Int32) (h : hp_H) : Option (Int32 × hp_H) := (hp_gI h a0 8 22).bind fun x1 => if x1 = (100 : Int32) then (some ((-3 : Int32), h)) else ((hp_gR h a0 8 20).bind fun x2 => (hp_gI h a0 8 22).bind fun x3 => (hp_sI h .int x2 x3 a1).bind fun h4 => (hp_gR h4 a0 8 21).bind fun x5 => (hp_gI h4 a0 8 22).bind fun x6 => (hp_sI h4 .int x5 x6 a2).bind fun h7 => (hp_gI h7 a0 8 22).bind fun x8 => (hp_p h7 a0 8 22 (.int (x8 + (1 : Int32)))).bind fun h9 => (hp_gI h9 a0 8 22).bind fun x10 => some (x10, h9))
set_option maxRecDepth 100000 in
set_option maxHeartbeats 4000000 in
theorem j_M_word_50 {Z : hp_Z} (a0 : Nat) (a1 : Int32) (a2 : Int32) (h : hp_H) : hp_J Y_M_word Z hp_rI h 50 [(0, .ref a0), (1, .int a1), (2, .int a2)] [] (m_M_word_50 (hp_G Z)  a0 a1 a2 h) := by
  unfold m_M_word_50
  refine hp_aload_n (x0 := 0) d_M_word_50 rfl rfl ?_
  refine hp_getI fl_M_238 d_M_word_51 fun x1 => ?_
  refine hp_bipush (v := 100) d_M_word_54 (by decide) ?_
  refine hp_icmp_ne (tgt := 62) d_M_word_56 (by decide) ?_ ?_
  · refine hp_bipush (v := -3) d_M_word_59 (by decide) ?_
    exact hp_iret d_M_word_61 rfl
  · refine hp_aload_n (x0 := 0) d_M_word_62 rfl rfl ?_
    refine hp_getR fl_M_51 d_M_word_63 fun x2 => ?_
    refine hp_aload_n (x0 := 0) d_M_word_66 rfl rfl ?_
    refine hp_getI fl_M_238 d_M_word_67 fun x3 => ?_
    refine hp_iload_n (x0 := 1) d_M_word_70 rfl rfl ?_
    refine hp_iast d_M_word_71 fun h4 => ?_
    refine hp_aload_n (x0 := 0) d_M_word_72 rfl rfl ?_
    refine hp_getR fl_M_54 d_M_word_73 fun x5 => ?_
    refine hp_aload_n (x0 := 0) d_M_word_76 rfl rfl ?_
    refine hp_getI fl_M_238 d_M_word_77 fun x6 => ?_
    refine hp_iload_n (x0 := 2) d_M_word_80 rfl rfl ?_
    refine hp_iast d_M_word_81 fun h7 => ?_
    refine hp_aload_n (x0 := 0) d_M_word_82 rfl rfl ?_
    refine hp_dup d_M_word_83 rfl ?_
    refine hp_getI fl_M_238 d_M_word_84 fun x8 => ?_
    refine hp_iconst (v := 1) d_M_word_87 (by decide) ?_
    refine hp_iadd d_M_word_88 ?_
    refine hp_put fl_M_238 (fun q => by cases q) rfl rfl d_M_word_89 fun h9 => ?_
    refine hp_aload_n (x0 := 0) d_M_word_92 rfl rfl ?_
    refine hp_getI fl_M_238 d_M_word_93 fun x10 => ?_
    exact hp_iret d_M_word_96 rfl
def m_M_word_38 (G : Nat → Nat) (a0 : Nat) (a1 : Int32) (a2 : Int32) (h : hp_H) : Option (Int32 × hp_H) := if a1 = (23 : Int32) then (if a2 = 0 then (m_M_word_48 G h) else (m_M_word_50 G a0 a1 a2 h)) else (m_M_word_50 G a0 a1 a2 h)
set_option maxRecDepth 100000 in
set_option maxHeartbeats 4000000 in
theorem j_M_word_38 {Z : hp_Z} (a0 : Nat) (a1 : Int32) (a2 : Int32) (h : hp_H) : hp_J Y_M_word Z hp_rI h 38 [(0, .ref a0), (1, .int a1), (2, .int a2)] [] (m_M_word_38 (hp_G Z)  a0 a1 a2 h) := by
  unfold m_M_word_38
  refine hp_iload_n (x0 := 1) d_M_word_38 rfl rfl ?_
  refine hp_bipush (v := 23) d_M_word_39 (by decide) ?_
  refine hp_icmp_ne (tgt := 50) d_M_word_41 (by decide) ?_ ?_
  · refine hp_iload_n (x0 := 2) d_M_word_44 rfl rfl ?_
    refine hp_if_ne (tgt := 50) d_M_word_45 (by decide) ?_ ?_
    · refine hp_sub [] rfl ?_
      exact j_M_word_48   _
    · exact j_M_word_50  _ _ _ _
  · exact j_M_word_50  _ _ _ _
def m_M_word_28 (G : Nat → Nat) (a0 : Nat) (a1 : Int32) (a2 : Int32) (h : hp_H) : Option (Int32 × hp_H) := if (20 : Int32) < a2 then (m_M_word_48 G h) else (if a2 < 0 then (m_M_word_48 G h) else (m_M_word_38 G a0 a1 a2 h))
set_option maxRecDepth 100000 in
set_option maxHeartbeats 4000000 in
theorem j_M_word_28 {Z : hp_Z} (a0 : Nat) (a1 : Int32) (a2 : Int32) (h : hp_H) : hp_J Y_M_word Z hp_rI h 28 [(0, .ref a0), (1, .int a1), (2, .int a2)] [] (m_M_word_28 (hp_G Z)  a0 a1 a2 h) := by
  unfold m_M_word_28
  refine hp_iload_n (x0 := 2) d_M_word_28 rfl rfl ?_
  refine hp_bipush (v := 20) d_M_word_29 (by decide) ?_
  refine hp_icmp_gt (tgt := 48) d_M_word_31 (by decide) ?_ ?_
  · refine hp_sub [] rfl ?_
    exact j_M_word_48   _
  · refine hp_iload_n (x0 := 2) d_M_word_34 rfl rfl ?_
    refine hp_if_lt (tgt := 48) d_M_word_35 (by decide) ?_ ?_
    · refine hp_sub [] rfl ?_
      exact j_M_word_48   _
    · exact j_M_word_38  _ _ _ _
def m_M_word (G : Nat → Nat) (a0 : Nat) (a1 : Int32) (a2 : Int32) (h : hp_H) : Option (Int32 × hp_H) := if a1 < 0 then (m_M_word_48 G h) else (if (41 : Int32) < a1 then (m_M_word_48 G h) else (if a1 = (23 : Int32) then (m_M_word_28 G a0 a1 a2 h) else (if a1 = (24 : Int32) then (m_M_word_28 G a0 a1 a2 h) else (if a1 = (29 : Int32) then (m_M_word_28 G a0 a1 a2 h) else (m_M_word_38 G a0 a1 a2 h)))))
set_option maxRecDepth 100000 in
set_option maxHeartbeats 4000000 in
theorem j_M_word_0 {Z : hp_Z} (a0 : Nat) (a1 : Int32) (a2 : Int32) (h : hp_H) : hp_J Y_M_word Z hp_rI h 0 [(0, .ref a0), (1, .int a1), (2, .int a2)] [] (m_M_word (hp_G Z)  a0 a1 a2 h) := by
  unfold m_M_word
  refine hp_iload_n (x0 := 1) d_M_word_0 rfl rfl ?_
  refine hp_if_lt (tgt := 48) d_M_word_1 (by decide) ?_ ?_
  · refine hp_sub [] rfl ?_
    exact j_M_word_48   _
  · refine hp_iload_n (x0 := 1) d_M_word_4 rfl rfl ?_
    refine hp_bipush (v := 41) d_M_word_5 (by decide) ?_
    refine hp_icmp_gt (tgt := 48) d_M_word_7 (by decide) ?_ ?_
    · refine hp_sub [] rfl ?_
      exact j_M_word_48   _
    · refine hp_iload_n (x0 := 1) d_M_word_10 rfl rfl ?_
      refine hp_bipush (v := 23) d_M_word_11 (by decide) ?_
      refine hp_icmp_eq (tgt := 28) d_M_word_13 (by decide) ?_ ?_
      · exact j_M_word_28  _ _ _ _
      · refine hp_iload_n (x0 := 1) d_M_word_16 rfl rfl ?_
        refine hp_bipush (v := 24) d_M_word_17 (by decide) ?_
        refine hp_icmp_eq (tgt := 28) d_M_word_19 (by decide) ?_ ?_
        · exact j_M_word_28  _ _ _ _
        · refine hp_iload_n (x0 := 1) d_M_word_22 rfl rfl ?_
          refine hp_bipush (v := 29) d_M_word_23 (by decide) ?_
          refine hp_icmp_ne (tgt := 38) d_M_word_25 (by decide) ?_ ?_
          · exact j_M_word_28  _ _ _ _
          · exact j_M_word_38  _ _ _ _
theorem t_M_word (l : Launch) (E : hp_E) (a0 : Nat) (a1 : Int32) (a2 : Int32) : hp_M l E y_M_word Y_M_word hp_rI [.ref a0, .int a1, .int a2] (m_M_word E.2.2.1 a0 a1 a2) := hp_M.of (plainFor_of_name (by decide)) ⟨rfl, rfl⟩ (Nat.le_of_ble_eq_true rfl) (fun Z h hE => by subst hE; exact j_M_word_0 _ _ _ h)
-- M_begin
theorem d_M_begin_0 : decode prog_9_method_59_code 0 = .ok (.aload_n 0, 1) := by decide +kernel
theorem d_M_begin_1 : decode prog_9_method_59_code 1 = .ok (.getfield 238, 3) := by decide +kernel
theorem d_M_begin_4 : decode prog_9_method_59_code 4 = .ok (.istore_n 1, 1) := by decide +kernel
theorem d_M_begin_5 : decode prog_9_method_59_code 5 = .ok (.aload_n 0, 1) := by decide +kernel
theorem d_M_begin_6 : decode prog_9_method_59_code 6 = .ok (.iconst 0, 1) := by decide +kernel
theorem d_M_begin_7 : decode prog_9_method_59_code 7 = .ok (.putfield 238, 3) := by decide +kernel
theorem d_M_begin_10 : decode prog_9_method_59_code 10 = .ok (.iload_n 1, 1) := by decide +kernel
theorem d_M_begin_11 : decode prog_9_method_59_code 11 = .ok (.ireturn, 1) := by decide +kernel
def m_M_begin (G : Nat → Nat) (a0 : Nat) (h : hp_H) : Option (Int32 × hp_H) := (hp_gI h a0 8 22).bind fun x1 => hp_nm x1 fun x2 => (hp_p h a0 8 22 (.int (0 : Int32))).bind fun h3 => some (x2, h3)
set_option maxRecDepth 100000 in
set_option maxHeartbeats 4000000 in
theorem j_M_begin_0 {Z : hp_Z} (a0 : Nat) (h : hp_H) : hp_J Y_M_begin Z hp_rI h 0 [(0, .ref a0)] [] (m_M_begin (hp_G Z)  a0 h) := by
  unfold m_M_begin
  refine hp_aload_n (x0 := 0) d_M_begin_0 rfl rfl ?_
  refine hp_getI fl_M_238 d_M_begin_1 fun x1 => ?_
  refine hp_istore_n (fun x2 => [(1, .int x2), (0, .ref a0)]) d_M_begin_4 rfl (by decide) (fun _ => rfl) fun x2 => ?_
  refine hp_aload_n (x0 := 1) d_M_begin_5 rfl rfl ?_
  refine hp_iconst (v := 0) d_M_begin_6 (by decide) ?_
  refine hp_put fl_M_238 (fun q => by cases q) rfl rfl d_M_begin_7 fun h3 => ?_
  refine hp_iload_n (x0 := 0) d_M_begin_10 rfl rfl ?_
  exact hp_iret d_M_begin_11 rfl
theorem t_M_begin (l : Launch) (E : hp_E) (a0 : Nat) : hp_M l E y_M_begin Y_M_begin hp_rI [.ref a0] (m_M_begin E.2.2.1 a0) := hp_M.of (plainFor_of_name (by decide)) ⟨rfl, rfl⟩ (Nat.le_of_ble_eq_true rfl) (fun Z h hE => by subst hE; exact j_M_begin_0 _ h)
-- M_bind
theorem d_M_bind_0 : decode prog_9_method_60_code 0 = .ok (.iload_n 1, 1) := by decide +kernel
theorem d_M_bind_1 : decode prog_9_method_60_code 1 = .ok (.ifCond .lt 21, 3) := by decide +kernel
theorem d_M_bind_4 : decode prog_9_method_60_code 4 = .ok (.iload_n 1, 1) := by decide +kernel
theorem d_M_bind_5 : decode prog_9_method_60_code 5 = .ok (.bipush 9, 2) := by decide +kernel
theorem d_M_bind_7 : decode prog_9_method_60_code 7 = .ok (.if_icmp .gt 15, 3) := by decide +kernel
theorem d_M_bind_10 : decode prog_9_method_60_code 10 = .ok (.iload_n 2, 1) := by decide +kernel
theorem d_M_bind_11 : decode prog_9_method_60_code 11 = .ok (.ifCond .lt 11, 3) := by decide +kernel
theorem d_M_bind_14 : decode prog_9_method_60_code 14 = .ok (.iload_n 2, 1) := by decide +kernel
theorem d_M_bind_15 : decode prog_9_method_60_code 15 = .ok (.aload_n 0, 1) := by decide +kernel
theorem d_M_bind_16 : decode prog_9_method_60_code 16 = .ok (.getfield 88, 3) := by decide +kernel
theorem d_M_bind_19 : decode prog_9_method_60_code 19 = .ok (.if_icmp .le 5, 3) := by decide +kernel
theorem d_M_bind_22 : decode prog_9_method_60_code 22 = .ok (.iconst 0, 1) := by decide +kernel
theorem d_M_bind_23 : decode prog_9_method_60_code 23 = .ok (.ireturn, 1) := by decide +kernel
theorem d_M_bind_24 : decode prog_9_method_60_code 24 = .ok (.aload_n 0, 1) := by decide +kernel
theorem d_M_bind_25 : decode prog_9_method_60_code 25 = .ok (.getfield 57, 3) := by decide +kernel
theorem d_M_bind_28 : decode prog_9_method_60_code 28 = .ok (.iload_n 1, 1) := by decide +kernel
theorem d_M_bind_29 : decode prog_9_method_60_code 29 = .ok (.iload_n 2, 1) := by decide +kernel
theorem d_M_bind_30 : decode prog_9_method_60_code 30 = .ok (.iastore, 1) := by decide +kernel
theorem d_M_bind_31 : decode prog_9_method_60_code 31 = .ok (.iconst 1, 1) := by decide +kernel
theorem d_M_bind_32 : decode prog_9_method_60_code 32 = .ok (.ireturn, 1) := by decide +kernel
def m_M_bind_22 (G : Nat → Nat) (h : hp_H) : Option (Int32 × hp_H) := hp_z (0 : Int32) h
set_option maxRecDepth 100000 in
set_option maxHeartbeats 4000000 in
theorem j_M_bind_22 {Z : hp_Z} (h : hp_H) : hp_J Y_M_bind Z hp_rI h 22 [] [] (m_M_bind_22 (hp_G Z)   h) := by
  unfold m_M_bind_22
  refine hp_iconst (v := 0) d_M_bind_22 (by decide) ?_
  exact hp_zret d_M_bind_23 rfl
def m_M_bind (G : Nat → Nat) (a0 : Nat) (a1 : Int32) (a2 : Int32) (h : hp_H) : Option (Int32 × hp_H) := if a1 < 0 then (m_M_bind_22 G h) else (if (9 : Int32) < a1 then (m_M_bind_22 G h) else (if a2 < 0 then (m_M_bind_22 G h) else ((hp_gI h a0 8 0).bind fun x1 => if a2 ≤ x1 then ((hp_gR h a0 8 23).bind fun x2 => (hp_sI h .int x2 a1 a2).bind fun h3 => hp_z (1 : Int32) h3) else (m_M_bind_22 G h))))
set_option maxRecDepth 100000 in
set_option maxHeartbeats 4000000 in
theorem j_M_bind_0 {Z : hp_Z} (a0 : Nat) (a1 : Int32) (a2 : Int32) (h : hp_H) : hp_J Y_M_bind Z hp_rI h 0 [(0, .ref a0), (1, .int a1), (2, .int a2)] [] (m_M_bind (hp_G Z)  a0 a1 a2 h) := by
  unfold m_M_bind
  refine hp_iload_n (x0 := 1) d_M_bind_0 rfl rfl ?_
  refine hp_if_lt (tgt := 22) d_M_bind_1 (by decide) ?_ ?_
  · refine hp_sub [] rfl ?_
    exact j_M_bind_22   _
  · refine hp_iload_n (x0 := 1) d_M_bind_4 rfl rfl ?_
    refine hp_bipush (v := 9) d_M_bind_5 (by decide) ?_
    refine hp_icmp_gt (tgt := 22) d_M_bind_7 (by decide) ?_ ?_
    · refine hp_sub [] rfl ?_
      exact j_M_bind_22   _
    · refine hp_iload_n (x0 := 2) d_M_bind_10 rfl rfl ?_
      refine hp_if_lt (tgt := 22) d_M_bind_11 (by decide) ?_ ?_
      · refine hp_sub [] rfl ?_
        exact j_M_bind_22   _
      · refine hp_iload_n (x0 := 2) d_M_bind_14 rfl rfl ?_
        refine hp_aload_n (x0 := 0) d_M_bind_15 rfl rfl ?_
        refine hp_getI fl_M_88 d_M_bind_16 fun x1 => ?_
        refine hp_icmp_le (tgt := 24) d_M_bind_19 (by decide) ?_ ?_
        · refine hp_aload_n (x0 := 0) d_M_bind_24 rfl rfl ?_
          refine hp_getR fl_M_57 d_M_bind_25 fun x2 => ?_
          refine hp_iload_n (x0 := 1) d_M_bind_28 rfl rfl ?_
          refine hp_iload_n (x0 := 2) d_M_bind_29 rfl rfl ?_
          refine hp_iast d_M_bind_30 fun h3 => ?_
          refine hp_iconst (v := 1) d_M_bind_31 (by decide) ?_
          exact hp_zret d_M_bind_32 rfl
        · refine hp_sub [] rfl ?_
          exact j_M_bind_22   _
theorem t_M_bind (l : Launch) (E : hp_E) (a0 : Nat) (a1 : Int32) (a2 : Int32) : hp_M l E y_M_bind Y_M_bind hp_rI [.ref a0, .int a1, .int a2] (m_M_bind E.2.2.1 a0 a1 a2) := hp_M.of (plainFor_of_name (by decide)) ⟨rfl, rfl⟩ (Nat.le_of_ble_eq_true rfl) (fun Z h hE => by subst hE; exact j_M_bind_0 _ _ _ h)
-- M_bindingOf
theorem d_M_bindingOf_0 : decode prog_9_method_64_code 0 = .ok (.iload_n 1, 1) := by decide +kernel
theorem d_M_bindingOf_1 : decode prog_9_method_64_code 1 = .ok (.ifCond .lt 18, 3) := by decide +kernel
theorem d_M_bindingOf_4 : decode prog_9_method_64_code 4 = .ok (.iload_n 1, 1) := by decide +kernel
theorem d_M_bindingOf_5 : decode prog_9_method_64_code 5 = .ok (.bipush 10, 2) := by decide +kernel
theorem d_M_bindingOf_7 : decode prog_9_method_64_code 7 = .ok (.if_icmp .ge 12, 3) := by decide +kernel
theorem d_M_bindingOf_10 : decode prog_9_method_64_code 10 = .ok (.aload_n 0, 1) := by decide +kernel
theorem d_M_bindingOf_11 : decode prog_9_method_64_code 11 = .ok (.getfield 57, 3) := by decide +kernel
theorem d_M_bindingOf_14 : decode prog_9_method_64_code 14 = .ok (.iload_n 1, 1) := by decide +kernel
theorem d_M_bindingOf_15 : decode prog_9_method_64_code 15 = .ok (.iaload, 1) := by decide +kernel
theorem d_M_bindingOf_16 : decode prog_9_method_64_code 16 = .ok (.goto 4, 3) := by decide +kernel
theorem d_M_bindingOf_19 : decode prog_9_method_64_code 19 = .ok (.iconst 0, 1) := by decide +kernel
theorem d_M_bindingOf_20 : decode prog_9_method_64_code 20 = .ok (.ireturn, 1) := by decide +kernel
def m_M_bindingOf_20 (G : Nat → Nat) (s0 : Int32) (h : hp_H) : Option (Int32 × hp_H) := some (s0, h)
set_option maxRecDepth 100000 in
set_option maxHeartbeats 4000000 in
theorem j_M_bindingOf_20 {Z : hp_Z} (s0 : Int32) (h : hp_H) : hp_J Y_M_bindingOf Z hp_rI h 20 [] [.int s0] (m_M_bindingOf_20 (hp_G Z)  s0 h) := by
  unfold m_M_bindingOf_20
  exact hp_iret d_M_bindingOf_20 rfl
def m_M_bindingOf_19 (G : Nat → Nat) (h : hp_H) : Option (Int32 × hp_H) := m_M_bindingOf_20 G (0 : Int32) h
set_option maxRecDepth 100000 in
set_option maxHeartbeats 4000000 in
theorem j_M_bindingOf_19 {Z : hp_Z} (h : hp_H) : hp_J Y_M_bindingOf Z hp_rI h 19 [] [] (m_M_bindingOf_19 (hp_G Z)   h) := by
  unfold m_M_bindingOf_19
  refine hp_iconst (v := 0) d_M_bindingOf_19 (by decide) ?_
  exact j_M_bindingOf_20  _ _
def m_M_bindingOf (G : Nat → Nat) (a0 : Nat) (a1 : Int32) (h : hp_H) : Option (Int32 × hp_H) := if a1 < 0 then (m_M_bindingOf_19 G h) else (if (10 : Int32) ≤ a1 then (m_M_bindingOf_19 G h) else ((hp_gR h a0 8 23).bind fun x1 => (hp_aI h .int x1 a1).bind fun x2 => m_M_bindingOf_20 G x2 h))
set_option maxRecDepth 100000 in
set_option maxHeartbeats 4000000 in
theorem j_M_bindingOf_0 {Z : hp_Z} (a0 : Nat) (a1 : Int32) (h : hp_H) : hp_J Y_M_bindingOf Z hp_rI h 0 [(0, .ref a0), (1, .int a1)] [] (m_M_bindingOf (hp_G Z)  a0 a1 h) := by
  unfold m_M_bindingOf
  refine hp_iload_n (x0 := 1) d_M_bindingOf_0 rfl rfl ?_
  refine hp_if_lt (tgt := 19) d_M_bindingOf_1 (by decide) ?_ ?_
  · refine hp_sub [] rfl ?_
    exact j_M_bindingOf_19   _
  · refine hp_iload_n (x0 := 1) d_M_bindingOf_4 rfl rfl ?_
    refine hp_bipush (v := 10) d_M_bindingOf_5 (by decide) ?_
    refine hp_icmp_ge (tgt := 19) d_M_bindingOf_7 (by decide) ?_ ?_
    · refine hp_sub [] rfl ?_
      exact j_M_bindingOf_19   _
    · refine hp_aload_n (x0 := 0) d_M_bindingOf_10 rfl rfl ?_
      refine hp_getR fl_M_57 d_M_bindingOf_11 fun x1 => ?_
      refine hp_iload_n (x0 := 1) d_M_bindingOf_14 rfl rfl ?_
      refine hp_iald d_M_bindingOf_15 fun x2 => ?_
      refine hp_goto (tgt := 20) d_M_bindingOf_16 (by decide) ?_
      refine hp_sub [] rfl ?_
      exact j_M_bindingOf_20  _ _
theorem t_M_bindingOf (l : Launch) (E : hp_E) (a0 : Nat) (a1 : Int32) : hp_M l E y_M_bindingOf Y_M_bindingOf hp_rI [.ref a0, .int a1] (m_M_bindingOf E.2.2.1 a0 a1) := hp_M.of (plainFor_of_name (by decide)) ⟨rfl, rfl⟩ (Nat.le_of_ble_eq_true rfl) (fun Z h hE => by subst hE; exact j_M_bindingOf_0 _ _ h)
-- M_given
theorem d_M_given_0 : decode prog_9_method_44_code 0 = .ok (.iload_n 1, 1) := by decide +kernel
theorem d_M_given_1 : decode prog_9_method_44_code 1 = .ok (.ifCond .ge 8, 3) := by decide +kernel
theorem d_M_given_4 : decode prog_9_method_44_code 4 = .ok (.bipush (-4), 2) := by decide +kernel
theorem d_M_given_6 : decode prog_9_method_44_code 6 = .ok (.goto 17, 3) := by decide +kernel
theorem d_M_given_9 : decode prog_9_method_44_code 9 = .ok (.aload_n 0, 1) := by decide +kernel
theorem d_M_given_10 : decode prog_9_method_44_code 10 = .ok (.iload_n 1, 1) := by decide +kernel
theorem d_M_given_11 : decode prog_9_method_44_code 11 = .ok (.iconst 1, 1) := by decide +kernel
theorem d_M_given_12 : decode prog_9_method_44_code 12 = .ok (.if_icmp .ne 7, 3) := by decide +kernel
theorem d_M_given_15 : decode prog_9_method_44_code 15 = .ok (.iconst 1, 1) := by decide +kernel
theorem d_M_given_16 : decode prog_9_method_44_code 16 = .ok (.goto 4, 3) := by decide +kernel
theorem d_M_given_19 : decode prog_9_method_44_code 19 = .ok (.iconst 0, 1) := by decide +kernel
theorem d_M_given_20 : decode prog_9_method_44_code 20 = .ok (.invokevirtual 185, 3) := by decide +kernel
theorem d_M_given_23 : decode prog_9_method_44_code 23 = .ok (.ireturn, 1) := by decide +kernel
def m_M_given_23 (G : Nat → Nat) (s0 : Int32) (h : hp_H) : Option (Int32 × hp_H) := some (s0, h)
set_option maxRecDepth 100000 in
set_option maxHeartbeats 4000000 in
theorem j_M_given_23 {Z : hp_Z} (s0 : Int32) (h : hp_H) : hp_J Y_M_given Z hp_rI h 23 [] [.int s0] (m_M_given_23 (hp_G Z)  s0 h) := by
  unfold m_M_given_23
  exact hp_iret d_M_given_23 rfl
def m_M_given_20 (G : Nat → Nat) (s0 : Int32) (s1 : Nat) (h : hp_H) : Option (Int32 × hp_H) := (hp_vck h s1 8 (m_M_truth G s1 s0 h)).bind fun q1 => m_M_given_23 G q1.1 q1.2
set_option maxRecDepth 100000 in
set_option maxHeartbeats 4000000 in
theorem j_M_given_20 {Z : hp_Z} (s0 : Int32) (s1 : Nat) (h : hp_H) : hp_J Y_M_given Z hp_rI h 20 [] [.int s0, .ref s1] (m_M_given_20 (hp_G Z)  s0 s1 h) := by
  unfold m_M_given_20
  refine hp_callI (hp_crV (ci := 8) (t_M_truth _ _ _ _) cw_M_185 rfl ⟨w_1003, w_1004⟩ (by decide) rfl rfl (Nat.le_of_ble_eq_true rfl) d_M_given_20) fun q1 => ?_
  exact j_M_given_23  _ _
def m_M_given (G : Nat → Nat) (a0 : Nat) (a1 : Int32) (h : hp_H) : Option (Int32 × hp_H) := if 0 ≤ a1 then (if a1 = (1 : Int32) then (m_M_given_20 G (1 : Int32) a0 h) else (m_M_given_20 G (0 : Int32) a0 h)) else (m_M_given_23 G (-4 : Int32) h)
set_option maxRecDepth 100000 in
set_option maxHeartbeats 4000000 in
theorem j_M_given_0 {Z : hp_Z} (a0 : Nat) (a1 : Int32) (h : hp_H) : hp_J Y_M_given Z hp_rI h 0 [(0, .ref a0), (1, .int a1)] [] (m_M_given (hp_G Z)  a0 a1 h) := by
  unfold m_M_given
  refine hp_iload_n (x0 := 1) d_M_given_0 rfl rfl ?_
  refine hp_if_ge (tgt := 9) d_M_given_1 (by decide) ?_ ?_
  · refine hp_aload_n (x0 := 0) d_M_given_9 rfl rfl ?_
    refine hp_iload_n (x0 := 1) d_M_given_10 rfl rfl ?_
    refine hp_iconst (v := 1) d_M_given_11 (by decide) ?_
    refine hp_icmp_ne (tgt := 19) d_M_given_12 (by decide) ?_ ?_
    · refine hp_iconst (v := 1) d_M_given_15 (by decide) ?_
      refine hp_goto (tgt := 20) d_M_given_16 (by decide) ?_
      refine hp_sub [] rfl ?_
      exact j_M_given_20  _ _ _
    · refine hp_iconst (v := 0) d_M_given_19 (by decide) ?_
      refine hp_sub [] rfl ?_
      exact j_M_given_20  _ _ _
  · refine hp_bipush (v := -4) d_M_given_4 (by decide) ?_
    refine hp_goto (tgt := 23) d_M_given_6 (by decide) ?_
    refine hp_sub [] rfl ?_
    exact j_M_given_23  _ _
theorem t_M_given (l : Launch) (E : hp_E) (a0 : Nat) (a1 : Int32) : hp_M l E y_M_given Y_M_given hp_rI [.ref a0, .int a1] (m_M_given E.2.2.1 a0 a1) := hp_M.of (plainFor_of_name (by decide)) ⟨rfl, rfl⟩ (Nat.le_of_ble_eq_true rfl) (fun Z h hE => by subst hE; exact j_M_given_0 _ _ h)
-- M_bit
theorem d_M_bit_0 : decode prog_9_method_39_code 0 = .ok (.iload_n 0, 1) := by decide +kernel
theorem d_M_bit_1 : decode prog_9_method_39_code 1 = .ok (.ifCond .eq 7, 3) := by decide +kernel
theorem d_M_bit_4 : decode prog_9_method_39_code 4 = .ok (.iconst 1, 1) := by decide +kernel
theorem d_M_bit_5 : decode prog_9_method_39_code 5 = .ok (.goto 4, 3) := by decide +kernel
theorem d_M_bit_8 : decode prog_9_method_39_code 8 = .ok (.iconst 0, 1) := by decide +kernel
theorem d_M_bit_9 : decode prog_9_method_39_code 9 = .ok (.ireturn, 1) := by decide +kernel
def m_M_bit_9 (G : Nat → Nat) (s0 : Int32) (h : hp_H) : Option (Int32 × hp_H) := some (s0, h)
set_option maxRecDepth 100000 in
set_option maxHeartbeats 4000000 in
theorem j_M_bit_9 {Z : hp_Z} (s0 : Int32) (h : hp_H) : hp_J Y_M_bit Z hp_rI h 9 [] [.int s0] (m_M_bit_9 (hp_G Z)  s0 h) := by
  unfold m_M_bit_9
  exact hp_iret d_M_bit_9 rfl
def m_M_bit (G : Nat → Nat) (a0 : Int32) (h : hp_H) : Option (Int32 × hp_H) := if a0 = 0 then (m_M_bit_9 G (0 : Int32) h) else (m_M_bit_9 G (1 : Int32) h)
set_option maxRecDepth 100000 in
set_option maxHeartbeats 4000000 in
theorem j_M_bit_0 {Z : hp_Z} (a0 : Int32) (h : hp_H) : hp_J Y_M_bit Z hp_rI h 0 [(0, .int a0)] [] (m_M_bit (hp_G Z)  a0 h) := by
  unfold m_M_bit
  refine hp_iload_n (x0 := 0) d_M_bit_0 rfl rfl ?_
  refine hp_if_eq (tgt := 8) d_M_bit_1 (by decide) ?_ ?_
  · refine hp_iconst (v := 0) d_M_bit_8 (by decide) ?_
    refine hp_sub [] rfl ?_
    exact j_M_bit_9  _ _
  · refine hp_iconst (v := 1) d_M_bit_4 (by decide) ?_
    refine hp_goto (tgt := 9) d_M_bit_5 (by decide) ?_
    refine hp_sub [] rfl ?_
    exact j_M_bit_9  _ _
theorem t_M_bit (l : Launch) (E : hp_E) (a0 : Int32) : hp_M l E y_M_bit Y_M_bit hp_rI [.int a0] (m_M_bit E.2.2.1 a0) := hp_M.of (plainFor_of_name (by decide)) ⟨rfl, rfl⟩ (Nat.le_of_ble_eq_true rfl) (fun Z h hE => by subst hE; exact j_M_bit_0 _ h)
-- M_truthOf
theorem d_M_truthOf_0 : decode prog_9_method_40_code 0 = .ok (.iload_n 1, 1) := by decide +kernel
theorem d_M_truthOf_1 : decode prog_9_method_40_code 1 = .ok (.ifCond .gt 6, 3) := by decide +kernel
theorem d_M_truthOf_4 : decode prog_9_method_40_code 4 = .ok (.bipush (-4), 2) := by decide +kernel
theorem d_M_truthOf_6 : decode prog_9_method_40_code 6 = .ok (.ireturn, 1) := by decide +kernel
theorem d_M_truthOf_7 : decode prog_9_method_40_code 7 = .ok (.aload_n 0, 1) := by decide +kernel
theorem d_M_truthOf_8 : decode prog_9_method_40_code 8 = .ok (.getfield 7, 3) := by decide +kernel
theorem d_M_truthOf_11 : decode prog_9_method_40_code 11 = .ok (.iload_n 1, 1) := by decide +kernel
theorem d_M_truthOf_12 : decode prog_9_method_40_code 12 = .ok (.iaload, 1) := by decide +kernel
theorem d_M_truthOf_13 : decode prog_9_method_40_code 13 = .ok (.bipush 8, 2) := by decide +kernel
theorem d_M_truthOf_15 : decode prog_9_method_40_code 15 = .ok (.if_icmp .ne 10, 3) := by decide +kernel
theorem d_M_truthOf_18 : decode prog_9_method_40_code 18 = .ok (.aload_n 0, 1) := by decide +kernel
theorem d_M_truthOf_19 : decode prog_9_method_40_code 19 = .ok (.getfield 13, 3) := by decide +kernel
theorem d_M_truthOf_22 : decode prog_9_method_40_code 22 = .ok (.iload_n 1, 1) := by decide +kernel
theorem d_M_truthOf_23 : decode prog_9_method_40_code 23 = .ok (.iaload, 1) := by decide +kernel
theorem d_M_truthOf_24 : decode prog_9_method_40_code 24 = .ok (.ireturn, 1) := by decide +kernel
theorem d_M_truthOf_25 : decode prog_9_method_40_code 25 = .ok (.aload_n 0, 1) := by decide +kernel
theorem d_M_truthOf_26 : decode prog_9_method_40_code 26 = .ok (.iload_n 1, 1) := by decide +kernel
theorem d_M_truthOf_27 : decode prog_9_method_40_code 27 = .ok (.invokevirtual 168, 3) := by decide +kernel
theorem d_M_truthOf_30 : decode prog_9_method_40_code 30 = .ok (.ifCond .eq 21, 3) := by decide +kernel
theorem d_M_truthOf_33 : decode prog_9_method_40_code 33 = .ok (.aload_n 0, 1) := by decide +kernel
theorem d_M_truthOf_34 : decode prog_9_method_40_code 34 = .ok (.getfield 16, 3) := by decide +kernel
theorem d_M_truthOf_37 : decode prog_9_method_40_code 37 = .ok (.iload_n 1, 1) := by decide +kernel
theorem d_M_truthOf_38 : decode prog_9_method_40_code 38 = .ok (.iaload, 1) := by decide +kernel
theorem d_M_truthOf_39 : decode prog_9_method_40_code 39 = .ok (.ifCond .eq 7, 3) := by decide +kernel
theorem d_M_truthOf_42 : decode prog_9_method_40_code 42 = .ok (.iconst 1, 1) := by decide +kernel
theorem d_M_truthOf_43 : decode prog_9_method_40_code 43 = .ok (.goto 4, 3) := by decide +kernel
theorem d_M_truthOf_46 : decode prog_9_method_40_code 46 = .ok (.iconst 0, 1) := by decide +kernel
theorem d_M_truthOf_47 : decode prog_9_method_40_code 47 = .ok (.invokestatic 181, 3) := by decide +kernel
theorem d_M_truthOf_50 : decode prog_9_method_40_code 50 = .ok (.ireturn, 1) := by decide +kernel
theorem d_M_truthOf_51 : decode prog_9_method_40_code 51 = .ok (.aload_n 0, 1) := by decide +kernel
theorem d_M_truthOf_52 : decode prog_9_method_40_code 52 = .ok (.getfield 7, 3) := by decide +kernel
theorem d_M_truthOf_55 : decode prog_9_method_40_code 55 = .ok (.iload_n 1, 1) := by decide +kernel
theorem d_M_truthOf_56 : decode prog_9_method_40_code 56 = .ok (.iaload, 1) := by decide +kernel
theorem d_M_truthOf_57 : decode prog_9_method_40_code 57 = .ok (.iconst 5, 1) := by decide +kernel
theorem d_M_truthOf_58 : decode prog_9_method_40_code 58 = .ok (.if_icmp .ne 23, 3) := by decide +kernel
theorem d_M_truthOf_61 : decode prog_9_method_40_code 61 = .ok (.aload_n 0, 1) := by decide +kernel
theorem d_M_truthOf_62 : decode prog_9_method_40_code 62 = .ok (.getfield 26, 3) := by decide +kernel
theorem d_M_truthOf_65 : decode prog_9_method_40_code 65 = .ok (.iload_n 1, 1) := by decide +kernel
theorem d_M_truthOf_66 : decode prog_9_method_40_code 66 = .ok (.iaload, 1) := by decide +kernel
theorem d_M_truthOf_67 : decode prog_9_method_40_code 67 = .ok (.ifCond .le 7, 3) := by decide +kernel
theorem d_M_truthOf_70 : decode prog_9_method_40_code 70 = .ok (.iconst 1, 1) := by decide +kernel
theorem d_M_truthOf_71 : decode prog_9_method_40_code 71 = .ok (.goto 4, 3) := by decide +kernel
theorem d_M_truthOf_74 : decode prog_9_method_40_code 74 = .ok (.iconst 0, 1) := by decide +kernel
theorem d_M_truthOf_75 : decode prog_9_method_40_code 75 = .ok (.invokestatic 181, 3) := by decide +kernel
theorem d_M_truthOf_78 : decode prog_9_method_40_code 78 = .ok (.goto 5, 3) := by decide +kernel
theorem d_M_truthOf_81 : decode prog_9_method_40_code 81 = .ok (.bipush (-4), 2) := by decide +kernel
theorem d_M_truthOf_83 : decode prog_9_method_40_code 83 = .ok (.ireturn, 1) := by decide +kernel
def m_M_truthOf_47 (G : Nat → Nat) (s0 : Int32) (h : hp_H) : Option (Int32 × hp_H) := (m_M_bit G s0 h).bind fun q1 => some (q1.1, q1.2)
set_option maxRecDepth 100000 in
set_option maxHeartbeats 4000000 in
theorem j_M_truthOf_47 {Z : hp_Z} (s0 : Int32) (h : hp_H) : hp_J Y_M_truthOf Z hp_rI h 47 [] [.int s0] (m_M_truthOf_47 (hp_G Z)  s0 h) := by
  unfold m_M_truthOf_47
  refine hp_callI (hp_crS (t_M_bit _ _ _) cw_M_181 w_1115 (by decide) rfl rfl (Nat.le_of_ble_eq_true rfl) d_M_truthOf_47) fun q1 => ?_
  exact hp_iret d_M_truthOf_50 rfl
def m_M_truthOf_83 (G : Nat → Nat) (s0 : Int32) (h : hp_H) : Option (Int32 × hp_H) := some (s0, h)
set_option maxRecDepth 100000 in
set_option maxHeartbeats 4000000 in
theorem j_M_truthOf_83 {Z : hp_Z} (s0 : Int32) (h : hp_H) : hp_J Y_M_truthOf Z hp_rI h 83 [] [.int s0] (m_M_truthOf_83 (hp_G Z)  s0 h) := by
  unfold m_M_truthOf_83
  exact hp_iret d_M_truthOf_83 rfl
def m_M_truthOf_75 (G : Nat → Nat) (s0 : Int32) (h : hp_H) : Option (Int32 × hp_H) := (m_M_bit G s0 h).bind fun q1 => m_M_truthOf_83 G q1.1 q1.2
set_option maxRecDepth 100000 in
set_option maxHeartbeats 4000000 in
theorem j_M_truthOf_75 {Z : hp_Z} (s0 : Int32) (h : hp_H) : hp_J Y_M_truthOf Z hp_rI h 75 [] [.int s0] (m_M_truthOf_75 (hp_G Z)  s0 h) := by
  unfold m_M_truthOf_75
  refine hp_callI (hp_crS (t_M_bit _ _ _) cw_M_181 w_1115 (by decide) rfl rfl (Nat.le_of_ble_eq_true rfl) d_M_truthOf_75) fun q1 => ?_
  refine hp_goto (tgt := 83) d_M_truthOf_78 (by decide) ?_
  exact j_M_truthOf_83  _ _
def m_M_truthOf (G : Nat → Nat) (a0 : Nat) (a1 : Int32) (h : hp_H) : Option (Int32 × hp_H) := if 0 < a1 then ((hp_gR h a0 8 1).bind fun x1 => (hp_aI h .int x1 a1).bind fun x2 => if x2 = (8 : Int32) then ((hp_gR h a0 8 2).bind fun x10 => (hp_aI h .int x10 a1).bind fun x11 => some (x11, h)) else ((hp_vck h a0 8 (m_M_isNumber G a0 a1 h)).bind fun q3 => if q3.1 = 0 then ((hp_gR q3.2 a0 8 1).bind fun x4 => (hp_aI q3.2 .int x4 a1).bind fun x5 => if x5 = (5 : Int32) then ((hp_gR q3.2 a0 8 6).bind fun x6 => (hp_aI q3.2 .int x6 a1).bind fun x7 => if x7 ≤ 0 then (m_M_truthOf_75 G (0 : Int32) q3.2) else (m_M_truthOf_75 G (1 : Int32) q3.2)) else (m_M_truthOf_83 G (-4 : Int32) q3.2)) else ((hp_gR q3.2 a0 8 3).bind fun x8 => (hp_aI q3.2 .int x8 a1).bind fun x9 => if x9 = 0 then (m_M_truthOf_47 G (0 : Int32) q3.2) else (m_M_truthOf_47 G (1 : Int32) q3.2)))) else (some ((-4 : Int32), h))
set_option maxRecDepth 100000 in
set_option maxHeartbeats 4000000 in
theorem j_M_truthOf_0 {Z : hp_Z} (a0 : Nat) (a1 : Int32) (h : hp_H) : hp_J Y_M_truthOf Z hp_rI h 0 [(0, .ref a0), (1, .int a1)] [] (m_M_truthOf (hp_G Z)  a0 a1 h) := by
  unfold m_M_truthOf
  refine hp_iload_n (x0 := 1) d_M_truthOf_0 rfl rfl ?_
  refine hp_if_gt (tgt := 7) d_M_truthOf_1 (by decide) ?_ ?_
  · refine hp_aload_n (x0 := 0) d_M_truthOf_7 rfl rfl ?_
    refine hp_getR fl_M_7 d_M_truthOf_8 fun x1 => ?_
    refine hp_iload_n (x0 := 1) d_M_truthOf_11 rfl rfl ?_
    refine hp_iald d_M_truthOf_12 fun x2 => ?_
    refine hp_bipush (v := 8) d_M_truthOf_13 (by decide) ?_
    refine hp_icmp_ne (tgt := 25) d_M_truthOf_15 (by decide) ?_ ?_
    · refine hp_aload_n (x0 := 0) d_M_truthOf_18 rfl rfl ?_
      refine hp_getR fl_M_13 d_M_truthOf_19 fun x10 => ?_
      refine hp_iload_n (x0 := 1) d_M_truthOf_22 rfl rfl ?_
      refine hp_iald d_M_truthOf_23 fun x11 => ?_
      exact hp_iret d_M_truthOf_24 rfl
    · refine hp_aload_n (x0 := 0) d_M_truthOf_25 rfl rfl ?_
      refine hp_iload_n (x0 := 1) d_M_truthOf_26 rfl rfl ?_
      refine hp_callI (hp_crV (ci := 8) (t_M_isNumber _ _ _ _) cw_M_168 rfl ⟨w_1052, ws_47⟩ (by decide) rfl rfl (Nat.le_of_ble_eq_true rfl) d_M_truthOf_27) fun q3 => ?_
      refine hp_if_eq (tgt := 51) d_M_truthOf_30 (by decide) ?_ ?_
      · refine hp_aload_n (x0 := 0) d_M_truthOf_51 rfl rfl ?_
        refine hp_getR fl_M_7 d_M_truthOf_52 fun x4 => ?_
        refine hp_iload_n (x0 := 1) d_M_truthOf_55 rfl rfl ?_
        refine hp_iald d_M_truthOf_56 fun x5 => ?_
        refine hp_iconst (v := 5) d_M_truthOf_57 (by decide) ?_
        refine hp_icmp_ne (tgt := 81) d_M_truthOf_58 (by decide) ?_ ?_
        · refine hp_aload_n (x0 := 0) d_M_truthOf_61 rfl rfl ?_
          refine hp_getR fl_M_26 d_M_truthOf_62 fun x6 => ?_
          refine hp_iload_n (x0 := 1) d_M_truthOf_65 rfl rfl ?_
          refine hp_iald d_M_truthOf_66 fun x7 => ?_
          refine hp_if_le (tgt := 74) d_M_truthOf_67 (by decide) ?_ ?_
          · refine hp_iconst (v := 0) d_M_truthOf_74 (by decide) ?_
            refine hp_sub [] rfl ?_
            exact j_M_truthOf_75  _ _
          · refine hp_iconst (v := 1) d_M_truthOf_70 (by decide) ?_
            refine hp_goto (tgt := 75) d_M_truthOf_71 (by decide) ?_
            refine hp_sub [] rfl ?_
            exact j_M_truthOf_75  _ _
        · refine hp_bipush (v := -4) d_M_truthOf_81 (by decide) ?_
          refine hp_sub [] rfl ?_
          exact j_M_truthOf_83  _ _
      · refine hp_aload_n (x0 := 0) d_M_truthOf_33 rfl rfl ?_
        refine hp_getR fl_M_16 d_M_truthOf_34 fun x8 => ?_
        refine hp_iload_n (x0 := 1) d_M_truthOf_37 rfl rfl ?_
        refine hp_iald d_M_truthOf_38 fun x9 => ?_
        refine hp_if_eq (tgt := 46) d_M_truthOf_39 (by decide) ?_ ?_
        · refine hp_iconst (v := 0) d_M_truthOf_46 (by decide) ?_
          refine hp_sub [] rfl ?_
          exact j_M_truthOf_47  _ _
        · refine hp_iconst (v := 1) d_M_truthOf_42 (by decide) ?_
          refine hp_goto (tgt := 47) d_M_truthOf_43 (by decide) ?_
          refine hp_sub [] rfl ?_
          exact j_M_truthOf_47  _ _
  · refine hp_bipush (v := -4) d_M_truthOf_4 (by decide) ?_
    exact hp_iret d_M_truthOf_6 rfl
theorem t_M_truthOf (l : Launch) (E : hp_E) (a0 : Nat) (a1 : Int32) : hp_M l E y_M_truthOf Y_M_truthOf hp_rI [.ref a0, .int a1] (m_M_truthOf E.2.2.1 a0 a1) := hp_M.of (plainFor_of_name (by decide)) ⟨rfl, rfl⟩ (Nat.le_of_ble_eq_true rfl) (fun Z h hE => by subst hE; exact j_M_truthOf_0 _ _ h)
-- M_both
theorem d_M_both_0 : decode prog_9_method_63_code 0 = .ok (.aload_n 0, 1) := by decide +kernel
theorem d_M_both_1 : decode prog_9_method_63_code 1 = .ok (.iload_n 1, 1) := by decide +kernel
theorem d_M_both_2 : decode prog_9_method_63_code 2 = .ok (.invokevirtual 244, 3) := by decide +kernel
theorem d_M_both_5 : decode prog_9_method_63_code 5 = .ok (.istore 4, 2) := by decide +kernel
theorem d_M_both_7 : decode prog_9_method_63_code 7 = .ok (.aload_n 0, 1) := by decide +kernel
theorem d_M_both_8 : decode prog_9_method_63_code 8 = .ok (.iload_n 2, 1) := by decide +kernel
theorem d_M_both_9 : decode prog_9_method_63_code 9 = .ok (.invokevirtual 244, 3) := by decide +kernel
theorem d_M_both_12 : decode prog_9_method_63_code 12 = .ok (.istore 5, 2) := by decide +kernel
theorem d_M_both_14 : decode prog_9_method_63_code 14 = .ok (.iload 4, 2) := by decide +kernel
theorem d_M_both_16 : decode prog_9_method_63_code 16 = .ok (.iload_n 3, 1) := by decide +kernel
theorem d_M_both_17 : decode prog_9_method_63_code 17 = .ok (.if_icmp .eq 9, 3) := by decide +kernel
theorem d_M_both_20 : decode prog_9_method_63_code 20 = .ok (.iload 5, 2) := by decide +kernel
theorem d_M_both_22 : decode prog_9_method_63_code 22 = .ok (.iload_n 3, 1) := by decide +kernel
theorem d_M_both_23 : decode prog_9_method_63_code 23 = .ok (.if_icmp .ne 9, 3) := by decide +kernel
theorem d_M_both_26 : decode prog_9_method_63_code 26 = .ok (.aload_n 0, 1) := by decide +kernel
theorem d_M_both_27 : decode prog_9_method_63_code 27 = .ok (.iload_n 3, 1) := by decide +kernel
theorem d_M_both_28 : decode prog_9_method_63_code 28 = .ok (.invokevirtual 247, 3) := by decide +kernel
theorem d_M_both_31 : decode prog_9_method_63_code 31 = .ok (.ireturn, 1) := by decide +kernel
theorem d_M_both_32 : decode prog_9_method_63_code 32 = .ok (.iload 4, 2) := by decide +kernel
theorem d_M_both_34 : decode prog_9_method_63_code 34 = .ok (.ifCond .lt 8, 3) := by decide +kernel
theorem d_M_both_37 : decode prog_9_method_63_code 37 = .ok (.iload 5, 2) := by decide +kernel
theorem d_M_both_39 : decode prog_9_method_63_code 39 = .ok (.ifCond .ge 8, 3) := by decide +kernel
theorem d_M_both_42 : decode prog_9_method_63_code 42 = .ok (.bipush (-4), 2) := by decide +kernel
theorem d_M_both_44 : decode prog_9_method_63_code 44 = .ok (.goto 10, 3) := by decide +kernel
theorem d_M_both_47 : decode prog_9_method_63_code 47 = .ok (.aload_n 0, 1) := by decide +kernel
theorem d_M_both_48 : decode prog_9_method_63_code 48 = .ok (.iconst 1, 1) := by decide +kernel
theorem d_M_both_49 : decode prog_9_method_63_code 49 = .ok (.iload_n 3, 1) := by decide +kernel
theorem d_M_both_50 : decode prog_9_method_63_code 50 = .ok (.isub, 1) := by decide +kernel
theorem d_M_both_51 : decode prog_9_method_63_code 51 = .ok (.invokevirtual 247, 3) := by decide +kernel
theorem d_M_both_54 : decode prog_9_method_63_code 54 = .ok (.ireturn, 1) := by decide +kernel
def m_M_both_26 (G : Nat → Nat) (a0 : Nat) (a3 : Int32) (h : hp_H) : Option (Int32 × hp_H) := (hp_vck h a0 8 (m_M_given G a0 a3 h)).bind fun q1 => some (q1.1, q1.2)
set_option maxRecDepth 100000 in
set_option maxHeartbeats 4000000 in
theorem j_M_both_26 {Z : hp_Z} (a0 : Nat) (a3 : Int32) (h : hp_H) : hp_J Y_M_both Z hp_rI h 26 [(0, .ref a0), (3, .int a3)] [] (m_M_both_26 (hp_G Z)  a0 a3 h) := by
  unfold m_M_both_26
  refine hp_aload_n (x0 := 0) d_M_both_26 rfl rfl ?_
  refine hp_iload_n (x0 := 1) d_M_both_27 rfl rfl ?_
  refine hp_callI (hp_crV (ci := 8) (t_M_given _ _ _ _) cw_M_247 rfl ⟨w_1119, ws_58⟩ (by decide) rfl rfl (Nat.le_of_ble_eq_true rfl) d_M_both_28) fun q1 => ?_
  exact hp_iret d_M_both_31 rfl
def m_M_both_54 (G : Nat → Nat) (s0 : Int32) (h : hp_H) : Option (Int32 × hp_H) := some (s0, h)
set_option maxRecDepth 100000 in
set_option maxHeartbeats 4000000 in
theorem j_M_both_54 {Z : hp_Z} (s0 : Int32) (h : hp_H) : hp_J Y_M_both Z hp_rI h 54 [] [.int s0] (m_M_both_54 (hp_G Z)  s0 h) := by
  unfold m_M_both_54
  exact hp_iret d_M_both_54 rfl
def m_M_both_42 (G : Nat → Nat) (h : hp_H) : Option (Int32 × hp_H) := m_M_both_54 G (-4 : Int32) h
set_option maxRecDepth 100000 in
set_option maxHeartbeats 4000000 in
theorem j_M_both_42 {Z : hp_Z} (h : hp_H) : hp_J Y_M_both Z hp_rI h 42 [] [] (m_M_both_42 (hp_G Z)   h) := by
  unfold m_M_both_42
  refine hp_bipush (v := -4) d_M_both_42 (by decide) ?_
  refine hp_goto (tgt := 54) d_M_both_44 (by decide) ?_
  exact j_M_both_54  _ _
def m_M_both (G : Nat → Nat) (a0 : Nat) (a1 : Int32) (a2 : Int32) (a3 : Int32) (h : hp_H) : Option (Int32 × hp_H) := (hp_vck h a0 8 (m_M_truthOf G a0 a1 h)).bind fun q1 => hp_nm q1.1 fun x2 => (hp_vck q1.2 a0 8 (m_M_truthOf G a0 a2 q1.2)).bind fun q3 => hp_nm q3.1 fun x4 => if x2 = a3 then (m_M_both_26 G a0 a3 q3.2) else (if x4 = a3 then (m_M_both_26 G a0 a3 q3.2) else (if x2 < 0 then (m_M_both_42 G q3.2) else (if 0 ≤ x4 then ((hp_vck q3.2 a0 8 (m_M_given G a0 ((1 : Int32) - a3) q3.2)).bind fun q5 => m_M_both_54 G q5.1 q5.2) else (m_M_both_42 G q3.2))))
set_option maxRecDepth 100000 in
set_option maxHeartbeats 4000000 in
theorem j_M_both_0 {Z : hp_Z} (a0 : Nat) (a1 : Int32) (a2 : Int32) (a3 : Int32) (h : hp_H) : hp_J Y_M_both Z hp_rI h 0 [(0, .ref a0), (1, .int a1), (2, .int a2), (3, .int a3)] [] (m_M_both (hp_G Z)  a0 a1 a2 a3 h) := by
  unfold m_M_both
  refine hp_aload_n (x0 := 0) d_M_both_0 rfl rfl ?_
  refine hp_iload_n (x0 := 1) d_M_both_1 rfl rfl ?_
  refine hp_callI (hp_crV (ci := 8) (t_M_truthOf _ _ _ _) cw_M_244 rfl ⟨w_1112, ws_57⟩ (by decide) rfl rfl (Nat.le_of_ble_eq_true rfl) d_M_both_2) fun q1 => ?_
  refine hp_istore (fun x2 => [(4, .int x2), (0, .ref a0), (1, .int a1), (2, .int a2), (3, .int a3)]) d_M_both_5 (by decide) (fun _ => rfl) fun x2 => ?_
  refine hp_aload_n (x0 := 1) d_M_both_7 rfl rfl ?_
  refine hp_iload_n (x0 := 3) d_M_both_8 rfl rfl ?_
  refine hp_callI (hp_crV (ci := 8) (t_M_truthOf _ _ _ _) cw_M_244 rfl ⟨w_1112, ws_57⟩ (by decide) rfl rfl (Nat.le_of_ble_eq_true rfl) d_M_both_9) fun q3 => ?_
  refine hp_istore (fun x4 => [(5, .int x4), (4, .int x2), (0, .ref a0), (1, .int a1), (2, .int a2), (3, .int a3)]) d_M_both_12 (by decide) (fun _ => rfl) fun x4 => ?_
  refine hp_iload (x0 := 1) d_M_both_14 rfl ?_
  refine hp_iload_n (x0 := 5) d_M_both_16 rfl rfl ?_
  refine hp_icmp_eq (tgt := 26) d_M_both_17 (by decide) ?_ ?_
  · refine hp_sub [2, 5] rfl ?_
    exact j_M_both_26  _ _ _
  · refine hp_iload (x0 := 0) d_M_both_20 rfl ?_
    refine hp_iload_n (x0 := 5) d_M_both_22 rfl rfl ?_
    refine hp_icmp_ne (tgt := 32) d_M_both_23 (by decide) ?_ ?_
    · refine hp_sub [2, 5] rfl ?_
      exact j_M_both_26  _ _ _
    · refine hp_iload (x0 := 1) d_M_both_32 rfl ?_
      refine hp_if_lt (tgt := 42) d_M_both_34 (by decide) ?_ ?_
      · refine hp_sub [] rfl ?_
        exact j_M_both_42   _
      · refine hp_iload (x0 := 0) d_M_both_37 rfl ?_
        refine hp_if_ge (tgt := 47) d_M_both_39 (by decide) ?_ ?_
        · refine hp_aload_n (x0 := 2) d_M_both_47 rfl rfl ?_
          refine hp_iconst (v := 1) d_M_both_48 (by decide) ?_
          refine hp_iload_n (x0 := 5) d_M_both_49 rfl rfl ?_
          refine hp_isub d_M_both_50 ?_
          refine hp_callI (hp_crV (ci := 8) (t_M_given _ _ _ _) cw_M_247 rfl ⟨w_1119, ws_58⟩ (by decide) rfl rfl (Nat.le_of_ble_eq_true rfl) d_M_both_51) fun q5 => ?_
          refine hp_sub [] rfl ?_
          exact j_M_both_54  _ _
        · refine hp_sub [] rfl ?_
          exact j_M_both_42   _
theorem t_M_both (l : Launch) (E : hp_E) (a0 : Nat) (a1 : Int32) (a2 : Int32) (a3 : Int32) : hp_M l E y_M_both Y_M_both hp_rI [.ref a0, .int a1, .int a2, .int a3] (m_M_both E.2.2.1 a0 a1 a2 a3) := hp_M.of (plainFor_of_name (by decide)) ⟨rfl, rfl⟩ (Nat.le_of_ble_eq_true rfl) (fun Z h hE => by subst hE; exact j_M_both_0 _ _ _ _ h)
-- M_equal
theorem d_M_equal_0 : decode prog_9_method_41_code 0 = .ok (.aload_n 0, 1) := by decide +kernel
theorem d_M_equal_1 : decode prog_9_method_41_code 1 = .ok (.iload_n 1, 1) := by decide +kernel
theorem d_M_equal_2 : decode prog_9_method_41_code 2 = .ok (.invokevirtual 168, 3) := by decide +kernel
theorem d_M_equal_5 : decode prog_9_method_41_code 5 = .ok (.ifCond .eq 29, 3) := by decide +kernel
theorem d_M_equal_8 : decode prog_9_method_41_code 8 = .ok (.aload_n 0, 1) := by decide +kernel
theorem d_M_equal_9 : decode prog_9_method_41_code 9 = .ok (.iload_n 2, 1) := by decide +kernel
theorem d_M_equal_10 : decode prog_9_method_41_code 10 = .ok (.invokevirtual 168, 3) := by decide +kernel
theorem d_M_equal_13 : decode prog_9_method_41_code 13 = .ok (.ifCond .eq 21, 3) := by decide +kernel
theorem d_M_equal_16 : decode prog_9_method_41_code 16 = .ok (.aload_n 0, 1) := by decide +kernel
theorem d_M_equal_17 : decode prog_9_method_41_code 17 = .ok (.iload_n 1, 1) := by decide +kernel
theorem d_M_equal_18 : decode prog_9_method_41_code 18 = .ok (.iload_n 2, 1) := by decide +kernel
theorem d_M_equal_19 : decode prog_9_method_41_code 19 = .ok (.invokevirtual 171, 3) := by decide +kernel
theorem d_M_equal_22 : decode prog_9_method_41_code 22 = .ok (.ifCond .ne 7, 3) := by decide +kernel
theorem d_M_equal_25 : decode prog_9_method_41_code 25 = .ok (.iconst 1, 1) := by decide +kernel
theorem d_M_equal_26 : decode prog_9_method_41_code 26 = .ok (.goto 4, 3) := by decide +kernel
theorem d_M_equal_29 : decode prog_9_method_41_code 29 = .ok (.iconst 0, 1) := by decide +kernel
theorem d_M_equal_30 : decode prog_9_method_41_code 30 = .ok (.invokestatic 181, 3) := by decide +kernel
theorem d_M_equal_33 : decode prog_9_method_41_code 33 = .ok (.ireturn, 1) := by decide +kernel
theorem d_M_equal_34 : decode prog_9_method_41_code 34 = .ok (.iload_n 1, 1) := by decide +kernel
theorem d_M_equal_35 : decode prog_9_method_41_code 35 = .ok (.iload_n 2, 1) := by decide +kernel
theorem d_M_equal_36 : decode prog_9_method_41_code 36 = .ok (.if_icmp .ne 5, 3) := by decide +kernel
theorem d_M_equal_39 : decode prog_9_method_41_code 39 = .ok (.iconst 1, 1) := by decide +kernel
theorem d_M_equal_40 : decode prog_9_method_41_code 40 = .ok (.ireturn, 1) := by decide +kernel
theorem d_M_equal_41 : decode prog_9_method_41_code 41 = .ok (.aload_n 0, 1) := by decide +kernel
theorem d_M_equal_42 : decode prog_9_method_41_code 42 = .ok (.getfield 7, 3) := by decide +kernel
theorem d_M_equal_45 : decode prog_9_method_41_code 45 = .ok (.iload_n 1, 1) := by decide +kernel
theorem d_M_equal_46 : decode prog_9_method_41_code 46 = .ok (.iaload, 1) := by decide +kernel
theorem d_M_equal_47 : decode prog_9_method_41_code 47 = .ok (.bipush 7, 2) := by decide +kernel
theorem d_M_equal_49 : decode prog_9_method_41_code 49 = .ok (.if_icmp .eq 14, 3) := by decide +kernel
theorem d_M_equal_52 : decode prog_9_method_41_code 52 = .ok (.aload_n 0, 1) := by decide +kernel
theorem d_M_equal_53 : decode prog_9_method_41_code 53 = .ok (.getfield 7, 3) := by decide +kernel
theorem d_M_equal_56 : decode prog_9_method_41_code 56 = .ok (.iload_n 2, 1) := by decide +kernel
theorem d_M_equal_57 : decode prog_9_method_41_code 57 = .ok (.iaload, 1) := by decide +kernel
theorem d_M_equal_58 : decode prog_9_method_41_code 58 = .ok (.bipush 7, 2) := by decide +kernel
theorem d_M_equal_60 : decode prog_9_method_41_code 60 = .ok (.if_icmp .ne 28, 3) := by decide +kernel
theorem d_M_equal_63 : decode prog_9_method_41_code 63 = .ok (.aload_n 0, 1) := by decide +kernel
theorem d_M_equal_64 : decode prog_9_method_41_code 64 = .ok (.getfield 7, 3) := by decide +kernel
theorem d_M_equal_67 : decode prog_9_method_41_code 67 = .ok (.iload_n 1, 1) := by decide +kernel
theorem d_M_equal_68 : decode prog_9_method_41_code 68 = .ok (.iaload, 1) := by decide +kernel
theorem d_M_equal_69 : decode prog_9_method_41_code 69 = .ok (.iconst 2, 1) := by decide +kernel
theorem d_M_equal_70 : decode prog_9_method_41_code 70 = .ok (.if_icmp .le 18, 3) := by decide +kernel
theorem d_M_equal_73 : decode prog_9_method_41_code 73 = .ok (.aload_n 0, 1) := by decide +kernel
theorem d_M_equal_74 : decode prog_9_method_41_code 74 = .ok (.getfield 7, 3) := by decide +kernel
theorem d_M_equal_77 : decode prog_9_method_41_code 77 = .ok (.iload_n 2, 1) := by decide +kernel
theorem d_M_equal_78 : decode prog_9_method_41_code 78 = .ok (.iaload, 1) := by decide +kernel
theorem d_M_equal_79 : decode prog_9_method_41_code 79 = .ok (.iconst 2, 1) := by decide +kernel
theorem d_M_equal_80 : decode prog_9_method_41_code 80 = .ok (.if_icmp .le 8, 3) := by decide +kernel
theorem d_M_equal_83 : decode prog_9_method_41_code 83 = .ok (.bipush (-4), 2) := by decide +kernel
theorem d_M_equal_85 : decode prog_9_method_41_code 85 = .ok (.goto 4, 3) := by decide +kernel
theorem d_M_equal_88 : decode prog_9_method_41_code 88 = .ok (.iconst 0, 1) := by decide +kernel
theorem d_M_equal_89 : decode prog_9_method_41_code 89 = .ok (.ireturn, 1) := by decide +kernel
def m_M_equal_30 (G : Nat → Nat) (s0 : Int32) (h : hp_H) : Option (Int32 × hp_H) := (m_M_bit G s0 h).bind fun q1 => some (q1.1, q1.2)
set_option maxRecDepth 100000 in
set_option maxHeartbeats 4000000 in
theorem j_M_equal_30 {Z : hp_Z} (s0 : Int32) (h : hp_H) : hp_J Y_M_equal Z hp_rI h 30 [] [.int s0] (m_M_equal_30 (hp_G Z)  s0 h) := by
  unfold m_M_equal_30
  refine hp_callI (hp_crS (t_M_bit _ _ _) cw_M_181 w_1115 (by decide) rfl rfl (Nat.le_of_ble_eq_true rfl) d_M_equal_30) fun q1 => ?_
  exact hp_iret d_M_equal_33 rfl
def m_M_equal_89 (G : Nat → Nat) (s0 : Int32) (h : hp_H) : Option (Int32 × hp_H) := some (s0, h)
set_option maxRecDepth 100000 in
set_option maxHeartbeats 4000000 in
theorem j_M_equal_89 {Z : hp_Z} (s0 : Int32) (h : hp_H) : hp_J Y_M_equal Z hp_rI h 89 [] [.int s0] (m_M_equal_89 (hp_G Z)  s0 h) := by
  unfold m_M_equal_89
  exact hp_iret d_M_equal_89 rfl
def m_M_equal_88 (G : Nat → Nat) (h : hp_H) : Option (Int32 × hp_H) := m_M_equal_89 G (0 : Int32) h
set_option maxRecDepth 100000 in
set_option maxHeartbeats 4000000 in
theorem j_M_equal_88 {Z : hp_Z} (h : hp_H) : hp_J Y_M_equal Z hp_rI h 88 [] [] (m_M_equal_88 (hp_G Z)   h) := by
  unfold m_M_equal_88
  refine hp_iconst (v := 0) d_M_equal_88 (by decide) ?_
  exact j_M_equal_89  _ _
def m_M_equal_63 (G : Nat → Nat) (a0 : Nat) (a1 : Int32) (a2 : Int32) (h : hp_H) : Option (Int32 × hp_H) := (hp_gR h a0 8 1).bind fun x1 => (hp_aI h .int x1 a1).bind fun x2 => if x2 ≤ (2 : Int32) then (m_M_equal_88 G h) else ((hp_gR h a0 8 1).bind fun x3 => (hp_aI h .int x3 a2).bind fun x4 => if x4 ≤ (2 : Int32) then (m_M_equal_88 G h) else (m_M_equal_89 G (-4 : Int32) h))
set_option maxRecDepth 100000 in
set_option maxHeartbeats 4000000 in
theorem j_M_equal_63 {Z : hp_Z} (a0 : Nat) (a1 : Int32) (a2 : Int32) (h : hp_H) : hp_J Y_M_equal Z hp_rI h 63 [(0, .ref a0), (1, .int a1), (2, .int a2)] [] (m_M_equal_63 (hp_G Z)  a0 a1 a2 h) := by
  unfold m_M_equal_63
  refine hp_aload_n (x0 := 0) d_M_equal_63 rfl rfl ?_
  refine hp_getR fl_M_7 d_M_equal_64 fun x1 => ?_
  refine hp_iload_n (x0 := 1) d_M_equal_67 rfl rfl ?_
  refine hp_iald d_M_equal_68 fun x2 => ?_
  refine hp_iconst (v := 2) d_M_equal_69 (by decide) ?_
  refine hp_icmp_le (tgt := 88) d_M_equal_70 (by decide) ?_ ?_
  · refine hp_sub [] rfl ?_
    exact j_M_equal_88   _
  · refine hp_aload_n (x0 := 0) d_M_equal_73 rfl rfl ?_
    refine hp_getR fl_M_7 d_M_equal_74 fun x3 => ?_
    refine hp_iload_n (x0 := 2) d_M_equal_77 rfl rfl ?_
    refine hp_iald d_M_equal_78 fun x4 => ?_
    refine hp_iconst (v := 2) d_M_equal_79 (by decide) ?_
    refine hp_icmp_le (tgt := 88) d_M_equal_80 (by decide) ?_ ?_
    · refine hp_sub [] rfl ?_
      exact j_M_equal_88   _
    · refine hp_bipush (v := -4) d_M_equal_83 (by decide) ?_
      refine hp_goto (tgt := 89) d_M_equal_85 (by decide) ?_
      refine hp_sub [] rfl ?_
      exact j_M_equal_89  _ _
def m_M_equal_34 (G : Nat → Nat) (a0 : Nat) (a1 : Int32) (a2 : Int32) (h : hp_H) : Option (Int32 × hp_H) := if a1 = a2 then (some ((1 : Int32), h)) else ((hp_gR h a0 8 1).bind fun x1 => (hp_aI h .int x1 a1).bind fun x2 => if x2 = (7 : Int32) then (m_M_equal_63 G a0 a1 a2 h) else ((hp_gR h a0 8 1).bind fun x3 => (hp_aI h .int x3 a2).bind fun x4 => if x4 = (7 : Int32) then (m_M_equal_63 G a0 a1 a2 h) else (m_M_equal_88 G h)))
set_option maxRecDepth 100000 in
set_option maxHeartbeats 4000000 in
theorem j_M_equal_34 {Z : hp_Z} (a0 : Nat) (a1 : Int32) (a2 : Int32) (h : hp_H) : hp_J Y_M_equal Z hp_rI h 34 [(0, .ref a0), (1, .int a1), (2, .int a2)] [] (m_M_equal_34 (hp_G Z)  a0 a1 a2 h) := by
  unfold m_M_equal_34
  refine hp_iload_n (x0 := 1) d_M_equal_34 rfl rfl ?_
  refine hp_iload_n (x0 := 2) d_M_equal_35 rfl rfl ?_
  refine hp_icmp_ne (tgt := 41) d_M_equal_36 (by decide) ?_ ?_
  · refine hp_iconst (v := 1) d_M_equal_39 (by decide) ?_
    exact hp_iret d_M_equal_40 rfl
  · refine hp_aload_n (x0 := 0) d_M_equal_41 rfl rfl ?_
    refine hp_getR fl_M_7 d_M_equal_42 fun x1 => ?_
    refine hp_iload_n (x0 := 1) d_M_equal_45 rfl rfl ?_
    refine hp_iald d_M_equal_46 fun x2 => ?_
    refine hp_bipush (v := 7) d_M_equal_47 (by decide) ?_
    refine hp_icmp_eq (tgt := 63) d_M_equal_49 (by decide) ?_ ?_
    · exact j_M_equal_63  _ _ _ _
    · refine hp_aload_n (x0 := 0) d_M_equal_52 rfl rfl ?_
      refine hp_getR fl_M_7 d_M_equal_53 fun x3 => ?_
      refine hp_iload_n (x0 := 2) d_M_equal_56 rfl rfl ?_
      refine hp_iald d_M_equal_57 fun x4 => ?_
      refine hp_bipush (v := 7) d_M_equal_58 (by decide) ?_
      refine hp_icmp_ne (tgt := 88) d_M_equal_60 (by decide) ?_ ?_
      · exact j_M_equal_63  _ _ _ _
      · refine hp_sub [] rfl ?_
        exact j_M_equal_88   _
def m_M_equal (G : Nat → Nat) (a0 : Nat) (a1 : Int32) (a2 : Int32) (h : hp_H) : Option (Int32 × hp_H) := (hp_vck h a0 8 (m_M_isNumber G a0 a1 h)).bind fun q1 => if q1.1 = 0 then (m_M_equal_34 G a0 a1 a2 q1.2) else ((hp_vck q1.2 a0 8 (m_M_isNumber G a0 a2 q1.2)).bind fun q2 => if q2.1 = 0 then (m_M_equal_34 G a0 a1 a2 q2.2) else ((hp_vck q2.2 a0 8 (m_M_orderNumbers G a0 a1 a2 q2.2)).bind fun q3 => if q3.1 = 0 then (m_M_equal_30 G (1 : Int32) q3.2) else (m_M_equal_30 G (0 : Int32) q3.2)))
set_option maxRecDepth 100000 in
set_option maxHeartbeats 4000000 in
theorem j_M_equal_0 {Z : hp_Z} (a0 : Nat) (a1 : Int32) (a2 : Int32) (h : hp_H) : hp_J Y_M_equal Z hp_rI h 0 [(0, .ref a0), (1, .int a1), (2, .int a2)] [] (m_M_equal (hp_G Z)  a0 a1 a2 h) := by
  unfold m_M_equal
  refine hp_aload_n (x0 := 0) d_M_equal_0 rfl rfl ?_
  refine hp_iload_n (x0 := 1) d_M_equal_1 rfl rfl ?_
  refine hp_callI (hp_crV (ci := 8) (t_M_isNumber _ _ _ _) cw_M_168 rfl ⟨w_1052, ws_47⟩ (by decide) rfl rfl (Nat.le_of_ble_eq_true rfl) d_M_equal_2) fun q1 => ?_
  refine hp_if_eq (tgt := 34) d_M_equal_5 (by decide) ?_ ?_
  · exact j_M_equal_34  _ _ _ _
  · refine hp_aload_n (x0 := 0) d_M_equal_8 rfl rfl ?_
    refine hp_iload_n (x0 := 2) d_M_equal_9 rfl rfl ?_
    refine hp_callI (hp_crV (ci := 8) (t_M_isNumber _ _ _ _) cw_M_168 rfl ⟨w_1052, ws_47⟩ (by decide) rfl rfl (Nat.le_of_ble_eq_true rfl) d_M_equal_10) fun q2 => ?_
    refine hp_if_eq (tgt := 34) d_M_equal_13 (by decide) ?_ ?_
    · exact j_M_equal_34  _ _ _ _
    · refine hp_aload_n (x0 := 0) d_M_equal_16 rfl rfl ?_
      refine hp_iload_n (x0 := 1) d_M_equal_17 rfl rfl ?_
      refine hp_iload_n (x0 := 2) d_M_equal_18 rfl rfl ?_
      refine hp_callI (hp_crV (ci := 8) (t_M_orderNumbers _ _ _ _ _) cw_M_171 rfl ⟨w_1056, ws_48⟩ (by decide) rfl rfl (Nat.le_of_ble_eq_true rfl) d_M_equal_19) fun q3 => ?_
      refine hp_if_ne (tgt := 29) d_M_equal_22 (by decide) ?_ ?_
      · refine hp_iconst (v := 1) d_M_equal_25 (by decide) ?_
        refine hp_goto (tgt := 30) d_M_equal_26 (by decide) ?_
        refine hp_sub [] rfl ?_
        exact j_M_equal_30  _ _
      · refine hp_iconst (v := 0) d_M_equal_29 (by decide) ?_
        refine hp_sub [] rfl ?_
        exact j_M_equal_30  _ _
theorem t_M_equal (l : Launch) (E : hp_E) (a0 : Nat) (a1 : Int32) (a2 : Int32) : hp_M l E y_M_equal Y_M_equal hp_rI [.ref a0, .int a1, .int a2] (m_M_equal E.2.2.1 a0 a1 a2) := hp_M.of (plainFor_of_name (by decide)) ⟨rfl, rfl⟩ (Nat.le_of_ble_eq_true rfl) (fun Z h hE => by subst hE; exact j_M_equal_0 _ _ _ h)
-- M_isIn
theorem d_M_isIn_0 : decode prog_9_method_66_code 0 = .ok (.aload_n 0, 1) := by decide +kernel
theorem d_M_isIn_1 : decode prog_9_method_66_code 1 = .ok (.getfield 60, 3) := by decide +kernel
theorem d_M_isIn_4 : decode prog_9_method_66_code 4 = .ok (.iload_n 1, 1) := by decide +kernel
theorem d_M_isIn_5 : decode prog_9_method_66_code 5 = .ok (.iaload, 1) := by decide +kernel
theorem d_M_isIn_6 : decode prog_9_method_66_code 6 = .ok (.bipush (-4), 2) := by decide +kernel
theorem d_M_isIn_8 : decode prog_9_method_66_code 8 = .ok (.if_icmp .ne 6, 3) := by decide +kernel
theorem d_M_isIn_11 : decode prog_9_method_66_code 11 = .ok (.bipush (-4), 2) := by decide +kernel
theorem d_M_isIn_13 : decode prog_9_method_66_code 13 = .ok (.ireturn, 1) := by decide +kernel
theorem d_M_isIn_14 : decode prog_9_method_66_code 14 = .ok (.iconst 0, 1) := by decide +kernel
theorem d_M_isIn_15 : decode prog_9_method_66_code 15 = .ok (.istore_n 3, 1) := by decide +kernel
theorem d_M_isIn_16 : decode prog_9_method_66_code 16 = .ok (.iconst 0, 1) := by decide +kernel
theorem d_M_isIn_17 : decode prog_9_method_66_code 17 = .ok (.istore 4, 2) := by decide +kernel
theorem d_M_isIn_19 : decode prog_9_method_66_code 19 = .ok (.iconst 1, 1) := by decide +kernel
theorem d_M_isIn_20 : decode prog_9_method_66_code 20 = .ok (.istore 5, 2) := by decide +kernel
theorem d_M_isIn_22 : decode prog_9_method_66_code 22 = .ok (.iload 5, 2) := by decide +kernel
theorem d_M_isIn_24 : decode prog_9_method_66_code 24 = .ok (.iload_n 2, 1) := by decide +kernel
theorem d_M_isIn_25 : decode prog_9_method_66_code 25 = .ok (.if_icmp .gt 84, 3) := by decide +kernel
theorem d_M_isIn_28 : decode prog_9_method_66_code 28 = .ok (.aload_n 0, 1) := by decide +kernel
theorem d_M_isIn_29 : decode prog_9_method_66_code 29 = .ok (.getfield 60, 3) := by decide +kernel
theorem d_M_isIn_32 : decode prog_9_method_66_code 32 = .ok (.iload_n 1, 1) := by decide +kernel
theorem d_M_isIn_33 : decode prog_9_method_66_code 33 = .ok (.iload 5, 2) := by decide +kernel
theorem d_M_isIn_35 : decode prog_9_method_66_code 35 = .ok (.iadd, 1) := by decide +kernel
theorem d_M_isIn_36 : decode prog_9_method_66_code 36 = .ok (.iaload, 1) := by decide +kernel
theorem d_M_isIn_37 : decode prog_9_method_66_code 37 = .ok (.bipush (-4), 2) := by decide +kernel
theorem d_M_isIn_39 : decode prog_9_method_66_code 39 = .ok (.if_icmp .ne 8, 3) := by decide +kernel
theorem d_M_isIn_42 : decode prog_9_method_66_code 42 = .ok (.bipush (-4), 2) := by decide +kernel
theorem d_M_isIn_44 : decode prog_9_method_66_code 44 = .ok (.goto 22, 3) := by decide +kernel
theorem d_M_isIn_47 : decode prog_9_method_66_code 47 = .ok (.aload_n 0, 1) := by decide +kernel
theorem d_M_isIn_48 : decode prog_9_method_66_code 48 = .ok (.aload_n 0, 1) := by decide +kernel
theorem d_M_isIn_49 : decode prog_9_method_66_code 49 = .ok (.getfield 60, 3) := by decide +kernel
theorem d_M_isIn_52 : decode prog_9_method_66_code 52 = .ok (.iload_n 1, 1) := by decide +kernel
theorem d_M_isIn_53 : decode prog_9_method_66_code 53 = .ok (.iaload, 1) := by decide +kernel
theorem d_M_isIn_54 : decode prog_9_method_66_code 54 = .ok (.aload_n 0, 1) := by decide +kernel
theorem d_M_isIn_55 : decode prog_9_method_66_code 55 = .ok (.getfield 60, 3) := by decide +kernel
theorem d_M_isIn_58 : decode prog_9_method_66_code 58 = .ok (.iload_n 1, 1) := by decide +kernel
theorem d_M_isIn_59 : decode prog_9_method_66_code 59 = .ok (.iload 5, 2) := by decide +kernel
theorem d_M_isIn_61 : decode prog_9_method_66_code 61 = .ok (.iadd, 1) := by decide +kernel
theorem d_M_isIn_62 : decode prog_9_method_66_code 62 = .ok (.iaload, 1) := by decide +kernel
theorem d_M_isIn_63 : decode prog_9_method_66_code 63 = .ok (.invokevirtual 259, 3) := by decide +kernel
theorem d_M_isIn_66 : decode prog_9_method_66_code 66 = .ok (.istore 6, 2) := by decide +kernel
theorem d_M_isIn_68 : decode prog_9_method_66_code 68 = .ok (.iload_n 3, 1) := by decide +kernel
theorem d_M_isIn_69 : decode prog_9_method_66_code 69 = .ok (.ifCond .ne 9, 3) := by decide +kernel
theorem d_M_isIn_72 : decode prog_9_method_66_code 72 = .ok (.iload 6, 2) := by decide +kernel
theorem d_M_isIn_74 : decode prog_9_method_66_code 74 = .ok (.iconst 1, 1) := by decide +kernel
theorem d_M_isIn_75 : decode prog_9_method_66_code 75 = .ok (.if_icmp .ne 7, 3) := by decide +kernel
theorem d_M_isIn_78 : decode prog_9_method_66_code 78 = .ok (.iconst 1, 1) := by decide +kernel
theorem d_M_isIn_79 : decode prog_9_method_66_code 79 = .ok (.goto 4, 3) := by decide +kernel
theorem d_M_isIn_82 : decode prog_9_method_66_code 82 = .ok (.iconst 0, 1) := by decide +kernel
theorem d_M_isIn_83 : decode prog_9_method_66_code 83 = .ok (.istore_n 3, 1) := by decide +kernel
theorem d_M_isIn_84 : decode prog_9_method_66_code 84 = .ok (.iload 4, 2) := by decide +kernel
theorem d_M_isIn_86 : decode prog_9_method_66_code 86 = .ok (.ifCond .ne 10, 3) := by decide +kernel
theorem d_M_isIn_89 : decode prog_9_method_66_code 89 = .ok (.iload 6, 2) := by decide +kernel
theorem d_M_isIn_91 : decode prog_9_method_66_code 91 = .ok (.bipush (-4), 2) := by decide +kernel
theorem d_M_isIn_93 : decode prog_9_method_66_code 93 = .ok (.if_icmp .ne 7, 3) := by decide +kernel
theorem d_M_isIn_96 : decode prog_9_method_66_code 96 = .ok (.iconst 1, 1) := by decide +kernel
theorem d_M_isIn_97 : decode prog_9_method_66_code 97 = .ok (.goto 4, 3) := by decide +kernel
theorem d_M_isIn_100 : decode prog_9_method_66_code 100 = .ok (.iconst 0, 1) := by decide +kernel
theorem d_M_isIn_101 : decode prog_9_method_66_code 101 = .ok (.istore 4, 2) := by decide +kernel
theorem d_M_isIn_103 : decode prog_9_method_66_code 103 = .ok (.iinc 5 1, 3) := by decide +kernel
theorem d_M_isIn_106 : decode prog_9_method_66_code 106 = .ok (.goto (-84), 3) := by decide +kernel
theorem d_M_isIn_109 : decode prog_9_method_66_code 109 = .ok (.iload_n 3, 1) := by decide +kernel
theorem d_M_isIn_110 : decode prog_9_method_66_code 110 = .ok (.ifCond .eq 11, 3) := by decide +kernel
theorem d_M_isIn_113 : decode prog_9_method_66_code 113 = .ok (.aload_n 0, 1) := by decide +kernel
theorem d_M_isIn_114 : decode prog_9_method_66_code 114 = .ok (.iconst 1, 1) := by decide +kernel
theorem d_M_isIn_115 : decode prog_9_method_66_code 115 = .ok (.invokevirtual 185, 3) := by decide +kernel
theorem d_M_isIn_118 : decode prog_9_method_66_code 118 = .ok (.goto 18, 3) := by decide +kernel
theorem d_M_isIn_121 : decode prog_9_method_66_code 121 = .ok (.iload 4, 2) := by decide +kernel
theorem d_M_isIn_123 : decode prog_9_method_66_code 123 = .ok (.ifCond .eq 8, 3) := by decide +kernel
theorem d_M_isIn_126 : decode prog_9_method_66_code 126 = .ok (.bipush (-4), 2) := by decide +kernel
theorem d_M_isIn_128 : decode prog_9_method_66_code 128 = .ok (.goto 8, 3) := by decide +kernel
theorem d_M_isIn_131 : decode prog_9_method_66_code 131 = .ok (.aload_n 0, 1) := by decide +kernel
theorem d_M_isIn_132 : decode prog_9_method_66_code 132 = .ok (.iconst 0, 1) := by decide +kernel
theorem d_M_isIn_133 : decode prog_9_method_66_code 133 = .ok (.invokevirtual 185, 3) := by decide +kernel
theorem d_M_isIn_136 : decode prog_9_method_66_code 136 = .ok (.ireturn, 1) := by decide +kernel
def m_M_isIn_101 (G : Nat → Nat) (r22 : Nat → Int32 → Int32 → Int32 → Int32 → Int32 → hp_H → Option (Int32 × hp_H)) (a0 : Nat) (a1 : Int32) (a2 : Int32) (a3 : Int32) (a5 : Int32) (s0 : Int32) (h : hp_H) : Option (Int32 × hp_H) := hp_nm s0 fun x1 => hp_nm (a5 + 1) fun x2 => r22 a0 a1 a2 a3 x1 x2 h
set_option maxRecDepth 100000 in
set_option maxHeartbeats 4000000 in
theorem j_M_isIn_101 {Z : hp_Z} (r22 : Nat → Int32 → Int32 → Int32 → Int32 → Int32 → hp_H → Option (Int32 × hp_H)) (hr22 : ∀ (a0 : Nat) (a1 : Int32) (a2 : Int32) (a3 : Int32) (a4 : Int32) (a5 : Int32) (h : hp_H), hp_J Y_M_isIn Z hp_rI h 22 [(0, .ref a0), (1, .int a1), (2, .int a2), (3, .int a3), (4, .int a4), (5, .int a5)] [] (r22 a0 a1 a2 a3 a4 a5  h)) (a0 : Nat) (a1 : Int32) (a2 : Int32) (a3 : Int32) (a5 : Int32) (s0 : Int32) (h : hp_H) : hp_J Y_M_isIn Z hp_rI h 101 [(0, .ref a0), (1, .int a1), (2, .int a2), (3, .int a3), (5, .int a5)] [.int s0] (m_M_isIn_101 (hp_G Z) r22 a0 a1 a2 a3 a5 s0 h) := by
  unfold m_M_isIn_101
  refine hp_istore (fun x1 => [(4, .int x1), (0, .ref a0), (1, .int a1), (2, .int a2), (3, .int a3), (5, .int a5)]) d_M_isIn_101 (by decide) (fun _ => rfl) fun x1 => ?_
  refine hp_iinc (x0 := 5) (d := 1) (fun x2 => [(5, .int x2), (4, .int x1), (0, .ref a0), (1, .int a1), (2, .int a2), (3, .int a3)]) d_M_isIn_103 rfl (by decide) (by decide) (fun _ => rfl) fun x2 => ?_
  refine hp_goto (tgt := 22) d_M_isIn_106 (by decide) ?_
  refine hp_sub [2, 3, 4, 5, 1, 0] rfl ?_
  exact hr22 _ _ _ _ _ _ _
def m_M_isIn_96 (G : Nat → Nat) (r22 : Nat → Int32 → Int32 → Int32 → Int32 → Int32 → hp_H → Option (Int32 × hp_H)) (a0 : Nat) (a1 : Int32) (a2 : Int32) (a3 : Int32) (a5 : Int32) (h : hp_H) : Option (Int32 × hp_H) := m_M_isIn_101 G r22 a0 a1 a2 a3 a5 (1 : Int32) h
set_option maxRecDepth 100000 in
set_option maxHeartbeats 4000000 in
theorem j_M_isIn_96 {Z : hp_Z} (r22 : Nat → Int32 → Int32 → Int32 → Int32 → Int32 → hp_H → Option (Int32 × hp_H)) (hr22 : ∀ (a0 : Nat) (a1 : Int32) (a2 : Int32) (a3 : Int32) (a4 : Int32) (a5 : Int32) (h : hp_H), hp_J Y_M_isIn Z hp_rI h 22 [(0, .ref a0), (1, .int a1), (2, .int a2), (3, .int a3), (4, .int a4), (5, .int a5)] [] (r22 a0 a1 a2 a3 a4 a5  h)) (a0 : Nat) (a1 : Int32) (a2 : Int32) (a3 : Int32) (a5 : Int32) (h : hp_H) : hp_J Y_M_isIn Z hp_rI h 96 [(0, .ref a0), (1, .int a1), (2, .int a2), (3, .int a3), (5, .int a5)] [] (m_M_isIn_96 (hp_G Z) r22 a0 a1 a2 a3 a5 h) := by
  unfold m_M_isIn_96
  refine hp_iconst (v := 1) d_M_isIn_96 (by decide) ?_
  refine hp_goto (tgt := 101) d_M_isIn_97 (by decide) ?_
  exact j_M_isIn_101 _ hr22 _ _ _ _ _ _ _
def m_M_isIn_83 (G : Nat → Nat) (r22 : Nat → Int32 → Int32 → Int32 → Int32 → Int32 → hp_H → Option (Int32 × hp_H)) (a0 : Nat) (a1 : Int32) (a2 : Int32) (a4 : Int32) (a5 : Int32) (a6 : Int32) (s0 : Int32) (h : hp_H) : Option (Int32 × hp_H) := hp_nm s0 fun x1 => if a4 = 0 then (if a6 = (-4 : Int32) then (m_M_isIn_96 G r22 a0 a1 a2 x1 a5 h) else (m_M_isIn_101 G r22 a0 a1 a2 x1 a5 (0 : Int32) h)) else (m_M_isIn_96 G r22 a0 a1 a2 x1 a5 h)
set_option maxRecDepth 100000 in
set_option maxHeartbeats 4000000 in
theorem j_M_isIn_83 {Z : hp_Z} (r22 : Nat → Int32 → Int32 → Int32 → Int32 → Int32 → hp_H → Option (Int32 × hp_H)) (hr22 : ∀ (a0 : Nat) (a1 : Int32) (a2 : Int32) (a3 : Int32) (a4 : Int32) (a5 : Int32) (h : hp_H), hp_J Y_M_isIn Z hp_rI h 22 [(0, .ref a0), (1, .int a1), (2, .int a2), (3, .int a3), (4, .int a4), (5, .int a5)] [] (r22 a0 a1 a2 a3 a4 a5  h)) (a0 : Nat) (a1 : Int32) (a2 : Int32) (a4 : Int32) (a5 : Int32) (a6 : Int32) (s0 : Int32) (h : hp_H) : hp_J Y_M_isIn Z hp_rI h 83 [(0, .ref a0), (1, .int a1), (2, .int a2), (4, .int a4), (5, .int a5), (6, .int a6)] [.int s0] (m_M_isIn_83 (hp_G Z) r22 a0 a1 a2 a4 a5 a6 s0 h) := by
  unfold m_M_isIn_83
  refine hp_istore_n (fun x1 => [(3, .int x1), (0, .ref a0), (1, .int a1), (2, .int a2), (4, .int a4), (5, .int a5), (6, .int a6)]) d_M_isIn_83 rfl (by decide) (fun _ => rfl) fun x1 => ?_
  refine hp_iload (x0 := 4) d_M_isIn_84 rfl ?_
  refine hp_if_ne (tgt := 96) d_M_isIn_86 (by decide) ?_ ?_
  · refine hp_iload (x0 := 6) d_M_isIn_89 rfl ?_
    refine hp_bipush (v := -4) d_M_isIn_91 (by decide) ?_
    refine hp_icmp_ne (tgt := 100) d_M_isIn_93 (by decide) ?_ ?_
    · refine hp_sub [1, 2, 3, 0, 5] rfl ?_
      exact j_M_isIn_96 _ hr22 _ _ _ _ _ _
    · refine hp_iconst (v := 0) d_M_isIn_100 (by decide) ?_
      refine hp_sub [1, 2, 3, 0, 5] rfl ?_
      exact j_M_isIn_101 _ hr22 _ _ _ _ _ _ _
  · refine hp_sub [1, 2, 3, 0, 5] rfl ?_
    exact j_M_isIn_96 _ hr22 _ _ _ _ _ _
def m_M_isIn_78 (G : Nat → Nat) (r22 : Nat → Int32 → Int32 → Int32 → Int32 → Int32 → hp_H → Option (Int32 × hp_H)) (a0 : Nat) (a1 : Int32) (a2 : Int32) (a4 : Int32) (a5 : Int32) (a6 : Int32) (h : hp_H) : Option (Int32 × hp_H) := m_M_isIn_83 G r22 a0 a1 a2 a4 a5 a6 (1 : Int32) h
set_option maxRecDepth 100000 in
set_option maxHeartbeats 4000000 in
theorem j_M_isIn_78 {Z : hp_Z} (r22 : Nat → Int32 → Int32 → Int32 → Int32 → Int32 → hp_H → Option (Int32 × hp_H)) (hr22 : ∀ (a0 : Nat) (a1 : Int32) (a2 : Int32) (a3 : Int32) (a4 : Int32) (a5 : Int32) (h : hp_H), hp_J Y_M_isIn Z hp_rI h 22 [(0, .ref a0), (1, .int a1), (2, .int a2), (3, .int a3), (4, .int a4), (5, .int a5)] [] (r22 a0 a1 a2 a3 a4 a5  h)) (a0 : Nat) (a1 : Int32) (a2 : Int32) (a4 : Int32) (a5 : Int32) (a6 : Int32) (h : hp_H) : hp_J Y_M_isIn Z hp_rI h 78 [(0, .ref a0), (1, .int a1), (2, .int a2), (4, .int a4), (5, .int a5), (6, .int a6)] [] (m_M_isIn_78 (hp_G Z) r22 a0 a1 a2 a4 a5 a6 h) := by
  unfold m_M_isIn_78
  refine hp_iconst (v := 1) d_M_isIn_78 (by decide) ?_
  refine hp_goto (tgt := 83) d_M_isIn_79 (by decide) ?_
  exact j_M_isIn_83 _ hr22 _ _ _ _ _ _ _ _
def m_M_isIn_66 (G : Nat → Nat) (r22 : Nat → Int32 → Int32 → Int32 → Int32 → Int32 → hp_H → Option (Int32 × hp_H)) (a0 : Nat) (a1 : Int32) (a2 : Int32) (a3 : Int32) (a4 : Int32) (a5 : Int32) (s0 : Int32) (h : hp_H) : Option (Int32 × hp_H) := hp_nm s0 fun x1 => if a3 = 0 then (if x1 = (1 : Int32) then (m_M_isIn_78 G r22 a0 a1 a2 a4 a5 x1 h) else (m_M_isIn_83 G r22 a0 a1 a2 a4 a5 x1 (0 : Int32) h)) else (m_M_isIn_78 G r22 a0 a1 a2 a4 a5 x1 h)
set_option maxRecDepth 100000 in
set_option maxHeartbeats 4000000 in
theorem j_M_isIn_66 {Z : hp_Z} (r22 : Nat → Int32 → Int32 → Int32 → Int32 → Int32 → hp_H → Option (Int32 × hp_H)) (hr22 : ∀ (a0 : Nat) (a1 : Int32) (a2 : Int32) (a3 : Int32) (a4 : Int32) (a5 : Int32) (h : hp_H), hp_J Y_M_isIn Z hp_rI h 22 [(0, .ref a0), (1, .int a1), (2, .int a2), (3, .int a3), (4, .int a4), (5, .int a5)] [] (r22 a0 a1 a2 a3 a4 a5  h)) (a0 : Nat) (a1 : Int32) (a2 : Int32) (a3 : Int32) (a4 : Int32) (a5 : Int32) (s0 : Int32) (h : hp_H) : hp_J Y_M_isIn Z hp_rI h 66 [(0, .ref a0), (1, .int a1), (2, .int a2), (3, .int a3), (4, .int a4), (5, .int a5)] [.int s0] (m_M_isIn_66 (hp_G Z) r22 a0 a1 a2 a3 a4 a5 s0 h) := by
  unfold m_M_isIn_66
  refine hp_istore (fun x1 => [(6, .int x1), (0, .ref a0), (1, .int a1), (2, .int a2), (3, .int a3), (4, .int a4), (5, .int a5)]) d_M_isIn_66 (by decide) (fun _ => rfl) fun x1 => ?_
  refine hp_iload_n (x0 := 4) d_M_isIn_68 rfl rfl ?_
  refine hp_if_ne (tgt := 78) d_M_isIn_69 (by decide) ?_ ?_
  · refine hp_iload (x0 := 0) d_M_isIn_72 rfl ?_
    refine hp_iconst (v := 1) d_M_isIn_74 (by decide) ?_
    refine hp_icmp_ne (tgt := 82) d_M_isIn_75 (by decide) ?_ ?_
    · refine hp_sub [1, 2, 3, 5, 6, 0] rfl ?_
      exact j_M_isIn_78 _ hr22 _ _ _ _ _ _ _
    · refine hp_iconst (v := 0) d_M_isIn_82 (by decide) ?_
      refine hp_sub [1, 2, 3, 5, 6, 0] rfl ?_
      exact j_M_isIn_83 _ hr22 _ _ _ _ _ _ _ _
  · refine hp_sub [1, 2, 3, 5, 6, 0] rfl ?_
    exact j_M_isIn_78 _ hr22 _ _ _ _ _ _ _
def m_M_isIn_136 (G : Nat → Nat) (s0 : Int32) (h : hp_H) : Option (Int32 × hp_H) := some (s0, h)
set_option maxRecDepth 100000 in
set_option maxHeartbeats 4000000 in
theorem j_M_isIn_136 {Z : hp_Z} (s0 : Int32) (h : hp_H) : hp_J Y_M_isIn Z hp_rI h 136 [] [.int s0] (m_M_isIn_136 (hp_G Z)  s0 h) := by
  unfold m_M_isIn_136
  exact hp_iret d_M_isIn_136 rfl
def m_M_isIn_22 (G : Nat → Nat) : Nat → Nat → Int32 → Int32 → Int32 → Int32 → Int32 → hp_H → Option (Int32 × hp_H)
  | 0, _, _, _, _, _, _, _ => none
  | n + 1, a0, a1, a2, a3, a4, a5, h => if a2 < a5 then (if a3 = 0 then (if a4 = 0 then ((hp_vck h a0 8 (m_M_truth G a0 (0 : Int32) h)).bind fun q1 => m_M_isIn_136 G q1.1 q1.2) else (m_M_isIn_136 G (-4 : Int32) h)) else ((hp_vck h a0 8 (m_M_truth G a0 (1 : Int32) h)).bind fun q2 => m_M_isIn_136 G q2.1 q2.2)) else ((hp_gR h a0 8 24).bind fun x3 => (hp_aI h .int x3 (a1 + a5)).bind fun x4 => if x4 = (-4 : Int32) then (m_M_isIn_66 G (m_M_isIn_22 G  n) a0 a1 a2 a3 a4 a5 (-4 : Int32) h) else ((hp_gR h a0 8 24).bind fun x5 => (hp_aI h .int x5 a1).bind fun x6 => (hp_gR h a0 8 24).bind fun x7 => (hp_aI h .int x7 (a1 + a5)).bind fun x8 => (hp_vck h a0 8 (m_M_equal G a0 x6 x8 h)).bind fun q9 => m_M_isIn_66 G (m_M_isIn_22 G  n) a0 a1 a2 a3 a4 a5 q9.1 q9.2))
set_option maxRecDepth 100000 in
set_option maxHeartbeats 4000000 in
theorem j_M_isIn_22 {Z : hp_Z} : ∀ (n : Nat) (a0 : Nat) (a1 : Int32) (a2 : Int32) (a3 : Int32) (a4 : Int32) (a5 : Int32) (h : hp_H), hp_J Y_M_isIn Z hp_rI h 22 [(0, .ref a0), (1, .int a1), (2, .int a2), (3, .int a3), (4, .int a4), (5, .int a5)] [] (m_M_isIn_22 (hp_G Z)  n a0 a1 a2 a3 a4 a5 h) := by
  intro n
  induction n with
  | zero => intro a0 a1 a2 a3 a4 a5 h; exact hp_fail
  | succ n ih =>
    intro a0 a1 a2 a3 a4 a5 h
    rw [m_M_isIn_22]
    refine hp_iload (x0 := 5) d_M_isIn_22 rfl ?_
    refine hp_iload_n (x0 := 2) d_M_isIn_24 rfl rfl ?_
    refine hp_icmp_gt (tgt := 109) d_M_isIn_25 (by decide) ?_ ?_
    · refine hp_iload_n (x0 := 3) d_M_isIn_109 rfl rfl ?_
      refine hp_if_eq (tgt := 121) d_M_isIn_110 (by decide) ?_ ?_
      · refine hp_iload (x0 := 4) d_M_isIn_121 rfl ?_
        refine hp_if_eq (tgt := 131) d_M_isIn_123 (by decide) ?_ ?_
        · refine hp_aload_n (x0 := 0) d_M_isIn_131 rfl rfl ?_
          refine hp_iconst (v := 0) d_M_isIn_132 (by decide) ?_
          refine hp_callI (hp_crV (ci := 8) (t_M_truth _ _ _ _) cw_M_185 rfl ⟨w_1003, w_1004⟩ (by decide) rfl rfl (Nat.le_of_ble_eq_true rfl) d_M_isIn_133) fun q1 => ?_
          refine hp_sub [] rfl ?_
          exact j_M_isIn_136  _ _
        · refine hp_bipush (v := -4) d_M_isIn_126 (by decide) ?_
          refine hp_goto (tgt := 136) d_M_isIn_128 (by decide) ?_
          refine hp_sub [] rfl ?_
          exact j_M_isIn_136  _ _
      · refine hp_aload_n (x0 := 0) d_M_isIn_113 rfl rfl ?_
        refine hp_iconst (v := 1) d_M_isIn_114 (by decide) ?_
        refine hp_callI (hp_crV (ci := 8) (t_M_truth _ _ _ _) cw_M_185 rfl ⟨w_1003, w_1004⟩ (by decide) rfl rfl (Nat.le_of_ble_eq_true rfl) d_M_isIn_115) fun q2 => ?_
        refine hp_goto (tgt := 136) d_M_isIn_118 (by decide) ?_
        refine hp_sub [] rfl ?_
        exact j_M_isIn_136  _ _
    · refine hp_aload_n (x0 := 0) d_M_isIn_28 rfl rfl ?_
      refine hp_getR fl_M_60 d_M_isIn_29 fun x3 => ?_
      refine hp_iload_n (x0 := 1) d_M_isIn_32 rfl rfl ?_
      refine hp_iload (x0 := 5) d_M_isIn_33 rfl ?_
      refine hp_iadd d_M_isIn_35 ?_
      refine hp_iald d_M_isIn_36 fun x4 => ?_
      refine hp_bipush (v := -4) d_M_isIn_37 (by decide) ?_
      refine hp_icmp_ne (tgt := 47) d_M_isIn_39 (by decide) ?_ ?_
      · refine hp_bipush (v := -4) d_M_isIn_42 (by decide) ?_
        refine hp_goto (tgt := 66) d_M_isIn_44 (by decide) ?_
        exact j_M_isIn_66 _ ih _ _ _ _ _ _ _ _
      · refine hp_aload_n (x0 := 0) d_M_isIn_47 rfl rfl ?_
        refine hp_aload_n (x0 := 0) d_M_isIn_48 rfl rfl ?_
        refine hp_getR fl_M_60 d_M_isIn_49 fun x5 => ?_
        refine hp_iload_n (x0 := 1) d_M_isIn_52 rfl rfl ?_
        refine hp_iald d_M_isIn_53 fun x6 => ?_
        refine hp_aload_n (x0 := 0) d_M_isIn_54 rfl rfl ?_
        refine hp_getR fl_M_60 d_M_isIn_55 fun x7 => ?_
        refine hp_iload_n (x0 := 1) d_M_isIn_58 rfl rfl ?_
        refine hp_iload (x0 := 5) d_M_isIn_59 rfl ?_
        refine hp_iadd d_M_isIn_61 ?_
        refine hp_iald d_M_isIn_62 fun x8 => ?_
        refine hp_callI (hp_crV (ci := 8) (t_M_equal _ _ _ _ _) cw_M_259 rfl ⟨w_1127, ws_60⟩ (by decide) rfl rfl (Nat.le_of_ble_eq_true rfl) d_M_isIn_63) fun q9 => ?_
        exact j_M_isIn_66 _ ih _ _ _ _ _ _ _ _
def m_M_isIn (G : Nat → Nat) (a0 : Nat) (a1 : Int32) (a2 : Int32) (h : hp_H) : Option (Int32 × hp_H) := (hp_gR h a0 8 24).bind fun x1 => (hp_aI h .int x1 a1).bind fun x2 => if x2 = (-4 : Int32) then (some ((-4 : Int32), h)) else (hp_nm (0 : Int32) fun x3 => hp_nm (0 : Int32) fun x4 => hp_nm (1 : Int32) fun x5 => m_M_isIn_22 G hp_fu a0 a1 a2 x3 x4 x5 h)
set_option maxRecDepth 100000 in
set_option maxHeartbeats 4000000 in
theorem j_M_isIn_0 {Z : hp_Z} (a0 : Nat) (a1 : Int32) (a2 : Int32) (h : hp_H) : hp_J Y_M_isIn Z hp_rI h 0 [(0, .ref a0), (1, .int a1), (2, .int a2)] [] (m_M_isIn (hp_G Z)  a0 a1 a2 h) := by
  unfold m_M_isIn
  refine hp_aload_n (x0 := 0) d_M_isIn_0 rfl rfl ?_
  refine hp_getR fl_M_60 d_M_isIn_1 fun x1 => ?_
  refine hp_iload_n (x0 := 1) d_M_isIn_4 rfl rfl ?_
  refine hp_iald d_M_isIn_5 fun x2 => ?_
  refine hp_bipush (v := -4) d_M_isIn_6 (by decide) ?_
  refine hp_icmp_ne (tgt := 14) d_M_isIn_8 (by decide) ?_ ?_
  · refine hp_bipush (v := -4) d_M_isIn_11 (by decide) ?_
    exact hp_iret d_M_isIn_13 rfl
  · refine hp_iconst (v := 0) d_M_isIn_14 (by decide) ?_
    refine hp_istore_n (fun x3 => [(3, .int x3), (0, .ref a0), (1, .int a1), (2, .int a2)]) d_M_isIn_15 rfl (by decide) (fun _ => rfl) fun x3 => ?_
    refine hp_iconst (v := 0) d_M_isIn_16 (by decide) ?_
    refine hp_istore (fun x4 => [(4, .int x4), (3, .int x3), (0, .ref a0), (1, .int a1), (2, .int a2)]) d_M_isIn_17 (by decide) (fun _ => rfl) fun x4 => ?_
    refine hp_iconst (v := 1) d_M_isIn_19 (by decide) ?_
    refine hp_istore (fun x5 => [(5, .int x5), (4, .int x4), (3, .int x3), (0, .ref a0), (1, .int a1), (2, .int a2)]) d_M_isIn_20 (by decide) (fun _ => rfl) fun x5 => ?_
    refine hp_sub [3, 4, 5, 2, 1, 0] rfl ?_
    exact j_M_isIn_22  hp_fu _ _ _ _ _ _ _
theorem t_M_isIn (l : Launch) (E : hp_E) (a0 : Nat) (a1 : Int32) (a2 : Int32) : hp_M l E y_M_isIn Y_M_isIn hp_rI [.ref a0, .int a1, .int a2] (m_M_isIn E.2.2.1 a0 a1 a2) := hp_M.of (plainFor_of_name (by decide)) ⟨rfl, rfl⟩ (Nat.le_of_ble_eq_true rfl) (fun Z h hE => by subst hE; exact j_M_isIn_0 _ _ _ h)
-- M_ofItsOwn
theorem d_M_ofItsOwn_0 : decode prog_9_method_65_code 0 = .ok (.aload_n 0, 1) := by decide +kernel
theorem d_M_ofItsOwn_1 : decode prog_9_method_65_code 1 = .ok (.getfield 54, 3) := by decide +kernel
theorem d_M_ofItsOwn_4 : decode prog_9_method_65_code 4 = .ok (.iload_n 1, 1) := by decide +kernel
theorem d_M_ofItsOwn_5 : decode prog_9_method_65_code 5 = .ok (.iaload, 1) := by decide +kernel
theorem d_M_ofItsOwn_6 : decode prog_9_method_65_code 6 = .ok (.istore_n 3, 1) := by decide +kernel
theorem d_M_ofItsOwn_7 : decode prog_9_method_65_code 7 = .ok (.aload_n 0, 1) := by decide +kernel
theorem d_M_ofItsOwn_8 : decode prog_9_method_65_code 8 = .ok (.getfield 51, 3) := by decide +kernel
theorem d_M_ofItsOwn_11 : decode prog_9_method_65_code 11 = .ok (.iload_n 1, 1) := by decide +kernel
theorem d_M_ofItsOwn_12 : decode prog_9_method_65_code 12 = .ok (.iaload, 1) := by decide +kernel
theorem d_M_ofItsOwn_13 : decode prog_9_method_65_code 13 = .ok (.tableswitch 298 0 24 #[115, 130, 149, 298, 167, 187, 298, 298, 298, 298, 298, 298, 298, 298, 298, 298, 298, 298, 298, 298, 298, 298, 207, 241, 291], 115) := by decide +kernel
theorem d_M_ofItsOwn_128 : decode prog_9_method_65_code 128 = .ok (.aload_n 0, 1) := by decide +kernel
theorem d_M_ofItsOwn_129 : decode prog_9_method_65_code 129 = .ok (.iload_n 3, 1) := by decide +kernel
theorem d_M_ofItsOwn_130 : decode prog_9_method_65_code 130 = .ok (.invokevirtual 161, 3) := by decide +kernel
theorem d_M_ofItsOwn_133 : decode prog_9_method_65_code 133 = .ok (.ifCond .eq 7, 3) := by decide +kernel
theorem d_M_ofItsOwn_136 : decode prog_9_method_65_code 136 = .ok (.iload_n 3, 1) := by decide +kernel
theorem d_M_ofItsOwn_137 : decode prog_9_method_65_code 137 = .ok (.goto 5, 3) := by decide +kernel
theorem d_M_ofItsOwn_140 : decode prog_9_method_65_code 140 = .ok (.bipush (-4), 2) := by decide +kernel
theorem d_M_ofItsOwn_142 : decode prog_9_method_65_code 142 = .ok (.ireturn, 1) := by decide +kernel
theorem d_M_ofItsOwn_143 : decode prog_9_method_65_code 143 = .ok (.aload_n 0, 1) := by decide +kernel
theorem d_M_ofItsOwn_144 : decode prog_9_method_65_code 144 = .ok (.iload_n 3, 1) := by decide +kernel
theorem d_M_ofItsOwn_145 : decode prog_9_method_65_code 145 = .ok (.invokevirtual 250, 3) := by decide +kernel
theorem d_M_ofItsOwn_148 : decode prog_9_method_65_code 148 = .ok (.ifCond .le 11, 3) := by decide +kernel
theorem d_M_ofItsOwn_151 : decode prog_9_method_65_code 151 = .ok (.aload_n 0, 1) := by decide +kernel
theorem d_M_ofItsOwn_152 : decode prog_9_method_65_code 152 = .ok (.iload_n 3, 1) := by decide +kernel
theorem d_M_ofItsOwn_153 : decode prog_9_method_65_code 153 = .ok (.invokevirtual 250, 3) := by decide +kernel
theorem d_M_ofItsOwn_156 : decode prog_9_method_65_code 156 = .ok (.goto 5, 3) := by decide +kernel
theorem d_M_ofItsOwn_159 : decode prog_9_method_65_code 159 = .ok (.bipush (-4), 2) := by decide +kernel
theorem d_M_ofItsOwn_161 : decode prog_9_method_65_code 161 = .ok (.ireturn, 1) := by decide +kernel
theorem d_M_ofItsOwn_162 : decode prog_9_method_65_code 162 = .ok (.aload_n 0, 1) := by decide +kernel
theorem d_M_ofItsOwn_163 : decode prog_9_method_65_code 163 = .ok (.aload_n 0, 1) := by decide +kernel
theorem d_M_ofItsOwn_164 : decode prog_9_method_65_code 164 = .ok (.iload_n 3, 1) := by decide +kernel
theorem d_M_ofItsOwn_165 : decode prog_9_method_65_code 165 = .ok (.invokevirtual 250, 3) := by decide +kernel
theorem d_M_ofItsOwn_168 : decode prog_9_method_65_code 168 = .ok (.ifCond .le 7, 3) := by decide +kernel
theorem d_M_ofItsOwn_171 : decode prog_9_method_65_code 171 = .ok (.iconst 1, 1) := by decide +kernel
theorem d_M_ofItsOwn_172 : decode prog_9_method_65_code 172 = .ok (.goto 4, 3) := by decide +kernel
theorem d_M_ofItsOwn_175 : decode prog_9_method_65_code 175 = .ok (.iconst 0, 1) := by decide +kernel
theorem d_M_ofItsOwn_176 : decode prog_9_method_65_code 176 = .ok (.invokevirtual 185, 3) := by decide +kernel
theorem d_M_ofItsOwn_179 : decode prog_9_method_65_code 179 = .ok (.ireturn, 1) := by decide +kernel
theorem d_M_ofItsOwn_180 : decode prog_9_method_65_code 180 = .ok (.aload_n 0, 1) := by decide +kernel
theorem d_M_ofItsOwn_181 : decode prog_9_method_65_code 181 = .ok (.aload_n 0, 1) := by decide +kernel
theorem d_M_ofItsOwn_182 : decode prog_9_method_65_code 182 = .ok (.getfield 60, 3) := by decide +kernel
theorem d_M_ofItsOwn_185 : decode prog_9_method_65_code 185 = .ok (.iload_n 2, 1) := by decide +kernel
theorem d_M_ofItsOwn_186 : decode prog_9_method_65_code 186 = .ok (.iaload, 1) := by decide +kernel
theorem d_M_ofItsOwn_187 : decode prog_9_method_65_code 187 = .ok (.aload_n 0, 1) := by decide +kernel
theorem d_M_ofItsOwn_188 : decode prog_9_method_65_code 188 = .ok (.getfield 60, 3) := by decide +kernel
theorem d_M_ofItsOwn_191 : decode prog_9_method_65_code 191 = .ok (.iload_n 2, 1) := by decide +kernel
theorem d_M_ofItsOwn_192 : decode prog_9_method_65_code 192 = .ok (.iconst 1, 1) := by decide +kernel
theorem d_M_ofItsOwn_193 : decode prog_9_method_65_code 193 = .ok (.iadd, 1) := by decide +kernel
theorem d_M_ofItsOwn_194 : decode prog_9_method_65_code 194 = .ok (.iaload, 1) := by decide +kernel
theorem d_M_ofItsOwn_195 : decode prog_9_method_65_code 195 = .ok (.iconst 0, 1) := by decide +kernel
theorem d_M_ofItsOwn_196 : decode prog_9_method_65_code 196 = .ok (.invokevirtual 253, 3) := by decide +kernel
theorem d_M_ofItsOwn_199 : decode prog_9_method_65_code 199 = .ok (.ireturn, 1) := by decide +kernel
theorem d_M_ofItsOwn_200 : decode prog_9_method_65_code 200 = .ok (.aload_n 0, 1) := by decide +kernel
theorem d_M_ofItsOwn_201 : decode prog_9_method_65_code 201 = .ok (.aload_n 0, 1) := by decide +kernel
theorem d_M_ofItsOwn_202 : decode prog_9_method_65_code 202 = .ok (.getfield 60, 3) := by decide +kernel
theorem d_M_ofItsOwn_205 : decode prog_9_method_65_code 205 = .ok (.iload_n 2, 1) := by decide +kernel
theorem d_M_ofItsOwn_206 : decode prog_9_method_65_code 206 = .ok (.iaload, 1) := by decide +kernel
theorem d_M_ofItsOwn_207 : decode prog_9_method_65_code 207 = .ok (.aload_n 0, 1) := by decide +kernel
theorem d_M_ofItsOwn_208 : decode prog_9_method_65_code 208 = .ok (.getfield 60, 3) := by decide +kernel
theorem d_M_ofItsOwn_211 : decode prog_9_method_65_code 211 = .ok (.iload_n 2, 1) := by decide +kernel
theorem d_M_ofItsOwn_212 : decode prog_9_method_65_code 212 = .ok (.iconst 1, 1) := by decide +kernel
theorem d_M_ofItsOwn_213 : decode prog_9_method_65_code 213 = .ok (.iadd, 1) := by decide +kernel
theorem d_M_ofItsOwn_214 : decode prog_9_method_65_code 214 = .ok (.iaload, 1) := by decide +kernel
theorem d_M_ofItsOwn_215 : decode prog_9_method_65_code 215 = .ok (.iconst 1, 1) := by decide +kernel
theorem d_M_ofItsOwn_216 : decode prog_9_method_65_code 216 = .ok (.invokevirtual 253, 3) := by decide +kernel
theorem d_M_ofItsOwn_219 : decode prog_9_method_65_code 219 = .ok (.ireturn, 1) := by decide +kernel
theorem d_M_ofItsOwn_220 : decode prog_9_method_65_code 220 = .ok (.aload_n 0, 1) := by decide +kernel
theorem d_M_ofItsOwn_221 : decode prog_9_method_65_code 221 = .ok (.aload_n 0, 1) := by decide +kernel
theorem d_M_ofItsOwn_222 : decode prog_9_method_65_code 222 = .ok (.getfield 60, 3) := by decide +kernel
theorem d_M_ofItsOwn_225 : decode prog_9_method_65_code 225 = .ok (.iload_n 2, 1) := by decide +kernel
theorem d_M_ofItsOwn_226 : decode prog_9_method_65_code 226 = .ok (.iaload, 1) := by decide +kernel
theorem d_M_ofItsOwn_227 : decode prog_9_method_65_code 227 = .ok (.invokevirtual 244, 3) := by decide +kernel
theorem d_M_ofItsOwn_230 : decode prog_9_method_65_code 230 = .ok (.istore 4, 2) := by decide +kernel
theorem d_M_ofItsOwn_232 : decode prog_9_method_65_code 232 = .ok (.iload 4, 2) := by decide +kernel
theorem d_M_ofItsOwn_234 : decode prog_9_method_65_code 234 = .ok (.ifCond .ge 8, 3) := by decide +kernel
theorem d_M_ofItsOwn_237 : decode prog_9_method_65_code 237 = .ok (.bipush (-4), 2) := by decide +kernel
theorem d_M_ofItsOwn_239 : decode prog_9_method_65_code 239 = .ok (.goto 14, 3) := by decide +kernel
theorem d_M_ofItsOwn_242 : decode prog_9_method_65_code 242 = .ok (.aload_n 0, 1) := by decide +kernel
theorem d_M_ofItsOwn_243 : decode prog_9_method_65_code 243 = .ok (.getfield 60, 3) := by decide +kernel
theorem d_M_ofItsOwn_246 : decode prog_9_method_65_code 246 = .ok (.iload_n 2, 1) := by decide +kernel
theorem d_M_ofItsOwn_247 : decode prog_9_method_65_code 247 = .ok (.iconst 2, 1) := by decide +kernel
theorem d_M_ofItsOwn_248 : decode prog_9_method_65_code 248 = .ok (.iadd, 1) := by decide +kernel
theorem d_M_ofItsOwn_249 : decode prog_9_method_65_code 249 = .ok (.iload 4, 2) := by decide +kernel
theorem d_M_ofItsOwn_251 : decode prog_9_method_65_code 251 = .ok (.isub, 1) := by decide +kernel
theorem d_M_ofItsOwn_252 : decode prog_9_method_65_code 252 = .ok (.iaload, 1) := by decide +kernel
theorem d_M_ofItsOwn_253 : decode prog_9_method_65_code 253 = .ok (.ireturn, 1) := by decide +kernel
theorem d_M_ofItsOwn_254 : decode prog_9_method_65_code 254 = .ok (.iconst 0, 1) := by decide +kernel
theorem d_M_ofItsOwn_255 : decode prog_9_method_65_code 255 = .ok (.istore 5, 2) := by decide +kernel
theorem d_M_ofItsOwn_257 : decode prog_9_method_65_code 257 = .ok (.iload 5, 2) := by decide +kernel
theorem d_M_ofItsOwn_259 : decode prog_9_method_65_code 259 = .ok (.iload_n 3, 1) := by decide +kernel
theorem d_M_ofItsOwn_260 : decode prog_9_method_65_code 260 = .ok (.if_icmp .ge 23, 3) := by decide +kernel
theorem d_M_ofItsOwn_263 : decode prog_9_method_65_code 263 = .ok (.aload_n 0, 1) := by decide +kernel
theorem d_M_ofItsOwn_264 : decode prog_9_method_65_code 264 = .ok (.getfield 60, 3) := by decide +kernel
theorem d_M_ofItsOwn_267 : decode prog_9_method_65_code 267 = .ok (.iload_n 2, 1) := by decide +kernel
theorem d_M_ofItsOwn_268 : decode prog_9_method_65_code 268 = .ok (.iload 5, 2) := by decide +kernel
theorem d_M_ofItsOwn_270 : decode prog_9_method_65_code 270 = .ok (.iadd, 1) := by decide +kernel
theorem d_M_ofItsOwn_271 : decode prog_9_method_65_code 271 = .ok (.iaload, 1) := by decide +kernel
theorem d_M_ofItsOwn_272 : decode prog_9_method_65_code 272 = .ok (.bipush (-4), 2) := by decide +kernel
theorem d_M_ofItsOwn_274 : decode prog_9_method_65_code 274 = .ok (.if_icmp .ne 9, 3) := by decide +kernel
theorem d_M_ofItsOwn_277 : decode prog_9_method_65_code 277 = .ok (.iinc 5 1, 3) := by decide +kernel
theorem d_M_ofItsOwn_280 : decode prog_9_method_65_code 280 = .ok (.goto (-23), 3) := by decide +kernel
theorem d_M_ofItsOwn_283 : decode prog_9_method_65_code 283 = .ok (.iload 5, 2) := by decide +kernel
theorem d_M_ofItsOwn_285 : decode prog_9_method_65_code 285 = .ok (.iload_n 3, 1) := by decide +kernel
theorem d_M_ofItsOwn_286 : decode prog_9_method_65_code 286 = .ok (.if_icmp .ge 15, 3) := by decide +kernel
theorem d_M_ofItsOwn_289 : decode prog_9_method_65_code 289 = .ok (.aload_n 0, 1) := by decide +kernel
theorem d_M_ofItsOwn_290 : decode prog_9_method_65_code 290 = .ok (.getfield 60, 3) := by decide +kernel
theorem d_M_ofItsOwn_293 : decode prog_9_method_65_code 293 = .ok (.iload_n 2, 1) := by decide +kernel
theorem d_M_ofItsOwn_294 : decode prog_9_method_65_code 294 = .ok (.iload 5, 2) := by decide +kernel
theorem d_M_ofItsOwn_296 : decode prog_9_method_65_code 296 = .ok (.iadd, 1) := by decide +kernel
theorem d_M_ofItsOwn_297 : decode prog_9_method_65_code 297 = .ok (.iaload, 1) := by decide +kernel
theorem d_M_ofItsOwn_298 : decode prog_9_method_65_code 298 = .ok (.goto 5, 3) := by decide +kernel
theorem d_M_ofItsOwn_301 : decode prog_9_method_65_code 301 = .ok (.bipush (-4), 2) := by decide +kernel
theorem d_M_ofItsOwn_303 : decode prog_9_method_65_code 303 = .ok (.ireturn, 1) := by decide +kernel
theorem d_M_ofItsOwn_304 : decode prog_9_method_65_code 304 = .ok (.aload_n 0, 1) := by decide +kernel
theorem d_M_ofItsOwn_305 : decode prog_9_method_65_code 305 = .ok (.iload_n 2, 1) := by decide +kernel
theorem d_M_ofItsOwn_306 : decode prog_9_method_65_code 306 = .ok (.iload_n 3, 1) := by decide +kernel
theorem d_M_ofItsOwn_307 : decode prog_9_method_65_code 307 = .ok (.invokevirtual 256, 3) := by decide +kernel
theorem d_M_ofItsOwn_310 : decode prog_9_method_65_code 310 = .ok (.ireturn, 1) := by decide +kernel
theorem d_M_ofItsOwn_311 : decode prog_9_method_65_code 311 = .ok (.bipush (-2), 2) := by decide +kernel
theorem d_M_ofItsOwn_313 : decode prog_9_method_65_code 313 = .ok (.ireturn, 1) := by decide +kernel
def m_M_ofItsOwn_142 (G : Nat → Nat) (s0 : Int32) (h : hp_H) : Option (Int32 × hp_H) := some (s0, h)
set_option maxRecDepth 100000 in
set_option maxHeartbeats 4000000 in
theorem j_M_ofItsOwn_142 {Z : hp_Z} (s0 : Int32) (h : hp_H) : hp_J Y_M_ofItsOwn Z hp_rI h 142 [] [.int s0] (m_M_ofItsOwn_142 (hp_G Z)  s0 h) := by
  unfold m_M_ofItsOwn_142
  exact hp_iret d_M_ofItsOwn_142 rfl
def m_M_ofItsOwn_161 (G : Nat → Nat) (s0 : Int32) (h : hp_H) : Option (Int32 × hp_H) := some (s0, h)
set_option maxRecDepth 100000 in
set_option maxHeartbeats 4000000 in
theorem j_M_ofItsOwn_161 {Z : hp_Z} (s0 : Int32) (h : hp_H) : hp_J Y_M_ofItsOwn Z hp_rI h 161 [] [.int s0] (m_M_ofItsOwn_161 (hp_G Z)  s0 h) := by
  unfold m_M_ofItsOwn_161
  exact hp_iret d_M_ofItsOwn_161 rfl
def m_M_ofItsOwn_176 (G : Nat → Nat) (s0 : Int32) (s1 : Nat) (h : hp_H) : Option (Int32 × hp_H) := (hp_vck h s1 8 (m_M_truth G s1 s0 h)).bind fun q1 => some (q1.1, q1.2)
set_option maxRecDepth 100000 in
set_option maxHeartbeats 4000000 in
theorem j_M_ofItsOwn_176 {Z : hp_Z} (s0 : Int32) (s1 : Nat) (h : hp_H) : hp_J Y_M_ofItsOwn Z hp_rI h 176 [] [.int s0, .ref s1] (m_M_ofItsOwn_176 (hp_G Z)  s0 s1 h) := by
  unfold m_M_ofItsOwn_176
  refine hp_callI (hp_crV (ci := 8) (t_M_truth _ _ _ _) cw_M_185 rfl ⟨w_1003, w_1004⟩ (by decide) rfl rfl (Nat.le_of_ble_eq_true rfl) d_M_ofItsOwn_176) fun q1 => ?_
  exact hp_iret d_M_ofItsOwn_179 rfl
def m_M_ofItsOwn_253 (G : Nat → Nat) (s0 : Int32) (h : hp_H) : Option (Int32 × hp_H) := some (s0, h)
set_option maxRecDepth 100000 in
set_option maxHeartbeats 4000000 in
theorem j_M_ofItsOwn_253 {Z : hp_Z} (s0 : Int32) (h : hp_H) : hp_J Y_M_ofItsOwn Z hp_rI h 253 [] [.int s0] (m_M_ofItsOwn_253 (hp_G Z)  s0 h) := by
  unfold m_M_ofItsOwn_253
  exact hp_iret d_M_ofItsOwn_253 rfl
def m_M_ofItsOwn_303 (G : Nat → Nat) (s0 : Int32) (h : hp_H) : Option (Int32 × hp_H) := some (s0, h)
set_option maxRecDepth 100000 in
set_option maxHeartbeats 4000000 in
theorem j_M_ofItsOwn_303 {Z : hp_Z} (s0 : Int32) (h : hp_H) : hp_J Y_M_ofItsOwn Z hp_rI h 303 [] [.int s0] (m_M_ofItsOwn_303 (hp_G Z)  s0 h) := by
  unfold m_M_ofItsOwn_303
  exact hp_iret d_M_ofItsOwn_303 rfl
def m_M_ofItsOwn_283 (G : Nat → Nat) (a0 : Nat) (a2 : Int32) (a3 : Int32) (a5 : Int32) (h : hp_H) : Option (Int32 × hp_H) := if a3 ≤ a5 then (m_M_ofItsOwn_303 G (-4 : Int32) h) else ((hp_gR h a0 8 24).bind fun x1 => (hp_aI h .int x1 (a2 + a5)).bind fun x2 => m_M_ofItsOwn_303 G x2 h)
set_option maxRecDepth 100000 in
set_option maxHeartbeats 4000000 in
theorem j_M_ofItsOwn_283 {Z : hp_Z} (a0 : Nat) (a2 : Int32) (a3 : Int32) (a5 : Int32) (h : hp_H) : hp_J Y_M_ofItsOwn Z hp_rI h 283 [(0, .ref a0), (2, .int a2), (3, .int a3), (5, .int a5)] [] (m_M_ofItsOwn_283 (hp_G Z)  a0 a2 a3 a5 h) := by
  unfold m_M_ofItsOwn_283
  refine hp_iload (x0 := 3) d_M_ofItsOwn_283 rfl ?_
  refine hp_iload_n (x0 := 2) d_M_ofItsOwn_285 rfl rfl ?_
  refine hp_icmp_ge (tgt := 301) d_M_ofItsOwn_286 (by decide) ?_ ?_
  · refine hp_bipush (v := -4) d_M_ofItsOwn_301 (by decide) ?_
    refine hp_sub [] rfl ?_
    exact j_M_ofItsOwn_303  _ _
  · refine hp_aload_n (x0 := 0) d_M_ofItsOwn_289 rfl rfl ?_
    refine hp_getR fl_M_60 d_M_ofItsOwn_290 fun x1 => ?_
    refine hp_iload_n (x0 := 1) d_M_ofItsOwn_293 rfl rfl ?_
    refine hp_iload (x0 := 3) d_M_ofItsOwn_294 rfl ?_
    refine hp_iadd d_M_ofItsOwn_296 ?_
    refine hp_iald d_M_ofItsOwn_297 fun x2 => ?_
    refine hp_goto (tgt := 303) d_M_ofItsOwn_298 (by decide) ?_
    refine hp_sub [] rfl ?_
    exact j_M_ofItsOwn_303  _ _
def m_M_ofItsOwn_257 (G : Nat → Nat) : Nat → Nat → Int32 → Int32 → Int32 → hp_H → Option (Int32 × hp_H)
  | 0, _, _, _, _, _ => none
  | n + 1, a0, a2, a3, a5, h => if a3 ≤ a5 then (m_M_ofItsOwn_283 G a0 a2 a3 a5 h) else ((hp_gR h a0 8 24).bind fun x1 => (hp_aI h .int x1 (a2 + a5)).bind fun x2 => if x2 = (-4 : Int32) then (hp_nm (a5 + 1) fun x3 => (m_M_ofItsOwn_257 G  n) a0 a2 a3 x3 h) else (m_M_ofItsOwn_283 G a0 a2 a3 a5 h))
set_option maxRecDepth 100000 in
set_option maxHeartbeats 4000000 in
theorem j_M_ofItsOwn_257 {Z : hp_Z} : ∀ (n : Nat) (a0 : Nat) (a2 : Int32) (a3 : Int32) (a5 : Int32) (h : hp_H), hp_J Y_M_ofItsOwn Z hp_rI h 257 [(0, .ref a0), (2, .int a2), (3, .int a3), (5, .int a5)] [] (m_M_ofItsOwn_257 (hp_G Z)  n a0 a2 a3 a5 h) := by
  intro n
  induction n with
  | zero => intro a0 a2 a3 a5 h; exact hp_fail
  | succ n ih =>
    intro a0 a2 a3 a5 h
    rw [m_M_ofItsOwn_257]
    refine hp_iload (x0 := 3) d_M_ofItsOwn_257 rfl ?_
    refine hp_iload_n (x0 := 2) d_M_ofItsOwn_259 rfl rfl ?_
    refine hp_icmp_ge (tgt := 283) d_M_ofItsOwn_260 (by decide) ?_ ?_
    · exact j_M_ofItsOwn_283  _ _ _ _ _
    · refine hp_aload_n (x0 := 0) d_M_ofItsOwn_263 rfl rfl ?_
      refine hp_getR fl_M_60 d_M_ofItsOwn_264 fun x1 => ?_
      refine hp_iload_n (x0 := 1) d_M_ofItsOwn_267 rfl rfl ?_
      refine hp_iload (x0 := 3) d_M_ofItsOwn_268 rfl ?_
      refine hp_iadd d_M_ofItsOwn_270 ?_
      refine hp_iald d_M_ofItsOwn_271 fun x2 => ?_
      refine hp_bipush (v := -4) d_M_ofItsOwn_272 (by decide) ?_
      refine hp_icmp_ne (tgt := 283) d_M_ofItsOwn_274 (by decide) ?_ ?_
      · refine hp_iinc (x0 := 3) (d := 1) (fun x3 => [(5, .int x3), (0, .ref a0), (2, .int a2), (3, .int a3)]) d_M_ofItsOwn_277 rfl (by decide) (by decide) (fun _ => rfl) fun x3 => ?_
        refine hp_goto (tgt := 257) d_M_ofItsOwn_280 (by decide) ?_
        refine hp_sub [1, 2, 3, 0] rfl ?_
        exact ih _ _ _ _ _
      · exact j_M_ofItsOwn_283  _ _ _ _ _
def m_M_ofItsOwn (G : Nat → Nat) (a0 : Nat) (a1 : Int32) (a2 : Int32) (h : hp_H) : Option (Int32 × hp_H) := (hp_gR h a0 8 21).bind fun x1 => (hp_aI h .int x1 a1).bind fun x2 => hp_nm x2 fun x3 => (hp_gR h a0 8 20).bind fun x4 => (hp_aI h .int x4 a1).bind fun x5 => if x5 = 0 then ((hp_vck h a0 8 (m_M_isValue G a0 x3 h)).bind fun q6 => if q6.1 = 0 then (m_M_ofItsOwn_142 G (-4 : Int32) q6.2) else (m_M_ofItsOwn_142 G x3 q6.2)) else (if x5 = 1 then ((hp_vck h a0 8 (m_M_bindingOf G a0 x3 h)).bind fun q7 => if q7.1 ≤ 0 then (m_M_ofItsOwn_161 G (-4 : Int32) q7.2) else ((hp_vck q7.2 a0 8 (m_M_bindingOf G a0 x3 q7.2)).bind fun q8 => m_M_ofItsOwn_161 G q8.1 q8.2)) else (if x5 = 2 then ((hp_vck h a0 8 (m_M_bindingOf G a0 x3 h)).bind fun q9 => if q9.1 ≤ 0 then (m_M_ofItsOwn_176 G (0 : Int32) a0 q9.2) else (m_M_ofItsOwn_176 G (1 : Int32) a0 q9.2)) else (if x5 = 3 then (some ((-2 : Int32), h)) else (if x5 = 4 then ((hp_gR h a0 8 24).bind fun x10 => (hp_aI h .int x10 a2).bind fun x11 => (hp_gR h a0 8 24).bind fun x12 => (hp_aI h .int x12 (a2 + (1 : Int32))).bind fun x13 => (hp_vck h a0 8 (m_M_both G a0 x11 x13 (0 : Int32) h)).bind fun q14 => some (q14.1, q14.2)) else (if x5 = 5 then ((hp_gR h a0 8 24).bind fun x15 => (hp_aI h .int x15 a2).bind fun x16 => (hp_gR h a0 8 24).bind fun x17 => (hp_aI h .int x17 (a2 + (1 : Int32))).bind fun x18 => (hp_vck h a0 8 (m_M_both G a0 x16 x18 (1 : Int32) h)).bind fun q19 => some (q19.1, q19.2)) else (if x5 = 6 then (some ((-2 : Int32), h)) else (if x5 = 7 then (some ((-2 : Int32), h)) else (if x5 = 8 then (some ((-2 : Int32), h)) else (if x5 = 9 then (some ((-2 : Int32), h)) else (if x5 = 10 then (some ((-2 : Int32), h)) else (if x5 = 11 then (some ((-2 : Int32), h)) else (if x5 = 12 then (some ((-2 : Int32), h)) else (if x5 = 13 then (some ((-2 : Int32), h)) else (if x5 = 14 then (some ((-2 : Int32), h)) else (if x5 = 15 then (some ((-2 : Int32), h)) else (if x5 = 16 then (some ((-2 : Int32), h)) else (if x5 = 17 then (some ((-2 : Int32), h)) else (if x5 = 18 then (some ((-2 : Int32), h)) else (if x5 = 19 then (some ((-2 : Int32), h)) else (if x5 = 20 then (some ((-2 : Int32), h)) else (if x5 = 21 then (some ((-2 : Int32), h)) else (if x5 = 22 then ((hp_gR h a0 8 24).bind fun x20 => (hp_aI h .int x20 a2).bind fun x21 => (hp_vck h a0 8 (m_M_truthOf G a0 x21 h)).bind fun q22 => hp_nm q22.1 fun x23 => if 0 ≤ x23 then ((hp_gR q22.2 a0 8 24).bind fun x24 => (hp_aI q22.2 .int x24 ((a2 + (2 : Int32)) - x23)).bind fun x25 => m_M_ofItsOwn_253 G x25 q22.2) else (m_M_ofItsOwn_253 G (-4 : Int32) q22.2)) else (if x5 = 23 then (hp_nm (0 : Int32) fun x26 => m_M_ofItsOwn_257 G hp_fu a0 a2 x3 x26 h) else (if x5 = 24 then ((hp_vck h a0 8 (m_M_isIn G a0 a2 x3 h)).bind fun q27 => some (q27.1, q27.2)) else (some ((-2 : Int32), h))))))))))))))))))))))))))
set_option maxRecDepth 100000 in
set_option maxHeartbeats 4000000 in
theorem j_M_ofItsOwn_0 {Z : hp_Z} (a0 : Nat) (a1 : Int32) (a2 : Int32) (h : hp_H) : hp_J Y_M_ofItsOwn Z hp_rI h 0 [(0, .ref a0), (1, .int a1), (2, .int a2)] [] (m_M_ofItsOwn (hp_G Z)  a0 a1 a2 h) := by
  unfold m_M_ofItsOwn
  refine hp_aload_n (x0 := 0) d_M_ofItsOwn_0 rfl rfl ?_
  refine hp_getR fl_M_54 d_M_ofItsOwn_1 fun x1 => ?_
  refine hp_iload_n (x0 := 1) d_M_ofItsOwn_4 rfl rfl ?_
  refine hp_iald d_M_ofItsOwn_5 fun x2 => ?_
  refine hp_istore_n (fun x3 => [(3, .int x3), (0, .ref a0), (1, .int a1), (2, .int a2)]) d_M_ofItsOwn_6 rfl (by decide) (fun _ => rfl) fun x3 => ?_
  refine hp_aload_n (x0 := 1) d_M_ofItsOwn_7 rfl rfl ?_
  refine hp_getR fl_M_51 d_M_ofItsOwn_8 fun x4 => ?_
  refine hp_iload_n (x0 := 2) d_M_ofItsOwn_11 rfl rfl ?_
  refine hp_iald d_M_ofItsOwn_12 fun x5 => ?_
  refine hp_ite (fun c0 => ?_) (fun c0 => ?_)
  · refine hp_tabI (tgt := 128) (kv := 0) d_M_ofItsOwn_13 c0 (by decide) (by decide) rfl (by decide) ?_
    refine hp_aload_n (x0 := 1) d_M_ofItsOwn_128 rfl rfl ?_
    refine hp_iload_n (x0 := 0) d_M_ofItsOwn_129 rfl rfl ?_
    refine hp_callI (hp_crV (ci := 8) (t_M_isValue _ _ _ _) cw_M_161 rfl ⟨w_1024, ws_44⟩ (by decide) rfl rfl (Nat.le_of_ble_eq_true rfl) d_M_ofItsOwn_130) fun q6 => ?_
    refine hp_if_eq (tgt := 140) d_M_ofItsOwn_133 (by decide) ?_ ?_
    · refine hp_bipush (v := -4) d_M_ofItsOwn_140 (by decide) ?_
      refine hp_sub [] rfl ?_
      exact j_M_ofItsOwn_142  _ _
    · refine hp_iload_n (x0 := 0) d_M_ofItsOwn_136 rfl rfl ?_
      refine hp_goto (tgt := 142) d_M_ofItsOwn_137 (by decide) ?_
      refine hp_sub [] rfl ?_
      exact j_M_ofItsOwn_142  _ _
  · skip
    refine hp_ite (fun c1 => ?_) (fun c1 => ?_)
    · refine hp_tabI (tgt := 143) (kv := 1) d_M_ofItsOwn_13 c1 (by decide) (by decide) rfl (by decide) ?_
      refine hp_aload_n (x0 := 1) d_M_ofItsOwn_143 rfl rfl ?_
      refine hp_iload_n (x0 := 0) d_M_ofItsOwn_144 rfl rfl ?_
      refine hp_callI (hp_crV (ci := 8) (t_M_bindingOf _ _ _ _) cw_M_250 rfl ⟨w_1103, ws_55⟩ (by decide) rfl rfl (Nat.le_of_ble_eq_true rfl) d_M_ofItsOwn_145) fun q7 => ?_
      refine hp_if_le (tgt := 159) d_M_ofItsOwn_148 (by decide) ?_ ?_
      · refine hp_bipush (v := -4) d_M_ofItsOwn_159 (by decide) ?_
        refine hp_sub [] rfl ?_
        exact j_M_ofItsOwn_161  _ _
      · refine hp_aload_n (x0 := 1) d_M_ofItsOwn_151 rfl rfl ?_
        refine hp_iload_n (x0 := 0) d_M_ofItsOwn_152 rfl rfl ?_
        refine hp_callI (hp_crV (ci := 8) (t_M_bindingOf _ _ _ _) cw_M_250 rfl ⟨w_1103, ws_55⟩ (by decide) rfl rfl (Nat.le_of_ble_eq_true rfl) d_M_ofItsOwn_153) fun q8 => ?_
        refine hp_goto (tgt := 161) d_M_ofItsOwn_156 (by decide) ?_
        refine hp_sub [] rfl ?_
        exact j_M_ofItsOwn_161  _ _
    · skip
      refine hp_ite (fun c2 => ?_) (fun c2 => ?_)
      · refine hp_tabI (tgt := 162) (kv := 2) d_M_ofItsOwn_13 c2 (by decide) (by decide) rfl (by decide) ?_
        refine hp_aload_n (x0 := 1) d_M_ofItsOwn_162 rfl rfl ?_
        refine hp_aload_n (x0 := 1) d_M_ofItsOwn_163 rfl rfl ?_
        refine hp_iload_n (x0 := 0) d_M_ofItsOwn_164 rfl rfl ?_
        refine hp_callI (hp_crV (ci := 8) (t_M_bindingOf _ _ _ _) cw_M_250 rfl ⟨w_1103, ws_55⟩ (by decide) rfl rfl (Nat.le_of_ble_eq_true rfl) d_M_ofItsOwn_165) fun q9 => ?_
        refine hp_if_le (tgt := 175) d_M_ofItsOwn_168 (by decide) ?_ ?_
        · refine hp_iconst (v := 0) d_M_ofItsOwn_175 (by decide) ?_
          refine hp_sub [] rfl ?_
          exact j_M_ofItsOwn_176  _ _ _
        · refine hp_iconst (v := 1) d_M_ofItsOwn_171 (by decide) ?_
          refine hp_goto (tgt := 176) d_M_ofItsOwn_172 (by decide) ?_
          refine hp_sub [] rfl ?_
          exact j_M_ofItsOwn_176  _ _ _
      · skip
        refine hp_ite (fun c3 => ?_) (fun c3 => ?_)
        · refine hp_tabI (tgt := 311) (kv := 3) d_M_ofItsOwn_13 c3 (by decide) (by decide) rfl (by decide) ?_
          refine hp_bipush (v := -2) d_M_ofItsOwn_311 (by decide) ?_
          exact hp_iret d_M_ofItsOwn_313 rfl
        · skip
          refine hp_ite (fun c4 => ?_) (fun c4 => ?_)
          · refine hp_tabI (tgt := 180) (kv := 4) d_M_ofItsOwn_13 c4 (by decide) (by decide) rfl (by decide) ?_
            refine hp_aload_n (x0 := 1) d_M_ofItsOwn_180 rfl rfl ?_
            refine hp_aload_n (x0 := 1) d_M_ofItsOwn_181 rfl rfl ?_
            refine hp_getR fl_M_60 d_M_ofItsOwn_182 fun x10 => ?_
            refine hp_iload_n (x0 := 3) d_M_ofItsOwn_185 rfl rfl ?_
            refine hp_iald d_M_ofItsOwn_186 fun x11 => ?_
            refine hp_aload_n (x0 := 1) d_M_ofItsOwn_187 rfl rfl ?_
            refine hp_getR fl_M_60 d_M_ofItsOwn_188 fun x12 => ?_
            refine hp_iload_n (x0 := 3) d_M_ofItsOwn_191 rfl rfl ?_
            refine hp_iconst (v := 1) d_M_ofItsOwn_192 (by decide) ?_
            refine hp_iadd d_M_ofItsOwn_193 ?_
            refine hp_iald d_M_ofItsOwn_194 fun x13 => ?_
            refine hp_iconst (v := 0) d_M_ofItsOwn_195 (by decide) ?_
            refine hp_callI (hp_crV (ci := 8) (t_M_both _ _ _ _ _ _) cw_M_253 rfl ⟨w_1108, ws_56⟩ (by decide) rfl rfl (Nat.le_of_ble_eq_true rfl) d_M_ofItsOwn_196) fun q14 => ?_
            exact hp_iret d_M_ofItsOwn_199 rfl
          · skip
            refine hp_ite (fun c5 => ?_) (fun c5 => ?_)
            · refine hp_tabI (tgt := 200) (kv := 5) d_M_ofItsOwn_13 c5 (by decide) (by decide) rfl (by decide) ?_
              refine hp_aload_n (x0 := 1) d_M_ofItsOwn_200 rfl rfl ?_
              refine hp_aload_n (x0 := 1) d_M_ofItsOwn_201 rfl rfl ?_
              refine hp_getR fl_M_60 d_M_ofItsOwn_202 fun x15 => ?_
              refine hp_iload_n (x0 := 3) d_M_ofItsOwn_205 rfl rfl ?_
              refine hp_iald d_M_ofItsOwn_206 fun x16 => ?_
              refine hp_aload_n (x0 := 1) d_M_ofItsOwn_207 rfl rfl ?_
              refine hp_getR fl_M_60 d_M_ofItsOwn_208 fun x17 => ?_
              refine hp_iload_n (x0 := 3) d_M_ofItsOwn_211 rfl rfl ?_
              refine hp_iconst (v := 1) d_M_ofItsOwn_212 (by decide) ?_
              refine hp_iadd d_M_ofItsOwn_213 ?_
              refine hp_iald d_M_ofItsOwn_214 fun x18 => ?_
              refine hp_iconst (v := 1) d_M_ofItsOwn_215 (by decide) ?_
              refine hp_callI (hp_crV (ci := 8) (t_M_both _ _ _ _ _ _) cw_M_253 rfl ⟨w_1108, ws_56⟩ (by decide) rfl rfl (Nat.le_of_ble_eq_true rfl) d_M_ofItsOwn_216) fun q19 => ?_
              exact hp_iret d_M_ofItsOwn_219 rfl
            · skip
              refine hp_ite (fun c6 => ?_) (fun c6 => ?_)
              · refine hp_tabI (tgt := 311) (kv := 6) d_M_ofItsOwn_13 c6 (by decide) (by decide) rfl (by decide) ?_
                refine hp_bipush (v := -2) d_M_ofItsOwn_311 (by decide) ?_
                exact hp_iret d_M_ofItsOwn_313 rfl
              · skip
                refine hp_ite (fun c7 => ?_) (fun c7 => ?_)
                · refine hp_tabI (tgt := 311) (kv := 7) d_M_ofItsOwn_13 c7 (by decide) (by decide) rfl (by decide) ?_
                  refine hp_bipush (v := -2) d_M_ofItsOwn_311 (by decide) ?_
                  exact hp_iret d_M_ofItsOwn_313 rfl
                · skip
                  refine hp_ite (fun c8 => ?_) (fun c8 => ?_)
                  · refine hp_tabI (tgt := 311) (kv := 8) d_M_ofItsOwn_13 c8 (by decide) (by decide) rfl (by decide) ?_
                    refine hp_bipush (v := -2) d_M_ofItsOwn_311 (by decide) ?_
                    exact hp_iret d_M_ofItsOwn_313 rfl
                  · skip
                    refine hp_ite (fun c9 => ?_) (fun c9 => ?_)
                    · refine hp_tabI (tgt := 311) (kv := 9) d_M_ofItsOwn_13 c9 (by decide) (by decide) rfl (by decide) ?_
                      refine hp_bipush (v := -2) d_M_ofItsOwn_311 (by decide) ?_
                      exact hp_iret d_M_ofItsOwn_313 rfl
                    · skip
                      refine hp_ite (fun c10 => ?_) (fun c10 => ?_)
                      · refine hp_tabI (tgt := 311) (kv := 10) d_M_ofItsOwn_13 c10 (by decide) (by decide) rfl (by decide) ?_
                        refine hp_bipush (v := -2) d_M_ofItsOwn_311 (by decide) ?_
                        exact hp_iret d_M_ofItsOwn_313 rfl
                      · skip
                        refine hp_ite (fun c11 => ?_) (fun c11 => ?_)
                        · refine hp_tabI (tgt := 311) (kv := 11) d_M_ofItsOwn_13 c11 (by decide) (by decide) rfl (by decide) ?_
                          refine hp_bipush (v := -2) d_M_ofItsOwn_311 (by decide) ?_
                          exact hp_iret d_M_ofItsOwn_313 rfl
                        · skip
                          refine hp_ite (fun c12 => ?_) (fun c12 => ?_)
                          · refine hp_tabI (tgt := 311) (kv := 12) d_M_ofItsOwn_13 c12 (by decide) (by decide) rfl (by decide) ?_
                            refine hp_bipush (v := -2) d_M_ofItsOwn_311 (by decide) ?_
                            exact hp_iret d_M_ofItsOwn_313 rfl
                          · skip
                            refine hp_ite (fun c13 => ?_) (fun c13 => ?_)
                            · refine hp_tabI (tgt := 311) (kv := 13) d_M_ofItsOwn_13 c13 (by decide) (by decide) rfl (by decide) ?_
                              refine hp_bipush (v := -2) d_M_ofItsOwn_311 (by decide) ?_
                              exact hp_iret d_M_ofItsOwn_313 rfl
                            · skip
                              refine hp_ite (fun c14 => ?_) (fun c14 => ?_)
                              · refine hp_tabI (tgt := 311) (kv := 14) d_M_ofItsOwn_13 c14 (by decide) (by decide) rfl (by decide) ?_
                                refine hp_bipush (v := -2) d_M_ofItsOwn_311 (by decide) ?_
                                exact hp_iret d_M_ofItsOwn_313 rfl
                              · skip
                                refine hp_ite (fun c15 => ?_) (fun c15 => ?_)
                                · refine hp_tabI (tgt := 311) (kv := 15) d_M_ofItsOwn_13 c15 (by decide) (by decide) rfl (by decide) ?_
                                  refine hp_bipush (v := -2) d_M_ofItsOwn_311 (by decide) ?_
                                  exact hp_iret d_M_ofItsOwn_313 rfl
                                · skip
                                  refine hp_ite (fun c16 => ?_) (fun c16 => ?_)
                                  · refine hp_tabI (tgt := 311) (kv := 16) d_M_ofItsOwn_13 c16 (by decide) (by decide) rfl (by decide) ?_
                                    refine hp_bipush (v := -2) d_M_ofItsOwn_311 (by decide) ?_
                                    exact hp_iret d_M_ofItsOwn_313 rfl
                                  · skip
                                    refine hp_ite (fun c17 => ?_) (fun c17 => ?_)
                                    · refine hp_tabI (tgt := 311) (kv := 17) d_M_ofItsOwn_13 c17 (by decide) (by decide) rfl (by decide) ?_
                                      refine hp_bipush (v := -2) d_M_ofItsOwn_311 (by decide) ?_
                                      exact hp_iret d_M_ofItsOwn_313 rfl
                                    · skip
                                      refine hp_ite (fun c18 => ?_) (fun c18 => ?_)
                                      · refine hp_tabI (tgt := 311) (kv := 18) d_M_ofItsOwn_13 c18 (by decide) (by decide) rfl (by decide) ?_
                                        refine hp_bipush (v := -2) d_M_ofItsOwn_311 (by decide) ?_
                                        exact hp_iret d_M_ofItsOwn_313 rfl
                                      · skip
                                        refine hp_ite (fun c19 => ?_) (fun c19 => ?_)
                                        · refine hp_tabI (tgt := 311) (kv := 19) d_M_ofItsOwn_13 c19 (by decide) (by decide) rfl (by decide) ?_
                                          refine hp_bipush (v := -2) d_M_ofItsOwn_311 (by decide) ?_
                                          exact hp_iret d_M_ofItsOwn_313 rfl
                                        · skip
                                          refine hp_ite (fun c20 => ?_) (fun c20 => ?_)
                                          · refine hp_tabI (tgt := 311) (kv := 20) d_M_ofItsOwn_13 c20 (by decide) (by decide) rfl (by decide) ?_
                                            refine hp_bipush (v := -2) d_M_ofItsOwn_311 (by decide) ?_
                                            exact hp_iret d_M_ofItsOwn_313 rfl
                                          · skip
                                            refine hp_ite (fun c21 => ?_) (fun c21 => ?_)
                                            · refine hp_tabI (tgt := 311) (kv := 21) d_M_ofItsOwn_13 c21 (by decide) (by decide) rfl (by decide) ?_
                                              refine hp_bipush (v := -2) d_M_ofItsOwn_311 (by decide) ?_
                                              exact hp_iret d_M_ofItsOwn_313 rfl
                                            · skip
                                              refine hp_ite (fun c22 => ?_) (fun c22 => ?_)
                                              · refine hp_tabI (tgt := 220) (kv := 22) d_M_ofItsOwn_13 c22 (by decide) (by decide) rfl (by decide) ?_
                                                refine hp_aload_n (x0 := 1) d_M_ofItsOwn_220 rfl rfl ?_
                                                refine hp_aload_n (x0 := 1) d_M_ofItsOwn_221 rfl rfl ?_
                                                refine hp_getR fl_M_60 d_M_ofItsOwn_222 fun x20 => ?_
                                                refine hp_iload_n (x0 := 3) d_M_ofItsOwn_225 rfl rfl ?_
                                                refine hp_iald d_M_ofItsOwn_226 fun x21 => ?_
                                                refine hp_callI (hp_crV (ci := 8) (t_M_truthOf _ _ _ _) cw_M_244 rfl ⟨w_1112, ws_57⟩ (by decide) rfl rfl (Nat.le_of_ble_eq_true rfl) d_M_ofItsOwn_227) fun q22 => ?_
                                                refine hp_istore (fun x23 => [(4, .int x23), (3, .int x3), (0, .ref a0), (1, .int a1), (2, .int a2)]) d_M_ofItsOwn_230 (by decide) (fun _ => rfl) fun x23 => ?_
                                                refine hp_iload (x0 := 0) d_M_ofItsOwn_232 rfl ?_
                                                refine hp_if_ge (tgt := 242) d_M_ofItsOwn_234 (by decide) ?_ ?_
                                                · refine hp_aload_n (x0 := 2) d_M_ofItsOwn_242 rfl rfl ?_
                                                  refine hp_getR fl_M_60 d_M_ofItsOwn_243 fun x24 => ?_
                                                  refine hp_iload_n (x0 := 4) d_M_ofItsOwn_246 rfl rfl ?_
                                                  refine hp_iconst (v := 2) d_M_ofItsOwn_247 (by decide) ?_
                                                  refine hp_iadd d_M_ofItsOwn_248 ?_
                                                  refine hp_iload (x0 := 0) d_M_ofItsOwn_249 rfl ?_
                                                  refine hp_isub d_M_ofItsOwn_251 ?_
                                                  refine hp_iald d_M_ofItsOwn_252 fun x25 => ?_
                                                  refine hp_sub [] rfl ?_
                                                  exact j_M_ofItsOwn_253  _ _
                                                · refine hp_bipush (v := -4) d_M_ofItsOwn_237 (by decide) ?_
                                                  refine hp_goto (tgt := 253) d_M_ofItsOwn_239 (by decide) ?_
                                                  refine hp_sub [] rfl ?_
                                                  exact j_M_ofItsOwn_253  _ _
                                              · skip
                                                refine hp_ite (fun c23 => ?_) (fun c23 => ?_)
                                                · refine hp_tabI (tgt := 254) (kv := 23) d_M_ofItsOwn_13 c23 (by decide) (by decide) rfl (by decide) ?_
                                                  refine hp_iconst (v := 0) d_M_ofItsOwn_254 (by decide) ?_
                                                  refine hp_istore (fun x26 => [(5, .int x26), (3, .int x3), (0, .ref a0), (1, .int a1), (2, .int a2)]) d_M_ofItsOwn_255 (by decide) (fun _ => rfl) fun x26 => ?_
                                                  refine hp_sub [2, 4, 1, 0] rfl ?_
                                                  exact j_M_ofItsOwn_257  hp_fu _ _ _ _ _
                                                · skip
                                                  refine hp_ite (fun c24 => ?_) (fun c24 => ?_)
                                                  · refine hp_tabI (tgt := 304) (kv := 24) d_M_ofItsOwn_13 c24 (by decide) (by decide) rfl (by decide) ?_
                                                    refine hp_aload_n (x0 := 1) d_M_ofItsOwn_304 rfl rfl ?_
                                                    refine hp_iload_n (x0 := 3) d_M_ofItsOwn_305 rfl rfl ?_
                                                    refine hp_iload_n (x0 := 0) d_M_ofItsOwn_306 rfl rfl ?_
                                                    refine hp_callI (hp_crV (ci := 8) (t_M_isIn _ _ _ _ _) cw_M_256 rfl ⟨w_1123, ws_59⟩ (by decide) rfl rfl (Nat.le_of_ble_eq_true rfl) d_M_ofItsOwn_307) fun q27 => ?_
                                                    exact hp_iret d_M_ofItsOwn_310 rfl
                                                  · skip
                                                    refine hp_tabD (tgt := 311) d_M_ofItsOwn_13 (by have e0 := lv_neT c0 (a := 0) (by decide); have e1 := lv_neT c1 (a := 1) (by decide); have e2 := lv_neT c2 (a := 2) (by decide); have e3 := lv_neT c3 (a := 3) (by decide); have e4 := lv_neT c4 (a := 4) (by decide); have e5 := lv_neT c5 (a := 5) (by decide); have e6 := lv_neT c6 (a := 6) (by decide); have e7 := lv_neT c7 (a := 7) (by decide); have e8 := lv_neT c8 (a := 8) (by decide); have e9 := lv_neT c9 (a := 9) (by decide); have e10 := lv_neT c10 (a := 10) (by decide); have e11 := lv_neT c11 (a := 11) (by decide); have e12 := lv_neT c12 (a := 12) (by decide); have e13 := lv_neT c13 (a := 13) (by decide); have e14 := lv_neT c14 (a := 14) (by decide); have e15 := lv_neT c15 (a := 15) (by decide); have e16 := lv_neT c16 (a := 16) (by decide); have e17 := lv_neT c17 (a := 17) (by decide); have e18 := lv_neT c18 (a := 18) (by decide); have e19 := lv_neT c19 (a := 19) (by decide); have e20 := lv_neT c20 (a := 20) (by decide); have e21 := lv_neT c21 (a := 21) (by decide); have e22 := lv_neT c22 (a := 22) (by decide); have e23 := lv_neT c23 (a := 23) (by decide); have e24 := lv_neT c24 (a := 24) (by decide); omega) (by decide) ?_
                                                    refine hp_bipush (v := -2) d_M_ofItsOwn_311 (by decide) ?_
                                                    exact hp_iret d_M_ofItsOwn_313 rfl
theorem t_M_ofItsOwn (l : Launch) (E : hp_E) (a0 : Nat) (a1 : Int32) (a2 : Int32) : hp_M l E y_M_ofItsOwn Y_M_ofItsOwn hp_rI [.ref a0, .int a1, .int a2] (m_M_ofItsOwn E.2.2.1 a0 a1 a2) := hp_M.of (plainFor_of_name (by decide)) ⟨rfl, rfl⟩ (Nat.le_of_ble_eq_true rfl) (fun Z h hE => by subst hE; exact j_M_ofItsOwn_0 _ _ _ h)
-- M_isPlain
theorem d_M_isPlain_0 : decode prog_9_method_45_code 0 = .ok (.aload_n 0, 1) := by decide +kernel
theorem d_M_isPlain_1 : decode prog_9_method_45_code 1 = .ok (.getfield 7, 3) := by decide +kernel
theorem d_M_isPlain_4 : decode prog_9_method_45_code 4 = .ok (.iload_n 1, 1) := by decide +kernel
theorem d_M_isPlain_5 : decode prog_9_method_45_code 5 = .ok (.iaload, 1) := by decide +kernel
theorem d_M_isPlain_6 : decode prog_9_method_45_code 6 = .ok (.iconst 5, 1) := by decide +kernel
theorem d_M_isPlain_7 : decode prog_9_method_45_code 7 = .ok (.if_icmp .eq 14, 3) := by decide +kernel
theorem d_M_isPlain_10 : decode prog_9_method_45_code 10 = .ok (.aload_n 0, 1) := by decide +kernel
theorem d_M_isPlain_11 : decode prog_9_method_45_code 11 = .ok (.getfield 7, 3) := by decide +kernel
theorem d_M_isPlain_14 : decode prog_9_method_45_code 14 = .ok (.iload_n 1, 1) := by decide +kernel
theorem d_M_isPlain_15 : decode prog_9_method_45_code 15 = .ok (.iaload, 1) := by decide +kernel
theorem d_M_isPlain_16 : decode prog_9_method_45_code 16 = .ok (.bipush 6, 2) := by decide +kernel
theorem d_M_isPlain_18 : decode prog_9_method_45_code 18 = .ok (.if_icmp .ne 7, 3) := by decide +kernel
theorem d_M_isPlain_21 : decode prog_9_method_45_code 21 = .ok (.iconst 1, 1) := by decide +kernel
theorem d_M_isPlain_22 : decode prog_9_method_45_code 22 = .ok (.goto 4, 3) := by decide +kernel
theorem d_M_isPlain_25 : decode prog_9_method_45_code 25 = .ok (.iconst 0, 1) := by decide +kernel
theorem d_M_isPlain_26 : decode prog_9_method_45_code 26 = .ok (.ireturn, 1) := by decide +kernel
def m_M_isPlain_26 (G : Nat → Nat) (s0 : Int32) (h : hp_H) : Option (Int32 × hp_H) := hp_z s0 h
set_option maxRecDepth 100000 in
set_option maxHeartbeats 4000000 in
theorem j_M_isPlain_26 {Z : hp_Z} (s0 : Int32) (h : hp_H) : hp_J Y_M_isPlain Z hp_rI h 26 [] [.int s0] (m_M_isPlain_26 (hp_G Z)  s0 h) := by
  unfold m_M_isPlain_26
  exact hp_zret d_M_isPlain_26 rfl
def m_M_isPlain_21 (G : Nat → Nat) (h : hp_H) : Option (Int32 × hp_H) := m_M_isPlain_26 G (1 : Int32) h
set_option maxRecDepth 100000 in
set_option maxHeartbeats 4000000 in
theorem j_M_isPlain_21 {Z : hp_Z} (h : hp_H) : hp_J Y_M_isPlain Z hp_rI h 21 [] [] (m_M_isPlain_21 (hp_G Z)   h) := by
  unfold m_M_isPlain_21
  refine hp_iconst (v := 1) d_M_isPlain_21 (by decide) ?_
  refine hp_goto (tgt := 26) d_M_isPlain_22 (by decide) ?_
  exact j_M_isPlain_26  _ _
def m_M_isPlain (G : Nat → Nat) (a0 : Nat) (a1 : Int32) (h : hp_H) : Option (Int32 × hp_H) := (hp_gR h a0 8 1).bind fun x1 => (hp_aI h .int x1 a1).bind fun x2 => if x2 = (5 : Int32) then (m_M_isPlain_21 G h) else ((hp_gR h a0 8 1).bind fun x3 => (hp_aI h .int x3 a1).bind fun x4 => if x4 = (6 : Int32) then (m_M_isPlain_21 G h) else (m_M_isPlain_26 G (0 : Int32) h))
set_option maxRecDepth 100000 in
set_option maxHeartbeats 4000000 in
theorem j_M_isPlain_0 {Z : hp_Z} (a0 : Nat) (a1 : Int32) (h : hp_H) : hp_J Y_M_isPlain Z hp_rI h 0 [(0, .ref a0), (1, .int a1)] [] (m_M_isPlain (hp_G Z)  a0 a1 h) := by
  unfold m_M_isPlain
  refine hp_aload_n (x0 := 0) d_M_isPlain_0 rfl rfl ?_
  refine hp_getR fl_M_7 d_M_isPlain_1 fun x1 => ?_
  refine hp_iload_n (x0 := 1) d_M_isPlain_4 rfl rfl ?_
  refine hp_iald d_M_isPlain_5 fun x2 => ?_
  refine hp_iconst (v := 5) d_M_isPlain_6 (by decide) ?_
  refine hp_icmp_eq (tgt := 21) d_M_isPlain_7 (by decide) ?_ ?_
  · refine hp_sub [] rfl ?_
    exact j_M_isPlain_21   _
  · refine hp_aload_n (x0 := 0) d_M_isPlain_10 rfl rfl ?_
    refine hp_getR fl_M_7 d_M_isPlain_11 fun x3 => ?_
    refine hp_iload_n (x0 := 1) d_M_isPlain_14 rfl rfl ?_
    refine hp_iald d_M_isPlain_15 fun x4 => ?_
    refine hp_bipush (v := 6) d_M_isPlain_16 (by decide) ?_
    refine hp_icmp_ne (tgt := 25) d_M_isPlain_18 (by decide) ?_ ?_
    · refine hp_sub [] rfl ?_
      exact j_M_isPlain_21   _
    · refine hp_iconst (v := 0) d_M_isPlain_25 (by decide) ?_
      refine hp_sub [] rfl ?_
      exact j_M_isPlain_26  _ _
theorem t_M_isPlain (l : Launch) (E : hp_E) (a0 : Nat) (a1 : Int32) : hp_M l E y_M_isPlain Y_M_isPlain hp_rI [.ref a0, .int a1] (m_M_isPlain E.2.2.1 a0 a1) := hp_M.of (plainFor_of_name (by decide)) ⟨rfl, rfl⟩ (Nat.le_of_ble_eq_true rfl) (fun Z h hE => by subst hE; exact j_M_isPlain_0 _ _ h)
