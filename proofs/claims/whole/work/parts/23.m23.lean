-- M_less
theorem d_M_less_0 : decode prog_9_method_42_code 0 = .ok (.aload_n 0, 1) := by decide +kernel
theorem d_M_less_1 : decode prog_9_method_42_code 1 = .ok (.iload_n 1, 1) := by decide +kernel
theorem d_M_less_2 : decode prog_9_method_42_code 2 = .ok (.invokevirtual 168, 3) := by decide +kernel
theorem d_M_less_5 : decode prog_9_method_42_code 5 = .ok (.ifCond .eq 29, 3) := by decide +kernel
theorem d_M_less_8 : decode prog_9_method_42_code 8 = .ok (.aload_n 0, 1) := by decide +kernel
theorem d_M_less_9 : decode prog_9_method_42_code 9 = .ok (.iload_n 2, 1) := by decide +kernel
theorem d_M_less_10 : decode prog_9_method_42_code 10 = .ok (.invokevirtual 168, 3) := by decide +kernel
theorem d_M_less_13 : decode prog_9_method_42_code 13 = .ok (.ifCond .eq 21, 3) := by decide +kernel
theorem d_M_less_16 : decode prog_9_method_42_code 16 = .ok (.aload_n 0, 1) := by decide +kernel
theorem d_M_less_17 : decode prog_9_method_42_code 17 = .ok (.iload_n 1, 1) := by decide +kernel
theorem d_M_less_18 : decode prog_9_method_42_code 18 = .ok (.iload_n 2, 1) := by decide +kernel
theorem d_M_less_19 : decode prog_9_method_42_code 19 = .ok (.invokevirtual 171, 3) := by decide +kernel
theorem d_M_less_22 : decode prog_9_method_42_code 22 = .ok (.ifCond .ge 7, 3) := by decide +kernel
theorem d_M_less_25 : decode prog_9_method_42_code 25 = .ok (.iconst 1, 1) := by decide +kernel
theorem d_M_less_26 : decode prog_9_method_42_code 26 = .ok (.goto 4, 3) := by decide +kernel
theorem d_M_less_29 : decode prog_9_method_42_code 29 = .ok (.iconst 0, 1) := by decide +kernel
theorem d_M_less_30 : decode prog_9_method_42_code 30 = .ok (.invokestatic 181, 3) := by decide +kernel
theorem d_M_less_33 : decode prog_9_method_42_code 33 = .ok (.ireturn, 1) := by decide +kernel
theorem d_M_less_34 : decode prog_9_method_42_code 34 = .ok (.aload_n 0, 1) := by decide +kernel
theorem d_M_less_35 : decode prog_9_method_42_code 35 = .ok (.getfield 7, 3) := by decide +kernel
theorem d_M_less_38 : decode prog_9_method_42_code 38 = .ok (.iload_n 1, 1) := by decide +kernel
theorem d_M_less_39 : decode prog_9_method_42_code 39 = .ok (.iaload, 1) := by decide +kernel
theorem d_M_less_40 : decode prog_9_method_42_code 40 = .ok (.aload_n 0, 1) := by decide +kernel
theorem d_M_less_41 : decode prog_9_method_42_code 41 = .ok (.getfield 7, 3) := by decide +kernel
theorem d_M_less_44 : decode prog_9_method_42_code 44 = .ok (.iload_n 2, 1) := by decide +kernel
theorem d_M_less_45 : decode prog_9_method_42_code 45 = .ok (.iaload, 1) := by decide +kernel
theorem d_M_less_46 : decode prog_9_method_42_code 46 = .ok (.if_icmp .ne 44, 3) := by decide +kernel
theorem d_M_less_49 : decode prog_9_method_42_code 49 = .ok (.aload_n 0, 1) := by decide +kernel
theorem d_M_less_50 : decode prog_9_method_42_code 50 = .ok (.getfield 7, 3) := by decide +kernel
theorem d_M_less_53 : decode prog_9_method_42_code 53 = .ok (.iload_n 1, 1) := by decide +kernel
theorem d_M_less_54 : decode prog_9_method_42_code 54 = .ok (.iaload, 1) := by decide +kernel
theorem d_M_less_55 : decode prog_9_method_42_code 55 = .ok (.iconst 5, 1) := by decide +kernel
theorem d_M_less_56 : decode prog_9_method_42_code 56 = .ok (.if_icmp .eq 14, 3) := by decide +kernel
theorem d_M_less_59 : decode prog_9_method_42_code 59 = .ok (.aload_n 0, 1) := by decide +kernel
theorem d_M_less_60 : decode prog_9_method_42_code 60 = .ok (.getfield 7, 3) := by decide +kernel
theorem d_M_less_63 : decode prog_9_method_42_code 63 = .ok (.iload_n 1, 1) := by decide +kernel
theorem d_M_less_64 : decode prog_9_method_42_code 64 = .ok (.iaload, 1) := by decide +kernel
theorem d_M_less_65 : decode prog_9_method_42_code 65 = .ok (.bipush 8, 2) := by decide +kernel
theorem d_M_less_67 : decode prog_9_method_42_code 67 = .ok (.if_icmp .ne 23, 3) := by decide +kernel
theorem d_M_less_70 : decode prog_9_method_42_code 70 = .ok (.aload_n 0, 1) := by decide +kernel
theorem d_M_less_71 : decode prog_9_method_42_code 71 = .ok (.iload_n 1, 1) := by decide +kernel
theorem d_M_less_72 : decode prog_9_method_42_code 72 = .ok (.iload_n 2, 1) := by decide +kernel
theorem d_M_less_73 : decode prog_9_method_42_code 73 = .ok (.invokevirtual 178, 3) := by decide +kernel
theorem d_M_less_76 : decode prog_9_method_42_code 76 = .ok (.ifCond .ge 7, 3) := by decide +kernel
theorem d_M_less_79 : decode prog_9_method_42_code 79 = .ok (.iconst 1, 1) := by decide +kernel
theorem d_M_less_80 : decode prog_9_method_42_code 80 = .ok (.goto 4, 3) := by decide +kernel
theorem d_M_less_83 : decode prog_9_method_42_code 83 = .ok (.iconst 0, 1) := by decide +kernel
theorem d_M_less_84 : decode prog_9_method_42_code 84 = .ok (.invokestatic 181, 3) := by decide +kernel
theorem d_M_less_87 : decode prog_9_method_42_code 87 = .ok (.goto 5, 3) := by decide +kernel
theorem d_M_less_90 : decode prog_9_method_42_code 90 = .ok (.bipush (-4), 2) := by decide +kernel
theorem d_M_less_92 : decode prog_9_method_42_code 92 = .ok (.ireturn, 1) := by decide +kernel
def m_M_less_30 (G : Nat → Nat) (s0 : Int32) (h : hp_H) : Option (Int32 × hp_H) := (m_M_bit G s0 h).bind fun q1 => some (q1.1, q1.2)
set_option maxRecDepth 100000 in
set_option maxHeartbeats 4000000 in
theorem j_M_less_30 {Z : hp_Z} (s0 : Int32) (h : hp_H) : hp_J Y_M_less Z hp_rI h 30 [] [.int s0] (m_M_less_30 (hp_G Z)  s0 h) := by
  unfold m_M_less_30
  refine hp_callI (hp_crS (t_M_bit _ _ _) cw_M_181 w_1115 (by decide) rfl rfl (Nat.le_of_ble_eq_true rfl) d_M_less_30) fun q1 => ?_
  exact hp_iret d_M_less_33 rfl
def m_M_less_92 (G : Nat → Nat) (s0 : Int32) (h : hp_H) : Option (Int32 × hp_H) := some (s0, h)
set_option maxRecDepth 100000 in
set_option maxHeartbeats 4000000 in
theorem j_M_less_92 {Z : hp_Z} (s0 : Int32) (h : hp_H) : hp_J Y_M_less Z hp_rI h 92 [] [.int s0] (m_M_less_92 (hp_G Z)  s0 h) := by
  unfold m_M_less_92
  exact hp_iret d_M_less_92 rfl
def m_M_less_84 (G : Nat → Nat) (s0 : Int32) (h : hp_H) : Option (Int32 × hp_H) := (m_M_bit G s0 h).bind fun q1 => m_M_less_92 G q1.1 q1.2
set_option maxRecDepth 100000 in
set_option maxHeartbeats 4000000 in
theorem j_M_less_84 {Z : hp_Z} (s0 : Int32) (h : hp_H) : hp_J Y_M_less Z hp_rI h 84 [] [.int s0] (m_M_less_84 (hp_G Z)  s0 h) := by
  unfold m_M_less_84
  refine hp_callI (hp_crS (t_M_bit _ _ _) cw_M_181 w_1115 (by decide) rfl rfl (Nat.le_of_ble_eq_true rfl) d_M_less_84) fun q1 => ?_
  refine hp_goto (tgt := 92) d_M_less_87 (by decide) ?_
  exact j_M_less_92  _ _
def m_M_less_70 (G : Nat → Nat) (a0 : Nat) (a1 : Int32) (a2 : Int32) (h : hp_H) : Option (Int32 × hp_H) := (hp_vck h a0 8 (m_M_orderOf G a0 a1 a2 h)).bind fun q1 => if 0 ≤ q1.1 then (m_M_less_84 G (0 : Int32) q1.2) else (m_M_less_84 G (1 : Int32) q1.2)
set_option maxRecDepth 100000 in
set_option maxHeartbeats 4000000 in
theorem j_M_less_70 {Z : hp_Z} (a0 : Nat) (a1 : Int32) (a2 : Int32) (h : hp_H) : hp_J Y_M_less Z hp_rI h 70 [(0, .ref a0), (1, .int a1), (2, .int a2)] [] (m_M_less_70 (hp_G Z)  a0 a1 a2 h) := by
  unfold m_M_less_70
  refine hp_aload_n (x0 := 0) d_M_less_70 rfl rfl ?_
  refine hp_iload_n (x0 := 1) d_M_less_71 rfl rfl ?_
  refine hp_iload_n (x0 := 2) d_M_less_72 rfl rfl ?_
  refine hp_callI (hp_crV (ci := 8) (t_M_orderOf _ _ _ _ _) cw_M_178 rfl ⟨w_1044, ws_45⟩ (by decide) rfl rfl (Nat.le_of_ble_eq_true rfl) d_M_less_73) fun q1 => ?_
  refine hp_if_ge (tgt := 83) d_M_less_76 (by decide) ?_ ?_
  · refine hp_iconst (v := 0) d_M_less_83 (by decide) ?_
    refine hp_sub [] rfl ?_
    exact j_M_less_84  _ _
  · refine hp_iconst (v := 1) d_M_less_79 (by decide) ?_
    refine hp_goto (tgt := 84) d_M_less_80 (by decide) ?_
    refine hp_sub [] rfl ?_
    exact j_M_less_84  _ _
def m_M_less_90 (G : Nat → Nat) (h : hp_H) : Option (Int32 × hp_H) := m_M_less_92 G (-4 : Int32) h
set_option maxRecDepth 100000 in
set_option maxHeartbeats 4000000 in
theorem j_M_less_90 {Z : hp_Z} (h : hp_H) : hp_J Y_M_less Z hp_rI h 90 [] [] (m_M_less_90 (hp_G Z)   h) := by
  unfold m_M_less_90
  refine hp_bipush (v := -4) d_M_less_90 (by decide) ?_
  exact j_M_less_92  _ _
def m_M_less_34 (G : Nat → Nat) (a0 : Nat) (a1 : Int32) (a2 : Int32) (h : hp_H) : Option (Int32 × hp_H) := (hp_gR h a0 8 1).bind fun x1 => (hp_aI h .int x1 a1).bind fun x2 => (hp_gR h a0 8 1).bind fun x3 => (hp_aI h .int x3 a2).bind fun x4 => if x2 = x4 then ((hp_gR h a0 8 1).bind fun x5 => (hp_aI h .int x5 a1).bind fun x6 => if x6 = (5 : Int32) then (m_M_less_70 G a0 a1 a2 h) else ((hp_gR h a0 8 1).bind fun x7 => (hp_aI h .int x7 a1).bind fun x8 => if x8 = (8 : Int32) then (m_M_less_70 G a0 a1 a2 h) else (m_M_less_90 G h))) else (m_M_less_90 G h)
set_option maxRecDepth 100000 in
set_option maxHeartbeats 4000000 in
theorem j_M_less_34 {Z : hp_Z} (a0 : Nat) (a1 : Int32) (a2 : Int32) (h : hp_H) : hp_J Y_M_less Z hp_rI h 34 [(0, .ref a0), (1, .int a1), (2, .int a2)] [] (m_M_less_34 (hp_G Z)  a0 a1 a2 h) := by
  unfold m_M_less_34
  refine hp_aload_n (x0 := 0) d_M_less_34 rfl rfl ?_
  refine hp_getR fl_M_7 d_M_less_35 fun x1 => ?_
  refine hp_iload_n (x0 := 1) d_M_less_38 rfl rfl ?_
  refine hp_iald d_M_less_39 fun x2 => ?_
  refine hp_aload_n (x0 := 0) d_M_less_40 rfl rfl ?_
  refine hp_getR fl_M_7 d_M_less_41 fun x3 => ?_
  refine hp_iload_n (x0 := 2) d_M_less_44 rfl rfl ?_
  refine hp_iald d_M_less_45 fun x4 => ?_
  refine hp_icmp_ne (tgt := 90) d_M_less_46 (by decide) ?_ ?_
  · refine hp_aload_n (x0 := 0) d_M_less_49 rfl rfl ?_
    refine hp_getR fl_M_7 d_M_less_50 fun x5 => ?_
    refine hp_iload_n (x0 := 1) d_M_less_53 rfl rfl ?_
    refine hp_iald d_M_less_54 fun x6 => ?_
    refine hp_iconst (v := 5) d_M_less_55 (by decide) ?_
    refine hp_icmp_eq (tgt := 70) d_M_less_56 (by decide) ?_ ?_
    · exact j_M_less_70  _ _ _ _
    · refine hp_aload_n (x0 := 0) d_M_less_59 rfl rfl ?_
      refine hp_getR fl_M_7 d_M_less_60 fun x7 => ?_
      refine hp_iload_n (x0 := 1) d_M_less_63 rfl rfl ?_
      refine hp_iald d_M_less_64 fun x8 => ?_
      refine hp_bipush (v := 8) d_M_less_65 (by decide) ?_
      refine hp_icmp_ne (tgt := 90) d_M_less_67 (by decide) ?_ ?_
      · exact j_M_less_70  _ _ _ _
      · refine hp_sub [] rfl ?_
        exact j_M_less_90   _
  · refine hp_sub [] rfl ?_
    exact j_M_less_90   _
def m_M_less (G : Nat → Nat) (a0 : Nat) (a1 : Int32) (a2 : Int32) (h : hp_H) : Option (Int32 × hp_H) := (hp_vck h a0 8 (m_M_isNumber G a0 a1 h)).bind fun q1 => if q1.1 = 0 then (m_M_less_34 G a0 a1 a2 q1.2) else ((hp_vck q1.2 a0 8 (m_M_isNumber G a0 a2 q1.2)).bind fun q2 => if q2.1 = 0 then (m_M_less_34 G a0 a1 a2 q2.2) else ((hp_vck q2.2 a0 8 (m_M_orderNumbers G a0 a1 a2 q2.2)).bind fun q3 => if 0 ≤ q3.1 then (m_M_less_30 G (0 : Int32) q3.2) else (m_M_less_30 G (1 : Int32) q3.2)))
set_option maxRecDepth 100000 in
set_option maxHeartbeats 4000000 in
theorem j_M_less_0 {Z : hp_Z} (a0 : Nat) (a1 : Int32) (a2 : Int32) (h : hp_H) : hp_J Y_M_less Z hp_rI h 0 [(0, .ref a0), (1, .int a1), (2, .int a2)] [] (m_M_less (hp_G Z)  a0 a1 a2 h) := by
  unfold m_M_less
  refine hp_aload_n (x0 := 0) d_M_less_0 rfl rfl ?_
  refine hp_iload_n (x0 := 1) d_M_less_1 rfl rfl ?_
  refine hp_callI (hp_crV (ci := 8) (t_M_isNumber _ _ _ _) cw_M_168 rfl ⟨w_1052, ws_47⟩ (by decide) rfl rfl (Nat.le_of_ble_eq_true rfl) d_M_less_2) fun q1 => ?_
  refine hp_if_eq (tgt := 34) d_M_less_5 (by decide) ?_ ?_
  · exact j_M_less_34  _ _ _ _
  · refine hp_aload_n (x0 := 0) d_M_less_8 rfl rfl ?_
    refine hp_iload_n (x0 := 2) d_M_less_9 rfl rfl ?_
    refine hp_callI (hp_crV (ci := 8) (t_M_isNumber _ _ _ _) cw_M_168 rfl ⟨w_1052, ws_47⟩ (by decide) rfl rfl (Nat.le_of_ble_eq_true rfl) d_M_less_10) fun q2 => ?_
    refine hp_if_eq (tgt := 34) d_M_less_13 (by decide) ?_ ?_
    · exact j_M_less_34  _ _ _ _
    · refine hp_aload_n (x0 := 0) d_M_less_16 rfl rfl ?_
      refine hp_iload_n (x0 := 1) d_M_less_17 rfl rfl ?_
      refine hp_iload_n (x0 := 2) d_M_less_18 rfl rfl ?_
      refine hp_callI (hp_crV (ci := 8) (t_M_orderNumbers _ _ _ _ _) cw_M_171 rfl ⟨w_1056, ws_48⟩ (by decide) rfl rfl (Nat.le_of_ble_eq_true rfl) d_M_less_19) fun q3 => ?_
      refine hp_if_ge (tgt := 29) d_M_less_22 (by decide) ?_ ?_
      · refine hp_iconst (v := 0) d_M_less_29 (by decide) ?_
        refine hp_sub [] rfl ?_
        exact j_M_less_30  _ _
      · refine hp_iconst (v := 1) d_M_less_25 (by decide) ?_
        refine hp_goto (tgt := 30) d_M_less_26 (by decide) ?_
        refine hp_sub [] rfl ?_
        exact j_M_less_30  _ _
theorem t_M_less (l : Launch) (E : hp_E) (a0 : Nat) (a1 : Int32) (a2 : Int32) : hp_M l E y_M_less Y_M_less hp_rI [.ref a0, .int a1, .int a2] (m_M_less E.2.2.1 a0 a1 a2) := hp_M.of (plainFor_of_name (by decide)) ⟨rfl, rfl⟩ (Nat.le_of_ble_eq_true rfl) (fun Z h hE => by subst hE; exact j_M_less_0 _ _ _ h)
-- M_areWholes
theorem d_M_areWholes_0 : decode prog_9_method_15_code 0 = .ok (.aload_n 0, 1) := by decide +kernel
theorem d_M_areWholes_1 : decode prog_9_method_15_code 1 = .ok (.getfield 7, 3) := by decide +kernel
theorem d_M_areWholes_4 : decode prog_9_method_15_code 4 = .ok (.iload_n 1, 1) := by decide +kernel
theorem d_M_areWholes_5 : decode prog_9_method_15_code 5 = .ok (.iaload, 1) := by decide +kernel
theorem d_M_areWholes_6 : decode prog_9_method_15_code 6 = .ok (.iconst 3, 1) := by decide +kernel
theorem d_M_areWholes_7 : decode prog_9_method_15_code 7 = .ok (.if_icmp .ne 17, 3) := by decide +kernel
theorem d_M_areWholes_10 : decode prog_9_method_15_code 10 = .ok (.aload_n 0, 1) := by decide +kernel
theorem d_M_areWholes_11 : decode prog_9_method_15_code 11 = .ok (.getfield 7, 3) := by decide +kernel
theorem d_M_areWholes_14 : decode prog_9_method_15_code 14 = .ok (.iload_n 2, 1) := by decide +kernel
theorem d_M_areWholes_15 : decode prog_9_method_15_code 15 = .ok (.iaload, 1) := by decide +kernel
theorem d_M_areWholes_16 : decode prog_9_method_15_code 16 = .ok (.iconst 3, 1) := by decide +kernel
theorem d_M_areWholes_17 : decode prog_9_method_15_code 17 = .ok (.if_icmp .ne 7, 3) := by decide +kernel
theorem d_M_areWholes_20 : decode prog_9_method_15_code 20 = .ok (.iconst 1, 1) := by decide +kernel
theorem d_M_areWholes_21 : decode prog_9_method_15_code 21 = .ok (.goto 4, 3) := by decide +kernel
theorem d_M_areWholes_24 : decode prog_9_method_15_code 24 = .ok (.iconst 0, 1) := by decide +kernel
theorem d_M_areWholes_25 : decode prog_9_method_15_code 25 = .ok (.ireturn, 1) := by decide +kernel
def m_M_areWholes_25 (G : Nat → Nat) (s0 : Int32) (h : hp_H) : Option (Int32 × hp_H) := hp_z s0 h
set_option maxRecDepth 100000 in
set_option maxHeartbeats 4000000 in
theorem j_M_areWholes_25 {Z : hp_Z} (s0 : Int32) (h : hp_H) : hp_J Y_M_areWholes Z hp_rI h 25 [] [.int s0] (m_M_areWholes_25 (hp_G Z)  s0 h) := by
  unfold m_M_areWholes_25
  exact hp_zret d_M_areWholes_25 rfl
def m_M_areWholes_24 (G : Nat → Nat) (h : hp_H) : Option (Int32 × hp_H) := m_M_areWholes_25 G (0 : Int32) h
set_option maxRecDepth 100000 in
set_option maxHeartbeats 4000000 in
theorem j_M_areWholes_24 {Z : hp_Z} (h : hp_H) : hp_J Y_M_areWholes Z hp_rI h 24 [] [] (m_M_areWholes_24 (hp_G Z)   h) := by
  unfold m_M_areWholes_24
  refine hp_iconst (v := 0) d_M_areWholes_24 (by decide) ?_
  exact j_M_areWholes_25  _ _
def m_M_areWholes (G : Nat → Nat) (a0 : Nat) (a1 : Int32) (a2 : Int32) (h : hp_H) : Option (Int32 × hp_H) := (hp_gR h a0 8 1).bind fun x1 => (hp_aI h .int x1 a1).bind fun x2 => if x2 = (3 : Int32) then ((hp_gR h a0 8 1).bind fun x3 => (hp_aI h .int x3 a2).bind fun x4 => if x4 = (3 : Int32) then (m_M_areWholes_25 G (1 : Int32) h) else (m_M_areWholes_24 G h)) else (m_M_areWholes_24 G h)
set_option maxRecDepth 100000 in
set_option maxHeartbeats 4000000 in
theorem j_M_areWholes_0 {Z : hp_Z} (a0 : Nat) (a1 : Int32) (a2 : Int32) (h : hp_H) : hp_J Y_M_areWholes Z hp_rI h 0 [(0, .ref a0), (1, .int a1), (2, .int a2)] [] (m_M_areWholes (hp_G Z)  a0 a1 a2 h) := by
  unfold m_M_areWholes
  refine hp_aload_n (x0 := 0) d_M_areWholes_0 rfl rfl ?_
  refine hp_getR fl_M_7 d_M_areWholes_1 fun x1 => ?_
  refine hp_iload_n (x0 := 1) d_M_areWholes_4 rfl rfl ?_
  refine hp_iald d_M_areWholes_5 fun x2 => ?_
  refine hp_iconst (v := 3) d_M_areWholes_6 (by decide) ?_
  refine hp_icmp_ne (tgt := 24) d_M_areWholes_7 (by decide) ?_ ?_
  · refine hp_aload_n (x0 := 0) d_M_areWholes_10 rfl rfl ?_
    refine hp_getR fl_M_7 d_M_areWholes_11 fun x3 => ?_
    refine hp_iload_n (x0 := 2) d_M_areWholes_14 rfl rfl ?_
    refine hp_iald d_M_areWholes_15 fun x4 => ?_
    refine hp_iconst (v := 3) d_M_areWholes_16 (by decide) ?_
    refine hp_icmp_ne (tgt := 24) d_M_areWholes_17 (by decide) ?_ ?_
    · refine hp_iconst (v := 1) d_M_areWholes_20 (by decide) ?_
      refine hp_goto (tgt := 25) d_M_areWholes_21 (by decide) ?_
      refine hp_sub [] rfl ?_
      exact j_M_areWholes_25  _ _
    · refine hp_sub [] rfl ?_
      exact j_M_areWholes_24   _
  · refine hp_sub [] rfl ?_
    exact j_M_areWholes_24   _
theorem t_M_areWholes (l : Launch) (E : hp_E) (a0 : Nat) (a1 : Int32) (a2 : Int32) : hp_M l E y_M_areWholes Y_M_areWholes hp_rI [.ref a0, .int a1, .int a2] (m_M_areWholes E.2.2.1 a0 a1 a2) := hp_M.of (plainFor_of_name (by decide)) ⟨rfl, rfl⟩ (Nat.le_of_ble_eq_true rfl) (fun Z h hE => by subst hE; exact j_M_areWholes_0 _ _ _ h)
-- M_round
theorem d_M_round_0 : decode prog_9_method_12_code 0 = .ok (.aload_n 0, 1) := by decide +kernel
theorem d_M_round_1 : decode prog_9_method_12_code 1 = .ok (.bipush 8, 2) := by decide +kernel
theorem d_M_round_3 : decode prog_9_method_12_code 3 = .ok (.iaload, 1) := by decide +kernel
theorem d_M_round_4 : decode prog_9_method_12_code 4 = .ok (.iconst 5, 1) := by decide +kernel
theorem d_M_round_5 : decode prog_9_method_12_code 5 = .ok (.if_icmp .lt 7, 3) := by decide +kernel
theorem d_M_round_8 : decode prog_9_method_12_code 8 = .ok (.iconst 1, 1) := by decide +kernel
theorem d_M_round_9 : decode prog_9_method_12_code 9 = .ok (.goto 4, 3) := by decide +kernel
theorem d_M_round_12 : decode prog_9_method_12_code 12 = .ok (.iconst 0, 1) := by decide +kernel
theorem d_M_round_13 : decode prog_9_method_12_code 13 = .ok (.istore_n 1, 1) := by decide +kernel
theorem d_M_round_14 : decode prog_9_method_12_code 14 = .ok (.iconst 0, 1) := by decide +kernel
theorem d_M_round_15 : decode prog_9_method_12_code 15 = .ok (.istore_n 2, 1) := by decide +kernel
theorem d_M_round_16 : decode prog_9_method_12_code 16 = .ok (.iload_n 2, 1) := by decide +kernel
theorem d_M_round_17 : decode prog_9_method_12_code 17 = .ok (.bipush 9, 2) := by decide +kernel
theorem d_M_round_19 : decode prog_9_method_12_code 19 = .ok (.if_icmp .ge 13, 3) := by decide +kernel
theorem d_M_round_22 : decode prog_9_method_12_code 22 = .ok (.aload_n 0, 1) := by decide +kernel
theorem d_M_round_23 : decode prog_9_method_12_code 23 = .ok (.iload_n 2, 1) := by decide +kernel
theorem d_M_round_24 : decode prog_9_method_12_code 24 = .ok (.iconst 0, 1) := by decide +kernel
theorem d_M_round_25 : decode prog_9_method_12_code 25 = .ok (.iastore, 1) := by decide +kernel
theorem d_M_round_26 : decode prog_9_method_12_code 26 = .ok (.iinc 2 1, 3) := by decide +kernel
theorem d_M_round_29 : decode prog_9_method_12_code 29 = .ok (.goto (-13), 3) := by decide +kernel
theorem d_M_round_32 : decode prog_9_method_12_code 32 = .ok (.iload_n 1, 1) := by decide +kernel
theorem d_M_round_33 : decode prog_9_method_12_code 33 = .ok (.ifCond .eq 9, 3) := by decide +kernel
theorem d_M_round_36 : decode prog_9_method_12_code 36 = .ok (.aload_n 0, 1) := by decide +kernel
theorem d_M_round_37 : decode prog_9_method_12_code 37 = .ok (.bipush 9, 2) := by decide +kernel
theorem d_M_round_39 : decode prog_9_method_12_code 39 = .ok (.invokestatic 99, 3) := by decide +kernel
theorem d_M_round_42 : decode prog_9_method_12_code 42 = .ok (.return_, 1) := by decide +kernel
def m_M_round_42 (G : Nat → Nat) (h : hp_H) : Option (Unit × hp_H) := some ((), h)
set_option maxRecDepth 100000 in
set_option maxHeartbeats 4000000 in
theorem j_M_round_42 {Z : hp_Z} (h : hp_H) : hp_J Y_M_round Z hp_rV h 42 [] [] (m_M_round_42 (hp_G Z)   h) := by
  unfold m_M_round_42
  exact hp_vret d_M_round_42 rfl
def m_M_round_16 (G : Nat → Nat) : Nat → Nat → Int32 → Int32 → hp_H → Option (Unit × hp_H)
  | 0, _, _, _, _ => none
  | n + 1, a0, a1, a2, h => if (9 : Int32) ≤ a2 then (if a1 = 0 then (m_M_round_42 G h) else ((m_M_raise G a0 (9 : Int32) h).bind fun q1 => m_M_round_42 G q1.2)) else ((hp_sI h .int a0 a2 (0 : Int32)).bind fun h2 => hp_nm (a2 + 1) fun x3 => (m_M_round_16 G  n) a0 a1 x3 h2)
set_option maxRecDepth 100000 in
set_option maxHeartbeats 4000000 in
theorem j_M_round_16 {Z : hp_Z} : ∀ (n : Nat) (a0 : Nat) (a1 : Int32) (a2 : Int32) (h : hp_H), hp_J Y_M_round Z hp_rV h 16 [(0, .ref a0), (1, .int a1), (2, .int a2)] [] (m_M_round_16 (hp_G Z)  n a0 a1 a2 h) := by
  intro n
  induction n with
  | zero => intro a0 a1 a2 h; exact hp_fail
  | succ n ih =>
    intro a0 a1 a2 h
    rw [m_M_round_16]
    refine hp_iload_n (x0 := 2) d_M_round_16 rfl rfl ?_
    refine hp_bipush (v := 9) d_M_round_17 (by decide) ?_
    refine hp_icmp_ge (tgt := 32) d_M_round_19 (by decide) ?_ ?_
    · refine hp_iload_n (x0 := 1) d_M_round_32 rfl rfl ?_
      refine hp_if_eq (tgt := 42) d_M_round_33 (by decide) ?_ ?_
      · refine hp_sub [] rfl ?_
        exact j_M_round_42   _
      · refine hp_aload_n (x0 := 0) d_M_round_36 rfl rfl ?_
        refine hp_bipush (v := 9) d_M_round_37 (by decide) ?_
        refine hp_callU (hp_crS (t_M_raise _ _ _ _) cw_M_99 w_1196 (by decide) rfl rfl (Nat.le_of_ble_eq_true rfl) d_M_round_39) fun q1 => ?_
        refine hp_sub [] rfl ?_
        exact j_M_round_42   _
    · refine hp_aload_n (x0 := 0) d_M_round_22 rfl rfl ?_
      refine hp_iload_n (x0 := 2) d_M_round_23 rfl rfl ?_
      refine hp_iconst (v := 0) d_M_round_24 (by decide) ?_
      refine hp_iast d_M_round_25 fun h2 => ?_
      refine hp_iinc (x0 := 2) (d := 1) (fun x3 => [(2, .int x3), (0, .ref a0), (1, .int a1)]) d_M_round_26 rfl (by decide) (by decide) (fun _ => rfl) fun x3 => ?_
      refine hp_goto (tgt := 16) d_M_round_29 (by decide) ?_
      refine hp_sub [1, 2, 0] rfl ?_
      exact ih _ _ _ _
def m_M_round_13 (G : Nat → Nat) (a0 : Nat) (s0 : Int32) (h : hp_H) : Option (Unit × hp_H) := hp_nm s0 fun x1 => hp_nm (0 : Int32) fun x2 => m_M_round_16 G hp_fu a0 x1 x2 h
set_option maxRecDepth 100000 in
set_option maxHeartbeats 4000000 in
theorem j_M_round_13 {Z : hp_Z} (a0 : Nat) (s0 : Int32) (h : hp_H) : hp_J Y_M_round Z hp_rV h 13 [(0, .ref a0)] [.int s0] (m_M_round_13 (hp_G Z)  a0 s0 h) := by
  unfold m_M_round_13
  refine hp_istore_n (fun x1 => [(1, .int x1), (0, .ref a0)]) d_M_round_13 rfl (by decide) (fun _ => rfl) fun x1 => ?_
  refine hp_iconst (v := 0) d_M_round_14 (by decide) ?_
  refine hp_istore_n (fun x2 => [(2, .int x2), (1, .int x1), (0, .ref a0)]) d_M_round_15 rfl (by decide) (fun _ => rfl) fun x2 => ?_
  refine hp_sub [2, 1, 0] rfl ?_
  exact j_M_round_16  hp_fu _ _ _ _
def m_M_round (G : Nat → Nat) (a0 : Nat) (h : hp_H) : Option (Unit × hp_H) := (hp_aI h .int a0 (8 : Int32)).bind fun x1 => if x1 < (5 : Int32) then (m_M_round_13 G a0 (0 : Int32) h) else (m_M_round_13 G a0 (1 : Int32) h)
set_option maxRecDepth 100000 in
set_option maxHeartbeats 4000000 in
theorem j_M_round_0 {Z : hp_Z} (a0 : Nat) (h : hp_H) : hp_J Y_M_round Z hp_rV h 0 [(0, .ref a0)] [] (m_M_round (hp_G Z)  a0 h) := by
  unfold m_M_round
  refine hp_aload_n (x0 := 0) d_M_round_0 rfl rfl ?_
  refine hp_bipush (v := 8) d_M_round_1 (by decide) ?_
  refine hp_iald d_M_round_3 fun x1 => ?_
  refine hp_iconst (v := 5) d_M_round_4 (by decide) ?_
  refine hp_icmp_lt (tgt := 12) d_M_round_5 (by decide) ?_ ?_
  · refine hp_iconst (v := 0) d_M_round_12 (by decide) ?_
    exact j_M_round_13  _ _ _
  · refine hp_iconst (v := 1) d_M_round_8 (by decide) ?_
    refine hp_goto (tgt := 13) d_M_round_9 (by decide) ?_
    exact j_M_round_13  _ _ _
theorem t_M_round (l : Launch) (E : hp_E) (a0 : Nat) : hp_M l E y_M_round Y_M_round hp_rV [.ref a0] (m_M_round E.2.2.1 a0) := hp_M.of (plainFor_of_name (by decide)) ⟨rfl, rfl⟩ (Nat.le_of_ble_eq_true rfl) (fun Z h hE => by subst hE; exact j_M_round_0 _ h)
-- M_product
theorem d_M_product_0 : decode prog_9_method_17_code 0 = .ok (.aload_n 0, 1) := by decide +kernel
theorem d_M_product_1 : decode prog_9_method_17_code 1 = .ok (.getfield 42, 3) := by decide +kernel
theorem d_M_product_4 : decode prog_9_method_17_code 4 = .ok (.invokestatic 95, 3) := by decide +kernel
theorem d_M_product_7 : decode prog_9_method_17_code 7 = .ok (.bipush 18, 2) := by decide +kernel
theorem d_M_product_9 : decode prog_9_method_17_code 9 = .ok (.aload_n 0, 1) := by decide +kernel
theorem d_M_product_10 : decode prog_9_method_17_code 10 = .ok (.getfield 19, 3) := by decide +kernel
theorem d_M_product_13 : decode prog_9_method_17_code 13 = .ok (.iload_n 1, 1) := by decide +kernel
theorem d_M_product_14 : decode prog_9_method_17_code 14 = .ok (.iaload, 1) := by decide +kernel
theorem d_M_product_15 : decode prog_9_method_17_code 15 = .ok (.isub, 1) := by decide +kernel
theorem d_M_product_16 : decode prog_9_method_17_code 16 = .ok (.aload_n 0, 1) := by decide +kernel
theorem d_M_product_17 : decode prog_9_method_17_code 17 = .ok (.getfield 19, 3) := by decide +kernel
theorem d_M_product_20 : decode prog_9_method_17_code 20 = .ok (.iload_n 2, 1) := by decide +kernel
theorem d_M_product_21 : decode prog_9_method_17_code 21 = .ok (.iaload, 1) := by decide +kernel
theorem d_M_product_22 : decode prog_9_method_17_code 22 = .ok (.isub, 1) := by decide +kernel
theorem d_M_product_23 : decode prog_9_method_17_code 23 = .ok (.istore_n 3, 1) := by decide +kernel
theorem d_M_product_24 : decode prog_9_method_17_code 24 = .ok (.iconst 0, 1) := by decide +kernel
theorem d_M_product_25 : decode prog_9_method_17_code 25 = .ok (.istore 4, 2) := by decide +kernel
theorem d_M_product_27 : decode prog_9_method_17_code 27 = .ok (.iload 4, 2) := by decide +kernel
theorem d_M_product_29 : decode prog_9_method_17_code 29 = .ok (.bipush 18, 2) := by decide +kernel
theorem d_M_product_31 : decode prog_9_method_17_code 31 = .ok (.if_icmp .ge 111, 3) := by decide +kernel
theorem d_M_product_34 : decode prog_9_method_17_code 34 = .ok (.iconst 0, 1) := by decide +kernel
theorem d_M_product_35 : decode prog_9_method_17_code 35 = .ok (.istore 5, 2) := by decide +kernel
theorem d_M_product_37 : decode prog_9_method_17_code 37 = .ok (.iconst 0, 1) := by decide +kernel
theorem d_M_product_38 : decode prog_9_method_17_code 38 = .ok (.istore 6, 2) := by decide +kernel
theorem d_M_product_40 : decode prog_9_method_17_code 40 = .ok (.iload 6, 2) := by decide +kernel
theorem d_M_product_42 : decode prog_9_method_17_code 42 = .ok (.bipush 18, 2) := by decide +kernel
theorem d_M_product_44 : decode prog_9_method_17_code 44 = .ok (.if_icmp .lt 8, 3) := by decide +kernel
theorem d_M_product_47 : decode prog_9_method_17_code 47 = .ok (.iload 5, 2) := by decide +kernel
theorem d_M_product_49 : decode prog_9_method_17_code 49 = .ok (.ifCond .le 87, 3) := by decide +kernel
theorem d_M_product_52 : decode prog_9_method_17_code 52 = .ok (.aload_n 0, 1) := by decide +kernel
theorem d_M_product_53 : decode prog_9_method_17_code 53 = .ok (.getfield 42, 3) := by decide +kernel
theorem d_M_product_56 : decode prog_9_method_17_code 56 = .ok (.iload_n 3, 1) := by decide +kernel
theorem d_M_product_57 : decode prog_9_method_17_code 57 = .ok (.iload 4, 2) := by decide +kernel
theorem d_M_product_59 : decode prog_9_method_17_code 59 = .ok (.iadd, 1) := by decide +kernel
theorem d_M_product_60 : decode prog_9_method_17_code 60 = .ok (.iload 6, 2) := by decide +kernel
theorem d_M_product_62 : decode prog_9_method_17_code 62 = .ok (.iadd, 1) := by decide +kernel
theorem d_M_product_63 : decode prog_9_method_17_code 63 = .ok (.iaload, 1) := by decide +kernel
theorem d_M_product_64 : decode prog_9_method_17_code 64 = .ok (.iload 5, 2) := by decide +kernel
theorem d_M_product_66 : decode prog_9_method_17_code 66 = .ok (.iadd, 1) := by decide +kernel
theorem d_M_product_67 : decode prog_9_method_17_code 67 = .ok (.iload 6, 2) := by decide +kernel
theorem d_M_product_69 : decode prog_9_method_17_code 69 = .ok (.bipush 18, 2) := by decide +kernel
theorem d_M_product_71 : decode prog_9_method_17_code 71 = .ok (.if_icmp .ge 31, 3) := by decide +kernel
theorem d_M_product_74 : decode prog_9_method_17_code 74 = .ok (.aload_n 0, 1) := by decide +kernel
theorem d_M_product_75 : decode prog_9_method_17_code 75 = .ok (.getfield 23, 3) := by decide +kernel
theorem d_M_product_78 : decode prog_9_method_17_code 78 = .ok (.bipush 18, 2) := by decide +kernel
theorem d_M_product_80 : decode prog_9_method_17_code 80 = .ok (.iload_n 1, 1) := by decide +kernel
theorem d_M_product_81 : decode prog_9_method_17_code 81 = .ok (.imul, 1) := by decide +kernel
theorem d_M_product_82 : decode prog_9_method_17_code 82 = .ok (.iload 4, 2) := by decide +kernel
theorem d_M_product_84 : decode prog_9_method_17_code 84 = .ok (.iadd, 1) := by decide +kernel
theorem d_M_product_85 : decode prog_9_method_17_code 85 = .ok (.iaload, 1) := by decide +kernel
theorem d_M_product_86 : decode prog_9_method_17_code 86 = .ok (.aload_n 0, 1) := by decide +kernel
theorem d_M_product_87 : decode prog_9_method_17_code 87 = .ok (.getfield 23, 3) := by decide +kernel
theorem d_M_product_90 : decode prog_9_method_17_code 90 = .ok (.bipush 18, 2) := by decide +kernel
theorem d_M_product_92 : decode prog_9_method_17_code 92 = .ok (.iload_n 2, 1) := by decide +kernel
theorem d_M_product_93 : decode prog_9_method_17_code 93 = .ok (.imul, 1) := by decide +kernel
theorem d_M_product_94 : decode prog_9_method_17_code 94 = .ok (.iload 6, 2) := by decide +kernel
theorem d_M_product_96 : decode prog_9_method_17_code 96 = .ok (.iadd, 1) := by decide +kernel
theorem d_M_product_97 : decode prog_9_method_17_code 97 = .ok (.iaload, 1) := by decide +kernel
theorem d_M_product_98 : decode prog_9_method_17_code 98 = .ok (.imul, 1) := by decide +kernel
theorem d_M_product_99 : decode prog_9_method_17_code 99 = .ok (.goto 4, 3) := by decide +kernel
theorem d_M_product_102 : decode prog_9_method_17_code 102 = .ok (.iconst 0, 1) := by decide +kernel
theorem d_M_product_103 : decode prog_9_method_17_code 103 = .ok (.iadd, 1) := by decide +kernel
theorem d_M_product_104 : decode prog_9_method_17_code 104 = .ok (.istore 7, 2) := by decide +kernel
theorem d_M_product_106 : decode prog_9_method_17_code 106 = .ok (.aload_n 0, 1) := by decide +kernel
theorem d_M_product_107 : decode prog_9_method_17_code 107 = .ok (.getfield 42, 3) := by decide +kernel
theorem d_M_product_110 : decode prog_9_method_17_code 110 = .ok (.iload_n 3, 1) := by decide +kernel
theorem d_M_product_111 : decode prog_9_method_17_code 111 = .ok (.iload 4, 2) := by decide +kernel
theorem d_M_product_113 : decode prog_9_method_17_code 113 = .ok (.iadd, 1) := by decide +kernel
theorem d_M_product_114 : decode prog_9_method_17_code 114 = .ok (.iload 6, 2) := by decide +kernel
theorem d_M_product_116 : decode prog_9_method_17_code 116 = .ok (.iadd, 1) := by decide +kernel
theorem d_M_product_117 : decode prog_9_method_17_code 117 = .ok (.iload 7, 2) := by decide +kernel
theorem d_M_product_119 : decode prog_9_method_17_code 119 = .ok (.bipush 10, 2) := by decide +kernel
theorem d_M_product_121 : decode prog_9_method_17_code 121 = .ok (.irem, 1) := by decide +kernel
theorem d_M_product_122 : decode prog_9_method_17_code 122 = .ok (.iastore, 1) := by decide +kernel
theorem d_M_product_123 : decode prog_9_method_17_code 123 = .ok (.iload 7, 2) := by decide +kernel
theorem d_M_product_125 : decode prog_9_method_17_code 125 = .ok (.bipush 10, 2) := by decide +kernel
theorem d_M_product_127 : decode prog_9_method_17_code 127 = .ok (.idiv, 1) := by decide +kernel
theorem d_M_product_128 : decode prog_9_method_17_code 128 = .ok (.istore 5, 2) := by decide +kernel
theorem d_M_product_130 : decode prog_9_method_17_code 130 = .ok (.iinc 6 1, 3) := by decide +kernel
theorem d_M_product_133 : decode prog_9_method_17_code 133 = .ok (.goto (-93), 3) := by decide +kernel
theorem d_M_product_136 : decode prog_9_method_17_code 136 = .ok (.iinc 4 1, 3) := by decide +kernel
theorem d_M_product_139 : decode prog_9_method_17_code 139 = .ok (.goto (-112), 3) := by decide +kernel
theorem d_M_product_142 : decode prog_9_method_17_code 142 = .ok (.aload_n 0, 1) := by decide +kernel
theorem d_M_product_143 : decode prog_9_method_17_code 143 = .ok (.getfield 42, 3) := by decide +kernel
theorem d_M_product_146 : decode prog_9_method_17_code 146 = .ok (.invokestatic 135, 3) := by decide +kernel
theorem d_M_product_149 : decode prog_9_method_17_code 149 = .ok (.aload_n 0, 1) := by decide +kernel
theorem d_M_product_150 : decode prog_9_method_17_code 150 = .ok (.aload_n 0, 1) := by decide +kernel
theorem d_M_product_151 : decode prog_9_method_17_code 151 = .ok (.getfield 42, 3) := by decide +kernel
theorem d_M_product_154 : decode prog_9_method_17_code 154 = .ok (.aload_n 0, 1) := by decide +kernel
theorem d_M_product_155 : decode prog_9_method_17_code 155 = .ok (.getfield 16, 3) := by decide +kernel
theorem d_M_product_158 : decode prog_9_method_17_code 158 = .ok (.iload_n 1, 1) := by decide +kernel
theorem d_M_product_159 : decode prog_9_method_17_code 159 = .ok (.iaload, 1) := by decide +kernel
theorem d_M_product_160 : decode prog_9_method_17_code 160 = .ok (.aload_n 0, 1) := by decide +kernel
theorem d_M_product_161 : decode prog_9_method_17_code 161 = .ok (.getfield 16, 3) := by decide +kernel
theorem d_M_product_164 : decode prog_9_method_17_code 164 = .ok (.iload_n 2, 1) := by decide +kernel
theorem d_M_product_165 : decode prog_9_method_17_code 165 = .ok (.iaload, 1) := by decide +kernel
theorem d_M_product_166 : decode prog_9_method_17_code 166 = .ok (.imul, 1) := by decide +kernel
theorem d_M_product_167 : decode prog_9_method_17_code 167 = .ok (.aload_n 0, 1) := by decide +kernel
theorem d_M_product_168 : decode prog_9_method_17_code 168 = .ok (.iload_n 1, 1) := by decide +kernel
theorem d_M_product_169 : decode prog_9_method_17_code 169 = .ok (.iload_n 2, 1) := by decide +kernel
theorem d_M_product_170 : decode prog_9_method_17_code 170 = .ok (.invokevirtual 123, 3) := by decide +kernel
theorem d_M_product_173 : decode prog_9_method_17_code 173 = .ok (.invokevirtual 127, 3) := by decide +kernel
theorem d_M_product_176 : decode prog_9_method_17_code 176 = .ok (.ireturn, 1) := by decide +kernel
def m_M_product_103 (G : Nat → Nat) (r27 : Nat → Int32 → Int32 → Int32 → Int32 → hp_H → Option (Int32 × hp_H)) (r40 : Nat → Int32 → Int32 → Int32 → Int32 → Int32 → Int32 → hp_H → Option (Int32 × hp_H)) (a0 : Nat) (a1 : Int32) (a2 : Int32) (a3 : Int32) (a4 : Int32) (a6 : Int32) (s0 : Int32) (s1 : Int32) (h : hp_H) : Option (Int32 × hp_H) := hp_nm (s1 + s0) fun x1 => (hp_gR h a0 8 17).bind fun x2 => (hp_mI x1 (10 : Int32)).bind fun x3 => (hp_sI h .int x2 ((a3 + a4) + a6) x3).bind fun h4 => (hp_dI x1 (10 : Int32)).bind fun x5 => hp_nm x5 fun x6 => hp_nm (a6 + 1) fun x7 => r40 a0 a1 a2 a3 a4 x6 x7 h4
set_option maxRecDepth 100000 in
set_option maxHeartbeats 4000000 in
theorem j_M_product_103 {Z : hp_Z} (r27 : Nat → Int32 → Int32 → Int32 → Int32 → hp_H → Option (Int32 × hp_H)) (hr27 : ∀ (a0 : Nat) (a1 : Int32) (a2 : Int32) (a3 : Int32) (a4 : Int32) (h : hp_H), hp_J Y_M_product Z hp_rI h 27 [(0, .ref a0), (1, .int a1), (2, .int a2), (3, .int a3), (4, .int a4)] [] (r27 a0 a1 a2 a3 a4  h)) (r40 : Nat → Int32 → Int32 → Int32 → Int32 → Int32 → Int32 → hp_H → Option (Int32 × hp_H)) (hr40 : ∀ (a0 : Nat) (a1 : Int32) (a2 : Int32) (a3 : Int32) (a4 : Int32) (a5 : Int32) (a6 : Int32) (h : hp_H), hp_J Y_M_product Z hp_rI h 40 [(0, .ref a0), (1, .int a1), (2, .int a2), (3, .int a3), (4, .int a4), (5, .int a5), (6, .int a6)] [] (r40 a0 a1 a2 a3 a4 a5 a6  h)) (a0 : Nat) (a1 : Int32) (a2 : Int32) (a3 : Int32) (a4 : Int32) (a6 : Int32) (s0 : Int32) (s1 : Int32) (h : hp_H) : hp_J Y_M_product Z hp_rI h 103 [(0, .ref a0), (1, .int a1), (2, .int a2), (3, .int a3), (4, .int a4), (6, .int a6)] [.int s0, .int s1] (m_M_product_103 (hp_G Z) r27 r40 a0 a1 a2 a3 a4 a6 s0 s1 h) := by
  unfold m_M_product_103
  refine hp_iadd d_M_product_103 ?_
  refine hp_istore (fun x1 => [(7, .int x1), (0, .ref a0), (1, .int a1), (2, .int a2), (3, .int a3), (4, .int a4), (6, .int a6)]) d_M_product_104 (by decide) (fun _ => rfl) fun x1 => ?_
  refine hp_aload_n (x0 := 1) d_M_product_106 rfl rfl ?_
  refine hp_getR fl_M_42 d_M_product_107 fun x2 => ?_
  refine hp_iload_n (x0 := 4) d_M_product_110 rfl rfl ?_
  refine hp_iload (x0 := 5) d_M_product_111 rfl ?_
  refine hp_iadd d_M_product_113 ?_
  refine hp_iload (x0 := 6) d_M_product_114 rfl ?_
  refine hp_iadd d_M_product_116 ?_
  refine hp_iload (x0 := 0) d_M_product_117 rfl ?_
  refine hp_bipush (v := 10) d_M_product_119 (by decide) ?_
  refine hp_irem d_M_product_121 fun x3 => ?_
  refine hp_iast d_M_product_122 fun h4 => ?_
  refine hp_iload (x0 := 0) d_M_product_123 rfl ?_
  refine hp_bipush (v := 10) d_M_product_125 (by decide) ?_
  refine hp_idiv d_M_product_127 fun x5 => ?_
  refine hp_istore (fun x6 => [(5, .int x6), (7, .int x1), (0, .ref a0), (1, .int a1), (2, .int a2), (3, .int a3), (4, .int a4), (6, .int a6)]) d_M_product_128 (by decide) (fun _ => rfl) fun x6 => ?_
  refine hp_iinc (x0 := 7) (d := 1) (fun x7 => [(6, .int x7), (5, .int x6), (7, .int x1), (0, .ref a0), (1, .int a1), (2, .int a2), (3, .int a3), (4, .int a4)]) d_M_product_130 rfl (by decide) (by decide) (fun _ => rfl) fun x7 => ?_
  refine hp_goto (tgt := 40) d_M_product_133 (by decide) ?_
  refine hp_sub [3, 4, 5, 6, 7, 1, 0] rfl ?_
  exact hr40 _ _ _ _ _ _ _ _
def m_M_product_52 (G : Nat → Nat) (r27 : Nat → Int32 → Int32 → Int32 → Int32 → hp_H → Option (Int32 × hp_H)) (r40 : Nat → Int32 → Int32 → Int32 → Int32 → Int32 → Int32 → hp_H → Option (Int32 × hp_H)) (a0 : Nat) (a1 : Int32) (a2 : Int32) (a3 : Int32) (a4 : Int32) (a5 : Int32) (a6 : Int32) (h : hp_H) : Option (Int32 × hp_H) := (hp_gR h a0 8 17).bind fun x1 => (hp_aI h .int x1 ((a3 + a4) + a6)).bind fun x2 => if (18 : Int32) ≤ a6 then (m_M_product_103 G r27 r40 a0 a1 a2 a3 a4 a6 (0 : Int32) (x2 + a5) h) else ((hp_gR h a0 8 5).bind fun x3 => (hp_aI h .int x3 (((18 : Int32) * a1) + a4)).bind fun x4 => (hp_gR h a0 8 5).bind fun x5 => (hp_aI h .int x5 (((18 : Int32) * a2) + a6)).bind fun x6 => m_M_product_103 G r27 r40 a0 a1 a2 a3 a4 a6 (x4 * x6) (x2 + a5) h)
set_option maxRecDepth 100000 in
set_option maxHeartbeats 4000000 in
theorem j_M_product_52 {Z : hp_Z} (r27 : Nat → Int32 → Int32 → Int32 → Int32 → hp_H → Option (Int32 × hp_H)) (hr27 : ∀ (a0 : Nat) (a1 : Int32) (a2 : Int32) (a3 : Int32) (a4 : Int32) (h : hp_H), hp_J Y_M_product Z hp_rI h 27 [(0, .ref a0), (1, .int a1), (2, .int a2), (3, .int a3), (4, .int a4)] [] (r27 a0 a1 a2 a3 a4  h)) (r40 : Nat → Int32 → Int32 → Int32 → Int32 → Int32 → Int32 → hp_H → Option (Int32 × hp_H)) (hr40 : ∀ (a0 : Nat) (a1 : Int32) (a2 : Int32) (a3 : Int32) (a4 : Int32) (a5 : Int32) (a6 : Int32) (h : hp_H), hp_J Y_M_product Z hp_rI h 40 [(0, .ref a0), (1, .int a1), (2, .int a2), (3, .int a3), (4, .int a4), (5, .int a5), (6, .int a6)] [] (r40 a0 a1 a2 a3 a4 a5 a6  h)) (a0 : Nat) (a1 : Int32) (a2 : Int32) (a3 : Int32) (a4 : Int32) (a5 : Int32) (a6 : Int32) (h : hp_H) : hp_J Y_M_product Z hp_rI h 52 [(0, .ref a0), (1, .int a1), (2, .int a2), (3, .int a3), (4, .int a4), (5, .int a5), (6, .int a6)] [] (m_M_product_52 (hp_G Z) r27 r40 a0 a1 a2 a3 a4 a5 a6 h) := by
  unfold m_M_product_52
  refine hp_aload_n (x0 := 0) d_M_product_52 rfl rfl ?_
  refine hp_getR fl_M_42 d_M_product_53 fun x1 => ?_
  refine hp_iload_n (x0 := 3) d_M_product_56 rfl rfl ?_
  refine hp_iload (x0 := 4) d_M_product_57 rfl ?_
  refine hp_iadd d_M_product_59 ?_
  refine hp_iload (x0 := 6) d_M_product_60 rfl ?_
  refine hp_iadd d_M_product_62 ?_
  refine hp_iald d_M_product_63 fun x2 => ?_
  refine hp_iload (x0 := 5) d_M_product_64 rfl ?_
  refine hp_iadd d_M_product_66 ?_
  refine hp_iload (x0 := 6) d_M_product_67 rfl ?_
  refine hp_bipush (v := 18) d_M_product_69 (by decide) ?_
  refine hp_icmp_ge (tgt := 102) d_M_product_71 (by decide) ?_ ?_
  · refine hp_iconst (v := 0) d_M_product_102 (by decide) ?_
    refine hp_sub [0, 1, 2, 3, 4, 6] rfl ?_
    exact j_M_product_103 _ hr27 _ hr40 _ _ _ _ _ _ _ _ _
  · refine hp_aload_n (x0 := 0) d_M_product_74 rfl rfl ?_
    refine hp_getR fl_M_23 d_M_product_75 fun x3 => ?_
    refine hp_bipush (v := 18) d_M_product_78 (by decide) ?_
    refine hp_iload_n (x0 := 1) d_M_product_80 rfl rfl ?_
    refine hp_imul d_M_product_81 ?_
    refine hp_iload (x0 := 4) d_M_product_82 rfl ?_
    refine hp_iadd d_M_product_84 ?_
    refine hp_iald d_M_product_85 fun x4 => ?_
    refine hp_aload_n (x0 := 0) d_M_product_86 rfl rfl ?_
    refine hp_getR fl_M_23 d_M_product_87 fun x5 => ?_
    refine hp_bipush (v := 18) d_M_product_90 (by decide) ?_
    refine hp_iload_n (x0 := 2) d_M_product_92 rfl rfl ?_
    refine hp_imul d_M_product_93 ?_
    refine hp_iload (x0 := 6) d_M_product_94 rfl ?_
    refine hp_iadd d_M_product_96 ?_
    refine hp_iald d_M_product_97 fun x6 => ?_
    refine hp_imul d_M_product_98 ?_
    refine hp_goto (tgt := 103) d_M_product_99 (by decide) ?_
    refine hp_sub [0, 1, 2, 3, 4, 6] rfl ?_
    exact j_M_product_103 _ hr27 _ hr40 _ _ _ _ _ _ _ _ _
def m_M_product_40 (G : Nat → Nat) (r27 : Nat → Int32 → Int32 → Int32 → Int32 → hp_H → Option (Int32 × hp_H)) : Nat → Nat → Int32 → Int32 → Int32 → Int32 → Int32 → Int32 → hp_H → Option (Int32 × hp_H)
  | 0, _, _, _, _, _, _, _, _ => none
  | n + 1, a0, a1, a2, a3, a4, a5, a6, h => if a6 < (18 : Int32) then (m_M_product_52 G r27 (m_M_product_40 G r27 n) a0 a1 a2 a3 a4 a5 a6 h) else (if a5 ≤ 0 then (hp_nm (a4 + 1) fun x1 => r27 a0 a1 a2 a3 x1 h) else (m_M_product_52 G r27 (m_M_product_40 G r27 n) a0 a1 a2 a3 a4 a5 a6 h))
set_option maxRecDepth 100000 in
set_option maxHeartbeats 4000000 in
theorem j_M_product_40 {Z : hp_Z} (r27 : Nat → Int32 → Int32 → Int32 → Int32 → hp_H → Option (Int32 × hp_H)) (hr27 : ∀ (a0 : Nat) (a1 : Int32) (a2 : Int32) (a3 : Int32) (a4 : Int32) (h : hp_H), hp_J Y_M_product Z hp_rI h 27 [(0, .ref a0), (1, .int a1), (2, .int a2), (3, .int a3), (4, .int a4)] [] (r27 a0 a1 a2 a3 a4  h)) : ∀ (n : Nat) (a0 : Nat) (a1 : Int32) (a2 : Int32) (a3 : Int32) (a4 : Int32) (a5 : Int32) (a6 : Int32) (h : hp_H), hp_J Y_M_product Z hp_rI h 40 [(0, .ref a0), (1, .int a1), (2, .int a2), (3, .int a3), (4, .int a4), (5, .int a5), (6, .int a6)] [] (m_M_product_40 (hp_G Z) r27 n a0 a1 a2 a3 a4 a5 a6 h) := by
  intro n
  induction n with
  | zero => intro a0 a1 a2 a3 a4 a5 a6 h; exact hp_fail
  | succ n ih =>
    intro a0 a1 a2 a3 a4 a5 a6 h
    rw [m_M_product_40]
    refine hp_iload (x0 := 6) d_M_product_40 rfl ?_
    refine hp_bipush (v := 18) d_M_product_42 (by decide) ?_
    refine hp_icmp_lt (tgt := 52) d_M_product_44 (by decide) ?_ ?_
    · exact j_M_product_52 _ hr27 _ ih _ _ _ _ _ _ _ _
    · refine hp_iload (x0 := 5) d_M_product_47 rfl ?_
      refine hp_if_le (tgt := 136) d_M_product_49 (by decide) ?_ ?_
      · refine hp_iinc (x0 := 4) (d := 1) (fun x1 => [(4, .int x1), (0, .ref a0), (1, .int a1), (2, .int a2), (3, .int a3), (5, .int a5), (6, .int a6)]) d_M_product_136 rfl (by decide) (by decide) (fun _ => rfl) fun x1 => ?_
        refine hp_goto (tgt := 27) d_M_product_139 (by decide) ?_
        refine hp_sub [1, 2, 3, 4, 0] rfl ?_
        exact hr27 _ _ _ _ _ _
      · exact j_M_product_52 _ hr27 _ ih _ _ _ _ _ _ _ _
def m_M_product_27 (G : Nat → Nat) : Nat → Nat → Int32 → Int32 → Int32 → Int32 → hp_H → Option (Int32 × hp_H)
  | 0, _, _, _, _, _, _ => none
  | n + 1, a0, a1, a2, a3, a4, h => if (18 : Int32) ≤ a4 then ((hp_gR h a0 8 17).bind fun x1 => (m_M_round G x1 h).bind fun q2 => (hp_gR q2.2 a0 8 17).bind fun x3 => (hp_gR q2.2 a0 8 3).bind fun x4 => (hp_aI q2.2 .int x4 a1).bind fun x5 => (hp_gR q2.2 a0 8 3).bind fun x6 => (hp_aI q2.2 .int x6 a2).bind fun x7 => (hp_vck q2.2 a0 8 (m_M_areWholes G a0 a1 a2 q2.2)).bind fun q8 => (hp_vck q8.2 a0 8 (m_M_number G a0 x3 (x5 * x7) q8.1 q8.2)).bind fun q9 => some (q9.1, q9.2)) else (hp_nm (0 : Int32) fun x10 => hp_nm (0 : Int32) fun x11 => m_M_product_40 G (m_M_product_27 G  n) hp_fu a0 a1 a2 a3 a4 x10 x11 h)
set_option maxRecDepth 100000 in
set_option maxHeartbeats 4000000 in
theorem j_M_product_27 {Z : hp_Z} : ∀ (n : Nat) (a0 : Nat) (a1 : Int32) (a2 : Int32) (a3 : Int32) (a4 : Int32) (h : hp_H), hp_J Y_M_product Z hp_rI h 27 [(0, .ref a0), (1, .int a1), (2, .int a2), (3, .int a3), (4, .int a4)] [] (m_M_product_27 (hp_G Z)  n a0 a1 a2 a3 a4 h) := by
  intro n
  induction n with
  | zero => intro a0 a1 a2 a3 a4 h; exact hp_fail
  | succ n ih =>
    intro a0 a1 a2 a3 a4 h
    rw [m_M_product_27]
    refine hp_iload (x0 := 4) d_M_product_27 rfl ?_
    refine hp_bipush (v := 18) d_M_product_29 (by decide) ?_
    refine hp_icmp_ge (tgt := 142) d_M_product_31 (by decide) ?_ ?_
    · refine hp_aload_n (x0 := 0) d_M_product_142 rfl rfl ?_
      refine hp_getR fl_M_42 d_M_product_143 fun x1 => ?_
      refine hp_callU (hp_crS (t_M_round _ _ _) cw_M_135 w_1193 (by decide) rfl rfl (Nat.le_of_ble_eq_true rfl) d_M_product_146) fun q2 => ?_
      refine hp_aload_n (x0 := 0) d_M_product_149 rfl rfl ?_
      refine hp_aload_n (x0 := 0) d_M_product_150 rfl rfl ?_
      refine hp_getR fl_M_42 d_M_product_151 fun x3 => ?_
      refine hp_aload_n (x0 := 0) d_M_product_154 rfl rfl ?_
      refine hp_getR fl_M_16 d_M_product_155 fun x4 => ?_
      refine hp_iload_n (x0 := 1) d_M_product_158 rfl rfl ?_
      refine hp_iald d_M_product_159 fun x5 => ?_
      refine hp_aload_n (x0 := 0) d_M_product_160 rfl rfl ?_
      refine hp_getR fl_M_16 d_M_product_161 fun x6 => ?_
      refine hp_iload_n (x0 := 2) d_M_product_164 rfl rfl ?_
      refine hp_iald d_M_product_165 fun x7 => ?_
      refine hp_imul d_M_product_166 ?_
      refine hp_aload_n (x0 := 0) d_M_product_167 rfl rfl ?_
      refine hp_iload_n (x0 := 1) d_M_product_168 rfl rfl ?_
      refine hp_iload_n (x0 := 2) d_M_product_169 rfl rfl ?_
      refine hp_callI (hp_crV (ci := 8) (t_M_areWholes _ _ _ _ _) cw_M_123 rfl ⟨w_1186, ws_73⟩ (by decide) rfl rfl (Nat.le_of_ble_eq_true rfl) d_M_product_170) fun q8 => ?_
      refine hp_callI (hp_crV (ci := 8) (t_M_number _ _ _ _ _ _) cw_M_127 rfl ⟨w_981, ws_39⟩ (by decide) rfl rfl (Nat.le_of_ble_eq_true rfl) d_M_product_173) fun q9 => ?_
      exact hp_iret d_M_product_176 rfl
    · refine hp_iconst (v := 0) d_M_product_34 (by decide) ?_
      refine hp_istore (fun x10 => [(5, .int x10), (0, .ref a0), (1, .int a1), (2, .int a2), (3, .int a3), (4, .int a4)]) d_M_product_35 (by decide) (fun _ => rfl) fun x10 => ?_
      refine hp_iconst (v := 0) d_M_product_37 (by decide) ?_
      refine hp_istore (fun x11 => [(6, .int x11), (5, .int x10), (0, .ref a0), (1, .int a1), (2, .int a2), (3, .int a3), (4, .int a4)]) d_M_product_38 (by decide) (fun _ => rfl) fun x11 => ?_
      refine hp_sub [2, 3, 4, 5, 6, 1, 0] rfl ?_
      exact j_M_product_40 _ ih hp_fu _ _ _ _ _ _ _ _
def m_M_product (G : Nat → Nat) (a0 : Nat) (a1 : Int32) (a2 : Int32) (h : hp_H) : Option (Int32 × hp_H) := (hp_gR h a0 8 17).bind fun x1 => (m_M_clear G x1 h).bind fun q2 => (hp_gR q2.2 a0 8 4).bind fun x3 => (hp_aI q2.2 .int x3 a1).bind fun x4 => (hp_gR q2.2 a0 8 4).bind fun x5 => (hp_aI q2.2 .int x5 a2).bind fun x6 => hp_nm (((18 : Int32) - x4) - x6) fun x7 => hp_nm (0 : Int32) fun x8 => m_M_product_27 G hp_fu a0 a1 a2 x7 x8 q2.2
set_option maxRecDepth 100000 in
set_option maxHeartbeats 4000000 in
theorem j_M_product_0 {Z : hp_Z} (a0 : Nat) (a1 : Int32) (a2 : Int32) (h : hp_H) : hp_J Y_M_product Z hp_rI h 0 [(0, .ref a0), (1, .int a1), (2, .int a2)] [] (m_M_product (hp_G Z)  a0 a1 a2 h) := by
  unfold m_M_product
  refine hp_aload_n (x0 := 0) d_M_product_0 rfl rfl ?_
  refine hp_getR fl_M_42 d_M_product_1 fun x1 => ?_
  refine hp_callU (hp_crS (t_M_clear _ _ _) cw_M_95 w_976 (by decide) rfl rfl (Nat.le_of_ble_eq_true rfl) d_M_product_4) fun q2 => ?_
  refine hp_bipush (v := 18) d_M_product_7 (by decide) ?_
  refine hp_aload_n (x0 := 0) d_M_product_9 rfl rfl ?_
  refine hp_getR fl_M_19 d_M_product_10 fun x3 => ?_
  refine hp_iload_n (x0 := 1) d_M_product_13 rfl rfl ?_
  refine hp_iald d_M_product_14 fun x4 => ?_
  refine hp_isub d_M_product_15 ?_
  refine hp_aload_n (x0 := 0) d_M_product_16 rfl rfl ?_
  refine hp_getR fl_M_19 d_M_product_17 fun x5 => ?_
  refine hp_iload_n (x0 := 2) d_M_product_20 rfl rfl ?_
  refine hp_iald d_M_product_21 fun x6 => ?_
  refine hp_isub d_M_product_22 ?_
  refine hp_istore_n (fun x7 => [(3, .int x7), (0, .ref a0), (1, .int a1), (2, .int a2)]) d_M_product_23 rfl (by decide) (fun _ => rfl) fun x7 => ?_
  refine hp_iconst (v := 0) d_M_product_24 (by decide) ?_
  refine hp_istore (fun x8 => [(4, .int x8), (3, .int x7), (0, .ref a0), (1, .int a1), (2, .int a2)]) d_M_product_25 (by decide) (fun _ => rfl) fun x8 => ?_
  refine hp_sub [2, 3, 4, 1, 0] rfl ?_
  exact j_M_product_27  hp_fu _ _ _ _ _ _
theorem t_M_product (l : Launch) (E : hp_E) (a0 : Nat) (a1 : Int32) (a2 : Int32) : hp_M l E y_M_product Y_M_product hp_rI [.ref a0, .int a1, .int a2] (m_M_product E.2.2.1 a0 a1 a2) := hp_M.of (plainFor_of_name (by decide)) ⟨rfl, rfl⟩ (Nat.le_of_ble_eq_true rfl) (fun Z h hE => by subst hE; exact j_M_product_0 _ _ _ h)
-- M_join
theorem d_M_join_0 : decode prog_9_method_10_code 0 = .ok (.iconst 0, 1) := by decide +kernel
theorem d_M_join_1 : decode prog_9_method_10_code 1 = .ok (.istore_n 3, 1) := by decide +kernel
theorem d_M_join_2 : decode prog_9_method_10_code 2 = .ok (.iconst 0, 1) := by decide +kernel
theorem d_M_join_3 : decode prog_9_method_10_code 3 = .ok (.istore 4, 2) := by decide +kernel
theorem d_M_join_5 : decode prog_9_method_10_code 5 = .ok (.iload 4, 2) := by decide +kernel
theorem d_M_join_7 : decode prog_9_method_10_code 7 = .ok (.bipush 64, 2) := by decide +kernel
theorem d_M_join_9 : decode prog_9_method_10_code 9 = .ok (.if_icmp .ge 57, 3) := by decide +kernel
theorem d_M_join_12 : decode prog_9_method_10_code 12 = .ok (.aload_n 0, 1) := by decide +kernel
theorem d_M_join_13 : decode prog_9_method_10_code 13 = .ok (.iload 4, 2) := by decide +kernel
theorem d_M_join_15 : decode prog_9_method_10_code 15 = .ok (.iaload, 1) := by decide +kernel
theorem d_M_join_16 : decode prog_9_method_10_code 16 = .ok (.iload_n 2, 1) := by decide +kernel
theorem d_M_join_17 : decode prog_9_method_10_code 17 = .ok (.aload_n 1, 1) := by decide +kernel
theorem d_M_join_18 : decode prog_9_method_10_code 18 = .ok (.iload 4, 2) := by decide +kernel
theorem d_M_join_20 : decode prog_9_method_10_code 20 = .ok (.iaload, 1) := by decide +kernel
theorem d_M_join_21 : decode prog_9_method_10_code 21 = .ok (.imul, 1) := by decide +kernel
theorem d_M_join_22 : decode prog_9_method_10_code 22 = .ok (.iadd, 1) := by decide +kernel
theorem d_M_join_23 : decode prog_9_method_10_code 23 = .ok (.iload_n 3, 1) := by decide +kernel
theorem d_M_join_24 : decode prog_9_method_10_code 24 = .ok (.iadd, 1) := by decide +kernel
theorem d_M_join_25 : decode prog_9_method_10_code 25 = .ok (.istore 5, 2) := by decide +kernel
theorem d_M_join_27 : decode prog_9_method_10_code 27 = .ok (.iload 5, 2) := by decide +kernel
theorem d_M_join_29 : decode prog_9_method_10_code 29 = .ok (.ifCond .ge 7, 3) := by decide +kernel
theorem d_M_join_32 : decode prog_9_method_10_code 32 = .ok (.iconst (-1), 1) := by decide +kernel
theorem d_M_join_33 : decode prog_9_method_10_code 33 = .ok (.goto 15, 3) := by decide +kernel
theorem d_M_join_36 : decode prog_9_method_10_code 36 = .ok (.iload 5, 2) := by decide +kernel
theorem d_M_join_38 : decode prog_9_method_10_code 38 = .ok (.bipush 9, 2) := by decide +kernel
theorem d_M_join_40 : decode prog_9_method_10_code 40 = .ok (.if_icmp .le 7, 3) := by decide +kernel
theorem d_M_join_43 : decode prog_9_method_10_code 43 = .ok (.iconst 1, 1) := by decide +kernel
theorem d_M_join_44 : decode prog_9_method_10_code 44 = .ok (.goto 4, 3) := by decide +kernel
theorem d_M_join_47 : decode prog_9_method_10_code 47 = .ok (.iconst 0, 1) := by decide +kernel
theorem d_M_join_48 : decode prog_9_method_10_code 48 = .ok (.istore_n 3, 1) := by decide +kernel
theorem d_M_join_49 : decode prog_9_method_10_code 49 = .ok (.aload_n 0, 1) := by decide +kernel
theorem d_M_join_50 : decode prog_9_method_10_code 50 = .ok (.iload 4, 2) := by decide +kernel
theorem d_M_join_52 : decode prog_9_method_10_code 52 = .ok (.iload 5, 2) := by decide +kernel
theorem d_M_join_54 : decode prog_9_method_10_code 54 = .ok (.bipush 10, 2) := by decide +kernel
theorem d_M_join_56 : decode prog_9_method_10_code 56 = .ok (.iload_n 3, 1) := by decide +kernel
theorem d_M_join_57 : decode prog_9_method_10_code 57 = .ok (.imul, 1) := by decide +kernel
theorem d_M_join_58 : decode prog_9_method_10_code 58 = .ok (.isub, 1) := by decide +kernel
theorem d_M_join_59 : decode prog_9_method_10_code 59 = .ok (.iastore, 1) := by decide +kernel
theorem d_M_join_60 : decode prog_9_method_10_code 60 = .ok (.iinc 4 1, 3) := by decide +kernel
theorem d_M_join_63 : decode prog_9_method_10_code 63 = .ok (.goto (-58), 3) := by decide +kernel
theorem d_M_join_66 : decode prog_9_method_10_code 66 = .ok (.return_, 1) := by decide +kernel
def m_M_join_48 (G : Nat → Nat) (r5 : Nat → Nat → Int32 → Int32 → Int32 → hp_H → Option (Unit × hp_H)) (a0 : Nat) (a1 : Nat) (a2 : Int32) (a4 : Int32) (a5 : Int32) (s0 : Int32) (h : hp_H) : Option (Unit × hp_H) := hp_nm s0 fun x1 => (hp_sI h .int a0 a4 (a5 - ((10 : Int32) * x1))).bind fun h2 => hp_nm (a4 + 1) fun x3 => r5 a0 a1 a2 x1 x3 h2
set_option maxRecDepth 100000 in
set_option maxHeartbeats 4000000 in
theorem j_M_join_48 {Z : hp_Z} (r5 : Nat → Nat → Int32 → Int32 → Int32 → hp_H → Option (Unit × hp_H)) (hr5 : ∀ (a0 : Nat) (a1 : Nat) (a2 : Int32) (a3 : Int32) (a4 : Int32) (h : hp_H), hp_J Y_M_join Z hp_rV h 5 [(0, .ref a0), (1, .ref a1), (2, .int a2), (3, .int a3), (4, .int a4)] [] (r5 a0 a1 a2 a3 a4  h)) (a0 : Nat) (a1 : Nat) (a2 : Int32) (a4 : Int32) (a5 : Int32) (s0 : Int32) (h : hp_H) : hp_J Y_M_join Z hp_rV h 48 [(0, .ref a0), (1, .ref a1), (2, .int a2), (4, .int a4), (5, .int a5)] [.int s0] (m_M_join_48 (hp_G Z) r5 a0 a1 a2 a4 a5 s0 h) := by
  unfold m_M_join_48
  refine hp_istore_n (fun x1 => [(3, .int x1), (0, .ref a0), (1, .ref a1), (2, .int a2), (4, .int a4), (5, .int a5)]) d_M_join_48 rfl (by decide) (fun _ => rfl) fun x1 => ?_
  refine hp_aload_n (x0 := 1) d_M_join_49 rfl rfl ?_
  refine hp_iload (x0 := 4) d_M_join_50 rfl ?_
  refine hp_iload (x0 := 5) d_M_join_52 rfl ?_
  refine hp_bipush (v := 10) d_M_join_54 (by decide) ?_
  refine hp_iload_n (x0 := 0) d_M_join_56 rfl rfl ?_
  refine hp_imul d_M_join_57 ?_
  refine hp_isub d_M_join_58 ?_
  refine hp_iast d_M_join_59 fun h2 => ?_
  refine hp_iinc (x0 := 4) (d := 1) (fun x3 => [(4, .int x3), (3, .int x1), (0, .ref a0), (1, .ref a1), (2, .int a2), (5, .int a5)]) d_M_join_60 rfl (by decide) (by decide) (fun _ => rfl) fun x3 => ?_
  refine hp_goto (tgt := 5) d_M_join_63 (by decide) ?_
  refine hp_sub [2, 3, 4, 1, 0] rfl ?_
  exact hr5 _ _ _ _ _ _
def m_M_join_5 (G : Nat → Nat) : Nat → Nat → Nat → Int32 → Int32 → Int32 → hp_H → Option (Unit × hp_H)
  | 0, _, _, _, _, _, _ => none
  | n + 1, a0, a1, a2, a3, a4, h => if (64 : Int32) ≤ a4 then (some ((), h)) else ((hp_aI h .int a0 a4).bind fun x1 => (hp_aI h .int a1 a4).bind fun x2 => hp_nm ((x1 + (a2 * x2)) + a3) fun x3 => if 0 ≤ x3 then (if x3 ≤ (9 : Int32) then (m_M_join_48 G (m_M_join_5 G  n) a0 a1 a2 a4 x3 (0 : Int32) h) else (m_M_join_48 G (m_M_join_5 G  n) a0 a1 a2 a4 x3 (1 : Int32) h)) else (m_M_join_48 G (m_M_join_5 G  n) a0 a1 a2 a4 x3 (-1 : Int32) h))
set_option maxRecDepth 100000 in
set_option maxHeartbeats 4000000 in
theorem j_M_join_5 {Z : hp_Z} : ∀ (n : Nat) (a0 : Nat) (a1 : Nat) (a2 : Int32) (a3 : Int32) (a4 : Int32) (h : hp_H), hp_J Y_M_join Z hp_rV h 5 [(0, .ref a0), (1, .ref a1), (2, .int a2), (3, .int a3), (4, .int a4)] [] (m_M_join_5 (hp_G Z)  n a0 a1 a2 a3 a4 h) := by
  intro n
  induction n with
  | zero => intro a0 a1 a2 a3 a4 h; exact hp_fail
  | succ n ih =>
    intro a0 a1 a2 a3 a4 h
    rw [m_M_join_5]
    refine hp_iload (x0 := 4) d_M_join_5 rfl ?_
    refine hp_bipush (v := 64) d_M_join_7 (by decide) ?_
    refine hp_icmp_ge (tgt := 66) d_M_join_9 (by decide) ?_ ?_
    · exact hp_vret d_M_join_66 rfl
    · refine hp_aload_n (x0 := 0) d_M_join_12 rfl rfl ?_
      refine hp_iload (x0 := 4) d_M_join_13 rfl ?_
      refine hp_iald d_M_join_15 fun x1 => ?_
      refine hp_iload_n (x0 := 2) d_M_join_16 rfl rfl ?_
      refine hp_aload_n (x0 := 1) d_M_join_17 rfl rfl ?_
      refine hp_iload (x0 := 4) d_M_join_18 rfl ?_
      refine hp_iald d_M_join_20 fun x2 => ?_
      refine hp_imul d_M_join_21 ?_
      refine hp_iadd d_M_join_22 ?_
      refine hp_iload_n (x0 := 3) d_M_join_23 rfl rfl ?_
      refine hp_iadd d_M_join_24 ?_
      refine hp_istore (fun x3 => [(5, .int x3), (0, .ref a0), (1, .ref a1), (2, .int a2), (3, .int a3), (4, .int a4)]) d_M_join_25 (by decide) (fun _ => rfl) fun x3 => ?_
      refine hp_iload (x0 := 0) d_M_join_27 rfl ?_
      refine hp_if_ge (tgt := 36) d_M_join_29 (by decide) ?_ ?_
      · refine hp_iload (x0 := 0) d_M_join_36 rfl ?_
        refine hp_bipush (v := 9) d_M_join_38 (by decide) ?_
        refine hp_icmp_le (tgt := 47) d_M_join_40 (by decide) ?_ ?_
        · refine hp_iconst (v := 0) d_M_join_47 (by decide) ?_
          refine hp_sub [1, 2, 3, 5, 0] rfl ?_
          exact j_M_join_48 _ ih _ _ _ _ _ _ _
        · refine hp_iconst (v := 1) d_M_join_43 (by decide) ?_
          refine hp_goto (tgt := 48) d_M_join_44 (by decide) ?_
          refine hp_sub [1, 2, 3, 5, 0] rfl ?_
          exact j_M_join_48 _ ih _ _ _ _ _ _ _
      · refine hp_iconst (v := -1) d_M_join_32 (by decide) ?_
        refine hp_goto (tgt := 48) d_M_join_33 (by decide) ?_
        refine hp_sub [1, 2, 3, 5, 0] rfl ?_
        exact j_M_join_48 _ ih _ _ _ _ _ _ _
def m_M_join (G : Nat → Nat) (a0 : Nat) (a1 : Nat) (a2 : Int32) (h : hp_H) : Option (Unit × hp_H) := hp_nm (0 : Int32) fun x1 => hp_nm (0 : Int32) fun x2 => m_M_join_5 G hp_fu a0 a1 a2 x1 x2 h
set_option maxRecDepth 100000 in
set_option maxHeartbeats 4000000 in
theorem j_M_join_0 {Z : hp_Z} (a0 : Nat) (a1 : Nat) (a2 : Int32) (h : hp_H) : hp_J Y_M_join Z hp_rV h 0 [(0, .ref a0), (1, .ref a1), (2, .int a2)] [] (m_M_join (hp_G Z)  a0 a1 a2 h) := by
  unfold m_M_join
  refine hp_iconst (v := 0) d_M_join_0 (by decide) ?_
  refine hp_istore_n (fun x1 => [(3, .int x1), (0, .ref a0), (1, .ref a1), (2, .int a2)]) d_M_join_1 rfl (by decide) (fun _ => rfl) fun x1 => ?_
  refine hp_iconst (v := 0) d_M_join_2 (by decide) ?_
  refine hp_istore (fun x2 => [(4, .int x2), (3, .int x1), (0, .ref a0), (1, .ref a1), (2, .int a2)]) d_M_join_3 (by decide) (fun _ => rfl) fun x2 => ?_
  refine hp_sub [2, 3, 4, 1, 0] rfl ?_
  exact j_M_join_5  hp_fu _ _ _ _ _ _
theorem t_M_join (l : Launch) (E : hp_E) (a0 : Nat) (a1 : Nat) (a2 : Int32) : hp_M l E y_M_join Y_M_join hp_rV [.ref a0, .ref a1, .int a2] (m_M_join E.2.2.1 a0 a1 a2) := hp_M.of (plainFor_of_name (by decide)) ⟨rfl, rfl⟩ (Nat.le_of_ble_eq_true rfl) (fun Z h hE => by subst hE; exact j_M_join_0 _ _ _ h)
-- M_quotient
theorem d_M_quotient_0 : decode prog_9_method_18_code 0 = .ok (.aload_n 0, 1) := by decide +kernel
theorem d_M_quotient_1 : decode prog_9_method_18_code 1 = .ok (.getfield 16, 3) := by decide +kernel
theorem d_M_quotient_4 : decode prog_9_method_18_code 4 = .ok (.iload_n 2, 1) := by decide +kernel
theorem d_M_quotient_5 : decode prog_9_method_18_code 5 = .ok (.iaload, 1) := by decide +kernel
theorem d_M_quotient_6 : decode prog_9_method_18_code 6 = .ok (.ifCond .ne 6, 3) := by decide +kernel
theorem d_M_quotient_9 : decode prog_9_method_18_code 9 = .ok (.bipush (-4), 2) := by decide +kernel
theorem d_M_quotient_11 : decode prog_9_method_18_code 11 = .ok (.ireturn, 1) := by decide +kernel
theorem d_M_quotient_12 : decode prog_9_method_18_code 12 = .ok (.aload_n 0, 1) := by decide +kernel
theorem d_M_quotient_13 : decode prog_9_method_18_code 13 = .ok (.getfield 45, 3) := by decide +kernel
theorem d_M_quotient_16 : decode prog_9_method_18_code 16 = .ok (.invokestatic 95, 3) := by decide +kernel
theorem d_M_quotient_19 : decode prog_9_method_18_code 19 = .ok (.aload_n 0, 1) := by decide +kernel
theorem d_M_quotient_20 : decode prog_9_method_18_code 20 = .ok (.getfield 48, 3) := by decide +kernel
theorem d_M_quotient_23 : decode prog_9_method_18_code 23 = .ok (.invokestatic 95, 3) := by decide +kernel
theorem d_M_quotient_26 : decode prog_9_method_18_code 26 = .ok (.iconst 0, 1) := by decide +kernel
theorem d_M_quotient_27 : decode prog_9_method_18_code 27 = .ok (.istore_n 3, 1) := by decide +kernel
theorem d_M_quotient_28 : decode prog_9_method_18_code 28 = .ok (.iload_n 3, 1) := by decide +kernel
theorem d_M_quotient_29 : decode prog_9_method_18_code 29 = .ok (.bipush 18, 2) := by decide +kernel
theorem d_M_quotient_31 : decode prog_9_method_18_code 31 = .ok (.if_icmp .ge 26, 3) := by decide +kernel
theorem d_M_quotient_34 : decode prog_9_method_18_code 34 = .ok (.aload_n 0, 1) := by decide +kernel
theorem d_M_quotient_35 : decode prog_9_method_18_code 35 = .ok (.getfield 45, 3) := by decide +kernel
theorem d_M_quotient_38 : decode prog_9_method_18_code 38 = .ok (.iload_n 3, 1) := by decide +kernel
theorem d_M_quotient_39 : decode prog_9_method_18_code 39 = .ok (.aload_n 0, 1) := by decide +kernel
theorem d_M_quotient_40 : decode prog_9_method_18_code 40 = .ok (.getfield 23, 3) := by decide +kernel
theorem d_M_quotient_43 : decode prog_9_method_18_code 43 = .ok (.bipush 18, 2) := by decide +kernel
theorem d_M_quotient_45 : decode prog_9_method_18_code 45 = .ok (.iload_n 2, 1) := by decide +kernel
theorem d_M_quotient_46 : decode prog_9_method_18_code 46 = .ok (.imul, 1) := by decide +kernel
theorem d_M_quotient_47 : decode prog_9_method_18_code 47 = .ok (.iload_n 3, 1) := by decide +kernel
theorem d_M_quotient_48 : decode prog_9_method_18_code 48 = .ok (.iadd, 1) := by decide +kernel
theorem d_M_quotient_49 : decode prog_9_method_18_code 49 = .ok (.iaload, 1) := by decide +kernel
theorem d_M_quotient_50 : decode prog_9_method_18_code 50 = .ok (.iastore, 1) := by decide +kernel
theorem d_M_quotient_51 : decode prog_9_method_18_code 51 = .ok (.iinc 3 1, 3) := by decide +kernel
theorem d_M_quotient_54 : decode prog_9_method_18_code 54 = .ok (.goto (-26), 3) := by decide +kernel
theorem d_M_quotient_57 : decode prog_9_method_18_code 57 = .ok (.aload_n 0, 1) := by decide +kernel
theorem d_M_quotient_58 : decode prog_9_method_18_code 58 = .ok (.getfield 19, 3) := by decide +kernel
theorem d_M_quotient_61 : decode prog_9_method_18_code 61 = .ok (.iload_n 2, 1) := by decide +kernel
theorem d_M_quotient_62 : decode prog_9_method_18_code 62 = .ok (.iaload, 1) := by decide +kernel
theorem d_M_quotient_63 : decode prog_9_method_18_code 63 = .ok (.aload_n 0, 1) := by decide +kernel
theorem d_M_quotient_64 : decode prog_9_method_18_code 64 = .ok (.getfield 19, 3) := by decide +kernel
theorem d_M_quotient_67 : decode prog_9_method_18_code 67 = .ok (.iload_n 1, 1) := by decide +kernel
theorem d_M_quotient_68 : decode prog_9_method_18_code 68 = .ok (.iaload, 1) := by decide +kernel
theorem d_M_quotient_69 : decode prog_9_method_18_code 69 = .ok (.isub, 1) := by decide +kernel
theorem d_M_quotient_70 : decode prog_9_method_18_code 70 = .ok (.istore_n 3, 1) := by decide +kernel
theorem d_M_quotient_71 : decode prog_9_method_18_code 71 = .ok (.aload_n 0, 1) := by decide +kernel
theorem d_M_quotient_72 : decode prog_9_method_18_code 72 = .ok (.getfield 42, 3) := by decide +kernel
theorem d_M_quotient_75 : decode prog_9_method_18_code 75 = .ok (.invokestatic 95, 3) := by decide +kernel
theorem d_M_quotient_78 : decode prog_9_method_18_code 78 = .ok (.bipush 17, 2) := by decide +kernel
theorem d_M_quotient_80 : decode prog_9_method_18_code 80 = .ok (.istore 4, 2) := by decide +kernel
theorem d_M_quotient_82 : decode prog_9_method_18_code 82 = .ok (.iload 4, 2) := by decide +kernel
theorem d_M_quotient_84 : decode prog_9_method_18_code 84 = .ok (.iload_n 3, 1) := by decide +kernel
theorem d_M_quotient_85 : decode prog_9_method_18_code 85 = .ok (.ineg, 1) := by decide +kernel
theorem d_M_quotient_86 : decode prog_9_method_18_code 86 = .ok (.bipush 10, 2) := by decide +kernel
theorem d_M_quotient_88 : decode prog_9_method_18_code 88 = .ok (.isub, 1) := by decide +kernel
theorem d_M_quotient_89 : decode prog_9_method_18_code 89 = .ok (.if_icmp .lt 116, 3) := by decide +kernel
theorem d_M_quotient_92 : decode prog_9_method_18_code 92 = .ok (.bipush 63, 2) := by decide +kernel
theorem d_M_quotient_94 : decode prog_9_method_18_code 94 = .ok (.istore 5, 2) := by decide +kernel
theorem d_M_quotient_96 : decode prog_9_method_18_code 96 = .ok (.iload 5, 2) := by decide +kernel
theorem d_M_quotient_98 : decode prog_9_method_18_code 98 = .ok (.ifCond .le 25, 3) := by decide +kernel
theorem d_M_quotient_101 : decode prog_9_method_18_code 101 = .ok (.aload_n 0, 1) := by decide +kernel
theorem d_M_quotient_102 : decode prog_9_method_18_code 102 = .ok (.getfield 42, 3) := by decide +kernel
theorem d_M_quotient_105 : decode prog_9_method_18_code 105 = .ok (.iload 5, 2) := by decide +kernel
theorem d_M_quotient_107 : decode prog_9_method_18_code 107 = .ok (.aload_n 0, 1) := by decide +kernel
theorem d_M_quotient_108 : decode prog_9_method_18_code 108 = .ok (.getfield 42, 3) := by decide +kernel
theorem d_M_quotient_111 : decode prog_9_method_18_code 111 = .ok (.iload 5, 2) := by decide +kernel
theorem d_M_quotient_113 : decode prog_9_method_18_code 113 = .ok (.iconst 1, 1) := by decide +kernel
theorem d_M_quotient_114 : decode prog_9_method_18_code 114 = .ok (.isub, 1) := by decide +kernel
theorem d_M_quotient_115 : decode prog_9_method_18_code 115 = .ok (.iaload, 1) := by decide +kernel
theorem d_M_quotient_116 : decode prog_9_method_18_code 116 = .ok (.iastore, 1) := by decide +kernel
theorem d_M_quotient_117 : decode prog_9_method_18_code 117 = .ok (.iinc 5 (-1), 3) := by decide +kernel
theorem d_M_quotient_120 : decode prog_9_method_18_code 120 = .ok (.goto (-24), 3) := by decide +kernel
theorem d_M_quotient_123 : decode prog_9_method_18_code 123 = .ok (.aload_n 0, 1) := by decide +kernel
theorem d_M_quotient_124 : decode prog_9_method_18_code 124 = .ok (.getfield 42, 3) := by decide +kernel
theorem d_M_quotient_127 : decode prog_9_method_18_code 127 = .ok (.iconst 0, 1) := by decide +kernel
theorem d_M_quotient_128 : decode prog_9_method_18_code 128 = .ok (.iload 4, 2) := by decide +kernel
theorem d_M_quotient_130 : decode prog_9_method_18_code 130 = .ok (.ifCond .lt 18, 3) := by decide +kernel
theorem d_M_quotient_133 : decode prog_9_method_18_code 133 = .ok (.aload_n 0, 1) := by decide +kernel
theorem d_M_quotient_134 : decode prog_9_method_18_code 134 = .ok (.getfield 23, 3) := by decide +kernel
theorem d_M_quotient_137 : decode prog_9_method_18_code 137 = .ok (.bipush 18, 2) := by decide +kernel
theorem d_M_quotient_139 : decode prog_9_method_18_code 139 = .ok (.iload_n 1, 1) := by decide +kernel
theorem d_M_quotient_140 : decode prog_9_method_18_code 140 = .ok (.imul, 1) := by decide +kernel
theorem d_M_quotient_141 : decode prog_9_method_18_code 141 = .ok (.iload 4, 2) := by decide +kernel
theorem d_M_quotient_143 : decode prog_9_method_18_code 143 = .ok (.iadd, 1) := by decide +kernel
theorem d_M_quotient_144 : decode prog_9_method_18_code 144 = .ok (.iaload, 1) := by decide +kernel
theorem d_M_quotient_145 : decode prog_9_method_18_code 145 = .ok (.goto 4, 3) := by decide +kernel
theorem d_M_quotient_148 : decode prog_9_method_18_code 148 = .ok (.iconst 0, 1) := by decide +kernel
theorem d_M_quotient_149 : decode prog_9_method_18_code 149 = .ok (.iastore, 1) := by decide +kernel
theorem d_M_quotient_150 : decode prog_9_method_18_code 150 = .ok (.iconst 0, 1) := by decide +kernel
theorem d_M_quotient_151 : decode prog_9_method_18_code 151 = .ok (.istore 5, 2) := by decide +kernel
theorem d_M_quotient_153 : decode prog_9_method_18_code 153 = .ok (.aload_n 0, 1) := by decide +kernel
theorem d_M_quotient_154 : decode prog_9_method_18_code 154 = .ok (.getfield 42, 3) := by decide +kernel
theorem d_M_quotient_157 : decode prog_9_method_18_code 157 = .ok (.aload_n 0, 1) := by decide +kernel
theorem d_M_quotient_158 : decode prog_9_method_18_code 158 = .ok (.getfield 45, 3) := by decide +kernel
theorem d_M_quotient_161 : decode prog_9_method_18_code 161 = .ok (.invokestatic 131, 3) := by decide +kernel
theorem d_M_quotient_164 : decode prog_9_method_18_code 164 = .ok (.ifCond .lt 21, 3) := by decide +kernel
theorem d_M_quotient_167 : decode prog_9_method_18_code 167 = .ok (.aload_n 0, 1) := by decide +kernel
theorem d_M_quotient_168 : decode prog_9_method_18_code 168 = .ok (.getfield 42, 3) := by decide +kernel
theorem d_M_quotient_171 : decode prog_9_method_18_code 171 = .ok (.aload_n 0, 1) := by decide +kernel
theorem d_M_quotient_172 : decode prog_9_method_18_code 172 = .ok (.getfield 45, 3) := by decide +kernel
theorem d_M_quotient_175 : decode prog_9_method_18_code 175 = .ok (.iconst (-1), 1) := by decide +kernel
theorem d_M_quotient_176 : decode prog_9_method_18_code 176 = .ok (.invokestatic 119, 3) := by decide +kernel
theorem d_M_quotient_179 : decode prog_9_method_18_code 179 = .ok (.iinc 5 1, 3) := by decide +kernel
theorem d_M_quotient_182 : decode prog_9_method_18_code 182 = .ok (.goto (-29), 3) := by decide +kernel
theorem d_M_quotient_185 : decode prog_9_method_18_code 185 = .ok (.aload_n 0, 1) := by decide +kernel
theorem d_M_quotient_186 : decode prog_9_method_18_code 186 = .ok (.getfield 48, 3) := by decide +kernel
theorem d_M_quotient_189 : decode prog_9_method_18_code 189 = .ok (.bipush 18, 2) := by decide +kernel
theorem d_M_quotient_191 : decode prog_9_method_18_code 191 = .ok (.iload_n 3, 1) := by decide +kernel
theorem d_M_quotient_192 : decode prog_9_method_18_code 192 = .ok (.iadd, 1) := by decide +kernel
theorem d_M_quotient_193 : decode prog_9_method_18_code 193 = .ok (.iload 4, 2) := by decide +kernel
theorem d_M_quotient_195 : decode prog_9_method_18_code 195 = .ok (.iadd, 1) := by decide +kernel
theorem d_M_quotient_196 : decode prog_9_method_18_code 196 = .ok (.iload 5, 2) := by decide +kernel
theorem d_M_quotient_198 : decode prog_9_method_18_code 198 = .ok (.iastore, 1) := by decide +kernel
theorem d_M_quotient_199 : decode prog_9_method_18_code 199 = .ok (.iinc 4 (-1), 3) := by decide +kernel
theorem d_M_quotient_202 : decode prog_9_method_18_code 202 = .ok (.goto (-120), 3) := by decide +kernel
theorem d_M_quotient_205 : decode prog_9_method_18_code 205 = .ok (.aload_n 0, 1) := by decide +kernel
theorem d_M_quotient_206 : decode prog_9_method_18_code 206 = .ok (.getfield 48, 3) := by decide +kernel
theorem d_M_quotient_209 : decode prog_9_method_18_code 209 = .ok (.invokestatic 135, 3) := by decide +kernel
theorem d_M_quotient_212 : decode prog_9_method_18_code 212 = .ok (.aload_n 0, 1) := by decide +kernel
theorem d_M_quotient_213 : decode prog_9_method_18_code 213 = .ok (.aload_n 0, 1) := by decide +kernel
theorem d_M_quotient_214 : decode prog_9_method_18_code 214 = .ok (.getfield 48, 3) := by decide +kernel
theorem d_M_quotient_217 : decode prog_9_method_18_code 217 = .ok (.aload_n 0, 1) := by decide +kernel
theorem d_M_quotient_218 : decode prog_9_method_18_code 218 = .ok (.getfield 16, 3) := by decide +kernel
theorem d_M_quotient_221 : decode prog_9_method_18_code 221 = .ok (.iload_n 1, 1) := by decide +kernel
theorem d_M_quotient_222 : decode prog_9_method_18_code 222 = .ok (.iaload, 1) := by decide +kernel
theorem d_M_quotient_223 : decode prog_9_method_18_code 223 = .ok (.aload_n 0, 1) := by decide +kernel
theorem d_M_quotient_224 : decode prog_9_method_18_code 224 = .ok (.getfield 16, 3) := by decide +kernel
theorem d_M_quotient_227 : decode prog_9_method_18_code 227 = .ok (.iload_n 2, 1) := by decide +kernel
theorem d_M_quotient_228 : decode prog_9_method_18_code 228 = .ok (.iaload, 1) := by decide +kernel
theorem d_M_quotient_229 : decode prog_9_method_18_code 229 = .ok (.imul, 1) := by decide +kernel
theorem d_M_quotient_230 : decode prog_9_method_18_code 230 = .ok (.iconst 0, 1) := by decide +kernel
theorem d_M_quotient_231 : decode prog_9_method_18_code 231 = .ok (.invokevirtual 127, 3) := by decide +kernel
theorem d_M_quotient_234 : decode prog_9_method_18_code 234 = .ok (.ireturn, 1) := by decide +kernel
def m_M_quotient_153 (G : Nat → Nat) (r82 : Nat → Int32 → Int32 → Int32 → Int32 → hp_H → Option (Int32 × hp_H)) : Nat → Nat → Int32 → Int32 → Int32 → Int32 → Int32 → hp_H → Option (Int32 × hp_H)
  | 0, _, _, _, _, _, _, _ => none
  | n + 1, a0, a1, a2, a3, a4, a5, h => (hp_gR h a0 8 17).bind fun x1 => (hp_gR h a0 8 18).bind fun x2 => (m_M_compare G x1 x2 h).bind fun q3 => if q3.1 < 0 then ((hp_gR q3.2 a0 8 19).bind fun x4 => (hp_sI q3.2 .int x4 (((18 : Int32) + a3) + a4) a5).bind fun h5 => hp_nm (a4 + (-1)) fun x6 => r82 a0 a1 a2 a3 x6 h5) else ((hp_gR q3.2 a0 8 17).bind fun x7 => (hp_gR q3.2 a0 8 18).bind fun x8 => (m_M_join G x7 x8 (-1 : Int32) q3.2).bind fun q9 => hp_nm (a5 + 1) fun x10 => (m_M_quotient_153 G r82 n) a0 a1 a2 a3 a4 x10 q9.2)
set_option maxRecDepth 100000 in
set_option maxHeartbeats 4000000 in
theorem j_M_quotient_153 {Z : hp_Z} (r82 : Nat → Int32 → Int32 → Int32 → Int32 → hp_H → Option (Int32 × hp_H)) (hr82 : ∀ (a0 : Nat) (a1 : Int32) (a2 : Int32) (a3 : Int32) (a4 : Int32) (h : hp_H), hp_J Y_M_quotient Z hp_rI h 82 [(0, .ref a0), (1, .int a1), (2, .int a2), (3, .int a3), (4, .int a4)] [] (r82 a0 a1 a2 a3 a4  h)) : ∀ (n : Nat) (a0 : Nat) (a1 : Int32) (a2 : Int32) (a3 : Int32) (a4 : Int32) (a5 : Int32) (h : hp_H), hp_J Y_M_quotient Z hp_rI h 153 [(0, .ref a0), (1, .int a1), (2, .int a2), (3, .int a3), (4, .int a4), (5, .int a5)] [] (m_M_quotient_153 (hp_G Z) r82 n a0 a1 a2 a3 a4 a5 h) := by
  intro n
  induction n with
  | zero => intro a0 a1 a2 a3 a4 a5 h; exact hp_fail
  | succ n ih =>
    intro a0 a1 a2 a3 a4 a5 h
    rw [m_M_quotient_153]
    refine hp_aload_n (x0 := 0) d_M_quotient_153 rfl rfl ?_
    refine hp_getR fl_M_42 d_M_quotient_154 fun x1 => ?_
    refine hp_aload_n (x0 := 0) d_M_quotient_157 rfl rfl ?_
    refine hp_getR fl_M_45 d_M_quotient_158 fun x2 => ?_
    refine hp_callI (hp_crS (t_M_compare _ _ _ _) cw_M_131 w_1063 (by decide) rfl rfl (Nat.le_of_ble_eq_true rfl) d_M_quotient_161) fun q3 => ?_
    refine hp_if_lt (tgt := 185) d_M_quotient_164 (by decide) ?_ ?_
    · refine hp_aload_n (x0 := 0) d_M_quotient_185 rfl rfl ?_
      refine hp_getR fl_M_48 d_M_quotient_186 fun x4 => ?_
      refine hp_bipush (v := 18) d_M_quotient_189 (by decide) ?_
      refine hp_iload_n (x0 := 3) d_M_quotient_191 rfl rfl ?_
      refine hp_iadd d_M_quotient_192 ?_
      refine hp_iload (x0 := 4) d_M_quotient_193 rfl ?_
      refine hp_iadd d_M_quotient_195 ?_
      refine hp_iload (x0 := 5) d_M_quotient_196 rfl ?_
      refine hp_iast d_M_quotient_198 fun h5 => ?_
      refine hp_iinc (x0 := 4) (d := -1) (fun x6 => [(4, .int x6), (0, .ref a0), (1, .int a1), (2, .int a2), (3, .int a3), (5, .int a5)]) d_M_quotient_199 rfl (by decide) (by decide) (fun _ => rfl) fun x6 => ?_
      refine hp_goto (tgt := 82) d_M_quotient_202 (by decide) ?_
      refine hp_sub [1, 2, 3, 4, 0] rfl ?_
      exact hr82 _ _ _ _ _ _
    · refine hp_aload_n (x0 := 0) d_M_quotient_167 rfl rfl ?_
      refine hp_getR fl_M_42 d_M_quotient_168 fun x7 => ?_
      refine hp_aload_n (x0 := 0) d_M_quotient_171 rfl rfl ?_
      refine hp_getR fl_M_45 d_M_quotient_172 fun x8 => ?_
      refine hp_iconst (v := -1) d_M_quotient_175 (by decide) ?_
      refine hp_callU (hp_crS (t_M_join _ _ _ _ _) cw_M_119 w_1182 (by decide) rfl rfl (Nat.le_of_ble_eq_true rfl) d_M_quotient_176) fun q9 => ?_
      refine hp_iinc (x0 := 5) (d := 1) (fun x10 => [(5, .int x10), (0, .ref a0), (1, .int a1), (2, .int a2), (3, .int a3), (4, .int a4)]) d_M_quotient_179 rfl (by decide) (by decide) (fun _ => rfl) fun x10 => ?_
      refine hp_goto (tgt := 153) d_M_quotient_182 (by decide) ?_
      refine hp_sub [1, 2, 3, 4, 5, 0] rfl ?_
      exact ih _ _ _ _ _ _ _
def m_M_quotient_149 (G : Nat → Nat) (r82 : Nat → Int32 → Int32 → Int32 → Int32 → hp_H → Option (Int32 × hp_H)) (a0 : Nat) (a1 : Int32) (a2 : Int32) (a3 : Int32) (a4 : Int32) (s0 : Int32) (s1 : Int32) (s2 : Nat) (h : hp_H) : Option (Int32 × hp_H) := (hp_sI h .int s2 s1 s0).bind fun h1 => hp_nm (0 : Int32) fun x2 => m_M_quotient_153 G r82 hp_fu a0 a1 a2 a3 a4 x2 h1
set_option maxRecDepth 100000 in
set_option maxHeartbeats 4000000 in
theorem j_M_quotient_149 {Z : hp_Z} (r82 : Nat → Int32 → Int32 → Int32 → Int32 → hp_H → Option (Int32 × hp_H)) (hr82 : ∀ (a0 : Nat) (a1 : Int32) (a2 : Int32) (a3 : Int32) (a4 : Int32) (h : hp_H), hp_J Y_M_quotient Z hp_rI h 82 [(0, .ref a0), (1, .int a1), (2, .int a2), (3, .int a3), (4, .int a4)] [] (r82 a0 a1 a2 a3 a4  h)) (a0 : Nat) (a1 : Int32) (a2 : Int32) (a3 : Int32) (a4 : Int32) (s0 : Int32) (s1 : Int32) (s2 : Nat) (h : hp_H) : hp_J Y_M_quotient Z hp_rI h 149 [(0, .ref a0), (1, .int a1), (2, .int a2), (3, .int a3), (4, .int a4)] [.int s0, .int s1, .ref s2] (m_M_quotient_149 (hp_G Z) r82 a0 a1 a2 a3 a4 s0 s1 s2 h) := by
  unfold m_M_quotient_149
  refine hp_iast d_M_quotient_149 fun h1 => ?_
  refine hp_iconst (v := 0) d_M_quotient_150 (by decide) ?_
  refine hp_istore (fun x2 => [(5, .int x2), (0, .ref a0), (1, .int a1), (2, .int a2), (3, .int a3), (4, .int a4)]) d_M_quotient_151 (by decide) (fun _ => rfl) fun x2 => ?_
  refine hp_sub [1, 2, 3, 4, 5, 0] rfl ?_
  exact j_M_quotient_153 _ hr82 hp_fu _ _ _ _ _ _ _
def m_M_quotient_96 (G : Nat → Nat) (r82 : Nat → Int32 → Int32 → Int32 → Int32 → hp_H → Option (Int32 × hp_H)) : Nat → Nat → Int32 → Int32 → Int32 → Int32 → Int32 → hp_H → Option (Int32 × hp_H)
  | 0, _, _, _, _, _, _, _ => none
  | n + 1, a0, a1, a2, a3, a4, a5, h => if a5 ≤ 0 then ((hp_gR h a0 8 17).bind fun x1 => if a4 < 0 then (m_M_quotient_149 G r82 a0 a1 a2 a3 a4 (0 : Int32) (0 : Int32) x1 h) else ((hp_gR h a0 8 5).bind fun x2 => (hp_aI h .int x2 (((18 : Int32) * a1) + a4)).bind fun x3 => m_M_quotient_149 G r82 a0 a1 a2 a3 a4 x3 (0 : Int32) x1 h)) else ((hp_gR h a0 8 17).bind fun x4 => (hp_gR h a0 8 17).bind fun x5 => (hp_aI h .int x5 (a5 - (1 : Int32))).bind fun x6 => (hp_sI h .int x4 a5 x6).bind fun h7 => hp_nm (a5 + (-1)) fun x8 => (m_M_quotient_96 G r82 n) a0 a1 a2 a3 a4 x8 h7)
set_option maxRecDepth 100000 in
set_option maxHeartbeats 4000000 in
theorem j_M_quotient_96 {Z : hp_Z} (r82 : Nat → Int32 → Int32 → Int32 → Int32 → hp_H → Option (Int32 × hp_H)) (hr82 : ∀ (a0 : Nat) (a1 : Int32) (a2 : Int32) (a3 : Int32) (a4 : Int32) (h : hp_H), hp_J Y_M_quotient Z hp_rI h 82 [(0, .ref a0), (1, .int a1), (2, .int a2), (3, .int a3), (4, .int a4)] [] (r82 a0 a1 a2 a3 a4  h)) : ∀ (n : Nat) (a0 : Nat) (a1 : Int32) (a2 : Int32) (a3 : Int32) (a4 : Int32) (a5 : Int32) (h : hp_H), hp_J Y_M_quotient Z hp_rI h 96 [(0, .ref a0), (1, .int a1), (2, .int a2), (3, .int a3), (4, .int a4), (5, .int a5)] [] (m_M_quotient_96 (hp_G Z) r82 n a0 a1 a2 a3 a4 a5 h) := by
  intro n
  induction n with
  | zero => intro a0 a1 a2 a3 a4 a5 h; exact hp_fail
  | succ n ih =>
    intro a0 a1 a2 a3 a4 a5 h
    rw [m_M_quotient_96]
    refine hp_iload (x0 := 5) d_M_quotient_96 rfl ?_
    refine hp_if_le (tgt := 123) d_M_quotient_98 (by decide) ?_ ?_
    · refine hp_aload_n (x0 := 0) d_M_quotient_123 rfl rfl ?_
      refine hp_getR fl_M_42 d_M_quotient_124 fun x1 => ?_
      refine hp_iconst (v := 0) d_M_quotient_127 (by decide) ?_
      refine hp_iload (x0 := 4) d_M_quotient_128 rfl ?_
      refine hp_if_lt (tgt := 148) d_M_quotient_130 (by decide) ?_ ?_
      · refine hp_iconst (v := 0) d_M_quotient_148 (by decide) ?_
        refine hp_sub [0, 1, 2, 3, 4] rfl ?_
        exact j_M_quotient_149 _ hr82 _ _ _ _ _ _ _ _ _
      · refine hp_aload_n (x0 := 0) d_M_quotient_133 rfl rfl ?_
        refine hp_getR fl_M_23 d_M_quotient_134 fun x2 => ?_
        refine hp_bipush (v := 18) d_M_quotient_137 (by decide) ?_
        refine hp_iload_n (x0 := 1) d_M_quotient_139 rfl rfl ?_
        refine hp_imul d_M_quotient_140 ?_
        refine hp_iload (x0 := 4) d_M_quotient_141 rfl ?_
        refine hp_iadd d_M_quotient_143 ?_
        refine hp_iald d_M_quotient_144 fun x3 => ?_
        refine hp_goto (tgt := 149) d_M_quotient_145 (by decide) ?_
        refine hp_sub [0, 1, 2, 3, 4] rfl ?_
        exact j_M_quotient_149 _ hr82 _ _ _ _ _ _ _ _ _
    · refine hp_aload_n (x0 := 0) d_M_quotient_101 rfl rfl ?_
      refine hp_getR fl_M_42 d_M_quotient_102 fun x4 => ?_
      refine hp_iload (x0 := 5) d_M_quotient_105 rfl ?_
      refine hp_aload_n (x0 := 0) d_M_quotient_107 rfl rfl ?_
      refine hp_getR fl_M_42 d_M_quotient_108 fun x5 => ?_
      refine hp_iload (x0 := 5) d_M_quotient_111 rfl ?_
      refine hp_iconst (v := 1) d_M_quotient_113 (by decide) ?_
      refine hp_isub d_M_quotient_114 ?_
      refine hp_iald d_M_quotient_115 fun x6 => ?_
      refine hp_iast d_M_quotient_116 fun h7 => ?_
      refine hp_iinc (x0 := 5) (d := -1) (fun x8 => [(5, .int x8), (0, .ref a0), (1, .int a1), (2, .int a2), (3, .int a3), (4, .int a4)]) d_M_quotient_117 rfl (by decide) (by decide) (fun _ => rfl) fun x8 => ?_
      refine hp_goto (tgt := 96) d_M_quotient_120 (by decide) ?_
      refine hp_sub [1, 2, 3, 4, 5, 0] rfl ?_
      exact ih _ _ _ _ _ _ _
def m_M_quotient_82 (G : Nat → Nat) : Nat → Nat → Int32 → Int32 → Int32 → Int32 → hp_H → Option (Int32 × hp_H)
  | 0, _, _, _, _, _, _ => none
  | n + 1, a0, a1, a2, a3, a4, h => if a4 < ((-a3) - (10 : Int32)) then ((hp_gR h a0 8 19).bind fun x1 => (m_M_round G x1 h).bind fun q2 => (hp_gR q2.2 a0 8 19).bind fun x3 => (hp_gR q2.2 a0 8 3).bind fun x4 => (hp_aI q2.2 .int x4 a1).bind fun x5 => (hp_gR q2.2 a0 8 3).bind fun x6 => (hp_aI q2.2 .int x6 a2).bind fun x7 => (hp_vck q2.2 a0 8 (m_M_number G a0 x3 (x5 * x7) (0 : Int32) q2.2)).bind fun q8 => some (q8.1, q8.2)) else (hp_nm (63 : Int32) fun x9 => m_M_quotient_96 G (m_M_quotient_82 G  n) hp_fu a0 a1 a2 a3 a4 x9 h)
set_option maxRecDepth 100000 in
set_option maxHeartbeats 4000000 in
theorem j_M_quotient_82 {Z : hp_Z} : ∀ (n : Nat) (a0 : Nat) (a1 : Int32) (a2 : Int32) (a3 : Int32) (a4 : Int32) (h : hp_H), hp_J Y_M_quotient Z hp_rI h 82 [(0, .ref a0), (1, .int a1), (2, .int a2), (3, .int a3), (4, .int a4)] [] (m_M_quotient_82 (hp_G Z)  n a0 a1 a2 a3 a4 h) := by
  intro n
  induction n with
  | zero => intro a0 a1 a2 a3 a4 h; exact hp_fail
  | succ n ih =>
    intro a0 a1 a2 a3 a4 h
    rw [m_M_quotient_82]
    refine hp_iload (x0 := 4) d_M_quotient_82 rfl ?_
    refine hp_iload_n (x0 := 3) d_M_quotient_84 rfl rfl ?_
    refine hp_ineg d_M_quotient_85 ?_
    refine hp_bipush (v := 10) d_M_quotient_86 (by decide) ?_
    refine hp_isub d_M_quotient_88 ?_
    refine hp_icmp_lt (tgt := 205) d_M_quotient_89 (by decide) ?_ ?_
    · refine hp_aload_n (x0 := 0) d_M_quotient_205 rfl rfl ?_
      refine hp_getR fl_M_48 d_M_quotient_206 fun x1 => ?_
      refine hp_callU (hp_crS (t_M_round _ _ _) cw_M_135 w_1193 (by decide) rfl rfl (Nat.le_of_ble_eq_true rfl) d_M_quotient_209) fun q2 => ?_
      refine hp_aload_n (x0 := 0) d_M_quotient_212 rfl rfl ?_
      refine hp_aload_n (x0 := 0) d_M_quotient_213 rfl rfl ?_
      refine hp_getR fl_M_48 d_M_quotient_214 fun x3 => ?_
      refine hp_aload_n (x0 := 0) d_M_quotient_217 rfl rfl ?_
      refine hp_getR fl_M_16 d_M_quotient_218 fun x4 => ?_
      refine hp_iload_n (x0 := 1) d_M_quotient_221 rfl rfl ?_
      refine hp_iald d_M_quotient_222 fun x5 => ?_
      refine hp_aload_n (x0 := 0) d_M_quotient_223 rfl rfl ?_
      refine hp_getR fl_M_16 d_M_quotient_224 fun x6 => ?_
      refine hp_iload_n (x0 := 2) d_M_quotient_227 rfl rfl ?_
      refine hp_iald d_M_quotient_228 fun x7 => ?_
      refine hp_imul d_M_quotient_229 ?_
      refine hp_iconst (v := 0) d_M_quotient_230 (by decide) ?_
      refine hp_callI (hp_crV (ci := 8) (t_M_number _ _ _ _ _ _) cw_M_127 rfl ⟨w_981, ws_39⟩ (by decide) rfl rfl (Nat.le_of_ble_eq_true rfl) d_M_quotient_231) fun q8 => ?_
      exact hp_iret d_M_quotient_234 rfl
    · refine hp_bipush (v := 63) d_M_quotient_92 (by decide) ?_
      refine hp_istore (fun x9 => [(5, .int x9), (0, .ref a0), (1, .int a1), (2, .int a2), (3, .int a3), (4, .int a4)]) d_M_quotient_94 (by decide) (fun _ => rfl) fun x9 => ?_
      refine hp_sub [1, 2, 3, 4, 5, 0] rfl ?_
      exact j_M_quotient_96 _ ih hp_fu _ _ _ _ _ _ _
def m_M_quotient_28 (G : Nat → Nat) : Nat → Nat → Int32 → Int32 → Int32 → hp_H → Option (Int32 × hp_H)
  | 0, _, _, _, _, _ => none
  | n + 1, a0, a1, a2, a3, h => if (18 : Int32) ≤ a3 then ((hp_gR h a0 8 4).bind fun x1 => (hp_aI h .int x1 a2).bind fun x2 => (hp_gR h a0 8 4).bind fun x3 => (hp_aI h .int x3 a1).bind fun x4 => hp_nm (x2 - x4) fun x5 => (hp_gR h a0 8 17).bind fun x6 => (m_M_clear G x6 h).bind fun q7 => hp_nm (17 : Int32) fun x8 => m_M_quotient_82 G hp_fu a0 a1 a2 x5 x8 q7.2) else ((hp_gR h a0 8 18).bind fun x9 => (hp_gR h a0 8 5).bind fun x10 => (hp_aI h .int x10 (((18 : Int32) * a2) + a3)).bind fun x11 => (hp_sI h .int x9 a3 x11).bind fun h12 => hp_nm (a3 + 1) fun x13 => (m_M_quotient_28 G  n) a0 a1 a2 x13 h12)
set_option maxRecDepth 100000 in
set_option maxHeartbeats 4000000 in
theorem j_M_quotient_28 {Z : hp_Z} : ∀ (n : Nat) (a0 : Nat) (a1 : Int32) (a2 : Int32) (a3 : Int32) (h : hp_H), hp_J Y_M_quotient Z hp_rI h 28 [(0, .ref a0), (1, .int a1), (2, .int a2), (3, .int a3)] [] (m_M_quotient_28 (hp_G Z)  n a0 a1 a2 a3 h) := by
  intro n
  induction n with
  | zero => intro a0 a1 a2 a3 h; exact hp_fail
  | succ n ih =>
    intro a0 a1 a2 a3 h
    rw [m_M_quotient_28]
    refine hp_iload_n (x0 := 3) d_M_quotient_28 rfl rfl ?_
    refine hp_bipush (v := 18) d_M_quotient_29 (by decide) ?_
    refine hp_icmp_ge (tgt := 57) d_M_quotient_31 (by decide) ?_ ?_
    · refine hp_aload_n (x0 := 0) d_M_quotient_57 rfl rfl ?_
      refine hp_getR fl_M_19 d_M_quotient_58 fun x1 => ?_
      refine hp_iload_n (x0 := 2) d_M_quotient_61 rfl rfl ?_
      refine hp_iald d_M_quotient_62 fun x2 => ?_
      refine hp_aload_n (x0 := 0) d_M_quotient_63 rfl rfl ?_
      refine hp_getR fl_M_19 d_M_quotient_64 fun x3 => ?_
      refine hp_iload_n (x0 := 1) d_M_quotient_67 rfl rfl ?_
      refine hp_iald d_M_quotient_68 fun x4 => ?_
      refine hp_isub d_M_quotient_69 ?_
      refine hp_istore_n (fun x5 => [(3, .int x5), (0, .ref a0), (1, .int a1), (2, .int a2)]) d_M_quotient_70 rfl (by decide) (fun _ => rfl) fun x5 => ?_
      refine hp_aload_n (x0 := 1) d_M_quotient_71 rfl rfl ?_
      refine hp_getR fl_M_42 d_M_quotient_72 fun x6 => ?_
      refine hp_callU (hp_crS (t_M_clear _ _ _) cw_M_95 w_976 (by decide) rfl rfl (Nat.le_of_ble_eq_true rfl) d_M_quotient_75) fun q7 => ?_
      refine hp_bipush (v := 17) d_M_quotient_78 (by decide) ?_
      refine hp_istore (fun x8 => [(4, .int x8), (3, .int x5), (0, .ref a0), (1, .int a1), (2, .int a2)]) d_M_quotient_80 (by decide) (fun _ => rfl) fun x8 => ?_
      refine hp_sub [2, 3, 4, 1, 0] rfl ?_
      exact j_M_quotient_82  hp_fu _ _ _ _ _ _
    · refine hp_aload_n (x0 := 0) d_M_quotient_34 rfl rfl ?_
      refine hp_getR fl_M_45 d_M_quotient_35 fun x9 => ?_
      refine hp_iload_n (x0 := 3) d_M_quotient_38 rfl rfl ?_
      refine hp_aload_n (x0 := 0) d_M_quotient_39 rfl rfl ?_
      refine hp_getR fl_M_23 d_M_quotient_40 fun x10 => ?_
      refine hp_bipush (v := 18) d_M_quotient_43 (by decide) ?_
      refine hp_iload_n (x0 := 2) d_M_quotient_45 rfl rfl ?_
      refine hp_imul d_M_quotient_46 ?_
      refine hp_iload_n (x0 := 3) d_M_quotient_47 rfl rfl ?_
      refine hp_iadd d_M_quotient_48 ?_
      refine hp_iald d_M_quotient_49 fun x11 => ?_
      refine hp_iast d_M_quotient_50 fun h12 => ?_
      refine hp_iinc (x0 := 3) (d := 1) (fun x13 => [(3, .int x13), (0, .ref a0), (1, .int a1), (2, .int a2)]) d_M_quotient_51 rfl (by decide) (by decide) (fun _ => rfl) fun x13 => ?_
      refine hp_goto (tgt := 28) d_M_quotient_54 (by decide) ?_
      refine hp_sub [1, 2, 3, 0] rfl ?_
      exact ih _ _ _ _ _
def m_M_quotient (G : Nat → Nat) (a0 : Nat) (a1 : Int32) (a2 : Int32) (h : hp_H) : Option (Int32 × hp_H) := (hp_gR h a0 8 3).bind fun x1 => (hp_aI h .int x1 a2).bind fun x2 => if x2 = 0 then (some ((-4 : Int32), h)) else ((hp_gR h a0 8 18).bind fun x3 => (m_M_clear G x3 h).bind fun q4 => (hp_gR q4.2 a0 8 19).bind fun x5 => (m_M_clear G x5 q4.2).bind fun q6 => hp_nm (0 : Int32) fun x7 => m_M_quotient_28 G hp_fu a0 a1 a2 x7 q6.2)
set_option maxRecDepth 100000 in
set_option maxHeartbeats 4000000 in
theorem j_M_quotient_0 {Z : hp_Z} (a0 : Nat) (a1 : Int32) (a2 : Int32) (h : hp_H) : hp_J Y_M_quotient Z hp_rI h 0 [(0, .ref a0), (1, .int a1), (2, .int a2)] [] (m_M_quotient (hp_G Z)  a0 a1 a2 h) := by
  unfold m_M_quotient
  refine hp_aload_n (x0 := 0) d_M_quotient_0 rfl rfl ?_
  refine hp_getR fl_M_16 d_M_quotient_1 fun x1 => ?_
  refine hp_iload_n (x0 := 2) d_M_quotient_4 rfl rfl ?_
  refine hp_iald d_M_quotient_5 fun x2 => ?_
  refine hp_if_ne (tgt := 12) d_M_quotient_6 (by decide) ?_ ?_
  · refine hp_bipush (v := -4) d_M_quotient_9 (by decide) ?_
    exact hp_iret d_M_quotient_11 rfl
  · refine hp_aload_n (x0 := 0) d_M_quotient_12 rfl rfl ?_
    refine hp_getR fl_M_45 d_M_quotient_13 fun x3 => ?_
    refine hp_callU (hp_crS (t_M_clear _ _ _) cw_M_95 w_976 (by decide) rfl rfl (Nat.le_of_ble_eq_true rfl) d_M_quotient_16) fun q4 => ?_
    refine hp_aload_n (x0 := 0) d_M_quotient_19 rfl rfl ?_
    refine hp_getR fl_M_48 d_M_quotient_20 fun x5 => ?_
    refine hp_callU (hp_crS (t_M_clear _ _ _) cw_M_95 w_976 (by decide) rfl rfl (Nat.le_of_ble_eq_true rfl) d_M_quotient_23) fun q6 => ?_
    refine hp_iconst (v := 0) d_M_quotient_26 (by decide) ?_
    refine hp_istore_n (fun x7 => [(3, .int x7), (0, .ref a0), (1, .int a1), (2, .int a2)]) d_M_quotient_27 rfl (by decide) (fun _ => rfl) fun x7 => ?_
    refine hp_sub [1, 2, 3, 0] rfl ?_
    exact j_M_quotient_28  hp_fu _ _ _ _ _
theorem t_M_quotient (l : Launch) (E : hp_E) (a0 : Nat) (a1 : Int32) (a2 : Int32) : hp_M l E y_M_quotient Y_M_quotient hp_rI [.ref a0, .int a1, .int a2] (m_M_quotient E.2.2.1 a0 a1 a2) := hp_M.of (plainFor_of_name (by decide)) ⟨rfl, rfl⟩ (Nat.le_of_ble_eq_true rfl) (fun Z h hE => by subst hE; exact j_M_quotient_0 _ _ _ h)
-- M_sum
theorem d_M_sum_0 : decode prog_9_method_16_code 0 = .ok (.aload_n 0, 1) := by decide +kernel
theorem d_M_sum_1 : decode prog_9_method_16_code 1 = .ok (.iload_n 1, 1) := by decide +kernel
theorem d_M_sum_2 : decode prog_9_method_16_code 2 = .ok (.aload_n 0, 1) := by decide +kernel
theorem d_M_sum_3 : decode prog_9_method_16_code 3 = .ok (.getfield 42, 3) := by decide +kernel
theorem d_M_sum_6 : decode prog_9_method_16_code 6 = .ok (.invokevirtual 115, 3) := by decide +kernel
theorem d_M_sum_9 : decode prog_9_method_16_code 9 = .ok (.aload_n 0, 1) := by decide +kernel
theorem d_M_sum_10 : decode prog_9_method_16_code 10 = .ok (.iload_n 2, 1) := by decide +kernel
theorem d_M_sum_11 : decode prog_9_method_16_code 11 = .ok (.aload_n 0, 1) := by decide +kernel
theorem d_M_sum_12 : decode prog_9_method_16_code 12 = .ok (.getfield 45, 3) := by decide +kernel
theorem d_M_sum_15 : decode prog_9_method_16_code 15 = .ok (.invokevirtual 115, 3) := by decide +kernel
theorem d_M_sum_18 : decode prog_9_method_16_code 18 = .ok (.aload_n 0, 1) := by decide +kernel
theorem d_M_sum_19 : decode prog_9_method_16_code 19 = .ok (.getfield 16, 3) := by decide +kernel
theorem d_M_sum_22 : decode prog_9_method_16_code 22 = .ok (.iload_n 2, 1) := by decide +kernel
theorem d_M_sum_23 : decode prog_9_method_16_code 23 = .ok (.iaload, 1) := by decide +kernel
theorem d_M_sum_24 : decode prog_9_method_16_code 24 = .ok (.iload_n 3, 1) := by decide +kernel
theorem d_M_sum_25 : decode prog_9_method_16_code 25 = .ok (.imul, 1) := by decide +kernel
theorem d_M_sum_26 : decode prog_9_method_16_code 26 = .ok (.istore 4, 2) := by decide +kernel
theorem d_M_sum_28 : decode prog_9_method_16_code 28 = .ok (.aload_n 0, 1) := by decide +kernel
theorem d_M_sum_29 : decode prog_9_method_16_code 29 = .ok (.getfield 16, 3) := by decide +kernel
theorem d_M_sum_32 : decode prog_9_method_16_code 32 = .ok (.iload_n 1, 1) := by decide +kernel
theorem d_M_sum_33 : decode prog_9_method_16_code 33 = .ok (.iaload, 1) := by decide +kernel
theorem d_M_sum_34 : decode prog_9_method_16_code 34 = .ok (.iload 4, 2) := by decide +kernel
theorem d_M_sum_36 : decode prog_9_method_16_code 36 = .ok (.imul, 1) := by decide +kernel
theorem d_M_sum_37 : decode prog_9_method_16_code 37 = .ok (.ifCond .lt 50, 3) := by decide +kernel
theorem d_M_sum_40 : decode prog_9_method_16_code 40 = .ok (.aload_n 0, 1) := by decide +kernel
theorem d_M_sum_41 : decode prog_9_method_16_code 41 = .ok (.getfield 42, 3) := by decide +kernel
theorem d_M_sum_44 : decode prog_9_method_16_code 44 = .ok (.aload_n 0, 1) := by decide +kernel
theorem d_M_sum_45 : decode prog_9_method_16_code 45 = .ok (.getfield 45, 3) := by decide +kernel
theorem d_M_sum_48 : decode prog_9_method_16_code 48 = .ok (.iconst 1, 1) := by decide +kernel
theorem d_M_sum_49 : decode prog_9_method_16_code 49 = .ok (.invokestatic 119, 3) := by decide +kernel
theorem d_M_sum_52 : decode prog_9_method_16_code 52 = .ok (.aload_n 0, 1) := by decide +kernel
theorem d_M_sum_53 : decode prog_9_method_16_code 53 = .ok (.aload_n 0, 1) := by decide +kernel
theorem d_M_sum_54 : decode prog_9_method_16_code 54 = .ok (.getfield 42, 3) := by decide +kernel
theorem d_M_sum_57 : decode prog_9_method_16_code 57 = .ok (.aload_n 0, 1) := by decide +kernel
theorem d_M_sum_58 : decode prog_9_method_16_code 58 = .ok (.getfield 16, 3) := by decide +kernel
theorem d_M_sum_61 : decode prog_9_method_16_code 61 = .ok (.iload_n 1, 1) := by decide +kernel
theorem d_M_sum_62 : decode prog_9_method_16_code 62 = .ok (.iaload, 1) := by decide +kernel
theorem d_M_sum_63 : decode prog_9_method_16_code 63 = .ok (.ifCond .ne 8, 3) := by decide +kernel
theorem d_M_sum_66 : decode prog_9_method_16_code 66 = .ok (.iload 4, 2) := by decide +kernel
theorem d_M_sum_68 : decode prog_9_method_16_code 68 = .ok (.goto 9, 3) := by decide +kernel
theorem d_M_sum_71 : decode prog_9_method_16_code 71 = .ok (.aload_n 0, 1) := by decide +kernel
theorem d_M_sum_72 : decode prog_9_method_16_code 72 = .ok (.getfield 16, 3) := by decide +kernel
theorem d_M_sum_75 : decode prog_9_method_16_code 75 = .ok (.iload_n 1, 1) := by decide +kernel
theorem d_M_sum_76 : decode prog_9_method_16_code 76 = .ok (.iaload, 1) := by decide +kernel
theorem d_M_sum_77 : decode prog_9_method_16_code 77 = .ok (.aload_n 0, 1) := by decide +kernel
theorem d_M_sum_78 : decode prog_9_method_16_code 78 = .ok (.iload_n 1, 1) := by decide +kernel
theorem d_M_sum_79 : decode prog_9_method_16_code 79 = .ok (.iload_n 2, 1) := by decide +kernel
theorem d_M_sum_80 : decode prog_9_method_16_code 80 = .ok (.invokevirtual 123, 3) := by decide +kernel
theorem d_M_sum_83 : decode prog_9_method_16_code 83 = .ok (.invokevirtual 127, 3) := by decide +kernel
theorem d_M_sum_86 : decode prog_9_method_16_code 86 = .ok (.ireturn, 1) := by decide +kernel
theorem d_M_sum_87 : decode prog_9_method_16_code 87 = .ok (.aload_n 0, 1) := by decide +kernel
theorem d_M_sum_88 : decode prog_9_method_16_code 88 = .ok (.getfield 42, 3) := by decide +kernel
theorem d_M_sum_91 : decode prog_9_method_16_code 91 = .ok (.aload_n 0, 1) := by decide +kernel
theorem d_M_sum_92 : decode prog_9_method_16_code 92 = .ok (.getfield 45, 3) := by decide +kernel
theorem d_M_sum_95 : decode prog_9_method_16_code 95 = .ok (.invokestatic 131, 3) := by decide +kernel
theorem d_M_sum_98 : decode prog_9_method_16_code 98 = .ok (.ifCond .lt 36, 3) := by decide +kernel
theorem d_M_sum_101 : decode prog_9_method_16_code 101 = .ok (.aload_n 0, 1) := by decide +kernel
theorem d_M_sum_102 : decode prog_9_method_16_code 102 = .ok (.getfield 42, 3) := by decide +kernel
theorem d_M_sum_105 : decode prog_9_method_16_code 105 = .ok (.aload_n 0, 1) := by decide +kernel
theorem d_M_sum_106 : decode prog_9_method_16_code 106 = .ok (.getfield 45, 3) := by decide +kernel
theorem d_M_sum_109 : decode prog_9_method_16_code 109 = .ok (.iconst (-1), 1) := by decide +kernel
theorem d_M_sum_110 : decode prog_9_method_16_code 110 = .ok (.invokestatic 119, 3) := by decide +kernel
theorem d_M_sum_113 : decode prog_9_method_16_code 113 = .ok (.aload_n 0, 1) := by decide +kernel
theorem d_M_sum_114 : decode prog_9_method_16_code 114 = .ok (.aload_n 0, 1) := by decide +kernel
theorem d_M_sum_115 : decode prog_9_method_16_code 115 = .ok (.getfield 42, 3) := by decide +kernel
theorem d_M_sum_118 : decode prog_9_method_16_code 118 = .ok (.aload_n 0, 1) := by decide +kernel
theorem d_M_sum_119 : decode prog_9_method_16_code 119 = .ok (.getfield 16, 3) := by decide +kernel
theorem d_M_sum_122 : decode prog_9_method_16_code 122 = .ok (.iload_n 1, 1) := by decide +kernel
theorem d_M_sum_123 : decode prog_9_method_16_code 123 = .ok (.iaload, 1) := by decide +kernel
theorem d_M_sum_124 : decode prog_9_method_16_code 124 = .ok (.aload_n 0, 1) := by decide +kernel
theorem d_M_sum_125 : decode prog_9_method_16_code 125 = .ok (.iload_n 1, 1) := by decide +kernel
theorem d_M_sum_126 : decode prog_9_method_16_code 126 = .ok (.iload_n 2, 1) := by decide +kernel
theorem d_M_sum_127 : decode prog_9_method_16_code 127 = .ok (.invokevirtual 123, 3) := by decide +kernel
theorem d_M_sum_130 : decode prog_9_method_16_code 130 = .ok (.invokevirtual 127, 3) := by decide +kernel
theorem d_M_sum_133 : decode prog_9_method_16_code 133 = .ok (.ireturn, 1) := by decide +kernel
theorem d_M_sum_134 : decode prog_9_method_16_code 134 = .ok (.aload_n 0, 1) := by decide +kernel
theorem d_M_sum_135 : decode prog_9_method_16_code 135 = .ok (.getfield 45, 3) := by decide +kernel
theorem d_M_sum_138 : decode prog_9_method_16_code 138 = .ok (.aload_n 0, 1) := by decide +kernel
theorem d_M_sum_139 : decode prog_9_method_16_code 139 = .ok (.getfield 42, 3) := by decide +kernel
theorem d_M_sum_142 : decode prog_9_method_16_code 142 = .ok (.iconst (-1), 1) := by decide +kernel
theorem d_M_sum_143 : decode prog_9_method_16_code 143 = .ok (.invokestatic 119, 3) := by decide +kernel
theorem d_M_sum_146 : decode prog_9_method_16_code 146 = .ok (.aload_n 0, 1) := by decide +kernel
theorem d_M_sum_147 : decode prog_9_method_16_code 147 = .ok (.aload_n 0, 1) := by decide +kernel
theorem d_M_sum_148 : decode prog_9_method_16_code 148 = .ok (.getfield 45, 3) := by decide +kernel
theorem d_M_sum_151 : decode prog_9_method_16_code 151 = .ok (.iload 4, 2) := by decide +kernel
theorem d_M_sum_153 : decode prog_9_method_16_code 153 = .ok (.aload_n 0, 1) := by decide +kernel
theorem d_M_sum_154 : decode prog_9_method_16_code 154 = .ok (.iload_n 1, 1) := by decide +kernel
theorem d_M_sum_155 : decode prog_9_method_16_code 155 = .ok (.iload_n 2, 1) := by decide +kernel
theorem d_M_sum_156 : decode prog_9_method_16_code 156 = .ok (.invokevirtual 123, 3) := by decide +kernel
theorem d_M_sum_159 : decode prog_9_method_16_code 159 = .ok (.invokevirtual 127, 3) := by decide +kernel
theorem d_M_sum_162 : decode prog_9_method_16_code 162 = .ok (.ireturn, 1) := by decide +kernel
def m_M_sum_77 (G : Nat → Nat) (a0 : Nat) (a1 : Int32) (a2 : Int32) (s0 : Int32) (s1 : Nat) (s2 : Nat) (h : hp_H) : Option (Int32 × hp_H) := (hp_vck h a0 8 (m_M_areWholes G a0 a1 a2 h)).bind fun q1 => (hp_vck q1.2 s2 8 (m_M_number G s2 s1 s0 q1.1 q1.2)).bind fun q2 => some (q2.1, q2.2)
set_option maxRecDepth 100000 in
set_option maxHeartbeats 4000000 in
theorem j_M_sum_77 {Z : hp_Z} (a0 : Nat) (a1 : Int32) (a2 : Int32) (s0 : Int32) (s1 : Nat) (s2 : Nat) (h : hp_H) : hp_J Y_M_sum Z hp_rI h 77 [(0, .ref a0), (1, .int a1), (2, .int a2)] [.int s0, .ref s1, .ref s2] (m_M_sum_77 (hp_G Z)  a0 a1 a2 s0 s1 s2 h) := by
  unfold m_M_sum_77
  refine hp_aload_n (x0 := 0) d_M_sum_77 rfl rfl ?_
  refine hp_iload_n (x0 := 1) d_M_sum_78 rfl rfl ?_
  refine hp_iload_n (x0 := 2) d_M_sum_79 rfl rfl ?_
  refine hp_callI (hp_crV (ci := 8) (t_M_areWholes _ _ _ _ _) cw_M_123 rfl ⟨w_1186, ws_73⟩ (by decide) rfl rfl (Nat.le_of_ble_eq_true rfl) d_M_sum_80) fun q1 => ?_
  refine hp_callI (hp_crV (ci := 8) (t_M_number _ _ _ _ _ _) cw_M_127 rfl ⟨w_981, ws_39⟩ (by decide) rfl rfl (Nat.le_of_ble_eq_true rfl) d_M_sum_83) fun q2 => ?_
  exact hp_iret d_M_sum_86 rfl
def m_M_sum (G : Nat → Nat) (a0 : Nat) (a1 : Int32) (a2 : Int32) (a3 : Int32) (h : hp_H) : Option (Int32 × hp_H) := (hp_gR h a0 8 17).bind fun x1 => (hp_vck h a0 8 (m_M_lay G a0 a1 x1 h)).bind fun q2 => (hp_gR q2.2 a0 8 18).bind fun x3 => (hp_vck q2.2 a0 8 (m_M_lay G a0 a2 x3 q2.2)).bind fun q4 => (hp_gR q4.2 a0 8 3).bind fun x5 => (hp_aI q4.2 .int x5 a2).bind fun x6 => hp_nm (x6 * a3) fun x7 => (hp_gR q4.2 a0 8 3).bind fun x8 => (hp_aI q4.2 .int x8 a1).bind fun x9 => if (x9 * x7) < 0 then ((hp_gR q4.2 a0 8 17).bind fun x10 => (hp_gR q4.2 a0 8 18).bind fun x11 => (m_M_compare G x10 x11 q4.2).bind fun q12 => if q12.1 < 0 then ((hp_gR q12.2 a0 8 18).bind fun x13 => (hp_gR q12.2 a0 8 17).bind fun x14 => (m_M_join G x13 x14 (-1 : Int32) q12.2).bind fun q15 => (hp_gR q15.2 a0 8 18).bind fun x16 => (hp_vck q15.2 a0 8 (m_M_areWholes G a0 a1 a2 q15.2)).bind fun q17 => (hp_vck q17.2 a0 8 (m_M_number G a0 x16 x7 q17.1 q17.2)).bind fun q18 => some (q18.1, q18.2)) else ((hp_gR q12.2 a0 8 17).bind fun x19 => (hp_gR q12.2 a0 8 18).bind fun x20 => (m_M_join G x19 x20 (-1 : Int32) q12.2).bind fun q21 => (hp_gR q21.2 a0 8 17).bind fun x22 => (hp_gR q21.2 a0 8 3).bind fun x23 => (hp_aI q21.2 .int x23 a1).bind fun x24 => (hp_vck q21.2 a0 8 (m_M_areWholes G a0 a1 a2 q21.2)).bind fun q25 => (hp_vck q25.2 a0 8 (m_M_number G a0 x22 x24 q25.1 q25.2)).bind fun q26 => some (q26.1, q26.2))) else ((hp_gR q4.2 a0 8 17).bind fun x27 => (hp_gR q4.2 a0 8 18).bind fun x28 => (m_M_join G x27 x28 (1 : Int32) q4.2).bind fun q29 => (hp_gR q29.2 a0 8 17).bind fun x30 => (hp_gR q29.2 a0 8 3).bind fun x31 => (hp_aI q29.2 .int x31 a1).bind fun x32 => if x32 = 0 then (m_M_sum_77 G a0 a1 a2 x7 x30 a0 q29.2) else ((hp_gR q29.2 a0 8 3).bind fun x33 => (hp_aI q29.2 .int x33 a1).bind fun x34 => m_M_sum_77 G a0 a1 a2 x34 x30 a0 q29.2))
set_option maxRecDepth 100000 in
set_option maxHeartbeats 4000000 in
theorem j_M_sum_0 {Z : hp_Z} (a0 : Nat) (a1 : Int32) (a2 : Int32) (a3 : Int32) (h : hp_H) : hp_J Y_M_sum Z hp_rI h 0 [(0, .ref a0), (1, .int a1), (2, .int a2), (3, .int a3)] [] (m_M_sum (hp_G Z)  a0 a1 a2 a3 h) := by
  unfold m_M_sum
  refine hp_aload_n (x0 := 0) d_M_sum_0 rfl rfl ?_
  refine hp_iload_n (x0 := 1) d_M_sum_1 rfl rfl ?_
  refine hp_aload_n (x0 := 0) d_M_sum_2 rfl rfl ?_
  refine hp_getR fl_M_42 d_M_sum_3 fun x1 => ?_
  refine hp_callU (hp_crV (ci := 8) (t_M_lay _ _ _ _ _) cw_M_115 rfl ⟨w_1060, ws_49⟩ (by decide) rfl rfl (Nat.le_of_ble_eq_true rfl) d_M_sum_6) fun q2 => ?_
  refine hp_aload_n (x0 := 0) d_M_sum_9 rfl rfl ?_
  refine hp_iload_n (x0 := 2) d_M_sum_10 rfl rfl ?_
  refine hp_aload_n (x0 := 0) d_M_sum_11 rfl rfl ?_
  refine hp_getR fl_M_45 d_M_sum_12 fun x3 => ?_
  refine hp_callU (hp_crV (ci := 8) (t_M_lay _ _ _ _ _) cw_M_115 rfl ⟨w_1060, ws_49⟩ (by decide) rfl rfl (Nat.le_of_ble_eq_true rfl) d_M_sum_15) fun q4 => ?_
  refine hp_aload_n (x0 := 0) d_M_sum_18 rfl rfl ?_
  refine hp_getR fl_M_16 d_M_sum_19 fun x5 => ?_
  refine hp_iload_n (x0 := 2) d_M_sum_22 rfl rfl ?_
  refine hp_iald d_M_sum_23 fun x6 => ?_
  refine hp_iload_n (x0 := 3) d_M_sum_24 rfl rfl ?_
  refine hp_imul d_M_sum_25 ?_
  refine hp_istore (fun x7 => [(4, .int x7), (0, .ref a0), (1, .int a1), (2, .int a2), (3, .int a3)]) d_M_sum_26 (by decide) (fun _ => rfl) fun x7 => ?_
  refine hp_aload_n (x0 := 1) d_M_sum_28 rfl rfl ?_
  refine hp_getR fl_M_16 d_M_sum_29 fun x8 => ?_
  refine hp_iload_n (x0 := 2) d_M_sum_32 rfl rfl ?_
  refine hp_iald d_M_sum_33 fun x9 => ?_
  refine hp_iload (x0 := 0) d_M_sum_34 rfl ?_
  refine hp_imul d_M_sum_36 ?_
  refine hp_if_lt (tgt := 87) d_M_sum_37 (by decide) ?_ ?_
  · refine hp_aload_n (x0 := 1) d_M_sum_87 rfl rfl ?_
    refine hp_getR fl_M_42 d_M_sum_88 fun x10 => ?_
    refine hp_aload_n (x0 := 1) d_M_sum_91 rfl rfl ?_
    refine hp_getR fl_M_45 d_M_sum_92 fun x11 => ?_
    refine hp_callI (hp_crS (t_M_compare _ _ _ _) cw_M_131 w_1063 (by decide) rfl rfl (Nat.le_of_ble_eq_true rfl) d_M_sum_95) fun q12 => ?_
    refine hp_if_lt (tgt := 134) d_M_sum_98 (by decide) ?_ ?_
    · refine hp_aload_n (x0 := 1) d_M_sum_134 rfl rfl ?_
      refine hp_getR fl_M_45 d_M_sum_135 fun x13 => ?_
      refine hp_aload_n (x0 := 1) d_M_sum_138 rfl rfl ?_
      refine hp_getR fl_M_42 d_M_sum_139 fun x14 => ?_
      refine hp_iconst (v := -1) d_M_sum_142 (by decide) ?_
      refine hp_callU (hp_crS (t_M_join _ _ _ _ _) cw_M_119 w_1182 (by decide) rfl rfl (Nat.le_of_ble_eq_true rfl) d_M_sum_143) fun q15 => ?_
      refine hp_aload_n (x0 := 1) d_M_sum_146 rfl rfl ?_
      refine hp_aload_n (x0 := 1) d_M_sum_147 rfl rfl ?_
      refine hp_getR fl_M_45 d_M_sum_148 fun x16 => ?_
      refine hp_iload (x0 := 0) d_M_sum_151 rfl ?_
      refine hp_aload_n (x0 := 1) d_M_sum_153 rfl rfl ?_
      refine hp_iload_n (x0 := 2) d_M_sum_154 rfl rfl ?_
      refine hp_iload_n (x0 := 3) d_M_sum_155 rfl rfl ?_
      refine hp_callI (hp_crV (ci := 8) (t_M_areWholes _ _ _ _ _) cw_M_123 rfl ⟨w_1186, ws_73⟩ (by decide) rfl rfl (Nat.le_of_ble_eq_true rfl) d_M_sum_156) fun q17 => ?_
      refine hp_callI (hp_crV (ci := 8) (t_M_number _ _ _ _ _ _) cw_M_127 rfl ⟨w_981, ws_39⟩ (by decide) rfl rfl (Nat.le_of_ble_eq_true rfl) d_M_sum_159) fun q18 => ?_
      exact hp_iret d_M_sum_162 rfl
    · refine hp_aload_n (x0 := 1) d_M_sum_101 rfl rfl ?_
      refine hp_getR fl_M_42 d_M_sum_102 fun x19 => ?_
      refine hp_aload_n (x0 := 1) d_M_sum_105 rfl rfl ?_
      refine hp_getR fl_M_45 d_M_sum_106 fun x20 => ?_
      refine hp_iconst (v := -1) d_M_sum_109 (by decide) ?_
      refine hp_callU (hp_crS (t_M_join _ _ _ _ _) cw_M_119 w_1182 (by decide) rfl rfl (Nat.le_of_ble_eq_true rfl) d_M_sum_110) fun q21 => ?_
      refine hp_aload_n (x0 := 1) d_M_sum_113 rfl rfl ?_
      refine hp_aload_n (x0 := 1) d_M_sum_114 rfl rfl ?_
      refine hp_getR fl_M_42 d_M_sum_115 fun x22 => ?_
      refine hp_aload_n (x0 := 1) d_M_sum_118 rfl rfl ?_
      refine hp_getR fl_M_16 d_M_sum_119 fun x23 => ?_
      refine hp_iload_n (x0 := 2) d_M_sum_122 rfl rfl ?_
      refine hp_iald d_M_sum_123 fun x24 => ?_
      refine hp_aload_n (x0 := 1) d_M_sum_124 rfl rfl ?_
      refine hp_iload_n (x0 := 2) d_M_sum_125 rfl rfl ?_
      refine hp_iload_n (x0 := 3) d_M_sum_126 rfl rfl ?_
      refine hp_callI (hp_crV (ci := 8) (t_M_areWholes _ _ _ _ _) cw_M_123 rfl ⟨w_1186, ws_73⟩ (by decide) rfl rfl (Nat.le_of_ble_eq_true rfl) d_M_sum_127) fun q25 => ?_
      refine hp_callI (hp_crV (ci := 8) (t_M_number _ _ _ _ _ _) cw_M_127 rfl ⟨w_981, ws_39⟩ (by decide) rfl rfl (Nat.le_of_ble_eq_true rfl) d_M_sum_130) fun q26 => ?_
      exact hp_iret d_M_sum_133 rfl
  · refine hp_aload_n (x0 := 1) d_M_sum_40 rfl rfl ?_
    refine hp_getR fl_M_42 d_M_sum_41 fun x27 => ?_
    refine hp_aload_n (x0 := 1) d_M_sum_44 rfl rfl ?_
    refine hp_getR fl_M_45 d_M_sum_45 fun x28 => ?_
    refine hp_iconst (v := 1) d_M_sum_48 (by decide) ?_
    refine hp_callU (hp_crS (t_M_join _ _ _ _ _) cw_M_119 w_1182 (by decide) rfl rfl (Nat.le_of_ble_eq_true rfl) d_M_sum_49) fun q29 => ?_
    refine hp_aload_n (x0 := 1) d_M_sum_52 rfl rfl ?_
    refine hp_aload_n (x0 := 1) d_M_sum_53 rfl rfl ?_
    refine hp_getR fl_M_42 d_M_sum_54 fun x30 => ?_
    refine hp_aload_n (x0 := 1) d_M_sum_57 rfl rfl ?_
    refine hp_getR fl_M_16 d_M_sum_58 fun x31 => ?_
    refine hp_iload_n (x0 := 2) d_M_sum_61 rfl rfl ?_
    refine hp_iald d_M_sum_62 fun x32 => ?_
    refine hp_if_ne (tgt := 71) d_M_sum_63 (by decide) ?_ ?_
    · refine hp_iload (x0 := 0) d_M_sum_66 rfl ?_
      refine hp_goto (tgt := 77) d_M_sum_68 (by decide) ?_
      refine hp_sub [1, 2, 3] rfl ?_
      exact j_M_sum_77  _ _ _ _ _ _ _
    · refine hp_aload_n (x0 := 1) d_M_sum_71 rfl rfl ?_
      refine hp_getR fl_M_16 d_M_sum_72 fun x33 => ?_
      refine hp_iload_n (x0 := 2) d_M_sum_75 rfl rfl ?_
      refine hp_iald d_M_sum_76 fun x34 => ?_
      refine hp_sub [1, 2, 3] rfl ?_
      exact j_M_sum_77  _ _ _ _ _ _ _
theorem t_M_sum (l : Launch) (E : hp_E) (a0 : Nat) (a1 : Int32) (a2 : Int32) (a3 : Int32) : hp_M l E y_M_sum Y_M_sum hp_rI [.ref a0, .int a1, .int a2, .int a3] (m_M_sum E.2.2.1 a0 a1 a2 a3) := hp_M.of (plainFor_of_name (by decide)) ⟨rfl, rfl⟩ (Nat.le_of_ble_eq_true rfl) (fun Z h hE => by subst hE; exact j_M_sum_0 _ _ _ _ h)
