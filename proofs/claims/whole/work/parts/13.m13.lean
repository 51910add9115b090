-- R_putPart
theorem d_R_putPart_0 : decode prog_5_method_4_code 0 = .ok (.iload_n 2, 1) := by decide +kernel
theorem d_R_putPart_1 : decode prog_5_method_4_code 1 = .ok (.iconst 0, 1) := by decide +kernel
theorem d_R_putPart_2 : decode prog_5_method_4_code 2 = .ok (.invokestatic 23, 3) := by decide +kernel
theorem d_R_putPart_5 : decode prog_5_method_4_code 5 = .ok (.istore 4, 2) := by decide +kernel
theorem d_R_putPart_7 : decode prog_5_method_4_code 7 = .ok (.iload 4, 2) := by decide +kernel
theorem d_R_putPart_9 : decode prog_5_method_4_code 9 = .ok (.iload_n 3, 1) := by decide +kernel
theorem d_R_putPart_10 : decode prog_5_method_4_code 10 = .ok (.if_icmp .ge 24, 3) := by decide +kernel
theorem d_R_putPart_13 : decode prog_5_method_4_code 13 = .ok (.iload 4, 2) := by decide +kernel
theorem d_R_putPart_15 : decode prog_5_method_4_code 15 = .ok (.aload_n 1, 1) := by decide +kernel
theorem d_R_putPart_16 : decode prog_5_method_4_code 16 = .ok (.arraylength, 1) := by decide +kernel
theorem d_R_putPart_17 : decode prog_5_method_4_code 17 = .ok (.if_icmp .ge 17, 3) := by decide +kernel
theorem d_R_putPart_20 : decode prog_5_method_4_code 20 = .ok (.aload_n 0, 1) := by decide +kernel
theorem d_R_putPart_21 : decode prog_5_method_4_code 21 = .ok (.aload_n 1, 1) := by decide +kernel
theorem d_R_putPart_22 : decode prog_5_method_4_code 22 = .ok (.iload 4, 2) := by decide +kernel
theorem d_R_putPart_24 : decode prog_5_method_4_code 24 = .ok (.baload, 1) := by decide +kernel
theorem d_R_putPart_25 : decode prog_5_method_4_code 25 = .ok (.invokevirtual 29, 3) := by decide +kernel
theorem d_R_putPart_28 : decode prog_5_method_4_code 28 = .ok (.iinc 4 1, 3) := by decide +kernel
theorem d_R_putPart_31 : decode prog_5_method_4_code 31 = .ok (.goto (-24), 3) := by decide +kernel
theorem d_R_putPart_34 : decode prog_5_method_4_code 34 = .ok (.return_, 1) := by decide +kernel
def m_R_putPart_34 (G : Nat → Nat) (h : hp_H) : Option (Unit × hp_H) := some ((), h)
set_option maxRecDepth 100000 in
set_option maxHeartbeats 4000000 in
theorem j_R_putPart_34 {Z : hp_Z} (h : hp_H) : hp_J Y_R_putPart Z hp_rV h 34 [] [] (m_R_putPart_34 (hp_G Z)   h) := by
  unfold m_R_putPart_34
  exact hp_vret d_R_putPart_34 rfl
def m_R_putPart_7 (G : Nat → Nat) : Nat → Nat → Nat → Int32 → Int32 → hp_H → Option (Unit × hp_H)
  | 0, _, _, _, _, _ => none
  | n + 1, a0, a1, a3, a4, h => if a3 ≤ a4 then (m_R_putPart_34 G h) else ((hp_len h a1).bind fun x1 => if x1 ≤ a4 then (m_R_putPart_34 G h) else ((hp_aI h .byte a1 a4).bind fun x2 => (hp_vck h a0 4 (m_R_put G a0 x2 h)).bind fun q3 => hp_nm (a4 + 1) fun x4 => (m_R_putPart_7 G  n) a0 a1 a3 x4 q3.2))
set_option maxRecDepth 100000 in
set_option maxHeartbeats 4000000 in
theorem j_R_putPart_7 {Z : hp_Z} : ∀ (n : Nat) (a0 : Nat) (a1 : Nat) (a3 : Int32) (a4 : Int32) (h : hp_H), hp_J Y_R_putPart Z hp_rV h 7 [(0, .ref a0), (1, .ref a1), (3, .int a3), (4, .int a4)] [] (m_R_putPart_7 (hp_G Z)  n a0 a1 a3 a4 h) := by
  intro n
  induction n with
  | zero => intro a0 a1 a3 a4 h; exact hp_fail
  | succ n ih =>
    intro a0 a1 a3 a4 h
    rw [m_R_putPart_7]
    refine hp_iload (x0 := 3) d_R_putPart_7 rfl ?_
    refine hp_iload_n (x0 := 2) d_R_putPart_9 rfl rfl ?_
    refine hp_icmp_ge (tgt := 34) d_R_putPart_10 (by decide) ?_ ?_
    · refine hp_sub [] rfl ?_
      exact j_R_putPart_34   _
    · refine hp_iload (x0 := 3) d_R_putPart_13 rfl ?_
      refine hp_aload_n (x0 := 1) d_R_putPart_15 rfl rfl ?_
      refine hp_alen d_R_putPart_16 fun x1 => ?_
      refine hp_icmp_ge (tgt := 34) d_R_putPart_17 (by decide) ?_ ?_
      · refine hp_sub [] rfl ?_
        exact j_R_putPart_34   _
      · refine hp_aload_n (x0 := 0) d_R_putPart_20 rfl rfl ?_
        refine hp_aload_n (x0 := 1) d_R_putPart_21 rfl rfl ?_
        refine hp_iload (x0 := 3) d_R_putPart_22 rfl ?_
        refine hp_bald d_R_putPart_24 fun x2 => ?_
        refine hp_callU (hp_crV (ci := 4) (t_R_put _ _ _ _) cw_R_29 rfl ⟨w_269, w_270⟩ (by decide) rfl rfl (Nat.le_of_ble_eq_true rfl) d_R_putPart_25) fun q3 => ?_
        refine hp_iinc (x0 := 3) (d := 1) (fun x4 => [(4, .int x4), (0, .ref a0), (1, .ref a1), (3, .int a3)]) d_R_putPart_28 rfl (by decide) (by decide) (fun _ => rfl) fun x4 => ?_
        refine hp_goto (tgt := 7) d_R_putPart_31 (by decide) ?_
        refine hp_sub [1, 2, 3, 0] rfl ?_
        exact ih _ _ _ _ _
def m_R_putPart (G : Nat → Nat) (a0 : Nat) (a1 : Nat) (a2 : Int32) (a3 : Int32) (h : hp_H) : Option (Unit × hp_H) := (m_MA_max G a2 (0 : Int32) h).bind fun q1 => hp_nm q1.1 fun x2 => m_R_putPart_7 G hp_fu a0 a1 a3 x2 q1.2
set_option maxRecDepth 100000 in
set_option maxHeartbeats 4000000 in
theorem j_R_putPart_0 {Z : hp_Z} (a0 : Nat) (a1 : Nat) (a2 : Int32) (a3 : Int32) (h : hp_H) : hp_J Y_R_putPart Z hp_rV h 0 [(0, .ref a0), (1, .ref a1), (2, .int a2), (3, .int a3)] [] (m_R_putPart (hp_G Z)  a0 a1 a2 a3 h) := by
  unfold m_R_putPart
  refine hp_iload_n (x0 := 2) d_R_putPart_0 rfl rfl ?_
  refine hp_iconst (v := 0) d_R_putPart_1 (by decide) ?_
  refine hp_callI (hp_crS (t_MA_max _ _ _ _) cw_R_23 w_351 (by decide) rfl rfl (Nat.le_of_ble_eq_true rfl) d_R_putPart_2) fun q1 => ?_
  refine hp_istore (fun x2 => [(4, .int x2), (0, .ref a0), (1, .ref a1), (2, .int a2), (3, .int a3)]) d_R_putPart_5 (by decide) (fun _ => rfl) fun x2 => ?_
  refine hp_sub [1, 2, 4, 0] rfl ?_
  exact j_R_putPart_7  hp_fu _ _ _ _ _
theorem t_R_putPart (l : Launch) (E : hp_E) (a0 : Nat) (a1 : Nat) (a2 : Int32) (a3 : Int32) : hp_M l E y_R_putPart Y_R_putPart hp_rV [.ref a0, .ref a1, .int a2, .int a3] (m_R_putPart E.2.2.1 a0 a1 a2 a3) := hp_M.of (plainFor_of_name (by decide)) ⟨rfl, rfl⟩ (Nat.le_of_ble_eq_true rfl) (fun Z h hE => by subst hE; exact j_R_putPart_0 _ _ _ _ h)
-- V_isPlainOrTagged
theorem d_V_isPlainOrTagged_0 : decode prog_7_method_3_code 0 = .ok (.aload_n 0, 1) := by decide +kernel
theorem d_V_isPlainOrTagged_1 : decode prog_7_method_3_code 1 = .ok (.getfield 9, 3) := by decide +kernel
theorem d_V_isPlainOrTagged_4 : decode prog_7_method_3_code 4 = .ok (.iconst 5, 1) := by decide +kernel
theorem d_V_isPlainOrTagged_5 : decode prog_7_method_3_code 5 = .ok (.if_icmp .eq 12, 3) := by decide +kernel
theorem d_V_isPlainOrTagged_8 : decode prog_7_method_3_code 8 = .ok (.aload_n 0, 1) := by decide +kernel
theorem d_V_isPlainOrTagged_9 : decode prog_7_method_3_code 9 = .ok (.getfield 9, 3) := by decide +kernel
theorem d_V_isPlainOrTagged_12 : decode prog_7_method_3_code 12 = .ok (.bipush 6, 2) := by decide +kernel
theorem d_V_isPlainOrTagged_14 : decode prog_7_method_3_code 14 = .ok (.if_icmp .ne 7, 3) := by decide +kernel
theorem d_V_isPlainOrTagged_17 : decode prog_7_method_3_code 17 = .ok (.iconst 1, 1) := by decide +kernel
theorem d_V_isPlainOrTagged_18 : decode prog_7_method_3_code 18 = .ok (.goto 4, 3) := by decide +kernel
theorem d_V_isPlainOrTagged_21 : decode prog_7_method_3_code 21 = .ok (.iconst 0, 1) := by decide +kernel
theorem d_V_isPlainOrTagged_22 : decode prog_7_method_3_code 22 = .ok (.ireturn, 1) := by decide +kernel
def m_V_isPlainOrTagged_22 (G : Nat → Nat) (s0 : Int32) (h : hp_H) : Option (Int32 × hp_H) := hp_z s0 h
set_option maxRecDepth 100000 in
set_option maxHeartbeats 4000000 in
theorem j_V_isPlainOrTagged_22 {Z : hp_Z} (s0 : Int32) (h : hp_H) : hp_J Y_V_isPlainOrTagged Z hp_rI h 22 [] [.int s0] (m_V_isPlainOrTagged_22 (hp_G Z)  s0 h) := by
  unfold m_V_isPlainOrTagged_22
  exact hp_zret d_V_isPlainOrTagged_22 rfl
def m_V_isPlainOrTagged_17 (G : Nat → Nat) (h : hp_H) : Option (Int32 × hp_H) := m_V_isPlainOrTagged_22 G (1 : Int32) h
set_option maxRecDepth 100000 in
set_option maxHeartbeats 4000000 in
theorem j_V_isPlainOrTagged_17 {Z : hp_Z} (h : hp_H) : hp_J Y_V_isPlainOrTagged Z hp_rI h 17 [] [] (m_V_isPlainOrTagged_17 (hp_G Z)   h) := by
  unfold m_V_isPlainOrTagged_17
  refine hp_iconst (v := 1) d_V_isPlainOrTagged_17 (by decide) ?_
  refine hp_goto (tgt := 22) d_V_isPlainOrTagged_18 (by decide) ?_
  exact j_V_isPlainOrTagged_22  _ _
def m_V_isPlainOrTagged (G : Nat → Nat) (a0 : Nat) (h : hp_H) : Option (Int32 × hp_H) := (hp_gI h a0 3 0).bind fun x1 => if x1 = (5 : Int32) then (m_V_isPlainOrTagged_17 G h) else ((hp_gI h a0 3 0).bind fun x2 => if x2 = (6 : Int32) then (m_V_isPlainOrTagged_17 G h) else (m_V_isPlainOrTagged_22 G (0 : Int32) h))
set_option maxRecDepth 100000 in
set_option maxHeartbeats 4000000 in
theorem j_V_isPlainOrTagged_0 {Z : hp_Z} (a0 : Nat) (h : hp_H) : hp_J Y_V_isPlainOrTagged Z hp_rI h 0 [(0, .ref a0)] [] (m_V_isPlainOrTagged (hp_G Z)  a0 h) := by
  unfold m_V_isPlainOrTagged
  refine hp_aload_n (x0 := 0) d_V_isPlainOrTagged_0 rfl rfl ?_
  refine hp_getI fl_V_9 d_V_isPlainOrTagged_1 fun x1 => ?_
  refine hp_iconst (v := 5) d_V_isPlainOrTagged_4 (by decide) ?_
  refine hp_icmp_eq (tgt := 17) d_V_isPlainOrTagged_5 (by decide) ?_ ?_
  · refine hp_sub [] rfl ?_
    exact j_V_isPlainOrTagged_17   _
  · refine hp_aload_n (x0 := 0) d_V_isPlainOrTagged_8 rfl rfl ?_
    refine hp_getI fl_V_9 d_V_isPlainOrTagged_9 fun x2 => ?_
    refine hp_bipush (v := 6) d_V_isPlainOrTagged_12 (by decide) ?_
    refine hp_icmp_ne (tgt := 21) d_V_isPlainOrTagged_14 (by decide) ?_ ?_
    · refine hp_sub [] rfl ?_
      exact j_V_isPlainOrTagged_17   _
    · refine hp_iconst (v := 0) d_V_isPlainOrTagged_21 (by decide) ?_
      refine hp_sub [] rfl ?_
      exact j_V_isPlainOrTagged_22  _ _
theorem t_V_isPlainOrTagged (l : Launch) (E : hp_E) (a0 : Nat) : hp_M l E y_V_isPlainOrTagged Y_V_isPlainOrTagged hp_rI [.ref a0] (m_V_isPlainOrTagged E.2.2.1 a0) := hp_M.of (plainFor_of_name (by decide)) ⟨rfl, rfl⟩ (Nat.le_of_ble_eq_true rfl) (fun Z h hE => by subst hE; exact j_V_isPlainOrTagged_0 _ h)
-- E_chained
theorem d_E_chained_0 : decode prog_2_method_25_code 0 = .ok (.aload_n 0, 1) := by decide +kernel
theorem d_E_chained_1 : decode prog_2_method_25_code 1 = .ok (.getfield 27, 3) := by decide +kernel
theorem d_E_chained_4 : decode prog_2_method_25_code 4 = .ok (.invokevirtual 205, 3) := by decide +kernel
theorem d_E_chained_7 : decode prog_2_method_25_code 7 = .ok (.aload_n 0, 1) := by decide +kernel
theorem d_E_chained_8 : decode prog_2_method_25_code 8 = .ok (.iconst 0, 1) := by decide +kernel
theorem d_E_chained_9 : decode prog_2_method_25_code 9 = .ok (.invokevirtual 90, 3) := by decide +kernel
theorem d_E_chained_12 : decode prog_2_method_25_code 12 = .ok (.getfield 208, 3) := by decide +kernel
theorem d_E_chained_15 : decode prog_2_method_25_code 15 = .ok (.istore_n 2, 1) := by decide +kernel
theorem d_E_chained_16 : decode prog_2_method_25_code 16 = .ok (.iload_n 1, 1) := by decide +kernel
theorem d_E_chained_17 : decode prog_2_method_25_code 17 = .ok (.ifCond .le 7, 3) := by decide +kernel
theorem d_E_chained_20 : decode prog_2_method_25_code 20 = .ok (.iconst 1, 1) := by decide +kernel
theorem d_E_chained_21 : decode prog_2_method_25_code 21 = .ok (.goto 4, 3) := by decide +kernel
theorem d_E_chained_24 : decode prog_2_method_25_code 24 = .ok (.iconst 0, 1) := by decide +kernel
theorem d_E_chained_25 : decode prog_2_method_25_code 25 = .ok (.istore_n 3, 1) := by decide +kernel
theorem d_E_chained_26 : decode prog_2_method_25_code 26 = .ok (.iconst 0, 1) := by decide +kernel
theorem d_E_chained_27 : decode prog_2_method_25_code 27 = .ok (.istore 4, 2) := by decide +kernel
theorem d_E_chained_29 : decode prog_2_method_25_code 29 = .ok (.iload 4, 2) := by decide +kernel
theorem d_E_chained_31 : decode prog_2_method_25_code 31 = .ok (.iload_n 1, 1) := by decide +kernel
theorem d_E_chained_32 : decode prog_2_method_25_code 32 = .ok (.if_icmp .ge 83, 3) := by decide +kernel
theorem d_E_chained_35 : decode prog_2_method_25_code 35 = .ok (.iload 4, 2) := by decide +kernel
theorem d_E_chained_37 : decode prog_2_method_25_code 37 = .ok (.bipush 20, 2) := by decide +kernel
theorem d_E_chained_39 : decode prog_2_method_25_code 39 = .ok (.if_icmp .ge 76, 3) := by decide +kernel
theorem d_E_chained_42 : decode prog_2_method_25_code 42 = .ok (.aload_n 0, 1) := by decide +kernel
theorem d_E_chained_43 : decode prog_2_method_25_code 43 = .ok (.iload 4, 2) := by decide +kernel
theorem d_E_chained_45 : decode prog_2_method_25_code 45 = .ok (.invokevirtual 90, 3) := by decide +kernel
theorem d_E_chained_48 : decode prog_2_method_25_code 48 = .ok (.astore 5, 2) := by decide +kernel
theorem d_E_chained_50 : decode prog_2_method_25_code 50 = .ok (.aload 5, 2) := by decide +kernel
theorem d_E_chained_52 : decode prog_2_method_25_code 52 = .ok (.invokevirtual 211, 3) := by decide +kernel
theorem d_E_chained_55 : decode prog_2_method_25_code 55 = .ok (.ifCond .ne 6, 3) := by decide +kernel
theorem d_E_chained_58 : decode prog_2_method_25_code 58 = .ok (.bipush (-4), 2) := by decide +kernel
theorem d_E_chained_60 : decode prog_2_method_25_code 60 = .ok (.ireturn, 1) := by decide +kernel
theorem d_E_chained_61 : decode prog_2_method_25_code 61 = .ok (.iload_n 3, 1) := by decide +kernel
theorem d_E_chained_62 : decode prog_2_method_25_code 62 = .ok (.ifCond .eq 26, 3) := by decide +kernel
theorem d_E_chained_65 : decode prog_2_method_25_code 65 = .ok (.aload 5, 2) := by decide +kernel
theorem d_E_chained_67 : decode prog_2_method_25_code 67 = .ok (.getfield 93, 3) := by decide +kernel
theorem d_E_chained_70 : decode prog_2_method_25_code 70 = .ok (.bipush 6, 2) := by decide +kernel
theorem d_E_chained_72 : decode prog_2_method_25_code 72 = .ok (.if_icmp .ne 16, 3) := by decide +kernel
theorem d_E_chained_75 : decode prog_2_method_25_code 75 = .ok (.aload 5, 2) := by decide +kernel
theorem d_E_chained_77 : decode prog_2_method_25_code 77 = .ok (.getfield 208, 3) := by decide +kernel
theorem d_E_chained_80 : decode prog_2_method_25_code 80 = .ok (.iload_n 2, 1) := by decide +kernel
theorem d_E_chained_81 : decode prog_2_method_25_code 81 = .ok (.if_icmp .ne 7, 3) := by decide +kernel
theorem d_E_chained_84 : decode prog_2_method_25_code 84 = .ok (.iconst 1, 1) := by decide +kernel
theorem d_E_chained_85 : decode prog_2_method_25_code 85 = .ok (.goto 4, 3) := by decide +kernel
theorem d_E_chained_88 : decode prog_2_method_25_code 88 = .ok (.iconst 0, 1) := by decide +kernel
theorem d_E_chained_89 : decode prog_2_method_25_code 89 = .ok (.istore_n 3, 1) := by decide +kernel
theorem d_E_chained_90 : decode prog_2_method_25_code 90 = .ok (.aload_n 0, 1) := by decide +kernel
theorem d_E_chained_91 : decode prog_2_method_25_code 91 = .ok (.getfield 27, 3) := by decide +kernel
theorem d_E_chained_94 : decode prog_2_method_25_code 94 = .ok (.aload 5, 2) := by decide +kernel
theorem d_E_chained_96 : decode prog_2_method_25_code 96 = .ok (.getfield 214, 3) := by decide +kernel
theorem d_E_chained_99 : decode prog_2_method_25_code 99 = .ok (.iconst 0, 1) := by decide +kernel
theorem d_E_chained_100 : decode prog_2_method_25_code 100 = .ok (.aload 5, 2) := by decide +kernel
theorem d_E_chained_102 : decode prog_2_method_25_code 102 = .ok (.getfield 214, 3) := by decide +kernel
theorem d_E_chained_105 : decode prog_2_method_25_code 105 = .ok (.arraylength, 1) := by decide +kernel
theorem d_E_chained_106 : decode prog_2_method_25_code 106 = .ok (.invokevirtual 218, 3) := by decide +kernel
theorem d_E_chained_109 : decode prog_2_method_25_code 109 = .ok (.iinc 4 1, 3) := by decide +kernel
theorem d_E_chained_112 : decode prog_2_method_25_code 112 = .ok (.goto (-83), 3) := by decide +kernel
theorem d_E_chained_115 : decode prog_2_method_25_code 115 = .ok (.iload_n 3, 1) := by decide +kernel
theorem d_E_chained_116 : decode prog_2_method_25_code 116 = .ok (.ifCond .eq 20, 3) := by decide +kernel
theorem d_E_chained_119 : decode prog_2_method_25_code 119 = .ok (.aload_n 0, 1) := by decide +kernel
theorem d_E_chained_120 : decode prog_2_method_25_code 120 = .ok (.getfield 38, 3) := by decide +kernel
theorem d_E_chained_123 : decode prog_2_method_25_code 123 = .ok (.bipush 6, 2) := by decide +kernel
theorem d_E_chained_125 : decode prog_2_method_25_code 125 = .ok (.iload_n 2, 1) := by decide +kernel
theorem d_E_chained_126 : decode prog_2_method_25_code 126 = .ok (.aload_n 0, 1) := by decide +kernel
theorem d_E_chained_127 : decode prog_2_method_25_code 127 = .ok (.getfield 27, 3) := by decide +kernel
theorem d_E_chained_130 : decode prog_2_method_25_code 130 = .ok (.invokevirtual 222, 3) := by decide +kernel
theorem d_E_chained_133 : decode prog_2_method_25_code 133 = .ok (.goto 16, 3) := by decide +kernel
theorem d_E_chained_136 : decode prog_2_method_25_code 136 = .ok (.aload_n 0, 1) := by decide +kernel
theorem d_E_chained_137 : decode prog_2_method_25_code 137 = .ok (.getfield 38, 3) := by decide +kernel
theorem d_E_chained_140 : decode prog_2_method_25_code 140 = .ok (.iconst 5, 1) := by decide +kernel
theorem d_E_chained_141 : decode prog_2_method_25_code 141 = .ok (.iconst 0, 1) := by decide +kernel
theorem d_E_chained_142 : decode prog_2_method_25_code 142 = .ok (.aload_n 0, 1) := by decide +kernel
theorem d_E_chained_143 : decode prog_2_method_25_code 143 = .ok (.getfield 27, 3) := by decide +kernel
theorem d_E_chained_146 : decode prog_2_method_25_code 146 = .ok (.invokevirtual 222, 3) := by decide +kernel
theorem d_E_chained_149 : decode prog_2_method_25_code 149 = .ok (.ireturn, 1) := by decide +kernel
def m_E_chained_89 (G : Nat → Nat) (r29 : Nat → Int32 → Int32 → Int32 → Int32 → hp_H → Option (Int32 × hp_H)) (a0 : Nat) (a1 : Int32) (a2 : Int32) (a4 : Int32) (a5 : Nat) (s0 : Int32) (h : hp_H) : Option (Int32 × hp_H) := hp_nm s0 fun x1 => (hp_gR h a0 5 5).bind fun x2 => (hp_gR h a5 3 4).bind fun x3 => (hp_gR h a5 3 4).bind fun x4 => (hp_len h x4).bind fun x5 => (hp_vck h x2 4 (m_R_putPart G x2 x3 (0 : Int32) x5 h)).bind fun q6 => hp_nm (a4 + 1) fun x7 => r29 a0 a1 a2 x1 x7 q6.2
set_option maxRecDepth 100000 in
set_option maxHeartbeats 4000000 in
theorem j_E_chained_89 {Z : hp_Z} (r29 : Nat → Int32 → Int32 → Int32 → Int32 → hp_H → Option (Int32 × hp_H)) (hr29 : ∀ (a0 : Nat) (a1 : Int32) (a2 : Int32) (a3 : Int32) (a4 : Int32) (h : hp_H), hp_J Y_E_chained Z hp_rI h 29 [(0, .ref a0), (1, .int a1), (2, .int a2), (3, .int a3), (4, .int a4)] [] (r29 a0 a1 a2 a3 a4  h)) (a0 : Nat) (a1 : Int32) (a2 : Int32) (a4 : Int32) (a5 : Nat) (s0 : Int32) (h : hp_H) : hp_J Y_E_chained Z hp_rI h 89 [(0, .ref a0), (1, .int a1), (2, .int a2), (4, .int a4), (5, .ref a5)] [.int s0] (m_E_chained_89 (hp_G Z) r29 a0 a1 a2 a4 a5 s0 h) := by
  unfold m_E_chained_89
  refine hp_istore_n (fun x1 => [(3, .int x1), (0, .ref a0), (1, .int a1), (2, .int a2), (4, .int a4), (5, .ref a5)]) d_E_chained_89 rfl (by decide) (fun _ => rfl) fun x1 => ?_
  refine hp_aload_n (x0 := 1) d_E_chained_90 rfl rfl ?_
  refine hp_getR fl_E_27 d_E_chained_91 fun x2 => ?_
  refine hp_aload (x0 := 5) d_E_chained_94 rfl ?_
  refine hp_getR fl_E_214 d_E_chained_96 fun x3 => ?_
  refine hp_iconst (v := 0) d_E_chained_99 (by decide) ?_
  refine hp_aload (x0 := 5) d_E_chained_100 rfl ?_
  refine hp_getR fl_E_214 d_E_chained_102 fun x4 => ?_
  refine hp_alen d_E_chained_105 fun x5 => ?_
  refine hp_callU (hp_crV (ci := 4) (t_R_putPart _ _ _ _ _ _) cw_E_218 rfl ⟨w_655, w_656⟩ (by decide) rfl rfl (Nat.le_of_ble_eq_true rfl) d_E_chained_106) fun q6 => ?_
  refine hp_iinc (x0 := 4) (d := 1) (fun x7 => [(4, .int x7), (3, .int x1), (0, .ref a0), (1, .int a1), (2, .int a2), (5, .ref a5)]) d_E_chained_109 rfl (by decide) (by decide) (fun _ => rfl) fun x7 => ?_
  refine hp_goto (tgt := 29) d_E_chained_112 (by decide) ?_
  refine hp_sub [2, 3, 4, 1, 0] rfl ?_
  exact hr29 _ _ _ _ _ _
def m_E_chained_88 (G : Nat → Nat) (r29 : Nat → Int32 → Int32 → Int32 → Int32 → hp_H → Option (Int32 × hp_H)) (a0 : Nat) (a1 : Int32) (a2 : Int32) (a4 : Int32) (a5 : Nat) (h : hp_H) : Option (Int32 × hp_H) := m_E_chained_89 G r29 a0 a1 a2 a4 a5 (0 : Int32) h
set_option maxRecDepth 100000 in
set_option maxHeartbeats 4000000 in
theorem j_E_chained_88 {Z : hp_Z} (r29 : Nat → Int32 → Int32 → Int32 → Int32 → hp_H → Option (Int32 × hp_H)) (hr29 : ∀ (a0 : Nat) (a1 : Int32) (a2 : Int32) (a3 : Int32) (a4 : Int32) (h : hp_H), hp_J Y_E_chained Z hp_rI h 29 [(0, .ref a0), (1, .int a1), (2, .int a2), (3, .int a3), (4, .int a4)] [] (r29 a0 a1 a2 a3 a4  h)) (a0 : Nat) (a1 : Int32) (a2 : Int32) (a4 : Int32) (a5 : Nat) (h : hp_H) : hp_J Y_E_chained Z hp_rI h 88 [(0, .ref a0), (1, .int a1), (2, .int a2), (4, .int a4), (5, .ref a5)] [] (m_E_chained_88 (hp_G Z) r29 a0 a1 a2 a4 a5 h) := by
  unfold m_E_chained_88
  refine hp_iconst (v := 0) d_E_chained_88 (by decide) ?_
  exact j_E_chained_89 _ hr29 _ _ _ _ _ _ _
def m_E_chained_149 (G : Nat → Nat) (s0 : Int32) (h : hp_H) : Option (Int32 × hp_H) := some (s0, h)
set_option maxRecDepth 100000 in
set_option maxHeartbeats 4000000 in
theorem j_E_chained_149 {Z : hp_Z} (s0 : Int32) (h : hp_H) : hp_J Y_E_chained Z hp_rI h 149 [] [.int s0] (m_E_chained_149 (hp_G Z)  s0 h) := by
  unfold m_E_chained_149
  exact hp_iret d_E_chained_149 rfl
def m_E_chained_115 (G : Nat → Nat) (a0 : Nat) (a2 : Int32) (a3 : Int32) (h : hp_H) : Option (Int32 × hp_H) := if a3 = 0 then ((hp_gR h a0 5 0).bind fun x1 => (hp_gR h a0 5 5).bind fun x2 => (hp_vck h x1 1 (m_S_keepRow G x1 (5 : Int32) (0 : Int32) x2 h)).bind fun q3 => m_E_chained_149 G q3.1 q3.2) else ((hp_gR h a0 5 0).bind fun x4 => (hp_gR h a0 5 5).bind fun x5 => (hp_vck h x4 1 (m_S_keepRow G x4 (6 : Int32) a2 x5 h)).bind fun q6 => m_E_chained_149 G q6.1 q6.2)
set_option maxRecDepth 100000 in
set_option maxHeartbeats 4000000 in
theorem j_E_chained_115 {Z : hp_Z} (a0 : Nat) (a2 : Int32) (a3 : Int32) (h : hp_H) : hp_J Y_E_chained Z hp_rI h 115 [(0, .ref a0), (2, .int a2), (3, .int a3)] [] (m_E_chained_115 (hp_G Z)  a0 a2 a3 h) := by
  unfold m_E_chained_115
  refine hp_iload_n (x0 := 2) d_E_chained_115 rfl rfl ?_
  refine hp_if_eq (tgt := 136) d_E_chained_116 (by decide) ?_ ?_
  · refine hp_aload_n (x0 := 0) d_E_chained_136 rfl rfl ?_
    refine hp_getR fl_E_38 d_E_chained_137 fun x1 => ?_
    refine hp_iconst (v := 5) d_E_chained_140 (by decide) ?_
    refine hp_iconst (v := 0) d_E_chained_141 (by decide) ?_
    refine hp_aload_n (x0 := 0) d_E_chained_142 rfl rfl ?_
    refine hp_getR fl_E_27 d_E_chained_143 fun x2 => ?_
    refine hp_callI (hp_crV (ci := 1) (t_S_keepRow _ _ _ _ _ _) cw_E_222 rfl ⟨w_414, w_415⟩ (by decide) rfl rfl (Nat.le_of_ble_eq_true rfl) d_E_chained_146) fun q3 => ?_
    refine hp_sub [] rfl ?_
    exact j_E_chained_149  _ _
  · refine hp_aload_n (x0 := 0) d_E_chained_119 rfl rfl ?_
    refine hp_getR fl_E_38 d_E_chained_120 fun x4 => ?_
    refine hp_bipush (v := 6) d_E_chained_123 (by decide) ?_
    refine hp_iload_n (x0 := 1) d_E_chained_125 rfl rfl ?_
    refine hp_aload_n (x0 := 0) d_E_chained_126 rfl rfl ?_
    refine hp_getR fl_E_27 d_E_chained_127 fun x5 => ?_
    refine hp_callI (hp_crV (ci := 1) (t_S_keepRow _ _ _ _ _ _) cw_E_222 rfl ⟨w_414, w_415⟩ (by decide) rfl rfl (Nat.le_of_ble_eq_true rfl) d_E_chained_130) fun q6 => ?_
    refine hp_goto (tgt := 149) d_E_chained_133 (by decide) ?_
    refine hp_sub [] rfl ?_
    exact j_E_chained_149  _ _
def m_E_chained_29 (G : Nat → Nat) : Nat → Nat → Int32 → Int32 → Int32 → Int32 → hp_H → Option (Int32 × hp_H)
  | 0, _, _, _, _, _, _ => none
  | n + 1, a0, a1, a2, a3, a4, h => if a1 ≤ a4 then (m_E_chained_115 G a0 a2 a3 h) else (if (20 : Int32) ≤ a4 then (m_E_chained_115 G a0 a2 a3 h) else ((hp_vck h a0 5 (m_E_taken G a0 a4 h)).bind fun q1 => hp_nm q1.1 fun x2 => (hp_vck q1.2 x2 3 (m_V_isPlainOrTagged G x2 q1.2)).bind fun q3 => if q3.1 = 0 then (some ((-4 : Int32), q3.2)) else (if a3 = 0 then (m_E_chained_88 G (m_E_chained_29 G  n) a0 a1 a2 a4 x2 q3.2) else ((hp_gI q3.2 x2 3 0).bind fun x4 => if x4 = (6 : Int32) then ((hp_gI q3.2 x2 3 1).bind fun x5 => if x5 = a2 then (m_E_chained_89 G (m_E_chained_29 G  n) a0 a1 a2 a4 x2 (1 : Int32) q3.2) else (m_E_chained_88 G (m_E_chained_29 G  n) a0 a1 a2 a4 x2 q3.2)) else (m_E_chained_88 G (m_E_chained_29 G  n) a0 a1 a2 a4 x2 q3.2)))))
set_option maxRecDepth 100000 in
set_option maxHeartbeats 4000000 in
theorem j_E_chained_29 {Z : hp_Z} : ∀ (n : Nat) (a0 : Nat) (a1 : Int32) (a2 : Int32) (a3 : Int32) (a4 : Int32) (h : hp_H), hp_J Y_E_chained Z hp_rI h 29 [(0, .ref a0), (1, .int a1), (2, .int a2), (3, .int a3), (4, .int a4)] [] (m_E_chained_29 (hp_G Z)  n a0 a1 a2 a3 a4 h) := by
  intro n
  induction n with
  | zero => intro a0 a1 a2 a3 a4 h; exact hp_fail
  | succ n ih =>
    intro a0 a1 a2 a3 a4 h
    rw [m_E_chained_29]
    refine hp_iload (x0 := 4) d_E_chained_29 rfl ?_
    refine hp_iload_n (x0 := 1) d_E_chained_31 rfl rfl ?_
    refine hp_icmp_ge (tgt := 115) d_E_chained_32 (by decide) ?_ ?_
    · refine hp_sub [0, 2, 3] rfl ?_
      exact j_E_chained_115  _ _ _ _
    · refine hp_iload (x0 := 4) d_E_chained_35 rfl ?_
      refine hp_bipush (v := 20) d_E_chained_37 (by decide) ?_
      refine hp_icmp_ge (tgt := 115) d_E_chained_39 (by decide) ?_ ?_
      · refine hp_sub [0, 2, 3] rfl ?_
        exact j_E_chained_115  _ _ _ _
      · refine hp_aload_n (x0 := 0) d_E_chained_42 rfl rfl ?_
        refine hp_iload (x0 := 4) d_E_chained_43 rfl ?_
        refine hp_callR (hp_crV (ci := 5) (t_E_taken _ _ _ _) cw_E_90 rfl ⟨w_550, ws_9⟩ (by decide) rfl rfl (Nat.le_of_ble_eq_true rfl) d_E_chained_45) fun q1 => ?_
        refine hp_astore (fun x2 => [(5, .ref x2), (0, .ref a0), (1, .int a1), (2, .int a2), (3, .int a3), (4, .int a4)]) d_E_chained_48 (by decide) (fun _ => rfl) fun x2 => ?_
        refine hp_aload (x0 := 0) d_E_chained_50 rfl ?_
        refine hp_callI (hp_crV (ci := 3) (t_V_isPlainOrTagged _ _ _) cw_E_211 rfl ⟨w_651, w_652⟩ (by decide) rfl rfl (Nat.le_of_ble_eq_true rfl) d_E_chained_52) fun q3 => ?_
        refine hp_if_ne (tgt := 61) d_E_chained_55 (by decide) ?_ ?_
        · refine hp_bipush (v := -4) d_E_chained_58 (by decide) ?_
          exact hp_iret d_E_chained_60 rfl
        · refine hp_iload_n (x0 := 4) d_E_chained_61 rfl rfl ?_
          refine hp_if_eq (tgt := 88) d_E_chained_62 (by decide) ?_ ?_
          · refine hp_sub [1, 2, 3, 5, 0] rfl ?_
            exact j_E_chained_88 _ ih _ _ _ _ _ _
          · refine hp_aload (x0 := 0) d_E_chained_65 rfl ?_
            refine hp_getI fl_E_93 d_E_chained_67 fun x4 => ?_
            refine hp_bipush (v := 6) d_E_chained_70 (by decide) ?_
            refine hp_icmp_ne (tgt := 88) d_E_chained_72 (by decide) ?_ ?_
            · refine hp_aload (x0 := 0) d_E_chained_75 rfl ?_
              refine hp_getI fl_E_208 d_E_chained_77 fun x5 => ?_
              refine hp_iload_n (x0 := 3) d_E_chained_80 rfl rfl ?_
              refine hp_icmp_ne (tgt := 88) d_E_chained_81 (by decide) ?_ ?_
              · refine hp_iconst (v := 1) d_E_chained_84 (by decide) ?_
                refine hp_goto (tgt := 89) d_E_chained_85 (by decide) ?_
                refine hp_sub [1, 2, 3, 5, 0] rfl ?_
                exact j_E_chained_89 _ ih _ _ _ _ _ _ _
              · refine hp_sub [1, 2, 3, 5, 0] rfl ?_
                exact j_E_chained_88 _ ih _ _ _ _ _ _
            · refine hp_sub [1, 2, 3, 5, 0] rfl ?_
              exact j_E_chained_88 _ ih _ _ _ _ _ _
def m_E_chained_25 (G : Nat → Nat) (a0 : Nat) (a1 : Int32) (a2 : Int32) (s0 : Int32) (h : hp_H) : Option (Int32 × hp_H) := hp_nm s0 fun x1 => hp_nm (0 : Int32) fun x2 => m_E_chained_29 G hp_fu a0 a1 a2 x1 x2 h
set_option maxRecDepth 100000 in
set_option maxHeartbeats 4000000 in
theorem j_E_chained_25 {Z : hp_Z} (a0 : Nat) (a1 : Int32) (a2 : Int32) (s0 : Int32) (h : hp_H) : hp_J Y_E_chained Z hp_rI h 25 [(0, .ref a0), (1, .int a1), (2, .int a2)] [.int s0] (m_E_chained_25 (hp_G Z)  a0 a1 a2 s0 h) := by
  unfold m_E_chained_25
  refine hp_istore_n (fun x1 => [(3, .int x1), (0, .ref a0), (1, .int a1), (2, .int a2)]) d_E_chained_25 rfl (by decide) (fun _ => rfl) fun x1 => ?_
  refine hp_iconst (v := 0) d_E_chained_26 (by decide) ?_
  refine hp_istore (fun x2 => [(4, .int x2), (3, .int x1), (0, .ref a0), (1, .int a1), (2, .int a2)]) d_E_chained_27 (by decide) (fun _ => rfl) fun x2 => ?_
  refine hp_sub [2, 3, 4, 1, 0] rfl ?_
  exact j_E_chained_29  hp_fu _ _ _ _ _ _
def m_E_chained (G : Nat → Nat) (a0 : Nat) (a1 : Int32) (h : hp_H) : Option (Int32 × hp_H) := (hp_gR h a0 5 5).bind fun x1 => (hp_vck h x1 4 (m_R_clear G x1 h)).bind fun q2 => (hp_vck q2.2 a0 5 (m_E_taken G a0 (0 : Int32) q2.2)).bind fun q3 => (hp_gI q3.2 q3.1 3 1).bind fun x4 => hp_nm x4 fun x5 => if a1 ≤ 0 then (m_E_chained_25 G a0 a1 x5 (0 : Int32) q3.2) else (m_E_chained_25 G a0 a1 x5 (1 : Int32) q3.2)
set_option maxRecDepth 100000 in
set_option maxHeartbeats 4000000 in
theorem j_E_chained_0 {Z : hp_Z} (a0 : Nat) (a1 : Int32) (h : hp_H) : hp_J Y_E_chained Z hp_rI h 0 [(0, .ref a0), (1, .int a1)] [] (m_E_chained (hp_G Z)  a0 a1 h) := by
  unfold m_E_chained
  refine hp_aload_n (x0 := 0) d_E_chained_0 rfl rfl ?_
  refine hp_getR fl_E_27 d_E_chained_1 fun x1 => ?_
  refine hp_callU (hp_crV (ci := 4) (t_R_clear _ _ _) cw_E_205 rfl ⟨w_418, w_419⟩ (by decide) rfl rfl (Nat.le_of_ble_eq_true rfl) d_E_chained_4) fun q2 => ?_
  refine hp_aload_n (x0 := 0) d_E_chained_7 rfl rfl ?_
  refine hp_iconst (v := 0) d_E_chained_8 (by decide) ?_
  refine hp_callR (hp_crV (ci := 5) (t_E_taken _ _ _ _) cw_E_90 rfl ⟨w_550, ws_9⟩ (by decide) rfl rfl (Nat.le_of_ble_eq_true rfl) d_E_chained_9) fun q3 => ?_
  refine hp_getI fl_E_208 d_E_chained_12 fun x4 => ?_
  refine hp_istore_n (fun x5 => [(2, .int x5), (0, .ref a0), (1, .int a1)]) d_E_chained_15 rfl (by decide) (fun _ => rfl) fun x5 => ?_
  refine hp_iload_n (x0 := 2) d_E_chained_16 rfl rfl ?_
  refine hp_if_le (tgt := 24) d_E_chained_17 (by decide) ?_ ?_
  · refine hp_iconst (v := 0) d_E_chained_24 (by decide) ?_
    refine hp_sub [1, 2, 0] rfl ?_
    exact j_E_chained_25  _ _ _ _ _
  · refine hp_iconst (v := 1) d_E_chained_20 (by decide) ?_
    refine hp_goto (tgt := 25) d_E_chained_21 (by decide) ?_
    refine hp_sub [1, 2, 0] rfl ?_
    exact j_E_chained_25  _ _ _ _ _
theorem t_E_chained (l : Launch) (E : hp_E) (a0 : Nat) (a1 : Int32) : hp_M l E y_E_chained Y_E_chained hp_rI [.ref a0, .int a1] (m_E_chained E.2.2.1 a0 a1) := hp_M.of (plainFor_of_name (by decide)) ⟨rfl, rfl⟩ (Nat.le_of_ble_eq_true rfl) (fun Z h hE => by subst hE; exact j_E_chained_0 _ _ h)
-- E_compared
theorem d_E_compared_0 : decode prog_2_method_22_code 0 = .ok (.aload_n 0, 1) := by decide +kernel
theorem d_E_compared_1 : decode prog_2_method_22_code 1 = .ok (.iconst 0, 1) := by decide +kernel
theorem d_E_compared_2 : decode prog_2_method_22_code 2 = .ok (.invokevirtual 90, 3) := by decide +kernel
theorem d_E_compared_5 : decode prog_2_method_22_code 5 = .ok (.astore_n 2, 1) := by decide +kernel
theorem d_E_compared_6 : decode prog_2_method_22_code 6 = .ok (.aload_n 0, 1) := by decide +kernel
theorem d_E_compared_7 : decode prog_2_method_22_code 7 = .ok (.iconst 1, 1) := by decide +kernel
theorem d_E_compared_8 : decode prog_2_method_22_code 8 = .ok (.invokevirtual 90, 3) := by decide +kernel
theorem d_E_compared_11 : decode prog_2_method_22_code 11 = .ok (.astore_n 3, 1) := by decide +kernel
theorem d_E_compared_12 : decode prog_2_method_22_code 12 = .ok (.aload_n 2, 1) := by decide +kernel
theorem d_E_compared_13 : decode prog_2_method_22_code 13 = .ok (.invokevirtual 147, 3) := by decide +kernel
theorem d_E_compared_16 : decode prog_2_method_22_code 16 = .ok (.ifCond .eq 20, 3) := by decide +kernel
theorem d_E_compared_19 : decode prog_2_method_22_code 19 = .ok (.aload_n 3, 1) := by decide +kernel
theorem d_E_compared_20 : decode prog_2_method_22_code 20 = .ok (.invokevirtual 147, 3) := by decide +kernel
theorem d_E_compared_23 : decode prog_2_method_22_code 23 = .ok (.ifCond .eq 13, 3) := by decide +kernel
theorem d_E_compared_26 : decode prog_2_method_22_code 26 = .ok (.aload_n 2, 1) := by decide +kernel
theorem d_E_compared_27 : decode prog_2_method_22_code 27 = .ok (.aload_n 3, 1) := by decide +kernel
theorem d_E_compared_28 : decode prog_2_method_22_code 28 = .ok (.invokevirtual 150, 3) := by decide +kernel
theorem d_E_compared_31 : decode prog_2_method_22_code 31 = .ok (.istore 4, 2) := by decide +kernel
theorem d_E_compared_33 : decode prog_2_method_22_code 33 = .ok (.goto 44, 3) := by decide +kernel
theorem d_E_compared_36 : decode prog_2_method_22_code 36 = .ok (.aload_n 2, 1) := by decide +kernel
theorem d_E_compared_37 : decode prog_2_method_22_code 37 = .ok (.getfield 93, 3) := by decide +kernel
theorem d_E_compared_40 : decode prog_2_method_22_code 40 = .ok (.aload_n 3, 1) := by decide +kernel
theorem d_E_compared_41 : decode prog_2_method_22_code 41 = .ok (.getfield 93, 3) := by decide +kernel
theorem d_E_compared_44 : decode prog_2_method_22_code 44 = .ok (.if_icmp .ne 30, 3) := by decide +kernel
theorem d_E_compared_47 : decode prog_2_method_22_code 47 = .ok (.aload_n 2, 1) := by decide +kernel
theorem d_E_compared_48 : decode prog_2_method_22_code 48 = .ok (.getfield 93, 3) := by decide +kernel
theorem d_E_compared_51 : decode prog_2_method_22_code 51 = .ok (.iconst 5, 1) := by decide +kernel
theorem d_E_compared_52 : decode prog_2_method_22_code 52 = .ok (.if_icmp .eq 12, 3) := by decide +kernel
theorem d_E_compared_55 : decode prog_2_method_22_code 55 = .ok (.aload_n 2, 1) := by decide +kernel
theorem d_E_compared_56 : decode prog_2_method_22_code 56 = .ok (.getfield 93, 3) := by decide +kernel
theorem d_E_compared_59 : decode prog_2_method_22_code 59 = .ok (.bipush 8, 2) := by decide +kernel
theorem d_E_compared_61 : decode prog_2_method_22_code 61 = .ok (.if_icmp .ne 13, 3) := by decide +kernel
theorem d_E_compared_64 : decode prog_2_method_22_code 64 = .ok (.aload_n 2, 1) := by decide +kernel
theorem d_E_compared_65 : decode prog_2_method_22_code 65 = .ok (.aload_n 3, 1) := by decide +kernel
theorem d_E_compared_66 : decode prog_2_method_22_code 66 = .ok (.invokevirtual 154, 3) := by decide +kernel
theorem d_E_compared_69 : decode prog_2_method_22_code 69 = .ok (.istore 4, 2) := by decide +kernel
theorem d_E_compared_71 : decode prog_2_method_22_code 71 = .ok (.goto 6, 3) := by decide +kernel
theorem d_E_compared_74 : decode prog_2_method_22_code 74 = .ok (.bipush (-4), 2) := by decide +kernel
theorem d_E_compared_76 : decode prog_2_method_22_code 76 = .ok (.ireturn, 1) := by decide +kernel
theorem d_E_compared_77 : decode prog_2_method_22_code 77 = .ok (.iload_n 1, 1) := by decide +kernel
theorem d_E_compared_78 : decode prog_2_method_22_code 78 = .ok (.tableswitch 80 8 10 #[26, 44, 62], 26) := by decide +kernel
theorem d_E_compared_104 : decode prog_2_method_22_code 104 = .ok (.aload_n 0, 1) := by decide +kernel
theorem d_E_compared_105 : decode prog_2_method_22_code 105 = .ok (.getfield 38, 3) := by decide +kernel
theorem d_E_compared_108 : decode prog_2_method_22_code 108 = .ok (.iload 4, 2) := by decide +kernel
theorem d_E_compared_110 : decode prog_2_method_22_code 110 = .ok (.ifCond .ge 7, 3) := by decide +kernel
theorem d_E_compared_113 : decode prog_2_method_22_code 113 = .ok (.iconst 1, 1) := by decide +kernel
theorem d_E_compared_114 : decode prog_2_method_22_code 114 = .ok (.goto 4, 3) := by decide +kernel
theorem d_E_compared_117 : decode prog_2_method_22_code 117 = .ok (.iconst 0, 1) := by decide +kernel
theorem d_E_compared_118 : decode prog_2_method_22_code 118 = .ok (.invokevirtual 101, 3) := by decide +kernel
theorem d_E_compared_121 : decode prog_2_method_22_code 121 = .ok (.ireturn, 1) := by decide +kernel
theorem d_E_compared_122 : decode prog_2_method_22_code 122 = .ok (.aload_n 0, 1) := by decide +kernel
theorem d_E_compared_123 : decode prog_2_method_22_code 123 = .ok (.getfield 38, 3) := by decide +kernel
theorem d_E_compared_126 : decode prog_2_method_22_code 126 = .ok (.iload 4, 2) := by decide +kernel
theorem d_E_compared_128 : decode prog_2_method_22_code 128 = .ok (.ifCond .gt 7, 3) := by decide +kernel
theorem d_E_compared_131 : decode prog_2_method_22_code 131 = .ok (.iconst 1, 1) := by decide +kernel
theorem d_E_compared_132 : decode prog_2_method_22_code 132 = .ok (.goto 4, 3) := by decide +kernel
theorem d_E_compared_135 : decode prog_2_method_22_code 135 = .ok (.iconst 0, 1) := by decide +kernel
theorem d_E_compared_136 : decode prog_2_method_22_code 136 = .ok (.invokevirtual 101, 3) := by decide +kernel
theorem d_E_compared_139 : decode prog_2_method_22_code 139 = .ok (.ireturn, 1) := by decide +kernel
theorem d_E_compared_140 : decode prog_2_method_22_code 140 = .ok (.aload_n 0, 1) := by decide +kernel
theorem d_E_compared_141 : decode prog_2_method_22_code 141 = .ok (.getfield 38, 3) := by decide +kernel
theorem d_E_compared_144 : decode prog_2_method_22_code 144 = .ok (.iload 4, 2) := by decide +kernel
theorem d_E_compared_146 : decode prog_2_method_22_code 146 = .ok (.ifCond .le 7, 3) := by decide +kernel
theorem d_E_compared_149 : decode prog_2_method_22_code 149 = .ok (.iconst 1, 1) := by decide +kernel
theorem d_E_compared_150 : decode prog_2_method_22_code 150 = .ok (.goto 4, 3) := by decide +kernel
theorem d_E_compared_153 : decode prog_2_method_22_code 153 = .ok (.iconst 0, 1) := by decide +kernel
theorem d_E_compared_154 : decode prog_2_method_22_code 154 = .ok (.invokevirtual 101, 3) := by decide +kernel
theorem d_E_compared_157 : decode prog_2_method_22_code 157 = .ok (.ireturn, 1) := by decide +kernel
theorem d_E_compared_158 : decode prog_2_method_22_code 158 = .ok (.aload_n 0, 1) := by decide +kernel
theorem d_E_compared_159 : decode prog_2_method_22_code 159 = .ok (.getfield 38, 3) := by decide +kernel
theorem d_E_compared_162 : decode prog_2_method_22_code 162 = .ok (.iload 4, 2) := by decide +kernel
theorem d_E_compared_164 : decode prog_2_method_22_code 164 = .ok (.ifCond .lt 7, 3) := by decide +kernel
theorem d_E_compared_167 : decode prog_2_method_22_code 167 = .ok (.iconst 1, 1) := by decide +kernel
theorem d_E_compared_168 : decode prog_2_method_22_code 168 = .ok (.goto 4, 3) := by decide +kernel
theorem d_E_compared_171 : decode prog_2_method_22_code 171 = .ok (.iconst 0, 1) := by decide +kernel
theorem d_E_compared_172 : decode prog_2_method_22_code 172 = .ok (.invokevirtual 101, 3) := by decide +kernel
theorem d_E_compared_175 : decode prog_2_method_22_code 175 = .ok (.ireturn, 1) := by decide +kernel
def m_E_compared_118 (G : Nat → Nat) (s0 : Int32) (s1 : Nat) (h : hp_H) : Option (Int32 × hp_H) := (hp_vck h s1 1 (m_S_keepTruth G s1 s0 h)).bind fun q1 => some (q1.1, q1.2)
set_option maxRecDepth 100000 in
set_option maxHeartbeats 4000000 in
theorem j_E_compared_118 {Z : hp_Z} (s0 : Int32) (s1 : Nat) (h : hp_H) : hp_J Y_E_compared Z hp_rI h 118 [] [.int s0, .ref s1] (m_E_compared_118 (hp_G Z)  s0 s1 h) := by
  unfold m_E_compared_118
  refine hp_callI (hp_crV (ci := 1) (t_S_keepTruth _ _ _ _) cw_E_101 rfl ⟨w_391, w_392⟩ (by decide) rfl rfl (Nat.le_of_ble_eq_true rfl) d_E_compared_118) fun q1 => ?_
  exact hp_iret d_E_compared_121 rfl
def m_E_compared_136 (G : Nat → Nat) (s0 : Int32) (s1 : Nat) (h : hp_H) : Option (Int32 × hp_H) := (hp_vck h s1 1 (m_S_keepTruth G s1 s0 h)).bind fun q1 => some (q1.1, q1.2)
set_option maxRecDepth 100000 in
set_option maxHeartbeats 4000000 in
theorem j_E_compared_136 {Z : hp_Z} (s0 : Int32) (s1 : Nat) (h : hp_H) : hp_J Y_E_compared Z hp_rI h 136 [] [.int s0, .ref s1] (m_E_compared_136 (hp_G Z)  s0 s1 h) := by
  unfold m_E_compared_136
  refine hp_callI (hp_crV (ci := 1) (t_S_keepTruth _ _ _ _) cw_E_101 rfl ⟨w_391, w_392⟩ (by decide) rfl rfl (Nat.le_of_ble_eq_true rfl) d_E_compared_136) fun q1 => ?_
  exact hp_iret d_E_compared_139 rfl
def m_E_compared_154 (G : Nat → Nat) (s0 : Int32) (s1 : Nat) (h : hp_H) : Option (Int32 × hp_H) := (hp_vck h s1 1 (m_S_keepTruth G s1 s0 h)).bind fun q1 => some (q1.1, q1.2)
set_option maxRecDepth 100000 in
set_option maxHeartbeats 4000000 in
theorem j_E_compared_154 {Z : hp_Z} (s0 : Int32) (s1 : Nat) (h : hp_H) : hp_J Y_E_compared Z hp_rI h 154 [] [.int s0, .ref s1] (m_E_compared_154 (hp_G Z)  s0 s1 h) := by
  unfold m_E_compared_154
  refine hp_callI (hp_crV (ci := 1) (t_S_keepTruth _ _ _ _) cw_E_101 rfl ⟨w_391, w_392⟩ (by decide) rfl rfl (Nat.le_of_ble_eq_true rfl) d_E_compared_154) fun q1 => ?_
  exact hp_iret d_E_compared_157 rfl
def m_E_compared_172 (G : Nat → Nat) (s0 : Int32) (s1 : Nat) (h : hp_H) : Option (Int32 × hp_H) := (hp_vck h s1 1 (m_S_keepTruth G s1 s0 h)).bind fun q1 => some (q1.1, q1.2)
set_option maxRecDepth 100000 in
set_option maxHeartbeats 4000000 in
theorem j_E_compared_172 {Z : hp_Z} (s0 : Int32) (s1 : Nat) (h : hp_H) : hp_J Y_E_compared Z hp_rI h 172 [] [.int s0, .ref s1] (m_E_compared_172 (hp_G Z)  s0 s1 h) := by
  unfold m_E_compared_172
  refine hp_callI (hp_crV (ci := 1) (t_S_keepTruth _ _ _ _) cw_E_101 rfl ⟨w_391, w_392⟩ (by decide) rfl rfl (Nat.le_of_ble_eq_true rfl) d_E_compared_172) fun q1 => ?_
  exact hp_iret d_E_compared_175 rfl
def m_E_compared_77 (G : Nat → Nat) (a0 : Nat) (a1 : Int32) (a4 : Int32) (h : hp_H) : Option (Int32 × hp_H) := if a1 = 8 then ((hp_gR h a0 5 0).bind fun x1 => if 0 ≤ a4 then (m_E_compared_118 G (0 : Int32) x1 h) else (m_E_compared_118 G (1 : Int32) x1 h)) else (if a1 = 9 then ((hp_gR h a0 5 0).bind fun x2 => if 0 < a4 then (m_E_compared_136 G (0 : Int32) x2 h) else (m_E_compared_136 G (1 : Int32) x2 h)) else (if a1 = 10 then ((hp_gR h a0 5 0).bind fun x3 => if a4 ≤ 0 then (m_E_compared_154 G (0 : Int32) x3 h) else (m_E_compared_154 G (1 : Int32) x3 h)) else ((hp_gR h a0 5 0).bind fun x4 => if a4 < 0 then (m_E_compared_172 G (0 : Int32) x4 h) else (m_E_compared_172 G (1 : Int32) x4 h))))
set_option maxRecDepth 100000 in
set_option maxHeartbeats 4000000 in
theorem j_E_compared_77 {Z : hp_Z} (a0 : Nat) (a1 : Int32) (a4 : Int32) (h : hp_H) : hp_J Y_E_compared Z hp_rI h 77 [(0, .ref a0), (1, .int a1), (4, .int a4)] [] (m_E_compared_77 (hp_G Z)  a0 a1 a4 h) := by
  unfold m_E_compared_77
  refine hp_iload_n (x0 := 1) d_E_compared_77 rfl rfl ?_
  refine hp_ite (fun c0 => ?_) (fun c0 => ?_)
  · refine hp_tabI (tgt := 104) (kv := 8) d_E_compared_78 c0 (by decide) (by decide) rfl (by decide) ?_
    refine hp_aload_n (x0 := 0) d_E_compared_104 rfl rfl ?_
    refine hp_getR fl_E_38 d_E_compared_105 fun x1 => ?_
    refine hp_iload (x0 := 2) d_E_compared_108 rfl ?_
    refine hp_if_ge (tgt := 117) d_E_compared_110 (by decide) ?_ ?_
    · refine hp_iconst (v := 0) d_E_compared_117 (by decide) ?_
      refine hp_sub [] rfl ?_
      exact j_E_compared_118  _ _ _
    · refine hp_iconst (v := 1) d_E_compared_113 (by decide) ?_
      refine hp_goto (tgt := 118) d_E_compared_114 (by decide) ?_
      refine hp_sub [] rfl ?_
      exact j_E_compared_118  _ _ _
  · skip
    refine hp_ite (fun c1 => ?_) (fun c1 => ?_)
    · refine hp_tabI (tgt := 122) (kv := 9) d_E_compared_78 c1 (by decide) (by decide) rfl (by decide) ?_
      refine hp_aload_n (x0 := 0) d_E_compared_122 rfl rfl ?_
      refine hp_getR fl_E_38 d_E_compared_123 fun x2 => ?_
      refine hp_iload (x0 := 2) d_E_compared_126 rfl ?_
      refine hp_if_gt (tgt := 135) d_E_compared_128 (by decide) ?_ ?_
      · refine hp_iconst (v := 0) d_E_compared_135 (by decide) ?_
        refine hp_sub [] rfl ?_
        exact j_E_compared_136  _ _ _
      · refine hp_iconst (v := 1) d_E_compared_131 (by decide) ?_
        refine hp_goto (tgt := 136) d_E_compared_132 (by decide) ?_
        refine hp_sub [] rfl ?_
        exact j_E_compared_136  _ _ _
    · skip
      refine hp_ite (fun c2 => ?_) (fun c2 => ?_)
      · refine hp_tabI (tgt := 140) (kv := 10) d_E_compared_78 c2 (by decide) (by decide) rfl (by decide) ?_
        refine hp_aload_n (x0 := 0) d_E_compared_140 rfl rfl ?_
        refine hp_getR fl_E_38 d_E_compared_141 fun x3 => ?_
        refine hp_iload (x0 := 2) d_E_compared_144 rfl ?_
        refine hp_if_le (tgt := 153) d_E_compared_146 (by decide) ?_ ?_
        · refine hp_iconst (v := 0) d_E_compared_153 (by decide) ?_
          refine hp_sub [] rfl ?_
          exact j_E_compared_154  _ _ _
        · refine hp_iconst (v := 1) d_E_compared_149 (by decide) ?_
          refine hp_goto (tgt := 154) d_E_compared_150 (by decide) ?_
          refine hp_sub [] rfl ?_
          exact j_E_compared_154  _ _ _
      · skip
        refine hp_tabD (tgt := 158) d_E_compared_78 (by have e0 := lv_neT c0 (a := 8) (by decide); have e1 := lv_neT c1 (a := 9) (by decide); have e2 := lv_neT c2 (a := 10) (by decide); omega) (by decide) ?_
        refine hp_aload_n (x0 := 0) d_E_compared_158 rfl rfl ?_
        refine hp_getR fl_E_38 d_E_compared_159 fun x4 => ?_
        refine hp_iload (x0 := 2) d_E_compared_162 rfl ?_
        refine hp_if_lt (tgt := 171) d_E_compared_164 (by decide) ?_ ?_
        · refine hp_iconst (v := 0) d_E_compared_171 (by decide) ?_
          refine hp_sub [] rfl ?_
          exact j_E_compared_172  _ _ _
        · refine hp_iconst (v := 1) d_E_compared_167 (by decide) ?_
          refine hp_goto (tgt := 172) d_E_compared_168 (by decide) ?_
          refine hp_sub [] rfl ?_
          exact j_E_compared_172  _ _ _
def m_E_compared_64 (G : Nat → Nat) (a0 : Nat) (a1 : Int32) (a2 : Nat) (a3 : Nat) (h : hp_H) : Option (Int32 × hp_H) := (hp_vck h a2 3 (m_V_comparedTo G a2 a3 h)).bind fun q1 => hp_nm q1.1 fun x2 => m_E_compared_77 G a0 a1 x2 q1.2
set_option maxRecDepth 100000 in
set_option maxHeartbeats 4000000 in
theorem j_E_compared_64 {Z : hp_Z} (a0 : Nat) (a1 : Int32) (a2 : Nat) (a3 : Nat) (h : hp_H) : hp_J Y_E_compared Z hp_rI h 64 [(0, .ref a0), (1, .int a1), (2, .ref a2), (3, .ref a3)] [] (m_E_compared_64 (hp_G Z)  a0 a1 a2 a3 h) := by
  unfold m_E_compared_64
  refine hp_aload_n (x0 := 2) d_E_compared_64 rfl rfl ?_
  refine hp_aload_n (x0 := 3) d_E_compared_65 rfl rfl ?_
  refine hp_callI (hp_crV (ci := 3) (t_V_comparedTo _ _ _ _) cw_E_154 rfl ⟨w_450, w_451⟩ (by decide) rfl rfl (Nat.le_of_ble_eq_true rfl) d_E_compared_66) fun q1 => ?_
  refine hp_istore (fun x2 => [(4, .int x2), (0, .ref a0), (1, .int a1), (2, .ref a2), (3, .ref a3)]) d_E_compared_69 (by decide) (fun _ => rfl) fun x2 => ?_
  refine hp_goto (tgt := 77) d_E_compared_71 (by decide) ?_
  refine hp_sub [1, 2, 0] rfl ?_
  exact j_E_compared_77  _ _ _ _
def m_E_compared_74 (G : Nat → Nat) (h : hp_H) : Option (Int32 × hp_H) := some ((-4 : Int32), h)
set_option maxRecDepth 100000 in
set_option maxHeartbeats 4000000 in
theorem j_E_compared_74 {Z : hp_Z} (h : hp_H) : hp_J Y_E_compared Z hp_rI h 74 [] [] (m_E_compared_74 (hp_G Z)   h) := by
  unfold m_E_compared_74
  refine hp_bipush (v := -4) d_E_compared_74 (by decide) ?_
  exact hp_iret d_E_compared_76 rfl
def m_E_compared_36 (G : Nat → Nat) (a0 : Nat) (a1 : Int32) (a2 : Nat) (a3 : Nat) (h : hp_H) : Option (Int32 × hp_H) := (hp_gI h a2 3 0).bind fun x1 => (hp_gI h a3 3 0).bind fun x2 => if x1 = x2 then ((hp_gI h a2 3 0).bind fun x3 => if x3 = (5 : Int32) then (m_E_compared_64 G a0 a1 a2 a3 h) else ((hp_gI h a2 3 0).bind fun x4 => if x4 = (8 : Int32) then (m_E_compared_64 G a0 a1 a2 a3 h) else (m_E_compared_74 G h))) else (m_E_compared_74 G h)
set_option maxRecDepth 100000 in
set_option maxHeartbeats 4000000 in
theorem j_E_compared_36 {Z : hp_Z} (a0 : Nat) (a1 : Int32) (a2 : Nat) (a3 : Nat) (h : hp_H) : hp_J Y_E_compared Z hp_rI h 36 [(0, .ref a0), (1, .int a1), (2, .ref a2), (3, .ref a3)] [] (m_E_compared_36 (hp_G Z)  a0 a1 a2 a3 h) := by
  unfold m_E_compared_36
  refine hp_aload_n (x0 := 2) d_E_compared_36 rfl rfl ?_
  refine hp_getI fl_E_93 d_E_compared_37 fun x1 => ?_
  refine hp_aload_n (x0 := 3) d_E_compared_40 rfl rfl ?_
  refine hp_getI fl_E_93 d_E_compared_41 fun x2 => ?_
  refine hp_icmp_ne (tgt := 74) d_E_compared_44 (by decide) ?_ ?_
  · refine hp_aload_n (x0 := 2) d_E_compared_47 rfl rfl ?_
    refine hp_getI fl_E_93 d_E_compared_48 fun x3 => ?_
    refine hp_iconst (v := 5) d_E_compared_51 (by decide) ?_
    refine hp_icmp_eq (tgt := 64) d_E_compared_52 (by decide) ?_ ?_
    · exact j_E_compared_64  _ _ _ _ _
    · refine hp_aload_n (x0 := 2) d_E_compared_55 rfl rfl ?_
      refine hp_getI fl_E_93 d_E_compared_56 fun x4 => ?_
      refine hp_bipush (v := 8) d_E_compared_59 (by decide) ?_
      refine hp_icmp_ne (tgt := 74) d_E_compared_61 (by decide) ?_ ?_
      · exact j_E_compared_64  _ _ _ _ _
      · refine hp_sub [] rfl ?_
        exact j_E_compared_74   _
  · refine hp_sub [] rfl ?_
    exact j_E_compared_74   _
def m_E_compared (G : Nat → Nat) (a0 : Nat) (a1 : Int32) (h : hp_H) : Option (Int32 × hp_H) := (hp_vck h a0 5 (m_E_taken G a0 (0 : Int32) h)).bind fun q1 => hp_nm q1.1 fun x2 => (hp_vck q1.2 a0 5 (m_E_taken G a0 (1 : Int32) q1.2)).bind fun q3 => hp_nm q3.1 fun x4 => (hp_vck q3.2 x2 3 (m_V_isNumber G x2 q3.2)).bind fun q5 => if q5.1 = 0 then (m_E_compared_36 G a0 a1 x2 x4 q5.2) else ((hp_vck q5.2 x4 3 (m_V_isNumber G x4 q5.2)).bind fun q6 => if q6.1 = 0 then (m_E_compared_36 G a0 a1 x2 x4 q6.2) else ((hp_vck q6.2 x2 3 (m_V_comparedByAmount G x2 x4 q6.2)).bind fun q7 => hp_nm q7.1 fun x8 => m_E_compared_77 G a0 a1 x8 q7.2))
set_option maxRecDepth 100000 in
set_option maxHeartbeats 4000000 in
theorem j_E_compared_0 {Z : hp_Z} (a0 : Nat) (a1 : Int32) (h : hp_H) : hp_J Y_E_compared Z hp_rI h 0 [(0, .ref a0), (1, .int a1)] [] (m_E_compared (hp_G Z)  a0 a1 h) := by
  unfold m_E_compared
  refine hp_aload_n (x0 := 0) d_E_compared_0 rfl rfl ?_
  refine hp_iconst (v := 0) d_E_compared_1 (by decide) ?_
  refine hp_callR (hp_crV (ci := 5) (t_E_taken _ _ _ _) cw_E_90 rfl ⟨w_550, ws_9⟩ (by decide) rfl rfl (Nat.le_of_ble_eq_true rfl) d_E_compared_2) fun q1 => ?_
  refine hp_astore_n (fun x2 => [(2, .ref x2), (0, .ref a0), (1, .int a1)]) d_E_compared_5 rfl (by decide) (fun _ => rfl) fun x2 => ?_
  refine hp_aload_n (x0 := 1) d_E_compared_6 rfl rfl ?_
  refine hp_iconst (v := 1) d_E_compared_7 (by decide) ?_
  refine hp_callR (hp_crV (ci := 5) (t_E_taken _ _ _ _) cw_E_90 rfl ⟨w_550, ws_9⟩ (by decide) rfl rfl (Nat.le_of_ble_eq_true rfl) d_E_compared_8) fun q3 => ?_
  refine hp_astore_n (fun x4 => [(3, .ref x4), (2, .ref x2), (0, .ref a0), (1, .int a1)]) d_E_compared_11 rfl (by decide) (fun _ => rfl) fun x4 => ?_
  refine hp_aload_n (x0 := 1) d_E_compared_12 rfl rfl ?_
  refine hp_callI (hp_crV (ci := 3) (t_V_isNumber _ _ _) cw_E_147 rfl ⟨w_454, w_455⟩ (by decide) rfl rfl (Nat.le_of_ble_eq_true rfl) d_E_compared_13) fun q5 => ?_
  refine hp_if_eq (tgt := 36) d_E_compared_16 (by decide) ?_ ?_
  · refine hp_sub [2, 3, 1, 0] rfl ?_
    exact j_E_compared_36  _ _ _ _ _
  · refine hp_aload_n (x0 := 0) d_E_compared_19 rfl rfl ?_
    refine hp_callI (hp_crV (ci := 3) (t_V_isNumber _ _ _) cw_E_147 rfl ⟨w_454, w_455⟩ (by decide) rfl rfl (Nat.le_of_ble_eq_true rfl) d_E_compared_20) fun q6 => ?_
    refine hp_if_eq (tgt := 36) d_E_compared_23 (by decide) ?_ ?_
    · refine hp_sub [2, 3, 1, 0] rfl ?_
      exact j_E_compared_36  _ _ _ _ _
    · refine hp_aload_n (x0 := 1) d_E_compared_26 rfl rfl ?_
      refine hp_aload_n (x0 := 0) d_E_compared_27 rfl rfl ?_
      refine hp_callI (hp_crV (ci := 3) (t_V_comparedByAmount _ _ _ _) cw_E_150 rfl ⟨w_458, w_459⟩ (by decide) rfl rfl (Nat.le_of_ble_eq_true rfl) d_E_compared_28) fun q7 => ?_
      refine hp_istore (fun x8 => [(4, .int x8), (3, .ref x4), (2, .ref x2), (0, .ref a0), (1, .int a1)]) d_E_compared_31 (by decide) (fun _ => rfl) fun x8 => ?_
      refine hp_goto (tgt := 77) d_E_compared_33 (by decide) ?_
      refine hp_sub [3, 4, 0] rfl ?_
      exact j_E_compared_77  _ _ _ _
theorem t_E_compared (l : Launch) (E : hp_E) (a0 : Nat) (a1 : Int32) : hp_M l E y_E_compared Y_E_compared hp_rI [.ref a0, .int a1] (m_E_compared E.2.2.1 a0 a1) := hp_M.of (plainFor_of_name (by decide)) ⟨rfl, rfl⟩ (Nat.le_of_ble_eq_true rfl) (fun Z h hE => by subst hE; exact j_E_compared_0 _ _ h)
-- E_equal
theorem d_E_equal_0 : decode prog_2_method_21_code 0 = .ok (.aload_n 0, 1) := by decide +kernel
theorem d_E_equal_1 : decode prog_2_method_21_code 1 = .ok (.getfield 38, 3) := by decide +kernel
theorem d_E_equal_4 : decode prog_2_method_21_code 4 = .ok (.iload_n 1, 1) := by decide +kernel
theorem d_E_equal_5 : decode prog_2_method_21_code 5 = .ok (.invokevirtual 86, 3) := by decide +kernel
theorem d_E_equal_8 : decode prog_2_method_21_code 8 = .ok (.astore_n 3, 1) := by decide +kernel
theorem d_E_equal_9 : decode prog_2_method_21_code 9 = .ok (.aload_n 0, 1) := by decide +kernel
theorem d_E_equal_10 : decode prog_2_method_21_code 10 = .ok (.getfield 38, 3) := by decide +kernel
theorem d_E_equal_13 : decode prog_2_method_21_code 13 = .ok (.iload_n 2, 1) := by decide +kernel
theorem d_E_equal_14 : decode prog_2_method_21_code 14 = .ok (.invokevirtual 86, 3) := by decide +kernel
theorem d_E_equal_17 : decode prog_2_method_21_code 17 = .ok (.astore 4, 2) := by decide +kernel
theorem d_E_equal_19 : decode prog_2_method_21_code 19 = .ok (.aload_n 3, 1) := by decide +kernel
theorem d_E_equal_20 : decode prog_2_method_21_code 20 = .ok (.getfield 93, 3) := by decide +kernel
theorem d_E_equal_23 : decode prog_2_method_21_code 23 = .ok (.ifCond .eq 11, 3) := by decide +kernel
theorem d_E_equal_26 : decode prog_2_method_21_code 26 = .ok (.aload 4, 2) := by decide +kernel
theorem d_E_equal_28 : decode prog_2_method_21_code 28 = .ok (.getfield 93, 3) := by decide +kernel
theorem d_E_equal_31 : decode prog_2_method_21_code 31 = .ok (.ifCond .ne 6, 3) := by decide +kernel
theorem d_E_equal_34 : decode prog_2_method_21_code 34 = .ok (.bipush (-4), 2) := by decide +kernel
theorem d_E_equal_36 : decode prog_2_method_21_code 36 = .ok (.ireturn, 1) := by decide +kernel
theorem d_E_equal_37 : decode prog_2_method_21_code 37 = .ok (.aload_n 3, 1) := by decide +kernel
theorem d_E_equal_38 : decode prog_2_method_21_code 38 = .ok (.invokevirtual 147, 3) := by decide +kernel
theorem d_E_equal_41 : decode prog_2_method_21_code 41 = .ok (.ifCond .eq 26, 3) := by decide +kernel
theorem d_E_equal_44 : decode prog_2_method_21_code 44 = .ok (.aload 4, 2) := by decide +kernel
theorem d_E_equal_46 : decode prog_2_method_21_code 46 = .ok (.invokevirtual 147, 3) := by decide +kernel
theorem d_E_equal_49 : decode prog_2_method_21_code 49 = .ok (.ifCond .eq 18, 3) := by decide +kernel
theorem d_E_equal_52 : decode prog_2_method_21_code 52 = .ok (.aload_n 3, 1) := by decide +kernel
theorem d_E_equal_53 : decode prog_2_method_21_code 53 = .ok (.aload 4, 2) := by decide +kernel
theorem d_E_equal_55 : decode prog_2_method_21_code 55 = .ok (.invokevirtual 150, 3) := by decide +kernel
theorem d_E_equal_58 : decode prog_2_method_21_code 58 = .ok (.ifCond .ne 7, 3) := by decide +kernel
theorem d_E_equal_61 : decode prog_2_method_21_code 61 = .ok (.iconst 1, 1) := by decide +kernel
theorem d_E_equal_62 : decode prog_2_method_21_code 62 = .ok (.goto 4, 3) := by decide +kernel
theorem d_E_equal_65 : decode prog_2_method_21_code 65 = .ok (.iconst 0, 1) := by decide +kernel
theorem d_E_equal_66 : decode prog_2_method_21_code 66 = .ok (.ireturn, 1) := by decide +kernel
theorem d_E_equal_67 : decode prog_2_method_21_code 67 = .ok (.iload_n 1, 1) := by decide +kernel
theorem d_E_equal_68 : decode prog_2_method_21_code 68 = .ok (.iload_n 2, 1) := by decide +kernel
theorem d_E_equal_69 : decode prog_2_method_21_code 69 = .ok (.if_icmp .ne 5, 3) := by decide +kernel
theorem d_E_equal_72 : decode prog_2_method_21_code 72 = .ok (.iconst 1, 1) := by decide +kernel
theorem d_E_equal_73 : decode prog_2_method_21_code 73 = .ok (.ireturn, 1) := by decide +kernel
theorem d_E_equal_74 : decode prog_2_method_21_code 74 = .ok (.aload_n 3, 1) := by decide +kernel
theorem d_E_equal_75 : decode prog_2_method_21_code 75 = .ok (.getfield 93, 3) := by decide +kernel
theorem d_E_equal_78 : decode prog_2_method_21_code 78 = .ok (.bipush 7, 2) := by decide +kernel
theorem d_E_equal_80 : decode prog_2_method_21_code 80 = .ok (.if_icmp .ne 12, 3) := by decide +kernel
theorem d_E_equal_83 : decode prog_2_method_21_code 83 = .ok (.aload 4, 2) := by decide +kernel
theorem d_E_equal_85 : decode prog_2_method_21_code 85 = .ok (.getfield 93, 3) := by decide +kernel
theorem d_E_equal_88 : decode prog_2_method_21_code 88 = .ok (.iconst 3, 1) := by decide +kernel
theorem d_E_equal_89 : decode prog_2_method_21_code 89 = .ok (.if_icmp .ge 21, 3) := by decide +kernel
theorem d_E_equal_92 : decode prog_2_method_21_code 92 = .ok (.aload 4, 2) := by decide +kernel
theorem d_E_equal_94 : decode prog_2_method_21_code 94 = .ok (.getfield 93, 3) := by decide +kernel
theorem d_E_equal_97 : decode prog_2_method_21_code 97 = .ok (.bipush 7, 2) := by decide +kernel
theorem d_E_equal_99 : decode prog_2_method_21_code 99 = .ok (.if_icmp .ne 15, 3) := by decide +kernel
theorem d_E_equal_102 : decode prog_2_method_21_code 102 = .ok (.aload_n 3, 1) := by decide +kernel
theorem d_E_equal_103 : decode prog_2_method_21_code 103 = .ok (.getfield 93, 3) := by decide +kernel
theorem d_E_equal_106 : decode prog_2_method_21_code 106 = .ok (.iconst 3, 1) := by decide +kernel
theorem d_E_equal_107 : decode prog_2_method_21_code 107 = .ok (.if_icmp .lt 7, 3) := by decide +kernel
theorem d_E_equal_110 : decode prog_2_method_21_code 110 = .ok (.iconst 1, 1) := by decide +kernel
theorem d_E_equal_111 : decode prog_2_method_21_code 111 = .ok (.goto 4, 3) := by decide +kernel
theorem d_E_equal_114 : decode prog_2_method_21_code 114 = .ok (.iconst 0, 1) := by decide +kernel
theorem d_E_equal_115 : decode prog_2_method_21_code 115 = .ok (.istore 5, 2) := by decide +kernel
theorem d_E_equal_117 : decode prog_2_method_21_code 117 = .ok (.iload 5, 2) := by decide +kernel
theorem d_E_equal_119 : decode prog_2_method_21_code 119 = .ok (.ifCond .eq 8, 3) := by decide +kernel
theorem d_E_equal_122 : decode prog_2_method_21_code 122 = .ok (.bipush (-4), 2) := by decide +kernel
theorem d_E_equal_124 : decode prog_2_method_21_code 124 = .ok (.goto 4, 3) := by decide +kernel
theorem d_E_equal_127 : decode prog_2_method_21_code 127 = .ok (.iconst 0, 1) := by decide +kernel
theorem d_E_equal_128 : decode prog_2_method_21_code 128 = .ok (.ireturn, 1) := by decide +kernel
def m_E_equal_34 (G : Nat → Nat) (h : hp_H) : Option (Int32 × hp_H) := some ((-4 : Int32), h)
set_option maxRecDepth 100000 in
set_option maxHeartbeats 4000000 in
theorem j_E_equal_34 {Z : hp_Z} (h : hp_H) : hp_J Y_E_equal Z hp_rI h 34 [] [] (m_E_equal_34 (hp_G Z)   h) := by
  unfold m_E_equal_34
  refine hp_bipush (v := -4) d_E_equal_34 (by decide) ?_
  exact hp_iret d_E_equal_36 rfl
def m_E_equal_66 (G : Nat → Nat) (s0 : Int32) (h : hp_H) : Option (Int32 × hp_H) := some (s0, h)
set_option maxRecDepth 100000 in
set_option maxHeartbeats 4000000 in
theorem j_E_equal_66 {Z : hp_Z} (s0 : Int32) (h : hp_H) : hp_J Y_E_equal Z hp_rI h 66 [] [.int s0] (m_E_equal_66 (hp_G Z)  s0 h) := by
  unfold m_E_equal_66
  exact hp_iret d_E_equal_66 rfl
def m_E_equal_128 (G : Nat → Nat) (s0 : Int32) (h : hp_H) : Option (Int32 × hp_H) := some (s0, h)
set_option maxRecDepth 100000 in
set_option maxHeartbeats 4000000 in
theorem j_E_equal_128 {Z : hp_Z} (s0 : Int32) (h : hp_H) : hp_J Y_E_equal Z hp_rI h 128 [] [.int s0] (m_E_equal_128 (hp_G Z)  s0 h) := by
  unfold m_E_equal_128
  exact hp_iret d_E_equal_128 rfl
def m_E_equal_115 (G : Nat → Nat) (s0 : Int32) (h : hp_H) : Option (Int32 × hp_H) := hp_nm s0 fun x1 => if x1 = 0 then (m_E_equal_128 G (0 : Int32) h) else (m_E_equal_128 G (-4 : Int32) h)
set_option maxRecDepth 100000 in
set_option maxHeartbeats 4000000 in
theorem j_E_equal_115 {Z : hp_Z} (s0 : Int32) (h : hp_H) : hp_J Y_E_equal Z hp_rI h 115 [] [.int s0] (m_E_equal_115 (hp_G Z)  s0 h) := by
  unfold m_E_equal_115
  refine hp_istore (fun x1 => [(5, .int x1)]) d_E_equal_115 (by decide) (fun _ => rfl) fun x1 => ?_
  refine hp_iload (x0 := 0) d_E_equal_117 rfl ?_
  refine hp_if_eq (tgt := 127) d_E_equal_119 (by decide) ?_ ?_
  · refine hp_iconst (v := 0) d_E_equal_127 (by decide) ?_
    refine hp_sub [] rfl ?_
    exact j_E_equal_128  _ _
  · refine hp_bipush (v := -4) d_E_equal_122 (by decide) ?_
    refine hp_goto (tgt := 128) d_E_equal_124 (by decide) ?_
    refine hp_sub [] rfl ?_
    exact j_E_equal_128  _ _
def m_E_equal_110 (G : Nat → Nat) (h : hp_H) : Option (Int32 × hp_H) := m_E_equal_115 G (1 : Int32) h
set_option maxRecDepth 100000 in
set_option maxHeartbeats 4000000 in
theorem j_E_equal_110 {Z : hp_Z} (h : hp_H) : hp_J Y_E_equal Z hp_rI h 110 [] [] (m_E_equal_110 (hp_G Z)   h) := by
  unfold m_E_equal_110
  refine hp_iconst (v := 1) d_E_equal_110 (by decide) ?_
  refine hp_goto (tgt := 115) d_E_equal_111 (by decide) ?_
  exact j_E_equal_115  _ _
def m_E_equal_114 (G : Nat → Nat) (h : hp_H) : Option (Int32 × hp_H) := m_E_equal_115 G (0 : Int32) h
set_option maxRecDepth 100000 in
set_option maxHeartbeats 4000000 in
theorem j_E_equal_114 {Z : hp_Z} (h : hp_H) : hp_J Y_E_equal Z hp_rI h 114 [] [] (m_E_equal_114 (hp_G Z)   h) := by
  unfold m_E_equal_114
  refine hp_iconst (v := 0) d_E_equal_114 (by decide) ?_
  exact j_E_equal_115  _ _
def m_E_equal_92 (G : Nat → Nat) (a3 : Nat) (a4 : Nat) (h : hp_H) : Option (Int32 × hp_H) := (hp_gI h a4 3 0).bind fun x1 => if x1 = (7 : Int32) then ((hp_gI h a3 3 0).bind fun x2 => if x2 < (3 : Int32) then (m_E_equal_114 G h) else (m_E_equal_110 G h)) else (m_E_equal_114 G h)
set_option maxRecDepth 100000 in
set_option maxHeartbeats 4000000 in
theorem j_E_equal_92 {Z : hp_Z} (a3 : Nat) (a4 : Nat) (h : hp_H) : hp_J Y_E_equal Z hp_rI h 92 [(3, .ref a3), (4, .ref a4)] [] (m_E_equal_92 (hp_G Z)  a3 a4 h) := by
  unfold m_E_equal_92
  refine hp_aload (x0 := 1) d_E_equal_92 rfl ?_
  refine hp_getI fl_E_93 d_E_equal_94 fun x1 => ?_
  refine hp_bipush (v := 7) d_E_equal_97 (by decide) ?_
  refine hp_icmp_ne (tgt := 114) d_E_equal_99 (by decide) ?_ ?_
  · refine hp_aload_n (x0 := 0) d_E_equal_102 rfl rfl ?_
    refine hp_getI fl_E_93 d_E_equal_103 fun x2 => ?_
    refine hp_iconst (v := 3) d_E_equal_106 (by decide) ?_
    refine hp_icmp_lt (tgt := 114) d_E_equal_107 (by decide) ?_ ?_
    · refine hp_sub [] rfl ?_
      exact j_E_equal_114   _
    · refine hp_sub [] rfl ?_
      exact j_E_equal_110   _
  · refine hp_sub [] rfl ?_
    exact j_E_equal_114   _
def m_E_equal_67 (G : Nat → Nat) (a1 : Int32) (a2 : Int32) (a3 : Nat) (a4 : Nat) (h : hp_H) : Option (Int32 × hp_H) := if a1 = a2 then (some ((1 : Int32), h)) else ((hp_gI h a3 3 0).bind fun x1 => if x1 = (7 : Int32) then ((hp_gI h a4 3 0).bind fun x2 => if (3 : Int32) ≤ x2 then (m_E_equal_110 G h) else (m_E_equal_92 G a3 a4 h)) else (m_E_equal_92 G a3 a4 h))
set_option maxRecDepth 100000 in
set_option maxHeartbeats 4000000 in
theorem j_E_equal_67 {Z : hp_Z} (a1 : Int32) (a2 : Int32) (a3 : Nat) (a4 : Nat) (h : hp_H) : hp_J Y_E_equal Z hp_rI h 67 [(1, .int a1), (2, .int a2), (3, .ref a3), (4, .ref a4)] [] (m_E_equal_67 (hp_G Z)  a1 a2 a3 a4 h) := by
  unfold m_E_equal_67
  refine hp_iload_n (x0 := 0) d_E_equal_67 rfl rfl ?_
  refine hp_iload_n (x0 := 1) d_E_equal_68 rfl rfl ?_
  refine hp_icmp_ne (tgt := 74) d_E_equal_69 (by decide) ?_ ?_
  · refine hp_iconst (v := 1) d_E_equal_72 (by decide) ?_
    exact hp_iret d_E_equal_73 rfl
  · refine hp_aload_n (x0 := 2) d_E_equal_74 rfl rfl ?_
    refine hp_getI fl_E_93 d_E_equal_75 fun x1 => ?_
    refine hp_bipush (v := 7) d_E_equal_78 (by decide) ?_
    refine hp_icmp_ne (tgt := 92) d_E_equal_80 (by decide) ?_ ?_
    · refine hp_aload (x0 := 3) d_E_equal_83 rfl ?_
      refine hp_getI fl_E_93 d_E_equal_85 fun x2 => ?_
      refine hp_iconst (v := 3) d_E_equal_88 (by decide) ?_
      refine hp_icmp_ge (tgt := 110) d_E_equal_89 (by decide) ?_ ?_
      · refine hp_sub [] rfl ?_
        exact j_E_equal_110   _
      · refine hp_sub [2, 3] rfl ?_
        exact j_E_equal_92  _ _ _
    · refine hp_sub [2, 3] rfl ?_
      exact j_E_equal_92  _ _ _
def m_E_equal (G : Nat → Nat) (a0 : Nat) (a1 : Int32) (a2 : Int32) (h : hp_H) : Option (Int32 × hp_H) := (hp_gR h a0 5 0).bind fun x1 => (hp_vck h x1 1 (m_S_at G x1 a1 h)).bind fun q2 => hp_nm q2.1 fun x3 => (hp_gR q2.2 a0 5 0).bind fun x4 => (hp_vck q2.2 x4 1 (m_S_at G x4 a2 q2.2)).bind fun q5 => hp_nm q5.1 fun x6 => (hp_gI q5.2 x3 3 0).bind fun x7 => if x7 = 0 then (m_E_equal_34 G q5.2) else ((hp_gI q5.2 x6 3 0).bind fun x8 => if x8 = 0 then (m_E_equal_34 G q5.2) else ((hp_vck q5.2 x3 3 (m_V_isNumber G x3 q5.2)).bind fun q9 => if q9.1 = 0 then (m_E_equal_67 G a1 a2 x3 x6 q9.2) else ((hp_vck q9.2 x6 3 (m_V_isNumber G x6 q9.2)).bind fun q10 => if q10.1 = 0 then (m_E_equal_67 G a1 a2 x3 x6 q10.2) else ((hp_vck q10.2 x3 3 (m_V_comparedByAmount G x3 x6 q10.2)).bind fun q11 => if q11.1 = 0 then (m_E_equal_66 G (1 : Int32) q11.2) else (m_E_equal_66 G (0 : Int32) q11.2)))))
set_option maxRecDepth 100000 in
set_option maxHeartbeats 4000000 in
theorem j_E_equal_0 {Z : hp_Z} (a0 : Nat) (a1 : Int32) (a2 : Int32) (h : hp_H) : hp_J Y_E_equal Z hp_rI h 0 [(0, .ref a0), (1, .int a1), (2, .int a2)] [] (m_E_equal (hp_G Z)  a0 a1 a2 h) := by
  unfold m_E_equal
  refine hp_aload_n (x0 := 0) d_E_equal_0 rfl rfl ?_
  refine hp_getR fl_E_38 d_E_equal_1 fun x1 => ?_
  refine hp_iload_n (x0 := 1) d_E_equal_4 rfl rfl ?_
  refine hp_callR (hp_crV (ci := 1) (t_S_at _ _ _ _) cw_E_86 rfl ⟨w_426, w_427⟩ (by decide) rfl rfl (Nat.le_of_ble_eq_true rfl) d_E_equal_5) fun q2 => ?_
  refine hp_astore_n (fun x3 => [(3, .ref x3), (0, .ref a0), (1, .int a1), (2, .int a2)]) d_E_equal_8 rfl (by decide) (fun _ => rfl) fun x3 => ?_
  refine hp_aload_n (x0 := 1) d_E_equal_9 rfl rfl ?_
  refine hp_getR fl_E_38 d_E_equal_10 fun x4 => ?_
  refine hp_iload_n (x0 := 3) d_E_equal_13 rfl rfl ?_
  refine hp_callR (hp_crV (ci := 1) (t_S_at _ _ _ _) cw_E_86 rfl ⟨w_426, w_427⟩ (by decide) rfl rfl (Nat.le_of_ble_eq_true rfl) d_E_equal_14) fun q5 => ?_
  refine hp_astore (fun x6 => [(4, .ref x6), (3, .ref x3), (0, .ref a0), (1, .int a1), (2, .int a2)]) d_E_equal_17 (by decide) (fun _ => rfl) fun x6 => ?_
  refine hp_aload_n (x0 := 1) d_E_equal_19 rfl rfl ?_
  refine hp_getI fl_E_93 d_E_equal_20 fun x7 => ?_
  refine hp_if_eq (tgt := 34) d_E_equal_23 (by decide) ?_ ?_
  · refine hp_sub [] rfl ?_
    exact j_E_equal_34   _
  · refine hp_aload (x0 := 0) d_E_equal_26 rfl ?_
    refine hp_getI fl_E_93 d_E_equal_28 fun x8 => ?_
    refine hp_if_ne (tgt := 37) d_E_equal_31 (by decide) ?_ ?_
    · refine hp_sub [] rfl ?_
      exact j_E_equal_34   _
    · refine hp_aload_n (x0 := 1) d_E_equal_37 rfl rfl ?_
      refine hp_callI (hp_crV (ci := 3) (t_V_isNumber _ _ _) cw_E_147 rfl ⟨w_454, w_455⟩ (by decide) rfl rfl (Nat.le_of_ble_eq_true rfl) d_E_equal_38) fun q9 => ?_
      refine hp_if_eq (tgt := 67) d_E_equal_41 (by decide) ?_ ?_
      · refine hp_sub [3, 4, 1, 0] rfl ?_
        exact j_E_equal_67  _ _ _ _ _
      · refine hp_aload (x0 := 0) d_E_equal_44 rfl ?_
        refine hp_callI (hp_crV (ci := 3) (t_V_isNumber _ _ _) cw_E_147 rfl ⟨w_454, w_455⟩ (by decide) rfl rfl (Nat.le_of_ble_eq_true rfl) d_E_equal_46) fun q10 => ?_
        refine hp_if_eq (tgt := 67) d_E_equal_49 (by decide) ?_ ?_
        · refine hp_sub [3, 4, 1, 0] rfl ?_
          exact j_E_equal_67  _ _ _ _ _
        · refine hp_aload_n (x0 := 1) d_E_equal_52 rfl rfl ?_
          refine hp_aload (x0 := 0) d_E_equal_53 rfl ?_
          refine hp_callI (hp_crV (ci := 3) (t_V_comparedByAmount _ _ _ _) cw_E_150 rfl ⟨w_458, w_459⟩ (by decide) rfl rfl (Nat.le_of_ble_eq_true rfl) d_E_equal_55) fun q11 => ?_
          refine hp_if_ne (tgt := 65) d_E_equal_58 (by decide) ?_ ?_
          · refine hp_iconst (v := 1) d_E_equal_61 (by decide) ?_
            refine hp_goto (tgt := 66) d_E_equal_62 (by decide) ?_
            refine hp_sub [] rfl ?_
            exact j_E_equal_66  _ _
          · refine hp_iconst (v := 0) d_E_equal_65 (by decide) ?_
            refine hp_sub [] rfl ?_
            exact j_E_equal_66  _ _
theorem t_E_equal (l : Launch) (E : hp_E) (a0 : Nat) (a1 : Int32) (a2 : Int32) : hp_M l E y_E_equal Y_E_equal hp_rI [.ref a0, .int a1, .int a2] (m_E_equal E.2.2.1 a0 a1 a2) := hp_M.of (plainFor_of_name (by decide)) ⟨rfl, rfl⟩ (Nat.le_of_ble_eq_true rfl) (fun Z h hE => by subst hE; exact j_E_equal_0 _ _ _ h)
-- E_judged
theorem d_E_judged_0 : decode prog_2_method_16_code 0 = .ok (.iload_n 1, 1) := by decide +kernel
theorem d_E_judged_1 : decode prog_2_method_16_code 1 = .ok (.bipush (-4), 2) := by decide +kernel
theorem d_E_judged_3 : decode prog_2_method_16_code 3 = .ok (.if_icmp .ne 8, 3) := by decide +kernel
theorem d_E_judged_6 : decode prog_2_method_16_code 6 = .ok (.bipush (-4), 2) := by decide +kernel
theorem d_E_judged_8 : decode prog_2_method_16_code 8 = .ok (.goto 20, 3) := by decide +kernel
theorem d_E_judged_11 : decode prog_2_method_16_code 11 = .ok (.aload_n 0, 1) := by decide +kernel
theorem d_E_judged_12 : decode prog_2_method_16_code 12 = .ok (.getfield 38, 3) := by decide +kernel
theorem d_E_judged_15 : decode prog_2_method_16_code 15 = .ok (.iload_n 1, 1) := by decide +kernel
theorem d_E_judged_16 : decode prog_2_method_16_code 16 = .ok (.iload_n 2, 1) := by decide +kernel
theorem d_E_judged_17 : decode prog_2_method_16_code 17 = .ok (.if_icmp .ne 7, 3) := by decide +kernel
theorem d_E_judged_20 : decode prog_2_method_16_code 20 = .ok (.iconst 1, 1) := by decide +kernel
theorem d_E_judged_21 : decode prog_2_method_16_code 21 = .ok (.goto 4, 3) := by decide +kernel
theorem d_E_judged_24 : decode prog_2_method_16_code 24 = .ok (.iconst 0, 1) := by decide +kernel
theorem d_E_judged_25 : decode prog_2_method_16_code 25 = .ok (.invokevirtual 101, 3) := by decide +kernel
theorem d_E_judged_28 : decode prog_2_method_16_code 28 = .ok (.ireturn, 1) := by decide +kernel
def m_E_judged_28 (G : Nat → Nat) (s0 : Int32) (h : hp_H) : Option (Int32 × hp_H) := some (s0, h)
set_option maxRecDepth 100000 in
set_option maxHeartbeats 4000000 in
theorem j_E_judged_28 {Z : hp_Z} (s0 : Int32) (h : hp_H) : hp_J Y_E_judged Z hp_rI h 28 [] [.int s0] (m_E_judged_28 (hp_G Z)  s0 h) := by
  unfold m_E_judged_28
  exact hp_iret d_E_judged_28 rfl
def m_E_judged_25 (G : Nat → Nat) (s0 : Int32) (s1 : Nat) (h : hp_H) : Option (Int32 × hp_H) := (hp_vck h s1 1 (m_S_keepTruth G s1 s0 h)).bind fun q1 => m_E_judged_28 G q1.1 q1.2
set_option maxRecDepth 100000 in
set_option maxHeartbeats 4000000 in
theorem j_E_judged_25 {Z : hp_Z} (s0 : Int32) (s1 : Nat) (h : hp_H) : hp_J Y_E_judged Z hp_rI h 25 [] [.int s0, .ref s1] (m_E_judged_25 (hp_G Z)  s0 s1 h) := by
  unfold m_E_judged_25
  refine hp_callI (hp_crV (ci := 1) (t_S_keepTruth _ _ _ _) cw_E_101 rfl ⟨w_391, w_392⟩ (by decide) rfl rfl (Nat.le_of_ble_eq_true rfl) d_E_judged_25) fun q1 => ?_
  exact j_E_judged_28  _ _
def m_E_judged (G : Nat → Nat) (a0 : Nat) (a1 : Int32) (a2 : Int32) (h : hp_H) : Option (Int32 × hp_H) := if a1 = (-4 : Int32) then (m_E_judged_28 G (-4 : Int32) h) else ((hp_gR h a0 5 0).bind fun x1 => if a1 = a2 then (m_E_judged_25 G (1 : Int32) x1 h) else (m_E_judged_25 G (0 : Int32) x1 h))
set_option maxRecDepth 100000 in
set_option maxHeartbeats 4000000 in
theorem j_E_judged_0 {Z : hp_Z} (a0 : Nat) (a1 : Int32) (a2 : Int32) (h : hp_H) : hp_J Y_E_judged Z hp_rI h 0 [(0, .ref a0), (1, .int a1), (2, .int a2)] [] (m_E_judged (hp_G Z)  a0 a1 a2 h) := by
  unfold m_E_judged
  refine hp_iload_n (x0 := 1) d_E_judged_0 rfl rfl ?_
  refine hp_bipush (v := -4) d_E_judged_1 (by decide) ?_
  refine hp_icmp_ne (tgt := 11) d_E_judged_3 (by decide) ?_ ?_
  · refine hp_bipush (v := -4) d_E_judged_6 (by decide) ?_
    refine hp_goto (tgt := 28) d_E_judged_8 (by decide) ?_
    refine hp_sub [] rfl ?_
    exact j_E_judged_28  _ _
  · refine hp_aload_n (x0 := 0) d_E_judged_11 rfl rfl ?_
    refine hp_getR fl_E_38 d_E_judged_12 fun x1 => ?_
    refine hp_iload_n (x0 := 1) d_E_judged_15 rfl rfl ?_
    refine hp_iload_n (x0 := 2) d_E_judged_16 rfl rfl ?_
    refine hp_icmp_ne (tgt := 24) d_E_judged_17 (by decide) ?_ ?_
    · refine hp_iconst (v := 1) d_E_judged_20 (by decide) ?_
      refine hp_goto (tgt := 25) d_E_judged_21 (by decide) ?_
      refine hp_sub [] rfl ?_
      exact j_E_judged_25  _ _ _
    · refine hp_iconst (v := 0) d_E_judged_24 (by decide) ?_
      refine hp_sub [] rfl ?_
      exact j_E_judged_25  _ _ _
theorem t_E_judged (l : Launch) (E : hp_E) (a0 : Nat) (a1 : Int32) (a2 : Int32) : hp_M l E y_E_judged Y_E_judged hp_rI [.ref a0, .int a1, .int a2] (m_E_judged E.2.2.1 a0 a1 a2) := hp_M.of (plainFor_of_name (by decide)) ⟨rfl, rfl⟩ (Nat.le_of_ble_eq_true rfl) (fun Z h hE => by subst hE; exact j_E_judged_0 _ _ _ h)
-- R_putDigits
theorem d_R_putDigits_0 : decode prog_5_method_6_code 0 = .ok (.iconst 0, 1) := by decide +kernel
theorem d_R_putDigits_1 : decode prog_5_method_6_code 1 = .ok (.istore 4, 2) := by decide +kernel
theorem d_R_putDigits_3 : decode prog_5_method_6_code 3 = .ok (.getstatic 42, 3) := by decide +kernel
theorem d_R_putDigits_6 : decode prog_5_method_6_code 6 = .ok (.arraylength, 1) := by decide +kernel
theorem d_R_putDigits_7 : decode prog_5_method_6_code 7 = .ok (.iconst 1, 1) := by decide +kernel
theorem d_R_putDigits_8 : decode prog_5_method_6_code 8 = .ok (.isub, 1) := by decide +kernel
theorem d_R_putDigits_9 : decode prog_5_method_6_code 9 = .ok (.istore 5, 2) := by decide +kernel
theorem d_R_putDigits_11 : decode prog_5_method_6_code 11 = .ok (.iload 5, 2) := by decide +kernel
theorem d_R_putDigits_13 : decode prog_5_method_6_code 13 = .ok (.ifCond .lt 63, 3) := by decide +kernel
theorem d_R_putDigits_16 : decode prog_5_method_6_code 16 = .ok (.lload_n 1, 1) := by decide +kernel
theorem d_R_putDigits_17 : decode prog_5_method_6_code 17 = .ok (.iload 5, 2) := by decide +kernel
theorem d_R_putDigits_19 : decode prog_5_method_6_code 19 = .ok (.invokestatic 46, 3) := by decide +kernel
theorem d_R_putDigits_22 : decode prog_5_method_6_code 22 = .ok (.ldiv, 1) := by decide +kernel
theorem d_R_putDigits_23 : decode prog_5_method_6_code 23 = .ok (.ldc2_w 50, 3) := by decide +kernel
theorem d_R_putDigits_26 : decode prog_5_method_6_code 26 = .ok (.lrem, 1) := by decide +kernel
theorem d_R_putDigits_27 : decode prog_5_method_6_code 27 = .ok (.lstore 6, 2) := by decide +kernel
theorem d_R_putDigits_29 : decode prog_5_method_6_code 29 = .ok (.iload 4, 2) := by decide +kernel
theorem d_R_putDigits_31 : decode prog_5_method_6_code 31 = .ok (.ifCond .ne 16, 3) := by decide +kernel
theorem d_R_putDigits_34 : decode prog_5_method_6_code 34 = .ok (.lload 6, 2) := by decide +kernel
theorem d_R_putDigits_36 : decode prog_5_method_6_code 36 = .ok (.lconst 0, 1) := by decide +kernel
theorem d_R_putDigits_37 : decode prog_5_method_6_code 37 = .ok (.lcmp, 1) := by decide +kernel
theorem d_R_putDigits_38 : decode prog_5_method_6_code 38 = .ok (.ifCond .ne 9, 3) := by decide +kernel
theorem d_R_putDigits_41 : decode prog_5_method_6_code 41 = .ok (.iload 5, 2) := by decide +kernel
theorem d_R_putDigits_43 : decode prog_5_method_6_code 43 = .ok (.iload_n 3, 1) := by decide +kernel
theorem d_R_putDigits_44 : decode prog_5_method_6_code 44 = .ok (.if_icmp .ge 7, 3) := by decide +kernel
theorem d_R_putDigits_47 : decode prog_5_method_6_code 47 = .ok (.iconst 1, 1) := by decide +kernel
theorem d_R_putDigits_48 : decode prog_5_method_6_code 48 = .ok (.goto 4, 3) := by decide +kernel
theorem d_R_putDigits_51 : decode prog_5_method_6_code 51 = .ok (.iconst 0, 1) := by decide +kernel
theorem d_R_putDigits_52 : decode prog_5_method_6_code 52 = .ok (.istore 4, 2) := by decide +kernel
theorem d_R_putDigits_54 : decode prog_5_method_6_code 54 = .ok (.iload 4, 2) := by decide +kernel
theorem d_R_putDigits_56 : decode prog_5_method_6_code 56 = .ok (.ifCond .eq 14, 3) := by decide +kernel
theorem d_R_putDigits_59 : decode prog_5_method_6_code 59 = .ok (.aload_n 0, 1) := by decide +kernel
theorem d_R_putDigits_60 : decode prog_5_method_6_code 60 = .ok (.ldc2_w 52, 3) := by decide +kernel
theorem d_R_putDigits_63 : decode prog_5_method_6_code 63 = .ok (.lload 6, 2) := by decide +kernel
theorem d_R_putDigits_65 : decode prog_5_method_6_code 65 = .ok (.ladd, 1) := by decide +kernel
theorem d_R_putDigits_66 : decode prog_5_method_6_code 66 = .ok (.l2i, 1) := by decide +kernel
theorem d_R_putDigits_67 : decode prog_5_method_6_code 67 = .ok (.invokevirtual 29, 3) := by decide +kernel
theorem d_R_putDigits_70 : decode prog_5_method_6_code 70 = .ok (.iinc 5 (-1), 3) := by decide +kernel
theorem d_R_putDigits_73 : decode prog_5_method_6_code 73 = .ok (.goto (-62), 3) := by decide +kernel
theorem d_R_putDigits_76 : decode prog_5_method_6_code 76 = .ok (.return_, 1) := by decide +kernel
def m_R_putDigits_70 (G : Nat → Nat) (r11 : Nat → Int64 → Int32 → Int32 → Int32 → hp_H → Option (Unit × hp_H)) (a0 : Nat) (a1 : Int64) (a3 : Int32) (a4 : Int32) (a5 : Int32) (h : hp_H) : Option (Unit × hp_H) := hp_nm (a5 + (-1)) fun x1 => r11 a0 a1 a3 a4 x1 h
set_option maxRecDepth 100000 in
set_option maxHeartbeats 4000000 in
theorem j_R_putDigits_70 {Z : hp_Z} (r11 : Nat → Int64 → Int32 → Int32 → Int32 → hp_H → Option (Unit × hp_H)) (hr11 : ∀ (a0 : Nat) (a1 : Int64) (a3 : Int32) (a4 : Int32) (a5 : Int32) (h : hp_H), hp_J Y_R_putDigits Z hp_rV h 11 [(0, .ref a0), (1, .long a1), (3, .int a3), (4, .int a4), (5, .int a5)] [] (r11 a0 a1 a3 a4 a5  h)) (a0 : Nat) (a1 : Int64) (a3 : Int32) (a4 : Int32) (a5 : Int32) (h : hp_H) : hp_J Y_R_putDigits Z hp_rV h 70 [(0, .ref a0), (1, .long a1), (3, .int a3), (4, .int a4), (5, .int a5)] [] (m_R_putDigits_70 (hp_G Z) r11 a0 a1 a3 a4 a5 h) := by
  unfold m_R_putDigits_70
  refine hp_iinc (x0 := 4) (d := -1) (fun x1 => [(5, .int x1), (0, .ref a0), (1, .long a1), (3, .int a3), (4, .int a4)]) d_R_putDigits_70 rfl (by decide) (by decide) (fun _ => rfl) fun x1 => ?_
  refine hp_goto (tgt := 11) d_R_putDigits_73 (by decide) ?_
  refine hp_sub [1, 2, 3, 4, 0] rfl ?_
  exact hr11 _ _ _ _ _ _
def m_R_putDigits_52 (G : Nat → Nat) (r11 : Nat → Int64 → Int32 → Int32 → Int32 → hp_H → Option (Unit × hp_H)) (a0 : Nat) (a1 : Int64) (a3 : Int32) (a5 : Int32) (a6 : Int64) (s0 : Int32) (h : hp_H) : Option (Unit × hp_H) := hp_nm s0 fun x1 => if x1 = 0 then (m_R_putDigits_70 G r11 a0 a1 a3 x1 a5 h) else ((hp_vck h a0 4 (m_R_put G a0 (((48 : Int64) + a6).toInt32) h)).bind fun q2 => m_R_putDigits_70 G r11 a0 a1 a3 x1 a5 q2.2)
set_option maxRecDepth 100000 in
set_option maxHeartbeats 4000000 in
theorem j_R_putDigits_52 {Z : hp_Z} (r11 : Nat → Int64 → Int32 → Int32 → Int32 → hp_H → Option (Unit × hp_H)) (hr11 : ∀ (a0 : Nat) (a1 : Int64) (a3 : Int32) (a4 : Int32) (a5 : Int32) (h : hp_H), hp_J Y_R_putDigits Z hp_rV h 11 [(0, .ref a0), (1, .long a1), (3, .int a3), (4, .int a4), (5, .int a5)] [] (r11 a0 a1 a3 a4 a5  h)) (a0 : Nat) (a1 : Int64) (a3 : Int32) (a5 : Int32) (a6 : Int64) (s0 : Int32) (h : hp_H) : hp_J Y_R_putDigits Z hp_rV h 52 [(0, .ref a0), (1, .long a1), (3, .int a3), (5, .int a5), (6, .long a6)] [.int s0] (m_R_putDigits_52 (hp_G Z) r11 a0 a1 a3 a5 a6 s0 h) := by
  unfold m_R_putDigits_52
  refine hp_istore (fun x1 => [(4, .int x1), (0, .ref a0), (1, .long a1), (3, .int a3), (5, .int a5), (6, .long a6)]) d_R_putDigits_52 (by decide) (fun _ => rfl) fun x1 => ?_
  refine hp_iload (x0 := 0) d_R_putDigits_54 rfl ?_
  refine hp_if_eq (tgt := 70) d_R_putDigits_56 (by decide) ?_ ?_
  · refine hp_sub [1, 2, 3, 0, 4] rfl ?_
    exact j_R_putDigits_70 _ hr11 _ _ _ _ _ _
  · refine hp_aload_n (x0 := 1) d_R_putDigits_59 rfl rfl ?_
    refine hp_ldc2 (v := 48) d_R_putDigits_60 w_710 ?_
    refine hp_lload (x0 := 5) d_R_putDigits_63 rfl ?_
    refine hp_ladd d_R_putDigits_65 ?_
    refine hp_l2i d_R_putDigits_66 ?_
    refine hp_callU (hp_crV (ci := 4) (t_R_put _ _ _ _) cw_R_29 rfl ⟨w_269, w_270⟩ (by decide) rfl rfl (Nat.le_of_ble_eq_true rfl) d_R_putDigits_67) fun q2 => ?_
    refine hp_sub [1, 2, 3, 0, 4] rfl ?_
    exact j_R_putDigits_70 _ hr11 _ _ _ _ _ _
def m_R_putDigits_47 (G : Nat → Nat) (r11 : Nat → Int64 → Int32 → Int32 → Int32 → hp_H → Option (Unit × hp_H)) (a0 : Nat) (a1 : Int64) (a3 : Int32) (a5 : Int32) (a6 : Int64) (h : hp_H) : Option (Unit × hp_H) := m_R_putDigits_52 G r11 a0 a1 a3 a5 a6 (1 : Int32) h
set_option maxRecDepth 100000 in
set_option maxHeartbeats 4000000 in
theorem j_R_putDigits_47 {Z : hp_Z} (r11 : Nat → Int64 → Int32 → Int32 → Int32 → hp_H → Option (Unit × hp_H)) (hr11 : ∀ (a0 : Nat) (a1 : Int64) (a3 : Int32) (a4 : Int32) (a5 : Int32) (h : hp_H), hp_J Y_R_putDigits Z hp_rV h 11 [(0, .ref a0), (1, .long a1), (3, .int a3), (4, .int a4), (5, .int a5)] [] (r11 a0 a1 a3 a4 a5  h)) (a0 : Nat) (a1 : Int64) (a3 : Int32) (a5 : Int32) (a6 : Int64) (h : hp_H) : hp_J Y_R_putDigits Z hp_rV h 47 [(0, .ref a0), (1, .long a1), (3, .int a3), (5, .int a5), (6, .long a6)] [] (m_R_putDigits_47 (hp_G Z) r11 a0 a1 a3 a5 a6 h) := by
  unfold m_R_putDigits_47
  refine hp_iconst (v := 1) d_R_putDigits_47 (by decide) ?_
  refine hp_goto (tgt := 52) d_R_putDigits_48 (by decide) ?_
  exact j_R_putDigits_52 _ hr11 _ _ _ _ _ _ _
def m_R_putDigits_11 (G : Nat → Nat) : Nat → Nat → Int64 → Int32 → Int32 → Int32 → hp_H → Option (Unit × hp_H)
  | 0, _, _, _, _, _, _ => none
  | n + 1, a0, a1, a3, a4, a5, h => if a5 < 0 then (some ((), h)) else ((m_D_power G a5 h).bind fun q1 => (hp_dL a1 q1.1).bind fun x2 => (hp_mL x2 (10 : Int64)).bind fun x3 => hp_nm x3 fun x4 => if a4 = 0 then (if (lg_cmp x4 (0 : Int64)) = 0 then (if a3 ≤ a5 then (m_R_putDigits_52 G (m_R_putDigits_11 G  n) a0 a1 a3 a5 x4 (0 : Int32) q1.2) else (m_R_putDigits_47 G (m_R_putDigits_11 G  n) a0 a1 a3 a5 x4 q1.2)) else (m_R_putDigits_47 G (m_R_putDigits_11 G  n) a0 a1 a3 a5 x4 q1.2)) else (m_R_putDigits_47 G (m_R_putDigits_11 G  n) a0 a1 a3 a5 x4 q1.2))
set_option maxRecDepth 100000 in
set_option maxHeartbeats 4000000 in
theorem j_R_putDigits_11 {Z : hp_Z} : ∀ (n : Nat) (a0 : Nat) (a1 : Int64) (a3 : Int32) (a4 : Int32) (a5 : Int32) (h : hp_H), hp_J Y_R_putDigits Z hp_rV h 11 [(0, .ref a0), (1, .long a1), (3, .int a3), (4, .int a4), (5, .int a5)] [] (m_R_putDigits_11 (hp_G Z)  n a0 a1 a3 a4 a5 h) := by
  intro n
  induction n with
  | zero => intro a0 a1 a3 a4 a5 h; exact hp_fail
  | succ n ih =>
    intro a0 a1 a3 a4 a5 h
    rw [m_R_putDigits_11]
    refine hp_iload (x0 := 4) d_R_putDigits_11 rfl ?_
    refine hp_if_lt (tgt := 76) d_R_putDigits_13 (by decide) ?_ ?_
    · exact hp_vret d_R_putDigits_76 rfl
    · refine hp_lload_n (x0 := 1) d_R_putDigits_16 rfl rfl ?_
      refine hp_iload (x0 := 4) d_R_putDigits_17 rfl ?_
      refine hp_callL (hp_crSN (t_D_power _ _ _) cw_R_46 w_462 (by decide) rfl rfl (Nat.le_of_ble_eq_true rfl) d_R_putDigits_19) fun q1 => ?_
      refine hp_ldiv d_R_putDigits_22 fun x2 => ?_
      refine hp_ldc2 (v := 10) d_R_putDigits_23 w_709 ?_
      refine hp_lrem d_R_putDigits_26 fun x3 => ?_
      refine hp_lstore (fun x4 => [(6, .long x4), (0, .ref a0), (1, .long a1), (3, .int a3), (4, .int a4), (5, .int a5)]) d_R_putDigits_27 (by decide) (fun _ => rfl) fun x4 => ?_
      refine hp_iload (x0 := 4) d_R_putDigits_29 rfl ?_
      refine hp_if_ne (tgt := 47) d_R_putDigits_31 (by decide) ?_ ?_
      · refine hp_lload (x0 := 0) d_R_putDigits_34 rfl ?_
        refine hp_lconst (v := 0) d_R_putDigits_36 (by decide) ?_
        refine hp_lcmp d_R_putDigits_37 ?_
        refine hp_if_ne (tgt := 47) d_R_putDigits_38 (by decide) ?_ ?_
        · refine hp_iload (x0 := 5) d_R_putDigits_41 rfl ?_
          refine hp_iload_n (x0 := 3) d_R_putDigits_43 rfl rfl ?_
          refine hp_icmp_ge (tgt := 51) d_R_putDigits_44 (by decide) ?_ ?_
          · refine hp_iconst (v := 0) d_R_putDigits_51 (by decide) ?_
            refine hp_sub [1, 2, 3, 5, 0] rfl ?_
            exact j_R_putDigits_52 _ ih _ _ _ _ _ _ _
          · refine hp_sub [1, 2, 3, 5, 0] rfl ?_
            exact j_R_putDigits_47 _ ih _ _ _ _ _ _
        · refine hp_sub [1, 2, 3, 5, 0] rfl ?_
          exact j_R_putDigits_47 _ ih _ _ _ _ _ _
      · refine hp_sub [1, 2, 3, 5, 0] rfl ?_
        exact j_R_putDigits_47 _ ih _ _ _ _ _ _
def m_R_putDigits (G : Nat → Nat) (a0 : Nat) (a1 : Int64) (a3 : Int32) (h : hp_H) : Option (Unit × hp_H) := hp_nm (0 : Int32) fun x1 => (hp_len h (G 0)).bind fun x2 => hp_nm (x2 - (1 : Int32)) fun x3 => m_R_putDigits_11 G hp_fu a0 a1 a3 x1 x3 h
set_option maxRecDepth 100000 in
set_option maxHeartbeats 4000000 in
theorem j_R_putDigits_0 {Z : hp_Z} (a0 : Nat) (a1 : Int64) (a3 : Int32) (h : hp_H) : hp_J Y_R_putDigits Z hp_rV h 0 [(0, .ref a0), (1, .long a1), (3, .int a3)] [] (m_R_putDigits (hp_G Z)  a0 a1 a3 h) := by
  unfold m_R_putDigits
  refine hp_iconst (v := 0) d_R_putDigits_0 (by decide) ?_
  refine hp_istore (fun x1 => [(4, .int x1), (0, .ref a0), (1, .long a1), (3, .int a3)]) d_R_putDigits_1 (by decide) (fun _ => rfl) fun x1 => ?_
  refine hp_getsN (k := 0) rfl w_707 d_R_putDigits_3 ?_
  refine hp_alen d_R_putDigits_6 fun x2 => ?_
  refine hp_iconst (v := 1) d_R_putDigits_7 (by decide) ?_
  refine hp_isub d_R_putDigits_8 ?_
  refine hp_istore (fun x3 => [(5, .int x3), (4, .int x1), (0, .ref a0), (1, .long a1), (3, .int a3)]) d_R_putDigits_9 (by decide) (fun _ => rfl) fun x3 => ?_
  refine hp_sub [2, 3, 4, 1, 0] rfl ?_
  exact j_R_putDigits_11  hp_fu _ _ _ _ _ _
theorem t_R_putDigits (l : Launch) (E : hp_E) (a0 : Nat) (a1 : Int64) (a3 : Int32) : hp_M l E y_R_putDigits Y_R_putDigits hp_rV [.ref a0, .long a1, .int a3] (m_R_putDigits E.2.2.1 a0 a1 a3) := hp_M.of (plainFor_of_name (by decide)) ⟨rfl, rfl⟩ (Nat.le_of_ble_eq_true rfl) (fun Z h hE => by subst hE; exact j_R_putDigits_0 _ _ _ h)
-- E_tagText
theorem d_E_tagText_0 : decode prog_2_method_34_code 0 = .ok (.aload_n 1, 1) := by decide +kernel
theorem d_E_tagText_1 : decode prog_2_method_34_code 1 = .ok (.getfield 93, 3) := by decide +kernel
theorem d_E_tagText_4 : decode prog_2_method_34_code 4 = .ok (.iconst 3, 1) := by decide +kernel
theorem d_E_tagText_5 : decode prog_2_method_34_code 5 = .ok (.if_icmp .ge 6, 3) := by decide +kernel
theorem d_E_tagText_8 : decode prog_2_method_34_code 8 = .ok (.bipush (-4), 2) := by decide +kernel
theorem d_E_tagText_10 : decode prog_2_method_34_code 10 = .ok (.ireturn, 1) := by decide +kernel
theorem d_E_tagText_11 : decode prog_2_method_34_code 11 = .ok (.aload_n 0, 1) := by decide +kernel
theorem d_E_tagText_12 : decode prog_2_method_34_code 12 = .ok (.getfield 27, 3) := by decide +kernel
theorem d_E_tagText_15 : decode prog_2_method_34_code 15 = .ok (.invokevirtual 205, 3) := by decide +kernel
theorem d_E_tagText_18 : decode prog_2_method_34_code 18 = .ok (.aload_n 1, 1) := by decide +kernel
theorem d_E_tagText_19 : decode prog_2_method_34_code 19 = .ok (.getfield 93, 3) := by decide +kernel
theorem d_E_tagText_22 : decode prog_2_method_34_code 22 = .ok (.bipush 6, 2) := by decide +kernel
theorem d_E_tagText_24 : decode prog_2_method_34_code 24 = .ok (.if_icmp .ne 16, 3) := by decide +kernel
theorem d_E_tagText_27 : decode prog_2_method_34_code 27 = .ok (.aload_n 0, 1) := by decide +kernel
theorem d_E_tagText_28 : decode prog_2_method_34_code 28 = .ok (.getfield 27, 3) := by decide +kernel
theorem d_E_tagText_31 : decode prog_2_method_34_code 31 = .ok (.aload_n 1, 1) := by decide +kernel
theorem d_E_tagText_32 : decode prog_2_method_34_code 32 = .ok (.getfield 208, 3) := by decide +kernel
theorem d_E_tagText_35 : decode prog_2_method_34_code 35 = .ok (.i2l, 1) := by decide +kernel
theorem d_E_tagText_36 : decode prog_2_method_34_code 36 = .ok (.iconst 1, 1) := by decide +kernel
theorem d_E_tagText_37 : decode prog_2_method_34_code 37 = .ok (.invokevirtual 265, 3) := by decide +kernel
theorem d_E_tagText_40 : decode prog_2_method_34_code 40 = .ok (.aload_n 0, 1) := by decide +kernel
theorem d_E_tagText_41 : decode prog_2_method_34_code 41 = .ok (.getfield 38, 3) := by decide +kernel
theorem d_E_tagText_44 : decode prog_2_method_34_code 44 = .ok (.iconst 5, 1) := by decide +kernel
theorem d_E_tagText_45 : decode prog_2_method_34_code 45 = .ok (.iconst 0, 1) := by decide +kernel
theorem d_E_tagText_46 : decode prog_2_method_34_code 46 = .ok (.aload_n 0, 1) := by decide +kernel
theorem d_E_tagText_47 : decode prog_2_method_34_code 47 = .ok (.getfield 27, 3) := by decide +kernel
theorem d_E_tagText_50 : decode prog_2_method_34_code 50 = .ok (.invokevirtual 222, 3) := by decide +kernel
theorem d_E_tagText_53 : decode prog_2_method_34_code 53 = .ok (.ireturn, 1) := by decide +kernel
def m_E_tagText_40 (G : Nat → Nat) (a0 : Nat) (h : hp_H) : Option (Int32 × hp_H) := (hp_gR h a0 5 0).bind fun x1 => (hp_gR h a0 5 5).bind fun x2 => (hp_vck h x1 1 (m_S_keepRow G x1 (5 : Int32) (0 : Int32) x2 h)).bind fun q3 => some (q3.1, q3.2)
set_option maxRecDepth 100000 in
set_option maxHeartbeats 4000000 in
theorem j_E_tagText_40 {Z : hp_Z} (a0 : Nat) (h : hp_H) : hp_J Y_E_tagText Z hp_rI h 40 [(0, .ref a0)] [] (m_E_tagText_40 (hp_G Z)  a0 h) := by
  unfold m_E_tagText_40
  refine hp_aload_n (x0 := 0) d_E_tagText_40 rfl rfl ?_
  refine hp_getR fl_E_38 d_E_tagText_41 fun x1 => ?_
  refine hp_iconst (v := 5) d_E_tagText_44 (by decide) ?_
  refine hp_iconst (v := 0) d_E_tagText_45 (by decide) ?_
  refine hp_aload_n (x0 := 0) d_E_tagText_46 rfl rfl ?_
  refine hp_getR fl_E_27 d_E_tagText_47 fun x2 => ?_
  refine hp_callI (hp_crV (ci := 1) (t_S_keepRow _ _ _ _ _ _) cw_E_222 rfl ⟨w_414, w_415⟩ (by decide) rfl rfl (Nat.le_of_ble_eq_true rfl) d_E_tagText_50) fun q3 => ?_
  exact hp_iret d_E_tagText_53 rfl
def m_E_tagText (G : Nat → Nat) (a0 : Nat) (a1 : Nat) (h : hp_H) : Option (Int32 × hp_H) := (hp_gI h a1 3 0).bind fun x1 => if (3 : Int32) ≤ x1 then ((hp_gR h a0 5 5).bind fun x2 => (hp_vck h x2 4 (m_R_clear G x2 h)).bind fun q3 => (hp_gI q3.2 a1 3 0).bind fun x4 => if x4 = (6 : Int32) then ((hp_gR q3.2 a0 5 5).bind fun x5 => (hp_gI q3.2 a1 3 1).bind fun x6 => (hp_vck q3.2 x5 4 (m_R_putDigits G x5 x6.toInt64 (1 : Int32) q3.2)).bind fun q7 => m_E_tagText_40 G a0 q7.2) else (m_E_tagText_40 G a0 q3.2)) else (some ((-4 : Int32), h))
set_option maxRecDepth 100000 in
set_option maxHeartbeats 4000000 in
theorem j_E_tagText_0 {Z : hp_Z} (a0 : Nat) (a1 : Nat) (h : hp_H) : hp_J Y_E_tagText Z hp_rI h 0 [(0, .ref a0), (1, .ref a1)] [] (m_E_tagText (hp_G Z)  a0 a1 h) := by
  unfold m_E_tagText
  refine hp_aload_n (x0 := 1) d_E_tagText_0 rfl rfl ?_
  refine hp_getI fl_E_93 d_E_tagText_1 fun x1 => ?_
  refine hp_iconst (v := 3) d_E_tagText_4 (by decide) ?_
  refine hp_icmp_ge (tgt := 11) d_E_tagText_5 (by decide) ?_ ?_
  · refine hp_aload_n (x0 := 0) d_E_tagText_11 rfl rfl ?_
    refine hp_getR fl_E_27 d_E_tagText_12 fun x2 => ?_
    refine hp_callU (hp_crV (ci := 4) (t_R_clear _ _ _) cw_E_205 rfl ⟨w_418, w_419⟩ (by decide) rfl rfl (Nat.le_of_ble_eq_true rfl) d_E_tagText_15) fun q3 => ?_
    refine hp_aload_n (x0 := 1) d_E_tagText_18 rfl rfl ?_
    refine hp_getI fl_E_93 d_E_tagText_19 fun x4 => ?_
    refine hp_bipush (v := 6) d_E_tagText_22 (by decide) ?_
    refine hp_icmp_ne (tgt := 40) d_E_tagText_24 (by decide) ?_ ?_
    · refine hp_aload_n (x0 := 0) d_E_tagText_27 rfl rfl ?_
      refine hp_getR fl_E_27 d_E_tagText_28 fun x5 => ?_
      refine hp_aload_n (x0 := 1) d_E_tagText_31 rfl rfl ?_
      refine hp_getI fl_E_208 d_E_tagText_32 fun x6 => ?_
      refine hp_i2l d_E_tagText_35 ?_
      refine hp_iconst (v := 1) d_E_tagText_36 (by decide) ?_
      refine hp_callU (hp_crV (ci := 4) (t_R_putDigits _ _ _ _ _) cw_E_265 rfl ⟨w_704, w_705⟩ (by decide) rfl rfl (Nat.le_of_ble_eq_true rfl) d_E_tagText_37) fun q7 => ?_
      refine hp_sub [0] rfl ?_
      exact j_E_tagText_40  _ _
    · refine hp_sub [0] rfl ?_
      exact j_E_tagText_40  _ _
  · refine hp_bipush (v := -4) d_E_tagText_8 (by decide) ?_
    exact hp_iret d_E_tagText_10 rfl
theorem t_E_tagText (l : Launch) (E : hp_E) (a0 : Nat) (a1 : Nat) : hp_M l E y_E_tagText Y_E_tagText hp_rI [.ref a0, .ref a1] (m_E_tagText E.2.2.1 a0 a1) := hp_M.of (plainFor_of_name (by decide)) ⟨rfl, rfl⟩ (Nat.le_of_ble_eq_true rfl) (fun Z h hE => by subst hE; exact j_E_tagText_0 _ _ h)
-- E_typeName
theorem d_E_typeName_0 : decode prog_2_method_35_code 0 = .ok (.aload_n 1, 1) := by decide +kernel
theorem d_E_typeName_1 : decode prog_2_method_35_code 1 = .ok (.getfield 93, 3) := by decide +kernel
theorem d_E_typeName_4 : decode prog_2_method_35_code 4 = .ok (.iconst 3, 1) := by decide +kernel
theorem d_E_typeName_5 : decode prog_2_method_35_code 5 = .ok (.if_icmp .lt 14, 3) := by decide +kernel
theorem d_E_typeName_8 : decode prog_2_method_35_code 8 = .ok (.aload_n 1, 1) := by decide +kernel
theorem d_E_typeName_9 : decode prog_2_method_35_code 9 = .ok (.getfield 93, 3) := by decide +kernel
theorem d_E_typeName_12 : decode prog_2_method_35_code 12 = .ok (.getstatic 268, 3) := by decide +kernel
theorem d_E_typeName_15 : decode prog_2_method_35_code 15 = .ok (.arraylength, 1) := by decide +kernel
theorem d_E_typeName_16 : decode prog_2_method_35_code 16 = .ok (.if_icmp .lt 6, 3) := by decide +kernel
theorem d_E_typeName_19 : decode prog_2_method_35_code 19 = .ok (.bipush (-4), 2) := by decide +kernel
theorem d_E_typeName_21 : decode prog_2_method_35_code 21 = .ok (.ireturn, 1) := by decide +kernel
theorem d_E_typeName_22 : decode prog_2_method_35_code 22 = .ok (.aload_n 0, 1) := by decide +kernel
theorem d_E_typeName_23 : decode prog_2_method_35_code 23 = .ok (.getfield 38, 3) := by decide +kernel
theorem d_E_typeName_26 : decode prog_2_method_35_code 26 = .ok (.iconst 2, 1) := by decide +kernel
theorem d_E_typeName_27 : decode prog_2_method_35_code 27 = .ok (.aload_n 1, 1) := by decide +kernel
theorem d_E_typeName_28 : decode prog_2_method_35_code 28 = .ok (.getfield 93, 3) := by decide +kernel
theorem d_E_typeName_31 : decode prog_2_method_35_code 31 = .ok (.bipush 7, 2) := by decide +kernel
theorem d_E_typeName_33 : decode prog_2_method_35_code 33 = .ok (.if_icmp .ne 10, 3) := by decide +kernel
theorem d_E_typeName_36 : decode prog_2_method_35_code 36 = .ok (.aload_n 1, 1) := by decide +kernel
theorem d_E_typeName_37 : decode prog_2_method_35_code 37 = .ok (.getfield 208, 3) := by decide +kernel
theorem d_E_typeName_40 : decode prog_2_method_35_code 40 = .ok (.goto 11, 3) := by decide +kernel
theorem d_E_typeName_43 : decode prog_2_method_35_code 43 = .ok (.getstatic 268, 3) := by decide +kernel
theorem d_E_typeName_46 : decode prog_2_method_35_code 46 = .ok (.aload_n 1, 1) := by decide +kernel
theorem d_E_typeName_47 : decode prog_2_method_35_code 47 = .ok (.getfield 93, 3) := by decide +kernel
theorem d_E_typeName_50 : decode prog_2_method_35_code 50 = .ok (.iaload, 1) := by decide +kernel
theorem d_E_typeName_51 : decode prog_2_method_35_code 51 = .ok (.invokevirtual 271, 3) := by decide +kernel
theorem d_E_typeName_54 : decode prog_2_method_35_code 54 = .ok (.ireturn, 1) := by decide +kernel
def m_E_typeName_19 (G : Nat → Nat) (h : hp_H) : Option (Int32 × hp_H) := some ((-4 : Int32), h)
set_option maxRecDepth 100000 in
set_option maxHeartbeats 4000000 in
theorem j_E_typeName_19 {Z : hp_Z} (h : hp_H) : hp_J Y_E_typeName Z hp_rI h 19 [] [] (m_E_typeName_19 (hp_G Z)   h) := by
  unfold m_E_typeName_19
  refine hp_bipush (v := -4) d_E_typeName_19 (by decide) ?_
  exact hp_iret d_E_typeName_21 rfl
def m_E_typeName_51 (G : Nat → Nat) (s0 : Int32) (s1 : Int32) (s2 : Nat) (h : hp_H) : Option (Int32 × hp_H) := (hp_vck h s2 1 (m_S_keepNumbered G s2 s1 s0 h)).bind fun q1 => some (q1.1, q1.2)
set_option maxRecDepth 100000 in
set_option maxHeartbeats 4000000 in
theorem j_E_typeName_51 {Z : hp_Z} (s0 : Int32) (s1 : Int32) (s2 : Nat) (h : hp_H) : hp_J Y_E_typeName Z hp_rI h 51 [] [.int s0, .int s1, .ref s2] (m_E_typeName_51 (hp_G Z)  s0 s1 s2 h) := by
  unfold m_E_typeName_51
  refine hp_callI (hp_crV (ci := 1) (t_S_keepNumbered _ _ _ _ _) cw_E_271 rfl ⟨w_399, w_400⟩ (by decide) rfl rfl (Nat.le_of_ble_eq_true rfl) d_E_typeName_51) fun q1 => ?_
  exact hp_iret d_E_typeName_54 rfl
def m_E_typeName (G : Nat → Nat) (a0 : Nat) (a1 : Nat) (h : hp_H) : Option (Int32 × hp_H) := (hp_gI h a1 3 0).bind fun x1 => if x1 < (3 : Int32) then (m_E_typeName_19 G h) else ((hp_gI h a1 3 0).bind fun x2 => (hp_len h (G 3)).bind fun x3 => if x2 < x3 then ((hp_gR h a0 5 0).bind fun x4 => (hp_gI h a1 3 0).bind fun x5 => if x5 = (7 : Int32) then ((hp_gI h a1 3 1).bind fun x8 => m_E_typeName_51 G x8 (2 : Int32) x4 h) else ((hp_gI h a1 3 0).bind fun x6 => (hp_aI h .int (G 3) x6).bind fun x7 => m_E_typeName_51 G x7 (2 : Int32) x4 h)) else (m_E_typeName_19 G h))
set_option maxRecDepth 100000 in
set_option maxHeartbeats 4000000 in
theorem j_E_typeName_0 {Z : hp_Z} (a0 : Nat) (a1 : Nat) (h : hp_H) : hp_J Y_E_typeName Z hp_rI h 0 [(0, .ref a0), (1, .ref a1)] [] (m_E_typeName (hp_G Z)  a0 a1 h) := by
  unfold m_E_typeName
  refine hp_aload_n (x0 := 1) d_E_typeName_0 rfl rfl ?_
  refine hp_getI fl_E_93 d_E_typeName_1 fun x1 => ?_
  refine hp_iconst (v := 3) d_E_typeName_4 (by decide) ?_
  refine hp_icmp_lt (tgt := 19) d_E_typeName_5 (by decide) ?_ ?_
  · refine hp_sub [] rfl ?_
    exact j_E_typeName_19   _
  · refine hp_aload_n (x0 := 1) d_E_typeName_8 rfl rfl ?_
    refine hp_getI fl_E_93 d_E_typeName_9 fun x2 => ?_
    refine hp_gets (k := 3) rfl w_773 d_E_typeName_12 ?_
    refine hp_alen d_E_typeName_15 fun x3 => ?_
    refine hp_icmp_lt (tgt := 22) d_E_typeName_16 (by decide) ?_ ?_
    · refine hp_aload_n (x0 := 0) d_E_typeName_22 rfl rfl ?_
      refine hp_getR fl_E_38 d_E_typeName_23 fun x4 => ?_
      refine hp_iconst (v := 2) d_E_typeName_26 (by decide) ?_
      refine hp_aload_n (x0 := 1) d_E_typeName_27 rfl rfl ?_
      refine hp_getI fl_E_93 d_E_typeName_28 fun x5 => ?_
      refine hp_bipush (v := 7) d_E_typeName_31 (by decide) ?_
      refine hp_icmp_ne (tgt := 43) d_E_typeName_33 (by decide) ?_ ?_
      · refine hp_aload_n (x0 := 1) d_E_typeName_36 rfl rfl ?_
        refine hp_getI fl_E_208 d_E_typeName_37 fun x8 => ?_
        refine hp_goto (tgt := 51) d_E_typeName_40 (by decide) ?_
        refine hp_sub [] rfl ?_
        exact j_E_typeName_51  _ _ _ _
      · refine hp_gets (k := 3) rfl w_773 d_E_typeName_43 ?_
        refine hp_aload_n (x0 := 1) d_E_typeName_46 rfl rfl ?_
        refine hp_getI fl_E_93 d_E_typeName_47 fun x6 => ?_
        refine hp_iald d_E_typeName_50 fun x7 => ?_
        refine hp_sub [] rfl ?_
        exact j_E_typeName_51  _ _ _ _
    · refine hp_sub [] rfl ?_
      exact j_E_typeName_19   _
theorem t_E_typeName (l : Launch) (E : hp_E) (a0 : Nat) (a1 : Nat) : hp_M l E y_E_typeName Y_E_typeName hp_rI [.ref a0, .ref a1] (m_E_typeName E.2.2.1 a0 a1) := hp_M.of (plainFor_of_name (by decide)) ⟨rfl, rfl⟩ (Nat.le_of_ble_eq_true rfl) (fun Z h hE => by subst hE; exact j_E_typeName_0 _ _ h)
-- MA_abs
theorem d_MA_abs_0 : decode prog_15_method_61_code 0 = .ok (.lload_n 0, 1) := by decide +kernel
theorem d_MA_abs_1 : decode prog_15_method_61_code 1 = .ok (.lconst 0, 1) := by decide +kernel
theorem d_MA_abs_2 : decode prog_15_method_61_code 2 = .ok (.lcmp, 1) := by decide +kernel
theorem d_MA_abs_3 : decode prog_15_method_61_code 3 = .ok (.ifCond .ge 8, 3) := by decide +kernel
theorem d_MA_abs_6 : decode prog_15_method_61_code 6 = .ok (.lload_n 0, 1) := by decide +kernel
theorem d_MA_abs_7 : decode prog_15_method_61_code 7 = .ok (.lneg, 1) := by decide +kernel
theorem d_MA_abs_8 : decode prog_15_method_61_code 8 = .ok (.goto 4, 3) := by decide +kernel
theorem d_MA_abs_11 : decode prog_15_method_61_code 11 = .ok (.lload_n 0, 1) := by decide +kernel
theorem d_MA_abs_12 : decode prog_15_method_61_code 12 = .ok (.lreturn, 1) := by decide +kernel
def m_MA_abs_12 (G : Nat → Nat) (s0 : Int64) (h : hp_H) : Option (Int64 × hp_H) := some (s0, h)
set_option maxRecDepth 100000 in
set_option maxHeartbeats 4000000 in
theorem j_MA_abs_12 {Z : hp_Z} (s0 : Int64) (h : hp_H) : hp_J Y_MA_abs Z hp_rL h 12 [] [.long s0] (m_MA_abs_12 (hp_G Z)  s0 h) := by
  unfold m_MA_abs_12
  exact hp_lret d_MA_abs_12 rfl
def m_MA_abs (G : Nat → Nat) (a0 : Int64) (h : hp_H) : Option (Int64 × hp_H) := if 0 ≤ (lg_cmp a0 (0 : Int64)) then (m_MA_abs_12 G a0 h) else (m_MA_abs_12 G (-a0) h)
set_option maxRecDepth 100000 in
set_option maxHeartbeats 4000000 in
theorem j_MA_abs_0 {Z : hp_Z} (a0 : Int64) (h : hp_H) : hp_J Y_MA_abs Z hp_rL h 0 [(0, .long a0)] [] (m_MA_abs (hp_G Z)  a0 h) := by
  unfold m_MA_abs
  refine hp_lload_n (x0 := 0) d_MA_abs_0 rfl rfl ?_
  refine hp_lconst (v := 0) d_MA_abs_1 (by decide) ?_
  refine hp_lcmp d_MA_abs_2 ?_
  refine hp_if_ge (tgt := 11) d_MA_abs_3 (by decide) ?_ ?_
  · refine hp_lload_n (x0 := 0) d_MA_abs_11 rfl rfl ?_
    refine hp_sub [] rfl ?_
    exact j_MA_abs_12  _ _
  · refine hp_lload_n (x0 := 0) d_MA_abs_6 rfl rfl ?_
    refine hp_lneg d_MA_abs_7 ?_
    refine hp_goto (tgt := 12) d_MA_abs_8 (by decide) ?_
    refine hp_sub [] rfl ?_
    exact j_MA_abs_12  _ _
theorem t_MA_abs (l : Launch) (E : hp_E) (a0 : Int64) : hp_M l E y_MA_abs Y_MA_abs hp_rL [.long a0] (m_MA_abs E.2.2.1 a0) := hp_M.of (by decide +kernel) ⟨rfl, rfl⟩ (Nat.le_of_ble_eq_true rfl) (fun Z h hE => by subst hE; exact j_MA_abs_0 _ h)
-- ST_checkIndex
theorem d_ST_checkIndex_0 : decode prog_16_method_155_code 0 = .ok (.iload_n 0, 1) := by decide +kernel
theorem d_ST_checkIndex_1 : decode prog_16_method_155_code 1 = .ok (.iload_n 1, 1) := by decide +kernel
theorem d_ST_checkIndex_2 : decode prog_16_method_155_code 2 = .ok (.getstatic 1053, 3) := by decide +kernel
theorem d_ST_checkIndex_5 : decode prog_16_method_155_code 5 = .ok (.invokestatic 1059, 3) := by decide +kernel
theorem d_ST_checkIndex_8 : decode prog_16_method_155_code 8 = .ok (.pop, 1) := by decide +kernel
theorem d_ST_checkIndex_9 : decode prog_16_method_155_code 9 = .ok (.return_, 1) := by decide +kernel
def m_ST_checkIndex (G : Nat → Nat) (a0 : Int32) (a1 : Int32) (h : hp_H) : Option (Unit × hp_H) := (m_PR_checkIndex G a0 a1 h).bind fun q2 => some ((), q2.2)
set_option maxRecDepth 100000 in
set_option maxHeartbeats 4000000 in
theorem j_ST_checkIndex_0 {Z : hp_Z} (a0 : Int32) (a1 : Int32) (h : hp_H) : hp_J Y_ST_checkIndex Z hp_rV h 0 [(0, .int a0), (1, .int a1)] [] (m_ST_checkIndex (hp_G Z)  a0 a1 h) := by
  unfold m_ST_checkIndex
  refine hp_iload_n (x0 := 0) d_ST_checkIndex_0 rfl rfl ?_
  refine hp_iload_n (x0 := 1) d_ST_checkIndex_1 rfl rfl ?_
  refine hp_form w_742 d_ST_checkIndex_2 fun g1 => ?_
  refine hp_callI (hp_crS (t_PR_checkIndex _ _ _ _ _) cw_ST_1059 w_305 (by decide) rfl rfl (Nat.le_of_ble_eq_true rfl) d_ST_checkIndex_5) fun q2 => ?_
  refine hp_pop d_ST_checkIndex_8 rfl ?_
  exact hp_vret d_ST_checkIndex_9 rfl
theorem t_ST_checkIndex (l : Launch) (E : hp_E) (a0 : Int32) (a1 : Int32) : hp_M l E y_ST_checkIndex Y_ST_checkIndex hp_rV [.int a0, .int a1] (m_ST_checkIndex E.2.2.1 a0 a1) := hp_M.of (by decide +kernel) ⟨rfl, rfl⟩ (Nat.le_of_ble_eq_true rfl) (fun Z h hE => by subst hE; exact j_ST_checkIndex_0 _ _ h)
-- SL_charAt
theorem d_SL_charAt_0 : decode prog_17_method_2_code 0 = .ok (.iload_n 1, 1) := by decide +kernel
theorem d_SL_charAt_1 : decode prog_17_method_2_code 1 = .ok (.aload_n 0, 1) := by decide +kernel
theorem d_SL_charAt_2 : decode prog_17_method_2_code 2 = .ok (.arraylength, 1) := by decide +kernel
theorem d_SL_charAt_3 : decode prog_17_method_2_code 3 = .ok (.invokestatic 9, 3) := by decide +kernel
theorem d_SL_charAt_6 : decode prog_17_method_2_code 6 = .ok (.aload_n 0, 1) := by decide +kernel
theorem d_SL_charAt_7 : decode prog_17_method_2_code 7 = .ok (.iload_n 1, 1) := by decide +kernel
theorem d_SL_charAt_8 : decode prog_17_method_2_code 8 = .ok (.baload, 1) := by decide +kernel
theorem d_SL_charAt_9 : decode prog_17_method_2_code 9 = .ok (.sipush 255, 3) := by decide +kernel
theorem d_SL_charAt_12 : decode prog_17_method_2_code 12 = .ok (.iand, 1) := by decide +kernel
theorem d_SL_charAt_13 : decode prog_17_method_2_code 13 = .ok (.i2c, 1) := by decide +kernel
theorem d_SL_charAt_14 : decode prog_17_method_2_code 14 = .ok (.ireturn, 1) := by decide +kernel
def m_SL_charAt (G : Nat → Nat) (a0 : Nat) (a1 : Int32) (h : hp_H) : Option (Int32 × hp_H) := (hp_len h a0).bind fun x1 => (m_ST_checkIndex G a1 x1 h).bind fun q2 => (hp_aI q2.2 .byte a0 a1).bind fun x3 => hp_c (((x3 &&& (255 : Int32)).toUInt32 % 65536).toInt32) q2.2
set_option maxRecDepth 100000 in
set_option maxHeartbeats 4000000 in
theorem j_SL_charAt_0 {Z : hp_Z} (a0 : Nat) (a1 : Int32) (h : hp_H) : hp_J Y_SL_charAt Z hp_rI h 0 [(0, .ref a0), (1, .int a1)] [] (m_SL_charAt (hp_G Z)  a0 a1 h) := by
  unfold m_SL_charAt
  refine hp_iload_n (x0 := 1) d_SL_charAt_0 rfl rfl ?_
  refine hp_aload_n (x0 := 0) d_SL_charAt_1 rfl rfl ?_
  refine hp_alen d_SL_charAt_2 fun x1 => ?_
  refine hp_callU (hp_crS (t_ST_checkIndex _ _ _ _) cw_SL_9 w_740 (by decide) rfl rfl (Nat.le_of_ble_eq_true rfl) d_SL_charAt_3) fun q2 => ?_
  refine hp_aload_n (x0 := 0) d_SL_charAt_6 rfl rfl ?_
  refine hp_iload_n (x0 := 1) d_SL_charAt_7 rfl rfl ?_
  refine hp_bald d_SL_charAt_8 fun x3 => ?_
  refine hp_sipush (v := 255) d_SL_charAt_9 (by decide) ?_
  refine hp_iand d_SL_charAt_12 ?_
  refine hp_i2c d_SL_charAt_13 ?_
  exact hp_cret d_SL_charAt_14 rfl
theorem t_SL_charAt (l : Launch) (E : hp_E) (a0 : Nat) (a1 : Int32) : hp_M l E y_SL_charAt Y_SL_charAt hp_rI [.ref a0, .int a1] (m_SL_charAt E.2.2.1 a0 a1) := hp_M.of (by decide +kernel) ⟨rfl, rfl⟩ (Nat.le_of_ble_eq_true rfl) (fun Z h hE => by subst hE; exact j_SL_charAt_0 _ _ h)
-- ST_isLatin1
theorem d_ST_isLatin1_0 : decode prog_16_method_154_code 0 = .ok (.getstatic 38, 3) := by decide +kernel
theorem d_ST_isLatin1_3 : decode prog_16_method_154_code 3 = .ok (.ifCond .eq 14, 3) := by decide +kernel
theorem d_ST_isLatin1_6 : decode prog_16_method_154_code 6 = .ok (.aload_n 0, 1) := by decide +kernel
theorem d_ST_isLatin1_7 : decode prog_16_method_154_code 7 = .ok (.getfield 15, 3) := by decide +kernel
theorem d_ST_isLatin1_10 : decode prog_16_method_154_code 10 = .ok (.ifCond .ne 7, 3) := by decide +kernel
theorem d_ST_isLatin1_13 : decode prog_16_method_154_code 13 = .ok (.iconst 1, 1) := by decide +kernel
theorem d_ST_isLatin1_14 : decode prog_16_method_154_code 14 = .ok (.goto 4, 3) := by decide +kernel
theorem d_ST_isLatin1_17 : decode prog_16_method_154_code 17 = .ok (.iconst 0, 1) := by decide +kernel
theorem d_ST_isLatin1_18 : decode prog_16_method_154_code 18 = .ok (.ireturn, 1) := by decide +kernel
def m_ST_isLatin1_18 (G : Nat → Nat) (s0 : Int32) (h : hp_H) : Option (Int32 × hp_H) := hp_z s0 h
set_option maxRecDepth 100000 in
set_option maxHeartbeats 4000000 in
theorem j_ST_isLatin1_18 {Z : hp_Z} (s0 : Int32) (h : hp_H) : hp_J Y_ST_isLatin1 Z hp_rI h 18 [] [.int s0] (m_ST_isLatin1_18 (hp_G Z)  s0 h) := by
  unfold m_ST_isLatin1_18
  exact hp_zret d_ST_isLatin1_18 rfl
def m_ST_isLatin1_17 (G : Nat → Nat) (h : hp_H) : Option (Int32 × hp_H) := m_ST_isLatin1_18 G (0 : Int32) h
set_option maxRecDepth 100000 in
set_option maxHeartbeats 4000000 in
theorem j_ST_isLatin1_17 {Z : hp_Z} (h : hp_H) : hp_J Y_ST_isLatin1 Z hp_rI h 17 [] [] (m_ST_isLatin1_17 (hp_G Z)   h) := by
  unfold m_ST_isLatin1_17
  refine hp_iconst (v := 0) d_ST_isLatin1_17 (by decide) ?_
  exact j_ST_isLatin1_18  _ _
def m_ST_isLatin1 (G : Nat → Nat) (a0 : Nat) (h : hp_H) : Option (Int32 × hp_H) := if (1 : Int32) = 0 then (m_ST_isLatin1_17 G h) else ((hp_sd G a0).bind fun x1 => if x1 = 0 then (m_ST_isLatin1_18 G (1 : Int32) h) else (m_ST_isLatin1_17 G h))
set_option maxRecDepth 100000 in
set_option maxHeartbeats 4000000 in
theorem j_ST_isLatin1_0 {Z : hp_Z} (a0 : Nat) (h : hp_H) : hp_J Y_ST_isLatin1 Z hp_rI h 0 [(0, .ref a0)] [] (m_ST_isLatin1 (hp_G Z)  a0 h) := by
  unfold m_ST_isLatin1
  refine hp_comp w_726 d_ST_isLatin1_0 ?_
  refine hp_if_eq (tgt := 17) d_ST_isLatin1_3 (by decide) ?_ ?_
  · refine hp_sub [] rfl ?_
    exact j_ST_isLatin1_17   _
  · refine hp_aload_n (x0 := 0) d_ST_isLatin1_6 rfl rfl ?_
    refine hp_strC w_1291 d_ST_isLatin1_7 fun x1 => ?_
    refine hp_if_ne (tgt := 17) d_ST_isLatin1_10 (by decide) ?_ ?_
    · refine hp_iconst (v := 1) d_ST_isLatin1_13 (by decide) ?_
      refine hp_goto (tgt := 18) d_ST_isLatin1_14 (by decide) ?_
      refine hp_sub [] rfl ?_
      exact j_ST_isLatin1_18  _ _
    · refine hp_sub [] rfl ?_
      exact j_ST_isLatin1_17   _
theorem t_ST_isLatin1 (l : Launch) (E : hp_E) (a0 : Nat) : hp_M l E y_ST_isLatin1 Y_ST_isLatin1 hp_rI [.ref a0] (m_ST_isLatin1 E.2.2.1 a0) := hp_M.of (by decide +kernel) ⟨rfl, rfl⟩ (Nat.le_of_ble_eq_true rfl) (fun Z h hE => by subst hE; exact j_ST_isLatin1_0 _ h)
-- ST_charAt
theorem d_ST_charAt_0 : decode prog_16_method_56_code 0 = .ok (.aload_n 0, 1) := by decide +kernel
theorem d_ST_charAt_1 : decode prog_16_method_56_code 1 = .ok (.invokevirtual 492, 3) := by decide +kernel
theorem d_ST_charAt_4 : decode prog_16_method_56_code 4 = .ok (.ifCond .eq 12, 3) := by decide +kernel
theorem d_ST_charAt_7 : decode prog_16_method_56_code 7 = .ok (.aload_n 0, 1) := by decide +kernel
theorem d_ST_charAt_8 : decode prog_16_method_56_code 8 = .ok (.getfield 9, 3) := by decide +kernel
theorem d_ST_charAt_11 : decode prog_16_method_56_code 11 = .ok (.iload_n 1, 1) := by decide +kernel
theorem d_ST_charAt_12 : decode prog_16_method_56_code 12 = .ok (.invokestatic 495, 3) := by decide +kernel
theorem d_ST_charAt_15 : decode prog_16_method_56_code 15 = .ok (.ireturn, 1) := by decide +kernel
theorem d_ST_charAt_16 : decode prog_16_method_56_code 16 = .ok (.aload_n 0, 1) := by decide +kernel
theorem d_ST_charAt_17 : decode prog_16_method_56_code 17 = .ok (.getfield 9, 3) := by decide +kernel
theorem d_ST_charAt_20 : decode prog_16_method_56_code 20 = .ok (.iload_n 1, 1) := by decide +kernel
theorem d_ST_charAt_21 : decode prog_16_method_56_code 21 = .ok (.invokestatic 498, 3) := by decide +kernel
theorem d_ST_charAt_24 : decode prog_16_method_56_code 24 = .ok (.ireturn, 1) := by decide +kernel
def m_ST_charAt (G : Nat → Nat) (a0 : Nat) (a1 : Int32) (h : hp_H) : Option (Int32 × hp_H) := (hp_sck G a0 (m_ST_isLatin1 G a0 h)).bind fun q1 => if q1.1 = 0 then (none) else ((hp_sv G a0).bind fun x2 => (m_SL_charAt G x2 a1 q1.2).bind fun q3 => hp_c q3.1 q3.2)
set_option maxRecDepth 100000 in
set_option maxHeartbeats 4000000 in
theorem j_ST_charAt_0 {Z : hp_Z} (a0 : Nat) (a1 : Int32) (h : hp_H) : hp_J Y_ST_charAt Z hp_rI h 0 [(0, .ref a0), (1, .int a1)] [] (m_ST_charAt (hp_G Z)  a0 a1 h) := by
  unfold m_ST_charAt
  refine hp_aload_n (x0 := 0) d_ST_charAt_0 rfl rfl ?_
  refine hp_callI (hp_crVS (t_ST_isLatin1 _ _ _) cw_ST_492 ⟨w_733, w_734⟩ (by decide) rfl rfl (Nat.le_of_ble_eq_true rfl) d_ST_charAt_1) fun q1 => ?_
  refine hp_if_eq (tgt := 16) d_ST_charAt_4 (by decide) ?_ ?_
  · exact hp_fail
  · refine hp_aload_n (x0 := 0) d_ST_charAt_7 rfl rfl ?_
    refine hp_strV w_1290 d_ST_charAt_8 fun x2 => ?_
    refine hp_iload_n (x0 := 1) d_ST_charAt_11 rfl rfl ?_
    refine hp_callI (hp_crS (t_SL_charAt _ _ _ _) cw_ST_495 w_737 (by decide) rfl rfl (Nat.le_of_ble_eq_true rfl) d_ST_charAt_12) fun q3 => ?_
    exact hp_cret d_ST_charAt_15 rfl
theorem t_ST_charAt (l : Launch) (E : hp_E) (a0 : Nat) (a1 : Int32) : hp_M l E y_ST_charAt Y_ST_charAt hp_rI [.ref a0, .int a1] (m_ST_charAt E.2.2.1 a0 a1) := hp_M.of (by decide +kernel) ⟨rfl, rfl⟩ (Nat.le_of_ble_eq_true rfl) (fun Z h hE => by subst hE; exact j_ST_charAt_0 _ _ h)
-- ST_coder
theorem d_ST_coder_0 : decode prog_16_method_152_code 0 = .ok (.getstatic 38, 3) := by decide +kernel
theorem d_ST_coder_3 : decode prog_16_method_152_code 3 = .ok (.ifCond .eq 10, 3) := by decide +kernel
theorem d_ST_coder_6 : decode prog_16_method_152_code 6 = .ok (.aload_n 0, 1) := by decide +kernel
theorem d_ST_coder_7 : decode prog_16_method_152_code 7 = .ok (.getfield 15, 3) := by decide +kernel
theorem d_ST_coder_10 : decode prog_16_method_152_code 10 = .ok (.goto 4, 3) := by decide +kernel
theorem d_ST_coder_13 : decode prog_16_method_152_code 13 = .ok (.iconst 1, 1) := by decide +kernel
theorem d_ST_coder_14 : decode prog_16_method_152_code 14 = .ok (.ireturn, 1) := by decide +kernel
def m_ST_coder_14 (G : Nat → Nat) (s0 : Int32) (h : hp_H) : Option (Int32 × hp_H) := hp_b s0 h
set_option maxRecDepth 100000 in
set_option maxHeartbeats 4000000 in
theorem j_ST_coder_14 {Z : hp_Z} (s0 : Int32) (h : hp_H) : hp_J Y_ST_coder Z hp_rI h 14 [] [.int s0] (m_ST_coder_14 (hp_G Z)  s0 h) := by
  unfold m_ST_coder_14
  exact hp_bret d_ST_coder_14 rfl
def m_ST_coder (G : Nat → Nat) (a0 : Nat) (h : hp_H) : Option (Int32 × hp_H) := if (1 : Int32) = 0 then (m_ST_coder_14 G (1 : Int32) h) else ((hp_sd G a0).bind fun x1 => m_ST_coder_14 G x1 h)
set_option maxRecDepth 100000 in
set_option maxHeartbeats 4000000 in
theorem j_ST_coder_0 {Z : hp_Z} (a0 : Nat) (h : hp_H) : hp_J Y_ST_coder Z hp_rI h 0 [(0, .ref a0)] [] (m_ST_coder (hp_G Z)  a0 h) := by
  unfold m_ST_coder
  refine hp_comp w_726 d_ST_coder_0 ?_
  refine hp_if_eq (tgt := 13) d_ST_coder_3 (by decide) ?_ ?_
  · refine hp_iconst (v := 1) d_ST_coder_13 (by decide) ?_
    refine hp_sub [] rfl ?_
    exact j_ST_coder_14  _ _
  · refine hp_aload_n (x0 := 0) d_ST_coder_6 rfl rfl ?_
    refine hp_strC w_1291 d_ST_coder_7 fun x1 => ?_
    refine hp_goto (tgt := 14) d_ST_coder_10 (by decide) ?_
    refine hp_sub [] rfl ?_
    exact j_ST_coder_14  _ _
theorem t_ST_coder (l : Launch) (E : hp_E) (a0 : Nat) : hp_M l E y_ST_coder Y_ST_coder hp_rI [.ref a0] (m_ST_coder E.2.2.1 a0) := hp_M.of (by decide +kernel) ⟨rfl, rfl⟩ (Nat.le_of_ble_eq_true rfl) (fun Z h hE => by subst hE; exact j_ST_coder_0 _ h)
-- ST_length
theorem d_ST_length_0 : decode prog_16_method_54_code 0 = .ok (.aload_n 0, 1) := by decide +kernel
theorem d_ST_length_1 : decode prog_16_method_54_code 1 = .ok (.getfield 9, 3) := by decide +kernel
theorem d_ST_length_4 : decode prog_16_method_54_code 4 = .ok (.arraylength, 1) := by decide +kernel
theorem d_ST_length_5 : decode prog_16_method_54_code 5 = .ok (.aload_n 0, 1) := by decide +kernel
theorem d_ST_length_6 : decode prog_16_method_54_code 6 = .ok (.invokevirtual 335, 3) := by decide +kernel
theorem d_ST_length_9 : decode prog_16_method_54_code 9 = .ok (.ishr, 1) := by decide +kernel
theorem d_ST_length_10 : decode prog_16_method_54_code 10 = .ok (.ireturn, 1) := by decide +kernel
def m_ST_length (G : Nat → Nat) (a0 : Nat) (h : hp_H) : Option (Int32 × hp_H) := (hp_sv G a0).bind fun x1 => (hp_len h x1).bind fun x2 => (hp_sck G a0 (m_ST_coder G a0 h)).bind fun q3 => some (x2 >>> (q3.1 &&& 31), q3.2)
set_option maxRecDepth 100000 in
set_option maxHeartbeats 4000000 in
theorem j_ST_length_0 {Z : hp_Z} (a0 : Nat) (h : hp_H) : hp_J Y_ST_length Z hp_rI h 0 [(0, .ref a0)] [] (m_ST_length (hp_G Z)  a0 h) := by
  unfold m_ST_length
  refine hp_aload_n (x0 := 0) d_ST_length_0 rfl rfl ?_
  refine hp_strV w_1290 d_ST_length_1 fun x1 => ?_
  refine hp_alen d_ST_length_4 fun x2 => ?_
  refine hp_aload_n (x0 := 0) d_ST_length_5 rfl rfl ?_
  refine hp_callI (hp_crVS (t_ST_coder _ _ _) cw_ST_335 ⟨w_723, w_724⟩ (by decide) rfl rfl (Nat.le_of_ble_eq_true rfl) d_ST_length_6) fun q3 => ?_
  refine hp_ishr d_ST_length_9 ?_
  exact hp_iret d_ST_length_10 rfl
theorem t_ST_length (l : Launch) (E : hp_E) (a0 : Nat) : hp_M l E y_ST_length Y_ST_length hp_rI [.ref a0] (m_ST_length E.2.2.1 a0) := hp_M.of (by decide +kernel) ⟨rfl, rfl⟩ (Nat.le_of_ble_eq_true rfl) (fun Z h hE => by subst hE; exact j_ST_length_0 _ h)
-- R_putWord
theorem d_R_putWord_0 : decode prog_5_method_5_code 0 = .ok (.iconst 0, 1) := by decide +kernel
theorem d_R_putWord_1 : decode prog_5_method_5_code 1 = .ok (.istore_n 2, 1) := by decide +kernel
theorem d_R_putWord_2 : decode prog_5_method_5_code 2 = .ok (.iload_n 2, 1) := by decide +kernel
theorem d_R_putWord_3 : decode prog_5_method_5_code 3 = .ok (.aload_n 1, 1) := by decide +kernel
theorem d_R_putWord_4 : decode prog_5_method_5_code 4 = .ok (.invokevirtual 33, 3) := by decide +kernel
theorem d_R_putWord_7 : decode prog_5_method_5_code 7 = .ok (.if_icmp .ge 18, 3) := by decide +kernel
theorem d_R_putWord_10 : decode prog_5_method_5_code 10 = .ok (.aload_n 0, 1) := by decide +kernel
theorem d_R_putWord_11 : decode prog_5_method_5_code 11 = .ok (.aload_n 1, 1) := by decide +kernel
theorem d_R_putWord_12 : decode prog_5_method_5_code 12 = .ok (.iload_n 2, 1) := by decide +kernel
theorem d_R_putWord_13 : decode prog_5_method_5_code 13 = .ok (.invokevirtual 38, 3) := by decide +kernel
theorem d_R_putWord_16 : decode prog_5_method_5_code 16 = .ok (.invokevirtual 29, 3) := by decide +kernel
theorem d_R_putWord_19 : decode prog_5_method_5_code 19 = .ok (.iinc 2 1, 3) := by decide +kernel
theorem d_R_putWord_22 : decode prog_5_method_5_code 22 = .ok (.goto (-20), 3) := by decide +kernel
theorem d_R_putWord_25 : decode prog_5_method_5_code 25 = .ok (.return_, 1) := by decide +kernel
def m_R_putWord_2 (G : Nat → Nat) : Nat → Nat → Nat → Int32 → hp_H → Option (Unit × hp_H)
  | 0, _, _, _, _ => none
  | n + 1, a0, a1, a2, h => (hp_sck G a1 (m_ST_length G a1 h)).bind fun q1 => if q1.1 ≤ a2 then (some ((), q1.2)) else ((hp_sck G a1 (m_ST_charAt G a1 a2 q1.2)).bind fun q2 => (hp_vck q2.2 a0 4 (m_R_put G a0 q2.1 q2.2)).bind fun q3 => hp_nm (a2 + 1) fun x4 => (m_R_putWord_2 G  n) a0 a1 x4 q3.2)
set_option maxRecDepth 100000 in
set_option maxHeartbeats 4000000 in
theorem j_R_putWord_2 {Z : hp_Z} : ∀ (n : Nat) (a0 : Nat) (a1 : Nat) (a2 : Int32) (h : hp_H), hp_J Y_R_putWord Z hp_rV h 2 [(0, .ref a0), (1, .ref a1), (2, .int a2)] [] (m_R_putWord_2 (hp_G Z)  n a0 a1 a2 h) := by
  intro n
  induction n with
  | zero => intro a0 a1 a2 h; exact hp_fail
  | succ n ih =>
    intro a0 a1 a2 h
    rw [m_R_putWord_2]
    refine hp_iload_n (x0 := 2) d_R_putWord_2 rfl rfl ?_
    refine hp_aload_n (x0 := 1) d_R_putWord_3 rfl rfl ?_
    refine hp_callI (hp_crVS (t_ST_length _ _ _) cw_R_33 ⟨w_719, w_720⟩ (by decide) rfl rfl (Nat.le_of_ble_eq_true rfl) d_R_putWord_4) fun q1 => ?_
    refine hp_icmp_ge (tgt := 25) d_R_putWord_7 (by decide) ?_ ?_
    · exact hp_vret d_R_putWord_25 rfl
    · refine hp_aload_n (x0 := 0) d_R_putWord_10 rfl rfl ?_
      refine hp_aload_n (x0 := 1) d_R_putWord_11 rfl rfl ?_
      refine hp_iload_n (x0 := 2) d_R_putWord_12 rfl rfl ?_
      refine hp_callI (hp_crVS (t_ST_charAt _ _ _ _) cw_R_38 ⟨w_729, w_730⟩ (by decide) rfl rfl (Nat.le_of_ble_eq_true rfl) d_R_putWord_13) fun q2 => ?_
      refine hp_callU (hp_crV (ci := 4) (t_R_put _ _ _ _) cw_R_29 rfl ⟨w_269, w_270⟩ (by decide) rfl rfl (Nat.le_of_ble_eq_true rfl) d_R_putWord_16) fun q3 => ?_
      refine hp_iinc (x0 := 2) (d := 1) (fun x4 => [(2, .int x4), (0, .ref a0), (1, .ref a1)]) d_R_putWord_19 rfl (by decide) (by decide) (fun _ => rfl) fun x4 => ?_
      refine hp_goto (tgt := 2) d_R_putWord_22 (by decide) ?_
      refine hp_sub [1, 2, 0] rfl ?_
      exact ih _ _ _ _
def m_R_putWord (G : Nat → Nat) (a0 : Nat) (a1 : Nat) (h : hp_H) : Option (Unit × hp_H) := hp_nm (0 : Int32) fun x1 => m_R_putWord_2 G hp_fu a0 a1 x1 h
set_option maxRecDepth 100000 in
set_option maxHeartbeats 4000000 in
theorem j_R_putWord_0 {Z : hp_Z} (a0 : Nat) (a1 : Nat) (h : hp_H) : hp_J Y_R_putWord Z hp_rV h 0 [(0, .ref a0), (1, .ref a1)] [] (m_R_putWord (hp_G Z)  a0 a1 h) := by
  unfold m_R_putWord
  refine hp_iconst (v := 0) d_R_putWord_0 (by decide) ?_
  refine hp_istore_n (fun x1 => [(2, .int x1), (0, .ref a0), (1, .ref a1)]) d_R_putWord_1 rfl (by decide) (fun _ => rfl) fun x1 => ?_
  refine hp_sub [1, 2, 0] rfl ?_
  exact j_R_putWord_2  hp_fu _ _ _ _
theorem t_R_putWord (l : Launch) (E : hp_E) (a0 : Nat) (a1 : Nat) : hp_M l E y_R_putWord Y_R_putWord hp_rV [.ref a0, .ref a1] (m_R_putWord E.2.2.1 a0 a1) := hp_M.of (plainFor_of_name (by decide)) ⟨rfl, rfl⟩ (Nat.le_of_ble_eq_true rfl) (fun Z h hE => by subst hE; exact j_R_putWord_0 _ _ h)
-- R_putString
theorem d_R_putString_0 : decode prog_5_method_7_code 0 = .ok (.aload_n 1, 1) := by decide +kernel
theorem d_R_putString_1 : decode prog_5_method_7_code 1 = .ok (.getfield 54, 3) := by decide +kernel
theorem d_R_putString_4 : decode prog_5_method_7_code 4 = .ok (.lconst 0, 1) := by decide +kernel
theorem d_R_putString_5 : decode prog_5_method_7_code 5 = .ok (.lcmp, 1) := by decide +kernel
theorem d_R_putString_6 : decode prog_5_method_7_code 6 = .ok (.ifCond .ge 9, 3) := by decide +kernel
theorem d_R_putString_9 : decode prog_5_method_7_code 9 = .ok (.aload_n 0, 1) := by decide +kernel
theorem d_R_putString_10 : decode prog_5_method_7_code 10 = .ok (.bipush 45, 2) := by decide +kernel
theorem d_R_putString_12 : decode prog_5_method_7_code 12 = .ok (.invokevirtual 29, 3) := by decide +kernel
theorem d_R_putString_15 : decode prog_5_method_7_code 15 = .ok (.aload_n 1, 1) := by decide +kernel
theorem d_R_putString_16 : decode prog_5_method_7_code 16 = .ok (.getfield 54, 3) := by decide +kernel
theorem d_R_putString_19 : decode prog_5_method_7_code 19 = .ok (.invokestatic 60, 3) := by decide +kernel
theorem d_R_putString_22 : decode prog_5_method_7_code 22 = .ok (.lstore_n 2, 1) := by decide +kernel
theorem d_R_putString_23 : decode prog_5_method_7_code 23 = .ok (.aload_n 1, 1) := by decide +kernel
theorem d_R_putString_24 : decode prog_5_method_7_code 24 = .ok (.getfield 64, 3) := by decide +kernel
theorem d_R_putString_27 : decode prog_5_method_7_code 27 = .ok (.tableswitch 141 2 8 #[41, 53, 61, 104, 104, 104, 120], 41) := by decide +kernel
theorem d_R_putString_68 : decode prog_5_method_7_code 68 = .ok (.aload_n 0, 1) := by decide +kernel
theorem d_R_putString_69 : decode prog_5_method_7_code 69 = .ok (.aload_n 1, 1) := by decide +kernel
theorem d_R_putString_70 : decode prog_5_method_7_code 70 = .ok (.getfield 67, 3) := by decide +kernel
theorem d_R_putString_73 : decode prog_5_method_7_code 73 = .ok (.i2l, 1) := by decide +kernel
theorem d_R_putString_74 : decode prog_5_method_7_code 74 = .ok (.iconst 1, 1) := by decide +kernel
theorem d_R_putString_75 : decode prog_5_method_7_code 75 = .ok (.invokevirtual 70, 3) := by decide +kernel
theorem d_R_putString_78 : decode prog_5_method_7_code 78 = .ok (.iconst 1, 1) := by decide +kernel
theorem d_R_putString_79 : decode prog_5_method_7_code 79 = .ok (.ireturn, 1) := by decide +kernel
theorem d_R_putString_80 : decode prog_5_method_7_code 80 = .ok (.aload_n 0, 1) := by decide +kernel
theorem d_R_putString_81 : decode prog_5_method_7_code 81 = .ok (.lload_n 2, 1) := by decide +kernel
theorem d_R_putString_82 : decode prog_5_method_7_code 82 = .ok (.iconst 1, 1) := by decide +kernel
theorem d_R_putString_83 : decode prog_5_method_7_code 83 = .ok (.invokevirtual 70, 3) := by decide +kernel
theorem d_R_putString_86 : decode prog_5_method_7_code 86 = .ok (.iconst 1, 1) := by decide +kernel
theorem d_R_putString_87 : decode prog_5_method_7_code 87 = .ok (.ireturn, 1) := by decide +kernel
theorem d_R_putString_88 : decode prog_5_method_7_code 88 = .ok (.aload_n 0, 1) := by decide +kernel
theorem d_R_putString_89 : decode prog_5_method_7_code 89 = .ok (.lload_n 2, 1) := by decide +kernel
theorem d_R_putString_90 : decode prog_5_method_7_code 90 = .ok (.aload_n 1, 1) := by decide +kernel
theorem d_R_putString_91 : decode prog_5_method_7_code 91 = .ok (.getfield 74, 3) := by decide +kernel
theorem d_R_putString_94 : decode prog_5_method_7_code 94 = .ok (.invokestatic 46, 3) := by decide +kernel
theorem d_R_putString_97 : decode prog_5_method_7_code 97 = .ok (.ldiv, 1) := by decide +kernel
theorem d_R_putString_98 : decode prog_5_method_7_code 98 = .ok (.iconst 1, 1) := by decide +kernel
theorem d_R_putString_99 : decode prog_5_method_7_code 99 = .ok (.invokevirtual 70, 3) := by decide +kernel
theorem d_R_putString_102 : decode prog_5_method_7_code 102 = .ok (.aload_n 0, 1) := by decide +kernel
theorem d_R_putString_103 : decode prog_5_method_7_code 103 = .ok (.bipush 46, 2) := by decide +kernel
theorem d_R_putString_105 : decode prog_5_method_7_code 105 = .ok (.invokevirtual 29, 3) := by decide +kernel
theorem d_R_putString_108 : decode prog_5_method_7_code 108 = .ok (.aload_n 0, 1) := by decide +kernel
theorem d_R_putString_109 : decode prog_5_method_7_code 109 = .ok (.lload_n 2, 1) := by decide +kernel
theorem d_R_putString_110 : decode prog_5_method_7_code 110 = .ok (.aload_n 1, 1) := by decide +kernel
theorem d_R_putString_111 : decode prog_5_method_7_code 111 = .ok (.getfield 74, 3) := by decide +kernel
theorem d_R_putString_114 : decode prog_5_method_7_code 114 = .ok (.invokestatic 46, 3) := by decide +kernel
theorem d_R_putString_117 : decode prog_5_method_7_code 117 = .ok (.lrem, 1) := by decide +kernel
theorem d_R_putString_118 : decode prog_5_method_7_code 118 = .ok (.aload_n 1, 1) := by decide +kernel
theorem d_R_putString_119 : decode prog_5_method_7_code 119 = .ok (.getfield 74, 3) := by decide +kernel
theorem d_R_putString_122 : decode prog_5_method_7_code 122 = .ok (.iconst 1, 1) := by decide +kernel
theorem d_R_putString_123 : decode prog_5_method_7_code 123 = .ok (.invokestatic 23, 3) := by decide +kernel
theorem d_R_putString_126 : decode prog_5_method_7_code 126 = .ok (.invokevirtual 70, 3) := by decide +kernel
theorem d_R_putString_129 : decode prog_5_method_7_code 129 = .ok (.iconst 1, 1) := by decide +kernel
theorem d_R_putString_130 : decode prog_5_method_7_code 130 = .ok (.ireturn, 1) := by decide +kernel
theorem d_R_putString_131 : decode prog_5_method_7_code 131 = .ok (.aload_n 0, 1) := by decide +kernel
theorem d_R_putString_132 : decode prog_5_method_7_code 132 = .ok (.aload_n 1, 1) := by decide +kernel
theorem d_R_putString_133 : decode prog_5_method_7_code 133 = .ok (.getfield 77, 3) := by decide +kernel
theorem d_R_putString_136 : decode prog_5_method_7_code 136 = .ok (.iconst 0, 1) := by decide +kernel
theorem d_R_putString_137 : decode prog_5_method_7_code 137 = .ok (.aload_n 1, 1) := by decide +kernel
theorem d_R_putString_138 : decode prog_5_method_7_code 138 = .ok (.getfield 77, 3) := by decide +kernel
theorem d_R_putString_141 : decode prog_5_method_7_code 141 = .ok (.arraylength, 1) := by decide +kernel
theorem d_R_putString_142 : decode prog_5_method_7_code 142 = .ok (.invokevirtual 78, 3) := by decide +kernel
theorem d_R_putString_145 : decode prog_5_method_7_code 145 = .ok (.iconst 1, 1) := by decide +kernel
theorem d_R_putString_146 : decode prog_5_method_7_code 146 = .ok (.ireturn, 1) := by decide +kernel
theorem d_R_putString_147 : decode prog_5_method_7_code 147 = .ok (.aload_n 0, 1) := by decide +kernel
theorem d_R_putString_148 : decode prog_5_method_7_code 148 = .ok (.aload_n 1, 1) := by decide +kernel
theorem d_R_putString_149 : decode prog_5_method_7_code 149 = .ok (.getfield 67, 3) := by decide +kernel
theorem d_R_putString_152 : decode prog_5_method_7_code 152 = .ok (.iconst 1, 1) := by decide +kernel
theorem d_R_putString_153 : decode prog_5_method_7_code 153 = .ok (.if_icmp .ne 8, 3) := by decide +kernel
theorem d_R_putString_156 : decode prog_5_method_7_code 156 = .ok (.ldc 82, 2) := by decide +kernel
theorem d_R_putString_158 : decode prog_5_method_7_code 158 = .ok (.goto 5, 3) := by decide +kernel
theorem d_R_putString_161 : decode prog_5_method_7_code 161 = .ok (.ldc 84, 2) := by decide +kernel
theorem d_R_putString_163 : decode prog_5_method_7_code 163 = .ok (.invokevirtual 86, 3) := by decide +kernel
theorem d_R_putString_166 : decode prog_5_method_7_code 166 = .ok (.iconst 1, 1) := by decide +kernel
theorem d_R_putString_167 : decode prog_5_method_7_code 167 = .ok (.ireturn, 1) := by decide +kernel
theorem d_R_putString_168 : decode prog_5_method_7_code 168 = .ok (.iconst 0, 1) := by decide +kernel
theorem d_R_putString_169 : decode prog_5_method_7_code 169 = .ok (.ireturn, 1) := by decide +kernel
def m_R_putString_163 (G : Nat → Nat) (s0 : Nat) (s1 : Nat) (h : hp_H) : Option (Int32 × hp_H) := (hp_vck h s1 4 (m_R_putWord G s1 s0 h)).bind fun q1 => hp_z (1 : Int32) q1.2
set_option maxRecDepth 100000 in
set_option maxHeartbeats 4000000 in
theorem j_R_putString_163 {Z : hp_Z} (s0 : Nat) (s1 : Nat) (h : hp_H) : hp_J Y_R_putString Z hp_rI h 163 [] [.ref s0, .ref s1] (m_R_putString_163 (hp_G Z)  s0 s1 h) := by
  unfold m_R_putString_163
  refine hp_callU (hp_crV (ci := 4) (t_R_putWord _ _ _ _) cw_R_86 rfl ⟨w_715, w_716⟩ (by decide) rfl rfl (Nat.le_of_ble_eq_true rfl) d_R_putString_163) fun q1 => ?_
  refine hp_iconst (v := 1) d_R_putString_166 (by decide) ?_
  exact hp_zret d_R_putString_167 rfl
def m_R_putString_15 (G : Nat → Nat) (a0 : Nat) (a1 : Nat) (h : hp_H) : Option (Int32 × hp_H) := (hp_gL h a1 3 2).bind fun x1 => (m_MA_abs G x1 h).bind fun q2 => hp_nm q2.1 fun x3 => (hp_gI q2.2 a1 3 0).bind fun x4 => if x4 = 2 then ((hp_gI q2.2 a1 3 1).bind fun x5 => (hp_vck q2.2 a0 4 (m_R_putDigits G a0 x5.toInt64 (1 : Int32) q2.2)).bind fun q6 => hp_z (1 : Int32) q6.2) else (if x4 = 3 then ((hp_vck q2.2 a0 4 (m_R_putDigits G a0 x3 (1 : Int32) q2.2)).bind fun q7 => hp_z (1 : Int32) q7.2) else (if x4 = 4 then ((hp_gI q2.2 a1 3 3).bind fun x8 => (m_D_power G x8 q2.2).bind fun q9 => (hp_dL x3 q9.1).bind fun x10 => (hp_vck q9.2 a0 4 (m_R_putDigits G a0 x10 (1 : Int32) q9.2)).bind fun q11 => (hp_vck q11.2 a0 4 (m_R_put G a0 (46 : Int32) q11.2)).bind fun q12 => (hp_gI q12.2 a1 3 3).bind fun x13 => (m_D_power G x13 q12.2).bind fun q14 => (hp_mL x3 q14.1).bind fun x15 => (hp_gI q14.2 a1 3 3).bind fun x16 => (m_MA_max G x16 (1 : Int32) q14.2).bind fun q17 => (hp_vck q17.2 a0 4 (m_R_putDigits G a0 x15 q17.1 q17.2)).bind fun q18 => hp_z (1 : Int32) q18.2) else (if x4 = 5 then ((hp_gR q2.2 a1 3 4).bind fun x19 => (hp_gR q2.2 a1 3 4).bind fun x20 => (hp_len q2.2 x20).bind fun x21 => (hp_vck q2.2 a0 4 (m_R_putPart G a0 x19 (0 : Int32) x21 q2.2)).bind fun q22 => hp_z (1 : Int32) q22.2) else (if x4 = 6 then ((hp_gR q2.2 a1 3 4).bind fun x23 => (hp_gR q2.2 a1 3 4).bind fun x24 => (hp_len q2.2 x24).bind fun x25 => (hp_vck q2.2 a0 4 (m_R_putPart G a0 x23 (0 : Int32) x25 q2.2)).bind fun q26 => hp_z (1 : Int32) q26.2) else (if x4 = 7 then ((hp_gR q2.2 a1 3 4).bind fun x27 => (hp_gR q2.2 a1 3 4).bind fun x28 => (hp_len q2.2 x28).bind fun x29 => (hp_vck q2.2 a0 4 (m_R_putPart G a0 x27 (0 : Int32) x29 q2.2)).bind fun q30 => hp_z (1 : Int32) q30.2) else (if x4 = 8 then ((hp_gI q2.2 a1 3 1).bind fun x31 => if x31 = (1 : Int32) then (m_R_putString_163 G (G 5) a0 q2.2) else (m_R_putString_163 G (G 6) a0 q2.2)) else (hp_z (0 : Int32) q2.2)))))))
set_option maxRecDepth 100000 in
set_option maxHeartbeats 4000000 in
theorem j_R_putString_15 {Z : hp_Z} (a0 : Nat) (a1 : Nat) (h : hp_H) : hp_J Y_R_putString Z hp_rI h 15 [(0, .ref a0), (1, .ref a1)] [] (m_R_putString_15 (hp_G Z)  a0 a1 h) := by
  unfold m_R_putString_15
  refine hp_aload_n (x0 := 1) d_R_putString_15 rfl rfl ?_
  refine hp_getL fl_R_54 d_R_putString_16 fun x1 => ?_
  refine hp_callL (hp_crS (t_MA_abs _ _ _) cw_R_60 w_622 (by decide) rfl rfl (Nat.le_of_ble_eq_true rfl) d_R_putString_19) fun q2 => ?_
  refine hp_lstore_n (fun x3 => [(2, .long x3), (0, .ref a0), (1, .ref a1)]) d_R_putString_22 rfl (by decide) (fun _ => rfl) fun x3 => ?_
  refine hp_aload_n (x0 := 2) d_R_putString_23 rfl rfl ?_
  refine hp_getI fl_R_64 d_R_putString_24 fun x4 => ?_
  refine hp_ite (fun c0 => ?_) (fun c0 => ?_)
  · refine hp_tabI (tgt := 68) (kv := 2) d_R_putString_27 c0 (by decide) (by decide) rfl (by decide) ?_
    refine hp_aload_n (x0 := 1) d_R_putString_68 rfl rfl ?_
    refine hp_aload_n (x0 := 2) d_R_putString_69 rfl rfl ?_
    refine hp_getI fl_R_67 d_R_putString_70 fun x5 => ?_
    refine hp_i2l d_R_putString_73 ?_
    refine hp_iconst (v := 1) d_R_putString_74 (by decide) ?_
    refine hp_callU (hp_crV (ci := 4) (t_R_putDigits _ _ _ _ _) cw_R_70 rfl ⟨w_704, w_705⟩ (by decide) rfl rfl (Nat.le_of_ble_eq_true rfl) d_R_putString_75) fun q6 => ?_
    refine hp_iconst (v := 1) d_R_putString_78 (by decide) ?_
    exact hp_zret d_R_putString_79 rfl
  · skip
    refine hp_ite (fun c1 => ?_) (fun c1 => ?_)
    · refine hp_tabI (tgt := 80) (kv := 3) d_R_putString_27 c1 (by decide) (by decide) rfl (by decide) ?_
      refine hp_aload_n (x0 := 1) d_R_putString_80 rfl rfl ?_
      refine hp_lload_n (x0 := 0) d_R_putString_81 rfl rfl ?_
      refine hp_iconst (v := 1) d_R_putString_82 (by decide) ?_
      refine hp_callU (hp_crV (ci := 4) (t_R_putDigits _ _ _ _ _) cw_R_70 rfl ⟨w_704, w_705⟩ (by decide) rfl rfl (Nat.le_of_ble_eq_true rfl) d_R_putString_83) fun q7 => ?_
      refine hp_iconst (v := 1) d_R_putString_86 (by decide) ?_
      exact hp_zret d_R_putString_87 rfl
    · skip
      refine hp_ite (fun c2 => ?_) (fun c2 => ?_)
      · refine hp_tabI (tgt := 88) (kv := 4) d_R_putString_27 c2 (by decide) (by decide) rfl (by decide) ?_
        refine hp_aload_n (x0 := 1) d_R_putString_88 rfl rfl ?_
        refine hp_lload_n (x0 := 0) d_R_putString_89 rfl rfl ?_
        refine hp_aload_n (x0 := 2) d_R_putString_90 rfl rfl ?_
        refine hp_getI fl_R_74 d_R_putString_91 fun x8 => ?_
        refine hp_callL (hp_crSN (t_D_power _ _ _) cw_R_46 w_462 (by decide) rfl rfl (Nat.le_of_ble_eq_true rfl) d_R_putString_94) fun q9 => ?_
        refine hp_ldiv d_R_putString_97 fun x10 => ?_
        refine hp_iconst (v := 1) d_R_putString_98 (by decide) ?_
        refine hp_callU (hp_crV (ci := 4) (t_R_putDigits _ _ _ _ _) cw_R_70 rfl ⟨w_704, w_705⟩ (by decide) rfl rfl (Nat.le_of_ble_eq_true rfl) d_R_putString_99) fun q11 => ?_
        refine hp_aload_n (x0 := 1) d_R_putString_102 rfl rfl ?_
        refine hp_bipush (v := 46) d_R_putString_103 (by decide) ?_
        refine hp_callU (hp_crV (ci := 4) (t_R_put _ _ _ _) cw_R_29 rfl ⟨w_269, w_270⟩ (by decide) rfl rfl (Nat.le_of_ble_eq_true rfl) d_R_putString_105) fun q12 => ?_
        refine hp_aload_n (x0 := 1) d_R_putString_108 rfl rfl ?_
        refine hp_lload_n (x0 := 0) d_R_putString_109 rfl rfl ?_
        refine hp_aload_n (x0 := 2) d_R_putString_110 rfl rfl ?_
        refine hp_getI fl_R_74 d_R_putString_111 fun x13 => ?_
        refine hp_callL (hp_crSN (t_D_power _ _ _) cw_R_46 w_462 (by decide) rfl rfl (Nat.le_of_ble_eq_true rfl) d_R_putString_114) fun q14 => ?_
        refine hp_lrem d_R_putString_117 fun x15 => ?_
        refine hp_aload_n (x0 := 2) d_R_putString_118 rfl rfl ?_
        refine hp_getI fl_R_74 d_R_putString_119 fun x16 => ?_
        refine hp_iconst (v := 1) d_R_putString_122 (by decide) ?_
        refine hp_callI (hp_crS (t_MA_max _ _ _ _) cw_R_23 w_351 (by decide) rfl rfl (Nat.le_of_ble_eq_true rfl) d_R_putString_123) fun q17 => ?_
        refine hp_callU (hp_crV (ci := 4) (t_R_putDigits _ _ _ _ _) cw_R_70 rfl ⟨w_704, w_705⟩ (by decide) rfl rfl (Nat.le_of_ble_eq_true rfl) d_R_putString_126) fun q18 => ?_
        refine hp_iconst (v := 1) d_R_putString_129 (by decide) ?_
        exact hp_zret d_R_putString_130 rfl
      · skip
        refine hp_ite (fun c3 => ?_) (fun c3 => ?_)
        · refine hp_tabI (tgt := 131) (kv := 5) d_R_putString_27 c3 (by decide) (by decide) rfl (by decide) ?_
          refine hp_aload_n (x0 := 1) d_R_putString_131 rfl rfl ?_
          refine hp_aload_n (x0 := 2) d_R_putString_132 rfl rfl ?_
          refine hp_getR fl_R_77 d_R_putString_133 fun x19 => ?_
          refine hp_iconst (v := 0) d_R_putString_136 (by decide) ?_
          refine hp_aload_n (x0 := 2) d_R_putString_137 rfl rfl ?_
          refine hp_getR fl_R_77 d_R_putString_138 fun x20 => ?_
          refine hp_alen d_R_putString_141 fun x21 => ?_
          refine hp_callU (hp_crV (ci := 4) (t_R_putPart _ _ _ _ _ _) cw_R_78 rfl ⟨w_655, w_656⟩ (by decide) rfl rfl (Nat.le_of_ble_eq_true rfl) d_R_putString_142) fun q22 => ?_
          refine hp_iconst (v := 1) d_R_putString_145 (by decide) ?_
          exact hp_zret d_R_putString_146 rfl
        · skip
          refine hp_ite (fun c4 => ?_) (fun c4 => ?_)
          · refine hp_tabI (tgt := 131) (kv := 6) d_R_putString_27 c4 (by decide) (by decide) rfl (by decide) ?_
            refine hp_aload_n (x0 := 1) d_R_putString_131 rfl rfl ?_
            refine hp_aload_n (x0 := 2) d_R_putString_132 rfl rfl ?_
            refine hp_getR fl_R_77 d_R_putString_133 fun x23 => ?_
            refine hp_iconst (v := 0) d_R_putString_136 (by decide) ?_
            refine hp_aload_n (x0 := 2) d_R_putString_137 rfl rfl ?_
            refine hp_getR fl_R_77 d_R_putString_138 fun x24 => ?_
            refine hp_alen d_R_putString_141 fun x25 => ?_
            refine hp_callU (hp_crV (ci := 4) (t_R_putPart _ _ _ _ _ _) cw_R_78 rfl ⟨w_655, w_656⟩ (by decide) rfl rfl (Nat.le_of_ble_eq_true rfl) d_R_putString_142) fun q26 => ?_
            refine hp_iconst (v := 1) d_R_putString_145 (by decide) ?_
            exact hp_zret d_R_putString_146 rfl
          · skip
            refine hp_ite (fun c5 => ?_) (fun c5 => ?_)
            · refine hp_tabI (tgt := 131) (kv := 7) d_R_putString_27 c5 (by decide) (by decide) rfl (by decide) ?_
              refine hp_aload_n (x0 := 1) d_R_putString_131 rfl rfl ?_
              refine hp_aload_n (x0 := 2) d_R_putString_132 rfl rfl ?_
              refine hp_getR fl_R_77 d_R_putString_133 fun x27 => ?_
              refine hp_iconst (v := 0) d_R_putString_136 (by decide) ?_
              refine hp_aload_n (x0 := 2) d_R_putString_137 rfl rfl ?_
              refine hp_getR fl_R_77 d_R_putString_138 fun x28 => ?_
              refine hp_alen d_R_putString_141 fun x29 => ?_
              refine hp_callU (hp_crV (ci := 4) (t_R_putPart _ _ _ _ _ _) cw_R_78 rfl ⟨w_655, w_656⟩ (by decide) rfl rfl (Nat.le_of_ble_eq_true rfl) d_R_putString_142) fun q30 => ?_
              refine hp_iconst (v := 1) d_R_putString_145 (by decide) ?_
              exact hp_zret d_R_putString_146 rfl
            · skip
              refine hp_ite (fun c6 => ?_) (fun c6 => ?_)
              · refine hp_tabI (tgt := 147) (kv := 8) d_R_putString_27 c6 (by decide) (by decide) rfl (by decide) ?_
                refine hp_aload_n (x0 := 1) d_R_putString_147 rfl rfl ?_
                refine hp_aload_n (x0 := 2) d_R_putString_148 rfl rfl ?_
                refine hp_getI fl_R_67 d_R_putString_149 fun x31 => ?_
                refine hp_iconst (v := 1) d_R_putString_152 (by decide) ?_
                refine hp_icmp_ne (tgt := 161) d_R_putString_153 (by decide) ?_ ?_
                · refine hp_ldcS (k := 5) (tx := "true") (by decide) d_R_putString_156 ?_
                  refine hp_goto (tgt := 163) d_R_putString_158 (by decide) ?_
                  refine hp_sub [] rfl ?_
                  exact j_R_putString_163  _ _ _
                · refine hp_ldcS (k := 6) (tx := "false") (by decide) d_R_putString_161 ?_
                  refine hp_sub [] rfl ?_
                  exact j_R_putString_163  _ _ _
              · skip
                refine hp_tabD (tgt := 168) d_R_putString_27 (by have e0 := lv_neT c0 (a := 2) (by decide); have e1 := lv_neT c1 (a := 3) (by decide); have e2 := lv_neT c2 (a := 4) (by decide); have e3 := lv_neT c3 (a := 5) (by decide); have e4 := lv_neT c4 (a := 6) (by decide); have e5 := lv_neT c5 (a := 7) (by decide); have e6 := lv_neT c6 (a := 8) (by decide); omega) (by decide) ?_
                refine hp_iconst (v := 0) d_R_putString_168 (by decide) ?_
                exact hp_zret d_R_putString_169 rfl
def m_R_putString (G : Nat → Nat) (a0 : Nat) (a1 : Nat) (h : hp_H) : Option (Int32 × hp_H) := (hp_gL h a1 3 2).bind fun x1 => if 0 ≤ (lg_cmp x1 (0 : Int64)) then (m_R_putString_15 G a0 a1 h) else ((hp_vck h a0 4 (m_R_put G a0 (45 : Int32) h)).bind fun q2 => m_R_putString_15 G a0 a1 q2.2)
set_option maxRecDepth 100000 in
set_option maxHeartbeats 4000000 in
theorem j_R_putString_0 {Z : hp_Z} (a0 : Nat) (a1 : Nat) (h : hp_H) : hp_J Y_R_putString Z hp_rI h 0 [(0, .ref a0), (1, .ref a1)] [] (m_R_putString (hp_G Z)  a0 a1 h) := by
  unfold m_R_putString
  refine hp_aload_n (x0 := 1) d_R_putString_0 rfl rfl ?_
  refine hp_getL fl_R_54 d_R_putString_1 fun x1 => ?_
  refine hp_lconst (v := 0) d_R_putString_4 (by decide) ?_
  refine hp_lcmp d_R_putString_5 ?_
  refine hp_if_ge (tgt := 15) d_R_putString_6 (by decide) ?_ ?_
  · exact j_R_putString_15  _ _ _
  · refine hp_aload_n (x0 := 0) d_R_putString_9 rfl rfl ?_
    refine hp_bipush (v := 45) d_R_putString_10 (by decide) ?_
    refine hp_callU (hp_crV (ci := 4) (t_R_put _ _ _ _) cw_R_29 rfl ⟨w_269, w_270⟩ (by decide) rfl rfl (Nat.le_of_ble_eq_true rfl) d_R_putString_12) fun q2 => ?_
    exact j_R_putString_15  _ _ _
theorem t_R_putString (l : Launch) (E : hp_E) (a0 : Nat) (a1 : Nat) : hp_M l E y_R_putString Y_R_putString hp_rI [.ref a0, .ref a1] (m_R_putString E.2.2.1 a0 a1) := hp_M.of (plainFor_of_name (by decide)) ⟨rfl, rfl⟩ (Nat.le_of_ble_eq_true rfl) (fun Z h hE => by subst hE; exact j_R_putString_0 _ _ h)
