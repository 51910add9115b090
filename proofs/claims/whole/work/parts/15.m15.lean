-- K_plus
theorem d_K_plus_0 : decode prog_4_method_3_code 0 = .ok (.aload_n 0, 1) := by decide +kernel
theorem d_K_plus_1 : decode prog_4_method_3_code 1 = .ok (.aload_n 0, 1) := by decide +kernel
theorem d_K_plus_2 : decode prog_4_method_3_code 2 = .ok (.getfield 15, 3) := by decide +kernel
theorem d_K_plus_5 : decode prog_4_method_3_code 5 = .ok (.ifCond .eq 11, 3) := by decide +kernel
theorem d_K_plus_8 : decode prog_4_method_3_code 8 = .ok (.iload_n 1, 1) := by decide +kernel
theorem d_K_plus_9 : decode prog_4_method_3_code 9 = .ok (.ifCond .eq 7, 3) := by decide +kernel
theorem d_K_plus_12 : decode prog_4_method_3_code 12 = .ok (.iconst 1, 1) := by decide +kernel
theorem d_K_plus_13 : decode prog_4_method_3_code 13 = .ok (.goto 4, 3) := by decide +kernel
theorem d_K_plus_16 : decode prog_4_method_3_code 16 = .ok (.iconst 0, 1) := by decide +kernel
theorem d_K_plus_17 : decode prog_4_method_3_code 17 = .ok (.putfield 15, 3) := by decide +kernel
theorem d_K_plus_20 : decode prog_4_method_3_code 20 = .ok (.aload_n 0, 1) := by decide +kernel
theorem d_K_plus_21 : decode prog_4_method_3_code 21 = .ok (.getfield 18, 3) := by decide +kernel
theorem d_K_plus_24 : decode prog_4_method_3_code 24 = .ok (.aload_n 0, 1) := by decide +kernel
theorem d_K_plus_25 : decode prog_4_method_3_code 25 = .ok (.getfield 22, 3) := by decide +kernel
theorem d_K_plus_28 : decode prog_4_method_3_code 28 = .ok (.invokestatic 26, 3) := by decide +kernel
theorem d_K_plus_31 : decode prog_4_method_3_code 31 = .ok (.invokestatic 30, 3) := by decide +kernel
theorem d_K_plus_34 : decode prog_4_method_3_code 34 = .ok (.lload_n 2, 1) := by decide +kernel
theorem d_K_plus_35 : decode prog_4_method_3_code 35 = .ok (.iload 4, 2) := by decide +kernel
theorem d_K_plus_37 : decode prog_4_method_3_code 37 = .ok (.invokestatic 26, 3) := by decide +kernel
theorem d_K_plus_40 : decode prog_4_method_3_code 40 = .ok (.invokestatic 30, 3) := by decide +kernel
theorem d_K_plus_43 : decode prog_4_method_3_code 43 = .ok (.ladd, 1) := by decide +kernel
theorem d_K_plus_44 : decode prog_4_method_3_code 44 = .ok (.lstore 5, 2) := by decide +kernel
theorem d_K_plus_46 : decode prog_4_method_3_code 46 = .ok (.aload_n 0, 1) := by decide +kernel
theorem d_K_plus_47 : decode prog_4_method_3_code 47 = .ok (.getfield 18, 3) := by decide +kernel
theorem d_K_plus_50 : decode prog_4_method_3_code 50 = .ok (.aload_n 0, 1) := by decide +kernel
theorem d_K_plus_51 : decode prog_4_method_3_code 51 = .ok (.getfield 22, 3) := by decide +kernel
theorem d_K_plus_54 : decode prog_4_method_3_code 54 = .ok (.invokestatic 36, 3) := by decide +kernel
theorem d_K_plus_57 : decode prog_4_method_3_code 57 = .ok (.lload_n 2, 1) := by decide +kernel
theorem d_K_plus_58 : decode prog_4_method_3_code 58 = .ok (.iload 4, 2) := by decide +kernel
theorem d_K_plus_60 : decode prog_4_method_3_code 60 = .ok (.invokestatic 36, 3) := by decide +kernel
theorem d_K_plus_63 : decode prog_4_method_3_code 63 = .ok (.ladd, 1) := by decide +kernel
theorem d_K_plus_64 : decode prog_4_method_3_code 64 = .ok (.lstore 7, 2) := by decide +kernel
theorem d_K_plus_66 : decode prog_4_method_3_code 66 = .ok (.lload 7, 2) := by decide +kernel
theorem d_K_plus_68 : decode prog_4_method_3_code 68 = .ok (.ldc2_w 40, 3) := by decide +kernel
theorem d_K_plus_71 : decode prog_4_method_3_code 71 = .ok (.lcmp, 1) := by decide +kernel
theorem d_K_plus_72 : decode prog_4_method_3_code 72 = .ok (.ifCond .lt 17, 3) := by decide +kernel
theorem d_K_plus_75 : decode prog_4_method_3_code 75 = .ok (.lload 7, 2) := by decide +kernel
theorem d_K_plus_77 : decode prog_4_method_3_code 77 = .ok (.ldc2_w 40, 3) := by decide +kernel
theorem d_K_plus_80 : decode prog_4_method_3_code 80 = .ok (.lsub, 1) := by decide +kernel
theorem d_K_plus_81 : decode prog_4_method_3_code 81 = .ok (.lstore 7, 2) := by decide +kernel
theorem d_K_plus_83 : decode prog_4_method_3_code 83 = .ok (.lload 5, 2) := by decide +kernel
theorem d_K_plus_85 : decode prog_4_method_3_code 85 = .ok (.lconst 1, 1) := by decide +kernel
theorem d_K_plus_86 : decode prog_4_method_3_code 86 = .ok (.ladd, 1) := by decide +kernel
theorem d_K_plus_87 : decode prog_4_method_3_code 87 = .ok (.lstore 5, 2) := by decide +kernel
theorem d_K_plus_89 : decode prog_4_method_3_code 89 = .ok (.lload 5, 2) := by decide +kernel
theorem d_K_plus_91 : decode prog_4_method_3_code 91 = .ok (.lconst 0, 1) := by decide +kernel
theorem d_K_plus_92 : decode prog_4_method_3_code 92 = .ok (.lcmp, 1) := by decide +kernel
theorem d_K_plus_93 : decode prog_4_method_3_code 93 = .ok (.ifCond .lt 15, 3) := by decide +kernel
theorem d_K_plus_96 : decode prog_4_method_3_code 96 = .ok (.aload_n 0, 1) := by decide +kernel
theorem d_K_plus_97 : decode prog_4_method_3_code 97 = .ok (.iconst 0, 1) := by decide +kernel
theorem d_K_plus_98 : decode prog_4_method_3_code 98 = .ok (.lload 5, 2) := by decide +kernel
theorem d_K_plus_100 : decode prog_4_method_3_code 100 = .ok (.lload 7, 2) := by decide +kernel
theorem d_K_plus_102 : decode prog_4_method_3_code 102 = .ok (.invokevirtual 42, 3) := by decide +kernel
theorem d_K_plus_105 : decode prog_4_method_3_code 105 = .ok (.goto 38, 3) := by decide +kernel
theorem d_K_plus_108 : decode prog_4_method_3_code 108 = .ok (.lload 7, 2) := by decide +kernel
theorem d_K_plus_110 : decode prog_4_method_3_code 110 = .ok (.lconst 0, 1) := by decide +kernel
theorem d_K_plus_111 : decode prog_4_method_3_code 111 = .ok (.lcmp, 1) := by decide +kernel
theorem d_K_plus_112 : decode prog_4_method_3_code 112 = .ok (.ifCond .ne 15, 3) := by decide +kernel
theorem d_K_plus_115 : decode prog_4_method_3_code 115 = .ok (.aload_n 0, 1) := by decide +kernel
theorem d_K_plus_116 : decode prog_4_method_3_code 116 = .ok (.iconst 1, 1) := by decide +kernel
theorem d_K_plus_117 : decode prog_4_method_3_code 117 = .ok (.lload 5, 2) := by decide +kernel
theorem d_K_plus_119 : decode prog_4_method_3_code 119 = .ok (.lneg, 1) := by decide +kernel
theorem d_K_plus_120 : decode prog_4_method_3_code 120 = .ok (.lconst 0, 1) := by decide +kernel
theorem d_K_plus_121 : decode prog_4_method_3_code 121 = .ok (.invokevirtual 42, 3) := by decide +kernel
theorem d_K_plus_124 : decode prog_4_method_3_code 124 = .ok (.goto 19, 3) := by decide +kernel
theorem d_K_plus_127 : decode prog_4_method_3_code 127 = .ok (.aload_n 0, 1) := by decide +kernel
theorem d_K_plus_128 : decode prog_4_method_3_code 128 = .ok (.iconst 1, 1) := by decide +kernel
theorem d_K_plus_129 : decode prog_4_method_3_code 129 = .ok (.lload 5, 2) := by decide +kernel
theorem d_K_plus_131 : decode prog_4_method_3_code 131 = .ok (.lconst 1, 1) := by decide +kernel
theorem d_K_plus_132 : decode prog_4_method_3_code 132 = .ok (.ladd, 1) := by decide +kernel
theorem d_K_plus_133 : decode prog_4_method_3_code 133 = .ok (.lneg, 1) := by decide +kernel
theorem d_K_plus_134 : decode prog_4_method_3_code 134 = .ok (.ldc2_w 40, 3) := by decide +kernel
theorem d_K_plus_137 : decode prog_4_method_3_code 137 = .ok (.lload 7, 2) := by decide +kernel
theorem d_K_plus_139 : decode prog_4_method_3_code 139 = .ok (.lsub, 1) := by decide +kernel
theorem d_K_plus_140 : decode prog_4_method_3_code 140 = .ok (.invokevirtual 42, 3) := by decide +kernel
theorem d_K_plus_143 : decode prog_4_method_3_code 143 = .ok (.return_, 1) := by decide +kernel
def m_K_plus_143 (G : Nat → Nat) (h : hp_H) : Option (Unit × hp_H) := some ((), h)
set_option maxRecDepth 100000 in
set_option maxHeartbeats 4000000 in
theorem j_K_plus_143 {Z : hp_Z} (h : hp_H) : hp_J Y_K_plus Z hp_rV h 143 [] [] (m_K_plus_143 (hp_G Z)   h) := by
  unfold m_K_plus_143
  exact hp_vret d_K_plus_143 rfl
def m_K_plus_89 (G : Nat → Nat) (a0 : Nat) (a5 : Int64) (a7 : Int64) (h : hp_H) : Option (Unit × hp_H) := if (lg_cmp a5 (0 : Int64)) < 0 then (if (lg_cmp a7 (0 : Int64)) = 0 then ((hp_vck h a0 6 (m_K_settle G a0 (1 : Int32) (-a5) (0 : Int64) h)).bind fun q2 => m_K_plus_143 G q2.2) else ((hp_vck h a0 6 (m_K_settle G a0 (1 : Int32) (-(a5 + (1 : Int64))) ((1000000000 : Int64) - a7) h)).bind fun q1 => m_K_plus_143 G q1.2)) else ((hp_vck h a0 6 (m_K_settle G a0 (0 : Int32) a5 a7 h)).bind fun q3 => m_K_plus_143 G q3.2)
set_option maxRecDepth 100000 in
set_option maxHeartbeats 4000000 in
theorem j_K_plus_89 {Z : hp_Z} (a0 : Nat) (a5 : Int64) (a7 : Int64) (h : hp_H) : hp_J Y_K_plus Z hp_rV h 89 [(0, .ref a0), (5, .long a5), (7, .long a7)] [] (m_K_plus_89 (hp_G Z)  a0 a5 a7 h) := by
  unfold m_K_plus_89
  refine hp_lload (x0 := 1) d_K_plus_89 rfl ?_
  refine hp_lconst (v := 0) d_K_plus_91 (by decide) ?_
  refine hp_lcmp d_K_plus_92 ?_
  refine hp_if_lt (tgt := 108) d_K_plus_93 (by decide) ?_ ?_
  · refine hp_lload (x0 := 2) d_K_plus_108 rfl ?_
    refine hp_lconst (v := 0) d_K_plus_110 (by decide) ?_
    refine hp_lcmp d_K_plus_111 ?_
    refine hp_if_ne (tgt := 127) d_K_plus_112 (by decide) ?_ ?_
    · refine hp_aload_n (x0 := 0) d_K_plus_115 rfl rfl ?_
      refine hp_iconst (v := 1) d_K_plus_116 (by decide) ?_
      refine hp_lload (x0 := 1) d_K_plus_117 rfl ?_
      refine hp_lneg d_K_plus_119 ?_
      refine hp_lconst (v := 0) d_K_plus_120 (by decide) ?_
      refine hp_callU (hp_crV (ci := 6) (t_K_settle _ _ _ _ _ _) cw_K_42 rfl ⟨w_613, ws_20⟩ (by decide) rfl rfl (Nat.le_of_ble_eq_true rfl) d_K_plus_121) fun q2 => ?_
      refine hp_goto (tgt := 143) d_K_plus_124 (by decide) ?_
      refine hp_sub [] rfl ?_
      exact j_K_plus_143   _
    · refine hp_aload_n (x0 := 0) d_K_plus_127 rfl rfl ?_
      refine hp_iconst (v := 1) d_K_plus_128 (by decide) ?_
      refine hp_lload (x0 := 1) d_K_plus_129 rfl ?_
      refine hp_lconst (v := 1) d_K_plus_131 (by decide) ?_
      refine hp_ladd d_K_plus_132 ?_
      refine hp_lneg d_K_plus_133 ?_
      refine hp_ldc2 (v := 1000000000) d_K_plus_134 w_610 ?_
      refine hp_lload (x0 := 2) d_K_plus_137 rfl ?_
      refine hp_lsub d_K_plus_139 ?_
      refine hp_callU (hp_crV (ci := 6) (t_K_settle _ _ _ _ _ _) cw_K_42 rfl ⟨w_613, ws_20⟩ (by decide) rfl rfl (Nat.le_of_ble_eq_true rfl) d_K_plus_140) fun q1 => ?_
      refine hp_sub [] rfl ?_
      exact j_K_plus_143   _
  · refine hp_aload_n (x0 := 0) d_K_plus_96 rfl rfl ?_
    refine hp_iconst (v := 0) d_K_plus_97 (by decide) ?_
    refine hp_lload (x0 := 1) d_K_plus_98 rfl ?_
    refine hp_lload (x0 := 2) d_K_plus_100 rfl ?_
    refine hp_callU (hp_crV (ci := 6) (t_K_settle _ _ _ _ _ _) cw_K_42 rfl ⟨w_613, ws_20⟩ (by decide) rfl rfl (Nat.le_of_ble_eq_true rfl) d_K_plus_102) fun q3 => ?_
    refine hp_goto (tgt := 143) d_K_plus_105 (by decide) ?_
    refine hp_sub [] rfl ?_
    exact j_K_plus_143   _
def m_K_plus_17 (G : Nat → Nat) (a0 : Nat) (a2 : Int64) (a4 : Int32) (s0 : Int32) (s1 : Nat) (h : hp_H) : Option (Unit × hp_H) := (hp_pZ h s1 6 1 s0).bind fun h1 => (hp_gL h1 a0 6 2).bind fun x2 => (hp_gI h1 a0 6 3).bind fun x3 => (m_D_power G x3 h1).bind fun q4 => (m_MA_floorDiv G x2 q4.1 q4.2).bind fun q5 => (m_D_power G a4 q5.2).bind fun q6 => (m_MA_floorDiv G a2 q6.1 q6.2).bind fun q7 => hp_nm (q5.1 + q7.1) fun x8 => (hp_gL q7.2 a0 6 2).bind fun x9 => (hp_gI q7.2 a0 6 3).bind fun x10 => (m_D_billionths G x9 x10 q7.2).bind fun q11 => (m_D_billionths G a2 a4 q11.2).bind fun q12 => hp_nm (q11.1 + q12.1) fun x13 => if (lg_cmp x13 (1000000000 : Int64)) < 0 then (m_K_plus_89 G a0 x8 x13 q12.2) else (hp_nm (x13 - (1000000000 : Int64)) fun x14 => hp_nm (x8 + (1 : Int64)) fun x15 => m_K_plus_89 G a0 x15 x14 q12.2)
set_option maxRecDepth 100000 in
set_option maxHeartbeats 4000000 in
theorem j_K_plus_17 {Z : hp_Z} (a0 : Nat) (a2 : Int64) (a4 : Int32) (s0 : Int32) (s1 : Nat) (h : hp_H) : hp_J Y_K_plus Z hp_rV h 17 [(0, .ref a0), (2, .long a2), (4, .int a4)] [.int s0, .ref s1] (m_K_plus_17 (hp_G Z)  a0 a2 a4 s0 s1 h) := by
  unfold m_K_plus_17
  refine hp_putZ fl_K_15 (fun q => by cases q) d_K_plus_17 fun h1 => ?_
  refine hp_aload_n (x0 := 0) d_K_plus_20 rfl rfl ?_
  refine hp_getL fl_K_18 d_K_plus_21 fun x2 => ?_
  refine hp_aload_n (x0 := 0) d_K_plus_24 rfl rfl ?_
  refine hp_getI fl_K_22 d_K_plus_25 fun x3 => ?_
  refine hp_callL (hp_crSN (t_D_power _ _ _) cw_K_26 w_462 (by decide) rfl rfl (Nat.le_of_ble_eq_true rfl) d_K_plus_28) fun q4 => ?_
  refine hp_callL (hp_crS (t_MA_floorDiv _ _ _ _) cw_K_30 w_467 (by decide) rfl rfl (Nat.le_of_ble_eq_true rfl) d_K_plus_31) fun q5 => ?_
  refine hp_lload_n (x0 := 1) d_K_plus_34 rfl rfl ?_
  refine hp_iload (x0 := 2) d_K_plus_35 rfl ?_
  refine hp_callL (hp_crSN (t_D_power _ _ _) cw_K_26 w_462 (by decide) rfl rfl (Nat.le_of_ble_eq_true rfl) d_K_plus_37) fun q6 => ?_
  refine hp_callL (hp_crS (t_MA_floorDiv _ _ _ _) cw_K_30 w_467 (by decide) rfl rfl (Nat.le_of_ble_eq_true rfl) d_K_plus_40) fun q7 => ?_
  refine hp_ladd d_K_plus_43 ?_
  refine hp_lstore (fun x8 => [(5, .long x8), (0, .ref a0), (2, .long a2), (4, .int a4)]) d_K_plus_44 (by decide) (fun _ => rfl) fun x8 => ?_
  refine hp_aload_n (x0 := 1) d_K_plus_46 rfl rfl ?_
  refine hp_getL fl_K_18 d_K_plus_47 fun x9 => ?_
  refine hp_aload_n (x0 := 1) d_K_plus_50 rfl rfl ?_
  refine hp_getI fl_K_22 d_K_plus_51 fun x10 => ?_
  refine hp_callL (hp_crSN (t_D_billionths _ _ _ _) cw_K_36 w_473 (by decide) rfl rfl (Nat.le_of_ble_eq_true rfl) d_K_plus_54) fun q11 => ?_
  refine hp_lload_n (x0 := 2) d_K_plus_57 rfl rfl ?_
  refine hp_iload (x0 := 3) d_K_plus_58 rfl ?_
  refine hp_callL (hp_crSN (t_D_billionths _ _ _ _) cw_K_36 w_473 (by decide) rfl rfl (Nat.le_of_ble_eq_true rfl) d_K_plus_60) fun q12 => ?_
  refine hp_ladd d_K_plus_63 ?_
  refine hp_lstore (fun x13 => [(7, .long x13), (5, .long x8), (0, .ref a0), (2, .long a2), (4, .int a4)]) d_K_plus_64 (by decide) (fun _ => rfl) fun x13 => ?_
  refine hp_lload (x0 := 0) d_K_plus_66 rfl ?_
  refine hp_ldc2 (v := 1000000000) d_K_plus_68 w_610 ?_
  refine hp_lcmp d_K_plus_71 ?_
  refine hp_if_lt (tgt := 89) d_K_plus_72 (by decide) ?_ ?_
  · refine hp_sub [2, 1, 0] rfl ?_
    exact j_K_plus_89  _ _ _ _
  · refine hp_lload (x0 := 0) d_K_plus_75 rfl ?_
    refine hp_ldc2 (v := 1000000000) d_K_plus_77 w_610 ?_
    refine hp_lsub d_K_plus_80 ?_
    refine hp_lstore (fun x14 => [(7, .long x14), (5, .long x8), (0, .ref a0), (2, .long a2), (4, .int a4)]) d_K_plus_81 (by decide) (fun _ => rfl) fun x14 => ?_
    refine hp_lload (x0 := 1) d_K_plus_83 rfl ?_
    refine hp_lconst (v := 1) d_K_plus_85 (by decide) ?_
    refine hp_ladd d_K_plus_86 ?_
    refine hp_lstore (fun x15 => [(5, .long x15), (7, .long x14), (0, .ref a0), (2, .long a2), (4, .int a4)]) d_K_plus_87 (by decide) (fun _ => rfl) fun x15 => ?_
    refine hp_sub [2, 0, 1] rfl ?_
    exact j_K_plus_89  _ _ _ _
def m_K_plus_16 (G : Nat → Nat) (a0 : Nat) (a2 : Int64) (a4 : Int32) (s0 : Nat) (h : hp_H) : Option (Unit × hp_H) := m_K_plus_17 G a0 a2 a4 (0 : Int32) s0 h
set_option maxRecDepth 100000 in
set_option maxHeartbeats 4000000 in
theorem j_K_plus_16 {Z : hp_Z} (a0 : Nat) (a2 : Int64) (a4 : Int32) (s0 : Nat) (h : hp_H) : hp_J Y_K_plus Z hp_rV h 16 [(0, .ref a0), (2, .long a2), (4, .int a4)] [.ref s0] (m_K_plus_16 (hp_G Z)  a0 a2 a4 s0 h) := by
  unfold m_K_plus_16
  refine hp_iconst (v := 0) d_K_plus_16 (by decide) ?_
  exact j_K_plus_17  _ _ _ _ _ _
def m_K_plus (G : Nat → Nat) (a0 : Nat) (a1 : Int32) (a2 : Int64) (a4 : Int32) (h : hp_H) : Option (Unit × hp_H) := (hp_gI h a0 6 1).bind fun x1 => if x1 = 0 then (m_K_plus_16 G a0 a2 a4 a0 h) else (if a1 = 0 then (m_K_plus_16 G a0 a2 a4 a0 h) else (m_K_plus_17 G a0 a2 a4 (1 : Int32) a0 h))
set_option maxRecDepth 100000 in
set_option maxHeartbeats 4000000 in
theorem j_K_plus_0 {Z : hp_Z} (a0 : Nat) (a1 : Int32) (a2 : Int64) (a4 : Int32) (h : hp_H) : hp_J Y_K_plus Z hp_rV h 0 [(0, .ref a0), (1, .int a1), (2, .long a2), (4, .int a4)] [] (m_K_plus (hp_G Z)  a0 a1 a2 a4 h) := by
  unfold m_K_plus
  refine hp_aload_n (x0 := 0) d_K_plus_0 rfl rfl ?_
  refine hp_aload_n (x0 := 0) d_K_plus_1 rfl rfl ?_
  refine hp_getI fl_K_15 d_K_plus_2 fun x1 => ?_
  refine hp_if_eq (tgt := 16) d_K_plus_5 (by decide) ?_ ?_
  · refine hp_sub [0, 2, 3] rfl ?_
    exact j_K_plus_16  _ _ _ _ _
  · refine hp_iload_n (x0 := 1) d_K_plus_8 rfl rfl ?_
    refine hp_if_eq (tgt := 16) d_K_plus_9 (by decide) ?_ ?_
    · refine hp_sub [0, 2, 3] rfl ?_
      exact j_K_plus_16  _ _ _ _ _
    · refine hp_iconst (v := 1) d_K_plus_12 (by decide) ?_
      refine hp_goto (tgt := 17) d_K_plus_13 (by decide) ?_
      refine hp_sub [0, 2, 3] rfl ?_
      exact j_K_plus_17  _ _ _ _ _ _
theorem t_K_plus (l : Launch) (E : hp_E) (a0 : Nat) (a1 : Int32) (a2 : Int64) (a4 : Int32) : hp_M l E y_K_plus Y_K_plus hp_rV [.ref a0, .int a1, .long a2, .int a4] (m_K_plus E.2.2.1 a0 a1 a2 a4) := hp_M.of (plainFor_of_name (by decide)) ⟨rfl, rfl⟩ (Nat.le_of_ble_eq_true rfl) (fun Z h hE => by subst hE; exact j_K_plus_0 _ _ _ _ h)
-- K_start
theorem d_K_start_0 : decode prog_4_method_2_code 0 = .ok (.aload_n 0, 1) := by decide +kernel
theorem d_K_start_1 : decode prog_4_method_2_code 1 = .ok (.iconst 1, 1) := by decide +kernel
theorem d_K_start_2 : decode prog_4_method_2_code 2 = .ok (.putfield 9, 3) := by decide +kernel
theorem d_K_start_5 : decode prog_4_method_2_code 5 = .ok (.aload_n 0, 1) := by decide +kernel
theorem d_K_start_6 : decode prog_4_method_2_code 6 = .ok (.iload_n 1, 1) := by decide +kernel
theorem d_K_start_7 : decode prog_4_method_2_code 7 = .ok (.putfield 15, 3) := by decide +kernel
theorem d_K_start_10 : decode prog_4_method_2_code 10 = .ok (.aload_n 0, 1) := by decide +kernel
theorem d_K_start_11 : decode prog_4_method_2_code 11 = .ok (.lload_n 2, 1) := by decide +kernel
theorem d_K_start_12 : decode prog_4_method_2_code 12 = .ok (.putfield 18, 3) := by decide +kernel
theorem d_K_start_15 : decode prog_4_method_2_code 15 = .ok (.aload_n 0, 1) := by decide +kernel
theorem d_K_start_16 : decode prog_4_method_2_code 16 = .ok (.iload 4, 2) := by decide +kernel
theorem d_K_start_18 : decode prog_4_method_2_code 18 = .ok (.putfield 22, 3) := by decide +kernel
theorem d_K_start_21 : decode prog_4_method_2_code 21 = .ok (.return_, 1) := by decide +kernel
def m_K_start (G : Nat → Nat) (a0 : Nat) (a1 : Int32) (a2 : Int64) (a4 : Int32) (h : hp_H) : Option (Unit × hp_H) := (hp_pZ h a0 6 0 (1 : Int32)).bind fun h1 => (hp_pZ h1 a0 6 1 a1).bind fun h2 => (hp_p h2 a0 6 2 (.long a2)).bind fun h3 => (hp_p h3 a0 6 3 (.int a4)).bind fun h4 => some ((), h4)
set_option maxRecDepth 100000 in
set_option maxHeartbeats 4000000 in
theorem j_K_start_0 {Z : hp_Z} (a0 : Nat) (a1 : Int32) (a2 : Int64) (a4 : Int32) (h : hp_H) : hp_J Y_K_start Z hp_rV h 0 [(0, .ref a0), (1, .int a1), (2, .long a2), (4, .int a4)] [] (m_K_start (hp_G Z)  a0 a1 a2 a4 h) := by
  unfold m_K_start
  refine hp_aload_n (x0 := 0) d_K_start_0 rfl rfl ?_
  refine hp_iconst (v := 1) d_K_start_1 (by decide) ?_
  refine hp_putZ fl_K_9 (fun q => by cases q) d_K_start_2 fun h1 => ?_
  refine hp_aload_n (x0 := 0) d_K_start_5 rfl rfl ?_
  refine hp_iload_n (x0 := 1) d_K_start_6 rfl rfl ?_
  refine hp_putZ fl_K_15 (fun q => by cases q) d_K_start_7 fun h2 => ?_
  refine hp_aload_n (x0 := 0) d_K_start_10 rfl rfl ?_
  refine hp_lload_n (x0 := 2) d_K_start_11 rfl rfl ?_
  refine hp_put fl_K_18 (fun q => by cases q) rfl rfl d_K_start_12 fun h3 => ?_
  refine hp_aload_n (x0 := 0) d_K_start_15 rfl rfl ?_
  refine hp_iload (x0 := 3) d_K_start_16 rfl ?_
  refine hp_put fl_K_22 (fun q => by cases q) rfl rfl d_K_start_18 fun h4 => ?_
  exact hp_vret d_K_start_21 rfl
theorem t_K_start (l : Launch) (E : hp_E) (a0 : Nat) (a1 : Int32) (a2 : Int64) (a4 : Int32) : hp_M l E y_K_start Y_K_start hp_rV [.ref a0, .int a1, .long a2, .int a4] (m_K_start E.2.2.1 a0 a1 a2 a4) := hp_M.of (plainFor_of_name (by decide)) ⟨rfl, rfl⟩ (Nat.le_of_ble_eq_true rfl) (fun Z h hE => by subst hE; exact j_K_start_0 _ _ _ _ h)
-- K_times
theorem d_K_times_0 : decode prog_4_method_4_code 0 = .ok (.aload_n 0, 1) := by decide +kernel
theorem d_K_times_1 : decode prog_4_method_4_code 1 = .ok (.aload_n 0, 1) := by decide +kernel
theorem d_K_times_2 : decode prog_4_method_4_code 2 = .ok (.getfield 15, 3) := by decide +kernel
theorem d_K_times_5 : decode prog_4_method_4_code 5 = .ok (.ifCond .eq 11, 3) := by decide +kernel
theorem d_K_times_8 : decode prog_4_method_4_code 8 = .ok (.iload_n 1, 1) := by decide +kernel
theorem d_K_times_9 : decode prog_4_method_4_code 9 = .ok (.ifCond .eq 7, 3) := by decide +kernel
theorem d_K_times_12 : decode prog_4_method_4_code 12 = .ok (.iconst 1, 1) := by decide +kernel
theorem d_K_times_13 : decode prog_4_method_4_code 13 = .ok (.goto 4, 3) := by decide +kernel
theorem d_K_times_16 : decode prog_4_method_4_code 16 = .ok (.iconst 0, 1) := by decide +kernel
theorem d_K_times_17 : decode prog_4_method_4_code 17 = .ok (.putfield 15, 3) := by decide +kernel
theorem d_K_times_20 : decode prog_4_method_4_code 20 = .ok (.aload_n 0, 1) := by decide +kernel
theorem d_K_times_21 : decode prog_4_method_4_code 21 = .ok (.getfield 18, 3) := by decide +kernel
theorem d_K_times_24 : decode prog_4_method_4_code 24 = .ok (.invokestatic 46, 3) := by decide +kernel
theorem d_K_times_27 : decode prog_4_method_4_code 27 = .ok (.lstore 5, 2) := by decide +kernel
theorem d_K_times_29 : decode prog_4_method_4_code 29 = .ok (.lload 5, 2) := by decide +kernel
theorem d_K_times_31 : decode prog_4_method_4_code 31 = .ok (.aload_n 0, 1) := by decide +kernel
theorem d_K_times_32 : decode prog_4_method_4_code 32 = .ok (.getfield 22, 3) := by decide +kernel
theorem d_K_times_35 : decode prog_4_method_4_code 35 = .ok (.invokestatic 26, 3) := by decide +kernel
theorem d_K_times_38 : decode prog_4_method_4_code 38 = .ok (.ldiv, 1) := by decide +kernel
theorem d_K_times_39 : decode prog_4_method_4_code 39 = .ok (.lstore 7, 2) := by decide +kernel
theorem d_K_times_41 : decode prog_4_method_4_code 41 = .ok (.lload 5, 2) := by decide +kernel
theorem d_K_times_43 : decode prog_4_method_4_code 43 = .ok (.aload_n 0, 1) := by decide +kernel
theorem d_K_times_44 : decode prog_4_method_4_code 44 = .ok (.getfield 22, 3) := by decide +kernel
theorem d_K_times_47 : decode prog_4_method_4_code 47 = .ok (.invokestatic 36, 3) := by decide +kernel
theorem d_K_times_50 : decode prog_4_method_4_code 50 = .ok (.lstore 9, 2) := by decide +kernel
theorem d_K_times_52 : decode prog_4_method_4_code 52 = .ok (.lload_n 2, 1) := by decide +kernel
theorem d_K_times_53 : decode prog_4_method_4_code 53 = .ok (.invokestatic 46, 3) := by decide +kernel
theorem d_K_times_56 : decode prog_4_method_4_code 56 = .ok (.lstore 11, 2) := by decide +kernel
theorem d_K_times_58 : decode prog_4_method_4_code 58 = .ok (.lload 11, 2) := by decide +kernel
theorem d_K_times_60 : decode prog_4_method_4_code 60 = .ok (.iload 4, 2) := by decide +kernel
theorem d_K_times_62 : decode prog_4_method_4_code 62 = .ok (.invokestatic 26, 3) := by decide +kernel
theorem d_K_times_65 : decode prog_4_method_4_code 65 = .ok (.ldiv, 1) := by decide +kernel
theorem d_K_times_66 : decode prog_4_method_4_code 66 = .ok (.lstore 13, 2) := by decide +kernel
theorem d_K_times_68 : decode prog_4_method_4_code 68 = .ok (.lload 11, 2) := by decide +kernel
theorem d_K_times_70 : decode prog_4_method_4_code 70 = .ok (.iload 4, 2) := by decide +kernel
theorem d_K_times_72 : decode prog_4_method_4_code 72 = .ok (.invokestatic 36, 3) := by decide +kernel
theorem d_K_times_75 : decode prog_4_method_4_code 75 = .ok (.lstore 15, 2) := by decide +kernel
theorem d_K_times_77 : decode prog_4_method_4_code 77 = .ok (.lload 7, 2) := by decide +kernel
theorem d_K_times_79 : decode prog_4_method_4_code 79 = .ok (.ldc2_w 40, 3) := by decide +kernel
theorem d_K_times_82 : decode prog_4_method_4_code 82 = .ok (.lrem, 1) := by decide +kernel
theorem d_K_times_83 : decode prog_4_method_4_code 83 = .ok (.lstore 17, 2) := by decide +kernel
theorem d_K_times_85 : decode prog_4_method_4_code 85 = .ok (.lload 13, 2) := by decide +kernel
theorem d_K_times_87 : decode prog_4_method_4_code 87 = .ok (.ldc2_w 40, 3) := by decide +kernel
theorem d_K_times_90 : decode prog_4_method_4_code 90 = .ok (.lrem, 1) := by decide +kernel
theorem d_K_times_91 : decode prog_4_method_4_code 91 = .ok (.lstore 19, 2) := by decide +kernel
theorem d_K_times_93 : decode prog_4_method_4_code 93 = .ok (.lload 7, 2) := by decide +kernel
theorem d_K_times_95 : decode prog_4_method_4_code 95 = .ok (.ldc2_w 40, 3) := by decide +kernel
theorem d_K_times_98 : decode prog_4_method_4_code 98 = .ok (.ldiv, 1) := by decide +kernel
theorem d_K_times_99 : decode prog_4_method_4_code 99 = .ok (.lstore 21, 2) := by decide +kernel
theorem d_K_times_101 : decode prog_4_method_4_code 101 = .ok (.lload 13, 2) := by decide +kernel
theorem d_K_times_103 : decode prog_4_method_4_code 103 = .ok (.ldc2_w 40, 3) := by decide +kernel
theorem d_K_times_106 : decode prog_4_method_4_code 106 = .ok (.ldiv, 1) := by decide +kernel
theorem d_K_times_107 : decode prog_4_method_4_code 107 = .ok (.lstore 23, 2) := by decide +kernel
theorem d_K_times_109 : decode prog_4_method_4_code 109 = .ok (.lload 9, 2) := by decide +kernel
theorem d_K_times_111 : decode prog_4_method_4_code 111 = .ok (.lload 15, 2) := by decide +kernel
theorem d_K_times_113 : decode prog_4_method_4_code 113 = .ok (.lmul, 1) := by decide +kernel
theorem d_K_times_114 : decode prog_4_method_4_code 114 = .ok (.ldc2_w 50, 3) := by decide +kernel
theorem d_K_times_117 : decode prog_4_method_4_code 117 = .ok (.ladd, 1) := by decide +kernel
theorem d_K_times_118 : decode prog_4_method_4_code 118 = .ok (.lstore 25, 2) := by decide +kernel
theorem d_K_times_120 : decode prog_4_method_4_code 120 = .ok (.lload 25, 2) := by decide +kernel
theorem d_K_times_122 : decode prog_4_method_4_code 122 = .ok (.ldc2_w 40, 3) := by decide +kernel
theorem d_K_times_125 : decode prog_4_method_4_code 125 = .ok (.ldiv, 1) := by decide +kernel
theorem d_K_times_126 : decode prog_4_method_4_code 126 = .ok (.lload 9, 2) := by decide +kernel
theorem d_K_times_128 : decode prog_4_method_4_code 128 = .ok (.lload 19, 2) := by decide +kernel
theorem d_K_times_130 : decode prog_4_method_4_code 130 = .ok (.lmul, 1) := by decide +kernel
theorem d_K_times_131 : decode prog_4_method_4_code 131 = .ok (.ladd, 1) := by decide +kernel
theorem d_K_times_132 : decode prog_4_method_4_code 132 = .ok (.lload 17, 2) := by decide +kernel
theorem d_K_times_134 : decode prog_4_method_4_code 134 = .ok (.lload 15, 2) := by decide +kernel
theorem d_K_times_136 : decode prog_4_method_4_code 136 = .ok (.lmul, 1) := by decide +kernel
theorem d_K_times_137 : decode prog_4_method_4_code 137 = .ok (.ladd, 1) := by decide +kernel
theorem d_K_times_138 : decode prog_4_method_4_code 138 = .ok (.lstore 25, 2) := by decide +kernel
theorem d_K_times_140 : decode prog_4_method_4_code 140 = .ok (.lload 25, 2) := by decide +kernel
theorem d_K_times_142 : decode prog_4_method_4_code 142 = .ok (.ldc2_w 40, 3) := by decide +kernel
theorem d_K_times_145 : decode prog_4_method_4_code 145 = .ok (.lrem, 1) := by decide +kernel
theorem d_K_times_146 : decode prog_4_method_4_code 146 = .ok (.lstore 27, 2) := by decide +kernel
theorem d_K_times_148 : decode prog_4_method_4_code 148 = .ok (.lload 25, 2) := by decide +kernel
theorem d_K_times_150 : decode prog_4_method_4_code 150 = .ok (.ldc2_w 40, 3) := by decide +kernel
theorem d_K_times_153 : decode prog_4_method_4_code 153 = .ok (.ldiv, 1) := by decide +kernel
theorem d_K_times_154 : decode prog_4_method_4_code 154 = .ok (.lload 9, 2) := by decide +kernel
theorem d_K_times_156 : decode prog_4_method_4_code 156 = .ok (.lload 23, 2) := by decide +kernel
theorem d_K_times_158 : decode prog_4_method_4_code 158 = .ok (.lmul, 1) := by decide +kernel
theorem d_K_times_159 : decode prog_4_method_4_code 159 = .ok (.ladd, 1) := by decide +kernel
theorem d_K_times_160 : decode prog_4_method_4_code 160 = .ok (.lload 17, 2) := by decide +kernel
theorem d_K_times_162 : decode prog_4_method_4_code 162 = .ok (.lload 19, 2) := by decide +kernel
theorem d_K_times_164 : decode prog_4_method_4_code 164 = .ok (.lmul, 1) := by decide +kernel
theorem d_K_times_165 : decode prog_4_method_4_code 165 = .ok (.ladd, 1) := by decide +kernel
theorem d_K_times_166 : decode prog_4_method_4_code 166 = .ok (.lload 21, 2) := by decide +kernel
theorem d_K_times_168 : decode prog_4_method_4_code 168 = .ok (.lload 15, 2) := by decide +kernel
theorem d_K_times_170 : decode prog_4_method_4_code 170 = .ok (.lmul, 1) := by decide +kernel
theorem d_K_times_171 : decode prog_4_method_4_code 171 = .ok (.ladd, 1) := by decide +kernel
theorem d_K_times_172 : decode prog_4_method_4_code 172 = .ok (.lstore 25, 2) := by decide +kernel
theorem d_K_times_174 : decode prog_4_method_4_code 174 = .ok (.lload 25, 2) := by decide +kernel
theorem d_K_times_176 : decode prog_4_method_4_code 176 = .ok (.ldc2_w 40, 3) := by decide +kernel
theorem d_K_times_179 : decode prog_4_method_4_code 179 = .ok (.lrem, 1) := by decide +kernel
theorem d_K_times_180 : decode prog_4_method_4_code 180 = .ok (.lstore 29, 2) := by decide +kernel
theorem d_K_times_182 : decode prog_4_method_4_code 182 = .ok (.lload 25, 2) := by decide +kernel
theorem d_K_times_184 : decode prog_4_method_4_code 184 = .ok (.ldc2_w 40, 3) := by decide +kernel
theorem d_K_times_187 : decode prog_4_method_4_code 187 = .ok (.ldiv, 1) := by decide +kernel
theorem d_K_times_188 : decode prog_4_method_4_code 188 = .ok (.lload 17, 2) := by decide +kernel
theorem d_K_times_190 : decode prog_4_method_4_code 190 = .ok (.lload 23, 2) := by decide +kernel
theorem d_K_times_192 : decode prog_4_method_4_code 192 = .ok (.lmul, 1) := by decide +kernel
theorem d_K_times_193 : decode prog_4_method_4_code 193 = .ok (.ladd, 1) := by decide +kernel
theorem d_K_times_194 : decode prog_4_method_4_code 194 = .ok (.lload 21, 2) := by decide +kernel
theorem d_K_times_196 : decode prog_4_method_4_code 196 = .ok (.lload 19, 2) := by decide +kernel
theorem d_K_times_198 : decode prog_4_method_4_code 198 = .ok (.lmul, 1) := by decide +kernel
theorem d_K_times_199 : decode prog_4_method_4_code 199 = .ok (.ladd, 1) := by decide +kernel
theorem d_K_times_200 : decode prog_4_method_4_code 200 = .ok (.lstore 25, 2) := by decide +kernel
theorem d_K_times_202 : decode prog_4_method_4_code 202 = .ok (.lload 25, 2) := by decide +kernel
theorem d_K_times_204 : decode prog_4_method_4_code 204 = .ok (.ldc2_w 40, 3) := by decide +kernel
theorem d_K_times_207 : decode prog_4_method_4_code 207 = .ok (.lrem, 1) := by decide +kernel
theorem d_K_times_208 : decode prog_4_method_4_code 208 = .ok (.lstore 31, 2) := by decide +kernel
theorem d_K_times_210 : decode prog_4_method_4_code 210 = .ok (.aload_n 0, 1) := by decide +kernel
theorem d_K_times_211 : decode prog_4_method_4_code 211 = .ok (.aload_n 0, 1) := by decide +kernel
theorem d_K_times_212 : decode prog_4_method_4_code 212 = .ok (.getfield 9, 3) := by decide +kernel
theorem d_K_times_215 : decode prog_4_method_4_code 215 = .ok (.ifCond .eq 24, 3) := by decide +kernel
theorem d_K_times_218 : decode prog_4_method_4_code 218 = .ok (.lload 25, 2) := by decide +kernel
theorem d_K_times_220 : decode prog_4_method_4_code 220 = .ok (.ldc2_w 40, 3) := by decide +kernel
theorem d_K_times_223 : decode prog_4_method_4_code 223 = .ok (.ldiv, 1) := by decide +kernel
theorem d_K_times_224 : decode prog_4_method_4_code 224 = .ok (.lload 21, 2) := by decide +kernel
theorem d_K_times_226 : decode prog_4_method_4_code 226 = .ok (.lload 23, 2) := by decide +kernel
theorem d_K_times_228 : decode prog_4_method_4_code 228 = .ok (.lmul, 1) := by decide +kernel
theorem d_K_times_229 : decode prog_4_method_4_code 229 = .ok (.ladd, 1) := by decide +kernel
theorem d_K_times_230 : decode prog_4_method_4_code 230 = .ok (.lconst 0, 1) := by decide +kernel
theorem d_K_times_231 : decode prog_4_method_4_code 231 = .ok (.lcmp, 1) := by decide +kernel
theorem d_K_times_232 : decode prog_4_method_4_code 232 = .ok (.ifCond .ne 7, 3) := by decide +kernel
theorem d_K_times_235 : decode prog_4_method_4_code 235 = .ok (.iconst 1, 1) := by decide +kernel
theorem d_K_times_236 : decode prog_4_method_4_code 236 = .ok (.goto 4, 3) := by decide +kernel
theorem d_K_times_239 : decode prog_4_method_4_code 239 = .ok (.iconst 0, 1) := by decide +kernel
theorem d_K_times_240 : decode prog_4_method_4_code 240 = .ok (.putfield 9, 3) := by decide +kernel
theorem d_K_times_243 : decode prog_4_method_4_code 243 = .ok (.aload_n 0, 1) := by decide +kernel
theorem d_K_times_244 : decode prog_4_method_4_code 244 = .ok (.aload_n 0, 1) := by decide +kernel
theorem d_K_times_245 : decode prog_4_method_4_code 245 = .ok (.getfield 18, 3) := by decide +kernel
theorem d_K_times_248 : decode prog_4_method_4_code 248 = .ok (.lconst 0, 1) := by decide +kernel
theorem d_K_times_249 : decode prog_4_method_4_code 249 = .ok (.lcmp, 1) := by decide +kernel
theorem d_K_times_250 : decode prog_4_method_4_code 250 = .ok (.ifCond .ge 7, 3) := by decide +kernel
theorem d_K_times_253 : decode prog_4_method_4_code 253 = .ok (.iconst 1, 1) := by decide +kernel
theorem d_K_times_254 : decode prog_4_method_4_code 254 = .ok (.goto 4, 3) := by decide +kernel
theorem d_K_times_257 : decode prog_4_method_4_code 257 = .ok (.iconst 0, 1) := by decide +kernel
theorem d_K_times_258 : decode prog_4_method_4_code 258 = .ok (.lload_n 2, 1) := by decide +kernel
theorem d_K_times_259 : decode prog_4_method_4_code 259 = .ok (.lconst 0, 1) := by decide +kernel
theorem d_K_times_260 : decode prog_4_method_4_code 260 = .ok (.lcmp, 1) := by decide +kernel
theorem d_K_times_261 : decode prog_4_method_4_code 261 = .ok (.ifCond .ge 7, 3) := by decide +kernel
theorem d_K_times_264 : decode prog_4_method_4_code 264 = .ok (.iconst 1, 1) := by decide +kernel
theorem d_K_times_265 : decode prog_4_method_4_code 265 = .ok (.goto 4, 3) := by decide +kernel
theorem d_K_times_268 : decode prog_4_method_4_code 268 = .ok (.iconst 0, 1) := by decide +kernel
theorem d_K_times_269 : decode prog_4_method_4_code 269 = .ok (.if_icmp .eq 7, 3) := by decide +kernel
theorem d_K_times_272 : decode prog_4_method_4_code 272 = .ok (.iconst 1, 1) := by decide +kernel
theorem d_K_times_273 : decode prog_4_method_4_code 273 = .ok (.goto 4, 3) := by decide +kernel
theorem d_K_times_276 : decode prog_4_method_4_code 276 = .ok (.iconst 0, 1) := by decide +kernel
theorem d_K_times_277 : decode prog_4_method_4_code 277 = .ok (.lload 31, 2) := by decide +kernel
theorem d_K_times_279 : decode prog_4_method_4_code 279 = .ok (.ldc2_w 40, 3) := by decide +kernel
theorem d_K_times_282 : decode prog_4_method_4_code 282 = .ok (.lmul, 1) := by decide +kernel
theorem d_K_times_283 : decode prog_4_method_4_code 283 = .ok (.lload 29, 2) := by decide +kernel
theorem d_K_times_285 : decode prog_4_method_4_code 285 = .ok (.ladd, 1) := by decide +kernel
theorem d_K_times_286 : decode prog_4_method_4_code 286 = .ok (.lload 27, 2) := by decide +kernel
theorem d_K_times_288 : decode prog_4_method_4_code 288 = .ok (.invokevirtual 42, 3) := by decide +kernel
theorem d_K_times_291 : decode prog_4_method_4_code 291 = .ok (.return_, 1) := by decide +kernel
def m_K_times_277 (G : Nat → Nat) (a27 : Int64) (a29 : Int64) (a31 : Int64) (s0 : Int32) (s1 : Nat) (h : hp_H) : Option (Unit × hp_H) := (hp_vck h s1 6 (m_K_settle G s1 s0 ((a31 * (1000000000 : Int64)) + a29) a27 h)).bind fun q1 => some ((), q1.2)
set_option maxRecDepth 100000 in
set_option maxHeartbeats 4000000 in
theorem j_K_times_277 {Z : hp_Z} (a27 : Int64) (a29 : Int64) (a31 : Int64) (s0 : Int32) (s1 : Nat) (h : hp_H) : hp_J Y_K_times Z hp_rV h 277 [(27, .long a27), (29, .long a29), (31, .long a31)] [.int s0, .ref s1] (m_K_times_277 (hp_G Z)  a27 a29 a31 s0 s1 h) := by
  unfold m_K_times_277
  refine hp_lload (x0 := 2) d_K_times_277 rfl ?_
  refine hp_ldc2 (v := 1000000000) d_K_times_279 w_610 ?_
  refine hp_lmul d_K_times_282 ?_
  refine hp_lload (x0 := 1) d_K_times_283 rfl ?_
  refine hp_ladd d_K_times_285 ?_
  refine hp_lload (x0 := 0) d_K_times_286 rfl ?_
  refine hp_callU (hp_crV (ci := 6) (t_K_settle _ _ _ _ _ _) cw_K_42 rfl ⟨w_613, ws_20⟩ (by decide) rfl rfl (Nat.le_of_ble_eq_true rfl) d_K_times_288) fun q1 => ?_
  exact hp_vret d_K_times_291 rfl
def m_K_times_269 (G : Nat → Nat) (a27 : Int64) (a29 : Int64) (a31 : Int64) (s0 : Int32) (s1 : Int32) (s2 : Nat) (h : hp_H) : Option (Unit × hp_H) := if s1 = s0 then (m_K_times_277 G a27 a29 a31 (0 : Int32) s2 h) else (m_K_times_277 G a27 a29 a31 (1 : Int32) s2 h)
set_option maxRecDepth 100000 in
set_option maxHeartbeats 4000000 in
theorem j_K_times_269 {Z : hp_Z} (a27 : Int64) (a29 : Int64) (a31 : Int64) (s0 : Int32) (s1 : Int32) (s2 : Nat) (h : hp_H) : hp_J Y_K_times Z hp_rV h 269 [(27, .long a27), (29, .long a29), (31, .long a31)] [.int s0, .int s1, .ref s2] (m_K_times_269 (hp_G Z)  a27 a29 a31 s0 s1 s2 h) := by
  unfold m_K_times_269
  refine hp_icmp_eq (tgt := 276) d_K_times_269 (by decide) ?_ ?_
  · refine hp_iconst (v := 0) d_K_times_276 (by decide) ?_
    exact j_K_times_277  _ _ _ _ _ _
  · refine hp_iconst (v := 1) d_K_times_272 (by decide) ?_
    refine hp_goto (tgt := 277) d_K_times_273 (by decide) ?_
    exact j_K_times_277  _ _ _ _ _ _
def m_K_times_258 (G : Nat → Nat) (a2 : Int64) (a27 : Int64) (a29 : Int64) (a31 : Int64) (s0 : Int32) (s1 : Nat) (h : hp_H) : Option (Unit × hp_H) := if 0 ≤ (lg_cmp a2 (0 : Int64)) then (m_K_times_269 G a27 a29 a31 (0 : Int32) s0 s1 h) else (m_K_times_269 G a27 a29 a31 (1 : Int32) s0 s1 h)
set_option maxRecDepth 100000 in
set_option maxHeartbeats 4000000 in
theorem j_K_times_258 {Z : hp_Z} (a2 : Int64) (a27 : Int64) (a29 : Int64) (a31 : Int64) (s0 : Int32) (s1 : Nat) (h : hp_H) : hp_J Y_K_times Z hp_rV h 258 [(2, .long a2), (27, .long a27), (29, .long a29), (31, .long a31)] [.int s0, .ref s1] (m_K_times_258 (hp_G Z)  a2 a27 a29 a31 s0 s1 h) := by
  unfold m_K_times_258
  refine hp_lload_n (x0 := 0) d_K_times_258 rfl rfl ?_
  refine hp_lconst (v := 0) d_K_times_259 (by decide) ?_
  refine hp_lcmp d_K_times_260 ?_
  refine hp_if_ge (tgt := 268) d_K_times_261 (by decide) ?_ ?_
  · refine hp_iconst (v := 0) d_K_times_268 (by decide) ?_
    refine hp_sub [1, 2, 3] rfl ?_
    exact j_K_times_269  _ _ _ _ _ _ _
  · refine hp_iconst (v := 1) d_K_times_264 (by decide) ?_
    refine hp_goto (tgt := 269) d_K_times_265 (by decide) ?_
    refine hp_sub [1, 2, 3] rfl ?_
    exact j_K_times_269  _ _ _ _ _ _ _
def m_K_times_240 (G : Nat → Nat) (a0 : Nat) (a2 : Int64) (a27 : Int64) (a29 : Int64) (a31 : Int64) (s0 : Int32) (s1 : Nat) (h : hp_H) : Option (Unit × hp_H) := (hp_pZ h s1 6 0 s0).bind fun h1 => (hp_gL h1 a0 6 2).bind fun x2 => if 0 ≤ (lg_cmp x2 (0 : Int64)) then (m_K_times_258 G a2 a27 a29 a31 (0 : Int32) a0 h1) else (m_K_times_258 G a2 a27 a29 a31 (1 : Int32) a0 h1)
set_option maxRecDepth 100000 in
set_option maxHeartbeats 4000000 in
theorem j_K_times_240 {Z : hp_Z} (a0 : Nat) (a2 : Int64) (a27 : Int64) (a29 : Int64) (a31 : Int64) (s0 : Int32) (s1 : Nat) (h : hp_H) : hp_J Y_K_times Z hp_rV h 240 [(0, .ref a0), (2, .long a2), (27, .long a27), (29, .long a29), (31, .long a31)] [.int s0, .ref s1] (m_K_times_240 (hp_G Z)  a0 a2 a27 a29 a31 s0 s1 h) := by
  unfold m_K_times_240
  refine hp_putZ fl_K_9 (fun q => by cases q) d_K_times_240 fun h1 => ?_
  refine hp_aload_n (x0 := 0) d_K_times_243 rfl rfl ?_
  refine hp_aload_n (x0 := 0) d_K_times_244 rfl rfl ?_
  refine hp_getL fl_K_18 d_K_times_245 fun x2 => ?_
  refine hp_lconst (v := 0) d_K_times_248 (by decide) ?_
  refine hp_lcmp d_K_times_249 ?_
  refine hp_if_ge (tgt := 257) d_K_times_250 (by decide) ?_ ?_
  · refine hp_iconst (v := 0) d_K_times_257 (by decide) ?_
    refine hp_sub [1, 2, 3, 4] rfl ?_
    exact j_K_times_258  _ _ _ _ _ _ _
  · refine hp_iconst (v := 1) d_K_times_253 (by decide) ?_
    refine hp_goto (tgt := 258) d_K_times_254 (by decide) ?_
    refine hp_sub [1, 2, 3, 4] rfl ?_
    exact j_K_times_258  _ _ _ _ _ _ _
def m_K_times_239 (G : Nat → Nat) (a0 : Nat) (a2 : Int64) (a27 : Int64) (a29 : Int64) (a31 : Int64) (s0 : Nat) (h : hp_H) : Option (Unit × hp_H) := m_K_times_240 G a0 a2 a27 a29 a31 (0 : Int32) s0 h
set_option maxRecDepth 100000 in
set_option maxHeartbeats 4000000 in
theorem j_K_times_239 {Z : hp_Z} (a0 : Nat) (a2 : Int64) (a27 : Int64) (a29 : Int64) (a31 : Int64) (s0 : Nat) (h : hp_H) : hp_J Y_K_times Z hp_rV h 239 [(0, .ref a0), (2, .long a2), (27, .long a27), (29, .long a29), (31, .long a31)] [.ref s0] (m_K_times_239 (hp_G Z)  a0 a2 a27 a29 a31 s0 h) := by
  unfold m_K_times_239
  refine hp_iconst (v := 0) d_K_times_239 (by decide) ?_
  exact j_K_times_240  _ _ _ _ _ _ _ _
def m_K_times_17 (G : Nat → Nat) (a0 : Nat) (a2 : Int64) (a4 : Int32) (s0 : Int32) (s1 : Nat) (h : hp_H) : Option (Unit × hp_H) := (hp_pZ h s1 6 1 s0).bind fun h1 => (hp_gL h1 a0 6 2).bind fun x2 => (m_MA_abs G x2 h1).bind fun q3 => hp_nm q3.1 fun x4 => (hp_gI q3.2 a0 6 3).bind fun x5 => (m_D_power G x5 q3.2).bind fun q6 => (hp_dL x4 q6.1).bind fun x7 => hp_nm x7 fun x8 => (hp_gI q6.2 a0 6 3).bind fun x9 => (m_D_billionths G x4 x9 q6.2).bind fun q10 => hp_nm q10.1 fun x11 => (m_MA_abs G a2 q10.2).bind fun q12 => hp_nm q12.1 fun x13 => (m_D_power G a4 q12.2).bind fun q14 => (hp_dL x13 q14.1).bind fun x15 => hp_nm x15 fun x16 => (m_D_billionths G x13 a4 q14.2).bind fun q17 => hp_nm q17.1 fun x18 => (hp_mL x8 (1000000000 : Int64)).bind fun x19 => hp_nm x19 fun x20 => (hp_mL x16 (1000000000 : Int64)).bind fun x21 => hp_nm x21 fun x22 => (hp_dL x8 (1000000000 : Int64)).bind fun x23 => hp_nm x23 fun x24 => (hp_dL x16 (1000000000 : Int64)).bind fun x25 => hp_nm x25 fun x26 => hp_nm ((x11 * x18) + (500000000 : Int64)) fun x27 => (hp_dL x27 (1000000000 : Int64)).bind fun x28 => hp_nm ((x28 + (x11 * x22)) + (x20 * x18)) fun x29 => (hp_mL x29 (1000000000 : Int64)).bind fun x30 => hp_nm x30 fun x31 => (hp_dL x29 (1000000000 : Int64)).bind fun x32 => hp_nm (((x32 + (x11 * x26)) + (x20 * x22)) + (x24 * x18)) fun x33 => (hp_mL x33 (1000000000 : Int64)).bind fun x34 => hp_nm x34 fun x35 => (hp_dL x33 (1000000000 : Int64)).bind fun x36 => hp_nm ((x36 + (x20 * x26)) + (x24 * x22)) fun x37 => (hp_mL x37 (1000000000 : Int64)).bind fun x38 => hp_nm x38 fun x39 => (hp_gI q17.2 a0 6 0).bind fun x40 => if x40 = 0 then (m_K_times_239 G a0 a2 x31 x35 x39 a0 q17.2) else ((hp_dL x37 (1000000000 : Int64)).bind fun x41 => if (lg_cmp (x41 + (x24 * x26)) (0 : Int64)) = 0 then (m_K_times_240 G a0 a2 x31 x35 x39 (1 : Int32) a0 q17.2) else (m_K_times_239 G a0 a2 x31 x35 x39 a0 q17.2))
set_option maxRecDepth 100000 in
set_option maxHeartbeats 4000000 in
theorem j_K_times_17 {Z : hp_Z} (a0 : Nat) (a2 : Int64) (a4 : Int32) (s0 : Int32) (s1 : Nat) (h : hp_H) : hp_J Y_K_times Z hp_rV h 17 [(0, .ref a0), (2, .long a2), (4, .int a4)] [.int s0, .ref s1] (m_K_times_17 (hp_G Z)  a0 a2 a4 s0 s1 h) := by
  unfold m_K_times_17
  refine hp_putZ fl_K_15 (fun q => by cases q) d_K_times_17 fun h1 => ?_
  refine hp_aload_n (x0 := 0) d_K_times_20 rfl rfl ?_
  refine hp_getL fl_K_18 d_K_times_21 fun x2 => ?_
  refine hp_callL (hp_crS (t_MA_abs _ _ _) cw_K_46 w_622 (by decide) rfl rfl (Nat.le_of_ble_eq_true rfl) d_K_times_24) fun q3 => ?_
  refine hp_lstore (fun x4 => [(5, .long x4), (0, .ref a0), (2, .long a2), (4, .int a4)]) d_K_times_27 (by decide) (fun _ => rfl) fun x4 => ?_
  refine hp_lload (x0 := 0) d_K_times_29 rfl ?_
  refine hp_aload_n (x0 := 1) d_K_times_31 rfl rfl ?_
  refine hp_getI fl_K_22 d_K_times_32 fun x5 => ?_
  refine hp_callL (hp_crSN (t_D_power _ _ _) cw_K_26 w_462 (by decide) rfl rfl (Nat.le_of_ble_eq_true rfl) d_K_times_35) fun q6 => ?_
  refine hp_ldiv d_K_times_38 fun x7 => ?_
  refine hp_lstore (fun x8 => [(7, .long x8), (5, .long x4), (0, .ref a0), (2, .long a2), (4, .int a4)]) d_K_times_39 (by decide) (fun _ => rfl) fun x8 => ?_
  refine hp_lload (x0 := 1) d_K_times_41 rfl ?_
  refine hp_aload_n (x0 := 2) d_K_times_43 rfl rfl ?_
  refine hp_getI fl_K_22 d_K_times_44 fun x9 => ?_
  refine hp_callL (hp_crSN (t_D_billionths _ _ _ _) cw_K_36 w_473 (by decide) rfl rfl (Nat.le_of_ble_eq_true rfl) d_K_times_47) fun q10 => ?_
  refine hp_lstore (fun x11 => [(9, .long x11), (7, .long x8), (5, .long x4), (0, .ref a0), (2, .long a2), (4, .int a4)]) d_K_times_50 (by decide) (fun _ => rfl) fun x11 => ?_
  refine hp_lload_n (x0 := 4) d_K_times_52 rfl rfl ?_
  refine hp_callL (hp_crS (t_MA_abs _ _ _) cw_K_46 w_622 (by decide) rfl rfl (Nat.le_of_ble_eq_true rfl) d_K_times_53) fun q12 => ?_
  refine hp_lstore (fun x13 => [(11, .long x13), (9, .long x11), (7, .long x8), (5, .long x4), (0, .ref a0), (2, .long a2), (4, .int a4)]) d_K_times_56 (by decide) (fun _ => rfl) fun x13 => ?_
  refine hp_lload (x0 := 0) d_K_times_58 rfl ?_
  refine hp_iload (x0 := 6) d_K_times_60 rfl ?_
  refine hp_callL (hp_crSN (t_D_power _ _ _) cw_K_26 w_462 (by decide) rfl rfl (Nat.le_of_ble_eq_true rfl) d_K_times_62) fun q14 => ?_
  refine hp_ldiv d_K_times_65 fun x15 => ?_
  refine hp_lstore (fun x16 => [(13, .long x16), (11, .long x13), (9, .long x11), (7, .long x8), (5, .long x4), (0, .ref a0), (2, .long a2), (4, .int a4)]) d_K_times_66 (by decide) (fun _ => rfl) fun x16 => ?_
  refine hp_lload (x0 := 1) d_K_times_68 rfl ?_
  refine hp_iload (x0 := 7) d_K_times_70 rfl ?_
  refine hp_callL (hp_crSN (t_D_billionths _ _ _ _) cw_K_36 w_473 (by decide) rfl rfl (Nat.le_of_ble_eq_true rfl) d_K_times_72) fun q17 => ?_
  refine hp_lstore (fun x18 => [(15, .long x18), (13, .long x16), (11, .long x13), (9, .long x11), (7, .long x8), (5, .long x4), (0, .ref a0), (2, .long a2), (4, .int a4)]) d_K_times_75 (by decide) (fun _ => rfl) fun x18 => ?_
  refine hp_lload (x0 := 4) d_K_times_77 rfl ?_
  refine hp_ldc2 (v := 1000000000) d_K_times_79 w_610 ?_
  refine hp_lrem d_K_times_82 fun x19 => ?_
  refine hp_lstore (fun x20 => [(17, .long x20), (15, .long x18), (13, .long x16), (11, .long x13), (9, .long x11), (7, .long x8), (5, .long x4), (0, .ref a0), (2, .long a2), (4, .int a4)]) d_K_times_83 (by decide) (fun _ => rfl) fun x20 => ?_
  refine hp_lload (x0 := 2) d_K_times_85 rfl ?_
  refine hp_ldc2 (v := 1000000000) d_K_times_87 w_610 ?_
  refine hp_lrem d_K_times_90 fun x21 => ?_
  refine hp_lstore (fun x22 => [(19, .long x22), (17, .long x20), (15, .long x18), (13, .long x16), (11, .long x13), (9, .long x11), (7, .long x8), (5, .long x4), (0, .ref a0), (2, .long a2), (4, .int a4)]) d_K_times_91 (by decide) (fun _ => rfl) fun x22 => ?_
  refine hp_lload (x0 := 6) d_K_times_93 rfl ?_
  refine hp_ldc2 (v := 1000000000) d_K_times_95 w_610 ?_
  refine hp_ldiv d_K_times_98 fun x23 => ?_
  refine hp_lstore (fun x24 => [(21, .long x24), (19, .long x22), (17, .long x20), (15, .long x18), (13, .long x16), (11, .long x13), (9, .long x11), (7, .long x8), (5, .long x4), (0, .ref a0), (2, .long a2), (4, .int a4)]) d_K_times_99 (by decide) (fun _ => rfl) fun x24 => ?_
  refine hp_lload (x0 := 4) d_K_times_101 rfl ?_
  refine hp_ldc2 (v := 1000000000) d_K_times_103 w_610 ?_
  refine hp_ldiv d_K_times_106 fun x25 => ?_
  refine hp_lstore (fun x26 => [(23, .long x26), (21, .long x24), (19, .long x22), (17, .long x20), (15, .long x18), (13, .long x16), (11, .long x13), (9, .long x11), (7, .long x8), (5, .long x4), (0, .ref a0), (2, .long a2), (4, .int a4)]) d_K_times_107 (by decide) (fun _ => rfl) fun x26 => ?_
  refine hp_lload (x0 := 7) d_K_times_109 rfl ?_
  refine hp_lload (x0 := 4) d_K_times_111 rfl ?_
  refine hp_lmul d_K_times_113 ?_
  refine hp_ldc2 (v := 500000000) d_K_times_114 w_624 ?_
  refine hp_ladd d_K_times_117 ?_
  refine hp_lstore (fun x27 => [(25, .long x27), (23, .long x26), (21, .long x24), (19, .long x22), (17, .long x20), (15, .long x18), (13, .long x16), (11, .long x13), (9, .long x11), (7, .long x8), (5, .long x4), (0, .ref a0), (2, .long a2), (4, .int a4)]) d_K_times_118 (by decide) (fun _ => rfl) fun x27 => ?_
  refine hp_lload (x0 := 0) d_K_times_120 rfl ?_
  refine hp_ldc2 (v := 1000000000) d_K_times_122 w_610 ?_
  refine hp_ldiv d_K_times_125 fun x28 => ?_
  refine hp_lload (x0 := 8) d_K_times_126 rfl ?_
  refine hp_lload (x0 := 3) d_K_times_128 rfl ?_
  refine hp_lmul d_K_times_130 ?_
  refine hp_ladd d_K_times_131 ?_
  refine hp_lload (x0 := 4) d_K_times_132 rfl ?_
  refine hp_lload (x0 := 5) d_K_times_134 rfl ?_
  refine hp_lmul d_K_times_136 ?_
  refine hp_ladd d_K_times_137 ?_
  refine hp_lstore (fun x29 => [(25, .long x29), (23, .long x26), (21, .long x24), (19, .long x22), (17, .long x20), (15, .long x18), (13, .long x16), (11, .long x13), (9, .long x11), (7, .long x8), (5, .long x4), (0, .ref a0), (2, .long a2), (4, .int a4)]) d_K_times_138 (by decide) (fun _ => rfl) fun x29 => ?_
  refine hp_lload (x0 := 0) d_K_times_140 rfl ?_
  refine hp_ldc2 (v := 1000000000) d_K_times_142 w_610 ?_
  refine hp_lrem d_K_times_145 fun x30 => ?_
  refine hp_lstore (fun x31 => [(27, .long x31), (25, .long x29), (23, .long x26), (21, .long x24), (19, .long x22), (17, .long x20), (15, .long x18), (13, .long x16), (11, .long x13), (9, .long x11), (7, .long x8), (5, .long x4), (0, .ref a0), (2, .long a2), (4, .int a4)]) d_K_times_146 (by decide) (fun _ => rfl) fun x31 => ?_
  refine hp_lload (x0 := 1) d_K_times_148 rfl ?_
  refine hp_ldc2 (v := 1000000000) d_K_times_150 w_610 ?_
  refine hp_ldiv d_K_times_153 fun x32 => ?_
  refine hp_lload (x0 := 9) d_K_times_154 rfl ?_
  refine hp_lload (x0 := 2) d_K_times_156 rfl ?_
  refine hp_lmul d_K_times_158 ?_
  refine hp_ladd d_K_times_159 ?_
  refine hp_lload (x0 := 5) d_K_times_160 rfl ?_
  refine hp_lload (x0 := 4) d_K_times_162 rfl ?_
  refine hp_lmul d_K_times_164 ?_
  refine hp_ladd d_K_times_165 ?_
  refine hp_lload (x0 := 3) d_K_times_166 rfl ?_
  refine hp_lload (x0 := 6) d_K_times_168 rfl ?_
  refine hp_lmul d_K_times_170 ?_
  refine hp_ladd d_K_times_171 ?_
  refine hp_lstore (fun x33 => [(25, .long x33), (27, .long x31), (23, .long x26), (21, .long x24), (19, .long x22), (17, .long x20), (15, .long x18), (13, .long x16), (11, .long x13), (9, .long x11), (7, .long x8), (5, .long x4), (0, .ref a0), (2, .long a2), (4, .int a4)]) d_K_times_172 (by decide) (fun _ => rfl) fun x33 => ?_
  refine hp_lload (x0 := 0) d_K_times_174 rfl ?_
  refine hp_ldc2 (v := 1000000000) d_K_times_176 w_610 ?_
  refine hp_lrem d_K_times_179 fun x34 => ?_
  refine hp_lstore (fun x35 => [(29, .long x35), (25, .long x33), (27, .long x31), (23, .long x26), (21, .long x24), (19, .long x22), (17, .long x20), (15, .long x18), (13, .long x16), (11, .long x13), (9, .long x11), (7, .long x8), (5, .long x4), (0, .ref a0), (2, .long a2), (4, .int a4)]) d_K_times_180 (by decide) (fun _ => rfl) fun x35 => ?_
  refine hp_lload (x0 := 1) d_K_times_182 rfl ?_
  refine hp_ldc2 (v := 1000000000) d_K_times_184 w_610 ?_
  refine hp_ldiv d_K_times_187 fun x36 => ?_
  refine hp_lload (x0 := 6) d_K_times_188 rfl ?_
  refine hp_lload (x0 := 3) d_K_times_190 rfl ?_
  refine hp_lmul d_K_times_192 ?_
  refine hp_ladd d_K_times_193 ?_
  refine hp_lload (x0 := 4) d_K_times_194 rfl ?_
  refine hp_lload (x0 := 5) d_K_times_196 rfl ?_
  refine hp_lmul d_K_times_198 ?_
  refine hp_ladd d_K_times_199 ?_
  refine hp_lstore (fun x37 => [(25, .long x37), (29, .long x35), (27, .long x31), (23, .long x26), (21, .long x24), (19, .long x22), (17, .long x20), (15, .long x18), (13, .long x16), (11, .long x13), (9, .long x11), (7, .long x8), (5, .long x4), (0, .ref a0), (2, .long a2), (4, .int a4)]) d_K_times_200 (by decide) (fun _ => rfl) fun x37 => ?_
  refine hp_lload (x0 := 0) d_K_times_202 rfl ?_
  refine hp_ldc2 (v := 1000000000) d_K_times_204 w_610 ?_
  refine hp_lrem d_K_times_207 fun x38 => ?_
  refine hp_lstore (fun x39 => [(31, .long x39), (25, .long x37), (29, .long x35), (27, .long x31), (23, .long x26), (21, .long x24), (19, .long x22), (17, .long x20), (15, .long x18), (13, .long x16), (11, .long x13), (9, .long x11), (7, .long x8), (5, .long x4), (0, .ref a0), (2, .long a2), (4, .int a4)]) d_K_times_208 (by decide) (fun _ => rfl) fun x39 => ?_
  refine hp_aload_n (x0 := 14) d_K_times_210 rfl rfl ?_
  refine hp_aload_n (x0 := 14) d_K_times_211 rfl rfl ?_
  refine hp_getI fl_K_9 d_K_times_212 fun x40 => ?_
  refine hp_if_eq (tgt := 239) d_K_times_215 (by decide) ?_ ?_
  · refine hp_sub [14, 15, 3, 2, 0] rfl ?_
    exact j_K_times_239  _ _ _ _ _ _ _
  · refine hp_lload (x0 := 1) d_K_times_218 rfl ?_
    refine hp_ldc2 (v := 1000000000) d_K_times_220 w_610 ?_
    refine hp_ldiv d_K_times_223 fun x41 => ?_
    refine hp_lload (x0 := 5) d_K_times_224 rfl ?_
    refine hp_lload (x0 := 4) d_K_times_226 rfl ?_
    refine hp_lmul d_K_times_228 ?_
    refine hp_ladd d_K_times_229 ?_
    refine hp_lconst (v := 0) d_K_times_230 (by decide) ?_
    refine hp_lcmp d_K_times_231 ?_
    refine hp_if_ne (tgt := 239) d_K_times_232 (by decide) ?_ ?_
    · refine hp_iconst (v := 1) d_K_times_235 (by decide) ?_
      refine hp_goto (tgt := 240) d_K_times_236 (by decide) ?_
      refine hp_sub [14, 15, 3, 2, 0] rfl ?_
      exact j_K_times_240  _ _ _ _ _ _ _ _
    · refine hp_sub [14, 15, 3, 2, 0] rfl ?_
      exact j_K_times_239  _ _ _ _ _ _ _
def m_K_times_16 (G : Nat → Nat) (a0 : Nat) (a2 : Int64) (a4 : Int32) (s0 : Nat) (h : hp_H) : Option (Unit × hp_H) := m_K_times_17 G a0 a2 a4 (0 : Int32) s0 h
set_option maxRecDepth 100000 in
set_option maxHeartbeats 4000000 in
theorem j_K_times_16 {Z : hp_Z} (a0 : Nat) (a2 : Int64) (a4 : Int32) (s0 : Nat) (h : hp_H) : hp_J Y_K_times Z hp_rV h 16 [(0, .ref a0), (2, .long a2), (4, .int a4)] [.ref s0] (m_K_times_16 (hp_G Z)  a0 a2 a4 s0 h) := by
  unfold m_K_times_16
  refine hp_iconst (v := 0) d_K_times_16 (by decide) ?_
  exact j_K_times_17  _ _ _ _ _ _
def m_K_times (G : Nat → Nat) (a0 : Nat) (a1 : Int32) (a2 : Int64) (a4 : Int32) (h : hp_H) : Option (Unit × hp_H) := (hp_gI h a0 6 1).bind fun x1 => if x1 = 0 then (m_K_times_16 G a0 a2 a4 a0 h) else (if a1 = 0 then (m_K_times_16 G a0 a2 a4 a0 h) else (m_K_times_17 G a0 a2 a4 (1 : Int32) a0 h))
set_option maxRecDepth 100000 in
set_option maxHeartbeats 4000000 in
theorem j_K_times_0 {Z : hp_Z} (a0 : Nat) (a1 : Int32) (a2 : Int64) (a4 : Int32) (h : hp_H) : hp_J Y_K_times Z hp_rV h 0 [(0, .ref a0), (1, .int a1), (2, .long a2), (4, .int a4)] [] (m_K_times (hp_G Z)  a0 a1 a2 a4 h) := by
  unfold m_K_times
  refine hp_aload_n (x0 := 0) d_K_times_0 rfl rfl ?_
  refine hp_aload_n (x0 := 0) d_K_times_1 rfl rfl ?_
  refine hp_getI fl_K_15 d_K_times_2 fun x1 => ?_
  refine hp_if_eq (tgt := 16) d_K_times_5 (by decide) ?_ ?_
  · refine hp_sub [0, 2, 3] rfl ?_
    exact j_K_times_16  _ _ _ _ _
  · refine hp_iload_n (x0 := 1) d_K_times_8 rfl rfl ?_
    refine hp_if_eq (tgt := 16) d_K_times_9 (by decide) ?_ ?_
    · refine hp_sub [0, 2, 3] rfl ?_
      exact j_K_times_16  _ _ _ _ _
    · refine hp_iconst (v := 1) d_K_times_12 (by decide) ?_
      refine hp_goto (tgt := 17) d_K_times_13 (by decide) ?_
      refine hp_sub [0, 2, 3] rfl ?_
      exact j_K_times_17  _ _ _ _ _ _
theorem t_K_times (l : Launch) (E : hp_E) (a0 : Nat) (a1 : Int32) (a2 : Int64) (a4 : Int32) : hp_M l E y_K_times Y_K_times hp_rV [.ref a0, .int a1, .long a2, .int a4] (m_K_times E.2.2.1 a0 a1 a2 a4) := hp_M.of (plainFor_of_name (by decide)) ⟨rfl, rfl⟩ (Nat.le_of_ble_eq_true rfl) (fun Z h hE => by subst hE; exact j_K_times_0 _ _ _ _ h)
-- S_keepReckoned
theorem d_S_keepReckoned_0 : decode prog_6_method_8_code 0 = .ok (.aload_n 1, 1) := by decide +kernel
theorem d_S_keepReckoned_1 : decode prog_6_method_8_code 1 = .ok (.getfield 58, 3) := by decide +kernel
theorem d_S_keepReckoned_4 : decode prog_6_method_8_code 4 = .ok (.ifCond .ne 6, 3) := by decide +kernel
theorem d_S_keepReckoned_7 : decode prog_6_method_8_code 7 = .ok (.bipush (-4), 2) := by decide +kernel
theorem d_S_keepReckoned_9 : decode prog_6_method_8_code 9 = .ok (.ireturn, 1) := by decide +kernel
theorem d_S_keepReckoned_10 : decode prog_6_method_8_code 10 = .ok (.aload_n 0, 1) := by decide +kernel
theorem d_S_keepReckoned_11 : decode prog_6_method_8_code 11 = .ok (.aload_n 1, 1) := by decide +kernel
theorem d_S_keepReckoned_12 : decode prog_6_method_8_code 12 = .ok (.getfield 63, 3) := by decide +kernel
theorem d_S_keepReckoned_15 : decode prog_6_method_8_code 15 = .ok (.ifCond .eq 7, 3) := by decide +kernel
theorem d_S_keepReckoned_18 : decode prog_6_method_8_code 18 = .ok (.iconst 3, 1) := by decide +kernel
theorem d_S_keepReckoned_19 : decode prog_6_method_8_code 19 = .ok (.goto 4, 3) := by decide +kernel
theorem d_S_keepReckoned_22 : decode prog_6_method_8_code 22 = .ok (.iconst 4, 1) := by decide +kernel
theorem d_S_keepReckoned_23 : decode prog_6_method_8_code 23 = .ok (.aload_n 1, 1) := by decide +kernel
theorem d_S_keepReckoned_24 : decode prog_6_method_8_code 24 = .ok (.getfield 66, 3) := by decide +kernel
theorem d_S_keepReckoned_27 : decode prog_6_method_8_code 27 = .ok (.aload_n 1, 1) := by decide +kernel
theorem d_S_keepReckoned_28 : decode prog_6_method_8_code 28 = .ok (.getfield 70, 3) := by decide +kernel
theorem d_S_keepReckoned_31 : decode prog_6_method_8_code 31 = .ok (.invokevirtual 74, 3) := by decide +kernel
theorem d_S_keepReckoned_34 : decode prog_6_method_8_code 34 = .ok (.ireturn, 1) := by decide +kernel
def m_S_keepReckoned_23 (G : Nat → Nat) (a1 : Nat) (s0 : Int32) (s1 : Nat) (h : hp_H) : Option (Int32 × hp_H) := (hp_gL h a1 6 2).bind fun x1 => (hp_gI h a1 6 3).bind fun x2 => (hp_vck h s1 1 (m_S_keepNumber G s1 s0 x1 x2 h)).bind fun q3 => some (q3.1, q3.2)
set_option maxRecDepth 100000 in
set_option maxHeartbeats 4000000 in
theorem j_S_keepReckoned_23 {Z : hp_Z} (a1 : Nat) (s0 : Int32) (s1 : Nat) (h : hp_H) : hp_J Y_S_keepReckoned Z hp_rI h 23 [(1, .ref a1)] [.int s0, .ref s1] (m_S_keepReckoned_23 (hp_G Z)  a1 s0 s1 h) := by
  unfold m_S_keepReckoned_23
  refine hp_aload_n (x0 := 0) d_S_keepReckoned_23 rfl rfl ?_
  refine hp_getL fl_S_66 d_S_keepReckoned_24 fun x1 => ?_
  refine hp_aload_n (x0 := 0) d_S_keepReckoned_27 rfl rfl ?_
  refine hp_getI fl_S_70 d_S_keepReckoned_28 fun x2 => ?_
  refine hp_callI (hp_crV (ci := 1) (t_S_keepNumber _ _ _ _ _ _) cw_S_74 rfl ⟨w_282, w_283⟩ (by decide) rfl rfl (Nat.le_of_ble_eq_true rfl) d_S_keepReckoned_31) fun q3 => ?_
  exact hp_iret d_S_keepReckoned_34 rfl
def m_S_keepReckoned (G : Nat → Nat) (a0 : Nat) (a1 : Nat) (h : hp_H) : Option (Int32 × hp_H) := (hp_gI h a1 6 0).bind fun x1 => if x1 = 0 then (some ((-4 : Int32), h)) else ((hp_gI h a1 6 1).bind fun x2 => if x2 = 0 then (m_S_keepReckoned_23 G a1 (4 : Int32) a0 h) else (m_S_keepReckoned_23 G a1 (3 : Int32) a0 h))
set_option maxRecDepth 100000 in
set_option maxHeartbeats 4000000 in
theorem j_S_keepReckoned_0 {Z : hp_Z} (a0 : Nat) (a1 : Nat) (h : hp_H) : hp_J Y_S_keepReckoned Z hp_rI h 0 [(0, .ref a0), (1, .ref a1)] [] (m_S_keepReckoned (hp_G Z)  a0 a1 h) := by
  unfold m_S_keepReckoned
  refine hp_aload_n (x0 := 1) d_S_keepReckoned_0 rfl rfl ?_
  refine hp_getI fl_S_58 d_S_keepReckoned_1 fun x1 => ?_
  refine hp_if_ne (tgt := 10) d_S_keepReckoned_4 (by decide) ?_ ?_
  · refine hp_bipush (v := -4) d_S_keepReckoned_7 (by decide) ?_
    exact hp_iret d_S_keepReckoned_9 rfl
  · refine hp_aload_n (x0 := 0) d_S_keepReckoned_10 rfl rfl ?_
    refine hp_aload_n (x0 := 1) d_S_keepReckoned_11 rfl rfl ?_
    refine hp_getI fl_S_63 d_S_keepReckoned_12 fun x2 => ?_
    refine hp_if_eq (tgt := 22) d_S_keepReckoned_15 (by decide) ?_ ?_
    · refine hp_iconst (v := 4) d_S_keepReckoned_22 (by decide) ?_
      refine hp_sub [1] rfl ?_
      exact j_S_keepReckoned_23  _ _ _ _
    · refine hp_iconst (v := 3) d_S_keepReckoned_18 (by decide) ?_
      refine hp_goto (tgt := 23) d_S_keepReckoned_19 (by decide) ?_
      refine hp_sub [1] rfl ?_
      exact j_S_keepReckoned_23  _ _ _ _
theorem t_S_keepReckoned (l : Launch) (E : hp_E) (a0 : Nat) (a1 : Nat) : hp_M l E y_S_keepReckoned Y_S_keepReckoned hp_rI [.ref a0, .ref a1] (m_S_keepReckoned E.2.2.1 a0 a1) := hp_M.of (plainFor_of_name (by decide)) ⟨rfl, rfl⟩ (Nat.le_of_ble_eq_true rfl) (fun Z h hE => by subst hE; exact j_S_keepReckoned_0 _ _ h)
-- E_reckoned
theorem d_E_reckoned_0 : decode prog_2_method_23_code 0 = .ok (.aload_n 0, 1) := by decide +kernel
theorem d_E_reckoned_1 : decode prog_2_method_23_code 1 = .ok (.iconst 0, 1) := by decide +kernel
theorem d_E_reckoned_2 : decode prog_2_method_23_code 2 = .ok (.invokevirtual 90, 3) := by decide +kernel
theorem d_E_reckoned_5 : decode prog_2_method_23_code 5 = .ok (.astore_n 2, 1) := by decide +kernel
theorem d_E_reckoned_6 : decode prog_2_method_23_code 6 = .ok (.aload_n 0, 1) := by decide +kernel
theorem d_E_reckoned_7 : decode prog_2_method_23_code 7 = .ok (.iconst 1, 1) := by decide +kernel
theorem d_E_reckoned_8 : decode prog_2_method_23_code 8 = .ok (.invokevirtual 90, 3) := by decide +kernel
theorem d_E_reckoned_11 : decode prog_2_method_23_code 11 = .ok (.astore_n 3, 1) := by decide +kernel
theorem d_E_reckoned_12 : decode prog_2_method_23_code 12 = .ok (.aload_n 2, 1) := by decide +kernel
theorem d_E_reckoned_13 : decode prog_2_method_23_code 13 = .ok (.invokevirtual 147, 3) := by decide +kernel
theorem d_E_reckoned_16 : decode prog_2_method_23_code 16 = .ok (.ifCond .eq 10, 3) := by decide +kernel
theorem d_E_reckoned_19 : decode prog_2_method_23_code 19 = .ok (.aload_n 3, 1) := by decide +kernel
theorem d_E_reckoned_20 : decode prog_2_method_23_code 20 = .ok (.invokevirtual 147, 3) := by decide +kernel
theorem d_E_reckoned_23 : decode prog_2_method_23_code 23 = .ok (.ifCond .ne 6, 3) := by decide +kernel
theorem d_E_reckoned_26 : decode prog_2_method_23_code 26 = .ok (.bipush (-4), 2) := by decide +kernel
theorem d_E_reckoned_28 : decode prog_2_method_23_code 28 = .ok (.ireturn, 1) := by decide +kernel
theorem d_E_reckoned_29 : decode prog_2_method_23_code 29 = .ok (.aload_n 3, 1) := by decide +kernel
theorem d_E_reckoned_30 : decode prog_2_method_23_code 30 = .ok (.getfield 93, 3) := by decide +kernel
theorem d_E_reckoned_33 : decode prog_2_method_23_code 33 = .ok (.iconst 3, 1) := by decide +kernel
theorem d_E_reckoned_34 : decode prog_2_method_23_code 34 = .ok (.if_icmp .ne 7, 3) := by decide +kernel
theorem d_E_reckoned_37 : decode prog_2_method_23_code 37 = .ok (.iconst 1, 1) := by decide +kernel
theorem d_E_reckoned_38 : decode prog_2_method_23_code 38 = .ok (.goto 4, 3) := by decide +kernel
theorem d_E_reckoned_41 : decode prog_2_method_23_code 41 = .ok (.iconst 0, 1) := by decide +kernel
theorem d_E_reckoned_42 : decode prog_2_method_23_code 42 = .ok (.istore 4, 2) := by decide +kernel
theorem d_E_reckoned_44 : decode prog_2_method_23_code 44 = .ok (.aload_n 0, 1) := by decide +kernel
theorem d_E_reckoned_45 : decode prog_2_method_23_code 45 = .ok (.getfield 34, 3) := by decide +kernel
theorem d_E_reckoned_48 : decode prog_2_method_23_code 48 = .ok (.aload_n 2, 1) := by decide +kernel
theorem d_E_reckoned_49 : decode prog_2_method_23_code 49 = .ok (.getfield 93, 3) := by decide +kernel
theorem d_E_reckoned_52 : decode prog_2_method_23_code 52 = .ok (.iconst 3, 1) := by decide +kernel
theorem d_E_reckoned_53 : decode prog_2_method_23_code 53 = .ok (.if_icmp .ne 7, 3) := by decide +kernel
theorem d_E_reckoned_56 : decode prog_2_method_23_code 56 = .ok (.iconst 1, 1) := by decide +kernel
theorem d_E_reckoned_57 : decode prog_2_method_23_code 57 = .ok (.goto 4, 3) := by decide +kernel
theorem d_E_reckoned_60 : decode prog_2_method_23_code 60 = .ok (.iconst 0, 1) := by decide +kernel
theorem d_E_reckoned_61 : decode prog_2_method_23_code 61 = .ok (.aload_n 2, 1) := by decide +kernel
theorem d_E_reckoned_62 : decode prog_2_method_23_code 62 = .ok (.getfield 157, 3) := by decide +kernel
theorem d_E_reckoned_65 : decode prog_2_method_23_code 65 = .ok (.aload_n 2, 1) := by decide +kernel
theorem d_E_reckoned_66 : decode prog_2_method_23_code 66 = .ok (.getfield 161, 3) := by decide +kernel
theorem d_E_reckoned_69 : decode prog_2_method_23_code 69 = .ok (.invokevirtual 164, 3) := by decide +kernel
theorem d_E_reckoned_72 : decode prog_2_method_23_code 72 = .ok (.iload_n 1, 1) := by decide +kernel
theorem d_E_reckoned_73 : decode prog_2_method_23_code 73 = .ok (.tableswitch 88 13 15 #[27, 47, 68], 27) := by decide +kernel
theorem d_E_reckoned_100 : decode prog_2_method_23_code 100 = .ok (.aload_n 0, 1) := by decide +kernel
theorem d_E_reckoned_101 : decode prog_2_method_23_code 101 = .ok (.getfield 34, 3) := by decide +kernel
theorem d_E_reckoned_104 : decode prog_2_method_23_code 104 = .ok (.iload 4, 2) := by decide +kernel
theorem d_E_reckoned_106 : decode prog_2_method_23_code 106 = .ok (.aload_n 3, 1) := by decide +kernel
theorem d_E_reckoned_107 : decode prog_2_method_23_code 107 = .ok (.getfield 157, 3) := by decide +kernel
theorem d_E_reckoned_110 : decode prog_2_method_23_code 110 = .ok (.aload_n 3, 1) := by decide +kernel
theorem d_E_reckoned_111 : decode prog_2_method_23_code 111 = .ok (.getfield 161, 3) := by decide +kernel
theorem d_E_reckoned_114 : decode prog_2_method_23_code 114 = .ok (.invokevirtual 168, 3) := by decide +kernel
theorem d_E_reckoned_117 : decode prog_2_method_23_code 117 = .ok (.goto 59, 3) := by decide +kernel
theorem d_E_reckoned_120 : decode prog_2_method_23_code 120 = .ok (.aload_n 0, 1) := by decide +kernel
theorem d_E_reckoned_121 : decode prog_2_method_23_code 121 = .ok (.getfield 34, 3) := by decide +kernel
theorem d_E_reckoned_124 : decode prog_2_method_23_code 124 = .ok (.iload 4, 2) := by decide +kernel
theorem d_E_reckoned_126 : decode prog_2_method_23_code 126 = .ok (.aload_n 3, 1) := by decide +kernel
theorem d_E_reckoned_127 : decode prog_2_method_23_code 127 = .ok (.getfield 157, 3) := by decide +kernel
theorem d_E_reckoned_130 : decode prog_2_method_23_code 130 = .ok (.lneg, 1) := by decide +kernel
theorem d_E_reckoned_131 : decode prog_2_method_23_code 131 = .ok (.aload_n 3, 1) := by decide +kernel
theorem d_E_reckoned_132 : decode prog_2_method_23_code 132 = .ok (.getfield 161, 3) := by decide +kernel
theorem d_E_reckoned_135 : decode prog_2_method_23_code 135 = .ok (.invokevirtual 168, 3) := by decide +kernel
theorem d_E_reckoned_138 : decode prog_2_method_23_code 138 = .ok (.goto 38, 3) := by decide +kernel
theorem d_E_reckoned_141 : decode prog_2_method_23_code 141 = .ok (.aload_n 0, 1) := by decide +kernel
theorem d_E_reckoned_142 : decode prog_2_method_23_code 142 = .ok (.getfield 34, 3) := by decide +kernel
theorem d_E_reckoned_145 : decode prog_2_method_23_code 145 = .ok (.iload 4, 2) := by decide +kernel
theorem d_E_reckoned_147 : decode prog_2_method_23_code 147 = .ok (.aload_n 3, 1) := by decide +kernel
theorem d_E_reckoned_148 : decode prog_2_method_23_code 148 = .ok (.getfield 157, 3) := by decide +kernel
theorem d_E_reckoned_151 : decode prog_2_method_23_code 151 = .ok (.aload_n 3, 1) := by decide +kernel
theorem d_E_reckoned_152 : decode prog_2_method_23_code 152 = .ok (.getfield 161, 3) := by decide +kernel
theorem d_E_reckoned_155 : decode prog_2_method_23_code 155 = .ok (.invokevirtual 171, 3) := by decide +kernel
theorem d_E_reckoned_158 : decode prog_2_method_23_code 158 = .ok (.goto 18, 3) := by decide +kernel
theorem d_E_reckoned_161 : decode prog_2_method_23_code 161 = .ok (.aload_n 0, 1) := by decide +kernel
theorem d_E_reckoned_162 : decode prog_2_method_23_code 162 = .ok (.getfield 34, 3) := by decide +kernel
theorem d_E_reckoned_165 : decode prog_2_method_23_code 165 = .ok (.aload_n 3, 1) := by decide +kernel
theorem d_E_reckoned_166 : decode prog_2_method_23_code 166 = .ok (.getfield 157, 3) := by decide +kernel
theorem d_E_reckoned_169 : decode prog_2_method_23_code 169 = .ok (.aload_n 3, 1) := by decide +kernel
theorem d_E_reckoned_170 : decode prog_2_method_23_code 170 = .ok (.getfield 161, 3) := by decide +kernel
theorem d_E_reckoned_173 : decode prog_2_method_23_code 173 = .ok (.invokevirtual 174, 3) := by decide +kernel
theorem d_E_reckoned_176 : decode prog_2_method_23_code 176 = .ok (.aload_n 0, 1) := by decide +kernel
theorem d_E_reckoned_177 : decode prog_2_method_23_code 177 = .ok (.getfield 38, 3) := by decide +kernel
theorem d_E_reckoned_180 : decode prog_2_method_23_code 180 = .ok (.aload_n 0, 1) := by decide +kernel
theorem d_E_reckoned_181 : decode prog_2_method_23_code 181 = .ok (.getfield 34, 3) := by decide +kernel
theorem d_E_reckoned_184 : decode prog_2_method_23_code 184 = .ok (.invokevirtual 178, 3) := by decide +kernel
theorem d_E_reckoned_187 : decode prog_2_method_23_code 187 = .ok (.ireturn, 1) := by decide +kernel
def m_E_reckoned_26 (G : Nat → Nat) (h : hp_H) : Option (Int32 × hp_H) := some ((-4 : Int32), h)
set_option maxRecDepth 100000 in
set_option maxHeartbeats 4000000 in
theorem j_E_reckoned_26 {Z : hp_Z} (h : hp_H) : hp_J Y_E_reckoned Z hp_rI h 26 [] [] (m_E_reckoned_26 (hp_G Z)   h) := by
  unfold m_E_reckoned_26
  refine hp_bipush (v := -4) d_E_reckoned_26 (by decide) ?_
  exact hp_iret d_E_reckoned_28 rfl
def m_E_reckoned_176 (G : Nat → Nat) (a0 : Nat) (h : hp_H) : Option (Int32 × hp_H) := (hp_gR h a0 5 0).bind fun x1 => (hp_gR h a0 5 6).bind fun x2 => (hp_vck h x1 1 (m_S_keepReckoned G x1 x2 h)).bind fun q3 => some (q3.1, q3.2)
set_option maxRecDepth 100000 in
set_option maxHeartbeats 4000000 in
theorem j_E_reckoned_176 {Z : hp_Z} (a0 : Nat) (h : hp_H) : hp_J Y_E_reckoned Z hp_rI h 176 [(0, .ref a0)] [] (m_E_reckoned_176 (hp_G Z)  a0 h) := by
  unfold m_E_reckoned_176
  refine hp_aload_n (x0 := 0) d_E_reckoned_176 rfl rfl ?_
  refine hp_getR fl_E_38 d_E_reckoned_177 fun x1 => ?_
  refine hp_aload_n (x0 := 0) d_E_reckoned_180 rfl rfl ?_
  refine hp_getR fl_E_34 d_E_reckoned_181 fun x2 => ?_
  refine hp_callI (hp_crV (ci := 1) (t_S_keepReckoned _ _ _ _) cw_E_178 rfl ⟨w_631, w_632⟩ (by decide) rfl rfl (Nat.le_of_ble_eq_true rfl) d_E_reckoned_184) fun q3 => ?_
  exact hp_iret d_E_reckoned_187 rfl
def m_E_reckoned_61 (G : Nat → Nat) (a0 : Nat) (a1 : Int32) (a2 : Nat) (a3 : Nat) (a4 : Int32) (s0 : Int32) (s1 : Nat) (h : hp_H) : Option (Int32 × hp_H) := (hp_gL h a2 3 2).bind fun x1 => (hp_gI h a2 3 3).bind fun x2 => (hp_vck h s1 6 (m_K_start G s1 s0 x1 x2 h)).bind fun q3 => if a1 = 13 then ((hp_gR q3.2 a0 5 6).bind fun x4 => (hp_gL q3.2 a3 3 2).bind fun x5 => (hp_gI q3.2 a3 3 3).bind fun x6 => (hp_vck q3.2 x4 6 (m_K_plus G x4 a4 x5 x6 q3.2)).bind fun q7 => m_E_reckoned_176 G a0 q7.2) else (if a1 = 14 then ((hp_gR q3.2 a0 5 6).bind fun x8 => (hp_gL q3.2 a3 3 2).bind fun x9 => (hp_gI q3.2 a3 3 3).bind fun x10 => (hp_vck q3.2 x8 6 (m_K_plus G x8 a4 (-x9) x10 q3.2)).bind fun q11 => m_E_reckoned_176 G a0 q11.2) else (if a1 = 15 then ((hp_gR q3.2 a0 5 6).bind fun x12 => (hp_gL q3.2 a3 3 2).bind fun x13 => (hp_gI q3.2 a3 3 3).bind fun x14 => (hp_vck q3.2 x12 6 (m_K_times G x12 a4 x13 x14 q3.2)).bind fun q15 => m_E_reckoned_176 G a0 q15.2) else ((hp_gR q3.2 a0 5 6).bind fun x16 => (hp_gL q3.2 a3 3 2).bind fun x17 => (hp_gI q3.2 a3 3 3).bind fun x18 => (hp_vck q3.2 x16 6 (m_K_over G x16 x17 x18 q3.2)).bind fun q19 => m_E_reckoned_176 G a0 q19.2)))
set_option maxRecDepth 100000 in
set_option maxHeartbeats 4000000 in
theorem j_E_reckoned_61 {Z : hp_Z} (a0 : Nat) (a1 : Int32) (a2 : Nat) (a3 : Nat) (a4 : Int32) (s0 : Int32) (s1 : Nat) (h : hp_H) : hp_J Y_E_reckoned Z hp_rI h 61 [(0, .ref a0), (1, .int a1), (2, .ref a2), (3, .ref a3), (4, .int a4)] [.int s0, .ref s1] (m_E_reckoned_61 (hp_G Z)  a0 a1 a2 a3 a4 s0 s1 h) := by
  unfold m_E_reckoned_61
  refine hp_aload_n (x0 := 2) d_E_reckoned_61 rfl rfl ?_
  refine hp_getL fl_E_157 d_E_reckoned_62 fun x1 => ?_
  refine hp_aload_n (x0 := 2) d_E_reckoned_65 rfl rfl ?_
  refine hp_getI fl_E_161 d_E_reckoned_66 fun x2 => ?_
  refine hp_callU (hp_crV (ci := 6) (t_K_start _ _ _ _ _ _) cw_E_164 rfl ⟨w_600, w_601⟩ (by decide) rfl rfl (Nat.le_of_ble_eq_true rfl) d_E_reckoned_69) fun q3 => ?_
  refine hp_iload_n (x0 := 1) d_E_reckoned_72 rfl rfl ?_
  refine hp_ite (fun c0 => ?_) (fun c0 => ?_)
  · refine hp_tabI (tgt := 100) (kv := 13) d_E_reckoned_73 c0 (by decide) (by decide) rfl (by decide) ?_
    refine hp_aload_n (x0 := 0) d_E_reckoned_100 rfl rfl ?_
    refine hp_getR fl_E_34 d_E_reckoned_101 fun x4 => ?_
    refine hp_iload (x0 := 4) d_E_reckoned_104 rfl ?_
    refine hp_aload_n (x0 := 3) d_E_reckoned_106 rfl rfl ?_
    refine hp_getL fl_E_157 d_E_reckoned_107 fun x5 => ?_
    refine hp_aload_n (x0 := 3) d_E_reckoned_110 rfl rfl ?_
    refine hp_getI fl_E_161 d_E_reckoned_111 fun x6 => ?_
    refine hp_callU (hp_crV (ci := 6) (t_K_plus _ _ _ _ _ _) cw_E_168 rfl ⟨w_604, w_605⟩ (by decide) rfl rfl (Nat.le_of_ble_eq_true rfl) d_E_reckoned_114) fun q7 => ?_
    refine hp_goto (tgt := 176) d_E_reckoned_117 (by decide) ?_
    refine hp_sub [0] rfl ?_
    exact j_E_reckoned_176  _ _
  · skip
    refine hp_ite (fun c1 => ?_) (fun c1 => ?_)
    · refine hp_tabI (tgt := 120) (kv := 14) d_E_reckoned_73 c1 (by decide) (by decide) rfl (by decide) ?_
      refine hp_aload_n (x0 := 0) d_E_reckoned_120 rfl rfl ?_
      refine hp_getR fl_E_34 d_E_reckoned_121 fun x8 => ?_
      refine hp_iload (x0 := 4) d_E_reckoned_124 rfl ?_
      refine hp_aload_n (x0 := 3) d_E_reckoned_126 rfl rfl ?_
      refine hp_getL fl_E_157 d_E_reckoned_127 fun x9 => ?_
      refine hp_lneg d_E_reckoned_130 ?_
      refine hp_aload_n (x0 := 3) d_E_reckoned_131 rfl rfl ?_
      refine hp_getI fl_E_161 d_E_reckoned_132 fun x10 => ?_
      refine hp_callU (hp_crV (ci := 6) (t_K_plus _ _ _ _ _ _) cw_E_168 rfl ⟨w_604, w_605⟩ (by decide) rfl rfl (Nat.le_of_ble_eq_true rfl) d_E_reckoned_135) fun q11 => ?_
      refine hp_goto (tgt := 176) d_E_reckoned_138 (by decide) ?_
      refine hp_sub [0] rfl ?_
      exact j_E_reckoned_176  _ _
    · skip
      refine hp_ite (fun c2 => ?_) (fun c2 => ?_)
      · refine hp_tabI (tgt := 141) (kv := 15) d_E_reckoned_73 c2 (by decide) (by decide) rfl (by decide) ?_
        refine hp_aload_n (x0 := 0) d_E_reckoned_141 rfl rfl ?_
        refine hp_getR fl_E_34 d_E_reckoned_142 fun x12 => ?_
        refine hp_iload (x0 := 4) d_E_reckoned_145 rfl ?_
        refine hp_aload_n (x0 := 3) d_E_reckoned_147 rfl rfl ?_
        refine hp_getL fl_E_157 d_E_reckoned_148 fun x13 => ?_
        refine hp_aload_n (x0 := 3) d_E_reckoned_151 rfl rfl ?_
        refine hp_getI fl_E_161 d_E_reckoned_152 fun x14 => ?_
        refine hp_callU (hp_crV (ci := 6) (t_K_times _ _ _ _ _ _) cw_E_171 rfl ⟨w_618, w_619⟩ (by decide) rfl rfl (Nat.le_of_ble_eq_true rfl) d_E_reckoned_155) fun q15 => ?_
        refine hp_goto (tgt := 176) d_E_reckoned_158 (by decide) ?_
        refine hp_sub [0] rfl ?_
        exact j_E_reckoned_176  _ _
      · skip
        refine hp_tabD (tgt := 161) d_E_reckoned_73 (by have e0 := lv_neT c0 (a := 13) (by decide); have e1 := lv_neT c1 (a := 14) (by decide); have e2 := lv_neT c2 (a := 15) (by decide); omega) (by decide) ?_
        refine hp_aload_n (x0 := 0) d_E_reckoned_161 rfl rfl ?_
        refine hp_getR fl_E_34 d_E_reckoned_162 fun x16 => ?_
        refine hp_aload_n (x0 := 3) d_E_reckoned_165 rfl rfl ?_
        refine hp_getL fl_E_157 d_E_reckoned_166 fun x17 => ?_
        refine hp_aload_n (x0 := 3) d_E_reckoned_169 rfl rfl ?_
        refine hp_getI fl_E_161 d_E_reckoned_170 fun x18 => ?_
        refine hp_callU (hp_crV (ci := 6) (t_K_over _ _ _ _ _) cw_E_174 rfl ⟨w_626, w_627⟩ (by decide) rfl rfl (Nat.le_of_ble_eq_true rfl) d_E_reckoned_173) fun q19 => ?_
        refine hp_sub [0] rfl ?_
        exact j_E_reckoned_176  _ _
def m_E_reckoned_42 (G : Nat → Nat) (a0 : Nat) (a1 : Int32) (a2 : Nat) (a3 : Nat) (s0 : Int32) (h : hp_H) : Option (Int32 × hp_H) := hp_nm s0 fun x1 => (hp_gR h a0 5 6).bind fun x2 => (hp_gI h a2 3 0).bind fun x3 => if x3 = (3 : Int32) then (m_E_reckoned_61 G a0 a1 a2 a3 x1 (1 : Int32) x2 h) else (m_E_reckoned_61 G a0 a1 a2 a3 x1 (0 : Int32) x2 h)
set_option maxRecDepth 100000 in
set_option maxHeartbeats 4000000 in
theorem j_E_reckoned_42 {Z : hp_Z} (a0 : Nat) (a1 : Int32) (a2 : Nat) (a3 : Nat) (s0 : Int32) (h : hp_H) : hp_J Y_E_reckoned Z hp_rI h 42 [(0, .ref a0), (1, .int a1), (2, .ref a2), (3, .ref a3)] [.int s0] (m_E_reckoned_42 (hp_G Z)  a0 a1 a2 a3 s0 h) := by
  unfold m_E_reckoned_42
  refine hp_istore (fun x1 => [(4, .int x1), (0, .ref a0), (1, .int a1), (2, .ref a2), (3, .ref a3)]) d_E_reckoned_42 (by decide) (fun _ => rfl) fun x1 => ?_
  refine hp_aload_n (x0 := 1) d_E_reckoned_44 rfl rfl ?_
  refine hp_getR fl_E_34 d_E_reckoned_45 fun x2 => ?_
  refine hp_aload_n (x0 := 3) d_E_reckoned_48 rfl rfl ?_
  refine hp_getI fl_E_93 d_E_reckoned_49 fun x3 => ?_
  refine hp_iconst (v := 3) d_E_reckoned_52 (by decide) ?_
  refine hp_icmp_ne (tgt := 60) d_E_reckoned_53 (by decide) ?_ ?_
  · refine hp_iconst (v := 1) d_E_reckoned_56 (by decide) ?_
    refine hp_goto (tgt := 61) d_E_reckoned_57 (by decide) ?_
    refine hp_sub [1, 2, 3, 4, 0] rfl ?_
    exact j_E_reckoned_61  _ _ _ _ _ _ _ _
  · refine hp_iconst (v := 0) d_E_reckoned_60 (by decide) ?_
    refine hp_sub [1, 2, 3, 4, 0] rfl ?_
    exact j_E_reckoned_61  _ _ _ _ _ _ _ _
def m_E_reckoned (G : Nat → Nat) (a0 : Nat) (a1 : Int32) (h : hp_H) : Option (Int32 × hp_H) := (hp_vck h a0 5 (m_E_taken G a0 (0 : Int32) h)).bind fun q1 => hp_nm q1.1 fun x2 => (hp_vck q1.2 a0 5 (m_E_taken G a0 (1 : Int32) q1.2)).bind fun q3 => hp_nm q3.1 fun x4 => (hp_vck q3.2 x2 3 (m_V_isNumber G x2 q3.2)).bind fun q5 => if q5.1 = 0 then (m_E_reckoned_26 G q5.2) else ((hp_vck q5.2 x4 3 (m_V_isNumber G x4 q5.2)).bind fun q6 => if q6.1 = 0 then (m_E_reckoned_26 G q6.2) else ((hp_gI q6.2 x4 3 0).bind fun x7 => if x7 = (3 : Int32) then (m_E_reckoned_42 G a0 a1 x2 x4 (1 : Int32) q6.2) else (m_E_reckoned_42 G a0 a1 x2 x4 (0 : Int32) q6.2)))
set_option maxRecDepth 100000 in
set_option maxHeartbeats 4000000 in
theorem j_E_reckoned_0 {Z : hp_Z} (a0 : Nat) (a1 : Int32) (h : hp_H) : hp_J Y_E_reckoned Z hp_rI h 0 [(0, .ref a0), (1, .int a1)] [] (m_E_reckoned (hp_G Z)  a0 a1 h) := by
  unfold m_E_reckoned
  refine hp_aload_n (x0 := 0) d_E_reckoned_0 rfl rfl ?_
  refine hp_iconst (v := 0) d_E_reckoned_1 (by decide) ?_
  refine hp_callR (hp_crV (ci := 5) (t_E_taken _ _ _ _) cw_E_90 rfl ⟨w_550, ws_9⟩ (by decide) rfl rfl (Nat.le_of_ble_eq_true rfl) d_E_reckoned_2) fun q1 => ?_
  refine hp_astore_n (fun x2 => [(2, .ref x2), (0, .ref a0), (1, .int a1)]) d_E_reckoned_5 rfl (by decide) (fun _ => rfl) fun x2 => ?_
  refine hp_aload_n (x0 := 1) d_E_reckoned_6 rfl rfl ?_
  refine hp_iconst (v := 1) d_E_reckoned_7 (by decide) ?_
  refine hp_callR (hp_crV (ci := 5) (t_E_taken _ _ _ _) cw_E_90 rfl ⟨w_550, ws_9⟩ (by decide) rfl rfl (Nat.le_of_ble_eq_true rfl) d_E_reckoned_8) fun q3 => ?_
  refine hp_astore_n (fun x4 => [(3, .ref x4), (2, .ref x2), (0, .ref a0), (1, .int a1)]) d_E_reckoned_11 rfl (by decide) (fun _ => rfl) fun x4 => ?_
  refine hp_aload_n (x0 := 1) d_E_reckoned_12 rfl rfl ?_
  refine hp_callI (hp_crV (ci := 3) (t_V_isNumber _ _ _) cw_E_147 rfl ⟨w_454, w_455⟩ (by decide) rfl rfl (Nat.le_of_ble_eq_true rfl) d_E_reckoned_13) fun q5 => ?_
  refine hp_if_eq (tgt := 26) d_E_reckoned_16 (by decide) ?_ ?_
  · refine hp_sub [] rfl ?_
    exact j_E_reckoned_26   _
  · refine hp_aload_n (x0 := 0) d_E_reckoned_19 rfl rfl ?_
    refine hp_callI (hp_crV (ci := 3) (t_V_isNumber _ _ _) cw_E_147 rfl ⟨w_454, w_455⟩ (by decide) rfl rfl (Nat.le_of_ble_eq_true rfl) d_E_reckoned_20) fun q6 => ?_
    refine hp_if_ne (tgt := 29) d_E_reckoned_23 (by decide) ?_ ?_
    · refine hp_sub [] rfl ?_
      exact j_E_reckoned_26   _
    · refine hp_aload_n (x0 := 0) d_E_reckoned_29 rfl rfl ?_
      refine hp_getI fl_E_93 d_E_reckoned_30 fun x7 => ?_
      refine hp_iconst (v := 3) d_E_reckoned_33 (by decide) ?_
      refine hp_icmp_ne (tgt := 41) d_E_reckoned_34 (by decide) ?_ ?_
      · refine hp_iconst (v := 1) d_E_reckoned_37 (by decide) ?_
        refine hp_goto (tgt := 42) d_E_reckoned_38 (by decide) ?_
        refine hp_sub [2, 3, 1, 0] rfl ?_
        exact j_E_reckoned_42  _ _ _ _ _ _
      · refine hp_iconst (v := 0) d_E_reckoned_41 (by decide) ?_
        refine hp_sub [2, 3, 1, 0] rfl ?_
        exact j_E_reckoned_42  _ _ _ _ _ _
theorem t_E_reckoned (l : Launch) (E : hp_E) (a0 : Nat) (a1 : Int32) : hp_M l E y_E_reckoned Y_E_reckoned hp_rI [.ref a0, .int a1] (m_E_reckoned E.2.2.1 a0 a1) := hp_M.of (plainFor_of_name (by decide)) ⟨rfl, rfl⟩ (Nat.le_of_ble_eq_true rfl) (fun Z h hE => by subst hE; exact j_E_reckoned_0 _ _ h)
-- E_cut
theorem d_E_cut_0 : decode prog_2_method_30_code 0 = .ok (.aload_n 0, 1) := by decide +kernel
theorem d_E_cut_1 : decode prog_2_method_30_code 1 = .ok (.getfield 27, 3) := by decide +kernel
theorem d_E_cut_4 : decode prog_2_method_30_code 4 = .ok (.invokevirtual 205, 3) := by decide +kernel
theorem d_E_cut_7 : decode prog_2_method_30_code 7 = .ok (.iload_n 2, 1) := by decide +kernel
theorem d_E_cut_8 : decode prog_2_method_30_code 8 = .ok (.ifCond .ge 17, 3) := by decide +kernel
theorem d_E_cut_11 : decode prog_2_method_30_code 11 = .ok (.aload_n 0, 1) := by decide +kernel
theorem d_E_cut_12 : decode prog_2_method_30_code 12 = .ok (.getfield 38, 3) := by decide +kernel
theorem d_E_cut_15 : decode prog_2_method_30_code 15 = .ok (.iconst 5, 1) := by decide +kernel
theorem d_E_cut_16 : decode prog_2_method_30_code 16 = .ok (.iconst 0, 1) := by decide +kernel
theorem d_E_cut_17 : decode prog_2_method_30_code 17 = .ok (.aload_n 0, 1) := by decide +kernel
theorem d_E_cut_18 : decode prog_2_method_30_code 18 = .ok (.getfield 27, 3) := by decide +kernel
theorem d_E_cut_21 : decode prog_2_method_30_code 21 = .ok (.invokevirtual 222, 3) := by decide +kernel
theorem d_E_cut_24 : decode prog_2_method_30_code 24 = .ok (.ireturn, 1) := by decide +kernel
theorem d_E_cut_25 : decode prog_2_method_30_code 25 = .ok (.aload_n 0, 1) := by decide +kernel
theorem d_E_cut_26 : decode prog_2_method_30_code 26 = .ok (.getfield 27, 3) := by decide +kernel
theorem d_E_cut_29 : decode prog_2_method_30_code 29 = .ok (.aload_n 1, 1) := by decide +kernel
theorem d_E_cut_30 : decode prog_2_method_30_code 30 = .ok (.getfield 214, 3) := by decide +kernel
theorem d_E_cut_33 : decode prog_2_method_30_code 33 = .ok (.iload_n 3, 1) := by decide +kernel
theorem d_E_cut_34 : decode prog_2_method_30_code 34 = .ok (.iload 4, 2) := by decide +kernel
theorem d_E_cut_36 : decode prog_2_method_30_code 36 = .ok (.invokevirtual 218, 3) := by decide +kernel
theorem d_E_cut_39 : decode prog_2_method_30_code 39 = .ok (.aload_n 0, 1) := by decide +kernel
theorem d_E_cut_40 : decode prog_2_method_30_code 40 = .ok (.getfield 38, 3) := by decide +kernel
theorem d_E_cut_43 : decode prog_2_method_30_code 43 = .ok (.aload_n 1, 1) := by decide +kernel
theorem d_E_cut_44 : decode prog_2_method_30_code 44 = .ok (.getfield 93, 3) := by decide +kernel
theorem d_E_cut_47 : decode prog_2_method_30_code 47 = .ok (.aload_n 1, 1) := by decide +kernel
theorem d_E_cut_48 : decode prog_2_method_30_code 48 = .ok (.getfield 208, 3) := by decide +kernel
theorem d_E_cut_51 : decode prog_2_method_30_code 51 = .ok (.aload_n 0, 1) := by decide +kernel
theorem d_E_cut_52 : decode prog_2_method_30_code 52 = .ok (.getfield 27, 3) := by decide +kernel
theorem d_E_cut_55 : decode prog_2_method_30_code 55 = .ok (.invokevirtual 222, 3) := by decide +kernel
theorem d_E_cut_58 : decode prog_2_method_30_code 58 = .ok (.ireturn, 1) := by decide +kernel
def m_E_cut (G : Nat → Nat) (a0 : Nat) (a1 : Nat) (a2 : Int32) (a3 : Int32) (a4 : Int32) (h : hp_H) : Option (Int32 × hp_H) := (hp_gR h a0 5 5).bind fun x1 => (hp_vck h x1 4 (m_R_clear G x1 h)).bind fun q2 => if 0 ≤ a2 then ((hp_gR q2.2 a0 5 5).bind fun x3 => (hp_gR q2.2 a1 3 4).bind fun x4 => (hp_vck q2.2 x3 4 (m_R_putPart G x3 x4 a3 a4 q2.2)).bind fun q5 => (hp_gR q5.2 a0 5 0).bind fun x6 => (hp_gI q5.2 a1 3 0).bind fun x7 => (hp_gI q5.2 a1 3 1).bind fun x8 => (hp_gR q5.2 a0 5 5).bind fun x9 => (hp_vck q5.2 x6 1 (m_S_keepRow G x6 x7 x8 x9 q5.2)).bind fun q10 => some (q10.1, q10.2)) else ((hp_gR q2.2 a0 5 0).bind fun x11 => (hp_gR q2.2 a0 5 5).bind fun x12 => (hp_vck q2.2 x11 1 (m_S_keepRow G x11 (5 : Int32) (0 : Int32) x12 q2.2)).bind fun q13 => some (q13.1, q13.2))
set_option maxRecDepth 100000 in
set_option maxHeartbeats 4000000 in
theorem j_E_cut_0 {Z : hp_Z} (a0 : Nat) (a1 : Nat) (a2 : Int32) (a3 : Int32) (a4 : Int32) (h : hp_H) : hp_J Y_E_cut Z hp_rI h 0 [(0, .ref a0), (1, .ref a1), (2, .int a2), (3, .int a3), (4, .int a4)] [] (m_E_cut (hp_G Z)  a0 a1 a2 a3 a4 h) := by
  unfold m_E_cut
  refine hp_aload_n (x0 := 0) d_E_cut_0 rfl rfl ?_
  refine hp_getR fl_E_27 d_E_cut_1 fun x1 => ?_
  refine hp_callU (hp_crV (ci := 4) (t_R_clear _ _ _) cw_E_205 rfl ⟨w_418, w_419⟩ (by decide) rfl rfl (Nat.le_of_ble_eq_true rfl) d_E_cut_4) fun q2 => ?_
  refine hp_iload_n (x0 := 2) d_E_cut_7 rfl rfl ?_
  refine hp_if_ge (tgt := 25) d_E_cut_8 (by decide) ?_ ?_
  · refine hp_aload_n (x0 := 0) d_E_cut_25 rfl rfl ?_
    refine hp_getR fl_E_27 d_E_cut_26 fun x3 => ?_
    refine hp_aload_n (x0 := 1) d_E_cut_29 rfl rfl ?_
    refine hp_getR fl_E_214 d_E_cut_30 fun x4 => ?_
    refine hp_iload_n (x0 := 3) d_E_cut_33 rfl rfl ?_
    refine hp_iload (x0 := 4) d_E_cut_34 rfl ?_
    refine hp_callU (hp_crV (ci := 4) (t_R_putPart _ _ _ _ _ _) cw_E_218 rfl ⟨w_655, w_656⟩ (by decide) rfl rfl (Nat.le_of_ble_eq_true rfl) d_E_cut_36) fun q5 => ?_
    refine hp_aload_n (x0 := 0) d_E_cut_39 rfl rfl ?_
    refine hp_getR fl_E_38 d_E_cut_40 fun x6 => ?_
    refine hp_aload_n (x0 := 1) d_E_cut_43 rfl rfl ?_
    refine hp_getI fl_E_93 d_E_cut_44 fun x7 => ?_
    refine hp_aload_n (x0 := 1) d_E_cut_47 rfl rfl ?_
    refine hp_getI fl_E_208 d_E_cut_48 fun x8 => ?_
    refine hp_aload_n (x0 := 0) d_E_cut_51 rfl rfl ?_
    refine hp_getR fl_E_27 d_E_cut_52 fun x9 => ?_
    refine hp_callI (hp_crV (ci := 1) (t_S_keepRow _ _ _ _ _ _) cw_E_222 rfl ⟨w_414, w_415⟩ (by decide) rfl rfl (Nat.le_of_ble_eq_true rfl) d_E_cut_55) fun q10 => ?_
    exact hp_iret d_E_cut_58 rfl
  · refine hp_aload_n (x0 := 0) d_E_cut_11 rfl rfl ?_
    refine hp_getR fl_E_38 d_E_cut_12 fun x11 => ?_
    refine hp_iconst (v := 5) d_E_cut_15 (by decide) ?_
    refine hp_iconst (v := 0) d_E_cut_16 (by decide) ?_
    refine hp_aload_n (x0 := 0) d_E_cut_17 rfl rfl ?_
    refine hp_getR fl_E_27 d_E_cut_18 fun x12 => ?_
    refine hp_callI (hp_crV (ci := 1) (t_S_keepRow _ _ _ _ _ _) cw_E_222 rfl ⟨w_414, w_415⟩ (by decide) rfl rfl (Nat.le_of_ble_eq_true rfl) d_E_cut_21) fun q13 => ?_
    exact hp_iret d_E_cut_24 rfl
theorem t_E_cut (l : Launch) (E : hp_E) (a0 : Nat) (a1 : Nat) (a2 : Int32) (a3 : Int32) (a4 : Int32) : hp_M l E y_E_cut Y_E_cut hp_rI [.ref a0, .ref a1, .int a2, .int a3, .int a4] (m_E_cut E.2.2.1 a0 a1 a2 a3 a4) := hp_M.of (plainFor_of_name (by decide)) ⟨rfl, rfl⟩ (Nat.le_of_ble_eq_true rfl) (fun Z h hE => by subst hE; exact j_E_cut_0 _ _ _ _ _ h)
-- E_isAt
theorem d_E_isAt_0 : decode prog_2_method_32_code 0 = .ok (.iload_n 2, 1) := by decide +kernel
theorem d_E_isAt_1 : decode prog_2_method_32_code 1 = .ok (.ifCond .lt 12, 3) := by decide +kernel
theorem d_E_isAt_4 : decode prog_2_method_32_code 4 = .ok (.iload_n 2, 1) := by decide +kernel
theorem d_E_isAt_5 : decode prog_2_method_32_code 5 = .ok (.aload_n 0, 1) := by decide +kernel
theorem d_E_isAt_6 : decode prog_2_method_32_code 6 = .ok (.arraylength, 1) := by decide +kernel
theorem d_E_isAt_7 : decode prog_2_method_32_code 7 = .ok (.aload_n 1, 1) := by decide +kernel
theorem d_E_isAt_8 : decode prog_2_method_32_code 8 = .ok (.arraylength, 1) := by decide +kernel
theorem d_E_isAt_9 : decode prog_2_method_32_code 9 = .ok (.isub, 1) := by decide +kernel
theorem d_E_isAt_10 : decode prog_2_method_32_code 10 = .ok (.if_icmp .le 5, 3) := by decide +kernel
theorem d_E_isAt_13 : decode prog_2_method_32_code 13 = .ok (.iconst 0, 1) := by decide +kernel
theorem d_E_isAt_14 : decode prog_2_method_32_code 14 = .ok (.ireturn, 1) := by decide +kernel
theorem d_E_isAt_15 : decode prog_2_method_32_code 15 = .ok (.iconst 0, 1) := by decide +kernel
theorem d_E_isAt_16 : decode prog_2_method_32_code 16 = .ok (.istore_n 3, 1) := by decide +kernel
theorem d_E_isAt_17 : decode prog_2_method_32_code 17 = .ok (.iload_n 3, 1) := by decide +kernel
theorem d_E_isAt_18 : decode prog_2_method_32_code 18 = .ok (.aload_n 1, 1) := by decide +kernel
theorem d_E_isAt_19 : decode prog_2_method_32_code 19 = .ok (.arraylength, 1) := by decide +kernel
theorem d_E_isAt_20 : decode prog_2_method_32_code 20 = .ok (.if_icmp .ge 22, 3) := by decide +kernel
theorem d_E_isAt_23 : decode prog_2_method_32_code 23 = .ok (.aload_n 0, 1) := by decide +kernel
theorem d_E_isAt_24 : decode prog_2_method_32_code 24 = .ok (.iload_n 2, 1) := by decide +kernel
theorem d_E_isAt_25 : decode prog_2_method_32_code 25 = .ok (.iload_n 3, 1) := by decide +kernel
theorem d_E_isAt_26 : decode prog_2_method_32_code 26 = .ok (.iadd, 1) := by decide +kernel
theorem d_E_isAt_27 : decode prog_2_method_32_code 27 = .ok (.baload, 1) := by decide +kernel
theorem d_E_isAt_28 : decode prog_2_method_32_code 28 = .ok (.aload_n 1, 1) := by decide +kernel
theorem d_E_isAt_29 : decode prog_2_method_32_code 29 = .ok (.iload_n 3, 1) := by decide +kernel
theorem d_E_isAt_30 : decode prog_2_method_32_code 30 = .ok (.baload, 1) := by decide +kernel
theorem d_E_isAt_31 : decode prog_2_method_32_code 31 = .ok (.if_icmp .eq 5, 3) := by decide +kernel
theorem d_E_isAt_34 : decode prog_2_method_32_code 34 = .ok (.iconst 0, 1) := by decide +kernel
theorem d_E_isAt_35 : decode prog_2_method_32_code 35 = .ok (.ireturn, 1) := by decide +kernel
theorem d_E_isAt_36 : decode prog_2_method_32_code 36 = .ok (.iinc 3 1, 3) := by decide +kernel
theorem d_E_isAt_39 : decode prog_2_method_32_code 39 = .ok (.goto (-22), 3) := by decide +kernel
theorem d_E_isAt_42 : decode prog_2_method_32_code 42 = .ok (.iconst 1, 1) := by decide +kernel
theorem d_E_isAt_43 : decode prog_2_method_32_code 43 = .ok (.ireturn, 1) := by decide +kernel
def m_E_isAt_13 (G : Nat → Nat) (h : hp_H) : Option (Int32 × hp_H) := hp_z (0 : Int32) h
set_option maxRecDepth 100000 in
set_option maxHeartbeats 4000000 in
theorem j_E_isAt_13 {Z : hp_Z} (h : hp_H) : hp_J Y_E_isAt Z hp_rI h 13 [] [] (m_E_isAt_13 (hp_G Z)   h) := by
  unfold m_E_isAt_13
  refine hp_iconst (v := 0) d_E_isAt_13 (by decide) ?_
  exact hp_zret d_E_isAt_14 rfl
def m_E_isAt_17 (G : Nat → Nat) : Nat → Nat → Nat → Int32 → Int32 → hp_H → Option (Int32 × hp_H)
  | 0, _, _, _, _, _ => none
  | n + 1, a0, a1, a2, a3, h => (hp_len h a1).bind fun x1 => if x1 ≤ a3 then (hp_z (1 : Int32) h) else ((hp_aI h .byte a0 (a2 + a3)).bind fun x2 => (hp_aI h .byte a1 a3).bind fun x3 => if x2 = x3 then (hp_nm (a3 + 1) fun x4 => (m_E_isAt_17 G  n) a0 a1 a2 x4 h) else (hp_z (0 : Int32) h))
set_option maxRecDepth 100000 in
set_option maxHeartbeats 4000000 in
theorem j_E_isAt_17 {Z : hp_Z} : ∀ (n : Nat) (a0 : Nat) (a1 : Nat) (a2 : Int32) (a3 : Int32) (h : hp_H), hp_J Y_E_isAt Z hp_rI h 17 [(0, .ref a0), (1, .ref a1), (2, .int a2), (3, .int a3)] [] (m_E_isAt_17 (hp_G Z)  n a0 a1 a2 a3 h) := by
  intro n
  induction n with
  | zero => intro a0 a1 a2 a3 h; exact hp_fail
  | succ n ih =>
    intro a0 a1 a2 a3 h
    rw [m_E_isAt_17]
    refine hp_iload_n (x0 := 3) d_E_isAt_17 rfl rfl ?_
    refine hp_aload_n (x0 := 1) d_E_isAt_18 rfl rfl ?_
    refine hp_alen d_E_isAt_19 fun x1 => ?_
    refine hp_icmp_ge (tgt := 42) d_E_isAt_20 (by decide) ?_ ?_
    · refine hp_iconst (v := 1) d_E_isAt_42 (by decide) ?_
      exact hp_zret d_E_isAt_43 rfl
    · refine hp_aload_n (x0 := 0) d_E_isAt_23 rfl rfl ?_
      refine hp_iload_n (x0 := 2) d_E_isAt_24 rfl rfl ?_
      refine hp_iload_n (x0 := 3) d_E_isAt_25 rfl rfl ?_
      refine hp_iadd d_E_isAt_26 ?_
      refine hp_bald d_E_isAt_27 fun x2 => ?_
      refine hp_aload_n (x0 := 1) d_E_isAt_28 rfl rfl ?_
      refine hp_iload_n (x0 := 3) d_E_isAt_29 rfl rfl ?_
      refine hp_bald d_E_isAt_30 fun x3 => ?_
      refine hp_icmp_eq (tgt := 36) d_E_isAt_31 (by decide) ?_ ?_
      · refine hp_iinc (x0 := 3) (d := 1) (fun x4 => [(3, .int x4), (0, .ref a0), (1, .ref a1), (2, .int a2)]) d_E_isAt_36 rfl (by decide) (by decide) (fun _ => rfl) fun x4 => ?_
        refine hp_goto (tgt := 17) d_E_isAt_39 (by decide) ?_
        refine hp_sub [1, 2, 3, 0] rfl ?_
        exact ih _ _ _ _ _
      · refine hp_iconst (v := 0) d_E_isAt_34 (by decide) ?_
        exact hp_zret d_E_isAt_35 rfl
def m_E_isAt (G : Nat → Nat) (a0 : Nat) (a1 : Nat) (a2 : Int32) (h : hp_H) : Option (Int32 × hp_H) := if a2 < 0 then (m_E_isAt_13 G h) else ((hp_len h a0).bind fun x1 => (hp_len h a1).bind fun x2 => if a2 ≤ (x1 - x2) then (hp_nm (0 : Int32) fun x3 => m_E_isAt_17 G hp_fu a0 a1 a2 x3 h) else (m_E_isAt_13 G h))
set_option maxRecDepth 100000 in
set_option maxHeartbeats 4000000 in
theorem j_E_isAt_0 {Z : hp_Z} (a0 : Nat) (a1 : Nat) (a2 : Int32) (h : hp_H) : hp_J Y_E_isAt Z hp_rI h 0 [(0, .ref a0), (1, .ref a1), (2, .int a2)] [] (m_E_isAt (hp_G Z)  a0 a1 a2 h) := by
  unfold m_E_isAt
  refine hp_iload_n (x0 := 2) d_E_isAt_0 rfl rfl ?_
  refine hp_if_lt (tgt := 13) d_E_isAt_1 (by decide) ?_ ?_
  · refine hp_sub [] rfl ?_
    exact j_E_isAt_13   _
  · refine hp_iload_n (x0 := 2) d_E_isAt_4 rfl rfl ?_
    refine hp_aload_n (x0 := 0) d_E_isAt_5 rfl rfl ?_
    refine hp_alen d_E_isAt_6 fun x1 => ?_
    refine hp_aload_n (x0 := 1) d_E_isAt_7 rfl rfl ?_
    refine hp_alen d_E_isAt_8 fun x2 => ?_
    refine hp_isub d_E_isAt_9 ?_
    refine hp_icmp_le (tgt := 15) d_E_isAt_10 (by decide) ?_ ?_
    · refine hp_iconst (v := 0) d_E_isAt_15 (by decide) ?_
      refine hp_istore_n (fun x3 => [(3, .int x3), (0, .ref a0), (1, .ref a1), (2, .int a2)]) d_E_isAt_16 rfl (by decide) (fun _ => rfl) fun x3 => ?_
      refine hp_sub [1, 2, 3, 0] rfl ?_
      exact j_E_isAt_17  hp_fu _ _ _ _ _
    · refine hp_sub [] rfl ?_
      exact j_E_isAt_13   _
theorem t_E_isAt (l : Launch) (E : hp_E) (a0 : Nat) (a1 : Nat) (a2 : Int32) : hp_M l E y_E_isAt Y_E_isAt hp_rI [.ref a0, .ref a1, .int a2] (m_E_isAt E.2.2.1 a0 a1 a2) := hp_M.of (plainFor_of_name (by decide)) ⟨rfl, rfl⟩ (Nat.le_of_ble_eq_true rfl) (fun Z h hE => by subst hE; exact j_E_isAt_0 _ _ _ h)
-- E_firstPlace
theorem d_E_firstPlace_0 : decode prog_2_method_31_code 0 = .ok (.iconst 0, 1) := by decide +kernel
theorem d_E_firstPlace_1 : decode prog_2_method_31_code 1 = .ok (.istore_n 2, 1) := by decide +kernel
theorem d_E_firstPlace_2 : decode prog_2_method_31_code 2 = .ok (.iload_n 2, 1) := by decide +kernel
theorem d_E_firstPlace_3 : decode prog_2_method_31_code 3 = .ok (.aload_n 0, 1) := by decide +kernel
theorem d_E_firstPlace_4 : decode prog_2_method_31_code 4 = .ok (.arraylength, 1) := by decide +kernel
theorem d_E_firstPlace_5 : decode prog_2_method_31_code 5 = .ok (.aload_n 1, 1) := by decide +kernel
theorem d_E_firstPlace_6 : decode prog_2_method_31_code 6 = .ok (.arraylength, 1) := by decide +kernel
theorem d_E_firstPlace_7 : decode prog_2_method_31_code 7 = .ok (.isub, 1) := by decide +kernel
theorem d_E_firstPlace_8 : decode prog_2_method_31_code 8 = .ok (.if_icmp .gt 20, 3) := by decide +kernel
theorem d_E_firstPlace_11 : decode prog_2_method_31_code 11 = .ok (.aload_n 0, 1) := by decide +kernel
theorem d_E_firstPlace_12 : decode prog_2_method_31_code 12 = .ok (.aload_n 1, 1) := by decide +kernel
theorem d_E_firstPlace_13 : decode prog_2_method_31_code 13 = .ok (.iload_n 2, 1) := by decide +kernel
theorem d_E_firstPlace_14 : decode prog_2_method_31_code 14 = .ok (.invokestatic 248, 3) := by decide +kernel
theorem d_E_firstPlace_17 : decode prog_2_method_31_code 17 = .ok (.ifCond .eq 5, 3) := by decide +kernel
theorem d_E_firstPlace_20 : decode prog_2_method_31_code 20 = .ok (.iload_n 2, 1) := by decide +kernel
theorem d_E_firstPlace_21 : decode prog_2_method_31_code 21 = .ok (.ireturn, 1) := by decide +kernel
theorem d_E_firstPlace_22 : decode prog_2_method_31_code 22 = .ok (.iinc 2 1, 3) := by decide +kernel
theorem d_E_firstPlace_25 : decode prog_2_method_31_code 25 = .ok (.goto (-23), 3) := by decide +kernel
theorem d_E_firstPlace_28 : decode prog_2_method_31_code 28 = .ok (.iconst (-1), 1) := by decide +kernel
theorem d_E_firstPlace_29 : decode prog_2_method_31_code 29 = .ok (.ireturn, 1) := by decide +kernel
def m_E_firstPlace_2 (G : Nat → Nat) : Nat → Nat → Nat → Int32 → hp_H → Option (Int32 × hp_H)
  | 0, _, _, _, _ => none
  | n + 1, a0, a1, a2, h => (hp_len h a0).bind fun x1 => (hp_len h a1).bind fun x2 => if (x1 - x2) < a2 then (some ((-1 : Int32), h)) else ((m_E_isAt G a0 a1 a2 h).bind fun q3 => if q3.1 = 0 then (hp_nm (a2 + 1) fun x4 => (m_E_firstPlace_2 G  n) a0 a1 x4 q3.2) else (some (a2, q3.2)))
set_option maxRecDepth 100000 in
set_option maxHeartbeats 4000000 in
theorem j_E_firstPlace_2 {Z : hp_Z} : ∀ (n : Nat) (a0 : Nat) (a1 : Nat) (a2 : Int32) (h : hp_H), hp_J Y_E_firstPlace Z hp_rI h 2 [(0, .ref a0), (1, .ref a1), (2, .int a2)] [] (m_E_firstPlace_2 (hp_G Z)  n a0 a1 a2 h) := by
  intro n
  induction n with
  | zero => intro a0 a1 a2 h; exact hp_fail
  | succ n ih =>
    intro a0 a1 a2 h
    rw [m_E_firstPlace_2]
    refine hp_iload_n (x0 := 2) d_E_firstPlace_2 rfl rfl ?_
    refine hp_aload_n (x0 := 0) d_E_firstPlace_3 rfl rfl ?_
    refine hp_alen d_E_firstPlace_4 fun x1 => ?_
    refine hp_aload_n (x0 := 1) d_E_firstPlace_5 rfl rfl ?_
    refine hp_alen d_E_firstPlace_6 fun x2 => ?_
    refine hp_isub d_E_firstPlace_7 ?_
    refine hp_icmp_gt (tgt := 28) d_E_firstPlace_8 (by decide) ?_ ?_
    · refine hp_iconst (v := -1) d_E_firstPlace_28 (by decide) ?_
      exact hp_iret d_E_firstPlace_29 rfl
    · refine hp_aload_n (x0 := 0) d_E_firstPlace_11 rfl rfl ?_
      refine hp_aload_n (x0 := 1) d_E_firstPlace_12 rfl rfl ?_
      refine hp_iload_n (x0 := 2) d_E_firstPlace_13 rfl rfl ?_
      refine hp_callI (hp_crS (t_E_isAt _ _ _ _ _) cw_E_248 w_688 (by decide) rfl rfl (Nat.le_of_ble_eq_true rfl) d_E_firstPlace_14) fun q3 => ?_
      refine hp_if_eq (tgt := 22) d_E_firstPlace_17 (by decide) ?_ ?_
      · refine hp_iinc (x0 := 2) (d := 1) (fun x4 => [(2, .int x4), (0, .ref a0), (1, .ref a1)]) d_E_firstPlace_22 rfl (by decide) (by decide) (fun _ => rfl) fun x4 => ?_
        refine hp_goto (tgt := 2) d_E_firstPlace_25 (by decide) ?_
        refine hp_sub [1, 2, 0] rfl ?_
        exact ih _ _ _ _
      · refine hp_iload_n (x0 := 2) d_E_firstPlace_20 rfl rfl ?_
        exact hp_iret d_E_firstPlace_21 rfl
def m_E_firstPlace (G : Nat → Nat) (a0 : Nat) (a1 : Nat) (h : hp_H) : Option (Int32 × hp_H) := hp_nm (0 : Int32) fun x1 => m_E_firstPlace_2 G hp_fu a0 a1 x1 h
set_option maxRecDepth 100000 in
set_option maxHeartbeats 4000000 in
theorem j_E_firstPlace_0 {Z : hp_Z} (a0 : Nat) (a1 : Nat) (h : hp_H) : hp_J Y_E_firstPlace Z hp_rI h 0 [(0, .ref a0), (1, .ref a1)] [] (m_E_firstPlace (hp_G Z)  a0 a1 h) := by
  unfold m_E_firstPlace
  refine hp_iconst (v := 0) d_E_firstPlace_0 (by decide) ?_
  refine hp_istore_n (fun x1 => [(2, .int x1), (0, .ref a0), (1, .ref a1)]) d_E_firstPlace_1 rfl (by decide) (fun _ => rfl) fun x1 => ?_
  refine hp_sub [1, 2, 0] rfl ?_
  exact j_E_firstPlace_2  hp_fu _ _ _ _
theorem t_E_firstPlace (l : Launch) (E : hp_E) (a0 : Nat) (a1 : Nat) : hp_M l E y_E_firstPlace Y_E_firstPlace hp_rI [.ref a0, .ref a1] (m_E_firstPlace E.2.2.1 a0 a1) := hp_M.of (plainFor_of_name (by decide)) ⟨rfl, rfl⟩ (Nat.le_of_ble_eq_true rfl) (fun Z h hE => by subst hE; exact j_E_firstPlace_0 _ _ h)
-- E_searched
theorem d_E_searched_0 : decode prog_2_method_29_code 0 = .ok (.aload_n 0, 1) := by decide +kernel
theorem d_E_searched_1 : decode prog_2_method_29_code 1 = .ok (.iconst 0, 1) := by decide +kernel
theorem d_E_searched_2 : decode prog_2_method_29_code 2 = .ok (.invokevirtual 90, 3) := by decide +kernel
theorem d_E_searched_5 : decode prog_2_method_29_code 5 = .ok (.astore_n 2, 1) := by decide +kernel
theorem d_E_searched_6 : decode prog_2_method_29_code 6 = .ok (.aload_n 0, 1) := by decide +kernel
theorem d_E_searched_7 : decode prog_2_method_29_code 7 = .ok (.iconst 1, 1) := by decide +kernel
theorem d_E_searched_8 : decode prog_2_method_29_code 8 = .ok (.invokevirtual 90, 3) := by decide +kernel
theorem d_E_searched_11 : decode prog_2_method_29_code 11 = .ok (.astore_n 3, 1) := by decide +kernel
theorem d_E_searched_12 : decode prog_2_method_29_code 12 = .ok (.aload_n 3, 1) := by decide +kernel
theorem d_E_searched_13 : decode prog_2_method_29_code 13 = .ok (.getfield 93, 3) := by decide +kernel
theorem d_E_searched_16 : decode prog_2_method_29_code 16 = .ok (.bipush 6, 2) := by decide +kernel
theorem d_E_searched_18 : decode prog_2_method_29_code 18 = .ok (.if_icmp .ne 27, 3) := by decide +kernel
theorem d_E_searched_21 : decode prog_2_method_29_code 21 = .ok (.aload_n 2, 1) := by decide +kernel
theorem d_E_searched_22 : decode prog_2_method_29_code 22 = .ok (.getfield 93, 3) := by decide +kernel
theorem d_E_searched_25 : decode prog_2_method_29_code 25 = .ok (.bipush 6, 2) := by decide +kernel
theorem d_E_searched_27 : decode prog_2_method_29_code 27 = .ok (.if_icmp .ne 18, 3) := by decide +kernel
theorem d_E_searched_30 : decode prog_2_method_29_code 30 = .ok (.aload_n 3, 1) := by decide +kernel
theorem d_E_searched_31 : decode prog_2_method_29_code 31 = .ok (.getfield 208, 3) := by decide +kernel
theorem d_E_searched_34 : decode prog_2_method_29_code 34 = .ok (.aload_n 2, 1) := by decide +kernel
theorem d_E_searched_35 : decode prog_2_method_29_code 35 = .ok (.getfield 208, 3) := by decide +kernel
theorem d_E_searched_38 : decode prog_2_method_29_code 38 = .ok (.if_icmp .ne 7, 3) := by decide +kernel
theorem d_E_searched_41 : decode prog_2_method_29_code 41 = .ok (.iconst 1, 1) := by decide +kernel
theorem d_E_searched_42 : decode prog_2_method_29_code 42 = .ok (.goto 4, 3) := by decide +kernel
theorem d_E_searched_45 : decode prog_2_method_29_code 45 = .ok (.iconst 0, 1) := by decide +kernel
theorem d_E_searched_46 : decode prog_2_method_29_code 46 = .ok (.istore 4, 2) := by decide +kernel
theorem d_E_searched_48 : decode prog_2_method_29_code 48 = .ok (.aload_n 2, 1) := by decide +kernel
theorem d_E_searched_49 : decode prog_2_method_29_code 49 = .ok (.invokevirtual 211, 3) := by decide +kernel
theorem d_E_searched_52 : decode prog_2_method_29_code 52 = .ok (.ifCond .eq 16, 3) := by decide +kernel
theorem d_E_searched_55 : decode prog_2_method_29_code 55 = .ok (.aload_n 3, 1) := by decide +kernel
theorem d_E_searched_56 : decode prog_2_method_29_code 56 = .ok (.getfield 93, 3) := by decide +kernel
theorem d_E_searched_59 : decode prog_2_method_29_code 59 = .ok (.iconst 5, 1) := by decide +kernel
theorem d_E_searched_60 : decode prog_2_method_29_code 60 = .ok (.if_icmp .eq 11, 3) := by decide +kernel
theorem d_E_searched_63 : decode prog_2_method_29_code 63 = .ok (.iload 4, 2) := by decide +kernel
theorem d_E_searched_65 : decode prog_2_method_29_code 65 = .ok (.ifCond .ne 6, 3) := by decide +kernel
theorem d_E_searched_68 : decode prog_2_method_29_code 68 = .ok (.bipush (-4), 2) := by decide +kernel
theorem d_E_searched_70 : decode prog_2_method_29_code 70 = .ok (.ireturn, 1) := by decide +kernel
theorem d_E_searched_71 : decode prog_2_method_29_code 71 = .ok (.aload_n 2, 1) := by decide +kernel
theorem d_E_searched_72 : decode prog_2_method_29_code 72 = .ok (.getfield 214, 3) := by decide +kernel
theorem d_E_searched_75 : decode prog_2_method_29_code 75 = .ok (.aload_n 3, 1) := by decide +kernel
theorem d_E_searched_76 : decode prog_2_method_29_code 76 = .ok (.getfield 214, 3) := by decide +kernel
theorem d_E_searched_79 : decode prog_2_method_29_code 79 = .ok (.invokestatic 244, 3) := by decide +kernel
theorem d_E_searched_82 : decode prog_2_method_29_code 82 = .ok (.istore 5, 2) := by decide +kernel
theorem d_E_searched_84 : decode prog_2_method_29_code 84 = .ok (.aload_n 2, 1) := by decide +kernel
theorem d_E_searched_85 : decode prog_2_method_29_code 85 = .ok (.getfield 214, 3) := by decide +kernel
theorem d_E_searched_88 : decode prog_2_method_29_code 88 = .ok (.arraylength, 1) := by decide +kernel
theorem d_E_searched_89 : decode prog_2_method_29_code 89 = .ok (.aload_n 3, 1) := by decide +kernel
theorem d_E_searched_90 : decode prog_2_method_29_code 90 = .ok (.getfield 214, 3) := by decide +kernel
theorem d_E_searched_93 : decode prog_2_method_29_code 93 = .ok (.arraylength, 1) := by decide +kernel
theorem d_E_searched_94 : decode prog_2_method_29_code 94 = .ok (.isub, 1) := by decide +kernel
theorem d_E_searched_95 : decode prog_2_method_29_code 95 = .ok (.istore 6, 2) := by decide +kernel
theorem d_E_searched_97 : decode prog_2_method_29_code 97 = .ok (.iload_n 1, 1) := by decide +kernel
theorem d_E_searched_98 : decode prog_2_method_29_code 98 = .ok (.tableswitch 98 30 33 #[30, 48, 69, 87], 30) := by decide +kernel
theorem d_E_searched_128 : decode prog_2_method_29_code 128 = .ok (.aload_n 0, 1) := by decide +kernel
theorem d_E_searched_129 : decode prog_2_method_29_code 129 = .ok (.getfield 38, 3) := by decide +kernel
theorem d_E_searched_132 : decode prog_2_method_29_code 132 = .ok (.iload 5, 2) := by decide +kernel
theorem d_E_searched_134 : decode prog_2_method_29_code 134 = .ok (.ifCond .ne 7, 3) := by decide +kernel
theorem d_E_searched_137 : decode prog_2_method_29_code 137 = .ok (.iconst 1, 1) := by decide +kernel
theorem d_E_searched_138 : decode prog_2_method_29_code 138 = .ok (.goto 4, 3) := by decide +kernel
theorem d_E_searched_141 : decode prog_2_method_29_code 141 = .ok (.iconst 0, 1) := by decide +kernel
theorem d_E_searched_142 : decode prog_2_method_29_code 142 = .ok (.invokevirtual 101, 3) := by decide +kernel
theorem d_E_searched_145 : decode prog_2_method_29_code 145 = .ok (.ireturn, 1) := by decide +kernel
theorem d_E_searched_146 : decode prog_2_method_29_code 146 = .ok (.aload_n 0, 1) := by decide +kernel
theorem d_E_searched_147 : decode prog_2_method_29_code 147 = .ok (.getfield 38, 3) := by decide +kernel
theorem d_E_searched_150 : decode prog_2_method_29_code 150 = .ok (.aload_n 2, 1) := by decide +kernel
theorem d_E_searched_151 : decode prog_2_method_29_code 151 = .ok (.getfield 214, 3) := by decide +kernel
theorem d_E_searched_154 : decode prog_2_method_29_code 154 = .ok (.aload_n 3, 1) := by decide +kernel
theorem d_E_searched_155 : decode prog_2_method_29_code 155 = .ok (.getfield 214, 3) := by decide +kernel
theorem d_E_searched_158 : decode prog_2_method_29_code 158 = .ok (.iload 6, 2) := by decide +kernel
theorem d_E_searched_160 : decode prog_2_method_29_code 160 = .ok (.invokestatic 248, 3) := by decide +kernel
theorem d_E_searched_163 : decode prog_2_method_29_code 163 = .ok (.invokevirtual 101, 3) := by decide +kernel
theorem d_E_searched_166 : decode prog_2_method_29_code 166 = .ok (.ireturn, 1) := by decide +kernel
theorem d_E_searched_167 : decode prog_2_method_29_code 167 = .ok (.aload_n 0, 1) := by decide +kernel
theorem d_E_searched_168 : decode prog_2_method_29_code 168 = .ok (.getfield 38, 3) := by decide +kernel
theorem d_E_searched_171 : decode prog_2_method_29_code 171 = .ok (.iload 5, 2) := by decide +kernel
theorem d_E_searched_173 : decode prog_2_method_29_code 173 = .ok (.ifCond .lt 7, 3) := by decide +kernel
theorem d_E_searched_176 : decode prog_2_method_29_code 176 = .ok (.iconst 1, 1) := by decide +kernel
theorem d_E_searched_177 : decode prog_2_method_29_code 177 = .ok (.goto 4, 3) := by decide +kernel
theorem d_E_searched_180 : decode prog_2_method_29_code 180 = .ok (.iconst 0, 1) := by decide +kernel
theorem d_E_searched_181 : decode prog_2_method_29_code 181 = .ok (.invokevirtual 101, 3) := by decide +kernel
theorem d_E_searched_184 : decode prog_2_method_29_code 184 = .ok (.ireturn, 1) := by decide +kernel
theorem d_E_searched_185 : decode prog_2_method_29_code 185 = .ok (.aload_n 0, 1) := by decide +kernel
theorem d_E_searched_186 : decode prog_2_method_29_code 186 = .ok (.aload_n 2, 1) := by decide +kernel
theorem d_E_searched_187 : decode prog_2_method_29_code 187 = .ok (.iload 5, 2) := by decide +kernel
theorem d_E_searched_189 : decode prog_2_method_29_code 189 = .ok (.iconst 0, 1) := by decide +kernel
theorem d_E_searched_190 : decode prog_2_method_29_code 190 = .ok (.iload 5, 2) := by decide +kernel
theorem d_E_searched_192 : decode prog_2_method_29_code 192 = .ok (.invokevirtual 252, 3) := by decide +kernel
theorem d_E_searched_195 : decode prog_2_method_29_code 195 = .ok (.ireturn, 1) := by decide +kernel
theorem d_E_searched_196 : decode prog_2_method_29_code 196 = .ok (.aload_n 0, 1) := by decide +kernel
theorem d_E_searched_197 : decode prog_2_method_29_code 197 = .ok (.aload_n 2, 1) := by decide +kernel
theorem d_E_searched_198 : decode prog_2_method_29_code 198 = .ok (.iload 5, 2) := by decide +kernel
theorem d_E_searched_200 : decode prog_2_method_29_code 200 = .ok (.iload 5, 2) := by decide +kernel
theorem d_E_searched_202 : decode prog_2_method_29_code 202 = .ok (.aload_n 3, 1) := by decide +kernel
theorem d_E_searched_203 : decode prog_2_method_29_code 203 = .ok (.getfield 214, 3) := by decide +kernel
theorem d_E_searched_206 : decode prog_2_method_29_code 206 = .ok (.arraylength, 1) := by decide +kernel
theorem d_E_searched_207 : decode prog_2_method_29_code 207 = .ok (.iadd, 1) := by decide +kernel
theorem d_E_searched_208 : decode prog_2_method_29_code 208 = .ok (.aload_n 2, 1) := by decide +kernel
theorem d_E_searched_209 : decode prog_2_method_29_code 209 = .ok (.getfield 214, 3) := by decide +kernel
theorem d_E_searched_212 : decode prog_2_method_29_code 212 = .ok (.arraylength, 1) := by decide +kernel
theorem d_E_searched_213 : decode prog_2_method_29_code 213 = .ok (.invokevirtual 252, 3) := by decide +kernel
theorem d_E_searched_216 : decode prog_2_method_29_code 216 = .ok (.ireturn, 1) := by decide +kernel
def m_E_searched_68 (G : Nat → Nat) (h : hp_H) : Option (Int32 × hp_H) := some ((-4 : Int32), h)
set_option maxRecDepth 100000 in
set_option maxHeartbeats 4000000 in
theorem j_E_searched_68 {Z : hp_Z} (h : hp_H) : hp_J Y_E_searched Z hp_rI h 68 [] [] (m_E_searched_68 (hp_G Z)   h) := by
  unfold m_E_searched_68
  refine hp_bipush (v := -4) d_E_searched_68 (by decide) ?_
  exact hp_iret d_E_searched_70 rfl
def m_E_searched_142 (G : Nat → Nat) (s0 : Int32) (s1 : Nat) (h : hp_H) : Option (Int32 × hp_H) := (hp_vck h s1 1 (m_S_keepTruth G s1 s0 h)).bind fun q1 => some (q1.1, q1.2)
set_option maxRecDepth 100000 in
set_option maxHeartbeats 4000000 in
theorem j_E_searched_142 {Z : hp_Z} (s0 : Int32) (s1 : Nat) (h : hp_H) : hp_J Y_E_searched Z hp_rI h 142 [] [.int s0, .ref s1] (m_E_searched_142 (hp_G Z)  s0 s1 h) := by
  unfold m_E_searched_142
  refine hp_callI (hp_crV (ci := 1) (t_S_keepTruth _ _ _ _) cw_E_101 rfl ⟨w_391, w_392⟩ (by decide) rfl rfl (Nat.le_of_ble_eq_true rfl) d_E_searched_142) fun q1 => ?_
  exact hp_iret d_E_searched_145 rfl
def m_E_searched_181 (G : Nat → Nat) (s0 : Int32) (s1 : Nat) (h : hp_H) : Option (Int32 × hp_H) := (hp_vck h s1 1 (m_S_keepTruth G s1 s0 h)).bind fun q1 => some (q1.1, q1.2)
set_option maxRecDepth 100000 in
set_option maxHeartbeats 4000000 in
theorem j_E_searched_181 {Z : hp_Z} (s0 : Int32) (s1 : Nat) (h : hp_H) : hp_J Y_E_searched Z hp_rI h 181 [] [.int s0, .ref s1] (m_E_searched_181 (hp_G Z)  s0 s1 h) := by
  unfold m_E_searched_181
  refine hp_callI (hp_crV (ci := 1) (t_S_keepTruth _ _ _ _) cw_E_101 rfl ⟨w_391, w_392⟩ (by decide) rfl rfl (Nat.le_of_ble_eq_true rfl) d_E_searched_181) fun q1 => ?_
  exact hp_iret d_E_searched_184 rfl
def m_E_searched_71 (G : Nat → Nat) (a0 : Nat) (a1 : Int32) (a2 : Nat) (a3 : Nat) (h : hp_H) : Option (Int32 × hp_H) := (hp_gR h a2 3 4).bind fun x1 => (hp_gR h a3 3 4).bind fun x2 => (m_E_firstPlace G x1 x2 h).bind fun q3 => hp_nm q3.1 fun x4 => (hp_gR q3.2 a2 3 4).bind fun x5 => (hp_len q3.2 x5).bind fun x6 => (hp_gR q3.2 a3 3 4).bind fun x7 => (hp_len q3.2 x7).bind fun x8 => hp_nm (x6 - x8) fun x9 => if a1 = 30 then ((hp_gR q3.2 a0 5 0).bind fun x10 => if x4 = 0 then (m_E_searched_142 G (1 : Int32) x10 q3.2) else (m_E_searched_142 G (0 : Int32) x10 q3.2)) else (if a1 = 31 then ((hp_gR q3.2 a0 5 0).bind fun x11 => (hp_gR q3.2 a2 3 4).bind fun x12 => (hp_gR q3.2 a3 3 4).bind fun x13 => (m_E_isAt G x12 x13 x9 q3.2).bind fun q14 => (hp_vck q14.2 x11 1 (m_S_keepTruth G x11 q14.1 q14.2)).bind fun q15 => some (q15.1, q15.2)) else (if a1 = 32 then ((hp_gR q3.2 a0 5 0).bind fun x16 => if x4 < 0 then (m_E_searched_181 G (0 : Int32) x16 q3.2) else (m_E_searched_181 G (1 : Int32) x16 q3.2)) else (if a1 = 33 then ((hp_vck q3.2 a0 5 (m_E_cut G a0 a2 x4 (0 : Int32) x4 q3.2)).bind fun q17 => some (q17.1, q17.2)) else ((hp_gR q3.2 a3 3 4).bind fun x18 => (hp_len q3.2 x18).bind fun x19 => (hp_gR q3.2 a2 3 4).bind fun x20 => (hp_len q3.2 x20).bind fun x21 => (hp_vck q3.2 a0 5 (m_E_cut G a0 a2 x4 (x4 + x19) x21 q3.2)).bind fun q22 => some (q22.1, q22.2)))))
set_option maxRecDepth 100000 in
set_option maxHeartbeats 4000000 in
theorem j_E_searched_71 {Z : hp_Z} (a0 : Nat) (a1 : Int32) (a2 : Nat) (a3 : Nat) (h : hp_H) : hp_J Y_E_searched Z hp_rI h 71 [(0, .ref a0), (1, .int a1), (2, .ref a2), (3, .ref a3)] [] (m_E_searched_71 (hp_G Z)  a0 a1 a2 a3 h) := by
  unfold m_E_searched_71
  refine hp_aload_n (x0 := 2) d_E_searched_71 rfl rfl ?_
  refine hp_getR fl_E_214 d_E_searched_72 fun x1 => ?_
  refine hp_aload_n (x0 := 3) d_E_searched_75 rfl rfl ?_
  refine hp_getR fl_E_214 d_E_searched_76 fun x2 => ?_
  refine hp_callI (hp_crS (t_E_firstPlace _ _ _ _) cw_E_244 w_685 (by decide) rfl rfl (Nat.le_of_ble_eq_true rfl) d_E_searched_79) fun q3 => ?_
  refine hp_istore (fun x4 => [(5, .int x4), (0, .ref a0), (1, .int a1), (2, .ref a2), (3, .ref a3)]) d_E_searched_82 (by decide) (fun _ => rfl) fun x4 => ?_
  refine hp_aload_n (x0 := 3) d_E_searched_84 rfl rfl ?_
  refine hp_getR fl_E_214 d_E_searched_85 fun x5 => ?_
  refine hp_alen d_E_searched_88 fun x6 => ?_
  refine hp_aload_n (x0 := 4) d_E_searched_89 rfl rfl ?_
  refine hp_getR fl_E_214 d_E_searched_90 fun x7 => ?_
  refine hp_alen d_E_searched_93 fun x8 => ?_
  refine hp_isub d_E_searched_94 ?_
  refine hp_istore (fun x9 => [(6, .int x9), (5, .int x4), (0, .ref a0), (1, .int a1), (2, .ref a2), (3, .ref a3)]) d_E_searched_95 (by decide) (fun _ => rfl) fun x9 => ?_
  refine hp_iload_n (x0 := 3) d_E_searched_97 rfl rfl ?_
  refine hp_ite (fun c0 => ?_) (fun c0 => ?_)
  · refine hp_tabI (tgt := 128) (kv := 30) d_E_searched_98 c0 (by decide) (by decide) rfl (by decide) ?_
    refine hp_aload_n (x0 := 2) d_E_searched_128 rfl rfl ?_
    refine hp_getR fl_E_38 d_E_searched_129 fun x10 => ?_
    refine hp_iload (x0 := 1) d_E_searched_132 rfl ?_
    refine hp_if_ne (tgt := 141) d_E_searched_134 (by decide) ?_ ?_
    · refine hp_iconst (v := 1) d_E_searched_137 (by decide) ?_
      refine hp_goto (tgt := 142) d_E_searched_138 (by decide) ?_
      refine hp_sub [] rfl ?_
      exact j_E_searched_142  _ _ _
    · refine hp_iconst (v := 0) d_E_searched_141 (by decide) ?_
      refine hp_sub [] rfl ?_
      exact j_E_searched_142  _ _ _
  · skip
    refine hp_ite (fun c1 => ?_) (fun c1 => ?_)
    · refine hp_tabI (tgt := 146) (kv := 31) d_E_searched_98 c1 (by decide) (by decide) rfl (by decide) ?_
      refine hp_aload_n (x0 := 2) d_E_searched_146 rfl rfl ?_
      refine hp_getR fl_E_38 d_E_searched_147 fun x11 => ?_
      refine hp_aload_n (x0 := 4) d_E_searched_150 rfl rfl ?_
      refine hp_getR fl_E_214 d_E_searched_151 fun x12 => ?_
      refine hp_aload_n (x0 := 5) d_E_searched_154 rfl rfl ?_
      refine hp_getR fl_E_214 d_E_searched_155 fun x13 => ?_
      refine hp_iload (x0 := 0) d_E_searched_158 rfl ?_
      refine hp_callI (hp_crS (t_E_isAt _ _ _ _ _) cw_E_248 w_688 (by decide) rfl rfl (Nat.le_of_ble_eq_true rfl) d_E_searched_160) fun q14 => ?_
      refine hp_callI (hp_crV (ci := 1) (t_S_keepTruth _ _ _ _) cw_E_101 rfl ⟨w_391, w_392⟩ (by decide) rfl rfl (Nat.le_of_ble_eq_true rfl) d_E_searched_163) fun q15 => ?_
      exact hp_iret d_E_searched_166 rfl
    · skip
      refine hp_ite (fun c2 => ?_) (fun c2 => ?_)
      · refine hp_tabI (tgt := 167) (kv := 32) d_E_searched_98 c2 (by decide) (by decide) rfl (by decide) ?_
        refine hp_aload_n (x0 := 2) d_E_searched_167 rfl rfl ?_
        refine hp_getR fl_E_38 d_E_searched_168 fun x16 => ?_
        refine hp_iload (x0 := 1) d_E_searched_171 rfl ?_
        refine hp_if_lt (tgt := 180) d_E_searched_173 (by decide) ?_ ?_
        · refine hp_iconst (v := 0) d_E_searched_180 (by decide) ?_
          refine hp_sub [] rfl ?_
          exact j_E_searched_181  _ _ _
        · refine hp_iconst (v := 1) d_E_searched_176 (by decide) ?_
          refine hp_goto (tgt := 181) d_E_searched_177 (by decide) ?_
          refine hp_sub [] rfl ?_
          exact j_E_searched_181  _ _ _
      · skip
        refine hp_ite (fun c3 => ?_) (fun c3 => ?_)
        · refine hp_tabI (tgt := 185) (kv := 33) d_E_searched_98 c3 (by decide) (by decide) rfl (by decide) ?_
          refine hp_aload_n (x0 := 2) d_E_searched_185 rfl rfl ?_
          refine hp_aload_n (x0 := 4) d_E_searched_186 rfl rfl ?_
          refine hp_iload (x0 := 1) d_E_searched_187 rfl ?_
          refine hp_iconst (v := 0) d_E_searched_189 (by decide) ?_
          refine hp_iload (x0 := 1) d_E_searched_190 rfl ?_
          refine hp_callI (hp_crV (ci := 5) (t_E_cut _ _ _ _ _ _ _) cw_E_252 rfl ⟨w_692, ws_27⟩ (by decide) rfl rfl (Nat.le_of_ble_eq_true rfl) d_E_searched_192) fun q17 => ?_
          exact hp_iret d_E_searched_195 rfl
        · skip
          refine hp_tabD (tgt := 196) d_E_searched_98 (by have e0 := lv_neT c0 (a := 30) (by decide); have e1 := lv_neT c1 (a := 31) (by decide); have e2 := lv_neT c2 (a := 32) (by decide); have e3 := lv_neT c3 (a := 33) (by decide); omega) (by decide) ?_
          refine hp_aload_n (x0 := 2) d_E_searched_196 rfl rfl ?_
          refine hp_aload_n (x0 := 4) d_E_searched_197 rfl rfl ?_
          refine hp_iload (x0 := 1) d_E_searched_198 rfl ?_
          refine hp_iload (x0 := 1) d_E_searched_200 rfl ?_
          refine hp_aload_n (x0 := 5) d_E_searched_202 rfl rfl ?_
          refine hp_getR fl_E_214 d_E_searched_203 fun x18 => ?_
          refine hp_alen d_E_searched_206 fun x19 => ?_
          refine hp_iadd d_E_searched_207 ?_
          refine hp_aload_n (x0 := 4) d_E_searched_208 rfl rfl ?_
          refine hp_getR fl_E_214 d_E_searched_209 fun x20 => ?_
          refine hp_alen d_E_searched_212 fun x21 => ?_
          refine hp_callI (hp_crV (ci := 5) (t_E_cut _ _ _ _ _ _ _) cw_E_252 rfl ⟨w_692, ws_27⟩ (by decide) rfl rfl (Nat.le_of_ble_eq_true rfl) d_E_searched_213) fun q22 => ?_
          exact hp_iret d_E_searched_216 rfl
def m_E_searched_46 (G : Nat → Nat) (a0 : Nat) (a1 : Int32) (a2 : Nat) (a3 : Nat) (s0 : Int32) (h : hp_H) : Option (Int32 × hp_H) := hp_nm s0 fun x1 => (hp_vck h a2 3 (m_V_isPlainOrTagged G a2 h)).bind fun q2 => if q2.1 = 0 then (m_E_searched_68 G q2.2) else ((hp_gI q2.2 a3 3 0).bind fun x3 => if x3 = (5 : Int32) then (m_E_searched_71 G a0 a1 a2 a3 q2.2) else (if x1 = 0 then (m_E_searched_68 G q2.2) else (m_E_searched_71 G a0 a1 a2 a3 q2.2)))
set_option maxRecDepth 100000 in
set_option maxHeartbeats 4000000 in
theorem j_E_searched_46 {Z : hp_Z} (a0 : Nat) (a1 : Int32) (a2 : Nat) (a3 : Nat) (s0 : Int32) (h : hp_H) : hp_J Y_E_searched Z hp_rI h 46 [(0, .ref a0), (1, .int a1), (2, .ref a2), (3, .ref a3)] [.int s0] (m_E_searched_46 (hp_G Z)  a0 a1 a2 a3 s0 h) := by
  unfold m_E_searched_46
  refine hp_istore (fun x1 => [(4, .int x1), (0, .ref a0), (1, .int a1), (2, .ref a2), (3, .ref a3)]) d_E_searched_46 (by decide) (fun _ => rfl) fun x1 => ?_
  refine hp_aload_n (x0 := 3) d_E_searched_48 rfl rfl ?_
  refine hp_callI (hp_crV (ci := 3) (t_V_isPlainOrTagged _ _ _) cw_E_211 rfl ⟨w_651, w_652⟩ (by decide) rfl rfl (Nat.le_of_ble_eq_true rfl) d_E_searched_49) fun q2 => ?_
  refine hp_if_eq (tgt := 68) d_E_searched_52 (by decide) ?_ ?_
  · refine hp_sub [] rfl ?_
    exact j_E_searched_68   _
  · refine hp_aload_n (x0 := 4) d_E_searched_55 rfl rfl ?_
    refine hp_getI fl_E_93 d_E_searched_56 fun x3 => ?_
    refine hp_iconst (v := 5) d_E_searched_59 (by decide) ?_
    refine hp_icmp_eq (tgt := 71) d_E_searched_60 (by decide) ?_ ?_
    · refine hp_sub [1, 2, 3, 4] rfl ?_
      exact j_E_searched_71  _ _ _ _ _
    · refine hp_iload (x0 := 0) d_E_searched_63 rfl ?_
      refine hp_if_ne (tgt := 71) d_E_searched_65 (by decide) ?_ ?_
      · refine hp_sub [] rfl ?_
        exact j_E_searched_68   _
      · refine hp_sub [1, 2, 3, 4] rfl ?_
        exact j_E_searched_71  _ _ _ _ _
def m_E_searched_45 (G : Nat → Nat) (a0 : Nat) (a1 : Int32) (a2 : Nat) (a3 : Nat) (h : hp_H) : Option (Int32 × hp_H) := m_E_searched_46 G a0 a1 a2 a3 (0 : Int32) h
set_option maxRecDepth 100000 in
set_option maxHeartbeats 4000000 in
theorem j_E_searched_45 {Z : hp_Z} (a0 : Nat) (a1 : Int32) (a2 : Nat) (a3 : Nat) (h : hp_H) : hp_J Y_E_searched Z hp_rI h 45 [(0, .ref a0), (1, .int a1), (2, .ref a2), (3, .ref a3)] [] (m_E_searched_45 (hp_G Z)  a0 a1 a2 a3 h) := by
  unfold m_E_searched_45
  refine hp_iconst (v := 0) d_E_searched_45 (by decide) ?_
  exact j_E_searched_46  _ _ _ _ _ _
def m_E_searched (G : Nat → Nat) (a0 : Nat) (a1 : Int32) (h : hp_H) : Option (Int32 × hp_H) := (hp_vck h a0 5 (m_E_taken G a0 (0 : Int32) h)).bind fun q1 => hp_nm q1.1 fun x2 => (hp_vck q1.2 a0 5 (m_E_taken G a0 (1 : Int32) q1.2)).bind fun q3 => hp_nm q3.1 fun x4 => (hp_gI q3.2 x4 3 0).bind fun x5 => if x5 = (6 : Int32) then ((hp_gI q3.2 x2 3 0).bind fun x6 => if x6 = (6 : Int32) then ((hp_gI q3.2 x4 3 1).bind fun x7 => (hp_gI q3.2 x2 3 1).bind fun x8 => if x7 = x8 then (m_E_searched_46 G a0 a1 x2 x4 (1 : Int32) q3.2) else (m_E_searched_45 G a0 a1 x2 x4 q3.2)) else (m_E_searched_45 G a0 a1 x2 x4 q3.2)) else (m_E_searched_45 G a0 a1 x2 x4 q3.2)
set_option maxRecDepth 100000 in
set_option maxHeartbeats 4000000 in
theorem j_E_searched_0 {Z : hp_Z} (a0 : Nat) (a1 : Int32) (h : hp_H) : hp_J Y_E_searched Z hp_rI h 0 [(0, .ref a0), (1, .int a1)] [] (m_E_searched (hp_G Z)  a0 a1 h) := by
  unfold m_E_searched
  refine hp_aload_n (x0 := 0) d_E_searched_0 rfl rfl ?_
  refine hp_iconst (v := 0) d_E_searched_1 (by decide) ?_
  refine hp_callR (hp_crV (ci := 5) (t_E_taken _ _ _ _) cw_E_90 rfl ⟨w_550, ws_9⟩ (by decide) rfl rfl (Nat.le_of_ble_eq_true rfl) d_E_searched_2) fun q1 => ?_
  refine hp_astore_n (fun x2 => [(2, .ref x2), (0, .ref a0), (1, .int a1)]) d_E_searched_5 rfl (by decide) (fun _ => rfl) fun x2 => ?_
  refine hp_aload_n (x0 := 1) d_E_searched_6 rfl rfl ?_
  refine hp_iconst (v := 1) d_E_searched_7 (by decide) ?_
  refine hp_callR (hp_crV (ci := 5) (t_E_taken _ _ _ _) cw_E_90 rfl ⟨w_550, ws_9⟩ (by decide) rfl rfl (Nat.le_of_ble_eq_true rfl) d_E_searched_8) fun q3 => ?_
  refine hp_astore_n (fun x4 => [(3, .ref x4), (2, .ref x2), (0, .ref a0), (1, .int a1)]) d_E_searched_11 rfl (by decide) (fun _ => rfl) fun x4 => ?_
  refine hp_aload_n (x0 := 0) d_E_searched_12 rfl rfl ?_
  refine hp_getI fl_E_93 d_E_searched_13 fun x5 => ?_
  refine hp_bipush (v := 6) d_E_searched_16 (by decide) ?_
  refine hp_icmp_ne (tgt := 45) d_E_searched_18 (by decide) ?_ ?_
  · refine hp_aload_n (x0 := 1) d_E_searched_21 rfl rfl ?_
    refine hp_getI fl_E_93 d_E_searched_22 fun x6 => ?_
    refine hp_bipush (v := 6) d_E_searched_25 (by decide) ?_
    refine hp_icmp_ne (tgt := 45) d_E_searched_27 (by decide) ?_ ?_
    · refine hp_aload_n (x0 := 0) d_E_searched_30 rfl rfl ?_
      refine hp_getI fl_E_208 d_E_searched_31 fun x7 => ?_
      refine hp_aload_n (x0 := 1) d_E_searched_34 rfl rfl ?_
      refine hp_getI fl_E_208 d_E_searched_35 fun x8 => ?_
      refine hp_icmp_ne (tgt := 45) d_E_searched_38 (by decide) ?_ ?_
      · refine hp_iconst (v := 1) d_E_searched_41 (by decide) ?_
        refine hp_goto (tgt := 46) d_E_searched_42 (by decide) ?_
        refine hp_sub [2, 3, 1, 0] rfl ?_
        exact j_E_searched_46  _ _ _ _ _ _
      · refine hp_sub [2, 3, 1, 0] rfl ?_
        exact j_E_searched_45  _ _ _ _ _
    · refine hp_sub [2, 3, 1, 0] rfl ?_
      exact j_E_searched_45  _ _ _ _ _
  · refine hp_sub [2, 3, 1, 0] rfl ?_
    exact j_E_searched_45  _ _ _ _ _
theorem t_E_searched (l : Launch) (E : hp_E) (a0 : Nat) (a1 : Int32) : hp_M l E y_E_searched Y_E_searched hp_rI [.ref a0, .int a1] (m_E_searched E.2.2.1 a0 a1) := hp_M.of (plainFor_of_name (by decide)) ⟨rfl, rfl⟩ (Nat.le_of_ble_eq_true rfl) (fun Z h hE => by subst hE; exact j_E_searched_0 _ _ h)
