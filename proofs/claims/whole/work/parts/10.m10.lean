-- K_init
theorem d_K_init_0 : decode prog_4_method_1_code 0 = .ok (.aload_n 0, 1) := by decide +kernel
theorem d_K_init_1 : decode prog_4_method_1_code 1 = .ok (.invokespecial 3, 3) := by decide +kernel
theorem d_K_init_4 : decode prog_4_method_1_code 4 = .ok (.return_, 1) := by decide +kernel
def m_K_init (G : Nat → Nat) (a0 : Nat) (h : hp_H) : Option (Unit × hp_H) := some ((), h)
set_option maxRecDepth 100000 in
set_option maxHeartbeats 4000000 in
theorem j_K_init_0 {Z : hp_Z} (a0 : Nat) (h : hp_H) : hp_J Y_K_init Z hp_rV h 0 [(0, .ref a0)] [] (m_K_init (hp_G Z)  a0 h) := by
  unfold m_K_init
  refine hp_aload_n (x0 := 0) d_K_init_0 rfl rfl ?_
  refine hp_objInit ⟨w_166, w_29, w_30⟩ (by decide) (by decide) d_K_init_1 ?_
  exact hp_vret d_K_init_4 rfl
theorem t_K_init (l : Launch) (E : hp_E) (a0 : Nat) : hp_M l E y_K_init Y_K_init hp_rV [.ref a0] (m_K_init E.2.2.1 a0) := hp_M.of (by decide +kernel) ⟨rfl, rfl⟩ (Nat.le_of_ble_eq_true rfl) (fun Z h hE => by subst hE; exact j_K_init_0 _ h)
-- V_init
theorem d_V_init_0 : decode prog_7_method_1_code 0 = .ok (.aload_n 0, 1) := by decide +kernel
theorem d_V_init_1 : decode prog_7_method_1_code 1 = .ok (.invokespecial 3, 3) := by decide +kernel
theorem d_V_init_4 : decode prog_7_method_1_code 4 = .ok (.aload_n 0, 1) := by decide +kernel
theorem d_V_init_5 : decode prog_7_method_1_code 5 = .ok (.iload_n 1, 1) := by decide +kernel
theorem d_V_init_6 : decode prog_7_method_1_code 6 = .ok (.putfield 9, 3) := by decide +kernel
theorem d_V_init_9 : decode prog_7_method_1_code 9 = .ok (.aload_n 0, 1) := by decide +kernel
theorem d_V_init_10 : decode prog_7_method_1_code 10 = .ok (.iload_n 2, 1) := by decide +kernel
theorem d_V_init_11 : decode prog_7_method_1_code 11 = .ok (.putfield 15, 3) := by decide +kernel
theorem d_V_init_14 : decode prog_7_method_1_code 14 = .ok (.aload_n 0, 1) := by decide +kernel
theorem d_V_init_15 : decode prog_7_method_1_code 15 = .ok (.lload_n 3, 1) := by decide +kernel
theorem d_V_init_16 : decode prog_7_method_1_code 16 = .ok (.putfield 18, 3) := by decide +kernel
theorem d_V_init_19 : decode prog_7_method_1_code 19 = .ok (.aload_n 0, 1) := by decide +kernel
theorem d_V_init_20 : decode prog_7_method_1_code 20 = .ok (.iload 5, 2) := by decide +kernel
theorem d_V_init_22 : decode prog_7_method_1_code 22 = .ok (.putfield 22, 3) := by decide +kernel
theorem d_V_init_25 : decode prog_7_method_1_code 25 = .ok (.aload_n 0, 1) := by decide +kernel
theorem d_V_init_26 : decode prog_7_method_1_code 26 = .ok (.aload 6, 2) := by decide +kernel
theorem d_V_init_28 : decode prog_7_method_1_code 28 = .ok (.putfield 25, 3) := by decide +kernel
theorem d_V_init_31 : decode prog_7_method_1_code 31 = .ok (.aload_n 0, 1) := by decide +kernel
theorem d_V_init_32 : decode prog_7_method_1_code 32 = .ok (.iload 7, 2) := by decide +kernel
theorem d_V_init_34 : decode prog_7_method_1_code 34 = .ok (.putfield 29, 3) := by decide +kernel
theorem d_V_init_37 : decode prog_7_method_1_code 37 = .ok (.return_, 1) := by decide +kernel
def m_V_init (G : Nat → Nat) (a0 : Nat) (a1 : Int32) (a2 : Int32) (a3 : Int64) (a5 : Int32) (a6 : Nat) (a7 : Int32) (h : hp_H) : Option (Unit × hp_H) := (hp_p h a0 3 0 (.int a1)).bind fun h1 => (hp_p h1 a0 3 1 (.int a2)).bind fun h2 => (hp_p h2 a0 3 2 (.long a3)).bind fun h3 => (hp_p h3 a0 3 3 (.int a5)).bind fun h4 => (hp_p h4 a0 3 4 (.ref a6)).bind fun h5 => (hp_p h5 a0 3 5 (.int a7)).bind fun h6 => some ((), h6)
set_option maxRecDepth 100000 in
set_option maxHeartbeats 4000000 in
theorem j_V_init_0 {Z : hp_Z} (a0 : Nat) (a1 : Int32) (a2 : Int32) (a3 : Int64) (a5 : Int32) (a6 : Nat) (a7 : Int32) (h : hp_H) : hp_J Y_V_init Z hp_rV h 0 [(0, .ref a0), (1, .int a1), (2, .int a2), (3, .long a3), (5, .int a5), (6, .ref a6), (7, .int a7)] [] (m_V_init (hp_G Z)  a0 a1 a2 a3 a5 a6 a7 h) := by
  unfold m_V_init
  refine hp_aload_n (x0 := 0) d_V_init_0 rfl rfl ?_
  refine hp_objInit ⟨w_70, w_29, w_30⟩ (by decide) (by decide) d_V_init_1 ?_
  refine hp_aload_n (x0 := 0) d_V_init_4 rfl rfl ?_
  refine hp_iload_n (x0 := 1) d_V_init_5 rfl rfl ?_
  refine hp_put fl_V_9 (fun _ => ⟨rfl, fun _ q => by cases q; rfl⟩) rfl rfl d_V_init_6 fun h1 => ?_
  refine hp_aload_n (x0 := 0) d_V_init_9 rfl rfl ?_
  refine hp_iload_n (x0 := 2) d_V_init_10 rfl rfl ?_
  refine hp_put fl_V_15 (fun _ => ⟨rfl, fun _ q => by cases q; rfl⟩) rfl rfl d_V_init_11 fun h2 => ?_
  refine hp_aload_n (x0 := 0) d_V_init_14 rfl rfl ?_
  refine hp_lload_n (x0 := 3) d_V_init_15 rfl rfl ?_
  refine hp_put fl_V_18 (fun _ => ⟨rfl, fun _ q => by cases q; rfl⟩) rfl rfl d_V_init_16 fun h3 => ?_
  refine hp_aload_n (x0 := 0) d_V_init_19 rfl rfl ?_
  refine hp_iload (x0 := 4) d_V_init_20 rfl ?_
  refine hp_put fl_V_22 (fun _ => ⟨rfl, fun _ q => by cases q; rfl⟩) rfl rfl d_V_init_22 fun h4 => ?_
  refine hp_aload_n (x0 := 0) d_V_init_25 rfl rfl ?_
  refine hp_aload (x0 := 5) d_V_init_26 rfl ?_
  refine hp_put fl_V_25 (fun _ => ⟨rfl, fun _ q => by cases q; rfl⟩) rfl rfl d_V_init_28 fun h5 => ?_
  refine hp_aload_n (x0 := 0) d_V_init_31 rfl rfl ?_
  refine hp_iload (x0 := 6) d_V_init_32 rfl ?_
  refine hp_put fl_V_29 (fun _ => ⟨rfl, fun _ q => by cases q; rfl⟩) rfl rfl d_V_init_34 fun h6 => ?_
  exact hp_vret d_V_init_37 rfl
theorem t_V_init (l : Launch) (E : hp_E) (a0 : Nat) (a1 : Int32) (a2 : Int32) (a3 : Int64) (a5 : Int32) (a6 : Nat) (a7 : Int32) : hp_M l E y_V_init Y_V_init hp_rV [.ref a0, .int a1, .int a2, .long a3, .int a5, .ref a6, .int a7] (m_V_init E.2.2.1 a0 a1 a2 a3 a5 a6 a7) := hp_M.of (by decide +kernel) ⟨rfl, rfl⟩ (Nat.le_of_ble_eq_true rfl) (fun Z h hE => by subst hE; exact j_V_init_0 _ _ _ _ _ _ _ h)
-- R_put
theorem d_R_put_0 : decode prog_5_method_3_code 0 = .ok (.aload_n 0, 1) := by decide +kernel
theorem d_R_put_1 : decode prog_5_method_3_code 1 = .ok (.getfield 15, 3) := by decide +kernel
theorem d_R_put_4 : decode prog_5_method_3_code 4 = .ok (.bipush 64, 2) := by decide +kernel
theorem d_R_put_6 : decode prog_5_method_3_code 6 = .ok (.if_icmp .lt 9, 3) := by decide +kernel
theorem d_R_put_9 : decode prog_5_method_3_code 9 = .ok (.aload_n 0, 1) := by decide +kernel
theorem d_R_put_10 : decode prog_5_method_3_code 10 = .ok (.iconst 1, 1) := by decide +kernel
theorem d_R_put_11 : decode prog_5_method_3_code 11 = .ok (.putfield 19, 3) := by decide +kernel
theorem d_R_put_14 : decode prog_5_method_3_code 14 = .ok (.return_, 1) := by decide +kernel
theorem d_R_put_15 : decode prog_5_method_3_code 15 = .ok (.aload_n 0, 1) := by decide +kernel
theorem d_R_put_16 : decode prog_5_method_3_code 16 = .ok (.getfield 9, 3) := by decide +kernel
theorem d_R_put_19 : decode prog_5_method_3_code 19 = .ok (.aload_n 0, 1) := by decide +kernel
theorem d_R_put_20 : decode prog_5_method_3_code 20 = .ok (.getfield 15, 3) := by decide +kernel
theorem d_R_put_23 : decode prog_5_method_3_code 23 = .ok (.iload_n 1, 1) := by decide +kernel
theorem d_R_put_24 : decode prog_5_method_3_code 24 = .ok (.i2b, 1) := by decide +kernel
theorem d_R_put_25 : decode prog_5_method_3_code 25 = .ok (.bastore, 1) := by decide +kernel
theorem d_R_put_26 : decode prog_5_method_3_code 26 = .ok (.aload_n 0, 1) := by decide +kernel
theorem d_R_put_27 : decode prog_5_method_3_code 27 = .ok (.dup, 1) := by decide +kernel
theorem d_R_put_28 : decode prog_5_method_3_code 28 = .ok (.getfield 15, 3) := by decide +kernel
theorem d_R_put_31 : decode prog_5_method_3_code 31 = .ok (.iconst 1, 1) := by decide +kernel
theorem d_R_put_32 : decode prog_5_method_3_code 32 = .ok (.iadd, 1) := by decide +kernel
theorem d_R_put_33 : decode prog_5_method_3_code 33 = .ok (.putfield 15, 3) := by decide +kernel
theorem d_R_put_36 : decode prog_5_method_3_code 36 = .ok (.return_, 1) := by decide +kernel
def m_R_put (G : Nat → Nat) (a0 : Nat) (a1 : Int32) (h : hp_H) : Option (Unit × hp_H) := (hp_gI h a0 4 1).bind fun x1 => if x1 < (64 : Int32) then ((hp_gR h a0 4 0).bind fun x2 => (hp_gI h a0 4 1).bind fun x3 => (hp_sI h .byte x2 x3 a1.toInt8.toInt32.toInt8.toInt32).bind fun h4 => (hp_gI h4 a0 4 1).bind fun x5 => (hp_p h4 a0 4 1 (.int (x5 + (1 : Int32)))).bind fun h6 => some ((), h6)) else ((hp_pZ h a0 4 2 (1 : Int32)).bind fun h7 => some ((), h7))
set_option maxRecDepth 100000 in
set_option maxHeartbeats 4000000 in
theorem j_R_put_0 {Z : hp_Z} (a0 : Nat) (a1 : Int32) (h : hp_H) : hp_J Y_R_put Z hp_rV h 0 [(0, .ref a0), (1, .int a1)] [] (m_R_put (hp_G Z)  a0 a1 h) := by
  unfold m_R_put
  refine hp_aload_n (x0 := 0) d_R_put_0 rfl rfl ?_
  refine hp_getI fl_R_15 d_R_put_1 fun x1 => ?_
  refine hp_bipush (v := 64) d_R_put_4 (by decide) ?_
  refine hp_icmp_lt (tgt := 15) d_R_put_6 (by decide) ?_ ?_
  · refine hp_aload_n (x0 := 0) d_R_put_15 rfl rfl ?_
    refine hp_getR fl_R_9 d_R_put_16 fun x2 => ?_
    refine hp_aload_n (x0 := 0) d_R_put_19 rfl rfl ?_
    refine hp_getI fl_R_15 d_R_put_20 fun x3 => ?_
    refine hp_iload_n (x0 := 1) d_R_put_23 rfl rfl ?_
    refine hp_i2b d_R_put_24 ?_
    refine hp_bast d_R_put_25 fun h4 => ?_
    refine hp_aload_n (x0 := 0) d_R_put_26 rfl rfl ?_
    refine hp_dup d_R_put_27 rfl ?_
    refine hp_getI fl_R_15 d_R_put_28 fun x5 => ?_
    refine hp_iconst (v := 1) d_R_put_31 (by decide) ?_
    refine hp_iadd d_R_put_32 ?_
    refine hp_put fl_R_15 (fun q => by cases q) rfl rfl d_R_put_33 fun h6 => ?_
    exact hp_vret d_R_put_36 rfl
  · refine hp_aload_n (x0 := 0) d_R_put_9 rfl rfl ?_
    refine hp_iconst (v := 1) d_R_put_10 (by decide) ?_
    refine hp_putZ fl_R_19 (fun q => by cases q) d_R_put_11 fun h7 => ?_
    exact hp_vret d_R_put_14 rfl
theorem t_R_put (l : Launch) (E : hp_E) (a0 : Nat) (a1 : Int32) : hp_M l E y_R_put Y_R_put hp_rV [.ref a0, .int a1] (m_R_put E.2.2.1 a0 a1) := hp_M.of (by decide +kernel) ⟨rfl, rfl⟩ (Nat.le_of_ble_eq_true rfl) (fun Z h hE => by subst hE; exact j_R_put_0 _ _ h)
-- D_isInSize
theorem d_D_isInSize_0 : decode prog_1_method_21_code 0 = .ok (.lload_n 0, 1) := by decide +kernel
theorem d_D_isInSize_1 : decode prog_1_method_21_code 1 = .ok (.ldc2_w 136, 3) := by decide +kernel
theorem d_D_isInSize_4 : decode prog_1_method_21_code 4 = .ok (.lcmp, 1) := by decide +kernel
theorem d_D_isInSize_5 : decode prog_1_method_21_code 5 = .ok (.ifCond .le 15, 3) := by decide +kernel
theorem d_D_isInSize_8 : decode prog_1_method_21_code 8 = .ok (.lload_n 0, 1) := by decide +kernel
theorem d_D_isInSize_9 : decode prog_1_method_21_code 9 = .ok (.ldc2_w 138, 3) := by decide +kernel
theorem d_D_isInSize_12 : decode prog_1_method_21_code 12 = .ok (.lcmp, 1) := by decide +kernel
theorem d_D_isInSize_13 : decode prog_1_method_21_code 13 = .ok (.ifCond .ge 7, 3) := by decide +kernel
theorem d_D_isInSize_16 : decode prog_1_method_21_code 16 = .ok (.iconst 1, 1) := by decide +kernel
theorem d_D_isInSize_17 : decode prog_1_method_21_code 17 = .ok (.goto 4, 3) := by decide +kernel
theorem d_D_isInSize_20 : decode prog_1_method_21_code 20 = .ok (.iconst 0, 1) := by decide +kernel
theorem d_D_isInSize_21 : decode prog_1_method_21_code 21 = .ok (.ireturn, 1) := by decide +kernel
def m_D_isInSize_21 (G : Nat → Nat) (s0 : Int32) (h : hp_H) : Option (Int32 × hp_H) := hp_z s0 h
set_option maxRecDepth 100000 in
set_option maxHeartbeats 4000000 in
theorem j_D_isInSize_21 {Z : hp_Z} (s0 : Int32) (h : hp_H) : hp_J Y_D_isInSize Z hp_rI h 21 [] [.int s0] (m_D_isInSize_21 (hp_G Z)  s0 h) := by
  unfold m_D_isInSize_21
  exact hp_zret d_D_isInSize_21 rfl
def m_D_isInSize_20 (G : Nat → Nat) (h : hp_H) : Option (Int32 × hp_H) := m_D_isInSize_21 G (0 : Int32) h
set_option maxRecDepth 100000 in
set_option maxHeartbeats 4000000 in
theorem j_D_isInSize_20 {Z : hp_Z} (h : hp_H) : hp_J Y_D_isInSize Z hp_rI h 20 [] [] (m_D_isInSize_20 (hp_G Z)   h) := by
  unfold m_D_isInSize_20
  refine hp_iconst (v := 0) d_D_isInSize_20 (by decide) ?_
  exact j_D_isInSize_21  _ _
def m_D_isInSize (G : Nat → Nat) (a0 : Int64) (h : hp_H) : Option (Int32 × hp_H) := if (lg_cmp a0 (-1000000000000000000 : Int64)) ≤ 0 then (m_D_isInSize_20 G h) else (if 0 ≤ (lg_cmp a0 (1000000000000000000 : Int64)) then (m_D_isInSize_20 G h) else (m_D_isInSize_21 G (1 : Int32) h))
set_option maxRecDepth 100000 in
set_option maxHeartbeats 4000000 in
theorem j_D_isInSize_0 {Z : hp_Z} (a0 : Int64) (h : hp_H) : hp_J Y_D_isInSize Z hp_rI h 0 [(0, .long a0)] [] (m_D_isInSize (hp_G Z)  a0 h) := by
  unfold m_D_isInSize
  refine hp_lload_n (x0 := 0) d_D_isInSize_0 rfl rfl ?_
  refine hp_ldc2 (v := -1000000000000000000) d_D_isInSize_1 w_279 ?_
  refine hp_lcmp d_D_isInSize_4 ?_
  refine hp_if_le (tgt := 20) d_D_isInSize_5 (by decide) ?_ ?_
  · refine hp_sub [] rfl ?_
    exact j_D_isInSize_20   _
  · refine hp_lload_n (x0 := 0) d_D_isInSize_8 rfl rfl ?_
    refine hp_ldc2 (v := 1000000000000000000) d_D_isInSize_9 w_280 ?_
    refine hp_lcmp d_D_isInSize_12 ?_
    refine hp_if_ge (tgt := 20) d_D_isInSize_13 (by decide) ?_ ?_
    · refine hp_sub [] rfl ?_
      exact j_D_isInSize_20   _
    · refine hp_iconst (v := 1) d_D_isInSize_16 (by decide) ?_
      refine hp_goto (tgt := 21) d_D_isInSize_17 (by decide) ?_
      refine hp_sub [] rfl ?_
      exact j_D_isInSize_21  _ _
theorem t_D_isInSize (l : Launch) (E : hp_E) (a0 : Int64) : hp_M l E y_D_isInSize Y_D_isInSize hp_rI [.long a0] (m_D_isInSize E.2.2.1 a0) := hp_M.of (by decide +kernel) ⟨rfl, rfl⟩ (Nat.le_of_ble_eq_true rfl) (fun Z h hE => by subst hE; exact j_D_isInSize_0 _ h)
-- MA_min
theorem d_MA_min_0 : decode prog_15_method_69_code 0 = .ok (.iload_n 0, 1) := by decide +kernel
theorem d_MA_min_1 : decode prog_15_method_69_code 1 = .ok (.iload_n 1, 1) := by decide +kernel
theorem d_MA_min_2 : decode prog_15_method_69_code 2 = .ok (.if_icmp .gt 7, 3) := by decide +kernel
theorem d_MA_min_5 : decode prog_15_method_69_code 5 = .ok (.iload_n 0, 1) := by decide +kernel
theorem d_MA_min_6 : decode prog_15_method_69_code 6 = .ok (.goto 4, 3) := by decide +kernel
theorem d_MA_min_9 : decode prog_15_method_69_code 9 = .ok (.iload_n 1, 1) := by decide +kernel
theorem d_MA_min_10 : decode prog_15_method_69_code 10 = .ok (.ireturn, 1) := by decide +kernel
def m_MA_min_10 (G : Nat → Nat) (s0 : Int32) (h : hp_H) : Option (Int32 × hp_H) := some (s0, h)
set_option maxRecDepth 100000 in
set_option maxHeartbeats 4000000 in
theorem j_MA_min_10 {Z : hp_Z} (s0 : Int32) (h : hp_H) : hp_J Y_MA_min Z hp_rI h 10 [] [.int s0] (m_MA_min_10 (hp_G Z)  s0 h) := by
  unfold m_MA_min_10
  exact hp_iret d_MA_min_10 rfl
def m_MA_min (G : Nat → Nat) (a0 : Int32) (a1 : Int32) (h : hp_H) : Option (Int32 × hp_H) := if a1 < a0 then (m_MA_min_10 G a1 h) else (m_MA_min_10 G a0 h)
set_option maxRecDepth 100000 in
set_option maxHeartbeats 4000000 in
theorem j_MA_min_0 {Z : hp_Z} (a0 : Int32) (a1 : Int32) (h : hp_H) : hp_J Y_MA_min Z hp_rI h 0 [(0, .int a0), (1, .int a1)] [] (m_MA_min (hp_G Z)  a0 a1 h) := by
  unfold m_MA_min
  refine hp_iload_n (x0 := 0) d_MA_min_0 rfl rfl ?_
  refine hp_iload_n (x0 := 1) d_MA_min_1 rfl rfl ?_
  refine hp_icmp_gt (tgt := 9) d_MA_min_2 (by decide) ?_ ?_
  · refine hp_iload_n (x0 := 1) d_MA_min_9 rfl rfl ?_
    refine hp_sub [] rfl ?_
    exact j_MA_min_10  _ _
  · refine hp_iload_n (x0 := 0) d_MA_min_5 rfl rfl ?_
    refine hp_goto (tgt := 10) d_MA_min_6 (by decide) ?_
    refine hp_sub [] rfl ?_
    exact j_MA_min_10  _ _
theorem t_MA_min (l : Launch) (E : hp_E) (a0 : Int32) (a1 : Int32) : hp_M l E y_MA_min Y_MA_min hp_rI [.int a0, .int a1] (m_MA_min E.2.2.1 a0 a1) := hp_M.of (by decide +kernel) ⟨rfl, rfl⟩ (Nat.le_of_ble_eq_true rfl) (fun Z h hE => by subst hE; exact j_MA_min_0 _ _ h)
-- R_clear
theorem d_R_clear_0 : decode prog_5_method_2_code 0 = .ok (.aload_n 0, 1) := by decide +kernel
theorem d_R_clear_1 : decode prog_5_method_2_code 1 = .ok (.iconst 0, 1) := by decide +kernel
theorem d_R_clear_2 : decode prog_5_method_2_code 2 = .ok (.putfield 15, 3) := by decide +kernel
theorem d_R_clear_5 : decode prog_5_method_2_code 5 = .ok (.aload_n 0, 1) := by decide +kernel
theorem d_R_clear_6 : decode prog_5_method_2_code 6 = .ok (.iconst 0, 1) := by decide +kernel
theorem d_R_clear_7 : decode prog_5_method_2_code 7 = .ok (.putfield 19, 3) := by decide +kernel
theorem d_R_clear_10 : decode prog_5_method_2_code 10 = .ok (.return_, 1) := by decide +kernel
def m_R_clear (G : Nat → Nat) (a0 : Nat) (h : hp_H) : Option (Unit × hp_H) := (hp_p h a0 4 1 (.int (0 : Int32))).bind fun h1 => (hp_pZ h1 a0 4 2 (0 : Int32)).bind fun h2 => some ((), h2)
set_option maxRecDepth 100000 in
set_option maxHeartbeats 4000000 in
theorem j_R_clear_0 {Z : hp_Z} (a0 : Nat) (h : hp_H) : hp_J Y_R_clear Z hp_rV h 0 [(0, .ref a0)] [] (m_R_clear (hp_G Z)  a0 h) := by
  unfold m_R_clear
  refine hp_aload_n (x0 := 0) d_R_clear_0 rfl rfl ?_
  refine hp_iconst (v := 0) d_R_clear_1 (by decide) ?_
  refine hp_put fl_R_15 (fun q => by cases q) rfl rfl d_R_clear_2 fun h1 => ?_
  refine hp_aload_n (x0 := 0) d_R_clear_5 rfl rfl ?_
  refine hp_iconst (v := 0) d_R_clear_6 (by decide) ?_
  refine hp_putZ fl_R_19 (fun q => by cases q) d_R_clear_7 fun h2 => ?_
  exact hp_vret d_R_clear_10 rfl
theorem t_R_clear (l : Launch) (E : hp_E) (a0 : Nat) : hp_M l E y_R_clear Y_R_clear hp_rV [.ref a0] (m_R_clear E.2.2.1 a0) := hp_M.of (by decide +kernel) ⟨rfl, rfl⟩ (Nat.le_of_ble_eq_true rfl) (fun Z h hE => by subst hE; exact j_R_clear_0 _ h)
-- IN_compare
theorem d_IN_compare_0 : decode prog_12_method_40_code 0 = .ok (.iload_n 0, 1) := by decide +kernel
theorem d_IN_compare_1 : decode prog_12_method_40_code 1 = .ok (.iload_n 1, 1) := by decide +kernel
theorem d_IN_compare_2 : decode prog_12_method_40_code 2 = .ok (.if_icmp .ge 7, 3) := by decide +kernel
theorem d_IN_compare_5 : decode prog_12_method_40_code 5 = .ok (.iconst (-1), 1) := by decide +kernel
theorem d_IN_compare_6 : decode prog_12_method_40_code 6 = .ok (.goto 13, 3) := by decide +kernel
theorem d_IN_compare_9 : decode prog_12_method_40_code 9 = .ok (.iload_n 0, 1) := by decide +kernel
theorem d_IN_compare_10 : decode prog_12_method_40_code 10 = .ok (.iload_n 1, 1) := by decide +kernel
theorem d_IN_compare_11 : decode prog_12_method_40_code 11 = .ok (.if_icmp .ne 7, 3) := by decide +kernel
theorem d_IN_compare_14 : decode prog_12_method_40_code 14 = .ok (.iconst 0, 1) := by decide +kernel
theorem d_IN_compare_15 : decode prog_12_method_40_code 15 = .ok (.goto 4, 3) := by decide +kernel
theorem d_IN_compare_18 : decode prog_12_method_40_code 18 = .ok (.iconst 1, 1) := by decide +kernel
theorem d_IN_compare_19 : decode prog_12_method_40_code 19 = .ok (.ireturn, 1) := by decide +kernel
def m_IN_compare_19 (G : Nat → Nat) (s0 : Int32) (h : hp_H) : Option (Int32 × hp_H) := some (s0, h)
set_option maxRecDepth 100000 in
set_option maxHeartbeats 4000000 in
theorem j_IN_compare_19 {Z : hp_Z} (s0 : Int32) (h : hp_H) : hp_J Y_IN_compare Z hp_rI h 19 [] [.int s0] (m_IN_compare_19 (hp_G Z)  s0 h) := by
  unfold m_IN_compare_19
  exact hp_iret d_IN_compare_19 rfl
def m_IN_compare (G : Nat → Nat) (a0 : Int32) (a1 : Int32) (h : hp_H) : Option (Int32 × hp_H) := if a1 ≤ a0 then (if a0 = a1 then (m_IN_compare_19 G (0 : Int32) h) else (m_IN_compare_19 G (1 : Int32) h)) else (m_IN_compare_19 G (-1 : Int32) h)
set_option maxRecDepth 100000 in
set_option maxHeartbeats 4000000 in
theorem j_IN_compare_0 {Z : hp_Z} (a0 : Int32) (a1 : Int32) (h : hp_H) : hp_J Y_IN_compare Z hp_rI h 0 [(0, .int a0), (1, .int a1)] [] (m_IN_compare (hp_G Z)  a0 a1 h) := by
  unfold m_IN_compare
  refine hp_iload_n (x0 := 0) d_IN_compare_0 rfl rfl ?_
  refine hp_iload_n (x0 := 1) d_IN_compare_1 rfl rfl ?_
  refine hp_icmp_ge (tgt := 9) d_IN_compare_2 (by decide) ?_ ?_
  · refine hp_iload_n (x0 := 0) d_IN_compare_9 rfl rfl ?_
    refine hp_iload_n (x0 := 1) d_IN_compare_10 rfl rfl ?_
    refine hp_icmp_ne (tgt := 18) d_IN_compare_11 (by decide) ?_ ?_
    · refine hp_iconst (v := 0) d_IN_compare_14 (by decide) ?_
      refine hp_goto (tgt := 19) d_IN_compare_15 (by decide) ?_
      refine hp_sub [] rfl ?_
      exact j_IN_compare_19  _ _
    · refine hp_iconst (v := 1) d_IN_compare_18 (by decide) ?_
      refine hp_sub [] rfl ?_
      exact j_IN_compare_19  _ _
  · refine hp_iconst (v := -1) d_IN_compare_5 (by decide) ?_
    refine hp_goto (tgt := 19) d_IN_compare_6 (by decide) ?_
    refine hp_sub [] rfl ?_
    exact j_IN_compare_19  _ _
theorem t_IN_compare (l : Launch) (E : hp_E) (a0 : Int32) (a1 : Int32) : hp_M l E y_IN_compare Y_IN_compare hp_rI [.int a0, .int a1] (m_IN_compare E.2.2.1 a0 a1) := hp_M.of (by decide +kernel) ⟨rfl, rfl⟩ (Nat.le_of_ble_eq_true rfl) (fun Z h hE => by subst hE; exact j_IN_compare_0 _ _ h)
-- MA_floorDiv
theorem d_MA_floorDiv_0 : decode prog_15_method_49_code 0 = .ok (.lload_n 0, 1) := by decide +kernel
theorem d_MA_floorDiv_1 : decode prog_15_method_49_code 1 = .ok (.lload_n 2, 1) := by decide +kernel
theorem d_MA_floorDiv_2 : decode prog_15_method_49_code 2 = .ok (.ldiv, 1) := by decide +kernel
theorem d_MA_floorDiv_3 : decode prog_15_method_49_code 3 = .ok (.lstore 4, 2) := by decide +kernel
theorem d_MA_floorDiv_5 : decode prog_15_method_49_code 5 = .ok (.lload_n 0, 1) := by decide +kernel
theorem d_MA_floorDiv_6 : decode prog_15_method_49_code 6 = .ok (.lload_n 2, 1) := by decide +kernel
theorem d_MA_floorDiv_7 : decode prog_15_method_49_code 7 = .ok (.lxor, 1) := by decide +kernel
theorem d_MA_floorDiv_8 : decode prog_15_method_49_code 8 = .ok (.lconst 0, 1) := by decide +kernel
theorem d_MA_floorDiv_9 : decode prog_15_method_49_code 9 = .ok (.lcmp, 1) := by decide +kernel
theorem d_MA_floorDiv_10 : decode prog_15_method_49_code 10 = .ok (.ifCond .ge 17, 3) := by decide +kernel
theorem d_MA_floorDiv_13 : decode prog_15_method_49_code 13 = .ok (.lload 4, 2) := by decide +kernel
theorem d_MA_floorDiv_15 : decode prog_15_method_49_code 15 = .ok (.lload_n 2, 1) := by decide +kernel
theorem d_MA_floorDiv_16 : decode prog_15_method_49_code 16 = .ok (.lmul, 1) := by decide +kernel
theorem d_MA_floorDiv_17 : decode prog_15_method_49_code 17 = .ok (.lload_n 0, 1) := by decide +kernel
theorem d_MA_floorDiv_18 : decode prog_15_method_49_code 18 = .ok (.lcmp, 1) := by decide +kernel
theorem d_MA_floorDiv_19 : decode prog_15_method_49_code 19 = .ok (.ifCond .eq 8, 3) := by decide +kernel
theorem d_MA_floorDiv_22 : decode prog_15_method_49_code 22 = .ok (.lload 4, 2) := by decide +kernel
theorem d_MA_floorDiv_24 : decode prog_15_method_49_code 24 = .ok (.lconst 1, 1) := by decide +kernel
theorem d_MA_floorDiv_25 : decode prog_15_method_49_code 25 = .ok (.lsub, 1) := by decide +kernel
theorem d_MA_floorDiv_26 : decode prog_15_method_49_code 26 = .ok (.lreturn, 1) := by decide +kernel
theorem d_MA_floorDiv_27 : decode prog_15_method_49_code 27 = .ok (.lload 4, 2) := by decide +kernel
theorem d_MA_floorDiv_29 : decode prog_15_method_49_code 29 = .ok (.lreturn, 1) := by decide +kernel
def m_MA_floorDiv_27 (G : Nat → Nat) (a4 : Int64) (h : hp_H) : Option (Int64 × hp_H) := some (a4, h)
set_option maxRecDepth 100000 in
set_option maxHeartbeats 4000000 in
theorem j_MA_floorDiv_27 {Z : hp_Z} (a4 : Int64) (h : hp_H) : hp_J Y_MA_floorDiv Z hp_rL h 27 [(4, .long a4)] [] (m_MA_floorDiv_27 (hp_G Z)  a4 h) := by
  unfold m_MA_floorDiv_27
  refine hp_lload (x0 := 0) d_MA_floorDiv_27 rfl ?_
  exact hp_lret d_MA_floorDiv_29 rfl
def m_MA_floorDiv (G : Nat → Nat) (a0 : Int64) (a2 : Int64) (h : hp_H) : Option (Int64 × hp_H) := (hp_dL a0 a2).bind fun x1 => hp_nm x1 fun x2 => if 0 ≤ (lg_cmp (a0 ^^^ a2) (0 : Int64)) then (m_MA_floorDiv_27 G x2 h) else (if (lg_cmp (x2 * a2) a0) = 0 then (m_MA_floorDiv_27 G x2 h) else (some (x2 - (1 : Int64), h)))
set_option maxRecDepth 100000 in
set_option maxHeartbeats 4000000 in
theorem j_MA_floorDiv_0 {Z : hp_Z} (a0 : Int64) (a2 : Int64) (h : hp_H) : hp_J Y_MA_floorDiv Z hp_rL h 0 [(0, .long a0), (2, .long a2)] [] (m_MA_floorDiv (hp_G Z)  a0 a2 h) := by
  unfold m_MA_floorDiv
  refine hp_lload_n (x0 := 0) d_MA_floorDiv_0 rfl rfl ?_
  refine hp_lload_n (x0 := 1) d_MA_floorDiv_1 rfl rfl ?_
  refine hp_ldiv d_MA_floorDiv_2 fun x1 => ?_
  refine hp_lstore (fun x2 => [(4, .long x2), (0, .long a0), (2, .long a2)]) d_MA_floorDiv_3 (by decide) (fun _ => rfl) fun x2 => ?_
  refine hp_lload_n (x0 := 1) d_MA_floorDiv_5 rfl rfl ?_
  refine hp_lload_n (x0 := 2) d_MA_floorDiv_6 rfl rfl ?_
  refine hp_lxor d_MA_floorDiv_7 ?_
  refine hp_lconst (v := 0) d_MA_floorDiv_8 (by decide) ?_
  refine hp_lcmp d_MA_floorDiv_9 ?_
  refine hp_if_ge (tgt := 27) d_MA_floorDiv_10 (by decide) ?_ ?_
  · refine hp_sub [0] rfl ?_
    exact j_MA_floorDiv_27  _ _
  · refine hp_lload (x0 := 0) d_MA_floorDiv_13 rfl ?_
    refine hp_lload_n (x0 := 2) d_MA_floorDiv_15 rfl rfl ?_
    refine hp_lmul d_MA_floorDiv_16 ?_
    refine hp_lload_n (x0 := 1) d_MA_floorDiv_17 rfl rfl ?_
    refine hp_lcmp d_MA_floorDiv_18 ?_
    refine hp_if_eq (tgt := 27) d_MA_floorDiv_19 (by decide) ?_ ?_
    · refine hp_sub [0] rfl ?_
      exact j_MA_floorDiv_27  _ _
    · refine hp_lload (x0 := 0) d_MA_floorDiv_22 rfl ?_
      refine hp_lconst (v := 1) d_MA_floorDiv_24 (by decide) ?_
      refine hp_lsub d_MA_floorDiv_25 ?_
      exact hp_lret d_MA_floorDiv_26 rfl
theorem t_MA_floorDiv (l : Launch) (E : hp_E) (a0 : Int64) (a2 : Int64) : hp_M l E y_MA_floorDiv Y_MA_floorDiv hp_rL [.long a0, .long a2] (m_MA_floorDiv E.2.2.1 a0 a2) := hp_M.of (by decide +kernel) ⟨rfl, rfl⟩ (Nat.le_of_ble_eq_true rfl) (fun Z h hE => by subst hE; exact j_MA_floorDiv_0 _ _ h)
-- V_isNumber
theorem d_V_isNumber_0 : decode prog_7_method_2_code 0 = .ok (.aload_n 0, 1) := by decide +kernel
theorem d_V_isNumber_1 : decode prog_7_method_2_code 1 = .ok (.getfield 9, 3) := by decide +kernel
theorem d_V_isNumber_4 : decode prog_7_method_2_code 4 = .ok (.iconst 3, 1) := by decide +kernel
theorem d_V_isNumber_5 : decode prog_7_method_2_code 5 = .ok (.if_icmp .eq 11, 3) := by decide +kernel
theorem d_V_isNumber_8 : decode prog_7_method_2_code 8 = .ok (.aload_n 0, 1) := by decide +kernel
theorem d_V_isNumber_9 : decode prog_7_method_2_code 9 = .ok (.getfield 9, 3) := by decide +kernel
theorem d_V_isNumber_12 : decode prog_7_method_2_code 12 = .ok (.iconst 4, 1) := by decide +kernel
theorem d_V_isNumber_13 : decode prog_7_method_2_code 13 = .ok (.if_icmp .ne 7, 3) := by decide +kernel
theorem d_V_isNumber_16 : decode prog_7_method_2_code 16 = .ok (.iconst 1, 1) := by decide +kernel
theorem d_V_isNumber_17 : decode prog_7_method_2_code 17 = .ok (.goto 4, 3) := by decide +kernel
theorem d_V_isNumber_20 : decode prog_7_method_2_code 20 = .ok (.iconst 0, 1) := by decide +kernel
theorem d_V_isNumber_21 : decode prog_7_method_2_code 21 = .ok (.ireturn, 1) := by decide +kernel
def m_V_isNumber_21 (G : Nat → Nat) (s0 : Int32) (h : hp_H) : Option (Int32 × hp_H) := hp_z s0 h
set_option maxRecDepth 100000 in
set_option maxHeartbeats 4000000 in
theorem j_V_isNumber_21 {Z : hp_Z} (s0 : Int32) (h : hp_H) : hp_J Y_V_isNumber Z hp_rI h 21 [] [.int s0] (m_V_isNumber_21 (hp_G Z)  s0 h) := by
  unfold m_V_isNumber_21
  exact hp_zret d_V_isNumber_21 rfl
def m_V_isNumber_16 (G : Nat → Nat) (h : hp_H) : Option (Int32 × hp_H) := m_V_isNumber_21 G (1 : Int32) h
set_option maxRecDepth 100000 in
set_option maxHeartbeats 4000000 in
theorem j_V_isNumber_16 {Z : hp_Z} (h : hp_H) : hp_J Y_V_isNumber Z hp_rI h 16 [] [] (m_V_isNumber_16 (hp_G Z)   h) := by
  unfold m_V_isNumber_16
  refine hp_iconst (v := 1) d_V_isNumber_16 (by decide) ?_
  refine hp_goto (tgt := 21) d_V_isNumber_17 (by decide) ?_
  exact j_V_isNumber_21  _ _
def m_V_isNumber (G : Nat → Nat) (a0 : Nat) (h : hp_H) : Option (Int32 × hp_H) := (hp_gI h a0 3 0).bind fun x1 => if x1 = (3 : Int32) then (m_V_isNumber_16 G h) else ((hp_gI h a0 3 0).bind fun x2 => if x2 = (4 : Int32) then (m_V_isNumber_16 G h) else (m_V_isNumber_21 G (0 : Int32) h))
set_option maxRecDepth 100000 in
set_option maxHeartbeats 4000000 in
theorem j_V_isNumber_0 {Z : hp_Z} (a0 : Nat) (h : hp_H) : hp_J Y_V_isNumber Z hp_rI h 0 [(0, .ref a0)] [] (m_V_isNumber (hp_G Z)  a0 h) := by
  unfold m_V_isNumber
  refine hp_aload_n (x0 := 0) d_V_isNumber_0 rfl rfl ?_
  refine hp_getI fl_V_9 d_V_isNumber_1 fun x1 => ?_
  refine hp_iconst (v := 3) d_V_isNumber_4 (by decide) ?_
  refine hp_icmp_eq (tgt := 16) d_V_isNumber_5 (by decide) ?_ ?_
  · refine hp_sub [] rfl ?_
    exact j_V_isNumber_16   _
  · refine hp_aload_n (x0 := 0) d_V_isNumber_8 rfl rfl ?_
    refine hp_getI fl_V_9 d_V_isNumber_9 fun x2 => ?_
    refine hp_iconst (v := 4) d_V_isNumber_12 (by decide) ?_
    refine hp_icmp_ne (tgt := 20) d_V_isNumber_13 (by decide) ?_ ?_
    · refine hp_sub [] rfl ?_
      exact j_V_isNumber_16   _
    · refine hp_iconst (v := 0) d_V_isNumber_20 (by decide) ?_
      refine hp_sub [] rfl ?_
      exact j_V_isNumber_21  _ _
theorem t_V_isNumber (l : Launch) (E : hp_E) (a0 : Nat) : hp_M l E y_V_isNumber Y_V_isNumber hp_rI [.ref a0] (m_V_isNumber E.2.2.1 a0) := hp_M.of (by decide +kernel) ⟨rfl, rfl⟩ (Nat.le_of_ble_eq_true rfl) (fun Z h hE => by subst hE; exact j_V_isNumber_0 _ h)
-- MA_abs
theorem d_MA_abs_0 : decode prog_15_method_61_code 0 = .ok (.lload_n 0, 1) := by decide +kernel
theorem d_MA_abs_1 : decode prog_15_method_61_code 1 = .ok (.lconst 0, 1) := by decide +kernel
theorem d_MA_abs_2 : decode prog_15_method_61_code 2 = .ok (.lcmp, 1) := by decide +kernel
theorem d_MA_abs_3 : decode prog_15_method_61_code 3 = .ok (.ifCond .ge 8, 3) := by decide +kernel
theorem d_MA_abs_6 : decode prog_15_method_61_code 6 = .ok (.lload_n 0, 1) := by decide +kernel
theorem d_MA_abs_7 : decode prog_15_method_61_code 7 = .ok (.lneg, 1) := by decide +kernel
theorem d_MA_abs_8 : decode prog_15_method_61_code 8 = .ok (.goto 4, 3) := by decide +kernel
theorem d_MA_abs_11 : decode prog_15_method_61_code 11 = .ok (.lload_n 0, 1) := by decide +kernel
theorem d_MA_abs_12 : decode prog_15_method_61_code 12 = .ok (.lreturn, 1) := by decide +kernel
def m_MA_abs_12 (G : Nat → Nat) (s0 : Int64) (h : hp_H) : Option (Int64 × hp_H) := some (s0, h)
set_option maxRecDepth 100000 in
set_option maxHeartbeats 4000000 in
theorem j_MA_abs_12 {Z : hp_Z} (s0 : Int64) (h : hp_H) : hp_J Y_MA_abs Z hp_rL h 12 [] [.long s0] (m_MA_abs_12 (hp_G Z)  s0 h) := by
  unfold m_MA_abs_12
  exact hp_lret d_MA_abs_12 rfl
def m_MA_abs (G : Nat → Nat) (a0 : Int64) (h : hp_H) : Option (Int64 × hp_H) := if 0 ≤ (lg_cmp a0 (0 : Int64)) then (m_MA_abs_12 G a0 h) else (m_MA_abs_12 G (-a0) h)
set_option maxRecDepth 100000 in
set_option maxHeartbeats 4000000 in
theorem j_MA_abs_0 {Z : hp_Z} (a0 : Int64) (h : hp_H) : hp_J Y_MA_abs Z hp_rL h 0 [(0, .long a0)] [] (m_MA_abs (hp_G Z)  a0 h) := by
  unfold m_MA_abs
  refine hp_lload_n (x0 := 0) d_MA_abs_0 rfl rfl ?_
  refine hp_lconst (v := 0) d_MA_abs_1 (by decide) ?_
  refine hp_lcmp d_MA_abs_2 ?_
  refine hp_if_ge (tgt := 11) d_MA_abs_3 (by decide) ?_ ?_
  · refine hp_lload_n (x0 := 0) d_MA_abs_11 rfl rfl ?_
    refine hp_sub [] rfl ?_
    exact j_MA_abs_12  _ _
  · refine hp_lload_n (x0 := 0) d_MA_abs_6 rfl rfl ?_
    refine hp_lneg d_MA_abs_7 ?_
    refine hp_goto (tgt := 12) d_MA_abs_8 (by decide) ?_
    refine hp_sub [] rfl ?_
    exact j_MA_abs_12  _ _
theorem t_MA_abs (l : Launch) (E : hp_E) (a0 : Int64) : hp_M l E y_MA_abs Y_MA_abs hp_rL [.long a0] (m_MA_abs E.2.2.1 a0) := hp_M.of (by decide +kernel) ⟨rfl, rfl⟩ (Nat.le_of_ble_eq_true rfl) (fun Z h hE => by subst hE; exact j_MA_abs_0 _ h)
-- M_clear
theorem d_M_clear_0 : decode prog_9_method_6_code 0 = .ok (.iconst 0, 1) := by decide +kernel
theorem d_M_clear_1 : decode prog_9_method_6_code 1 = .ok (.istore_n 1, 1) := by decide +kernel
theorem d_M_clear_2 : decode prog_9_method_6_code 2 = .ok (.iload_n 1, 1) := by decide +kernel
theorem d_M_clear_3 : decode prog_9_method_6_code 3 = .ok (.bipush 64, 2) := by decide +kernel
theorem d_M_clear_5 : decode prog_9_method_6_code 5 = .ok (.if_icmp .ge 13, 3) := by decide +kernel
theorem d_M_clear_8 : decode prog_9_method_6_code 8 = .ok (.aload_n 0, 1) := by decide +kernel
theorem d_M_clear_9 : decode prog_9_method_6_code 9 = .ok (.iload_n 1, 1) := by decide +kernel
theorem d_M_clear_10 : decode prog_9_method_6_code 10 = .ok (.iconst 0, 1) := by decide +kernel
theorem d_M_clear_11 : decode prog_9_method_6_code 11 = .ok (.iastore, 1) := by decide +kernel
theorem d_M_clear_12 : decode prog_9_method_6_code 12 = .ok (.iinc 1 1, 3) := by decide +kernel
theorem d_M_clear_15 : decode prog_9_method_6_code 15 = .ok (.goto (-13), 3) := by decide +kernel
theorem d_M_clear_18 : decode prog_9_method_6_code 18 = .ok (.return_, 1) := by decide +kernel
def m_M_clear_2 (G : Nat → Nat) : Nat → Nat → Int32 → hp_H → Option (Unit × hp_H)
  | 0, _, _, _ => none
  | n + 1, a0, a1, h => if (64 : Int32) ≤ a1 then (some ((), h)) else ((hp_sI h .int a0 a1 (0 : Int32)).bind fun h1 => hp_nm (a1 + 1) fun x2 => (m_M_clear_2 G  n) a0 x2 h1)
set_option maxRecDepth 100000 in
set_option maxHeartbeats 4000000 in
theorem j_M_clear_2 {Z : hp_Z} : ∀ (n : Nat) (a0 : Nat) (a1 : Int32) (h : hp_H), hp_J Y_M_clear Z hp_rV h 2 [(0, .ref a0), (1, .int a1)] [] (m_M_clear_2 (hp_G Z)  n a0 a1 h) := by
  intro n
  induction n with
  | zero => intro a0 a1 h; exact hp_fail
  | succ n ih =>
    intro a0 a1 h
    rw [m_M_clear_2]
    refine hp_iload_n (x0 := 1) d_M_clear_2 rfl rfl ?_
    refine hp_bipush (v := 64) d_M_clear_3 (by decide) ?_
    refine hp_icmp_ge (tgt := 18) d_M_clear_5 (by decide) ?_ ?_
    · exact hp_vret d_M_clear_18 rfl
    · refine hp_aload_n (x0 := 0) d_M_clear_8 rfl rfl ?_
      refine hp_iload_n (x0 := 1) d_M_clear_9 rfl rfl ?_
      refine hp_iconst (v := 0) d_M_clear_10 (by decide) ?_
      refine hp_iast d_M_clear_11 fun h1 => ?_
      refine hp_iinc (x0 := 1) (d := 1) (fun x2 => [(1, .int x2), (0, .ref a0)]) d_M_clear_12 rfl (by decide) (by decide) (fun _ => rfl) fun x2 => ?_
      refine hp_goto (tgt := 2) d_M_clear_15 (by decide) ?_
      refine hp_sub [1, 0] rfl ?_
      exact ih _ _ _
def m_M_clear (G : Nat → Nat) (a0 : Nat) (h : hp_H) : Option (Unit × hp_H) := hp_nm (0 : Int32) fun x1 => m_M_clear_2 G hp_fu a0 x1 h
set_option maxRecDepth 100000 in
set_option maxHeartbeats 4000000 in
theorem j_M_clear_0 {Z : hp_Z} (a0 : Nat) (h : hp_H) : hp_J Y_M_clear Z hp_rV h 0 [(0, .ref a0)] [] (m_M_clear (hp_G Z)  a0 h) := by
  unfold m_M_clear
  refine hp_iconst (v := 0) d_M_clear_0 (by decide) ?_
  refine hp_istore_n (fun x1 => [(1, .int x1), (0, .ref a0)]) d_M_clear_1 rfl (by decide) (fun _ => rfl) fun x1 => ?_
  refine hp_sub [1, 0] rfl ?_
  exact j_M_clear_2  hp_fu _ _ _
theorem t_M_clear (l : Launch) (E : hp_E) (a0 : Nat) : hp_M l E y_M_clear Y_M_clear hp_rV [.ref a0] (m_M_clear E.2.2.1 a0) := hp_M.of (by decide +kernel) ⟨rfl, rfl⟩ (Nat.le_of_ble_eq_true rfl) (fun Z h hE => by subst hE; exact j_M_clear_0 _ h)
-- M_compare
theorem d_M_compare_0 : decode prog_9_method_8_code 0 = .ok (.bipush 63, 2) := by decide +kernel
theorem d_M_compare_2 : decode prog_9_method_8_code 2 = .ok (.istore_n 2, 1) := by decide +kernel
theorem d_M_compare_3 : decode prog_9_method_8_code 3 = .ok (.iload_n 2, 1) := by decide +kernel
theorem d_M_compare_4 : decode prog_9_method_8_code 4 = .ok (.ifCond .lt 18, 3) := by decide +kernel
theorem d_M_compare_7 : decode prog_9_method_8_code 7 = .ok (.aload_n 0, 1) := by decide +kernel
theorem d_M_compare_8 : decode prog_9_method_8_code 8 = .ok (.iload_n 2, 1) := by decide +kernel
theorem d_M_compare_9 : decode prog_9_method_8_code 9 = .ok (.iaload, 1) := by decide +kernel
theorem d_M_compare_10 : decode prog_9_method_8_code 10 = .ok (.aload_n 1, 1) := by decide +kernel
theorem d_M_compare_11 : decode prog_9_method_8_code 11 = .ok (.iload_n 2, 1) := by decide +kernel
theorem d_M_compare_12 : decode prog_9_method_8_code 12 = .ok (.iaload, 1) := by decide +kernel
theorem d_M_compare_13 : decode prog_9_method_8_code 13 = .ok (.if_icmp .ne 9, 3) := by decide +kernel
theorem d_M_compare_16 : decode prog_9_method_8_code 16 = .ok (.iinc 2 (-1), 3) := by decide +kernel
theorem d_M_compare_19 : decode prog_9_method_8_code 19 = .ok (.goto (-16), 3) := by decide +kernel
theorem d_M_compare_22 : decode prog_9_method_8_code 22 = .ok (.iload_n 2, 1) := by decide +kernel
theorem d_M_compare_23 : decode prog_9_method_8_code 23 = .ok (.ifCond .ge 7, 3) := by decide +kernel
theorem d_M_compare_26 : decode prog_9_method_8_code 26 = .ok (.iconst 0, 1) := by decide +kernel
theorem d_M_compare_27 : decode prog_9_method_8_code 27 = .ok (.goto 17, 3) := by decide +kernel
theorem d_M_compare_30 : decode prog_9_method_8_code 30 = .ok (.aload_n 0, 1) := by decide +kernel
theorem d_M_compare_31 : decode prog_9_method_8_code 31 = .ok (.iload_n 2, 1) := by decide +kernel
theorem d_M_compare_32 : decode prog_9_method_8_code 32 = .ok (.iaload, 1) := by decide +kernel
theorem d_M_compare_33 : decode prog_9_method_8_code 33 = .ok (.aload_n 1, 1) := by decide +kernel
theorem d_M_compare_34 : decode prog_9_method_8_code 34 = .ok (.iload_n 2, 1) := by decide +kernel
theorem d_M_compare_35 : decode prog_9_method_8_code 35 = .ok (.iaload, 1) := by decide +kernel
theorem d_M_compare_36 : decode prog_9_method_8_code 36 = .ok (.if_icmp .ge 7, 3) := by decide +kernel
theorem d_M_compare_39 : decode prog_9_method_8_code 39 = .ok (.iconst (-1), 1) := by decide +kernel
theorem d_M_compare_40 : decode prog_9_method_8_code 40 = .ok (.goto 4, 3) := by decide +kernel
theorem d_M_compare_43 : decode prog_9_method_8_code 43 = .ok (.iconst 1, 1) := by decide +kernel
theorem d_M_compare_44 : decode prog_9_method_8_code 44 = .ok (.ireturn, 1) := by decide +kernel
def m_M_compare_44 (G : Nat → Nat) (s0 : Int32) (h : hp_H) : Option (Int32 × hp_H) := some (s0, h)
set_option maxRecDepth 100000 in
set_option maxHeartbeats 4000000 in
theorem j_M_compare_44 {Z : hp_Z} (s0 : Int32) (h : hp_H) : hp_J Y_M_compare Z hp_rI h 44 [] [.int s0] (m_M_compare_44 (hp_G Z)  s0 h) := by
  unfold m_M_compare_44
  exact hp_iret d_M_compare_44 rfl
def m_M_compare_22 (G : Nat → Nat) (a0 : Nat) (a1 : Nat) (a2 : Int32) (h : hp_H) : Option (Int32 × hp_H) := if 0 ≤ a2 then ((hp_aI h .int a0 a2).bind fun x1 => (hp_aI h .int a1 a2).bind fun x2 => if x2 ≤ x1 then (m_M_compare_44 G (1 : Int32) h) else (m_M_compare_44 G (-1 : Int32) h)) else (m_M_compare_44 G (0 : Int32) h)
set_option maxRecDepth 100000 in
set_option maxHeartbeats 4000000 in
theorem j_M_compare_22 {Z : hp_Z} (a0 : Nat) (a1 : Nat) (a2 : Int32) (h : hp_H) : hp_J Y_M_compare Z hp_rI h 22 [(0, .ref a0), (1, .ref a1), (2, .int a2)] [] (m_M_compare_22 (hp_G Z)  a0 a1 a2 h) := by
  unfold m_M_compare_22
  refine hp_iload_n (x0 := 2) d_M_compare_22 rfl rfl ?_
  refine hp_if_ge (tgt := 30) d_M_compare_23 (by decide) ?_ ?_
  · refine hp_aload_n (x0 := 0) d_M_compare_30 rfl rfl ?_
    refine hp_iload_n (x0 := 2) d_M_compare_31 rfl rfl ?_
    refine hp_iald d_M_compare_32 fun x1 => ?_
    refine hp_aload_n (x0 := 1) d_M_compare_33 rfl rfl ?_
    refine hp_iload_n (x0 := 2) d_M_compare_34 rfl rfl ?_
    refine hp_iald d_M_compare_35 fun x2 => ?_
    refine hp_icmp_ge (tgt := 43) d_M_compare_36 (by decide) ?_ ?_
    · refine hp_iconst (v := 1) d_M_compare_43 (by decide) ?_
      refine hp_sub [] rfl ?_
      exact j_M_compare_44  _ _
    · refine hp_iconst (v := -1) d_M_compare_39 (by decide) ?_
      refine hp_goto (tgt := 44) d_M_compare_40 (by decide) ?_
      refine hp_sub [] rfl ?_
      exact j_M_compare_44  _ _
  · refine hp_iconst (v := 0) d_M_compare_26 (by decide) ?_
    refine hp_goto (tgt := 44) d_M_compare_27 (by decide) ?_
    refine hp_sub [] rfl ?_
    exact j_M_compare_44  _ _
def m_M_compare_3 (G : Nat → Nat) : Nat → Nat → Nat → Int32 → hp_H → Option (Int32 × hp_H)
  | 0, _, _, _, _ => none
  | n + 1, a0, a1, a2, h => if a2 < 0 then (m_M_compare_22 G a0 a1 a2 h) else ((hp_aI h .int a0 a2).bind fun x1 => (hp_aI h .int a1 a2).bind fun x2 => if x1 = x2 then (hp_nm (a2 + (-1)) fun x3 => (m_M_compare_3 G  n) a0 a1 x3 h) else (m_M_compare_22 G a0 a1 a2 h))
set_option maxRecDepth 100000 in
set_option maxHeartbeats 4000000 in
theorem j_M_compare_3 {Z : hp_Z} : ∀ (n : Nat) (a0 : Nat) (a1 : Nat) (a2 : Int32) (h : hp_H), hp_J Y_M_compare Z hp_rI h 3 [(0, .ref a0), (1, .ref a1), (2, .int a2)] [] (m_M_compare_3 (hp_G Z)  n a0 a1 a2 h) := by
  intro n
  induction n with
  | zero => intro a0 a1 a2 h; exact hp_fail
  | succ n ih =>
    intro a0 a1 a2 h
    rw [m_M_compare_3]
    refine hp_iload_n (x0 := 2) d_M_compare_3 rfl rfl ?_
    refine hp_if_lt (tgt := 22) d_M_compare_4 (by decide) ?_ ?_
    · exact j_M_compare_22  _ _ _ _
    · refine hp_aload_n (x0 := 0) d_M_compare_7 rfl rfl ?_
      refine hp_iload_n (x0 := 2) d_M_compare_8 rfl rfl ?_
      refine hp_iald d_M_compare_9 fun x1 => ?_
      refine hp_aload_n (x0 := 1) d_M_compare_10 rfl rfl ?_
      refine hp_iload_n (x0 := 2) d_M_compare_11 rfl rfl ?_
      refine hp_iald d_M_compare_12 fun x2 => ?_
      refine hp_icmp_ne (tgt := 22) d_M_compare_13 (by decide) ?_ ?_
      · refine hp_iinc (x0 := 2) (d := -1) (fun x3 => [(2, .int x3), (0, .ref a0), (1, .ref a1)]) d_M_compare_16 rfl (by decide) (by decide) (fun _ => rfl) fun x3 => ?_
        refine hp_goto (tgt := 3) d_M_compare_19 (by decide) ?_
        refine hp_sub [1, 2, 0] rfl ?_
        exact ih _ _ _ _
      · exact j_M_compare_22  _ _ _ _
def m_M_compare (G : Nat → Nat) (a0 : Nat) (a1 : Nat) (h : hp_H) : Option (Int32 × hp_H) := hp_nm (63 : Int32) fun x1 => m_M_compare_3 G hp_fu a0 a1 x1 h
set_option maxRecDepth 100000 in
set_option maxHeartbeats 4000000 in
theorem j_M_compare_0 {Z : hp_Z} (a0 : Nat) (a1 : Nat) (h : hp_H) : hp_J Y_M_compare Z hp_rI h 0 [(0, .ref a0), (1, .ref a1)] [] (m_M_compare (hp_G Z)  a0 a1 h) := by
  unfold m_M_compare
  refine hp_bipush (v := 63) d_M_compare_0 (by decide) ?_
  refine hp_istore_n (fun x1 => [(2, .int x1), (0, .ref a0), (1, .ref a1)]) d_M_compare_2 rfl (by decide) (fun _ => rfl) fun x1 => ?_
  refine hp_sub [1, 2, 0] rfl ?_
  exact j_M_compare_3  hp_fu _ _ _ _
theorem t_M_compare (l : Launch) (E : hp_E) (a0 : Nat) (a1 : Nat) : hp_M l E y_M_compare Y_M_compare hp_rI [.ref a0, .ref a1] (m_M_compare E.2.2.1 a0 a1) := hp_M.of (by decide +kernel) ⟨rfl, rfl⟩ (Nat.le_of_ble_eq_true rfl) (fun Z h hE => by subst hE; exact j_M_compare_0 _ _ h)
