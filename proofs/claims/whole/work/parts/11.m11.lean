-- MA_floorDiv
theorem d_MA_floorDiv_0 : decode prog_15_method_49_code 0 = .ok (.lload_n 0, 1) := by decide +kernel
theorem d_MA_floorDiv_1 : decode prog_15_method_49_code 1 = .ok (.lload_n 2, 1) := by decide +kernel
theorem d_MA_floorDiv_2 : decode prog_15_method_49_code 2 = .ok (.ldiv, 1) := by decide +kernel
theorem d_MA_floorDiv_3 : decode prog_15_method_49_code 3 = .ok (.lstore 4, 2) := by decide +kernel
theorem d_MA_floorDiv_5 : decode prog_15_method_49_code 5 = .ok (.lload_n 0, 1) := by decide +kernel
theorem d_MA_floorDiv_6 : decode prog_15_method_49_code 6 = .ok (.lload_n 2, 1) := by decide +kernel
theorem d_MA_floorDiv_7 : decode prog_15_method_49_code 7 = .ok (.lxor, 1) := by decide +kernel
theorem d_MA_floorDiv_8 : decode prog_15_method_49_code 8 = .ok (.lconst 0, 1) := by decide +kernel
theorem d_MA_floorDiv_9 : decode prog_15_method_49_code 9 = .ok (.lcmp, 1) := by decide +kernel
theorem d_MA_floorDiv_10 : decode prog_15_method_49_code 10 = .ok (.ifCond .ge 17, 3) := by decide +kernel
theorem d_MA_floorDiv_13 : decode prog_15_method_49_code 13 = .ok (.lload 4, 2) := by decide +kernel
theorem d_MA_floorDiv_15 : decode prog_15_method_49_code 15 = .ok (.lload_n 2, 1) := by decide +kernel
theorem d_MA_floorDiv_16 : decode prog_15_method_49_code 16 = .ok (.lmul, 1) := by decide +kernel
theorem d_MA_floorDiv_17 : decode prog_15_method_49_code 17 = .ok (.lload_n 0, 1) := by decide +kernel
theorem d_MA_floorDiv_18 : decode prog_15_method_49_code 18 = .ok (.lcmp, 1) := by decide +kernel
theorem d_MA_floorDiv_19 : decode prog_15_method_49_code 19 = .ok (.ifCond .eq 8, 3) := by decide +kernel
theorem d_MA_floorDiv_22 : decode prog_15_method_49_code 22 = .ok (.lload 4, 2) := by decide +kernel
theorem d_MA_floorDiv_24 : decode prog_15_method_49_code 24 = .ok (.lconst 1, 1) := by decide +kernel
theorem d_MA_floorDiv_25 : decode prog_15_method_49_code 25 = .ok (.lsub, 1) := by decide +kernel
theorem d_MA_floorDiv_26 : decode prog_15_method_49_code 26 = .ok (.lreturn, 1) := by decide +kernel
theorem d_MA_floorDiv_27 : decode prog_15_method_49_code 27 = .ok (.lload 4, 2) := by decide +kernel
theorem d_MA_floorDiv_29 : decode prog_15_method_49_code 29 = .ok (.lreturn, 1) := by decide +kernel
def m_MA_floorDiv_27 (G : Nat → Nat) (a4 : Int64) (h : hp_H) : Option (Int64 × hp_H) := some (a4, h)
set_option maxRecDepth 100000 in
set_option maxHeartbeats 4000000 in
theorem j_MA_floorDiv_27 {Z : hp_Z} (a4 : Int64) (h : hp_H) : hp_J Y_MA_floorDiv Z hp_rL h 27 [(4, .long a4)] [] (m_MA_floorDiv_27 (hp_G Z)  a4 h) := by
  unfold m_MA_floorDiv_27
  refine hp_lload (x0 := 0) d_MA_floorDiv_27 rfl ?_
  exact hp_lret d_MA_floorDiv_29 rfl
def m_MA_floorDiv (G : Nat → Nat) (a0 : Int64) (a2 : Int64) (h : hp_H) : Option (Int64 × hp_H) := (hp_dL a0 a2).bind fun x1 => hp_nm x1 fun x2 => if 0 ≤ (lg_cmp (a0 ^^^ a2) (0 : Int64)) then (m_MA_floorDiv_27 G x2 h) else (if (lg_cmp (x2 * a2) a0) = 0 then (m_MA_floorDiv_27 G x2 h) else (some (x2 - (1 : Int64), h)))
set_option maxRecDepth 100000 in
set_option maxHeartbeats 4000000 in
theorem j_MA_floorDiv_0 {Z : hp_Z} (a0 : Int64) (a2 : Int64) (h : hp_H) : hp_J Y_MA_floorDiv Z hp_rL h 0 [(0, .long a0), (2, .long a2)] [] (m_MA_floorDiv (hp_G Z)  a0 a2 h) := by
  unfold m_MA_floorDiv
  refine hp_lload_n (x0 := 0) d_MA_floorDiv_0 rfl rfl ?_
  refine hp_lload_n (x0 := 1) d_MA_floorDiv_1 rfl rfl ?_
  refine hp_ldiv d_MA_floorDiv_2 fun x1 => ?_
  refine hp_lstore (fun x2 => [(4, .long x2), (0, .long a0), (2, .long a2)]) d_MA_floorDiv_3 (by decide) (fun _ => rfl) fun x2 => ?_
  refine hp_lload_n (x0 := 1) d_MA_floorDiv_5 rfl rfl ?_
  refine hp_lload_n (x0 := 2) d_MA_floorDiv_6 rfl rfl ?_
  refine hp_lxor d_MA_floorDiv_7 ?_
  refine hp_lconst (v := 0) d_MA_floorDiv_8 (by decide) ?_
  refine hp_lcmp d_MA_floorDiv_9 ?_
  refine hp_if_ge (tgt := 27) d_MA_floorDiv_10 (by decide) ?_ ?_
  · refine hp_sub [0] rfl ?_
    exact j_MA_floorDiv_27  _ _
  · refine hp_lload (x0 := 0) d_MA_floorDiv_13 rfl ?_
    refine hp_lload_n (x0 := 2) d_MA_floorDiv_15 rfl rfl ?_
    refine hp_lmul d_MA_floorDiv_16 ?_
    refine hp_lload_n (x0 := 1) d_MA_floorDiv_17 rfl rfl ?_
    refine hp_lcmp d_MA_floorDiv_18 ?_
    refine hp_if_eq (tgt := 27) d_MA_floorDiv_19 (by decide) ?_ ?_
    · refine hp_sub [0] rfl ?_
      exact j_MA_floorDiv_27  _ _
    · refine hp_lload (x0 := 0) d_MA_floorDiv_22 rfl ?_
      refine hp_lconst (v := 1) d_MA_floorDiv_24 (by decide) ?_
      refine hp_lsub d_MA_floorDiv_25 ?_
      exact hp_lret d_MA_floorDiv_26 rfl
theorem t_MA_floorDiv (l : Launch) (E : hp_E) (a0 : Int64) (a2 : Int64) : hp_M l E y_MA_floorDiv Y_MA_floorDiv hp_rL [.long a0, .long a2] (m_MA_floorDiv E.2.2.1 a0 a2) := hp_M.of (by decide +kernel) ⟨rfl, rfl⟩ (Nat.le_of_ble_eq_true rfl) (fun Z h hE => by subst hE; exact j_MA_floorDiv_0 _ _ h)
-- V_comparedByAmount
theorem d_V_comparedByAmount_0 : decode prog_7_method_6_code 0 = .ok (.aload_n 0, 1) := by decide +kernel
theorem d_V_comparedByAmount_1 : decode prog_7_method_6_code 1 = .ok (.getfield 18, 3) := by decide +kernel
theorem d_V_comparedByAmount_4 : decode prog_7_method_6_code 4 = .ok (.aload_n 0, 1) := by decide +kernel
theorem d_V_comparedByAmount_5 : decode prog_7_method_6_code 5 = .ok (.getfield 22, 3) := by decide +kernel
theorem d_V_comparedByAmount_8 : decode prog_7_method_6_code 8 = .ok (.invokestatic 49, 3) := by decide +kernel
theorem d_V_comparedByAmount_11 : decode prog_7_method_6_code 11 = .ok (.invokestatic 53, 3) := by decide +kernel
theorem d_V_comparedByAmount_14 : decode prog_7_method_6_code 14 = .ok (.aload_n 1, 1) := by decide +kernel
theorem d_V_comparedByAmount_15 : decode prog_7_method_6_code 15 = .ok (.getfield 18, 3) := by decide +kernel
theorem d_V_comparedByAmount_18 : decode prog_7_method_6_code 18 = .ok (.aload_n 1, 1) := by decide +kernel
theorem d_V_comparedByAmount_19 : decode prog_7_method_6_code 19 = .ok (.getfield 22, 3) := by decide +kernel
theorem d_V_comparedByAmount_22 : decode prog_7_method_6_code 22 = .ok (.invokestatic 49, 3) := by decide +kernel
theorem d_V_comparedByAmount_25 : decode prog_7_method_6_code 25 = .ok (.invokestatic 53, 3) := by decide +kernel
theorem d_V_comparedByAmount_28 : decode prog_7_method_6_code 28 = .ok (.invokestatic 59, 3) := by decide +kernel
theorem d_V_comparedByAmount_31 : decode prog_7_method_6_code 31 = .ok (.istore_n 2, 1) := by decide +kernel
theorem d_V_comparedByAmount_32 : decode prog_7_method_6_code 32 = .ok (.iload_n 2, 1) := by decide +kernel
theorem d_V_comparedByAmount_33 : decode prog_7_method_6_code 33 = .ok (.ifCond .eq 7, 3) := by decide +kernel
theorem d_V_comparedByAmount_36 : decode prog_7_method_6_code 36 = .ok (.iload_n 2, 1) := by decide +kernel
theorem d_V_comparedByAmount_37 : decode prog_7_method_6_code 37 = .ok (.goto 28, 3) := by decide +kernel
theorem d_V_comparedByAmount_40 : decode prog_7_method_6_code 40 = .ok (.aload_n 0, 1) := by decide +kernel
theorem d_V_comparedByAmount_41 : decode prog_7_method_6_code 41 = .ok (.getfield 18, 3) := by decide +kernel
theorem d_V_comparedByAmount_44 : decode prog_7_method_6_code 44 = .ok (.aload_n 0, 1) := by decide +kernel
theorem d_V_comparedByAmount_45 : decode prog_7_method_6_code 45 = .ok (.getfield 22, 3) := by decide +kernel
theorem d_V_comparedByAmount_48 : decode prog_7_method_6_code 48 = .ok (.invokestatic 64, 3) := by decide +kernel
theorem d_V_comparedByAmount_51 : decode prog_7_method_6_code 51 = .ok (.aload_n 1, 1) := by decide +kernel
theorem d_V_comparedByAmount_52 : decode prog_7_method_6_code 52 = .ok (.getfield 18, 3) := by decide +kernel
theorem d_V_comparedByAmount_55 : decode prog_7_method_6_code 55 = .ok (.aload_n 1, 1) := by decide +kernel
theorem d_V_comparedByAmount_56 : decode prog_7_method_6_code 56 = .ok (.getfield 22, 3) := by decide +kernel
theorem d_V_comparedByAmount_59 : decode prog_7_method_6_code 59 = .ok (.invokestatic 64, 3) := by decide +kernel
theorem d_V_comparedByAmount_62 : decode prog_7_method_6_code 62 = .ok (.invokestatic 59, 3) := by decide +kernel
theorem d_V_comparedByAmount_65 : decode prog_7_method_6_code 65 = .ok (.ireturn, 1) := by decide +kernel
def m_V_comparedByAmount_65 (G : Nat → Nat) (s0 : Int32) (h : hp_H) : Option (Int32 × hp_H) := some (s0, h)
set_option maxRecDepth 100000 in
set_option maxHeartbeats 4000000 in
theorem j_V_comparedByAmount_65 {Z : hp_Z} (s0 : Int32) (h : hp_H) : hp_J Y_V_comparedByAmount Z hp_rI h 65 [] [.int s0] (m_V_comparedByAmount_65 (hp_G Z)  s0 h) := by
  unfold m_V_comparedByAmount_65
  exact hp_iret d_V_comparedByAmount_65 rfl
def m_V_comparedByAmount (G : Nat → Nat) (a0 : Nat) (a1 : Nat) (h : hp_H) : Option (Int32 × hp_H) := (hp_gL h a0 3 2).bind fun x1 => (hp_gI h a0 3 3).bind fun x2 => (m_D_power G x2 h).bind fun q3 => (m_MA_floorDiv G x1 q3.1 q3.2).bind fun q4 => (hp_gL q4.2 a1 3 2).bind fun x5 => (hp_gI q4.2 a1 3 3).bind fun x6 => (m_D_power G x6 q4.2).bind fun q7 => (m_MA_floorDiv G x5 q7.1 q7.2).bind fun q8 => (m_LO_compare G q4.1 q8.1 q8.2).bind fun q9 => hp_nm q9.1 fun x10 => if x10 = 0 then ((hp_gL q9.2 a0 3 2).bind fun x11 => (hp_gI q9.2 a0 3 3).bind fun x12 => (m_D_billionths G x11 x12 q9.2).bind fun q13 => (hp_gL q13.2 a1 3 2).bind fun x14 => (hp_gI q13.2 a1 3 3).bind fun x15 => (m_D_billionths G x14 x15 q13.2).bind fun q16 => (m_LO_compare G q13.1 q16.1 q16.2).bind fun q17 => m_V_comparedByAmount_65 G q17.1 q17.2) else (m_V_comparedByAmount_65 G x10 q9.2)
set_option maxRecDepth 100000 in
set_option maxHeartbeats 4000000 in
theorem j_V_comparedByAmount_0 {Z : hp_Z} (a0 : Nat) (a1 : Nat) (h : hp_H) : hp_J Y_V_comparedByAmount Z hp_rI h 0 [(0, .ref a0), (1, .ref a1)] [] (m_V_comparedByAmount (hp_G Z)  a0 a1 h) := by
  unfold m_V_comparedByAmount
  refine hp_aload_n (x0 := 0) d_V_comparedByAmount_0 rfl rfl ?_
  refine hp_getL fl_V_18 d_V_comparedByAmount_1 fun x1 => ?_
  refine hp_aload_n (x0 := 0) d_V_comparedByAmount_4 rfl rfl ?_
  refine hp_getI fl_V_22 d_V_comparedByAmount_5 fun x2 => ?_
  refine hp_callL (hp_crSN (t_D_power _ _ _) cw_V_49 w_462 (by decide) rfl rfl (Nat.le_of_ble_eq_true rfl) d_V_comparedByAmount_8) fun q3 => ?_
  refine hp_callL (hp_crS (t_MA_floorDiv _ _ _ _) cw_V_53 w_467 (by decide) rfl rfl (Nat.le_of_ble_eq_true rfl) d_V_comparedByAmount_11) fun q4 => ?_
  refine hp_aload_n (x0 := 1) d_V_comparedByAmount_14 rfl rfl ?_
  refine hp_getL fl_V_18 d_V_comparedByAmount_15 fun x5 => ?_
  refine hp_aload_n (x0 := 1) d_V_comparedByAmount_18 rfl rfl ?_
  refine hp_getI fl_V_22 d_V_comparedByAmount_19 fun x6 => ?_
  refine hp_callL (hp_crSN (t_D_power _ _ _) cw_V_49 w_462 (by decide) rfl rfl (Nat.le_of_ble_eq_true rfl) d_V_comparedByAmount_22) fun q7 => ?_
  refine hp_callL (hp_crS (t_MA_floorDiv _ _ _ _) cw_V_53 w_467 (by decide) rfl rfl (Nat.le_of_ble_eq_true rfl) d_V_comparedByAmount_25) fun q8 => ?_
  refine hp_callI (hp_crS (t_LO_compare _ _ _ _) cw_V_59 w_470 (by decide) rfl rfl (Nat.le_of_ble_eq_true rfl) d_V_comparedByAmount_28) fun q9 => ?_
  refine hp_istore_n (fun x10 => [(2, .int x10), (0, .ref a0), (1, .ref a1)]) d_V_comparedByAmount_31 rfl (by decide) (fun _ => rfl) fun x10 => ?_
  refine hp_iload_n (x0 := 0) d_V_comparedByAmount_32 rfl rfl ?_
  refine hp_if_eq (tgt := 40) d_V_comparedByAmount_33 (by decide) ?_ ?_
  · refine hp_aload_n (x0 := 1) d_V_comparedByAmount_40 rfl rfl ?_
    refine hp_getL fl_V_18 d_V_comparedByAmount_41 fun x11 => ?_
    refine hp_aload_n (x0 := 1) d_V_comparedByAmount_44 rfl rfl ?_
    refine hp_getI fl_V_22 d_V_comparedByAmount_45 fun x12 => ?_
    refine hp_callL (hp_crSN (t_D_billionths _ _ _ _) cw_V_64 w_473 (by decide) rfl rfl (Nat.le_of_ble_eq_true rfl) d_V_comparedByAmount_48) fun q13 => ?_
    refine hp_aload_n (x0 := 2) d_V_comparedByAmount_51 rfl rfl ?_
    refine hp_getL fl_V_18 d_V_comparedByAmount_52 fun x14 => ?_
    refine hp_aload_n (x0 := 2) d_V_comparedByAmount_55 rfl rfl ?_
    refine hp_getI fl_V_22 d_V_comparedByAmount_56 fun x15 => ?_
    refine hp_callL (hp_crSN (t_D_billionths _ _ _ _) cw_V_64 w_473 (by decide) rfl rfl (Nat.le_of_ble_eq_true rfl) d_V_comparedByAmount_59) fun q16 => ?_
    refine hp_callI (hp_crS (t_LO_compare _ _ _ _) cw_V_59 w_470 (by decide) rfl rfl (Nat.le_of_ble_eq_true rfl) d_V_comparedByAmount_62) fun q17 => ?_
    refine hp_sub [] rfl ?_
    exact j_V_comparedByAmount_65  _ _
  · refine hp_iload_n (x0 := 0) d_V_comparedByAmount_36 rfl rfl ?_
    refine hp_goto (tgt := 65) d_V_comparedByAmount_37 (by decide) ?_
    refine hp_sub [] rfl ?_
    exact j_V_comparedByAmount_65  _ _
theorem t_V_comparedByAmount (l : Launch) (E : hp_E) (a0 : Nat) (a1 : Nat) : hp_M l E y_V_comparedByAmount Y_V_comparedByAmount hp_rI [.ref a0, .ref a1] (m_V_comparedByAmount E.2.2.1 a0 a1) := hp_M.of (by decide +kernel) ⟨rfl, rfl⟩ (Nat.le_of_ble_eq_true rfl) (fun Z h hE => by subst hE; exact j_V_comparedByAmount_0 _ _ h)
-- V_comparedByBytes
theorem d_V_comparedByBytes_0 : decode prog_7_method_7_code 0 = .ok (.iconst 0, 1) := by decide +kernel
theorem d_V_comparedByBytes_1 : decode prog_7_method_7_code 1 = .ok (.istore_n 2, 1) := by decide +kernel
theorem d_V_comparedByBytes_2 : decode prog_7_method_7_code 2 = .ok (.iload_n 2, 1) := by decide +kernel
theorem d_V_comparedByBytes_3 : decode prog_7_method_7_code 3 = .ok (.aload_n 0, 1) := by decide +kernel
theorem d_V_comparedByBytes_4 : decode prog_7_method_7_code 4 = .ok (.getfield 25, 3) := by decide +kernel
theorem d_V_comparedByBytes_7 : decode prog_7_method_7_code 7 = .ok (.arraylength, 1) := by decide +kernel
theorem d_V_comparedByBytes_8 : decode prog_7_method_7_code 8 = .ok (.if_icmp .ge 49, 3) := by decide +kernel
theorem d_V_comparedByBytes_11 : decode prog_7_method_7_code 11 = .ok (.iload_n 2, 1) := by decide +kernel
theorem d_V_comparedByBytes_12 : decode prog_7_method_7_code 12 = .ok (.aload_n 1, 1) := by decide +kernel
theorem d_V_comparedByBytes_13 : decode prog_7_method_7_code 13 = .ok (.getfield 25, 3) := by decide +kernel
theorem d_V_comparedByBytes_16 : decode prog_7_method_7_code 16 = .ok (.arraylength, 1) := by decide +kernel
theorem d_V_comparedByBytes_17 : decode prog_7_method_7_code 17 = .ok (.if_icmp .ge 40, 3) := by decide +kernel
theorem d_V_comparedByBytes_20 : decode prog_7_method_7_code 20 = .ok (.aload_n 0, 1) := by decide +kernel
theorem d_V_comparedByBytes_21 : decode prog_7_method_7_code 21 = .ok (.getfield 25, 3) := by decide +kernel
theorem d_V_comparedByBytes_24 : decode prog_7_method_7_code 24 = .ok (.iload_n 2, 1) := by decide +kernel
theorem d_V_comparedByBytes_25 : decode prog_7_method_7_code 25 = .ok (.baload, 1) := by decide +kernel
theorem d_V_comparedByBytes_26 : decode prog_7_method_7_code 26 = .ok (.aload_n 1, 1) := by decide +kernel
theorem d_V_comparedByBytes_27 : decode prog_7_method_7_code 27 = .ok (.getfield 25, 3) := by decide +kernel
theorem d_V_comparedByBytes_30 : decode prog_7_method_7_code 30 = .ok (.iload_n 2, 1) := by decide +kernel
theorem d_V_comparedByBytes_31 : decode prog_7_method_7_code 31 = .ok (.baload, 1) := by decide +kernel
theorem d_V_comparedByBytes_32 : decode prog_7_method_7_code 32 = .ok (.if_icmp .eq 19, 3) := by decide +kernel
theorem d_V_comparedByBytes_35 : decode prog_7_method_7_code 35 = .ok (.aload_n 0, 1) := by decide +kernel
theorem d_V_comparedByBytes_36 : decode prog_7_method_7_code 36 = .ok (.getfield 25, 3) := by decide +kernel
theorem d_V_comparedByBytes_39 : decode prog_7_method_7_code 39 = .ok (.iload_n 2, 1) := by decide +kernel
theorem d_V_comparedByBytes_40 : decode prog_7_method_7_code 40 = .ok (.baload, 1) := by decide +kernel
theorem d_V_comparedByBytes_41 : decode prog_7_method_7_code 41 = .ok (.aload_n 1, 1) := by decide +kernel
theorem d_V_comparedByBytes_42 : decode prog_7_method_7_code 42 = .ok (.getfield 25, 3) := by decide +kernel
theorem d_V_comparedByBytes_45 : decode prog_7_method_7_code 45 = .ok (.iload_n 2, 1) := by decide +kernel
theorem d_V_comparedByBytes_46 : decode prog_7_method_7_code 46 = .ok (.baload, 1) := by decide +kernel
theorem d_V_comparedByBytes_47 : decode prog_7_method_7_code 47 = .ok (.invokestatic 40, 3) := by decide +kernel
theorem d_V_comparedByBytes_50 : decode prog_7_method_7_code 50 = .ok (.ireturn, 1) := by decide +kernel
theorem d_V_comparedByBytes_51 : decode prog_7_method_7_code 51 = .ok (.iinc 2 1, 3) := by decide +kernel
theorem d_V_comparedByBytes_54 : decode prog_7_method_7_code 54 = .ok (.goto (-52), 3) := by decide +kernel
theorem d_V_comparedByBytes_57 : decode prog_7_method_7_code 57 = .ok (.aload_n 0, 1) := by decide +kernel
theorem d_V_comparedByBytes_58 : decode prog_7_method_7_code 58 = .ok (.getfield 25, 3) := by decide +kernel
theorem d_V_comparedByBytes_61 : decode prog_7_method_7_code 61 = .ok (.arraylength, 1) := by decide +kernel
theorem d_V_comparedByBytes_62 : decode prog_7_method_7_code 62 = .ok (.aload_n 1, 1) := by decide +kernel
theorem d_V_comparedByBytes_63 : decode prog_7_method_7_code 63 = .ok (.getfield 25, 3) := by decide +kernel
theorem d_V_comparedByBytes_66 : decode prog_7_method_7_code 66 = .ok (.arraylength, 1) := by decide +kernel
theorem d_V_comparedByBytes_67 : decode prog_7_method_7_code 67 = .ok (.invokestatic 40, 3) := by decide +kernel
theorem d_V_comparedByBytes_70 : decode prog_7_method_7_code 70 = .ok (.ireturn, 1) := by decide +kernel
def m_V_comparedByBytes_57 (G : Nat → Nat) (a0 : Nat) (a1 : Nat) (h : hp_H) : Option (Int32 × hp_H) := (hp_gR h a0 3 4).bind fun x1 => (hp_len h x1).bind fun x2 => (hp_gR h a1 3 4).bind fun x3 => (hp_len h x3).bind fun x4 => (m_IN_compare G x2 x4 h).bind fun q5 => some (q5.1, q5.2)
set_option maxRecDepth 100000 in
set_option maxHeartbeats 4000000 in
theorem j_V_comparedByBytes_57 {Z : hp_Z} (a0 : Nat) (a1 : Nat) (h : hp_H) : hp_J Y_V_comparedByBytes Z hp_rI h 57 [(0, .ref a0), (1, .ref a1)] [] (m_V_comparedByBytes_57 (hp_G Z)  a0 a1 h) := by
  unfold m_V_comparedByBytes_57
  refine hp_aload_n (x0 := 0) d_V_comparedByBytes_57 rfl rfl ?_
  refine hp_getR fl_V_25 d_V_comparedByBytes_58 fun x1 => ?_
  refine hp_alen d_V_comparedByBytes_61 fun x2 => ?_
  refine hp_aload_n (x0 := 1) d_V_comparedByBytes_62 rfl rfl ?_
  refine hp_getR fl_V_25 d_V_comparedByBytes_63 fun x3 => ?_
  refine hp_alen d_V_comparedByBytes_66 fun x4 => ?_
  refine hp_callI (hp_crS (t_IN_compare _ _ _ _) cw_V_40 w_480 (by decide) rfl rfl (Nat.le_of_ble_eq_true rfl) d_V_comparedByBytes_67) fun q5 => ?_
  exact hp_iret d_V_comparedByBytes_70 rfl
def m_V_comparedByBytes_2 (G : Nat → Nat) : Nat → Nat → Nat → Int32 → hp_H → Option (Int32 × hp_H)
  | 0, _, _, _, _ => none
  | n + 1, a0, a1, a2, h => (hp_gR h a0 3 4).bind fun x1 => (hp_len h x1).bind fun x2 => if x2 ≤ a2 then (m_V_comparedByBytes_57 G a0 a1 h) else ((hp_gR h a1 3 4).bind fun x3 => (hp_len h x3).bind fun x4 => if x4 ≤ a2 then (m_V_comparedByBytes_57 G a0 a1 h) else ((hp_gR h a0 3 4).bind fun x5 => (hp_aI h .byte x5 a2).bind fun x6 => (hp_gR h a1 3 4).bind fun x7 => (hp_aI h .byte x7 a2).bind fun x8 => if x6 = x8 then (hp_nm (a2 + 1) fun x9 => (m_V_comparedByBytes_2 G  n) a0 a1 x9 h) else ((hp_gR h a0 3 4).bind fun x10 => (hp_aI h .byte x10 a2).bind fun x11 => (hp_gR h a1 3 4).bind fun x12 => (hp_aI h .byte x12 a2).bind fun x13 => (m_IN_compare G x11 x13 h).bind fun q14 => some (q14.1, q14.2))))
set_option maxRecDepth 100000 in
set_option maxHeartbeats 4000000 in
theorem j_V_comparedByBytes_2 {Z : hp_Z} : ∀ (n : Nat) (a0 : Nat) (a1 : Nat) (a2 : Int32) (h : hp_H), hp_J Y_V_comparedByBytes Z hp_rI h 2 [(0, .ref a0), (1, .ref a1), (2, .int a2)] [] (m_V_comparedByBytes_2 (hp_G Z)  n a0 a1 a2 h) := by
  intro n
  induction n with
  | zero => intro a0 a1 a2 h; exact hp_fail
  | succ n ih =>
    intro a0 a1 a2 h
    rw [m_V_comparedByBytes_2]
    refine hp_iload_n (x0 := 2) d_V_comparedByBytes_2 rfl rfl ?_
    refine hp_aload_n (x0 := 0) d_V_comparedByBytes_3 rfl rfl ?_
    refine hp_getR fl_V_25 d_V_comparedByBytes_4 fun x1 => ?_
    refine hp_alen d_V_comparedByBytes_7 fun x2 => ?_
    refine hp_icmp_ge (tgt := 57) d_V_comparedByBytes_8 (by decide) ?_ ?_
    · refine hp_sub [0, 1] rfl ?_
      exact j_V_comparedByBytes_57  _ _ _
    · refine hp_iload_n (x0 := 2) d_V_comparedByBytes_11 rfl rfl ?_
      refine hp_aload_n (x0 := 1) d_V_comparedByBytes_12 rfl rfl ?_
      refine hp_getR fl_V_25 d_V_comparedByBytes_13 fun x3 => ?_
      refine hp_alen d_V_comparedByBytes_16 fun x4 => ?_
      refine hp_icmp_ge (tgt := 57) d_V_comparedByBytes_17 (by decide) ?_ ?_
      · refine hp_sub [0, 1] rfl ?_
        exact j_V_comparedByBytes_57  _ _ _
      · refine hp_aload_n (x0 := 0) d_V_comparedByBytes_20 rfl rfl ?_
        refine hp_getR fl_V_25 d_V_comparedByBytes_21 fun x5 => ?_
        refine hp_iload_n (x0 := 2) d_V_comparedByBytes_24 rfl rfl ?_
        refine hp_bald d_V_comparedByBytes_25 fun x6 => ?_
        refine hp_aload_n (x0 := 1) d_V_comparedByBytes_26 rfl rfl ?_
        refine hp_getR fl_V_25 d_V_comparedByBytes_27 fun x7 => ?_
        refine hp_iload_n (x0 := 2) d_V_comparedByBytes_30 rfl rfl ?_
        refine hp_bald d_V_comparedByBytes_31 fun x8 => ?_
        refine hp_icmp_eq (tgt := 51) d_V_comparedByBytes_32 (by decide) ?_ ?_
        · refine hp_iinc (x0 := 2) (d := 1) (fun x9 => [(2, .int x9), (0, .ref a0), (1, .ref a1)]) d_V_comparedByBytes_51 rfl (by decide) (by decide) (fun _ => rfl) fun x9 => ?_
          refine hp_goto (tgt := 2) d_V_comparedByBytes_54 (by decide) ?_
          refine hp_sub [1, 2, 0] rfl ?_
          exact ih _ _ _ _
        · refine hp_aload_n (x0 := 0) d_V_comparedByBytes_35 rfl rfl ?_
          refine hp_getR fl_V_25 d_V_comparedByBytes_36 fun x10 => ?_
          refine hp_iload_n (x0 := 2) d_V_comparedByBytes_39 rfl rfl ?_
          refine hp_bald d_V_comparedByBytes_40 fun x11 => ?_
          refine hp_aload_n (x0 := 1) d_V_comparedByBytes_41 rfl rfl ?_
          refine hp_getR fl_V_25 d_V_comparedByBytes_42 fun x12 => ?_
          refine hp_iload_n (x0 := 2) d_V_comparedByBytes_45 rfl rfl ?_
          refine hp_bald d_V_comparedByBytes_46 fun x13 => ?_
          refine hp_callI (hp_crS (t_IN_compare _ _ _ _) cw_V_40 w_480 (by decide) rfl rfl (Nat.le_of_ble_eq_true rfl) d_V_comparedByBytes_47) fun q14 => ?_
          exact hp_iret d_V_comparedByBytes_50 rfl
def m_V_comparedByBytes (G : Nat → Nat) (a0 : Nat) (a1 : Nat) (h : hp_H) : Option (Int32 × hp_H) := hp_nm (0 : Int32) fun x1 => m_V_comparedByBytes_2 G hp_fu a0 a1 x1 h
set_option maxRecDepth 100000 in
set_option maxHeartbeats 4000000 in
theorem j_V_comparedByBytes_0 {Z : hp_Z} (a0 : Nat) (a1 : Nat) (h : hp_H) : hp_J Y_V_comparedByBytes Z hp_rI h 0 [(0, .ref a0), (1, .ref a1)] [] (m_V_comparedByBytes (hp_G Z)  a0 a1 h) := by
  unfold m_V_comparedByBytes
  refine hp_iconst (v := 0) d_V_comparedByBytes_0 (by decide) ?_
  refine hp_istore_n (fun x1 => [(2, .int x1), (0, .ref a0), (1, .ref a1)]) d_V_comparedByBytes_1 rfl (by decide) (fun _ => rfl) fun x1 => ?_
  refine hp_sub [1, 2, 0] rfl ?_
  exact j_V_comparedByBytes_2  hp_fu _ _ _ _
theorem t_V_comparedByBytes (l : Launch) (E : hp_E) (a0 : Nat) (a1 : Nat) : hp_M l E y_V_comparedByBytes Y_V_comparedByBytes hp_rI [.ref a0, .ref a1] (m_V_comparedByBytes E.2.2.1 a0 a1) := hp_M.of (by decide +kernel) ⟨rfl, rfl⟩ (Nat.le_of_ble_eq_true rfl) (fun Z h hE => by subst hE; exact j_V_comparedByBytes_0 _ _ h)
-- V_isNumber
theorem d_V_isNumber_0 : decode prog_7_method_2_code 0 = .ok (.aload_n 0, 1) := by decide +kernel
theorem d_V_isNumber_1 : decode prog_7_method_2_code 1 = .ok (.getfield 9, 3) := by decide +kernel
theorem d_V_isNumber_4 : decode prog_7_method_2_code 4 = .ok (.iconst 3, 1) := by decide +kernel
theorem d_V_isNumber_5 : decode prog_7_method_2_code 5 = .ok (.if_icmp .eq 11, 3) := by decide +kernel
theorem d_V_isNumber_8 : decode prog_7_method_2_code 8 = .ok (.aload_n 0, 1) := by decide +kernel
theorem d_V_isNumber_9 : decode prog_7_method_2_code 9 = .ok (.getfield 9, 3) := by decide +kernel
theorem d_V_isNumber_12 : decode prog_7_method_2_code 12 = .ok (.iconst 4, 1) := by decide +kernel
theorem d_V_isNumber_13 : decode prog_7_method_2_code 13 = .ok (.if_icmp .ne 7, 3) := by decide +kernel
theorem d_V_isNumber_16 : decode prog_7_method_2_code 16 = .ok (.iconst 1, 1) := by decide +kernel
theorem d_V_isNumber_17 : decode prog_7_method_2_code 17 = .ok (.goto 4, 3) := by decide +kernel
theorem d_V_isNumber_20 : decode prog_7_method_2_code 20 = .ok (.iconst 0, 1) := by decide +kernel
theorem d_V_isNumber_21 : decode prog_7_method_2_code 21 = .ok (.ireturn, 1) := by decide +kernel
def m_V_isNumber_21 (G : Nat → Nat) (s0 : Int32) (h : hp_H) : Option (Int32 × hp_H) := hp_z s0 h
set_option maxRecDepth 100000 in
set_option maxHeartbeats 4000000 in
theorem j_V_isNumber_21 {Z : hp_Z} (s0 : Int32) (h : hp_H) : hp_J Y_V_isNumber Z hp_rI h 21 [] [.int s0] (m_V_isNumber_21 (hp_G Z)  s0 h) := by
  unfold m_V_isNumber_21
  exact hp_zret d_V_isNumber_21 rfl
def m_V_isNumber_16 (G : Nat → Nat) (h : hp_H) : Option (Int32 × hp_H) := m_V_isNumber_21 G (1 : Int32) h
set_option maxRecDepth 100000 in
set_option maxHeartbeats 4000000 in
theorem j_V_isNumber_16 {Z : hp_Z} (h : hp_H) : hp_J Y_V_isNumber Z hp_rI h 16 [] [] (m_V_isNumber_16 (hp_G Z)   h) := by
  unfold m_V_isNumber_16
  refine hp_iconst (v := 1) d_V_isNumber_16 (by decide) ?_
  refine hp_goto (tgt := 21) d_V_isNumber_17 (by decide) ?_
  exact j_V_isNumber_21  _ _
def m_V_isNumber (G : Nat → Nat) (a0 : Nat) (h : hp_H) : Option (Int32 × hp_H) := (hp_gI h a0 3 0).bind fun x1 => if x1 = (3 : Int32) then (m_V_isNumber_16 G h) else ((hp_gI h a0 3 0).bind fun x2 => if x2 = (4 : Int32) then (m_V_isNumber_16 G h) else (m_V_isNumber_21 G (0 : Int32) h))
set_option maxRecDepth 100000 in
set_option maxHeartbeats 4000000 in
theorem j_V_isNumber_0 {Z : hp_Z} (a0 : Nat) (h : hp_H) : hp_J Y_V_isNumber Z hp_rI h 0 [(0, .ref a0)] [] (m_V_isNumber (hp_G Z)  a0 h) := by
  unfold m_V_isNumber
  refine hp_aload_n (x0 := 0) d_V_isNumber_0 rfl rfl ?_
  refine hp_getI fl_V_9 d_V_isNumber_1 fun x1 => ?_
  refine hp_iconst (v := 3) d_V_isNumber_4 (by decide) ?_
  refine hp_icmp_eq (tgt := 16) d_V_isNumber_5 (by decide) ?_ ?_
  · refine hp_sub [] rfl ?_
    exact j_V_isNumber_16   _
  · refine hp_aload_n (x0 := 0) d_V_isNumber_8 rfl rfl ?_
    refine hp_getI fl_V_9 d_V_isNumber_9 fun x2 => ?_
    refine hp_iconst (v := 4) d_V_isNumber_12 (by decide) ?_
    refine hp_icmp_ne (tgt := 20) d_V_isNumber_13 (by decide) ?_ ?_
    · refine hp_sub [] rfl ?_
      exact j_V_isNumber_16   _
    · refine hp_iconst (v := 0) d_V_isNumber_20 (by decide) ?_
      refine hp_sub [] rfl ?_
      exact j_V_isNumber_21  _ _
theorem t_V_isNumber (l : Launch) (E : hp_E) (a0 : Nat) : hp_M l E y_V_isNumber Y_V_isNumber hp_rI [.ref a0] (m_V_isNumber E.2.2.1 a0) := hp_M.of (by decide +kernel) ⟨rfl, rfl⟩ (Nat.le_of_ble_eq_true rfl) (fun Z h hE => by subst hE; exact j_V_isNumber_0 _ h)
-- V_comparedTo
theorem d_V_comparedTo_0 : decode prog_7_method_5_code 0 = .ok (.aload_n 0, 1) := by decide +kernel
theorem d_V_comparedTo_1 : decode prog_7_method_5_code 1 = .ok (.invokevirtual 32, 3) := by decide +kernel
theorem d_V_comparedTo_4 : decode prog_7_method_5_code 4 = .ok (.ifCond .eq 36, 3) := by decide +kernel
theorem d_V_comparedTo_7 : decode prog_7_method_5_code 7 = .ok (.aload_n 1, 1) := by decide +kernel
theorem d_V_comparedTo_8 : decode prog_7_method_5_code 8 = .ok (.invokevirtual 32, 3) := by decide +kernel
theorem d_V_comparedTo_11 : decode prog_7_method_5_code 11 = .ok (.ifCond .eq 29, 3) := by decide +kernel
theorem d_V_comparedTo_14 : decode prog_7_method_5_code 14 = .ok (.aload_n 0, 1) := by decide +kernel
theorem d_V_comparedTo_15 : decode prog_7_method_5_code 15 = .ok (.aload_n 1, 1) := by decide +kernel
theorem d_V_comparedTo_16 : decode prog_7_method_5_code 16 = .ok (.invokevirtual 36, 3) := by decide +kernel
theorem d_V_comparedTo_19 : decode prog_7_method_5_code 19 = .ok (.istore_n 2, 1) := by decide +kernel
theorem d_V_comparedTo_20 : decode prog_7_method_5_code 20 = .ok (.iload_n 2, 1) := by decide +kernel
theorem d_V_comparedTo_21 : decode prog_7_method_5_code 21 = .ok (.ifCond .eq 7, 3) := by decide +kernel
theorem d_V_comparedTo_24 : decode prog_7_method_5_code 24 = .ok (.iload_n 2, 1) := by decide +kernel
theorem d_V_comparedTo_25 : decode prog_7_method_5_code 25 = .ok (.goto 14, 3) := by decide +kernel
theorem d_V_comparedTo_28 : decode prog_7_method_5_code 28 = .ok (.aload_n 0, 1) := by decide +kernel
theorem d_V_comparedTo_29 : decode prog_7_method_5_code 29 = .ok (.getfield 9, 3) := by decide +kernel
theorem d_V_comparedTo_32 : decode prog_7_method_5_code 32 = .ok (.aload_n 1, 1) := by decide +kernel
theorem d_V_comparedTo_33 : decode prog_7_method_5_code 33 = .ok (.getfield 9, 3) := by decide +kernel
theorem d_V_comparedTo_36 : decode prog_7_method_5_code 36 = .ok (.invokestatic 40, 3) := by decide +kernel
theorem d_V_comparedTo_39 : decode prog_7_method_5_code 39 = .ok (.ireturn, 1) := by decide +kernel
theorem d_V_comparedTo_40 : decode prog_7_method_5_code 40 = .ok (.aload_n 0, 1) := by decide +kernel
theorem d_V_comparedTo_41 : decode prog_7_method_5_code 41 = .ok (.getfield 9, 3) := by decide +kernel
theorem d_V_comparedTo_44 : decode prog_7_method_5_code 44 = .ok (.aload_n 1, 1) := by decide +kernel
theorem d_V_comparedTo_45 : decode prog_7_method_5_code 45 = .ok (.getfield 9, 3) := by decide +kernel
theorem d_V_comparedTo_48 : decode prog_7_method_5_code 48 = .ok (.if_icmp .eq 15, 3) := by decide +kernel
theorem d_V_comparedTo_51 : decode prog_7_method_5_code 51 = .ok (.aload_n 0, 1) := by decide +kernel
theorem d_V_comparedTo_52 : decode prog_7_method_5_code 52 = .ok (.getfield 9, 3) := by decide +kernel
theorem d_V_comparedTo_55 : decode prog_7_method_5_code 55 = .ok (.aload_n 1, 1) := by decide +kernel
theorem d_V_comparedTo_56 : decode prog_7_method_5_code 56 = .ok (.getfield 9, 3) := by decide +kernel
theorem d_V_comparedTo_59 : decode prog_7_method_5_code 59 = .ok (.invokestatic 40, 3) := by decide +kernel
theorem d_V_comparedTo_62 : decode prog_7_method_5_code 62 = .ok (.ireturn, 1) := by decide +kernel
theorem d_V_comparedTo_63 : decode prog_7_method_5_code 63 = .ok (.aload_n 0, 1) := by decide +kernel
theorem d_V_comparedTo_64 : decode prog_7_method_5_code 64 = .ok (.aload_n 1, 1) := by decide +kernel
theorem d_V_comparedTo_65 : decode prog_7_method_5_code 65 = .ok (.invokevirtual 46, 3) := by decide +kernel
theorem d_V_comparedTo_68 : decode prog_7_method_5_code 68 = .ok (.istore_n 2, 1) := by decide +kernel
theorem d_V_comparedTo_69 : decode prog_7_method_5_code 69 = .ok (.iload_n 2, 1) := by decide +kernel
theorem d_V_comparedTo_70 : decode prog_7_method_5_code 70 = .ok (.ifCond .eq 7, 3) := by decide +kernel
theorem d_V_comparedTo_73 : decode prog_7_method_5_code 73 = .ok (.iload_n 2, 1) := by decide +kernel
theorem d_V_comparedTo_74 : decode prog_7_method_5_code 74 = .ok (.goto 14, 3) := by decide +kernel
theorem d_V_comparedTo_77 : decode prog_7_method_5_code 77 = .ok (.aload_n 0, 1) := by decide +kernel
theorem d_V_comparedTo_78 : decode prog_7_method_5_code 78 = .ok (.getfield 15, 3) := by decide +kernel
theorem d_V_comparedTo_81 : decode prog_7_method_5_code 81 = .ok (.aload_n 1, 1) := by decide +kernel
theorem d_V_comparedTo_82 : decode prog_7_method_5_code 82 = .ok (.getfield 15, 3) := by decide +kernel
theorem d_V_comparedTo_85 : decode prog_7_method_5_code 85 = .ok (.invokestatic 40, 3) := by decide +kernel
theorem d_V_comparedTo_88 : decode prog_7_method_5_code 88 = .ok (.ireturn, 1) := by decide +kernel
def m_V_comparedTo_39 (G : Nat → Nat) (s0 : Int32) (h : hp_H) : Option (Int32 × hp_H) := some (s0, h)
set_option maxRecDepth 100000 in
set_option maxHeartbeats 4000000 in
theorem j_V_comparedTo_39 {Z : hp_Z} (s0 : Int32) (h : hp_H) : hp_J Y_V_comparedTo Z hp_rI h 39 [] [.int s0] (m_V_comparedTo_39 (hp_G Z)  s0 h) := by
  unfold m_V_comparedTo_39
  exact hp_iret d_V_comparedTo_39 rfl
def m_V_comparedTo_88 (G : Nat → Nat) (s0 : Int32) (h : hp_H) : Option (Int32 × hp_H) := some (s0, h)
set_option maxRecDepth 100000 in
set_option maxHeartbeats 4000000 in
theorem j_V_comparedTo_88 {Z : hp_Z} (s0 : Int32) (h : hp_H) : hp_J Y_V_comparedTo Z hp_rI h 88 [] [.int s0] (m_V_comparedTo_88 (hp_G Z)  s0 h) := by
  unfold m_V_comparedTo_88
  exact hp_iret d_V_comparedTo_88 rfl
def m_V_comparedTo_40 (G : Nat → Nat) (a0 : Nat) (a1 : Nat) (h : hp_H) : Option (Int32 × hp_H) := (hp_gI h a0 3 0).bind fun x1 => (hp_gI h a1 3 0).bind fun x2 => if x1 = x2 then ((hp_vck h a0 3 (m_V_comparedByBytes G a0 a1 h)).bind fun q3 => hp_nm q3.1 fun x4 => if x4 = 0 then ((hp_gI q3.2 a0 3 1).bind fun x5 => (hp_gI q3.2 a1 3 1).bind fun x6 => (m_IN_compare G x5 x6 q3.2).bind fun q7 => m_V_comparedTo_88 G q7.1 q7.2) else (m_V_comparedTo_88 G x4 q3.2)) else ((hp_gI h a0 3 0).bind fun x8 => (hp_gI h a1 3 0).bind fun x9 => (m_IN_compare G x8 x9 h).bind fun q10 => some (q10.1, q10.2))
set_option maxRecDepth 100000 in
set_option maxHeartbeats 4000000 in
theorem j_V_comparedTo_40 {Z : hp_Z} (a0 : Nat) (a1 : Nat) (h : hp_H) : hp_J Y_V_comparedTo Z hp_rI h 40 [(0, .ref a0), (1, .ref a1)] [] (m_V_comparedTo_40 (hp_G Z)  a0 a1 h) := by
  unfold m_V_comparedTo_40
  refine hp_aload_n (x0 := 0) d_V_comparedTo_40 rfl rfl ?_
  refine hp_getI fl_V_9 d_V_comparedTo_41 fun x1 => ?_
  refine hp_aload_n (x0 := 1) d_V_comparedTo_44 rfl rfl ?_
  refine hp_getI fl_V_9 d_V_comparedTo_45 fun x2 => ?_
  refine hp_icmp_eq (tgt := 63) d_V_comparedTo_48 (by decide) ?_ ?_
  · refine hp_aload_n (x0 := 0) d_V_comparedTo_63 rfl rfl ?_
    refine hp_aload_n (x0 := 1) d_V_comparedTo_64 rfl rfl ?_
    refine hp_callI (hp_crV (ci := 3) (t_V_comparedByBytes _ _ _ _) cw_V_46 rfl ⟨w_484, ws_4⟩ (by decide) rfl rfl (Nat.le_of_ble_eq_true rfl) d_V_comparedTo_65) fun q3 => ?_
    refine hp_istore_n (fun x4 => [(2, .int x4), (0, .ref a0), (1, .ref a1)]) d_V_comparedTo_68 rfl (by decide) (fun _ => rfl) fun x4 => ?_
    refine hp_iload_n (x0 := 0) d_V_comparedTo_69 rfl rfl ?_
    refine hp_if_eq (tgt := 77) d_V_comparedTo_70 (by decide) ?_ ?_
    · refine hp_aload_n (x0 := 1) d_V_comparedTo_77 rfl rfl ?_
      refine hp_getI fl_V_15 d_V_comparedTo_78 fun x5 => ?_
      refine hp_aload_n (x0 := 2) d_V_comparedTo_81 rfl rfl ?_
      refine hp_getI fl_V_15 d_V_comparedTo_82 fun x6 => ?_
      refine hp_callI (hp_crS (t_IN_compare _ _ _ _) cw_V_40 w_480 (by decide) rfl rfl (Nat.le_of_ble_eq_true rfl) d_V_comparedTo_85) fun q7 => ?_
      refine hp_sub [] rfl ?_
      exact j_V_comparedTo_88  _ _
    · refine hp_iload_n (x0 := 0) d_V_comparedTo_73 rfl rfl ?_
      refine hp_goto (tgt := 88) d_V_comparedTo_74 (by decide) ?_
      refine hp_sub [] rfl ?_
      exact j_V_comparedTo_88  _ _
  · refine hp_aload_n (x0 := 0) d_V_comparedTo_51 rfl rfl ?_
    refine hp_getI fl_V_9 d_V_comparedTo_52 fun x8 => ?_
    refine hp_aload_n (x0 := 1) d_V_comparedTo_55 rfl rfl ?_
    refine hp_getI fl_V_9 d_V_comparedTo_56 fun x9 => ?_
    refine hp_callI (hp_crS (t_IN_compare _ _ _ _) cw_V_40 w_480 (by decide) rfl rfl (Nat.le_of_ble_eq_true rfl) d_V_comparedTo_59) fun q10 => ?_
    exact hp_iret d_V_comparedTo_62 rfl
def m_V_comparedTo (G : Nat → Nat) (a0 : Nat) (a1 : Nat) (h : hp_H) : Option (Int32 × hp_H) := (hp_vck h a0 3 (m_V_isNumber G a0 h)).bind fun q1 => if q1.1 = 0 then (m_V_comparedTo_40 G a0 a1 q1.2) else ((hp_vck q1.2 a1 3 (m_V_isNumber G a1 q1.2)).bind fun q2 => if q2.1 = 0 then (m_V_comparedTo_40 G a0 a1 q2.2) else ((hp_vck q2.2 a0 3 (m_V_comparedByAmount G a0 a1 q2.2)).bind fun q3 => hp_nm q3.1 fun x4 => if x4 = 0 then ((hp_gI q3.2 a0 3 0).bind fun x5 => (hp_gI q3.2 a1 3 0).bind fun x6 => (m_IN_compare G x5 x6 q3.2).bind fun q7 => m_V_comparedTo_39 G q7.1 q7.2) else (m_V_comparedTo_39 G x4 q3.2)))
set_option maxRecDepth 100000 in
set_option maxHeartbeats 4000000 in
theorem j_V_comparedTo_0 {Z : hp_Z} (a0 : Nat) (a1 : Nat) (h : hp_H) : hp_J Y_V_comparedTo Z hp_rI h 0 [(0, .ref a0), (1, .ref a1)] [] (m_V_comparedTo (hp_G Z)  a0 a1 h) := by
  unfold m_V_comparedTo
  refine hp_aload_n (x0 := 0) d_V_comparedTo_0 rfl rfl ?_
  refine hp_callI (hp_crV (ci := 3) (t_V_isNumber _ _ _) cw_V_32 rfl ⟨w_454, w_455⟩ (by decide) rfl rfl (Nat.le_of_ble_eq_true rfl) d_V_comparedTo_1) fun q1 => ?_
  refine hp_if_eq (tgt := 40) d_V_comparedTo_4 (by decide) ?_ ?_
  · exact j_V_comparedTo_40  _ _ _
  · refine hp_aload_n (x0 := 1) d_V_comparedTo_7 rfl rfl ?_
    refine hp_callI (hp_crV (ci := 3) (t_V_isNumber _ _ _) cw_V_32 rfl ⟨w_454, w_455⟩ (by decide) rfl rfl (Nat.le_of_ble_eq_true rfl) d_V_comparedTo_8) fun q2 => ?_
    refine hp_if_eq (tgt := 40) d_V_comparedTo_11 (by decide) ?_ ?_
    · exact j_V_comparedTo_40  _ _ _
    · refine hp_aload_n (x0 := 0) d_V_comparedTo_14 rfl rfl ?_
      refine hp_aload_n (x0 := 1) d_V_comparedTo_15 rfl rfl ?_
      refine hp_callI (hp_crV (ci := 3) (t_V_comparedByAmount _ _ _ _) cw_V_36 rfl ⟨w_458, w_459⟩ (by decide) rfl rfl (Nat.le_of_ble_eq_true rfl) d_V_comparedTo_16) fun q3 => ?_
      refine hp_istore_n (fun x4 => [(2, .int x4), (0, .ref a0), (1, .ref a1)]) d_V_comparedTo_19 rfl (by decide) (fun _ => rfl) fun x4 => ?_
      refine hp_iload_n (x0 := 0) d_V_comparedTo_20 rfl rfl ?_
      refine hp_if_eq (tgt := 28) d_V_comparedTo_21 (by decide) ?_ ?_
      · refine hp_aload_n (x0 := 1) d_V_comparedTo_28 rfl rfl ?_
        refine hp_getI fl_V_9 d_V_comparedTo_29 fun x5 => ?_
        refine hp_aload_n (x0 := 2) d_V_comparedTo_32 rfl rfl ?_
        refine hp_getI fl_V_9 d_V_comparedTo_33 fun x6 => ?_
        refine hp_callI (hp_crS (t_IN_compare _ _ _ _) cw_V_40 w_480 (by decide) rfl rfl (Nat.le_of_ble_eq_true rfl) d_V_comparedTo_36) fun q7 => ?_
        refine hp_sub [] rfl ?_
        exact j_V_comparedTo_39  _ _
      · refine hp_iload_n (x0 := 0) d_V_comparedTo_24 rfl rfl ?_
        refine hp_goto (tgt := 39) d_V_comparedTo_25 (by decide) ?_
        refine hp_sub [] rfl ?_
        exact j_V_comparedTo_39  _ _
theorem t_V_comparedTo (l : Launch) (E : hp_E) (a0 : Nat) (a1 : Nat) : hp_M l E y_V_comparedTo Y_V_comparedTo hp_rI [.ref a0, .ref a1] (m_V_comparedTo E.2.2.1 a0 a1) := hp_M.of (by decide +kernel) ⟨rfl, rfl⟩ (Nat.le_of_ble_eq_true rfl) (fun Z h hE => by subst hE; exact j_V_comparedTo_0 _ _ h)
-- E_takesMany
theorem d_E_takesMany_0 : decode prog_2_method_8_code 0 = .ok (.iload_n 0, 1) := by decide +kernel
theorem d_E_takesMany_1 : decode prog_2_method_8_code 1 = .ok (.bipush 23, 2) := by decide +kernel
theorem d_E_takesMany_3 : decode prog_2_method_8_code 3 = .ok (.if_icmp .eq 15, 3) := by decide +kernel
theorem d_E_takesMany_6 : decode prog_2_method_8_code 6 = .ok (.iload_n 0, 1) := by decide +kernel
theorem d_E_takesMany_7 : decode prog_2_method_8_code 7 = .ok (.bipush 24, 2) := by decide +kernel
theorem d_E_takesMany_9 : decode prog_2_method_8_code 9 = .ok (.if_icmp .eq 9, 3) := by decide +kernel
theorem d_E_takesMany_12 : decode prog_2_method_8_code 12 = .ok (.iload_n 0, 1) := by decide +kernel
theorem d_E_takesMany_13 : decode prog_2_method_8_code 13 = .ok (.bipush 29, 2) := by decide +kernel
theorem d_E_takesMany_15 : decode prog_2_method_8_code 15 = .ok (.if_icmp .ne 7, 3) := by decide +kernel
theorem d_E_takesMany_18 : decode prog_2_method_8_code 18 = .ok (.iconst 1, 1) := by decide +kernel
theorem d_E_takesMany_19 : decode prog_2_method_8_code 19 = .ok (.goto 4, 3) := by decide +kernel
theorem d_E_takesMany_22 : decode prog_2_method_8_code 22 = .ok (.iconst 0, 1) := by decide +kernel
theorem d_E_takesMany_23 : decode prog_2_method_8_code 23 = .ok (.ireturn, 1) := by decide +kernel
def m_E_takesMany_23 (G : Nat → Nat) (s0 : Int32) (h : hp_H) : Option (Int32 × hp_H) := hp_z s0 h
set_option maxRecDepth 100000 in
set_option maxHeartbeats 4000000 in
theorem j_E_takesMany_23 {Z : hp_Z} (s0 : Int32) (h : hp_H) : hp_J Y_E_takesMany Z hp_rI h 23 [] [.int s0] (m_E_takesMany_23 (hp_G Z)  s0 h) := by
  unfold m_E_takesMany_23
  exact hp_zret d_E_takesMany_23 rfl
def m_E_takesMany_18 (G : Nat → Nat) (h : hp_H) : Option (Int32 × hp_H) := m_E_takesMany_23 G (1 : Int32) h
set_option maxRecDepth 100000 in
set_option maxHeartbeats 4000000 in
theorem j_E_takesMany_18 {Z : hp_Z} (h : hp_H) : hp_J Y_E_takesMany Z hp_rI h 18 [] [] (m_E_takesMany_18 (hp_G Z)   h) := by
  unfold m_E_takesMany_18
  refine hp_iconst (v := 1) d_E_takesMany_18 (by decide) ?_
  refine hp_goto (tgt := 23) d_E_takesMany_19 (by decide) ?_
  exact j_E_takesMany_23  _ _
def m_E_takesMany (G : Nat → Nat) (a0 : Int32) (h : hp_H) : Option (Int32 × hp_H) := if a0 = (23 : Int32) then (m_E_takesMany_18 G h) else (if a0 = (24 : Int32) then (m_E_takesMany_18 G h) else (if a0 = (29 : Int32) then (m_E_takesMany_18 G h) else (m_E_takesMany_23 G (0 : Int32) h)))
set_option maxRecDepth 100000 in
set_option maxHeartbeats 4000000 in
theorem j_E_takesMany_0 {Z : hp_Z} (a0 : Int32) (h : hp_H) : hp_J Y_E_takesMany Z hp_rI h 0 [(0, .int a0)] [] (m_E_takesMany (hp_G Z)  a0 h) := by
  unfold m_E_takesMany
  refine hp_iload_n (x0 := 0) d_E_takesMany_0 rfl rfl ?_
  refine hp_bipush (v := 23) d_E_takesMany_1 (by decide) ?_
  refine hp_icmp_eq (tgt := 18) d_E_takesMany_3 (by decide) ?_ ?_
  · refine hp_sub [] rfl ?_
    exact j_E_takesMany_18   _
  · refine hp_iload_n (x0 := 0) d_E_takesMany_6 rfl rfl ?_
    refine hp_bipush (v := 24) d_E_takesMany_7 (by decide) ?_
    refine hp_icmp_eq (tgt := 18) d_E_takesMany_9 (by decide) ?_ ?_
    · refine hp_sub [] rfl ?_
      exact j_E_takesMany_18   _
    · refine hp_iload_n (x0 := 0) d_E_takesMany_12 rfl rfl ?_
      refine hp_bipush (v := 29) d_E_takesMany_13 (by decide) ?_
      refine hp_icmp_ne (tgt := 22) d_E_takesMany_15 (by decide) ?_ ?_
      · refine hp_sub [] rfl ?_
        exact j_E_takesMany_18   _
      · refine hp_iconst (v := 0) d_E_takesMany_22 (by decide) ?_
        refine hp_sub [] rfl ?_
        exact j_E_takesMany_23  _ _
theorem t_E_takesMany (l : Launch) (E : hp_E) (a0 : Int32) : hp_M l E y_E_takesMany Y_E_takesMany hp_rI [.int a0] (m_E_takesMany E.2.2.1 a0) := hp_M.of (by decide +kernel) ⟨rfl, rfl⟩ (Nat.le_of_ble_eq_true rfl) (fun Z h hE => by subst hE; exact j_E_takesMany_0 _ h)
-- E_append
theorem d_E_append_0 : decode prog_2_method_2_code 0 = .ok (.iload_n 1, 1) := by decide +kernel
theorem d_E_append_1 : decode prog_2_method_2_code 1 = .ok (.ifCond .lt 9, 3) := by decide +kernel
theorem d_E_append_4 : decode prog_2_method_2_code 4 = .ok (.iload_n 1, 1) := by decide +kernel
theorem d_E_append_5 : decode prog_2_method_2_code 5 = .ok (.bipush 41, 2) := by decide +kernel
theorem d_E_append_7 : decode prog_2_method_2_code 7 = .ok (.if_icmp .le 5, 3) := by decide +kernel
theorem d_E_append_10 : decode prog_2_method_2_code 10 = .ok (.iconst (-1), 1) := by decide +kernel
theorem d_E_append_11 : decode prog_2_method_2_code 11 = .ok (.ireturn, 1) := by decide +kernel
theorem d_E_append_12 : decode prog_2_method_2_code 12 = .ok (.iload_n 1, 1) := by decide +kernel
theorem d_E_append_13 : decode prog_2_method_2_code 13 = .ok (.bipush 23, 2) := by decide +kernel
theorem d_E_append_15 : decode prog_2_method_2_code 15 = .ok (.if_icmp .ne 7, 3) := by decide +kernel
theorem d_E_append_18 : decode prog_2_method_2_code 18 = .ok (.iconst 1, 1) := by decide +kernel
theorem d_E_append_19 : decode prog_2_method_2_code 19 = .ok (.goto 4, 3) := by decide +kernel
theorem d_E_append_22 : decode prog_2_method_2_code 22 = .ok (.iconst 0, 1) := by decide +kernel
theorem d_E_append_23 : decode prog_2_method_2_code 23 = .ok (.istore_n 3, 1) := by decide +kernel
theorem d_E_append_24 : decode prog_2_method_2_code 24 = .ok (.iload_n 1, 1) := by decide +kernel
theorem d_E_append_25 : decode prog_2_method_2_code 25 = .ok (.invokestatic 42, 3) := by decide +kernel
theorem d_E_append_28 : decode prog_2_method_2_code 28 = .ok (.ifCond .eq 16, 3) := by decide +kernel
theorem d_E_append_31 : decode prog_2_method_2_code 31 = .ok (.iload_n 2, 1) := by decide +kernel
theorem d_E_append_32 : decode prog_2_method_2_code 32 = .ok (.iload_n 3, 1) := by decide +kernel
theorem d_E_append_33 : decode prog_2_method_2_code 33 = .ok (.if_icmp .lt 9, 3) := by decide +kernel
theorem d_E_append_36 : decode prog_2_method_2_code 36 = .ok (.iload_n 2, 1) := by decide +kernel
theorem d_E_append_37 : decode prog_2_method_2_code 37 = .ok (.bipush 20, 2) := by decide +kernel
theorem d_E_append_39 : decode prog_2_method_2_code 39 = .ok (.if_icmp .le 5, 3) := by decide +kernel
theorem d_E_append_42 : decode prog_2_method_2_code 42 = .ok (.iconst (-1), 1) := by decide +kernel
theorem d_E_append_43 : decode prog_2_method_2_code 43 = .ok (.ireturn, 1) := by decide +kernel
theorem d_E_append_44 : decode prog_2_method_2_code 44 = .ok (.aload_n 0, 1) := by decide +kernel
theorem d_E_append_45 : decode prog_2_method_2_code 45 = .ok (.getfield 46, 3) := by decide +kernel
theorem d_E_append_48 : decode prog_2_method_2_code 48 = .ok (.bipush 100, 2) := by decide +kernel
theorem d_E_append_50 : decode prog_2_method_2_code 50 = .ok (.if_icmp .lt 6, 3) := by decide +kernel
theorem d_E_append_53 : decode prog_2_method_2_code 53 = .ok (.bipush (-3), 2) := by decide +kernel
theorem d_E_append_55 : decode prog_2_method_2_code 55 = .ok (.ireturn, 1) := by decide +kernel
theorem d_E_append_56 : decode prog_2_method_2_code 56 = .ok (.aload_n 0, 1) := by decide +kernel
theorem d_E_append_57 : decode prog_2_method_2_code 57 = .ok (.getfield 9, 3) := by decide +kernel
theorem d_E_append_60 : decode prog_2_method_2_code 60 = .ok (.aload_n 0, 1) := by decide +kernel
theorem d_E_append_61 : decode prog_2_method_2_code 61 = .ok (.getfield 46, 3) := by decide +kernel
theorem d_E_append_64 : decode prog_2_method_2_code 64 = .ok (.iload_n 1, 1) := by decide +kernel
theorem d_E_append_65 : decode prog_2_method_2_code 65 = .ok (.iastore, 1) := by decide +kernel
theorem d_E_append_66 : decode prog_2_method_2_code 66 = .ok (.aload_n 0, 1) := by decide +kernel
theorem d_E_append_67 : decode prog_2_method_2_code 67 = .ok (.getfield 15, 3) := by decide +kernel
theorem d_E_append_70 : decode prog_2_method_2_code 70 = .ok (.aload_n 0, 1) := by decide +kernel
theorem d_E_append_71 : decode prog_2_method_2_code 71 = .ok (.getfield 46, 3) := by decide +kernel
theorem d_E_append_74 : decode prog_2_method_2_code 74 = .ok (.iload_n 2, 1) := by decide +kernel
theorem d_E_append_75 : decode prog_2_method_2_code 75 = .ok (.iastore, 1) := by decide +kernel
theorem d_E_append_76 : decode prog_2_method_2_code 76 = .ok (.aload_n 0, 1) := by decide +kernel
theorem d_E_append_77 : decode prog_2_method_2_code 77 = .ok (.dup, 1) := by decide +kernel
theorem d_E_append_78 : decode prog_2_method_2_code 78 = .ok (.getfield 46, 3) := by decide +kernel
theorem d_E_append_81 : decode prog_2_method_2_code 81 = .ok (.iconst 1, 1) := by decide +kernel
theorem d_E_append_82 : decode prog_2_method_2_code 82 = .ok (.iadd, 1) := by decide +kernel
theorem d_E_append_83 : decode prog_2_method_2_code 83 = .ok (.putfield 46, 3) := by decide +kernel
theorem d_E_append_86 : decode prog_2_method_2_code 86 = .ok (.aload_n 0, 1) := by decide +kernel
theorem d_E_append_87 : decode prog_2_method_2_code 87 = .ok (.getfield 46, 3) := by decide +kernel
theorem d_E_append_90 : decode prog_2_method_2_code 90 = .ok (.ireturn, 1) := by decide +kernel
def m_E_append_10 (G : Nat → Nat) (h : hp_H) : Option (Int32 × hp_H) := some ((-1 : Int32), h)
set_option maxRecDepth 100000 in
set_option maxHeartbeats 4000000 in
theorem j_E_append_10 {Z : hp_Z} (h : hp_H) : hp_J Y_E_append Z hp_rI h 10 [] [] (m_E_append_10 (hp_G Z)   h) := by
  unfold m_E_append_10
  refine hp_iconst (v := -1) d_E_append_10 (by decide) ?_
  exact hp_iret d_E_append_11 rfl
def m_E_append_42 (G : Nat → Nat) (h : hp_H) : Option (Int32 × hp_H) := some ((-1 : Int32), h)
set_option maxRecDepth 100000 in
set_option maxHeartbeats 4000000 in
theorem j_E_append_42 {Z : hp_Z} (h : hp_H) : hp_J Y_E_append Z hp_rI h 42 [] [] (m_E_append_42 (hp_G Z)   h) := by
  unfold m_E_append_42
  refine hp_iconst (v := -1) d_E_append_42 (by decide) ?_
  exact hp_iret d_E_append_43 rfl
def m_E_append_44 (G : Nat → Nat) (a0 : Nat) (a1 : Int32) (a2 : Int32) (h : hp_H) : Option (Int32 × hp_H) := (hp_gI h a0 5 7).bind fun x1 => if x1 < (100 : Int32) then ((hp_gR h a0 5 1).bind fun x2 => (hp_gI h a0 5 7).bind fun x3 => (hp_sI h .int x2 x3 a1).bind fun h4 => (hp_gR h4 a0 5 2).bind fun x5 => (hp_gI h4 a0 5 7).bind fun x6 => (hp_sI h4 .int x5 x6 a2).bind fun h7 => (hp_gI h7 a0 5 7).bind fun x8 => (hp_p h7 a0 5 7 (.int (x8 + (1 : Int32)))).bind fun h9 => (hp_gI h9 a0 5 7).bind fun x10 => some (x10, h9)) else (some ((-3 : Int32), h))
set_option maxRecDepth 100000 in
set_option maxHeartbeats 4000000 in
theorem j_E_append_44 {Z : hp_Z} (a0 : Nat) (a1 : Int32) (a2 : Int32) (h : hp_H) : hp_J Y_E_append Z hp_rI h 44 [(0, .ref a0), (1, .int a1), (2, .int a2)] [] (m_E_append_44 (hp_G Z)  a0 a1 a2 h) := by
  unfold m_E_append_44
  refine hp_aload_n (x0 := 0) d_E_append_44 rfl rfl ?_
  refine hp_getI fl_E_46 d_E_append_45 fun x1 => ?_
  refine hp_bipush (v := 100) d_E_append_48 (by decide) ?_
  refine hp_icmp_lt (tgt := 56) d_E_append_50 (by decide) ?_ ?_
  · refine hp_aload_n (x0 := 0) d_E_append_56 rfl rfl ?_
    refine hp_getR fl_E_9 d_E_append_57 fun x2 => ?_
    refine hp_aload_n (x0 := 0) d_E_append_60 rfl rfl ?_
    refine hp_getI fl_E_46 d_E_append_61 fun x3 => ?_
    refine hp_iload_n (x0 := 1) d_E_append_64 rfl rfl ?_
    refine hp_iast d_E_append_65 fun h4 => ?_
    refine hp_aload_n (x0 := 0) d_E_append_66 rfl rfl ?_
    refine hp_getR fl_E_15 d_E_append_67 fun x5 => ?_
    refine hp_aload_n (x0 := 0) d_E_append_70 rfl rfl ?_
    refine hp_getI fl_E_46 d_E_append_71 fun x6 => ?_
    refine hp_iload_n (x0 := 2) d_E_append_74 rfl rfl ?_
    refine hp_iast d_E_append_75 fun h7 => ?_
    refine hp_aload_n (x0 := 0) d_E_append_76 rfl rfl ?_
    refine hp_dup d_E_append_77 rfl ?_
    refine hp_getI fl_E_46 d_E_append_78 fun x8 => ?_
    refine hp_iconst (v := 1) d_E_append_81 (by decide) ?_
    refine hp_iadd d_E_append_82 ?_
    refine hp_put fl_E_46 (fun q => by cases q) rfl rfl d_E_append_83 fun h9 => ?_
    refine hp_aload_n (x0 := 0) d_E_append_86 rfl rfl ?_
    refine hp_getI fl_E_46 d_E_append_87 fun x10 => ?_
    exact hp_iret d_E_append_90 rfl
  · refine hp_bipush (v := -3) d_E_append_53 (by decide) ?_
    exact hp_iret d_E_append_55 rfl
def m_E_append_23 (G : Nat → Nat) (a0 : Nat) (a1 : Int32) (a2 : Int32) (s0 : Int32) (h : hp_H) : Option (Int32 × hp_H) := hp_nm s0 fun x1 => (m_E_takesMany G a1 h).bind fun q2 => if q2.1 = 0 then (m_E_append_44 G a0 a1 a2 q2.2) else (if a2 < x1 then (m_E_append_42 G q2.2) else (if a2 ≤ (20 : Int32) then (m_E_append_44 G a0 a1 a2 q2.2) else (m_E_append_42 G q2.2)))
set_option maxRecDepth 100000 in
set_option maxHeartbeats 4000000 in
theorem j_E_append_23 {Z : hp_Z} (a0 : Nat) (a1 : Int32) (a2 : Int32) (s0 : Int32) (h : hp_H) : hp_J Y_E_append Z hp_rI h 23 [(0, .ref a0), (1, .int a1), (2, .int a2)] [.int s0] (m_E_append_23 (hp_G Z)  a0 a1 a2 s0 h) := by
  unfold m_E_append_23
  refine hp_istore_n (fun x1 => [(3, .int x1), (0, .ref a0), (1, .int a1), (2, .int a2)]) d_E_append_23 rfl (by decide) (fun _ => rfl) fun x1 => ?_
  refine hp_iload_n (x0 := 2) d_E_append_24 rfl rfl ?_
  refine hp_callI (hp_crS (t_E_takesMany _ _ _) cw_E_42 w_495 (by decide) rfl rfl (Nat.le_of_ble_eq_true rfl) d_E_append_25) fun q2 => ?_
  refine hp_if_eq (tgt := 44) d_E_append_28 (by decide) ?_ ?_
  · refine hp_sub [1, 2, 3] rfl ?_
    exact j_E_append_44  _ _ _ _
  · refine hp_iload_n (x0 := 3) d_E_append_31 rfl rfl ?_
    refine hp_iload_n (x0 := 0) d_E_append_32 rfl rfl ?_
    refine hp_icmp_lt (tgt := 42) d_E_append_33 (by decide) ?_ ?_
    · refine hp_sub [] rfl ?_
      exact j_E_append_42   _
    · refine hp_iload_n (x0 := 3) d_E_append_36 rfl rfl ?_
      refine hp_bipush (v := 20) d_E_append_37 (by decide) ?_
      refine hp_icmp_le (tgt := 44) d_E_append_39 (by decide) ?_ ?_
      · refine hp_sub [1, 2, 3] rfl ?_
        exact j_E_append_44  _ _ _ _
      · refine hp_sub [] rfl ?_
        exact j_E_append_42   _
def m_E_append (G : Nat → Nat) (a0 : Nat) (a1 : Int32) (a2 : Int32) (h : hp_H) : Option (Int32 × hp_H) := if a1 < 0 then (m_E_append_10 G h) else (if a1 ≤ (41 : Int32) then (if a1 = (23 : Int32) then (m_E_append_23 G a0 a1 a2 (1 : Int32) h) else (m_E_append_23 G a0 a1 a2 (0 : Int32) h)) else (m_E_append_10 G h))
set_option maxRecDepth 100000 in
set_option maxHeartbeats 4000000 in
theorem j_E_append_0 {Z : hp_Z} (a0 : Nat) (a1 : Int32) (a2 : Int32) (h : hp_H) : hp_J Y_E_append Z hp_rI h 0 [(0, .ref a0), (1, .int a1), (2, .int a2)] [] (m_E_append (hp_G Z)  a0 a1 a2 h) := by
  unfold m_E_append
  refine hp_iload_n (x0 := 1) d_E_append_0 rfl rfl ?_
  refine hp_if_lt (tgt := 10) d_E_append_1 (by decide) ?_ ?_
  · refine hp_sub [] rfl ?_
    exact j_E_append_10   _
  · refine hp_iload_n (x0 := 1) d_E_append_4 rfl rfl ?_
    refine hp_bipush (v := 41) d_E_append_5 (by decide) ?_
    refine hp_icmp_le (tgt := 12) d_E_append_7 (by decide) ?_ ?_
    · refine hp_iload_n (x0 := 1) d_E_append_12 rfl rfl ?_
      refine hp_bipush (v := 23) d_E_append_13 (by decide) ?_
      refine hp_icmp_ne (tgt := 22) d_E_append_15 (by decide) ?_ ?_
      · refine hp_iconst (v := 1) d_E_append_18 (by decide) ?_
        refine hp_goto (tgt := 23) d_E_append_19 (by decide) ?_
        exact j_E_append_23  _ _ _ _ _
      · refine hp_iconst (v := 0) d_E_append_22 (by decide) ?_
        exact j_E_append_23  _ _ _ _ _
    · refine hp_sub [] rfl ?_
      exact j_E_append_10   _
theorem t_E_append (l : Launch) (E : hp_E) (a0 : Nat) (a1 : Int32) (a2 : Int32) : hp_M l E y_E_append Y_E_append hp_rI [.ref a0, .int a1, .int a2] (m_E_append E.2.2.1 a0 a1 a2) := hp_M.of (by decide +kernel) ⟨rfl, rfl⟩ (Nat.le_of_ble_eq_true rfl) (fun Z h hE => by subst hE; exact j_E_append_0 _ _ _ h)
-- D_word
theorem d_D_word_0 : decode prog_1_method_13_code 0 = .ok (.aload_n 0, 1) := by decide +kernel
theorem d_D_word_1 : decode prog_1_method_13_code 1 = .ok (.getfield 28, 3) := by decide +kernel
theorem d_D_word_4 : decode prog_1_method_13_code 4 = .ok (.iload_n 1, 1) := by decide +kernel
theorem d_D_word_5 : decode prog_1_method_13_code 5 = .ok (.iload_n 2, 1) := by decide +kernel
theorem d_D_word_6 : decode prog_1_method_13_code 6 = .ok (.invokevirtual 111, 3) := by decide +kernel
theorem d_D_word_9 : decode prog_1_method_13_code 9 = .ok (.ireturn, 1) := by decide +kernel
def m_D_word (G : Nat → Nat) (a0 : Nat) (a1 : Int32) (a2 : Int32) (h : hp_H) : Option (Int32 × hp_H) := (hp_gR h a0 0 2).bind fun x1 => (hp_vck h x1 5 (m_E_append G x1 a1 a2 h)).bind fun q2 => some (q2.1, q2.2)
set_option maxRecDepth 100000 in
set_option maxHeartbeats 4000000 in
theorem j_D_word_0 {Z : hp_Z} (a0 : Nat) (a1 : Int32) (a2 : Int32) (h : hp_H) : hp_J Y_D_word Z hp_rI h 0 [(0, .ref a0), (1, .int a1), (2, .int a2)] [] (m_D_word (hp_G Z)  a0 a1 a2 h) := by
  unfold m_D_word
  refine hp_aload_n (x0 := 0) d_D_word_0 rfl rfl ?_
  refine hp_getR fl_D_28 d_D_word_1 fun x1 => ?_
  refine hp_iload_n (x0 := 1) d_D_word_4 rfl rfl ?_
  refine hp_iload_n (x0 := 2) d_D_word_5 rfl rfl ?_
  refine hp_callI (hp_crV (ci := 5) (t_E_append _ _ _ _ _) cw_D_111 rfl ⟨w_491, w_492⟩ (by decide) rfl rfl (Nat.le_of_ble_eq_true rfl) d_D_word_6) fun q2 => ?_
  exact hp_iret d_D_word_9 rfl
theorem t_D_word (l : Launch) (E : hp_E) (a0 : Nat) (a1 : Int32) (a2 : Int32) : hp_M l E y_D_word Y_D_word hp_rI [.ref a0, .int a1, .int a2] (m_D_word E.2.2.1 a0 a1 a2) := hp_M.of (by decide +kernel) ⟨rfl, rfl⟩ (Nat.le_of_ble_eq_true rfl) (fun Z h hE => by subst hE; exact j_D_word_0 _ _ _ h)
-- E_restart
theorem d_E_restart_0 : decode prog_2_method_3_code 0 = .ok (.aload_n 0, 1) := by decide +kernel
theorem d_E_restart_1 : decode prog_2_method_3_code 1 = .ok (.getfield 46, 3) := by decide +kernel
theorem d_E_restart_4 : decode prog_2_method_3_code 4 = .ok (.istore_n 1, 1) := by decide +kernel
theorem d_E_restart_5 : decode prog_2_method_3_code 5 = .ok (.aload_n 0, 1) := by decide +kernel
theorem d_E_restart_6 : decode prog_2_method_3_code 6 = .ok (.iconst 0, 1) := by decide +kernel
theorem d_E_restart_7 : decode prog_2_method_3_code 7 = .ok (.putfield 46, 3) := by decide +kernel
theorem d_E_restart_10 : decode prog_2_method_3_code 10 = .ok (.iload_n 1, 1) := by decide +kernel
theorem d_E_restart_11 : decode prog_2_method_3_code 11 = .ok (.ireturn, 1) := by decide +kernel
def m_E_restart (G : Nat → Nat) (a0 : Nat) (h : hp_H) : Option (Int32 × hp_H) := (hp_gI h a0 5 7).bind fun x1 => hp_nm x1 fun x2 => (hp_p h a0 5 7 (.int (0 : Int32))).bind fun h3 => some (x2, h3)
set_option maxRecDepth 100000 in
set_option maxHeartbeats 4000000 in
theorem j_E_restart_0 {Z : hp_Z} (a0 : Nat) (h : hp_H) : hp_J Y_E_restart Z hp_rI h 0 [(0, .ref a0)] [] (m_E_restart (hp_G Z)  a0 h) := by
  unfold m_E_restart
  refine hp_aload_n (x0 := 0) d_E_restart_0 rfl rfl ?_
  refine hp_getI fl_E_46 d_E_restart_1 fun x1 => ?_
  refine hp_istore_n (fun x2 => [(1, .int x2), (0, .ref a0)]) d_E_restart_4 rfl (by decide) (fun _ => rfl) fun x2 => ?_
  refine hp_aload_n (x0 := 1) d_E_restart_5 rfl rfl ?_
  refine hp_iconst (v := 0) d_E_restart_6 (by decide) ?_
  refine hp_put fl_E_46 (fun q => by cases q) rfl rfl d_E_restart_7 fun h3 => ?_
  refine hp_iload_n (x0 := 0) d_E_restart_10 rfl rfl ?_
  exact hp_iret d_E_restart_11 rfl
theorem t_E_restart (l : Launch) (E : hp_E) (a0 : Nat) : hp_M l E y_E_restart Y_E_restart hp_rI [.ref a0] (m_E_restart E.2.2.1 a0) := hp_M.of (by decide +kernel) ⟨rfl, rfl⟩ (Nat.le_of_ble_eq_true rfl) (fun Z h hE => by subst hE; exact j_E_restart_0 _ h)
-- D_begin
theorem d_D_begin_0 : decode prog_1_method_14_code 0 = .ok (.aload_n 0, 1) := by decide +kernel
theorem d_D_begin_1 : decode prog_1_method_14_code 1 = .ok (.getfield 28, 3) := by decide +kernel
theorem d_D_begin_4 : decode prog_1_method_14_code 4 = .ok (.invokevirtual 114, 3) := by decide +kernel
theorem d_D_begin_7 : decode prog_1_method_14_code 7 = .ok (.ireturn, 1) := by decide +kernel
def m_D_begin (G : Nat → Nat) (a0 : Nat) (h : hp_H) : Option (Int32 × hp_H) := (hp_gR h a0 0 2).bind fun x1 => (hp_vck h x1 5 (m_E_restart G x1 h)).bind fun q2 => some (q2.1, q2.2)
set_option maxRecDepth 100000 in
set_option maxHeartbeats 4000000 in
theorem j_D_begin_0 {Z : hp_Z} (a0 : Nat) (h : hp_H) : hp_J Y_D_begin Z hp_rI h 0 [(0, .ref a0)] [] (m_D_begin (hp_G Z)  a0 h) := by
  unfold m_D_begin
  refine hp_aload_n (x0 := 0) d_D_begin_0 rfl rfl ?_
  refine hp_getR fl_D_28 d_D_begin_1 fun x1 => ?_
  refine hp_callI (hp_crV (ci := 5) (t_E_restart _ _ _) cw_D_114 rfl ⟨w_502, w_503⟩ (by decide) rfl rfl (Nat.le_of_ble_eq_true rfl) d_D_begin_4) fun q2 => ?_
  exact hp_iret d_D_begin_7 rfl
theorem t_D_begin (l : Launch) (E : hp_E) (a0 : Nat) : hp_M l E y_D_begin Y_D_begin hp_rI [.ref a0] (m_D_begin E.2.2.1 a0) := hp_M.of (by decide +kernel) ⟨rfl, rfl⟩ (Nat.le_of_ble_eq_true rfl) (fun Z h hE => by subst hE; exact j_D_begin_0 _ h)
-- E_let
theorem d_E_let_0 : decode prog_2_method_4_code 0 = .ok (.iload_n 1, 1) := by decide +kernel
theorem d_E_let_1 : decode prog_2_method_4_code 1 = .ok (.ifCond .lt 24, 3) := by decide +kernel
theorem d_E_let_4 : decode prog_2_method_4_code 4 = .ok (.iload_n 1, 1) := by decide +kernel
theorem d_E_let_5 : decode prog_2_method_4_code 5 = .ok (.bipush 10, 2) := by decide +kernel
theorem d_E_let_7 : decode prog_2_method_4_code 7 = .ok (.if_icmp .ge 18, 3) := by decide +kernel
theorem d_E_let_10 : decode prog_2_method_4_code 10 = .ok (.iload_n 2, 1) := by decide +kernel
theorem d_E_let_11 : decode prog_2_method_4_code 11 = .ok (.ifCond .lt 14, 3) := by decide +kernel
theorem d_E_let_14 : decode prog_2_method_4_code 14 = .ok (.iload_n 2, 1) := by decide +kernel
theorem d_E_let_15 : decode prog_2_method_4_code 15 = .ok (.aload_n 0, 1) := by decide +kernel
theorem d_E_let_16 : decode prog_2_method_4_code 16 = .ok (.getfield 38, 3) := by decide +kernel
theorem d_E_let_19 : decode prog_2_method_4_code 19 = .ok (.invokevirtual 50, 3) := by decide +kernel
theorem d_E_let_22 : decode prog_2_method_4_code 22 = .ok (.if_icmp .le 5, 3) := by decide +kernel
theorem d_E_let_25 : decode prog_2_method_4_code 25 = .ok (.iconst 0, 1) := by decide +kernel
theorem d_E_let_26 : decode prog_2_method_4_code 26 = .ok (.ireturn, 1) := by decide +kernel
theorem d_E_let_27 : decode prog_2_method_4_code 27 = .ok (.aload_n 0, 1) := by decide +kernel
theorem d_E_let_28 : decode prog_2_method_4_code 28 = .ok (.getfield 18, 3) := by decide +kernel
theorem d_E_let_31 : decode prog_2_method_4_code 31 = .ok (.iload_n 1, 1) := by decide +kernel
theorem d_E_let_32 : decode prog_2_method_4_code 32 = .ok (.iload_n 2, 1) := by decide +kernel
theorem d_E_let_33 : decode prog_2_method_4_code 33 = .ok (.iastore, 1) := by decide +kernel
theorem d_E_let_34 : decode prog_2_method_4_code 34 = .ok (.iconst 1, 1) := by decide +kernel
theorem d_E_let_35 : decode prog_2_method_4_code 35 = .ok (.ireturn, 1) := by decide +kernel
def m_E_let_25 (G : Nat → Nat) (h : hp_H) : Option (Int32 × hp_H) := hp_z (0 : Int32) h
set_option maxRecDepth 100000 in
set_option maxHeartbeats 4000000 in
theorem j_E_let_25 {Z : hp_Z} (h : hp_H) : hp_J Y_E_let Z hp_rI h 25 [] [] (m_E_let_25 (hp_G Z)   h) := by
  unfold m_E_let_25
  refine hp_iconst (v := 0) d_E_let_25 (by decide) ?_
  exact hp_zret d_E_let_26 rfl
def m_E_let (G : Nat → Nat) (a0 : Nat) (a1 : Int32) (a2 : Int32) (h : hp_H) : Option (Int32 × hp_H) := if a1 < 0 then (m_E_let_25 G h) else (if (10 : Int32) ≤ a1 then (m_E_let_25 G h) else (if a2 < 0 then (m_E_let_25 G h) else ((hp_gR h a0 5 0).bind fun x1 => (hp_vck h x1 1 (m_S_count G x1 h)).bind fun q2 => if a2 ≤ q2.1 then ((hp_gR q2.2 a0 5 3).bind fun x3 => (hp_sI q2.2 .int x3 a1 a2).bind fun h4 => hp_z (1 : Int32) h4) else (m_E_let_25 G q2.2))))
set_option maxRecDepth 100000 in
set_option maxHeartbeats 4000000 in
theorem j_E_let_0 {Z : hp_Z} (a0 : Nat) (a1 : Int32) (a2 : Int32) (h : hp_H) : hp_J Y_E_let Z hp_rI h 0 [(0, .ref a0), (1, .int a1), (2, .int a2)] [] (m_E_let (hp_G Z)  a0 a1 a2 h) := by
  unfold m_E_let
  refine hp_iload_n (x0 := 1) d_E_let_0 rfl rfl ?_
  refine hp_if_lt (tgt := 25) d_E_let_1 (by decide) ?_ ?_
  · refine hp_sub [] rfl ?_
    exact j_E_let_25   _
  · refine hp_iload_n (x0 := 1) d_E_let_4 rfl rfl ?_
    refine hp_bipush (v := 10) d_E_let_5 (by decide) ?_
    refine hp_icmp_ge (tgt := 25) d_E_let_7 (by decide) ?_ ?_
    · refine hp_sub [] rfl ?_
      exact j_E_let_25   _
    · refine hp_iload_n (x0 := 2) d_E_let_10 rfl rfl ?_
      refine hp_if_lt (tgt := 25) d_E_let_11 (by decide) ?_ ?_
      · refine hp_sub [] rfl ?_
        exact j_E_let_25   _
      · refine hp_iload_n (x0 := 2) d_E_let_14 rfl rfl ?_
        refine hp_aload_n (x0 := 0) d_E_let_15 rfl rfl ?_
        refine hp_getR fl_E_38 d_E_let_16 fun x1 => ?_
        refine hp_callI (hp_crV (ci := 1) (t_S_count _ _ _) cw_E_50 rfl ⟨w_442, w_443⟩ (by decide) rfl rfl (Nat.le_of_ble_eq_true rfl) d_E_let_19) fun q2 => ?_
        refine hp_icmp_le (tgt := 27) d_E_let_22 (by decide) ?_ ?_
        · refine hp_aload_n (x0 := 0) d_E_let_27 rfl rfl ?_
          refine hp_getR fl_E_18 d_E_let_28 fun x3 => ?_
          refine hp_iload_n (x0 := 1) d_E_let_31 rfl rfl ?_
          refine hp_iload_n (x0 := 2) d_E_let_32 rfl rfl ?_
          refine hp_iast d_E_let_33 fun h4 => ?_
          refine hp_iconst (v := 1) d_E_let_34 (by decide) ?_
          exact hp_zret d_E_let_35 rfl
        · refine hp_sub [] rfl ?_
          exact j_E_let_25   _
theorem t_E_let (l : Launch) (E : hp_E) (a0 : Nat) (a1 : Int32) (a2 : Int32) : hp_M l E y_E_let Y_E_let hp_rI [.ref a0, .int a1, .int a2] (m_E_let E.2.2.1 a0 a1 a2) := hp_M.of (by decide +kernel) ⟨rfl, rfl⟩ (Nat.le_of_ble_eq_true rfl) (fun Z h hE => by subst hE; exact j_E_let_0 _ _ _ h)
-- D_bind
theorem d_D_bind_0 : decode prog_1_method_15_code 0 = .ok (.aload_n 0, 1) := by decide +kernel
theorem d_D_bind_1 : decode prog_1_method_15_code 1 = .ok (.getfield 28, 3) := by decide +kernel
theorem d_D_bind_4 : decode prog_1_method_15_code 4 = .ok (.iload_n 1, 1) := by decide +kernel
theorem d_D_bind_5 : decode prog_1_method_15_code 5 = .ok (.iload_n 2, 1) := by decide +kernel
theorem d_D_bind_6 : decode prog_1_method_15_code 6 = .ok (.invokevirtual 117, 3) := by decide +kernel
theorem d_D_bind_9 : decode prog_1_method_15_code 9 = .ok (.ireturn, 1) := by decide +kernel
def m_D_bind (G : Nat → Nat) (a0 : Nat) (a1 : Int32) (a2 : Int32) (h : hp_H) : Option (Int32 × hp_H) := (hp_gR h a0 0 2).bind fun x1 => (hp_vck h x1 5 (m_E_let G x1 a1 a2 h)).bind fun q2 => hp_z q2.1 q2.2
set_option maxRecDepth 100000 in
set_option maxHeartbeats 4000000 in
theorem j_D_bind_0 {Z : hp_Z} (a0 : Nat) (a1 : Int32) (a2 : Int32) (h : hp_H) : hp_J Y_D_bind Z hp_rI h 0 [(0, .ref a0), (1, .int a1), (2, .int a2)] [] (m_D_bind (hp_G Z)  a0 a1 a2 h) := by
  unfold m_D_bind
  refine hp_aload_n (x0 := 0) d_D_bind_0 rfl rfl ?_
  refine hp_getR fl_D_28 d_D_bind_1 fun x1 => ?_
  refine hp_iload_n (x0 := 1) d_D_bind_4 rfl rfl ?_
  refine hp_iload_n (x0 := 2) d_D_bind_5 rfl rfl ?_
  refine hp_callI (hp_crV (ci := 5) (t_E_let _ _ _ _ _) cw_D_117 rfl ⟨w_510, w_511⟩ (by decide) rfl rfl (Nat.le_of_ble_eq_true rfl) d_D_bind_6) fun q2 => ?_
  exact hp_zret d_D_bind_9 rfl
theorem t_D_bind (l : Launch) (E : hp_E) (a0 : Nat) (a1 : Int32) (a2 : Int32) : hp_M l E y_D_bind Y_D_bind hp_rI [.ref a0, .int a1, .int a2] (m_D_bind E.2.2.1 a0 a1 a2) := hp_M.of (by decide +kernel) ⟨rfl, rfl⟩ (Nat.le_of_ble_eq_true rfl) (fun Z h hE => by subst hE; exact j_D_bind_0 _ _ _ h)
-- E_bearsErrors
theorem d_E_bearsErrors_0 : decode prog_2_method_9_code 0 = .ok (.iload_n 0, 1) := by decide +kernel
theorem d_E_bearsErrors_1 : decode prog_2_method_9_code 1 = .ok (.iconst 2, 1) := by decide +kernel
theorem d_E_bearsErrors_2 : decode prog_2_method_9_code 2 = .ok (.if_icmp .le 25, 3) := by decide +kernel
theorem d_E_bearsErrors_5 : decode prog_2_method_9_code 5 = .ok (.iload_n 0, 1) := by decide +kernel
theorem d_E_bearsErrors_6 : decode prog_2_method_9_code 6 = .ok (.iconst 4, 1) := by decide +kernel
theorem d_E_bearsErrors_7 : decode prog_2_method_9_code 7 = .ok (.if_icmp .eq 20, 3) := by decide +kernel
theorem d_E_bearsErrors_10 : decode prog_2_method_9_code 10 = .ok (.iload_n 0, 1) := by decide +kernel
theorem d_E_bearsErrors_11 : decode prog_2_method_9_code 11 = .ok (.iconst 5, 1) := by decide +kernel
theorem d_E_bearsErrors_12 : decode prog_2_method_9_code 12 = .ok (.if_icmp .eq 15, 3) := by decide +kernel
theorem d_E_bearsErrors_15 : decode prog_2_method_9_code 15 = .ok (.iload_n 0, 1) := by decide +kernel
theorem d_E_bearsErrors_16 : decode prog_2_method_9_code 16 = .ok (.bipush 22, 2) := by decide +kernel
theorem d_E_bearsErrors_18 : decode prog_2_method_9_code 18 = .ok (.if_icmp .lt 13, 3) := by decide +kernel
theorem d_E_bearsErrors_21 : decode prog_2_method_9_code 21 = .ok (.iload_n 0, 1) := by decide +kernel
theorem d_E_bearsErrors_22 : decode prog_2_method_9_code 22 = .ok (.bipush 24, 2) := by decide +kernel
theorem d_E_bearsErrors_24 : decode prog_2_method_9_code 24 = .ok (.if_icmp .gt 7, 3) := by decide +kernel
theorem d_E_bearsErrors_27 : decode prog_2_method_9_code 27 = .ok (.iconst 1, 1) := by decide +kernel
theorem d_E_bearsErrors_28 : decode prog_2_method_9_code 28 = .ok (.goto 4, 3) := by decide +kernel
theorem d_E_bearsErrors_31 : decode prog_2_method_9_code 31 = .ok (.iconst 0, 1) := by decide +kernel
theorem d_E_bearsErrors_32 : decode prog_2_method_9_code 32 = .ok (.ireturn, 1) := by decide +kernel
def m_E_bearsErrors_32 (G : Nat → Nat) (s0 : Int32) (h : hp_H) : Option (Int32 × hp_H) := hp_z s0 h
set_option maxRecDepth 100000 in
set_option maxHeartbeats 4000000 in
theorem j_E_bearsErrors_32 {Z : hp_Z} (s0 : Int32) (h : hp_H) : hp_J Y_E_bearsErrors Z hp_rI h 32 [] [.int s0] (m_E_bearsErrors_32 (hp_G Z)  s0 h) := by
  unfold m_E_bearsErrors_32
  exact hp_zret d_E_bearsErrors_32 rfl
def m_E_bearsErrors_27 (G : Nat → Nat) (h : hp_H) : Option (Int32 × hp_H) := m_E_bearsErrors_32 G (1 : Int32) h
set_option maxRecDepth 100000 in
set_option maxHeartbeats 4000000 in
theorem j_E_bearsErrors_27 {Z : hp_Z} (h : hp_H) : hp_J Y_E_bearsErrors Z hp_rI h 27 [] [] (m_E_bearsErrors_27 (hp_G Z)   h) := by
  unfold m_E_bearsErrors_27
  refine hp_iconst (v := 1) d_E_bearsErrors_27 (by decide) ?_
  refine hp_goto (tgt := 32) d_E_bearsErrors_28 (by decide) ?_
  exact j_E_bearsErrors_32  _ _
def m_E_bearsErrors_31 (G : Nat → Nat) (h : hp_H) : Option (Int32 × hp_H) := m_E_bearsErrors_32 G (0 : Int32) h
set_option maxRecDepth 100000 in
set_option maxHeartbeats 4000000 in
theorem j_E_bearsErrors_31 {Z : hp_Z} (h : hp_H) : hp_J Y_E_bearsErrors Z hp_rI h 31 [] [] (m_E_bearsErrors_31 (hp_G Z)   h) := by
  unfold m_E_bearsErrors_31
  refine hp_iconst (v := 0) d_E_bearsErrors_31 (by decide) ?_
  exact j_E_bearsErrors_32  _ _
def m_E_bearsErrors (G : Nat → Nat) (a0 : Int32) (h : hp_H) : Option (Int32 × hp_H) := if a0 ≤ (2 : Int32) then (m_E_bearsErrors_27 G h) else (if a0 = (4 : Int32) then (m_E_bearsErrors_27 G h) else (if a0 = (5 : Int32) then (m_E_bearsErrors_27 G h) else (if a0 < (22 : Int32) then (m_E_bearsErrors_31 G h) else (if (24 : Int32) < a0 then (m_E_bearsErrors_31 G h) else (m_E_bearsErrors_27 G h)))))
set_option maxRecDepth 100000 in
set_option maxHeartbeats 4000000 in
theorem j_E_bearsErrors_0 {Z : hp_Z} (a0 : Int32) (h : hp_H) : hp_J Y_E_bearsErrors Z hp_rI h 0 [(0, .int a0)] [] (m_E_bearsErrors (hp_G Z)  a0 h) := by
  unfold m_E_bearsErrors
  refine hp_iload_n (x0 := 0) d_E_bearsErrors_0 rfl rfl ?_
  refine hp_iconst (v := 2) d_E_bearsErrors_1 (by decide) ?_
  refine hp_icmp_le (tgt := 27) d_E_bearsErrors_2 (by decide) ?_ ?_
  · refine hp_sub [] rfl ?_
    exact j_E_bearsErrors_27   _
  · refine hp_iload_n (x0 := 0) d_E_bearsErrors_5 rfl rfl ?_
    refine hp_iconst (v := 4) d_E_bearsErrors_6 (by decide) ?_
    refine hp_icmp_eq (tgt := 27) d_E_bearsErrors_7 (by decide) ?_ ?_
    · refine hp_sub [] rfl ?_
      exact j_E_bearsErrors_27   _
    · refine hp_iload_n (x0 := 0) d_E_bearsErrors_10 rfl rfl ?_
      refine hp_iconst (v := 5) d_E_bearsErrors_11 (by decide) ?_
      refine hp_icmp_eq (tgt := 27) d_E_bearsErrors_12 (by decide) ?_ ?_
      · refine hp_sub [] rfl ?_
        exact j_E_bearsErrors_27   _
      · refine hp_iload_n (x0 := 0) d_E_bearsErrors_15 rfl rfl ?_
        refine hp_bipush (v := 22) d_E_bearsErrors_16 (by decide) ?_
        refine hp_icmp_lt (tgt := 31) d_E_bearsErrors_18 (by decide) ?_ ?_
        · refine hp_sub [] rfl ?_
          exact j_E_bearsErrors_31   _
        · refine hp_iload_n (x0 := 0) d_E_bearsErrors_21 rfl rfl ?_
          refine hp_bipush (v := 24) d_E_bearsErrors_22 (by decide) ?_
          refine hp_icmp_gt (tgt := 31) d_E_bearsErrors_24 (by decide) ?_ ?_
          · refine hp_sub [] rfl ?_
            exact j_E_bearsErrors_31   _
          · refine hp_sub [] rfl ?_
            exact j_E_bearsErrors_27   _
theorem t_E_bearsErrors (l : Launch) (E : hp_E) (a0 : Int32) : hp_M l E y_E_bearsErrors Y_E_bearsErrors hp_rI [.int a0] (m_E_bearsErrors E.2.2.1 a0) := hp_M.of (by decide +kernel) ⟨rfl, rfl⟩ (Nat.le_of_ble_eq_true rfl) (fun Z h hE => by subst hE; exact j_E_bearsErrors_0 _ h)
-- E_numberTaken
theorem d_E_numberTaken_0 : decode prog_2_method_10_code 0 = .ok (.aload_n 0, 1) := by decide +kernel
theorem d_E_numberTaken_1 : decode prog_2_method_10_code 1 = .ok (.getfield 60, 3) := by decide +kernel
theorem d_E_numberTaken_4 : decode prog_2_method_10_code 4 = .ok (.iload_n 1, 1) := by decide +kernel
theorem d_E_numberTaken_5 : decode prog_2_method_10_code 5 = .ok (.iadd, 1) := by decide +kernel
theorem d_E_numberTaken_6 : decode prog_2_method_10_code 6 = .ok (.istore_n 2, 1) := by decide +kernel
theorem d_E_numberTaken_7 : decode prog_2_method_10_code 7 = .ok (.iload_n 2, 1) := by decide +kernel
theorem d_E_numberTaken_8 : decode prog_2_method_10_code 8 = .ok (.ifCond .lt 18, 3) := by decide +kernel
theorem d_E_numberTaken_11 : decode prog_2_method_10_code 11 = .ok (.iload_n 2, 1) := by decide +kernel
theorem d_E_numberTaken_12 : decode prog_2_method_10_code 12 = .ok (.bipush 100, 2) := by decide +kernel
theorem d_E_numberTaken_14 : decode prog_2_method_10_code 14 = .ok (.if_icmp .ge 12, 3) := by decide +kernel
theorem d_E_numberTaken_17 : decode prog_2_method_10_code 17 = .ok (.aload_n 0, 1) := by decide +kernel
theorem d_E_numberTaken_18 : decode prog_2_method_10_code 18 = .ok (.getfield 21, 3) := by decide +kernel
theorem d_E_numberTaken_21 : decode prog_2_method_10_code 21 = .ok (.iload_n 2, 1) := by decide +kernel
theorem d_E_numberTaken_22 : decode prog_2_method_10_code 22 = .ok (.iaload, 1) := by decide +kernel
theorem d_E_numberTaken_23 : decode prog_2_method_10_code 23 = .ok (.goto 5, 3) := by decide +kernel
theorem d_E_numberTaken_26 : decode prog_2_method_10_code 26 = .ok (.bipush (-4), 2) := by decide +kernel
theorem d_E_numberTaken_28 : decode prog_2_method_10_code 28 = .ok (.ireturn, 1) := by decide +kernel
def m_E_numberTaken_28 (G : Nat → Nat) (s0 : Int32) (h : hp_H) : Option (Int32 × hp_H) := some (s0, h)
set_option maxRecDepth 100000 in
set_option maxHeartbeats 4000000 in
theorem j_E_numberTaken_28 {Z : hp_Z} (s0 : Int32) (h : hp_H) : hp_J Y_E_numberTaken Z hp_rI h 28 [] [.int s0] (m_E_numberTaken_28 (hp_G Z)  s0 h) := by
  unfold m_E_numberTaken_28
  exact hp_iret d_E_numberTaken_28 rfl
def m_E_numberTaken_26 (G : Nat → Nat) (h : hp_H) : Option (Int32 × hp_H) := m_E_numberTaken_28 G (-4 : Int32) h
set_option maxRecDepth 100000 in
set_option maxHeartbeats 4000000 in
theorem j_E_numberTaken_26 {Z : hp_Z} (h : hp_H) : hp_J Y_E_numberTaken Z hp_rI h 26 [] [] (m_E_numberTaken_26 (hp_G Z)   h) := by
  unfold m_E_numberTaken_26
  refine hp_bipush (v := -4) d_E_numberTaken_26 (by decide) ?_
  exact j_E_numberTaken_28  _ _
def m_E_numberTaken (G : Nat → Nat) (a0 : Nat) (a1 : Int32) (h : hp_H) : Option (Int32 × hp_H) := (hp_gI h a0 5 8).bind fun x1 => hp_nm (x1 + a1) fun x2 => if x2 < 0 then (m_E_numberTaken_26 G h) else (if (100 : Int32) ≤ x2 then (m_E_numberTaken_26 G h) else ((hp_gR h a0 5 4).bind fun x3 => (hp_aI h .int x3 x2).bind fun x4 => m_E_numberTaken_28 G x4 h))
set_option maxRecDepth 100000 in
set_option maxHeartbeats 4000000 in
theorem j_E_numberTaken_0 {Z : hp_Z} (a0 : Nat) (a1 : Int32) (h : hp_H) : hp_J Y_E_numberTaken Z hp_rI h 0 [(0, .ref a0), (1, .int a1)] [] (m_E_numberTaken (hp_G Z)  a0 a1 h) := by
  unfold m_E_numberTaken
  refine hp_aload_n (x0 := 0) d_E_numberTaken_0 rfl rfl ?_
  refine hp_getI fl_E_60 d_E_numberTaken_1 fun x1 => ?_
  refine hp_iload_n (x0 := 1) d_E_numberTaken_4 rfl rfl ?_
  refine hp_iadd d_E_numberTaken_5 ?_
  refine hp_istore_n (fun x2 => [(2, .int x2), (0, .ref a0), (1, .int a1)]) d_E_numberTaken_6 rfl (by decide) (fun _ => rfl) fun x2 => ?_
  refine hp_iload_n (x0 := 0) d_E_numberTaken_7 rfl rfl ?_
  refine hp_if_lt (tgt := 26) d_E_numberTaken_8 (by decide) ?_ ?_
  · refine hp_sub [] rfl ?_
    exact j_E_numberTaken_26   _
  · refine hp_iload_n (x0 := 0) d_E_numberTaken_11 rfl rfl ?_
    refine hp_bipush (v := 100) d_E_numberTaken_12 (by decide) ?_
    refine hp_icmp_ge (tgt := 26) d_E_numberTaken_14 (by decide) ?_ ?_
    · refine hp_sub [] rfl ?_
      exact j_E_numberTaken_26   _
    · refine hp_aload_n (x0 := 1) d_E_numberTaken_17 rfl rfl ?_
      refine hp_getR fl_E_21 d_E_numberTaken_18 fun x3 => ?_
      refine hp_iload_n (x0 := 0) d_E_numberTaken_21 rfl rfl ?_
      refine hp_iald d_E_numberTaken_22 fun x4 => ?_
      refine hp_goto (tgt := 28) d_E_numberTaken_23 (by decide) ?_
      refine hp_sub [] rfl ?_
      exact j_E_numberTaken_28  _ _
theorem t_E_numberTaken (l : Launch) (E : hp_E) (a0 : Nat) (a1 : Int32) : hp_M l E y_E_numberTaken Y_E_numberTaken hp_rI [.ref a0, .int a1] (m_E_numberTaken E.2.2.1 a0 a1) := hp_M.of (by decide +kernel) ⟨rfl, rfl⟩ (Nat.le_of_ble_eq_true rfl) (fun Z h hE => by subst hE; exact j_E_numberTaken_0 _ _ h)
-- E_takenBy
theorem d_E_takenBy_0 : decode prog_2_method_7_code 0 = .ok (.iload_n 0, 1) := by decide +kernel
theorem d_E_takenBy_1 : decode prog_2_method_7_code 1 = .ok (.ifCond .lt 11, 3) := by decide +kernel
theorem d_E_takenBy_4 : decode prog_2_method_7_code 4 = .ok (.iload_n 0, 1) := by decide +kernel
theorem d_E_takenBy_5 : decode prog_2_method_7_code 5 = .ok (.getstatic 79, 3) := by decide +kernel
theorem d_E_takenBy_8 : decode prog_2_method_7_code 8 = .ok (.arraylength, 1) := by decide +kernel
theorem d_E_takenBy_9 : decode prog_2_method_7_code 9 = .ok (.if_icmp .lt 5, 3) := by decide +kernel
theorem d_E_takenBy_12 : decode prog_2_method_7_code 12 = .ok (.iconst 0, 1) := by decide +kernel
theorem d_E_takenBy_13 : decode prog_2_method_7_code 13 = .ok (.ireturn, 1) := by decide +kernel
theorem d_E_takenBy_14 : decode prog_2_method_7_code 14 = .ok (.iload_n 0, 1) := by decide +kernel
theorem d_E_takenBy_15 : decode prog_2_method_7_code 15 = .ok (.invokestatic 42, 3) := by decide +kernel
theorem d_E_takenBy_18 : decode prog_2_method_7_code 18 = .ok (.ifCond .eq 13, 3) := by decide +kernel
theorem d_E_takenBy_21 : decode prog_2_method_7_code 21 = .ok (.getstatic 79, 3) := by decide +kernel
theorem d_E_takenBy_24 : decode prog_2_method_7_code 24 = .ok (.iload_n 0, 1) := by decide +kernel
theorem d_E_takenBy_25 : decode prog_2_method_7_code 25 = .ok (.iaload, 1) := by decide +kernel
theorem d_E_takenBy_26 : decode prog_2_method_7_code 26 = .ok (.iload_n 1, 1) := by decide +kernel
theorem d_E_takenBy_27 : decode prog_2_method_7_code 27 = .ok (.iadd, 1) := by decide +kernel
theorem d_E_takenBy_28 : decode prog_2_method_7_code 28 = .ok (.goto 8, 3) := by decide +kernel
theorem d_E_takenBy_31 : decode prog_2_method_7_code 31 = .ok (.getstatic 79, 3) := by decide +kernel
theorem d_E_takenBy_34 : decode prog_2_method_7_code 34 = .ok (.iload_n 0, 1) := by decide +kernel
theorem d_E_takenBy_35 : decode prog_2_method_7_code 35 = .ok (.iaload, 1) := by decide +kernel
theorem d_E_takenBy_36 : decode prog_2_method_7_code 36 = .ok (.ireturn, 1) := by decide +kernel
def m_E_takenBy_12 (G : Nat → Nat) (h : hp_H) : Option (Int32 × hp_H) := some ((0 : Int32), h)
set_option maxRecDepth 100000 in
set_option maxHeartbeats 4000000 in
theorem j_E_takenBy_12 {Z : hp_Z} (h : hp_H) : hp_J Y_E_takenBy Z hp_rI h 12 [] [] (m_E_takenBy_12 (hp_G Z)   h) := by
  unfold m_E_takenBy_12
  refine hp_iconst (v := 0) d_E_takenBy_12 (by decide) ?_
  exact hp_iret d_E_takenBy_13 rfl
def m_E_takenBy_36 (G : Nat → Nat) (s0 : Int32) (h : hp_H) : Option (Int32 × hp_H) := some (s0, h)
set_option maxRecDepth 100000 in
set_option maxHeartbeats 4000000 in
theorem j_E_takenBy_36 {Z : hp_Z} (s0 : Int32) (h : hp_H) : hp_J Y_E_takenBy Z hp_rI h 36 [] [.int s0] (m_E_takenBy_36 (hp_G Z)  s0 h) := by
  unfold m_E_takenBy_36
  exact hp_iret d_E_takenBy_36 rfl
def m_E_takenBy (G : Nat → Nat) (a0 : Int32) (a1 : Int32) (h : hp_H) : Option (Int32 × hp_H) := if a0 < 0 then (m_E_takenBy_12 G h) else ((hp_len h (G 2)).bind fun x1 => if a0 < x1 then ((m_E_takesMany G a0 h).bind fun q2 => if q2.1 = 0 then ((hp_aI q2.2 .int (G 2) a0).bind fun x3 => m_E_takenBy_36 G x3 q2.2) else ((hp_aI q2.2 .int (G 2) a0).bind fun x4 => m_E_takenBy_36 G (x4 + a1) q2.2)) else (m_E_takenBy_12 G h))
set_option maxRecDepth 100000 in
set_option maxHeartbeats 4000000 in
theorem j_E_takenBy_0 {Z : hp_Z} (a0 : Int32) (a1 : Int32) (h : hp_H) : hp_J Y_E_takenBy Z hp_rI h 0 [(0, .int a0), (1, .int a1)] [] (m_E_takenBy (hp_G Z)  a0 a1 h) := by
  unfold m_E_takenBy
  refine hp_iload_n (x0 := 0) d_E_takenBy_0 rfl rfl ?_
  refine hp_if_lt (tgt := 12) d_E_takenBy_1 (by decide) ?_ ?_
  · refine hp_sub [] rfl ?_
    exact j_E_takenBy_12   _
  · refine hp_iload_n (x0 := 0) d_E_takenBy_4 rfl rfl ?_
    refine hp_gets (k := 2) rfl w_529 d_E_takenBy_5 ?_
    refine hp_alen d_E_takenBy_8 fun x1 => ?_
    refine hp_icmp_lt (tgt := 14) d_E_takenBy_9 (by decide) ?_ ?_
    · refine hp_iload_n (x0 := 0) d_E_takenBy_14 rfl rfl ?_
      refine hp_callI (hp_crS (t_E_takesMany _ _ _) cw_E_42 w_495 (by decide) rfl rfl (Nat.le_of_ble_eq_true rfl) d_E_takenBy_15) fun q2 => ?_
      refine hp_if_eq (tgt := 31) d_E_takenBy_18 (by decide) ?_ ?_
      · refine hp_gets (k := 2) rfl w_529 d_E_takenBy_31 ?_
        refine hp_iload_n (x0 := 0) d_E_takenBy_34 rfl rfl ?_
        refine hp_iald d_E_takenBy_35 fun x3 => ?_
        refine hp_sub [] rfl ?_
        exact j_E_takenBy_36  _ _
      · refine hp_gets (k := 2) rfl w_529 d_E_takenBy_21 ?_
        refine hp_iload_n (x0 := 0) d_E_takenBy_24 rfl rfl ?_
        refine hp_iald d_E_takenBy_25 fun x4 => ?_
        refine hp_iload_n (x0 := 1) d_E_takenBy_26 rfl rfl ?_
        refine hp_iadd d_E_takenBy_27 ?_
        refine hp_goto (tgt := 36) d_E_takenBy_28 (by decide) ?_
        refine hp_sub [] rfl ?_
        exact j_E_takenBy_36  _ _
    · refine hp_sub [] rfl ?_
      exact j_E_takenBy_12   _
theorem t_E_takenBy (l : Launch) (E : hp_E) (a0 : Int32) (a1 : Int32) : hp_M l E y_E_takenBy Y_E_takenBy hp_rI [.int a0, .int a1] (m_E_takenBy E.2.2.1 a0 a1) := hp_M.of (by decide +kernel) ⟨rfl, rfl⟩ (Nat.le_of_ble_eq_true rfl) (fun Z h hE => by subst hE; exact j_E_takenBy_0 _ _ h)
-- E_isRight
theorem d_E_isRight_0 : decode prog_2_method_6_code 0 = .ok (.iconst 0, 1) := by decide +kernel
theorem d_E_isRight_1 : decode prog_2_method_6_code 1 = .ok (.istore_n 1, 1) := by decide +kernel
theorem d_E_isRight_2 : decode prog_2_method_6_code 2 = .ok (.iconst 0, 1) := by decide +kernel
theorem d_E_isRight_3 : decode prog_2_method_6_code 3 = .ok (.istore_n 2, 1) := by decide +kernel
theorem d_E_isRight_4 : decode prog_2_method_6_code 4 = .ok (.iload_n 2, 1) := by decide +kernel
theorem d_E_isRight_5 : decode prog_2_method_6_code 5 = .ok (.aload_n 0, 1) := by decide +kernel
theorem d_E_isRight_6 : decode prog_2_method_6_code 6 = .ok (.getfield 46, 3) := by decide +kernel
theorem d_E_isRight_9 : decode prog_2_method_6_code 9 = .ok (.if_icmp .ge 42, 3) := by decide +kernel
theorem d_E_isRight_12 : decode prog_2_method_6_code 12 = .ok (.iload_n 2, 1) := by decide +kernel
theorem d_E_isRight_13 : decode prog_2_method_6_code 13 = .ok (.bipush 100, 2) := by decide +kernel
theorem d_E_isRight_15 : decode prog_2_method_6_code 15 = .ok (.if_icmp .ge 36, 3) := by decide +kernel
theorem d_E_isRight_18 : decode prog_2_method_6_code 18 = .ok (.iload_n 1, 1) := by decide +kernel
theorem d_E_isRight_19 : decode prog_2_method_6_code 19 = .ok (.aload_n 0, 1) := by decide +kernel
theorem d_E_isRight_20 : decode prog_2_method_6_code 20 = .ok (.getfield 9, 3) := by decide +kernel
theorem d_E_isRight_23 : decode prog_2_method_6_code 23 = .ok (.iload_n 2, 1) := by decide +kernel
theorem d_E_isRight_24 : decode prog_2_method_6_code 24 = .ok (.iaload, 1) := by decide +kernel
theorem d_E_isRight_25 : decode prog_2_method_6_code 25 = .ok (.aload_n 0, 1) := by decide +kernel
theorem d_E_isRight_26 : decode prog_2_method_6_code 26 = .ok (.getfield 15, 3) := by decide +kernel
theorem d_E_isRight_29 : decode prog_2_method_6_code 29 = .ok (.iload_n 2, 1) := by decide +kernel
theorem d_E_isRight_30 : decode prog_2_method_6_code 30 = .ok (.iaload, 1) := by decide +kernel
theorem d_E_isRight_31 : decode prog_2_method_6_code 31 = .ok (.invokestatic 63, 3) := by decide +kernel
theorem d_E_isRight_34 : decode prog_2_method_6_code 34 = .ok (.isub, 1) := by decide +kernel
theorem d_E_isRight_35 : decode prog_2_method_6_code 35 = .ok (.istore_n 1, 1) := by decide +kernel
theorem d_E_isRight_36 : decode prog_2_method_6_code 36 = .ok (.iload_n 1, 1) := by decide +kernel
theorem d_E_isRight_37 : decode prog_2_method_6_code 37 = .ok (.ifCond .ge 5, 3) := by decide +kernel
theorem d_E_isRight_40 : decode prog_2_method_6_code 40 = .ok (.iconst 0, 1) := by decide +kernel
theorem d_E_isRight_41 : decode prog_2_method_6_code 41 = .ok (.ireturn, 1) := by decide +kernel
theorem d_E_isRight_42 : decode prog_2_method_6_code 42 = .ok (.iinc 1 1, 3) := by decide +kernel
theorem d_E_isRight_45 : decode prog_2_method_6_code 45 = .ok (.iinc 2 1, 3) := by decide +kernel
theorem d_E_isRight_48 : decode prog_2_method_6_code 48 = .ok (.goto (-44), 3) := by decide +kernel
theorem d_E_isRight_51 : decode prog_2_method_6_code 51 = .ok (.iload_n 1, 1) := by decide +kernel
theorem d_E_isRight_52 : decode prog_2_method_6_code 52 = .ok (.iconst 1, 1) := by decide +kernel
theorem d_E_isRight_53 : decode prog_2_method_6_code 53 = .ok (.if_icmp .ne 7, 3) := by decide +kernel
theorem d_E_isRight_56 : decode prog_2_method_6_code 56 = .ok (.iconst 1, 1) := by decide +kernel
theorem d_E_isRight_57 : decode prog_2_method_6_code 57 = .ok (.goto 4, 3) := by decide +kernel
theorem d_E_isRight_60 : decode prog_2_method_6_code 60 = .ok (.iconst 0, 1) := by decide +kernel
theorem d_E_isRight_61 : decode prog_2_method_6_code 61 = .ok (.ireturn, 1) := by decide +kernel
def m_E_isRight_61 (G : Nat → Nat) (s0 : Int32) (h : hp_H) : Option (Int32 × hp_H) := hp_z s0 h
set_option maxRecDepth 100000 in
set_option maxHeartbeats 4000000 in
theorem j_E_isRight_61 {Z : hp_Z} (s0 : Int32) (h : hp_H) : hp_J Y_E_isRight Z hp_rI h 61 [] [.int s0] (m_E_isRight_61 (hp_G Z)  s0 h) := by
  unfold m_E_isRight_61
  exact hp_zret d_E_isRight_61 rfl
def m_E_isRight_51 (G : Nat → Nat) (a1 : Int32) (h : hp_H) : Option (Int32 × hp_H) := if a1 = (1 : Int32) then (m_E_isRight_61 G (1 : Int32) h) else (m_E_isRight_61 G (0 : Int32) h)
set_option maxRecDepth 100000 in
set_option maxHeartbeats 4000000 in
theorem j_E_isRight_51 {Z : hp_Z} (a1 : Int32) (h : hp_H) : hp_J Y_E_isRight Z hp_rI h 51 [(1, .int a1)] [] (m_E_isRight_51 (hp_G Z)  a1 h) := by
  unfold m_E_isRight_51
  refine hp_iload_n (x0 := 0) d_E_isRight_51 rfl rfl ?_
  refine hp_iconst (v := 1) d_E_isRight_52 (by decide) ?_
  refine hp_icmp_ne (tgt := 60) d_E_isRight_53 (by decide) ?_ ?_
  · refine hp_iconst (v := 1) d_E_isRight_56 (by decide) ?_
    refine hp_goto (tgt := 61) d_E_isRight_57 (by decide) ?_
    refine hp_sub [] rfl ?_
    exact j_E_isRight_61  _ _
  · refine hp_iconst (v := 0) d_E_isRight_60 (by decide) ?_
    refine hp_sub [] rfl ?_
    exact j_E_isRight_61  _ _
def m_E_isRight_4 (G : Nat → Nat) : Nat → Nat → Int32 → Int32 → hp_H → Option (Int32 × hp_H)
  | 0, _, _, _, _ => none
  | n + 1, a0, a1, a2, h => (hp_gI h a0 5 7).bind fun x1 => if x1 ≤ a2 then (m_E_isRight_51 G a1 h) else (if (100 : Int32) ≤ a2 then (m_E_isRight_51 G a1 h) else ((hp_gR h a0 5 1).bind fun x2 => (hp_aI h .int x2 a2).bind fun x3 => (hp_gR h a0 5 2).bind fun x4 => (hp_aI h .int x4 a2).bind fun x5 => (m_E_takenBy G x3 x5 h).bind fun q6 => hp_nm (a1 - q6.1) fun x7 => if 0 ≤ x7 then (hp_nm (x7 + 1) fun x8 => hp_nm (a2 + 1) fun x9 => (m_E_isRight_4 G  n) a0 x8 x9 q6.2) else (hp_z (0 : Int32) q6.2)))
set_option maxRecDepth 100000 in
set_option maxHeartbeats 4000000 in
theorem j_E_isRight_4 {Z : hp_Z} : ∀ (n : Nat) (a0 : Nat) (a1 : Int32) (a2 : Int32) (h : hp_H), hp_J Y_E_isRight Z hp_rI h 4 [(0, .ref a0), (1, .int a1), (2, .int a2)] [] (m_E_isRight_4 (hp_G Z)  n a0 a1 a2 h) := by
  intro n
  induction n with
  | zero => intro a0 a1 a2 h; exact hp_fail
  | succ n ih =>
    intro a0 a1 a2 h
    rw [m_E_isRight_4]
    refine hp_iload_n (x0 := 2) d_E_isRight_4 rfl rfl ?_
    refine hp_aload_n (x0 := 0) d_E_isRight_5 rfl rfl ?_
    refine hp_getI fl_E_46 d_E_isRight_6 fun x1 => ?_
    refine hp_icmp_ge (tgt := 51) d_E_isRight_9 (by decide) ?_ ?_
    · refine hp_sub [1] rfl ?_
      exact j_E_isRight_51  _ _
    · refine hp_iload_n (x0 := 2) d_E_isRight_12 rfl rfl ?_
      refine hp_bipush (v := 100) d_E_isRight_13 (by decide) ?_
      refine hp_icmp_ge (tgt := 51) d_E_isRight_15 (by decide) ?_ ?_
      · refine hp_sub [1] rfl ?_
        exact j_E_isRight_51  _ _
      · refine hp_iload_n (x0 := 1) d_E_isRight_18 rfl rfl ?_
        refine hp_aload_n (x0 := 0) d_E_isRight_19 rfl rfl ?_
        refine hp_getR fl_E_9 d_E_isRight_20 fun x2 => ?_
        refine hp_iload_n (x0 := 2) d_E_isRight_23 rfl rfl ?_
        refine hp_iald d_E_isRight_24 fun x3 => ?_
        refine hp_aload_n (x0 := 0) d_E_isRight_25 rfl rfl ?_
        refine hp_getR fl_E_15 d_E_isRight_26 fun x4 => ?_
        refine hp_iload_n (x0 := 2) d_E_isRight_29 rfl rfl ?_
        refine hp_iald d_E_isRight_30 fun x5 => ?_
        refine hp_callI (hp_crS (t_E_takenBy _ _ _ _) cw_E_63 w_527 (by decide) rfl rfl (Nat.le_of_ble_eq_true rfl) d_E_isRight_31) fun q6 => ?_
        refine hp_isub d_E_isRight_34 ?_
        refine hp_istore_n (fun x7 => [(1, .int x7), (0, .ref a0), (2, .int a2)]) d_E_isRight_35 rfl (by decide) (fun _ => rfl) fun x7 => ?_
        refine hp_iload_n (x0 := 0) d_E_isRight_36 rfl rfl ?_
        refine hp_if_ge (tgt := 42) d_E_isRight_37 (by decide) ?_ ?_
        · refine hp_iinc (x0 := 0) (d := 1) (fun x8 => [(1, .int x8), (0, .ref a0), (2, .int a2)]) d_E_isRight_42 rfl (by decide) (by decide) (fun _ => rfl) fun x8 => ?_
          refine hp_iinc (x0 := 2) (d := 1) (fun x9 => [(2, .int x9), (1, .int x8), (0, .ref a0)]) d_E_isRight_45 rfl (by decide) (by decide) (fun _ => rfl) fun x9 => ?_
          refine hp_goto (tgt := 4) d_E_isRight_48 (by decide) ?_
          refine hp_sub [2, 1, 0] rfl ?_
          exact ih _ _ _ _
        · refine hp_iconst (v := 0) d_E_isRight_40 (by decide) ?_
          exact hp_zret d_E_isRight_41 rfl
def m_E_isRight (G : Nat → Nat) (a0 : Nat) (h : hp_H) : Option (Int32 × hp_H) := hp_nm (0 : Int32) fun x1 => hp_nm (0 : Int32) fun x2 => m_E_isRight_4 G hp_fu a0 x1 x2 h
set_option maxRecDepth 100000 in
set_option maxHeartbeats 4000000 in
theorem j_E_isRight_0 {Z : hp_Z} (a0 : Nat) (h : hp_H) : hp_J Y_E_isRight Z hp_rI h 0 [(0, .ref a0)] [] (m_E_isRight (hp_G Z)  a0 h) := by
  unfold m_E_isRight
  refine hp_iconst (v := 0) d_E_isRight_0 (by decide) ?_
  refine hp_istore_n (fun x1 => [(1, .int x1), (0, .ref a0)]) d_E_isRight_1 rfl (by decide) (fun _ => rfl) fun x1 => ?_
  refine hp_iconst (v := 0) d_E_isRight_2 (by decide) ?_
  refine hp_istore_n (fun x2 => [(2, .int x2), (1, .int x1), (0, .ref a0)]) d_E_isRight_3 rfl (by decide) (fun _ => rfl) fun x2 => ?_
  refine hp_sub [2, 1, 0] rfl ?_
  exact j_E_isRight_4  hp_fu _ _ _ _
theorem t_E_isRight (l : Launch) (E : hp_E) (a0 : Nat) : hp_M l E y_E_isRight Y_E_isRight hp_rI [.ref a0] (m_E_isRight E.2.2.1 a0) := hp_M.of (by decide +kernel) ⟨rfl, rfl⟩ (Nat.le_of_ble_eq_true rfl) (fun Z h hE => by subst hE; exact j_E_isRight_0 _ h)
-- R_putPart
theorem d_R_putPart_0 : decode prog_5_method_4_code 0 = .ok (.iload_n 2, 1) := by decide +kernel
theorem d_R_putPart_1 : decode prog_5_method_4_code 1 = .ok (.iconst 0, 1) := by decide +kernel
theorem d_R_putPart_2 : decode prog_5_method_4_code 2 = .ok (.invokestatic 23, 3) := by decide +kernel
theorem d_R_putPart_5 : decode prog_5_method_4_code 5 = .ok (.istore 4, 2) := by decide +kernel
theorem d_R_putPart_7 : decode prog_5_method_4_code 7 = .ok (.iload 4, 2) := by decide +kernel
theorem d_R_putPart_9 : decode prog_5_method_4_code 9 = .ok (.iload_n 3, 1) := by decide +kernel
theorem d_R_putPart_10 : decode prog_5_method_4_code 10 = .ok (.if_icmp .ge 24, 3) := by decide +kernel
theorem d_R_putPart_13 : decode prog_5_method_4_code 13 = .ok (.iload 4, 2) := by decide +kernel
theorem d_R_putPart_15 : decode prog_5_method_4_code 15 = .ok (.aload_n 1, 1) := by decide +kernel
theorem d_R_putPart_16 : decode prog_5_method_4_code 16 = .ok (.arraylength, 1) := by decide +kernel
theorem d_R_putPart_17 : decode prog_5_method_4_code 17 = .ok (.if_icmp .ge 17, 3) := by decide +kernel
theorem d_R_putPart_20 : decode prog_5_method_4_code 20 = .ok (.aload_n 0, 1) := by decide +kernel
theorem d_R_putPart_21 : decode prog_5_method_4_code 21 = .ok (.aload_n 1, 1) := by decide +kernel
theorem d_R_putPart_22 : decode prog_5_method_4_code 22 = .ok (.iload 4, 2) := by decide +kernel
theorem d_R_putPart_24 : decode prog_5_method_4_code 24 = .ok (.baload, 1) := by decide +kernel
theorem d_R_putPart_25 : decode prog_5_method_4_code 25 = .ok (.invokevirtual 29, 3) := by decide +kernel
theorem d_R_putPart_28 : decode prog_5_method_4_code 28 = .ok (.iinc 4 1, 3) := by decide +kernel
theorem d_R_putPart_31 : decode prog_5_method_4_code 31 = .ok (.goto (-24), 3) := by decide +kernel
theorem d_R_putPart_34 : decode prog_5_method_4_code 34 = .ok (.return_, 1) := by decide +kernel
def m_R_putPart_34 (G : Nat → Nat) (h : hp_H) : Option (Unit × hp_H) := some ((), h)
set_option maxRecDepth 100000 in
set_option maxHeartbeats 4000000 in
theorem j_R_putPart_34 {Z : hp_Z} (h : hp_H) : hp_J Y_R_putPart Z hp_rV h 34 [] [] (m_R_putPart_34 (hp_G Z)   h) := by
  unfold m_R_putPart_34
  exact hp_vret d_R_putPart_34 rfl
def m_R_putPart_7 (G : Nat → Nat) : Nat → Nat → Nat → Int32 → Int32 → hp_H → Option (Unit × hp_H)
  | 0, _, _, _, _, _ => none
  | n + 1, a0, a1, a3, a4, h => if a3 ≤ a4 then (m_R_putPart_34 G h) else ((hp_len h a1).bind fun x1 => if x1 ≤ a4 then (m_R_putPart_34 G h) else ((hp_aI h .byte a1 a4).bind fun x2 => (hp_vck h a0 4 (m_R_put G a0 x2 h)).bind fun q3 => hp_nm (a4 + 1) fun x4 => (m_R_putPart_7 G  n) a0 a1 a3 x4 q3.2))
set_option maxRecDepth 100000 in
set_option maxHeartbeats 4000000 in
theorem j_R_putPart_7 {Z : hp_Z} : ∀ (n : Nat) (a0 : Nat) (a1 : Nat) (a3 : Int32) (a4 : Int32) (h : hp_H), hp_J Y_R_putPart Z hp_rV h 7 [(0, .ref a0), (1, .ref a1), (3, .int a3), (4, .int a4)] [] (m_R_putPart_7 (hp_G Z)  n a0 a1 a3 a4 h) := by
  intro n
  induction n with
  | zero => intro a0 a1 a3 a4 h; exact hp_fail
  | succ n ih =>
    intro a0 a1 a3 a4 h
    rw [m_R_putPart_7]
    refine hp_iload (x0 := 3) d_R_putPart_7 rfl ?_
    refine hp_iload_n (x0 := 2) d_R_putPart_9 rfl rfl ?_
    refine hp_icmp_ge (tgt := 34) d_R_putPart_10 (by decide) ?_ ?_
    · refine hp_sub [] rfl ?_
      exact j_R_putPart_34   _
    · refine hp_iload (x0 := 3) d_R_putPart_13 rfl ?_
      refine hp_aload_n (x0 := 1) d_R_putPart_15 rfl rfl ?_
      refine hp_alen d_R_putPart_16 fun x1 => ?_
      refine hp_icmp_ge (tgt := 34) d_R_putPart_17 (by decide) ?_ ?_
      · refine hp_sub [] rfl ?_
        exact j_R_putPart_34   _
      · refine hp_aload_n (x0 := 0) d_R_putPart_20 rfl rfl ?_
        refine hp_aload_n (x0 := 1) d_R_putPart_21 rfl rfl ?_
        refine hp_iload (x0 := 3) d_R_putPart_22 rfl ?_
        refine hp_bald d_R_putPart_24 fun x2 => ?_
        refine hp_callU (hp_crV (ci := 4) (t_R_put _ _ _ _) cw_R_29 rfl ⟨w_269, w_270⟩ (by decide) rfl rfl (Nat.le_of_ble_eq_true rfl) d_R_putPart_25) fun q3 => ?_
        refine hp_iinc (x0 := 3) (d := 1) (fun x4 => [(4, .int x4), (0, .ref a0), (1, .ref a1), (3, .int a3)]) d_R_putPart_28 rfl (by decide) (by decide) (fun _ => rfl) fun x4 => ?_
        refine hp_goto (tgt := 7) d_R_putPart_31 (by decide) ?_
        refine hp_sub [1, 2, 3, 0] rfl ?_
        exact ih _ _ _ _ _
def m_R_putPart (G : Nat → Nat) (a0 : Nat) (a1 : Nat) (a2 : Int32) (a3 : Int32) (h : hp_H) : Option (Unit × hp_H) := (m_MA_max G a2 (0 : Int32) h).bind fun q1 => hp_nm q1.1 fun x2 => m_R_putPart_7 G hp_fu a0 a1 a3 x2 q1.2
set_option maxRecDepth 100000 in
set_option maxHeartbeats 4000000 in
theorem j_R_putPart_0 {Z : hp_Z} (a0 : Nat) (a1 : Nat) (a2 : Int32) (a3 : Int32) (h : hp_H) : hp_J Y_R_putPart Z hp_rV h 0 [(0, .ref a0), (1, .ref a1), (2, .int a2), (3, .int a3)] [] (m_R_putPart (hp_G Z)  a0 a1 a2 a3 h) := by
  unfold m_R_putPart
  refine hp_iload_n (x0 := 2) d_R_putPart_0 rfl rfl ?_
  refine hp_iconst (v := 0) d_R_putPart_1 (by decide) ?_
  refine hp_callI (hp_crS (t_MA_max _ _ _ _) cw_R_23 w_351 (by decide) rfl rfl (Nat.le_of_ble_eq_true rfl) d_R_putPart_2) fun q1 => ?_
  refine hp_istore (fun x2 => [(4, .int x2), (0, .ref a0), (1, .ref a1), (2, .int a2), (3, .int a3)]) d_R_putPart_5 (by decide) (fun _ => rfl) fun x2 => ?_
  refine hp_sub [1, 2, 4, 0] rfl ?_
  exact j_R_putPart_7  hp_fu _ _ _ _ _
theorem t_R_putPart (l : Launch) (E : hp_E) (a0 : Nat) (a1 : Nat) (a2 : Int32) (a3 : Int32) : hp_M l E y_R_putPart Y_R_putPart hp_rV [.ref a0, .ref a1, .int a2, .int a3] (m_R_putPart E.2.2.1 a0 a1 a2 a3) := hp_M.of (by decide +kernel) ⟨rfl, rfl⟩ (Nat.le_of_ble_eq_true rfl) (fun Z h hE => by subst hE; exact j_R_putPart_0 _ _ _ _ h)
-- V_isPlainOrTagged
theorem d_V_isPlainOrTagged_0 : decode prog_7_method_3_code 0 = .ok (.aload_n 0, 1) := by decide +kernel
theorem d_V_isPlainOrTagged_1 : decode prog_7_method_3_code 1 = .ok (.getfield 9, 3) := by decide +kernel
theorem d_V_isPlainOrTagged_4 : decode prog_7_method_3_code 4 = .ok (.iconst 5, 1) := by decide +kernel
theorem d_V_isPlainOrTagged_5 : decode prog_7_method_3_code 5 = .ok (.if_icmp .eq 12, 3) := by decide +kernel
theorem d_V_isPlainOrTagged_8 : decode prog_7_method_3_code 8 = .ok (.aload_n 0, 1) := by decide +kernel
theorem d_V_isPlainOrTagged_9 : decode prog_7_method_3_code 9 = .ok (.getfield 9, 3) := by decide +kernel
theorem d_V_isPlainOrTagged_12 : decode prog_7_method_3_code 12 = .ok (.bipush 6, 2) := by decide +kernel
theorem d_V_isPlainOrTagged_14 : decode prog_7_method_3_code 14 = .ok (.if_icmp .ne 7, 3) := by decide +kernel
theorem d_V_isPlainOrTagged_17 : decode prog_7_method_3_code 17 = .ok (.iconst 1, 1) := by decide +kernel
theorem d_V_isPlainOrTagged_18 : decode prog_7_method_3_code 18 = .ok (.goto 4, 3) := by decide +kernel
theorem d_V_isPlainOrTagged_21 : decode prog_7_method_3_code 21 = .ok (.iconst 0, 1) := by decide +kernel
theorem d_V_isPlainOrTagged_22 : decode prog_7_method_3_code 22 = .ok (.ireturn, 1) := by decide +kernel
def m_V_isPlainOrTagged_22 (G : Nat → Nat) (s0 : Int32) (h : hp_H) : Option (Int32 × hp_H) := hp_z s0 h
set_option maxRecDepth 100000 in
set_option maxHeartbeats 4000000 in
theorem j_V_isPlainOrTagged_22 {Z : hp_Z} (s0 : Int32) (h : hp_H) : hp_J Y_V_isPlainOrTagged Z hp_rI h 22 [] [.int s0] (m_V_isPlainOrTagged_22 (hp_G Z)  s0 h) := by
  unfold m_V_isPlainOrTagged_22
  exact hp_zret d_V_isPlainOrTagged_22 rfl
def m_V_isPlainOrTagged_17 (G : Nat → Nat) (h : hp_H) : Option (Int32 × hp_H) := m_V_isPlainOrTagged_22 G (1 : Int32) h
set_option maxRecDepth 100000 in
set_option maxHeartbeats 4000000 in
theorem j_V_isPlainOrTagged_17 {Z : hp_Z} (h : hp_H) : hp_J Y_V_isPlainOrTagged Z hp_rI h 17 [] [] (m_V_isPlainOrTagged_17 (hp_G Z)   h) := by
  unfold m_V_isPlainOrTagged_17
  refine hp_iconst (v := 1) d_V_isPlainOrTagged_17 (by decide) ?_
  refine hp_goto (tgt := 22) d_V_isPlainOrTagged_18 (by decide) ?_
  exact j_V_isPlainOrTagged_22  _ _
def m_V_isPlainOrTagged (G : Nat → Nat) (a0 : Nat) (h : hp_H) : Option (Int32 × hp_H) := (hp_gI h a0 3 0).bind fun x1 => if x1 = (5 : Int32) then (m_V_isPlainOrTagged_17 G h) else ((hp_gI h a0 3 0).bind fun x2 => if x2 = (6 : Int32) then (m_V_isPlainOrTagged_17 G h) else (m_V_isPlainOrTagged_22 G (0 : Int32) h))
set_option maxRecDepth 100000 in
set_option maxHeartbeats 4000000 in
theorem j_V_isPlainOrTagged_0 {Z : hp_Z} (a0 : Nat) (h : hp_H) : hp_J Y_V_isPlainOrTagged Z hp_rI h 0 [(0, .ref a0)] [] (m_V_isPlainOrTagged (hp_G Z)  a0 h) := by
  unfold m_V_isPlainOrTagged
  refine hp_aload_n (x0 := 0) d_V_isPlainOrTagged_0 rfl rfl ?_
  refine hp_getI fl_V_9 d_V_isPlainOrTagged_1 fun x1 => ?_
  refine hp_iconst (v := 5) d_V_isPlainOrTagged_4 (by decide) ?_
  refine hp_icmp_eq (tgt := 17) d_V_isPlainOrTagged_5 (by decide) ?_ ?_
  · refine hp_sub [] rfl ?_
    exact j_V_isPlainOrTagged_17   _
  · refine hp_aload_n (x0 := 0) d_V_isPlainOrTagged_8 rfl rfl ?_
    refine hp_getI fl_V_9 d_V_isPlainOrTagged_9 fun x2 => ?_
    refine hp_bipush (v := 6) d_V_isPlainOrTagged_12 (by decide) ?_
    refine hp_icmp_ne (tgt := 21) d_V_isPlainOrTagged_14 (by decide) ?_ ?_
    · refine hp_sub [] rfl ?_
      exact j_V_isPlainOrTagged_17   _
    · refine hp_iconst (v := 0) d_V_isPlainOrTagged_21 (by decide) ?_
      refine hp_sub [] rfl ?_
      exact j_V_isPlainOrTagged_22  _ _
theorem t_V_isPlainOrTagged (l : Launch) (E : hp_E) (a0 : Nat) : hp_M l E y_V_isPlainOrTagged Y_V_isPlainOrTagged hp_rI [.ref a0] (m_V_isPlainOrTagged E.2.2.1 a0) := hp_M.of (by decide +kernel) ⟨rfl, rfl⟩ (Nat.le_of_ble_eq_true rfl) (fun Z h hE => by subst hE; exact j_V_isPlainOrTagged_0 _ h)
-- R_putDigits
theorem d_R_putDigits_0 : decode prog_5_method_6_code 0 = .ok (.iconst 0, 1) := by decide +kernel
theorem d_R_putDigits_1 : decode prog_5_method_6_code 1 = .ok (.istore 4, 2) := by decide +kernel
theorem d_R_putDigits_3 : decode prog_5_method_6_code 3 = .ok (.getstatic 42, 3) := by decide +kernel
theorem d_R_putDigits_6 : decode prog_5_method_6_code 6 = .ok (.arraylength, 1) := by decide +kernel
theorem d_R_putDigits_7 : decode prog_5_method_6_code 7 = .ok (.iconst 1, 1) := by decide +kernel
theorem d_R_putDigits_8 : decode prog_5_method_6_code 8 = .ok (.isub, 1) := by decide +kernel
theorem d_R_putDigits_9 : decode prog_5_method_6_code 9 = .ok (.istore 5, 2) := by decide +kernel
theorem d_R_putDigits_11 : decode prog_5_method_6_code 11 = .ok (.iload 5, 2) := by decide +kernel
theorem d_R_putDigits_13 : decode prog_5_method_6_code 13 = .ok (.ifCond .lt 63, 3) := by decide +kernel
theorem d_R_putDigits_16 : decode prog_5_method_6_code 16 = .ok (.lload_n 1, 1) := by decide +kernel
theorem d_R_putDigits_17 : decode prog_5_method_6_code 17 = .ok (.iload 5, 2) := by decide +kernel
theorem d_R_putDigits_19 : decode prog_5_method_6_code 19 = .ok (.invokestatic 46, 3) := by decide +kernel
theorem d_R_putDigits_22 : decode prog_5_method_6_code 22 = .ok (.ldiv, 1) := by decide +kernel
theorem d_R_putDigits_23 : decode prog_5_method_6_code 23 = .ok (.ldc2_w 50, 3) := by decide +kernel
theorem d_R_putDigits_26 : decode prog_5_method_6_code 26 = .ok (.lrem, 1) := by decide +kernel
theorem d_R_putDigits_27 : decode prog_5_method_6_code 27 = .ok (.lstore 6, 2) := by decide +kernel
theorem d_R_putDigits_29 : decode prog_5_method_6_code 29 = .ok (.iload 4, 2) := by decide +kernel
theorem d_R_putDigits_31 : decode prog_5_method_6_code 31 = .ok (.ifCond .ne 16, 3) := by decide +kernel
theorem d_R_putDigits_34 : decode prog_5_method_6_code 34 = .ok (.lload 6, 2) := by decide +kernel
theorem d_R_putDigits_36 : decode prog_5_method_6_code 36 = .ok (.lconst 0, 1) := by decide +kernel
theorem d_R_putDigits_37 : decode prog_5_method_6_code 37 = .ok (.lcmp, 1) := by decide +kernel
theorem d_R_putDigits_38 : decode prog_5_method_6_code 38 = .ok (.ifCond .ne 9, 3) := by decide +kernel
theorem d_R_putDigits_41 : decode prog_5_method_6_code 41 = .ok (.iload 5, 2) := by decide +kernel
theorem d_R_putDigits_43 : decode prog_5_method_6_code 43 = .ok (.iload_n 3, 1) := by decide +kernel
theorem d_R_putDigits_44 : decode prog_5_method_6_code 44 = .ok (.if_icmp .ge 7, 3) := by decide +kernel
theorem d_R_putDigits_47 : decode prog_5_method_6_code 47 = .ok (.iconst 1, 1) := by decide +kernel
theorem d_R_putDigits_48 : decode prog_5_method_6_code 48 = .ok (.goto 4, 3) := by decide +kernel
theorem d_R_putDigits_51 : decode prog_5_method_6_code 51 = .ok (.iconst 0, 1) := by decide +kernel
theorem d_R_putDigits_52 : decode prog_5_method_6_code 52 = .ok (.istore 4, 2) := by decide +kernel
theorem d_R_putDigits_54 : decode prog_5_method_6_code 54 = .ok (.iload 4, 2) := by decide +kernel
theorem d_R_putDigits_56 : decode prog_5_method_6_code 56 = .ok (.ifCond .eq 14, 3) := by decide +kernel
theorem d_R_putDigits_59 : decode prog_5_method_6_code 59 = .ok (.aload_n 0, 1) := by decide +kernel
theorem d_R_putDigits_60 : decode prog_5_method_6_code 60 = .ok (.ldc2_w 52, 3) := by decide +kernel
theorem d_R_putDigits_63 : decode prog_5_method_6_code 63 = .ok (.lload 6, 2) := by decide +kernel
theorem d_R_putDigits_65 : decode prog_5_method_6_code 65 = .ok (.ladd, 1) := by decide +kernel
theorem d_R_putDigits_66 : decode prog_5_method_6_code 66 = .ok (.l2i, 1) := by decide +kernel
theorem d_R_putDigits_67 : decode prog_5_method_6_code 67 = .ok (.invokevirtual 29, 3) := by decide +kernel
theorem d_R_putDigits_70 : decode prog_5_method_6_code 70 = .ok (.iinc 5 (-1), 3) := by decide +kernel
theorem d_R_putDigits_73 : decode prog_5_method_6_code 73 = .ok (.goto (-62), 3) := by decide +kernel
theorem d_R_putDigits_76 : decode prog_5_method_6_code 76 = .ok (.return_, 1) := by decide +kernel
def m_R_putDigits_70 (G : Nat → Nat) (r11 : Nat → Int64 → Int32 → Int32 → Int32 → hp_H → Option (Unit × hp_H)) (a0 : Nat) (a1 : Int64) (a3 : Int32) (a4 : Int32) (a5 : Int32) (h : hp_H) : Option (Unit × hp_H) := hp_nm (a5 + (-1)) fun x1 => r11 a0 a1 a3 a4 x1 h
set_option maxRecDepth 100000 in
set_option maxHeartbeats 4000000 in
theorem j_R_putDigits_70 {Z : hp_Z} (r11 : Nat → Int64 → Int32 → Int32 → Int32 → hp_H → Option (Unit × hp_H)) (hr11 : ∀ (a0 : Nat) (a1 : Int64) (a3 : Int32) (a4 : Int32) (a5 : Int32) (h : hp_H), hp_J Y_R_putDigits Z hp_rV h 11 [(0, .ref a0), (1, .long a1), (3, .int a3), (4, .int a4), (5, .int a5)] [] (r11 a0 a1 a3 a4 a5  h)) (a0 : Nat) (a1 : Int64) (a3 : Int32) (a4 : Int32) (a5 : Int32) (h : hp_H) : hp_J Y_R_putDigits Z hp_rV h 70 [(0, .ref a0), (1, .long a1), (3, .int a3), (4, .int a4), (5, .int a5)] [] (m_R_putDigits_70 (hp_G Z) r11 a0 a1 a3 a4 a5 h) := by
  unfold m_R_putDigits_70
  refine hp_iinc (x0 := 4) (d := -1) (fun x1 => [(5, .int x1), (0, .ref a0), (1, .long a1), (3, .int a3), (4, .int a4)]) d_R_putDigits_70 rfl (by decide) (by decide) (fun _ => rfl) fun x1 => ?_
  refine hp_goto (tgt := 11) d_R_putDigits_73 (by decide) ?_
  refine hp_sub [1, 2, 3, 4, 0] rfl ?_
  exact hr11 _ _ _ _ _ _
def m_R_putDigits_52 (G : Nat → Nat) (r11 : Nat → Int64 → Int32 → Int32 → Int32 → hp_H → Option (Unit × hp_H)) (a0 : Nat) (a1 : Int64) (a3 : Int32) (a5 : Int32) (a6 : Int64) (s0 : Int32) (h : hp_H) : Option (Unit × hp_H) := hp_nm s0 fun x1 => if x1 = 0 then (m_R_putDigits_70 G r11 a0 a1 a3 x1 a5 h) else ((hp_vck h a0 4 (m_R_put G a0 (((48 : Int64) + a6).toInt32) h)).bind fun q2 => m_R_putDigits_70 G r11 a0 a1 a3 x1 a5 q2.2)
set_option maxRecDepth 100000 in
set_option maxHeartbeats 4000000 in
theorem j_R_putDigits_52 {Z : hp_Z} (r11 : Nat → Int64 → Int32 → Int32 → Int32 → hp_H → Option (Unit × hp_H)) (hr11 : ∀ (a0 : Nat) (a1 : Int64) (a3 : Int32) (a4 : Int32) (a5 : Int32) (h : hp_H), hp_J Y_R_putDigits Z hp_rV h 11 [(0, .ref a0), (1, .long a1), (3, .int a3), (4, .int a4), (5, .int a5)] [] (r11 a0 a1 a3 a4 a5  h)) (a0 : Nat) (a1 : Int64) (a3 : Int32) (a5 : Int32) (a6 : Int64) (s0 : Int32) (h : hp_H) : hp_J Y_R_putDigits Z hp_rV h 52 [(0, .ref a0), (1, .long a1), (3, .int a3), (5, .int a5), (6, .long a6)] [.int s0] (m_R_putDigits_52 (hp_G Z) r11 a0 a1 a3 a5 a6 s0 h) := by
  unfold m_R_putDigits_52
  refine hp_istore (fun x1 => [(4, .int x1), (0, .ref a0), (1, .long a1), (3, .int a3), (5, .int a5), (6, .long a6)]) d_R_putDigits_52 (by decide) (fun _ => rfl) fun x1 => ?_
  refine hp_iload (x0 := 0) d_R_putDigits_54 rfl ?_
  refine hp_if_eq (tgt := 70) d_R_putDigits_56 (by decide) ?_ ?_
  · refine hp_sub [1, 2, 3, 0, 4] rfl ?_
    exact j_R_putDigits_70 _ hr11 _ _ _ _ _ _
  · refine hp_aload_n (x0 := 1) d_R_putDigits_59 rfl rfl ?_
    refine hp_ldc2 (v := 48) d_R_putDigits_60 w_710 ?_
    refine hp_lload (x0 := 5) d_R_putDigits_63 rfl ?_
    refine hp_ladd d_R_putDigits_65 ?_
    refine hp_l2i d_R_putDigits_66 ?_
    refine hp_callU (hp_crV (ci := 4) (t_R_put _ _ _ _) cw_R_29 rfl ⟨w_269, w_270⟩ (by decide) rfl rfl (Nat.le_of_ble_eq_true rfl) d_R_putDigits_67) fun q2 => ?_
    refine hp_sub [1, 2, 3, 0, 4] rfl ?_
    exact j_R_putDigits_70 _ hr11 _ _ _ _ _ _
def m_R_putDigits_47 (G : Nat → Nat) (r11 : Nat → Int64 → Int32 → Int32 → Int32 → hp_H → Option (Unit × hp_H)) (a0 : Nat) (a1 : Int64) (a3 : Int32) (a5 : Int32) (a6 : Int64) (h : hp_H) : Option (Unit × hp_H) := m_R_putDigits_52 G r11 a0 a1 a3 a5 a6 (1 : Int32) h
set_option maxRecDepth 100000 in
set_option maxHeartbeats 4000000 in
theorem j_R_putDigits_47 {Z : hp_Z} (r11 : Nat → Int64 → Int32 → Int32 → Int32 → hp_H → Option (Unit × hp_H)) (hr11 : ∀ (a0 : Nat) (a1 : Int64) (a3 : Int32) (a4 : Int32) (a5 : Int32) (h : hp_H), hp_J Y_R_putDigits Z hp_rV h 11 [(0, .ref a0), (1, .long a1), (3, .int a3), (4, .int a4), (5, .int a5)] [] (r11 a0 a1 a3 a4 a5  h)) (a0 : Nat) (a1 : Int64) (a3 : Int32) (a5 : Int32) (a6 : Int64) (h : hp_H) : hp_J Y_R_putDigits Z hp_rV h 47 [(0, .ref a0), (1, .long a1), (3, .int a3), (5, .int a5), (6, .long a6)] [] (m_R_putDigits_47 (hp_G Z) r11 a0 a1 a3 a5 a6 h) := by
  unfold m_R_putDigits_47
  refine hp_iconst (v := 1) d_R_putDigits_47 (by decide) ?_
  refine hp_goto (tgt := 52) d_R_putDigits_48 (by decide) ?_
  exact j_R_putDigits_52 _ hr11 _ _ _ _ _ _ _
def m_R_putDigits_11 (G : Nat → Nat) : Nat → Nat → Int64 → Int32 → Int32 → Int32 → hp_H → Option (Unit × hp_H)
  | 0, _, _, _, _, _, _ => none
  | n + 1, a0, a1, a3, a4, a5, h => if a5 < 0 then (some ((), h)) else ((m_D_power G a5 h).bind fun q1 => (hp_dL a1 q1.1).bind fun x2 => (hp_mL x2 (10 : Int64)).bind fun x3 => hp_nm x3 fun x4 => if a4 = 0 then (if (lg_cmp x4 (0 : Int64)) = 0 then (if a3 ≤ a5 then (m_R_putDigits_52 G (m_R_putDigits_11 G  n) a0 a1 a3 a5 x4 (0 : Int32) q1.2) else (m_R_putDigits_47 G (m_R_putDigits_11 G  n) a0 a1 a3 a5 x4 q1.2)) else (m_R_putDigits_47 G (m_R_putDigits_11 G  n) a0 a1 a3 a5 x4 q1.2)) else (m_R_putDigits_47 G (m_R_putDigits_11 G  n) a0 a1 a3 a5 x4 q1.2))
set_option maxRecDepth 100000 in
set_option maxHeartbeats 4000000 in
theorem j_R_putDigits_11 {Z : hp_Z} : ∀ (n : Nat) (a0 : Nat) (a1 : Int64) (a3 : Int32) (a4 : Int32) (a5 : Int32) (h : hp_H), hp_J Y_R_putDigits Z hp_rV h 11 [(0, .ref a0), (1, .long a1), (3, .int a3), (4, .int a4), (5, .int a5)] [] (m_R_putDigits_11 (hp_G Z)  n a0 a1 a3 a4 a5 h) := by
  intro n
  induction n with
  | zero => intro a0 a1 a3 a4 a5 h; exact hp_fail
  | succ n ih =>
    intro a0 a1 a3 a4 a5 h
    rw [m_R_putDigits_11]
    refine hp_iload (x0 := 4) d_R_putDigits_11 rfl ?_
    refine hp_if_lt (tgt := 76) d_R_putDigits_13 (by decide) ?_ ?_
    · exact hp_vret d_R_putDigits_76 rfl
    · refine hp_lload_n (x0 := 1) d_R_putDigits_16 rfl rfl ?_
      refine hp_iload (x0 := 4) d_R_putDigits_17 rfl ?_
      refine hp_callL (hp_crSN (t_D_power _ _ _) cw_R_46 w_462 (by decide) rfl rfl (Nat.le_of_ble_eq_true rfl) d_R_putDigits_19) fun q1 => ?_
      refine hp_ldiv d_R_putDigits_22 fun x2 => ?_
      refine hp_ldc2 (v := 10) d_R_putDigits_23 w_709 ?_
      refine hp_lrem d_R_putDigits_26 fun x3 => ?_
      refine hp_lstore (fun x4 => [(6, .long x4), (0, .ref a0), (1, .long a1), (3, .int a3), (4, .int a4), (5, .int a5)]) d_R_putDigits_27 (by decide) (fun _ => rfl) fun x4 => ?_
      refine hp_iload (x0 := 4) d_R_putDigits_29 rfl ?_
      refine hp_if_ne (tgt := 47) d_R_putDigits_31 (by decide) ?_ ?_
      · refine hp_lload (x0 := 0) d_R_putDigits_34 rfl ?_
        refine hp_lconst (v := 0) d_R_putDigits_36 (by decide) ?_
        refine hp_lcmp d_R_putDigits_37 ?_
        refine hp_if_ne (tgt := 47) d_R_putDigits_38 (by decide) ?_ ?_
        · refine hp_iload (x0 := 5) d_R_putDigits_41 rfl ?_
          refine hp_iload_n (x0 := 3) d_R_putDigits_43 rfl rfl ?_
          refine hp_icmp_ge (tgt := 51) d_R_putDigits_44 (by decide) ?_ ?_
          · refine hp_iconst (v := 0) d_R_putDigits_51 (by decide) ?_
            refine hp_sub [1, 2, 3, 5, 0] rfl ?_
            exact j_R_putDigits_52 _ ih _ _ _ _ _ _ _
          · refine hp_sub [1, 2, 3, 5, 0] rfl ?_
            exact j_R_putDigits_47 _ ih _ _ _ _ _ _
        · refine hp_sub [1, 2, 3, 5, 0] rfl ?_
          exact j_R_putDigits_47 _ ih _ _ _ _ _ _
      · refine hp_sub [1, 2, 3, 5, 0] rfl ?_
        exact j_R_putDigits_47 _ ih _ _ _ _ _ _
def m_R_putDigits (G : Nat → Nat) (a0 : Nat) (a1 : Int64) (a3 : Int32) (h : hp_H) : Option (Unit × hp_H) := hp_nm (0 : Int32) fun x1 => (hp_len h (G 0)).bind fun x2 => hp_nm (x2 - (1 : Int32)) fun x3 => m_R_putDigits_11 G hp_fu a0 a1 a3 x1 x3 h
set_option maxRecDepth 100000 in
set_option maxHeartbeats 4000000 in
theorem j_R_putDigits_0 {Z : hp_Z} (a0 : Nat) (a1 : Int64) (a3 : Int32) (h : hp_H) : hp_J Y_R_putDigits Z hp_rV h 0 [(0, .ref a0), (1, .long a1), (3, .int a3)] [] (m_R_putDigits (hp_G Z)  a0 a1 a3 h) := by
  unfold m_R_putDigits
  refine hp_iconst (v := 0) d_R_putDigits_0 (by decide) ?_
  refine hp_istore (fun x1 => [(4, .int x1), (0, .ref a0), (1, .long a1), (3, .int a3)]) d_R_putDigits_1 (by decide) (fun _ => rfl) fun x1 => ?_
  refine hp_getsN (k := 0) rfl w_707 d_R_putDigits_3 ?_
  refine hp_alen d_R_putDigits_6 fun x2 => ?_
  refine hp_iconst (v := 1) d_R_putDigits_7 (by decide) ?_
  refine hp_isub d_R_putDigits_8 ?_
  refine hp_istore (fun x3 => [(5, .int x3), (4, .int x1), (0, .ref a0), (1, .long a1), (3, .int a3)]) d_R_putDigits_9 (by decide) (fun _ => rfl) fun x3 => ?_
  refine hp_sub [2, 3, 4, 1, 0] rfl ?_
  exact j_R_putDigits_11  hp_fu _ _ _ _ _ _
theorem t_R_putDigits (l : Launch) (E : hp_E) (a0 : Nat) (a1 : Int64) (a3 : Int32) : hp_M l E y_R_putDigits Y_R_putDigits hp_rV [.ref a0, .long a1, .int a3] (m_R_putDigits E.2.2.1 a0 a1 a3) := hp_M.of (by decide +kernel) ⟨rfl, rfl⟩ (Nat.le_of_ble_eq_true rfl) (fun Z h hE => by subst hE; exact j_R_putDigits_0 _ _ _ h)
-- MA_abs
theorem d_MA_abs_0 : decode prog_15_method_61_code 0 = .ok (.lload_n 0, 1) := by decide +kernel
theorem d_MA_abs_1 : decode prog_15_method_61_code 1 = .ok (.lconst 0, 1) := by decide +kernel
theorem d_MA_abs_2 : decode prog_15_method_61_code 2 = .ok (.lcmp, 1) := by decide +kernel
theorem d_MA_abs_3 : decode prog_15_method_61_code 3 = .ok (.ifCond .ge 8, 3) := by decide +kernel
theorem d_MA_abs_6 : decode prog_15_method_61_code 6 = .ok (.lload_n 0, 1) := by decide +kernel
theorem d_MA_abs_7 : decode prog_15_method_61_code 7 = .ok (.lneg, 1) := by decide +kernel
theorem d_MA_abs_8 : decode prog_15_method_61_code 8 = .ok (.goto 4, 3) := by decide +kernel
theorem d_MA_abs_11 : decode prog_15_method_61_code 11 = .ok (.lload_n 0, 1) := by decide +kernel
theorem d_MA_abs_12 : decode prog_15_method_61_code 12 = .ok (.lreturn, 1) := by decide +kernel
def m_MA_abs_12 (G : Nat → Nat) (s0 : Int64) (h : hp_H) : Option (Int64 × hp_H) := some (s0, h)
set_option maxRecDepth 100000 in
set_option maxHeartbeats 4000000 in
theorem j_MA_abs_12 {Z : hp_Z} (s0 : Int64) (h : hp_H) : hp_J Y_MA_abs Z hp_rL h 12 [] [.long s0] (m_MA_abs_12 (hp_G Z)  s0 h) := by
  unfold m_MA_abs_12
  exact hp_lret d_MA_abs_12 rfl
def m_MA_abs (G : Nat → Nat) (a0 : Int64) (h : hp_H) : Option (Int64 × hp_H) := if 0 ≤ (lg_cmp a0 (0 : Int64)) then (m_MA_abs_12 G a0 h) else (m_MA_abs_12 G (-a0) h)
set_option maxRecDepth 100000 in
set_option maxHeartbeats 4000000 in
theorem j_MA_abs_0 {Z : hp_Z} (a0 : Int64) (h : hp_H) : hp_J Y_MA_abs Z hp_rL h 0 [(0, .long a0)] [] (m_MA_abs (hp_G Z)  a0 h) := by
  unfold m_MA_abs
  refine hp_lload_n (x0 := 0) d_MA_abs_0 rfl rfl ?_
  refine hp_lconst (v := 0) d_MA_abs_1 (by decide) ?_
  refine hp_lcmp d_MA_abs_2 ?_
  refine hp_if_ge (tgt := 11) d_MA_abs_3 (by decide) ?_ ?_
  · refine hp_lload_n (x0 := 0) d_MA_abs_11 rfl rfl ?_
    refine hp_sub [] rfl ?_
    exact j_MA_abs_12  _ _
  · refine hp_lload_n (x0 := 0) d_MA_abs_6 rfl rfl ?_
    refine hp_lneg d_MA_abs_7 ?_
    refine hp_goto (tgt := 12) d_MA_abs_8 (by decide) ?_
    refine hp_sub [] rfl ?_
    exact j_MA_abs_12  _ _
theorem t_MA_abs (l : Launch) (E : hp_E) (a0 : Int64) : hp_M l E y_MA_abs Y_MA_abs hp_rL [.long a0] (m_MA_abs E.2.2.1 a0) := hp_M.of (by decide +kernel) ⟨rfl, rfl⟩ (Nat.le_of_ble_eq_true rfl) (fun Z h hE => by subst hE; exact j_MA_abs_0 _ h)
-- MA_max2
theorem d_MA_max2_0 : decode prog_15_method_66_code 0 = .ok (.lload_n 0, 1) := by decide +kernel
theorem d_MA_max2_1 : decode prog_15_method_66_code 1 = .ok (.lload_n 2, 1) := by decide +kernel
theorem d_MA_max2_2 : decode prog_15_method_66_code 2 = .ok (.lcmp, 1) := by decide +kernel
theorem d_MA_max2_3 : decode prog_15_method_66_code 3 = .ok (.ifCond .lt 7, 3) := by decide +kernel
theorem d_MA_max2_6 : decode prog_15_method_66_code 6 = .ok (.lload_n 0, 1) := by decide +kernel
theorem d_MA_max2_7 : decode prog_15_method_66_code 7 = .ok (.goto 4, 3) := by decide +kernel
theorem d_MA_max2_10 : decode prog_15_method_66_code 10 = .ok (.lload_n 2, 1) := by decide +kernel
theorem d_MA_max2_11 : decode prog_15_method_66_code 11 = .ok (.lreturn, 1) := by decide +kernel
def m_MA_max2_11 (G : Nat → Nat) (s0 : Int64) (h : hp_H) : Option (Int64 × hp_H) := some (s0, h)
set_option maxRecDepth 100000 in
set_option maxHeartbeats 4000000 in
theorem j_MA_max2_11 {Z : hp_Z} (s0 : Int64) (h : hp_H) : hp_J Y_MA_max2 Z hp_rL h 11 [] [.long s0] (m_MA_max2_11 (hp_G Z)  s0 h) := by
  unfold m_MA_max2_11
  exact hp_lret d_MA_max2_11 rfl
def m_MA_max2 (G : Nat → Nat) (a0 : Int64) (a2 : Int64) (h : hp_H) : Option (Int64 × hp_H) := if (lg_cmp a0 a2) < 0 then (m_MA_max2_11 G a2 h) else (m_MA_max2_11 G a0 h)
set_option maxRecDepth 100000 in
set_option maxHeartbeats 4000000 in
theorem j_MA_max2_0 {Z : hp_Z} (a0 : Int64) (a2 : Int64) (h : hp_H) : hp_J Y_MA_max2 Z hp_rL h 0 [(0, .long a0), (2, .long a2)] [] (m_MA_max2 (hp_G Z)  a0 a2 h) := by
  unfold m_MA_max2
  refine hp_lload_n (x0 := 0) d_MA_max2_0 rfl rfl ?_
  refine hp_lload_n (x0 := 1) d_MA_max2_1 rfl rfl ?_
  refine hp_lcmp d_MA_max2_2 ?_
  refine hp_if_lt (tgt := 10) d_MA_max2_3 (by decide) ?_ ?_
  · refine hp_lload_n (x0 := 1) d_MA_max2_10 rfl rfl ?_
    refine hp_sub [] rfl ?_
    exact j_MA_max2_11  _ _
  · refine hp_lload_n (x0 := 0) d_MA_max2_6 rfl rfl ?_
    refine hp_goto (tgt := 11) d_MA_max2_7 (by decide) ?_
    refine hp_sub [] rfl ?_
    exact j_MA_max2_11  _ _
theorem t_MA_max2 (l : Launch) (E : hp_E) (a0 : Int64) (a2 : Int64) : hp_M l E y_MA_max2 Y_MA_max2 hp_rL [.long a0, .long a2] (m_MA_max2 E.2.2.1 a0 a2) := hp_M.of (by decide +kernel) ⟨rfl, rfl⟩ (Nat.le_of_ble_eq_true rfl) (fun Z h hE => by subst hE; exact j_MA_max2_0 _ _ h)
-- MA_min2
theorem d_MA_min2_0 : decode prog_15_method_70_code 0 = .ok (.lload_n 0, 1) := by decide +kernel
theorem d_MA_min2_1 : decode prog_15_method_70_code 1 = .ok (.lload_n 2, 1) := by decide +kernel
theorem d_MA_min2_2 : decode prog_15_method_70_code 2 = .ok (.lcmp, 1) := by decide +kernel
theorem d_MA_min2_3 : decode prog_15_method_70_code 3 = .ok (.ifCond .gt 7, 3) := by decide +kernel
theorem d_MA_min2_6 : decode prog_15_method_70_code 6 = .ok (.lload_n 0, 1) := by decide +kernel
theorem d_MA_min2_7 : decode prog_15_method_70_code 7 = .ok (.goto 4, 3) := by decide +kernel
theorem d_MA_min2_10 : decode prog_15_method_70_code 10 = .ok (.lload_n 2, 1) := by decide +kernel
theorem d_MA_min2_11 : decode prog_15_method_70_code 11 = .ok (.lreturn, 1) := by decide +kernel
def m_MA_min2_11 (G : Nat → Nat) (s0 : Int64) (h : hp_H) : Option (Int64 × hp_H) := some (s0, h)
set_option maxRecDepth 100000 in
set_option maxHeartbeats 4000000 in
theorem j_MA_min2_11 {Z : hp_Z} (s0 : Int64) (h : hp_H) : hp_J Y_MA_min2 Z hp_rL h 11 [] [.long s0] (m_MA_min2_11 (hp_G Z)  s0 h) := by
  unfold m_MA_min2_11
  exact hp_lret d_MA_min2_11 rfl
def m_MA_min2 (G : Nat → Nat) (a0 : Int64) (a2 : Int64) (h : hp_H) : Option (Int64 × hp_H) := if 0 < (lg_cmp a0 a2) then (m_MA_min2_11 G a2 h) else (m_MA_min2_11 G a0 h)
set_option maxRecDepth 100000 in
set_option maxHeartbeats 4000000 in
theorem j_MA_min2_0 {Z : hp_Z} (a0 : Int64) (a2 : Int64) (h : hp_H) : hp_J Y_MA_min2 Z hp_rL h 0 [(0, .long a0), (2, .long a2)] [] (m_MA_min2 (hp_G Z)  a0 a2 h) := by
  unfold m_MA_min2
  refine hp_lload_n (x0 := 0) d_MA_min2_0 rfl rfl ?_
  refine hp_lload_n (x0 := 1) d_MA_min2_1 rfl rfl ?_
  refine hp_lcmp d_MA_min2_2 ?_
  refine hp_if_gt (tgt := 10) d_MA_min2_3 (by decide) ?_ ?_
  · refine hp_lload_n (x0 := 1) d_MA_min2_10 rfl rfl ?_
    refine hp_sub [] rfl ?_
    exact j_MA_min2_11  _ _
  · refine hp_lload_n (x0 := 0) d_MA_min2_6 rfl rfl ?_
    refine hp_goto (tgt := 11) d_MA_min2_7 (by decide) ?_
    refine hp_sub [] rfl ?_
    exact j_MA_min2_11  _ _
theorem t_MA_min2 (l : Launch) (E : hp_E) (a0 : Int64) (a2 : Int64) : hp_M l E y_MA_min2 Y_MA_min2 hp_rL [.long a0, .long a2] (m_MA_min2 E.2.2.1 a0 a2) := hp_M.of (by decide +kernel) ⟨rfl, rfl⟩ (Nat.le_of_ble_eq_true rfl) (fun Z h hE => by subst hE; exact j_MA_min2_0 _ _ h)
-- K_settle
theorem d_K_settle_0 : decode prog_4_method_6_code 0 = .ok (.bipush 9, 2) := by decide +kernel
theorem d_K_settle_2 : decode prog_4_method_6_code 2 = .ok (.istore 6, 2) := by decide +kernel
theorem d_K_settle_4 : decode prog_4_method_6_code 4 = .ok (.lload 4, 2) := by decide +kernel
theorem d_K_settle_6 : decode prog_4_method_6_code 6 = .ok (.lstore 7, 2) := by decide +kernel
theorem d_K_settle_8 : decode prog_4_method_6_code 8 = .ok (.iload 6, 2) := by decide +kernel
theorem d_K_settle_10 : decode prog_4_method_6_code 10 = .ok (.ifCond .le 28, 3) := by decide +kernel
theorem d_K_settle_13 : decode prog_4_method_6_code 13 = .ok (.lload 7, 2) := by decide +kernel
theorem d_K_settle_15 : decode prog_4_method_6_code 15 = .ok (.ldc2_w 54, 3) := by decide +kernel
theorem d_K_settle_18 : decode prog_4_method_6_code 18 = .ok (.lrem, 1) := by decide +kernel
theorem d_K_settle_19 : decode prog_4_method_6_code 19 = .ok (.lconst 0, 1) := by decide +kernel
theorem d_K_settle_20 : decode prog_4_method_6_code 20 = .ok (.lcmp, 1) := by decide +kernel
theorem d_K_settle_21 : decode prog_4_method_6_code 21 = .ok (.ifCond .ne 17, 3) := by decide +kernel
theorem d_K_settle_24 : decode prog_4_method_6_code 24 = .ok (.lload 7, 2) := by decide +kernel
theorem d_K_settle_26 : decode prog_4_method_6_code 26 = .ok (.ldc2_w 54, 3) := by decide +kernel
theorem d_K_settle_29 : decode prog_4_method_6_code 29 = .ok (.ldiv, 1) := by decide +kernel
theorem d_K_settle_30 : decode prog_4_method_6_code 30 = .ok (.lstore 7, 2) := by decide +kernel
theorem d_K_settle_32 : decode prog_4_method_6_code 32 = .ok (.iinc 6 (-1), 3) := by decide +kernel
theorem d_K_settle_35 : decode prog_4_method_6_code 35 = .ok (.goto (-27), 3) := by decide +kernel
theorem d_K_settle_38 : decode prog_4_method_6_code 38 = .ok (.lload_n 2, 1) := by decide +kernel
theorem d_K_settle_39 : decode prog_4_method_6_code 39 = .ok (.ldc2_w 56, 3) := by decide +kernel
theorem d_K_settle_42 : decode prog_4_method_6_code 42 = .ok (.lload 7, 2) := by decide +kernel
theorem d_K_settle_44 : decode prog_4_method_6_code 44 = .ok (.lsub, 1) := by decide +kernel
theorem d_K_settle_45 : decode prog_4_method_6_code 45 = .ok (.iload 6, 2) := by decide +kernel
theorem d_K_settle_47 : decode prog_4_method_6_code 47 = .ok (.invokestatic 26, 3) := by decide +kernel
theorem d_K_settle_50 : decode prog_4_method_6_code 50 = .ok (.ldiv, 1) := by decide +kernel
theorem d_K_settle_51 : decode prog_4_method_6_code 51 = .ok (.lcmp, 1) := by decide +kernel
theorem d_K_settle_52 : decode prog_4_method_6_code 52 = .ok (.ifCond .le 9, 3) := by decide +kernel
theorem d_K_settle_55 : decode prog_4_method_6_code 55 = .ok (.aload_n 0, 1) := by decide +kernel
theorem d_K_settle_56 : decode prog_4_method_6_code 56 = .ok (.iconst 0, 1) := by decide +kernel
theorem d_K_settle_57 : decode prog_4_method_6_code 57 = .ok (.putfield 9, 3) := by decide +kernel
theorem d_K_settle_60 : decode prog_4_method_6_code 60 = .ok (.return_, 1) := by decide +kernel
theorem d_K_settle_61 : decode prog_4_method_6_code 61 = .ok (.lload_n 2, 1) := by decide +kernel
theorem d_K_settle_62 : decode prog_4_method_6_code 62 = .ok (.iload 6, 2) := by decide +kernel
theorem d_K_settle_64 : decode prog_4_method_6_code 64 = .ok (.invokestatic 26, 3) := by decide +kernel
theorem d_K_settle_67 : decode prog_4_method_6_code 67 = .ok (.lmul, 1) := by decide +kernel
theorem d_K_settle_68 : decode prog_4_method_6_code 68 = .ok (.lload 7, 2) := by decide +kernel
theorem d_K_settle_70 : decode prog_4_method_6_code 70 = .ok (.ladd, 1) := by decide +kernel
theorem d_K_settle_71 : decode prog_4_method_6_code 71 = .ok (.lstore 9, 2) := by decide +kernel
theorem d_K_settle_73 : decode prog_4_method_6_code 73 = .ok (.aload_n 0, 1) := by decide +kernel
theorem d_K_settle_74 : decode prog_4_method_6_code 74 = .ok (.iload_n 1, 1) := by decide +kernel
theorem d_K_settle_75 : decode prog_4_method_6_code 75 = .ok (.ifCond .eq 9, 3) := by decide +kernel
theorem d_K_settle_78 : decode prog_4_method_6_code 78 = .ok (.lload 9, 2) := by decide +kernel
theorem d_K_settle_80 : decode prog_4_method_6_code 80 = .ok (.lneg, 1) := by decide +kernel
theorem d_K_settle_81 : decode prog_4_method_6_code 81 = .ok (.goto 5, 3) := by decide +kernel
theorem d_K_settle_84 : decode prog_4_method_6_code 84 = .ok (.lload 9, 2) := by decide +kernel
theorem d_K_settle_86 : decode prog_4_method_6_code 86 = .ok (.putfield 18, 3) := by decide +kernel
theorem d_K_settle_89 : decode prog_4_method_6_code 89 = .ok (.aload_n 0, 1) := by decide +kernel
theorem d_K_settle_90 : decode prog_4_method_6_code 90 = .ok (.iload 6, 2) := by decide +kernel
theorem d_K_settle_92 : decode prog_4_method_6_code 92 = .ok (.putfield 22, 3) := by decide +kernel
theorem d_K_settle_95 : decode prog_4_method_6_code 95 = .ok (.return_, 1) := by decide +kernel
def m_K_settle_86 (G : Nat → Nat) (a0 : Nat) (a6 : Int32) (s0 : Int64) (s1 : Nat) (h : hp_H) : Option (Unit × hp_H) := (hp_p h s1 6 2 (.long s0)).bind fun h1 => (hp_p h1 a0 6 3 (.int a6)).bind fun h2 => some ((), h2)
set_option maxRecDepth 100000 in
set_option maxHeartbeats 4000000 in
theorem j_K_settle_86 {Z : hp_Z} (a0 : Nat) (a6 : Int32) (s0 : Int64) (s1 : Nat) (h : hp_H) : hp_J Y_K_settle Z hp_rV h 86 [(0, .ref a0), (6, .int a6)] [.long s0, .ref s1] (m_K_settle_86 (hp_G Z)  a0 a6 s0 s1 h) := by
  unfold m_K_settle_86
  refine hp_put fl_K_18 (fun q => by cases q) rfl rfl d_K_settle_86 fun h1 => ?_
  refine hp_aload_n (x0 := 0) d_K_settle_89 rfl rfl ?_
  refine hp_iload (x0 := 1) d_K_settle_90 rfl ?_
  refine hp_put fl_K_22 (fun q => by cases q) rfl rfl d_K_settle_92 fun h2 => ?_
  exact hp_vret d_K_settle_95 rfl
def m_K_settle_38 (G : Nat → Nat) (a0 : Nat) (a1 : Int32) (a2 : Int64) (a6 : Int32) (a7 : Int64) (h : hp_H) : Option (Unit × hp_H) := (m_D_power G a6 h).bind fun q1 => (hp_dL ((999999999999999999 : Int64) - a7) q1.1).bind fun x2 => if (lg_cmp a2 x2) ≤ 0 then ((m_D_power G a6 q1.2).bind fun q3 => hp_nm ((a2 * q3.1) + a7) fun x4 => if a1 = 0 then (m_K_settle_86 G a0 a6 x4 a0 q3.2) else (m_K_settle_86 G a0 a6 (-x4) a0 q3.2)) else ((hp_pZ q1.2 a0 6 0 (0 : Int32)).bind fun h5 => some ((), h5))
set_option maxRecDepth 100000 in
set_option maxHeartbeats 4000000 in
theorem j_K_settle_38 {Z : hp_Z} (a0 : Nat) (a1 : Int32) (a2 : Int64) (a6 : Int32) (a7 : Int64) (h : hp_H) : hp_J Y_K_settle Z hp_rV h 38 [(0, .ref a0), (1, .int a1), (2, .long a2), (6, .int a6), (7, .long a7)] [] (m_K_settle_38 (hp_G Z)  a0 a1 a2 a6 a7 h) := by
  unfold m_K_settle_38
  refine hp_lload_n (x0 := 2) d_K_settle_38 rfl rfl ?_
  refine hp_ldc2 (v := 999999999999999999) d_K_settle_39 w_616 ?_
  refine hp_lload (x0 := 4) d_K_settle_42 rfl ?_
  refine hp_lsub d_K_settle_44 ?_
  refine hp_iload (x0 := 3) d_K_settle_45 rfl ?_
  refine hp_callL (hp_crSN (t_D_power _ _ _) cw_K_26 w_462 (by decide) rfl rfl (Nat.le_of_ble_eq_true rfl) d_K_settle_47) fun q1 => ?_
  refine hp_ldiv d_K_settle_50 fun x2 => ?_
  refine hp_lcmp d_K_settle_51 ?_
  refine hp_if_le (tgt := 61) d_K_settle_52 (by decide) ?_ ?_
  · refine hp_lload_n (x0 := 2) d_K_settle_61 rfl rfl ?_
    refine hp_iload (x0 := 3) d_K_settle_62 rfl ?_
    refine hp_callL (hp_crSN (t_D_power _ _ _) cw_K_26 w_462 (by decide) rfl rfl (Nat.le_of_ble_eq_true rfl) d_K_settle_64) fun q3 => ?_
    refine hp_lmul d_K_settle_67 ?_
    refine hp_lload (x0 := 4) d_K_settle_68 rfl ?_
    refine hp_ladd d_K_settle_70 ?_
    refine hp_lstore (fun x4 => [(9, .long x4), (0, .ref a0), (1, .int a1), (2, .long a2), (6, .int a6), (7, .long a7)]) d_K_settle_71 (by decide) (fun _ => rfl) fun x4 => ?_
    refine hp_aload_n (x0 := 1) d_K_settle_73 rfl rfl ?_
    refine hp_iload_n (x0 := 2) d_K_settle_74 rfl rfl ?_
    refine hp_if_eq (tgt := 84) d_K_settle_75 (by decide) ?_ ?_
    · refine hp_lload (x0 := 0) d_K_settle_84 rfl ?_
      refine hp_sub [1, 4] rfl ?_
      exact j_K_settle_86  _ _ _ _ _
    · refine hp_lload (x0 := 0) d_K_settle_78 rfl ?_
      refine hp_lneg d_K_settle_80 ?_
      refine hp_goto (tgt := 86) d_K_settle_81 (by decide) ?_
      refine hp_sub [1, 4] rfl ?_
      exact j_K_settle_86  _ _ _ _ _
  · refine hp_aload_n (x0 := 0) d_K_settle_55 rfl rfl ?_
    refine hp_iconst (v := 0) d_K_settle_56 (by decide) ?_
    refine hp_putZ fl_K_9 (fun q => by cases q) d_K_settle_57 fun h5 => ?_
    exact hp_vret d_K_settle_60 rfl
def m_K_settle_8 (G : Nat → Nat) : Nat → Nat → Int32 → Int64 → Int32 → Int64 → hp_H → Option (Unit × hp_H)
  | 0, _, _, _, _, _, _ => none
  | n + 1, a0, a1, a2, a6, a7, h => if a6 ≤ 0 then (m_K_settle_38 G a0 a1 a2 a6 a7 h) else ((hp_mL a7 (10 : Int64)).bind fun x1 => if (lg_cmp x1 (0 : Int64)) = 0 then ((hp_dL a7 (10 : Int64)).bind fun x2 => hp_nm x2 fun x3 => hp_nm (a6 + (-1)) fun x4 => (m_K_settle_8 G  n) a0 a1 a2 x4 x3 h) else (m_K_settle_38 G a0 a1 a2 a6 a7 h))
set_option maxRecDepth 100000 in
set_option maxHeartbeats 4000000 in
theorem j_K_settle_8 {Z : hp_Z} : ∀ (n : Nat) (a0 : Nat) (a1 : Int32) (a2 : Int64) (a6 : Int32) (a7 : Int64) (h : hp_H), hp_J Y_K_settle Z hp_rV h 8 [(0, .ref a0), (1, .int a1), (2, .long a2), (6, .int a6), (7, .long a7)] [] (m_K_settle_8 (hp_G Z)  n a0 a1 a2 a6 a7 h) := by
  intro n
  induction n with
  | zero => intro a0 a1 a2 a6 a7 h; exact hp_fail
  | succ n ih =>
    intro a0 a1 a2 a6 a7 h
    rw [m_K_settle_8]
    refine hp_iload (x0 := 3) d_K_settle_8 rfl ?_
    refine hp_if_le (tgt := 38) d_K_settle_10 (by decide) ?_ ?_
    · exact j_K_settle_38  _ _ _ _ _ _
    · refine hp_lload (x0 := 4) d_K_settle_13 rfl ?_
      refine hp_ldc2 (v := 10) d_K_settle_15 w_615 ?_
      refine hp_lrem d_K_settle_18 fun x1 => ?_
      refine hp_lconst (v := 0) d_K_settle_19 (by decide) ?_
      refine hp_lcmp d_K_settle_20 ?_
      refine hp_if_ne (tgt := 38) d_K_settle_21 (by decide) ?_ ?_
      · refine hp_lload (x0 := 4) d_K_settle_24 rfl ?_
        refine hp_ldc2 (v := 10) d_K_settle_26 w_615 ?_
        refine hp_ldiv d_K_settle_29 fun x2 => ?_
        refine hp_lstore (fun x3 => [(7, .long x3), (0, .ref a0), (1, .int a1), (2, .long a2), (6, .int a6)]) d_K_settle_30 (by decide) (fun _ => rfl) fun x3 => ?_
        refine hp_iinc (x0 := 4) (d := -1) (fun x4 => [(6, .int x4), (7, .long x3), (0, .ref a0), (1, .int a1), (2, .long a2)]) d_K_settle_32 rfl (by decide) (by decide) (fun _ => rfl) fun x4 => ?_
        refine hp_goto (tgt := 8) d_K_settle_35 (by decide) ?_
        refine hp_sub [2, 3, 4, 0, 1] rfl ?_
        exact ih _ _ _ _ _ _
      · exact j_K_settle_38  _ _ _ _ _ _
def m_K_settle (G : Nat → Nat) (a0 : Nat) (a1 : Int32) (a2 : Int64) (a4 : Int64) (h : hp_H) : Option (Unit × hp_H) := hp_nm (9 : Int32) fun x1 => hp_nm a4 fun x2 => m_K_settle_8 G hp_fu a0 a1 a2 x1 x2 h
set_option maxRecDepth 100000 in
set_option maxHeartbeats 4000000 in
theorem j_K_settle_0 {Z : hp_Z} (a0 : Nat) (a1 : Int32) (a2 : Int64) (a4 : Int64) (h : hp_H) : hp_J Y_K_settle Z hp_rV h 0 [(0, .ref a0), (1, .int a1), (2, .long a2), (4, .long a4)] [] (m_K_settle (hp_G Z)  a0 a1 a2 a4 h) := by
  unfold m_K_settle
  refine hp_bipush (v := 9) d_K_settle_0 (by decide) ?_
  refine hp_istore (fun x1 => [(6, .int x1), (0, .ref a0), (1, .int a1), (2, .long a2), (4, .long a4)]) d_K_settle_2 (by decide) (fun _ => rfl) fun x1 => ?_
  refine hp_lload (x0 := 4) d_K_settle_4 rfl ?_
  refine hp_lstore (fun x2 => [(7, .long x2), (6, .int x1), (0, .ref a0), (1, .int a1), (2, .long a2), (4, .long a4)]) d_K_settle_6 (by decide) (fun _ => rfl) fun x2 => ?_
  refine hp_sub [2, 3, 4, 1, 0] rfl ?_
  exact j_K_settle_8  hp_fu _ _ _ _ _ _
theorem t_K_settle (l : Launch) (E : hp_E) (a0 : Nat) (a1 : Int32) (a2 : Int64) (a4 : Int64) : hp_M l E y_K_settle Y_K_settle hp_rV [.ref a0, .int a1, .long a2, .long a4] (m_K_settle E.2.2.1 a0 a1 a2 a4) := hp_M.of (by decide +kernel) ⟨rfl, rfl⟩ (Nat.le_of_ble_eq_true rfl) (fun Z h hE => by subst hE; exact j_K_settle_0 _ _ _ _ h)
