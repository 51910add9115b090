-- R_holds
theorem d_R_holds_0 : decode prog_5_method_9_code 0 = .ok (.aload_n 0, 1) := by decide +kernel
theorem d_R_holds_1 : decode prog_5_method_9_code 1 = .ok (.getfield 15, 3) := by decide +kernel
theorem d_R_holds_4 : decode prog_5_method_9_code 4 = .ok (.aload_n 1, 1) := by decide +kernel
theorem d_R_holds_5 : decode prog_5_method_9_code 5 = .ok (.arraylength, 1) := by decide +kernel
theorem d_R_holds_6 : decode prog_5_method_9_code 6 = .ok (.if_icmp .eq 5, 3) := by decide +kernel
theorem d_R_holds_9 : decode prog_5_method_9_code 9 = .ok (.iconst 0, 1) := by decide +kernel
theorem d_R_holds_10 : decode prog_5_method_9_code 10 = .ok (.ireturn, 1) := by decide +kernel
theorem d_R_holds_11 : decode prog_5_method_9_code 11 = .ok (.iconst 0, 1) := by decide +kernel
theorem d_R_holds_12 : decode prog_5_method_9_code 12 = .ok (.istore_n 2, 1) := by decide +kernel
theorem d_R_holds_13 : decode prog_5_method_9_code 13 = .ok (.iload_n 2, 1) := by decide +kernel
theorem d_R_holds_14 : decode prog_5_method_9_code 14 = .ok (.aload_n 0, 1) := by decide +kernel
theorem d_R_holds_15 : decode prog_5_method_9_code 15 = .ok (.getfield 15, 3) := by decide +kernel
theorem d_R_holds_18 : decode prog_5_method_9_code 18 = .ok (.if_icmp .ge 29, 3) := by decide +kernel
theorem d_R_holds_21 : decode prog_5_method_9_code 21 = .ok (.iload_n 2, 1) := by decide +kernel
theorem d_R_holds_22 : decode prog_5_method_9_code 22 = .ok (.aload_n 1, 1) := by decide +kernel
theorem d_R_holds_23 : decode prog_5_method_9_code 23 = .ok (.arraylength, 1) := by decide +kernel
theorem d_R_holds_24 : decode prog_5_method_9_code 24 = .ok (.if_icmp .ge 23, 3) := by decide +kernel
theorem d_R_holds_27 : decode prog_5_method_9_code 27 = .ok (.aload_n 0, 1) := by decide +kernel
theorem d_R_holds_28 : decode prog_5_method_9_code 28 = .ok (.getfield 9, 3) := by decide +kernel
theorem d_R_holds_31 : decode prog_5_method_9_code 31 = .ok (.iload_n 2, 1) := by decide +kernel
theorem d_R_holds_32 : decode prog_5_method_9_code 32 = .ok (.baload, 1) := by decide +kernel
theorem d_R_holds_33 : decode prog_5_method_9_code 33 = .ok (.aload_n 1, 1) := by decide +kernel
theorem d_R_holds_34 : decode prog_5_method_9_code 34 = .ok (.iload_n 2, 1) := by decide +kernel
theorem d_R_holds_35 : decode prog_5_method_9_code 35 = .ok (.baload, 1) := by decide +kernel
theorem d_R_holds_36 : decode prog_5_method_9_code 36 = .ok (.if_icmp .eq 5, 3) := by decide +kernel
theorem d_R_holds_39 : decode prog_5_method_9_code 39 = .ok (.iconst 0, 1) := by decide +kernel
theorem d_R_holds_40 : decode prog_5_method_9_code 40 = .ok (.ireturn, 1) := by decide +kernel
theorem d_R_holds_41 : decode prog_5_method_9_code 41 = .ok (.iinc 2 1, 3) := by decide +kernel
theorem d_R_holds_44 : decode prog_5_method_9_code 44 = .ok (.goto (-31), 3) := by decide +kernel
theorem d_R_holds_47 : decode prog_5_method_9_code 47 = .ok (.iconst 1, 1) := by decide +kernel
theorem d_R_holds_48 : decode prog_5_method_9_code 48 = .ok (.ireturn, 1) := by decide +kernel
def m_R_holds_47 (G : Nat → Nat) (h : hp_H) : Option (Int32 × hp_H) := hp_z (1 : Int32) h
set_option maxRecDepth 100000 in
set_option maxHeartbeats 4000000 in
theorem j_R_holds_47 {Z : hp_Z} (h : hp_H) : hp_J Y_R_holds Z hp_rI h 47 [] [] (m_R_holds_47 (hp_G Z)   h) := by
  unfold m_R_holds_47
  refine hp_iconst (v := 1) d_R_holds_47 (by decide) ?_
  exact hp_zret d_R_holds_48 rfl
def m_R_holds_13 (G : Nat → Nat) : Nat → Nat → Nat → Int32 → hp_H → Option (Int32 × hp_H)
  | 0, _, _, _, _ => none
  | n + 1, a0, a1, a2, h => (hp_gI h a0 4 1).bind fun x1 => if x1 ≤ a2 then (m_R_holds_47 G h) else ((hp_len h a1).bind fun x2 => if x2 ≤ a2 then (m_R_holds_47 G h) else ((hp_gR h a0 4 0).bind fun x3 => (hp_aI h .byte x3 a2).bind fun x4 => (hp_aI h .byte a1 a2).bind fun x5 => if x4 = x5 then (hp_nm (a2 + 1) fun x6 => (m_R_holds_13 G  n) a0 a1 x6 h) else (hp_z (0 : Int32) h)))
set_option maxRecDepth 100000 in
set_option maxHeartbeats 4000000 in
theorem j_R_holds_13 {Z : hp_Z} : ∀ (n : Nat) (a0 : Nat) (a1 : Nat) (a2 : Int32) (h : hp_H), hp_J Y_R_holds Z hp_rI h 13 [(0, .ref a0), (1, .ref a1), (2, .int a2)] [] (m_R_holds_13 (hp_G Z)  n a0 a1 a2 h) := by
  intro n
  induction n with
  | zero => intro a0 a1 a2 h; exact hp_fail
  | succ n ih =>
    intro a0 a1 a2 h
    rw [m_R_holds_13]
    refine hp_iload_n (x0 := 2) d_R_holds_13 rfl rfl ?_
    refine hp_aload_n (x0 := 0) d_R_holds_14 rfl rfl ?_
    refine hp_getI fl_R_15 d_R_holds_15 fun x1 => ?_
    refine hp_icmp_ge (tgt := 47) d_R_holds_18 (by decide) ?_ ?_
    · refine hp_sub [] rfl ?_
      exact j_R_holds_47   _
    · refine hp_iload_n (x0 := 2) d_R_holds_21 rfl rfl ?_
      refine hp_aload_n (x0 := 1) d_R_holds_22 rfl rfl ?_
      refine hp_alen d_R_holds_23 fun x2 => ?_
      refine hp_icmp_ge (tgt := 47) d_R_holds_24 (by decide) ?_ ?_
      · refine hp_sub [] rfl ?_
        exact j_R_holds_47   _
      · refine hp_aload_n (x0 := 0) d_R_holds_27 rfl rfl ?_
        refine hp_getR fl_R_9 d_R_holds_28 fun x3 => ?_
        refine hp_iload_n (x0 := 2) d_R_holds_31 rfl rfl ?_
        refine hp_bald d_R_holds_32 fun x4 => ?_
        refine hp_aload_n (x0 := 1) d_R_holds_33 rfl rfl ?_
        refine hp_iload_n (x0 := 2) d_R_holds_34 rfl rfl ?_
        refine hp_bald d_R_holds_35 fun x5 => ?_
        refine hp_icmp_eq (tgt := 41) d_R_holds_36 (by decide) ?_ ?_
        · refine hp_iinc (x0 := 2) (d := 1) (fun x6 => [(2, .int x6), (0, .ref a0), (1, .ref a1)]) d_R_holds_41 rfl (by decide) (by decide) (fun _ => rfl) fun x6 => ?_
          refine hp_goto (tgt := 13) d_R_holds_44 (by decide) ?_
          refine hp_sub [1, 2, 0] rfl ?_
          exact ih _ _ _ _
        · refine hp_iconst (v := 0) d_R_holds_39 (by decide) ?_
          exact hp_zret d_R_holds_40 rfl
def m_R_holds (G : Nat → Nat) (a0 : Nat) (a1 : Nat) (h : hp_H) : Option (Int32 × hp_H) := (hp_gI h a0 4 1).bind fun x1 => (hp_len h a1).bind fun x2 => if x1 = x2 then (hp_nm (0 : Int32) fun x3 => m_R_holds_13 G hp_fu a0 a1 x3 h) else (hp_z (0 : Int32) h)
set_option maxRecDepth 100000 in
set_option maxHeartbeats 4000000 in
theorem j_R_holds_0 {Z : hp_Z} (a0 : Nat) (a1 : Nat) (h : hp_H) : hp_J Y_R_holds Z hp_rI h 0 [(0, .ref a0), (1, .ref a1)] [] (m_R_holds (hp_G Z)  a0 a1 h) := by
  unfold m_R_holds
  refine hp_aload_n (x0 := 0) d_R_holds_0 rfl rfl ?_
  refine hp_getI fl_R_15 d_R_holds_1 fun x1 => ?_
  refine hp_aload_n (x0 := 1) d_R_holds_4 rfl rfl ?_
  refine hp_alen d_R_holds_5 fun x2 => ?_
  refine hp_icmp_eq (tgt := 11) d_R_holds_6 (by decide) ?_ ?_
  · refine hp_iconst (v := 0) d_R_holds_11 (by decide) ?_
    refine hp_istore_n (fun x3 => [(2, .int x3), (0, .ref a0), (1, .ref a1)]) d_R_holds_12 rfl (by decide) (fun _ => rfl) fun x3 => ?_
    refine hp_sub [1, 2, 0] rfl ?_
    exact j_R_holds_13  hp_fu _ _ _ _
  · refine hp_iconst (v := 0) d_R_holds_9 (by decide) ?_
    exact hp_zret d_R_holds_10 rfl
theorem t_R_holds (l : Launch) (E : hp_E) (a0 : Nat) (a1 : Nat) : hp_M l E y_R_holds Y_R_holds hp_rI [.ref a0, .ref a1] (m_R_holds E.2.2.1 a0 a1) := hp_M.of (plainFor_of_name (by decide)) ⟨rfl, rfl⟩ (Nat.le_of_ble_eq_true rfl) (fun Z h hE => by subst hE; exact j_R_holds_0 _ _ h)
-- S_chainOf
theorem d_S_chainOf_0 : decode prog_6_method_10_code 0 = .ok (.iload_n 0, 1) := by decide +kernel
theorem d_S_chainOf_1 : decode prog_6_method_10_code 1 = .ok (.i2l, 1) := by decide +kernel
theorem d_S_chainOf_2 : decode prog_6_method_10_code 2 = .ok (.ldc2_w 113, 3) := by decide +kernel
theorem d_S_chainOf_5 : decode prog_6_method_10_code 5 = .ok (.lmul, 1) := by decide +kernel
theorem d_S_chainOf_6 : decode prog_6_method_10_code 6 = .ok (.iload_n 1, 1) := by decide +kernel
theorem d_S_chainOf_7 : decode prog_6_method_10_code 7 = .ok (.i2l, 1) := by decide +kernel
theorem d_S_chainOf_8 : decode prog_6_method_10_code 8 = .ok (.ladd, 1) := by decide +kernel
theorem d_S_chainOf_9 : decode prog_6_method_10_code 9 = .ok (.ldc2_w 113, 3) := by decide +kernel
theorem d_S_chainOf_12 : decode prog_6_method_10_code 12 = .ok (.lmul, 1) := by decide +kernel
theorem d_S_chainOf_13 : decode prog_6_method_10_code 13 = .ok (.iload 4, 2) := by decide +kernel
theorem d_S_chainOf_15 : decode prog_6_method_10_code 15 = .ok (.i2l, 1) := by decide +kernel
theorem d_S_chainOf_16 : decode prog_6_method_10_code 16 = .ok (.ladd, 1) := by decide +kernel
theorem d_S_chainOf_17 : decode prog_6_method_10_code 17 = .ok (.ldc2_w 113, 3) := by decide +kernel
theorem d_S_chainOf_20 : decode prog_6_method_10_code 20 = .ok (.lmul, 1) := by decide +kernel
theorem d_S_chainOf_21 : decode prog_6_method_10_code 21 = .ok (.lload_n 2, 1) := by decide +kernel
theorem d_S_chainOf_22 : decode prog_6_method_10_code 22 = .ok (.ladd, 1) := by decide +kernel
theorem d_S_chainOf_23 : decode prog_6_method_10_code 23 = .ok (.lstore 6, 2) := by decide +kernel
theorem d_S_chainOf_25 : decode prog_6_method_10_code 25 = .ok (.iconst 0, 1) := by decide +kernel
theorem d_S_chainOf_26 : decode prog_6_method_10_code 26 = .ok (.istore 8, 2) := by decide +kernel
theorem d_S_chainOf_28 : decode prog_6_method_10_code 28 = .ok (.iload 8, 2) := by decide +kernel
theorem d_S_chainOf_30 : decode prog_6_method_10_code 30 = .ok (.aload 5, 2) := by decide +kernel
theorem d_S_chainOf_32 : decode prog_6_method_10_code 32 = .ok (.getfield 99, 3) := by decide +kernel
theorem d_S_chainOf_35 : decode prog_6_method_10_code 35 = .ok (.if_icmp .ge 34, 3) := by decide +kernel
theorem d_S_chainOf_38 : decode prog_6_method_10_code 38 = .ok (.iload 8, 2) := by decide +kernel
theorem d_S_chainOf_40 : decode prog_6_method_10_code 40 = .ok (.bipush 64, 2) := by decide +kernel
theorem d_S_chainOf_42 : decode prog_6_method_10_code 42 = .ok (.if_icmp .ge 27, 3) := by decide +kernel
theorem d_S_chainOf_45 : decode prog_6_method_10_code 45 = .ok (.lload 6, 2) := by decide +kernel
theorem d_S_chainOf_47 : decode prog_6_method_10_code 47 = .ok (.ldc2_w 113, 3) := by decide +kernel
theorem d_S_chainOf_50 : decode prog_6_method_10_code 50 = .ok (.lmul, 1) := by decide +kernel
theorem d_S_chainOf_51 : decode prog_6_method_10_code 51 = .ok (.aload 5, 2) := by decide +kernel
theorem d_S_chainOf_53 : decode prog_6_method_10_code 53 = .ok (.getfield 102, 3) := by decide +kernel
theorem d_S_chainOf_56 : decode prog_6_method_10_code 56 = .ok (.iload 8, 2) := by decide +kernel
theorem d_S_chainOf_58 : decode prog_6_method_10_code 58 = .ok (.baload, 1) := by decide +kernel
theorem d_S_chainOf_59 : decode prog_6_method_10_code 59 = .ok (.i2l, 1) := by decide +kernel
theorem d_S_chainOf_60 : decode prog_6_method_10_code 60 = .ok (.ladd, 1) := by decide +kernel
theorem d_S_chainOf_61 : decode prog_6_method_10_code 61 = .ok (.lstore 6, 2) := by decide +kernel
theorem d_S_chainOf_63 : decode prog_6_method_10_code 63 = .ok (.iinc 8 1, 3) := by decide +kernel
theorem d_S_chainOf_66 : decode prog_6_method_10_code 66 = .ok (.goto (-38), 3) := by decide +kernel
theorem d_S_chainOf_69 : decode prog_6_method_10_code 69 = .ok (.lload 6, 2) := by decide +kernel
theorem d_S_chainOf_71 : decode prog_6_method_10_code 71 = .ok (.lload 6, 2) := by decide +kernel
theorem d_S_chainOf_73 : decode prog_6_method_10_code 73 = .ok (.bipush 21, 2) := by decide +kernel
theorem d_S_chainOf_75 : decode prog_6_method_10_code 75 = .ok (.lushr, 1) := by decide +kernel
theorem d_S_chainOf_76 : decode prog_6_method_10_code 76 = .ok (.lxor, 1) := by decide +kernel
theorem d_S_chainOf_77 : decode prog_6_method_10_code 77 = .ok (.lload 6, 2) := by decide +kernel
theorem d_S_chainOf_79 : decode prog_6_method_10_code 79 = .ok (.bipush 42, 2) := by decide +kernel
theorem d_S_chainOf_81 : decode prog_6_method_10_code 81 = .ok (.lushr, 1) := by decide +kernel
theorem d_S_chainOf_82 : decode prog_6_method_10_code 82 = .ok (.lxor, 1) := by decide +kernel
theorem d_S_chainOf_83 : decode prog_6_method_10_code 83 = .ok (.l2i, 1) := by decide +kernel
theorem d_S_chainOf_84 : decode prog_6_method_10_code 84 = .ok (.sipush 255, 3) := by decide +kernel
theorem d_S_chainOf_87 : decode prog_6_method_10_code 87 = .ok (.iand, 1) := by decide +kernel
theorem d_S_chainOf_88 : decode prog_6_method_10_code 88 = .ok (.ireturn, 1) := by decide +kernel
def m_S_chainOf_69 (G : Nat → Nat) (a6 : Int64) (h : hp_H) : Option (Int32 × hp_H) := some ((((a6 ^^^ ((a6.toUInt64 >>> ((21 : Int32).toInt64.toUInt64 &&& Int64.toUInt64 63)).toInt64)) ^^^ ((a6.toUInt64 >>> ((42 : Int32).toInt64.toUInt64 &&& Int64.toUInt64 63)).toInt64)).toInt32) &&& (255 : Int32), h)
set_option maxRecDepth 100000 in
set_option maxHeartbeats 4000000 in
theorem j_S_chainOf_69 {Z : hp_Z} (a6 : Int64) (h : hp_H) : hp_J Y_S_chainOf Z hp_rI h 69 [(6, .long a6)] [] (m_S_chainOf_69 (hp_G Z)  a6 h) := by
  unfold m_S_chainOf_69
  refine hp_lload (x0 := 0) d_S_chainOf_69 rfl ?_
  refine hp_lload (x0 := 0) d_S_chainOf_71 rfl ?_
  refine hp_bipush (v := 21) d_S_chainOf_73 (by decide) ?_
  refine hp_lushr d_S_chainOf_75 ?_
  refine hp_lxor d_S_chainOf_76 ?_
  refine hp_lload (x0 := 0) d_S_chainOf_77 rfl ?_
  refine hp_bipush (v := 42) d_S_chainOf_79 (by decide) ?_
  refine hp_lushr d_S_chainOf_81 ?_
  refine hp_lxor d_S_chainOf_82 ?_
  refine hp_l2i d_S_chainOf_83 ?_
  refine hp_sipush (v := 255) d_S_chainOf_84 (by decide) ?_
  refine hp_iand d_S_chainOf_87 ?_
  exact hp_iret d_S_chainOf_88 rfl
def m_S_chainOf_28 (G : Nat → Nat) : Nat → Nat → Int64 → Int32 → hp_H → Option (Int32 × hp_H)
  | 0, _, _, _, _ => none
  | n + 1, a5, a6, a8, h => (hp_gI h a5 4 1).bind fun x1 => if x1 ≤ a8 then (m_S_chainOf_69 G a6 h) else (if (64 : Int32) ≤ a8 then (m_S_chainOf_69 G a6 h) else ((hp_gR h a5 4 0).bind fun x2 => (hp_aI h .byte x2 a8).bind fun x3 => hp_nm ((a6 * (31 : Int64)) + x3.toInt64) fun x4 => hp_nm (a8 + 1) fun x5 => (m_S_chainOf_28 G  n) a5 x4 x5 h))
set_option maxRecDepth 100000 in
set_option maxHeartbeats 4000000 in
theorem j_S_chainOf_28 {Z : hp_Z} : ∀ (n : Nat) (a5 : Nat) (a6 : Int64) (a8 : Int32) (h : hp_H), hp_J Y_S_chainOf Z hp_rI h 28 [(5, .ref a5), (6, .long a6), (8, .int a8)] [] (m_S_chainOf_28 (hp_G Z)  n a5 a6 a8 h) := by
  intro n
  induction n with
  | zero => intro a5 a6 a8 h; exact hp_fail
  | succ n ih =>
    intro a5 a6 a8 h
    rw [m_S_chainOf_28]
    refine hp_iload (x0 := 2) d_S_chainOf_28 rfl ?_
    refine hp_aload (x0 := 0) d_S_chainOf_30 rfl ?_
    refine hp_getI fl_S_99 d_S_chainOf_32 fun x1 => ?_
    refine hp_icmp_ge (tgt := 69) d_S_chainOf_35 (by decide) ?_ ?_
    · refine hp_sub [1] rfl ?_
      exact j_S_chainOf_69  _ _
    · refine hp_iload (x0 := 2) d_S_chainOf_38 rfl ?_
      refine hp_bipush (v := 64) d_S_chainOf_40 (by decide) ?_
      refine hp_icmp_ge (tgt := 69) d_S_chainOf_42 (by decide) ?_ ?_
      · refine hp_sub [1] rfl ?_
        exact j_S_chainOf_69  _ _
      · refine hp_lload (x0 := 1) d_S_chainOf_45 rfl ?_
        refine hp_ldc2 (v := 31) d_S_chainOf_47 w_292 ?_
        refine hp_lmul d_S_chainOf_50 ?_
        refine hp_aload (x0 := 0) d_S_chainOf_51 rfl ?_
        refine hp_getR fl_S_102 d_S_chainOf_53 fun x2 => ?_
        refine hp_iload (x0 := 2) d_S_chainOf_56 rfl ?_
        refine hp_bald d_S_chainOf_58 fun x3 => ?_
        refine hp_i2l d_S_chainOf_59 ?_
        refine hp_ladd d_S_chainOf_60 ?_
        refine hp_lstore (fun x4 => [(6, .long x4), (5, .ref a5), (8, .int a8)]) d_S_chainOf_61 (by decide) (fun _ => rfl) fun x4 => ?_
        refine hp_iinc (x0 := 2) (d := 1) (fun x5 => [(8, .int x5), (6, .long x4), (5, .ref a5)]) d_S_chainOf_63 rfl (by decide) (by decide) (fun _ => rfl) fun x5 => ?_
        refine hp_goto (tgt := 28) d_S_chainOf_66 (by decide) ?_
        refine hp_sub [2, 1, 0] rfl ?_
        exact ih _ _ _ _
def m_S_chainOf (G : Nat → Nat) (a0 : Int32) (a1 : Int32) (a2 : Int64) (a4 : Int32) (a5 : Nat) (h : hp_H) : Option (Int32 × hp_H) := hp_nm ((((((a0.toInt64 * (31 : Int64)) + a1.toInt64) * (31 : Int64)) + a4.toInt64) * (31 : Int64)) + a2) fun x1 => hp_nm (0 : Int32) fun x2 => m_S_chainOf_28 G hp_fu a5 x1 x2 h
set_option maxRecDepth 100000 in
set_option maxHeartbeats 4000000 in
theorem j_S_chainOf_0 {Z : hp_Z} (a0 : Int32) (a1 : Int32) (a2 : Int64) (a4 : Int32) (a5 : Nat) (h : hp_H) : hp_J Y_S_chainOf Z hp_rI h 0 [(0, .int a0), (1, .int a1), (2, .long a2), (4, .int a4), (5, .ref a5)] [] (m_S_chainOf (hp_G Z)  a0 a1 a2 a4 a5 h) := by
  unfold m_S_chainOf
  refine hp_iload_n (x0 := 0) d_S_chainOf_0 rfl rfl ?_
  refine hp_i2l d_S_chainOf_1 ?_
  refine hp_ldc2 (v := 31) d_S_chainOf_2 w_292 ?_
  refine hp_lmul d_S_chainOf_5 ?_
  refine hp_iload_n (x0 := 1) d_S_chainOf_6 rfl rfl ?_
  refine hp_i2l d_S_chainOf_7 ?_
  refine hp_ladd d_S_chainOf_8 ?_
  refine hp_ldc2 (v := 31) d_S_chainOf_9 w_292 ?_
  refine hp_lmul d_S_chainOf_12 ?_
  refine hp_iload (x0 := 3) d_S_chainOf_13 rfl ?_
  refine hp_i2l d_S_chainOf_15 ?_
  refine hp_ladd d_S_chainOf_16 ?_
  refine hp_ldc2 (v := 31) d_S_chainOf_17 w_292 ?_
  refine hp_lmul d_S_chainOf_20 ?_
  refine hp_lload_n (x0 := 2) d_S_chainOf_21 rfl rfl ?_
  refine hp_ladd d_S_chainOf_22 ?_
  refine hp_lstore (fun x1 => [(6, .long x1), (0, .int a0), (1, .int a1), (2, .long a2), (4, .int a4), (5, .ref a5)]) d_S_chainOf_23 (by decide) (fun _ => rfl) fun x1 => ?_
  refine hp_iconst (v := 0) d_S_chainOf_25 (by decide) ?_
  refine hp_istore (fun x2 => [(8, .int x2), (6, .long x1), (0, .int a0), (1, .int a1), (2, .long a2), (4, .int a4), (5, .ref a5)]) d_S_chainOf_26 (by decide) (fun _ => rfl) fun x2 => ?_
  refine hp_sub [6, 1, 0] rfl ?_
  exact j_S_chainOf_28  hp_fu _ _ _ _
theorem t_S_chainOf (l : Launch) (E : hp_E) (a0 : Int32) (a1 : Int32) (a2 : Int64) (a4 : Int32) (a5 : Nat) : hp_M l E y_S_chainOf Y_S_chainOf hp_rI [.int a0, .int a1, .long a2, .int a4, .ref a5] (m_S_chainOf E.2.2.1 a0 a1 a2 a4 a5) := hp_M.of (plainFor_of_name (by decide)) ⟨rfl, rfl⟩ (Nat.le_of_ble_eq_true rfl) (fun Z h hE => by subst hE; exact j_S_chainOf_0 _ _ _ _ _ h)
-- S_keep
theorem d_S_keep_0 : decode prog_6_method_9_code 0 = .ok (.iload_n 1, 1) := by decide +kernel
theorem d_S_keep_1 : decode prog_6_method_9_code 1 = .ok (.iload_n 2, 1) := by decide +kernel
theorem d_S_keep_2 : decode prog_6_method_9_code 2 = .ok (.lload_n 3, 1) := by decide +kernel
theorem d_S_keep_3 : decode prog_6_method_9_code 3 = .ok (.iload 5, 2) := by decide +kernel
theorem d_S_keep_5 : decode prog_6_method_9_code 5 = .ok (.aload 6, 2) := by decide +kernel
theorem d_S_keep_7 : decode prog_6_method_9_code 7 = .ok (.invokestatic 78, 3) := by decide +kernel
theorem d_S_keep_10 : decode prog_6_method_9_code 10 = .ok (.istore 7, 2) := by decide +kernel
theorem d_S_keep_12 : decode prog_6_method_9_code 12 = .ok (.aload_n 0, 1) := by decide +kernel
theorem d_S_keep_13 : decode prog_6_method_9_code 13 = .ok (.getfield 18, 3) := by decide +kernel
theorem d_S_keep_16 : decode prog_6_method_9_code 16 = .ok (.iload 7, 2) := by decide +kernel
theorem d_S_keep_18 : decode prog_6_method_9_code 18 = .ok (.iaload, 1) := by decide +kernel
theorem d_S_keep_19 : decode prog_6_method_9_code 19 = .ok (.istore 8, 2) := by decide +kernel
theorem d_S_keep_21 : decode prog_6_method_9_code 21 = .ok (.iconst 0, 1) := by decide +kernel
theorem d_S_keep_22 : decode prog_6_method_9_code 22 = .ok (.istore 9, 2) := by decide +kernel
theorem d_S_keep_24 : decode prog_6_method_9_code 24 = .ok (.iload 8, 2) := by decide +kernel
theorem d_S_keep_26 : decode prog_6_method_9_code 26 = .ok (.iconst 1, 1) := by decide +kernel
theorem d_S_keep_27 : decode prog_6_method_9_code 27 = .ok (.if_icmp .lt 106, 3) := by decide +kernel
theorem d_S_keep_30 : decode prog_6_method_9_code 30 = .ok (.iload 8, 2) := by decide +kernel
theorem d_S_keep_32 : decode prog_6_method_9_code 32 = .ok (.aload_n 0, 1) := by decide +kernel
theorem d_S_keep_33 : decode prog_6_method_9_code 33 = .ok (.getfield 12, 3) := by decide +kernel
theorem d_S_keep_36 : decode prog_6_method_9_code 36 = .ok (.invokevirtual 42, 3) := by decide +kernel
theorem d_S_keep_39 : decode prog_6_method_9_code 39 = .ok (.if_icmp .gt 94, 3) := by decide +kernel
theorem d_S_keep_42 : decode prog_6_method_9_code 42 = .ok (.iload 9, 2) := by decide +kernel
theorem d_S_keep_44 : decode prog_6_method_9_code 44 = .ok (.sipush 2000, 3) := by decide +kernel
theorem d_S_keep_47 : decode prog_6_method_9_code 47 = .ok (.if_icmp .ge 86, 3) := by decide +kernel
theorem d_S_keep_50 : decode prog_6_method_9_code 50 = .ok (.aload_n 0, 1) := by decide +kernel
theorem d_S_keep_51 : decode prog_6_method_9_code 51 = .ok (.getfield 12, 3) := by decide +kernel
theorem d_S_keep_54 : decode prog_6_method_9_code 54 = .ok (.iload 8, 2) := by decide +kernel
theorem d_S_keep_56 : decode prog_6_method_9_code 56 = .ok (.iconst 1, 1) := by decide +kernel
theorem d_S_keep_57 : decode prog_6_method_9_code 57 = .ok (.isub, 1) := by decide +kernel
theorem d_S_keep_58 : decode prog_6_method_9_code 58 = .ok (.invokevirtual 46, 3) := by decide +kernel
theorem d_S_keep_61 : decode prog_6_method_9_code 61 = .ok (.checkcast 22, 3) := by decide +kernel
theorem d_S_keep_64 : decode prog_6_method_9_code 64 = .ok (.astore 10, 2) := by decide +kernel
theorem d_S_keep_66 : decode prog_6_method_9_code 66 = .ok (.aload 10, 2) := by decide +kernel
theorem d_S_keep_68 : decode prog_6_method_9_code 68 = .ok (.getfield 81, 3) := by decide +kernel
theorem d_S_keep_71 : decode prog_6_method_9_code 71 = .ok (.iload_n 1, 1) := by decide +kernel
theorem d_S_keep_72 : decode prog_6_method_9_code 72 = .ok (.if_icmp .ne 48, 3) := by decide +kernel
theorem d_S_keep_75 : decode prog_6_method_9_code 75 = .ok (.aload 10, 2) := by decide +kernel
theorem d_S_keep_77 : decode prog_6_method_9_code 77 = .ok (.getfield 84, 3) := by decide +kernel
theorem d_S_keep_80 : decode prog_6_method_9_code 80 = .ok (.iload_n 2, 1) := by decide +kernel
theorem d_S_keep_81 : decode prog_6_method_9_code 81 = .ok (.if_icmp .ne 39, 3) := by decide +kernel
theorem d_S_keep_84 : decode prog_6_method_9_code 84 = .ok (.aload 10, 2) := by decide +kernel
theorem d_S_keep_86 : decode prog_6_method_9_code 86 = .ok (.getfield 87, 3) := by decide +kernel
theorem d_S_keep_89 : decode prog_6_method_9_code 89 = .ok (.lload_n 3, 1) := by decide +kernel
theorem d_S_keep_90 : decode prog_6_method_9_code 90 = .ok (.lcmp, 1) := by decide +kernel
theorem d_S_keep_91 : decode prog_6_method_9_code 91 = .ok (.ifCond .ne 29, 3) := by decide +kernel
theorem d_S_keep_94 : decode prog_6_method_9_code 94 = .ok (.aload 10, 2) := by decide +kernel
theorem d_S_keep_96 : decode prog_6_method_9_code 96 = .ok (.getfield 88, 3) := by decide +kernel
theorem d_S_keep_99 : decode prog_6_method_9_code 99 = .ok (.iload 5, 2) := by decide +kernel
theorem d_S_keep_101 : decode prog_6_method_9_code 101 = .ok (.if_icmp .ne 19, 3) := by decide +kernel
theorem d_S_keep_104 : decode prog_6_method_9_code 104 = .ok (.aload 6, 2) := by decide +kernel
theorem d_S_keep_106 : decode prog_6_method_9_code 106 = .ok (.aload 10, 2) := by decide +kernel
theorem d_S_keep_108 : decode prog_6_method_9_code 108 = .ok (.getfield 89, 3) := by decide +kernel
theorem d_S_keep_111 : decode prog_6_method_9_code 111 = .ok (.invokevirtual 92, 3) := by decide +kernel
theorem d_S_keep_114 : decode prog_6_method_9_code 114 = .ok (.ifCond .eq 6, 3) := by decide +kernel
theorem d_S_keep_117 : decode prog_6_method_9_code 117 = .ok (.iload 8, 2) := by decide +kernel
theorem d_S_keep_119 : decode prog_6_method_9_code 119 = .ok (.ireturn, 1) := by decide +kernel
theorem d_S_keep_120 : decode prog_6_method_9_code 120 = .ok (.aload 10, 2) := by decide +kernel
theorem d_S_keep_122 : decode prog_6_method_9_code 122 = .ok (.getfield 96, 3) := by decide +kernel
theorem d_S_keep_125 : decode prog_6_method_9_code 125 = .ok (.istore 8, 2) := by decide +kernel
theorem d_S_keep_127 : decode prog_6_method_9_code 127 = .ok (.iinc 9 1, 3) := by decide +kernel
theorem d_S_keep_130 : decode prog_6_method_9_code 130 = .ok (.goto (-106), 3) := by decide +kernel
theorem d_S_keep_133 : decode prog_6_method_9_code 133 = .ok (.aload_n 0, 1) := by decide +kernel
theorem d_S_keep_134 : decode prog_6_method_9_code 134 = .ok (.getfield 12, 3) := by decide +kernel
theorem d_S_keep_137 : decode prog_6_method_9_code 137 = .ok (.invokevirtual 42, 3) := by decide +kernel
theorem d_S_keep_140 : decode prog_6_method_9_code 140 = .ok (.sipush 2000, 3) := by decide +kernel
theorem d_S_keep_143 : decode prog_6_method_9_code 143 = .ok (.if_icmp .lt 6, 3) := by decide +kernel
theorem d_S_keep_146 : decode prog_6_method_9_code 146 = .ok (.bipush (-3), 2) := by decide +kernel
theorem d_S_keep_148 : decode prog_6_method_9_code 148 = .ok (.ireturn, 1) := by decide +kernel
theorem d_S_keep_149 : decode prog_6_method_9_code 149 = .ok (.aload 6, 2) := by decide +kernel
theorem d_S_keep_151 : decode prog_6_method_9_code 151 = .ok (.getfield 99, 3) := by decide +kernel
theorem d_S_keep_154 : decode prog_6_method_9_code 154 = .ok (.ifCond .le 19, 3) := by decide +kernel
theorem d_S_keep_157 : decode prog_6_method_9_code 157 = .ok (.aload 6, 2) := by decide +kernel
theorem d_S_keep_159 : decode prog_6_method_9_code 159 = .ok (.getfield 102, 3) := by decide +kernel
theorem d_S_keep_162 : decode prog_6_method_9_code 162 = .ok (.aload 6, 2) := by decide +kernel
theorem d_S_keep_164 : decode prog_6_method_9_code 164 = .ok (.getfield 99, 3) := by decide +kernel
theorem d_S_keep_167 : decode prog_6_method_9_code 167 = .ok (.invokestatic 103, 3) := by decide +kernel
theorem d_S_keep_170 : decode prog_6_method_9_code 170 = .ok (.goto 6, 3) := by decide +kernel
theorem d_S_keep_173 : decode prog_6_method_9_code 173 = .ok (.getstatic 24, 3) := by decide +kernel
theorem d_S_keep_176 : decode prog_6_method_9_code 176 = .ok (.astore 9, 2) := by decide +kernel
theorem d_S_keep_178 : decode prog_6_method_9_code 178 = .ok (.aload_n 0, 1) := by decide +kernel
theorem d_S_keep_179 : decode prog_6_method_9_code 179 = .ok (.getfield 12, 3) := by decide +kernel
theorem d_S_keep_182 : decode prog_6_method_9_code 182 = .ok (.new 22, 3) := by decide +kernel
theorem d_S_keep_185 : decode prog_6_method_9_code 185 = .ok (.dup, 1) := by decide +kernel
theorem d_S_keep_186 : decode prog_6_method_9_code 186 = .ok (.iload_n 1, 1) := by decide +kernel
theorem d_S_keep_187 : decode prog_6_method_9_code 187 = .ok (.iload_n 2, 1) := by decide +kernel
theorem d_S_keep_188 : decode prog_6_method_9_code 188 = .ok (.lload_n 3, 1) := by decide +kernel
theorem d_S_keep_189 : decode prog_6_method_9_code 189 = .ok (.iload 5, 2) := by decide +kernel
theorem d_S_keep_191 : decode prog_6_method_9_code 191 = .ok (.aload 9, 2) := by decide +kernel
theorem d_S_keep_193 : decode prog_6_method_9_code 193 = .ok (.aload_n 0, 1) := by decide +kernel
theorem d_S_keep_194 : decode prog_6_method_9_code 194 = .ok (.getfield 18, 3) := by decide +kernel
theorem d_S_keep_197 : decode prog_6_method_9_code 197 = .ok (.iload 7, 2) := by decide +kernel
theorem d_S_keep_199 : decode prog_6_method_9_code 199 = .ok (.iaload, 1) := by decide +kernel
theorem d_S_keep_200 : decode prog_6_method_9_code 200 = .ok (.invokespecial 28, 3) := by decide +kernel
theorem d_S_keep_203 : decode prog_6_method_9_code 203 = .ok (.invokevirtual 109, 3) := by decide +kernel
theorem d_S_keep_206 : decode prog_6_method_9_code 206 = .ok (.pop, 1) := by decide +kernel
theorem d_S_keep_207 : decode prog_6_method_9_code 207 = .ok (.aload_n 0, 1) := by decide +kernel
theorem d_S_keep_208 : decode prog_6_method_9_code 208 = .ok (.getfield 18, 3) := by decide +kernel
theorem d_S_keep_211 : decode prog_6_method_9_code 211 = .ok (.iload 7, 2) := by decide +kernel
theorem d_S_keep_213 : decode prog_6_method_9_code 213 = .ok (.aload_n 0, 1) := by decide +kernel
theorem d_S_keep_214 : decode prog_6_method_9_code 214 = .ok (.getfield 12, 3) := by decide +kernel
theorem d_S_keep_217 : decode prog_6_method_9_code 217 = .ok (.invokevirtual 42, 3) := by decide +kernel
theorem d_S_keep_220 : decode prog_6_method_9_code 220 = .ok (.iastore, 1) := by decide +kernel
theorem d_S_keep_221 : decode prog_6_method_9_code 221 = .ok (.aload_n 0, 1) := by decide +kernel
theorem d_S_keep_222 : decode prog_6_method_9_code 222 = .ok (.getfield 12, 3) := by decide +kernel
theorem d_S_keep_225 : decode prog_6_method_9_code 225 = .ok (.invokevirtual 42, 3) := by decide +kernel
theorem d_S_keep_228 : decode prog_6_method_9_code 228 = .ok (.ireturn, 1) := by decide +kernel
def m_S_keep_120 (G : Nat → Nat) (r24 : Nat → Int32 → Int32 → Int64 → Int32 → Nat → Int32 → Int32 → Int32 → hp_H → Option (Int32 × hp_H)) (a0 : Nat) (a1 : Int32) (a2 : Int32) (a3 : Int64) (a5 : Int32) (a6 : Nat) (a7 : Int32) (a9 : Int32) (a10 : Nat) (h : hp_H) : Option (Int32 × hp_H) := (hp_gI h a10 3 5).bind fun x1 => hp_nm x1 fun x2 => hp_nm (a9 + 1) fun x3 => r24 a0 a1 a2 a3 a5 a6 a7 x2 x3 h
set_option maxRecDepth 100000 in
set_option maxHeartbeats 4000000 in
theorem j_S_keep_120 {Z : hp_Z} (r24 : Nat → Int32 → Int32 → Int64 → Int32 → Nat → Int32 → Int32 → Int32 → hp_H → Option (Int32 × hp_H)) (hr24 : ∀ (a0 : Nat) (a1 : Int32) (a2 : Int32) (a3 : Int64) (a5 : Int32) (a6 : Nat) (a7 : Int32) (a8 : Int32) (a9 : Int32) (h : hp_H), hp_J Y_S_keep Z hp_rI h 24 [(0, .ref a0), (1, .int a1), (2, .int a2), (3, .long a3), (5, .int a5), (6, .ref a6), (7, .int a7), (8, .int a8), (9, .int a9)] [] (r24 a0 a1 a2 a3 a5 a6 a7 a8 a9  h)) (a0 : Nat) (a1 : Int32) (a2 : Int32) (a3 : Int64) (a5 : Int32) (a6 : Nat) (a7 : Int32) (a9 : Int32) (a10 : Nat) (h : hp_H) : hp_J Y_S_keep Z hp_rI h 120 [(0, .ref a0), (1, .int a1), (2, .int a2), (3, .long a3), (5, .int a5), (6, .ref a6), (7, .int a7), (9, .int a9), (10, .ref a10)] [] (m_S_keep_120 (hp_G Z) r24 a0 a1 a2 a3 a5 a6 a7 a9 a10 h) := by
  unfold m_S_keep_120
  refine hp_aload (x0 := 8) d_S_keep_120 rfl ?_
  refine hp_getI fl_S_96 d_S_keep_122 fun x1 => ?_
  refine hp_istore (fun x2 => [(8, .int x2), (0, .ref a0), (1, .int a1), (2, .int a2), (3, .long a3), (5, .int a5), (6, .ref a6), (7, .int a7), (9, .int a9), (10, .ref a10)]) d_S_keep_125 (by decide) (fun _ => rfl) fun x2 => ?_
  refine hp_iinc (x0 := 8) (d := 1) (fun x3 => [(9, .int x3), (8, .int x2), (0, .ref a0), (1, .int a1), (2, .int a2), (3, .long a3), (5, .int a5), (6, .ref a6), (7, .int a7), (10, .ref a10)]) d_S_keep_127 rfl (by decide) (by decide) (fun _ => rfl) fun x3 => ?_
  refine hp_goto (tgt := 24) d_S_keep_130 (by decide) ?_
  refine hp_sub [2, 3, 4, 5, 6, 7, 8, 1, 0] rfl ?_
  exact hr24 _ _ _ _ _ _ _ _ _ _
def m_S_keep_176 (G : Nat → Nat) (a0 : Nat) (a1 : Int32) (a2 : Int32) (a3 : Int64) (a5 : Int32) (a7 : Int32) (s0 : Nat) (h : hp_H) : Option (Int32 × hp_H) := hp_nm s0 fun x1 => (hp_gR h a0 1 0).bind fun x2 => hp_nwK h 3 6 [.int 0, .int 0, .long 0, .int 0, .null, .int 0] fun o3 h4 => (hp_gR h4 a0 1 1).bind fun x5 => (hp_aI h4 .int x5 a7).bind fun x6 => (m_V_init G o3 a1 a2 a3 a5 x1 x6 h4).bind fun q7 => (hp_vck q7.2 x2 2 (m_AL_add G x2 o3 q7.2)).bind fun q8 => (hp_gR q8.2 a0 1 1).bind fun x9 => (hp_gR q8.2 a0 1 0).bind fun x10 => (hp_vck q8.2 x10 2 (m_AL_size G x10 q8.2)).bind fun q11 => (hp_sI q11.2 .int x9 a7 q11.1).bind fun h12 => (hp_gR h12 a0 1 0).bind fun x13 => (hp_vck h12 x13 2 (m_AL_size G x13 h12)).bind fun q14 => some (q14.1, q14.2)
set_option maxRecDepth 100000 in
set_option maxHeartbeats 4000000 in
theorem j_S_keep_176 {Z : hp_Z} (a0 : Nat) (a1 : Int32) (a2 : Int32) (a3 : Int64) (a5 : Int32) (a7 : Int32) (s0 : Nat) (h : hp_H) : hp_J Y_S_keep Z hp_rI h 176 [(0, .ref a0), (1, .int a1), (2, .int a2), (3, .long a3), (5, .int a5), (7, .int a7)] [.ref s0] (m_S_keep_176 (hp_G Z)  a0 a1 a2 a3 a5 a7 s0 h) := by
  unfold m_S_keep_176
  refine hp_astore (fun x1 => [(9, .ref x1), (0, .ref a0), (1, .int a1), (2, .int a2), (3, .long a3), (5, .int a5), (7, .int a7)]) d_S_keep_176 (by decide) (fun _ => rfl) fun x1 => ?_
  refine hp_aload_n (x0 := 1) d_S_keep_178 rfl rfl ?_
  refine hp_getR fl_S_12 d_S_keep_179 fun x2 => ?_
  refine hp_newO nw_S_22 d_S_keep_182 fun o3 h4 => ?_
  refine hp_dup d_S_keep_185 rfl ?_
  refine hp_iload_n (x0 := 2) d_S_keep_186 rfl rfl ?_
  refine hp_iload_n (x0 := 3) d_S_keep_187 rfl rfl ?_
  refine hp_lload_n (x0 := 4) d_S_keep_188 rfl rfl ?_
  refine hp_iload (x0 := 5) d_S_keep_189 rfl ?_
  refine hp_aload (x0 := 0) d_S_keep_191 rfl ?_
  refine hp_aload_n (x0 := 1) d_S_keep_193 rfl rfl ?_
  refine hp_getR fl_S_18 d_S_keep_194 fun x5 => ?_
  refine hp_iload (x0 := 6) d_S_keep_197 rfl ?_
  refine hp_iald d_S_keep_199 fun x6 => ?_
  refine hp_callU (hp_crI (t_V_init _ _ _ _ _ _ _ _ _) cw_S_28 ⟨rfl, w_68⟩ rfl (by decide) rfl rfl (Nat.le_of_ble_eq_true rfl) d_S_keep_200) fun q7 => ?_
  refine hp_callI (hp_crV (ci := 2) (t_AL_add _ _ _ _) cw_S_109 rfl ⟨w_332, w_333⟩ (by decide) rfl rfl (Nat.le_of_ble_eq_true rfl) d_S_keep_203) fun q8 => ?_
  refine hp_pop d_S_keep_206 rfl ?_
  refine hp_aload_n (x0 := 1) d_S_keep_207 rfl rfl ?_
  refine hp_getR fl_S_18 d_S_keep_208 fun x9 => ?_
  refine hp_iload (x0 := 6) d_S_keep_211 rfl ?_
  refine hp_aload_n (x0 := 1) d_S_keep_213 rfl rfl ?_
  refine hp_getR fl_S_12 d_S_keep_214 fun x10 => ?_
  refine hp_callI (hp_crV (ci := 2) (t_AL_size _ _ _) cw_S_42 rfl ⟨w_294, w_295⟩ (by decide) rfl rfl (Nat.le_of_ble_eq_true rfl) d_S_keep_217) fun q11 => ?_
  refine hp_iast d_S_keep_220 fun h12 => ?_
  refine hp_aload_n (x0 := 1) d_S_keep_221 rfl rfl ?_
  refine hp_getR fl_S_12 d_S_keep_222 fun x13 => ?_
  refine hp_callI (hp_crV (ci := 2) (t_AL_size _ _ _) cw_S_42 rfl ⟨w_294, w_295⟩ (by decide) rfl rfl (Nat.le_of_ble_eq_true rfl) d_S_keep_225) fun q14 => ?_
  exact hp_iret d_S_keep_228 rfl
def m_S_keep_133 (G : Nat → Nat) (a0 : Nat) (a1 : Int32) (a2 : Int32) (a3 : Int64) (a5 : Int32) (a6 : Nat) (a7 : Int32) (h : hp_H) : Option (Int32 × hp_H) := (hp_gR h a0 1 0).bind fun x1 => (hp_vck h x1 2 (m_AL_size G x1 h)).bind fun q2 => if q2.1 < (2000 : Int32) then ((hp_gI q2.2 a6 4 1).bind fun x3 => if x3 ≤ 0 then (m_S_keep_176 G a0 a1 a2 a3 a5 a7 (G 1) q2.2) else ((hp_gR q2.2 a6 4 0).bind fun x4 => (hp_gI q2.2 a6 4 1).bind fun x5 => (m_AR_copyOf G x4 x5 q2.2).bind fun q6 => m_S_keep_176 G a0 a1 a2 a3 a5 a7 q6.1 q6.2)) else (some ((-3 : Int32), q2.2))
set_option maxRecDepth 100000 in
set_option maxHeartbeats 4000000 in
theorem j_S_keep_133 {Z : hp_Z} (a0 : Nat) (a1 : Int32) (a2 : Int32) (a3 : Int64) (a5 : Int32) (a6 : Nat) (a7 : Int32) (h : hp_H) : hp_J Y_S_keep Z hp_rI h 133 [(0, .ref a0), (1, .int a1), (2, .int a2), (3, .long a3), (5, .int a5), (6, .ref a6), (7, .int a7)] [] (m_S_keep_133 (hp_G Z)  a0 a1 a2 a3 a5 a6 a7 h) := by
  unfold m_S_keep_133
  refine hp_aload_n (x0 := 0) d_S_keep_133 rfl rfl ?_
  refine hp_getR fl_S_12 d_S_keep_134 fun x1 => ?_
  refine hp_callI (hp_crV (ci := 2) (t_AL_size _ _ _) cw_S_42 rfl ⟨w_294, w_295⟩ (by decide) rfl rfl (Nat.le_of_ble_eq_true rfl) d_S_keep_137) fun q2 => ?_
  refine hp_sipush (v := 2000) d_S_keep_140 (by decide) ?_
  refine hp_icmp_lt (tgt := 149) d_S_keep_143 (by decide) ?_ ?_
  · refine hp_aload (x0 := 5) d_S_keep_149 rfl ?_
    refine hp_getI fl_S_99 d_S_keep_151 fun x3 => ?_
    refine hp_if_le (tgt := 173) d_S_keep_154 (by decide) ?_ ?_
    · refine hp_getsN (k := 1) rfl w_65 d_S_keep_173 ?_
      refine hp_sub [0, 1, 2, 3, 4, 6] rfl ?_
      exact j_S_keep_176  _ _ _ _ _ _ _ _
    · refine hp_aload (x0 := 5) d_S_keep_157 rfl ?_
      refine hp_getR fl_S_102 d_S_keep_159 fun x4 => ?_
      refine hp_aload (x0 := 5) d_S_keep_162 rfl ?_
      refine hp_getI fl_S_99 d_S_keep_164 fun x5 => ?_
      refine hp_callR (hp_crS (t_AR_copyOf _ _ _ _) cw_S_103 w_316 (by decide) rfl rfl (Nat.le_of_ble_eq_true rfl) d_S_keep_167) fun q6 => ?_
      refine hp_goto (tgt := 176) d_S_keep_170 (by decide) ?_
      refine hp_sub [0, 1, 2, 3, 4, 6] rfl ?_
      exact j_S_keep_176  _ _ _ _ _ _ _ _
  · refine hp_bipush (v := -3) d_S_keep_146 (by decide) ?_
    exact hp_iret d_S_keep_148 rfl
def m_S_keep_24 (G : Nat → Nat) : Nat → Nat → Int32 → Int32 → Int64 → Int32 → Nat → Int32 → Int32 → Int32 → hp_H → Option (Int32 × hp_H)
  | 0, _, _, _, _, _, _, _, _, _, _ => none
  | n + 1, a0, a1, a2, a3, a5, a6, a7, a8, a9, h => if a8 < (1 : Int32) then (m_S_keep_133 G a0 a1 a2 a3 a5 a6 a7 h) else ((hp_gR h a0 1 0).bind fun x1 => (hp_vck h x1 2 (m_AL_size G x1 h)).bind fun q2 => if q2.1 < a8 then (m_S_keep_133 G a0 a1 a2 a3 a5 a6 a7 q2.2) else (if (2000 : Int32) ≤ a9 then (m_S_keep_133 G a0 a1 a2 a3 a5 a6 a7 q2.2) else ((hp_gR q2.2 a0 1 0).bind fun x3 => (hp_vck q2.2 x3 2 (m_AL_get G x3 (a8 - (1 : Int32)) q2.2)).bind fun q4 => hp_vck q4.2 q4.1 3 <| hp_nm q4.1 fun x5 => (hp_gI q4.2 x5 3 0).bind fun x6 => if x6 = a1 then ((hp_gI q4.2 x5 3 1).bind fun x7 => if x7 = a2 then ((hp_gL q4.2 x5 3 2).bind fun x8 => if (lg_cmp x8 a3) = 0 then ((hp_gI q4.2 x5 3 3).bind fun x9 => if x9 = a5 then ((hp_gR q4.2 x5 3 4).bind fun x10 => (hp_vck q4.2 a6 4 (m_R_holds G a6 x10 q4.2)).bind fun q11 => if q11.1 = 0 then (m_S_keep_120 G (m_S_keep_24 G  n) a0 a1 a2 a3 a5 a6 a7 a9 x5 q11.2) else (some (a8, q11.2))) else (m_S_keep_120 G (m_S_keep_24 G  n) a0 a1 a2 a3 a5 a6 a7 a9 x5 q4.2)) else (m_S_keep_120 G (m_S_keep_24 G  n) a0 a1 a2 a3 a5 a6 a7 a9 x5 q4.2)) else (m_S_keep_120 G (m_S_keep_24 G  n) a0 a1 a2 a3 a5 a6 a7 a9 x5 q4.2)) else (m_S_keep_120 G (m_S_keep_24 G  n) a0 a1 a2 a3 a5 a6 a7 a9 x5 q4.2))))
set_option maxRecDepth 100000 in
set_option maxHeartbeats 4000000 in
theorem j_S_keep_24 {Z : hp_Z} : ∀ (n : Nat) (a0 : Nat) (a1 : Int32) (a2 : Int32) (a3 : Int64) (a5 : Int32) (a6 : Nat) (a7 : Int32) (a8 : Int32) (a9 : Int32) (h : hp_H), hp_J Y_S_keep Z hp_rI h 24 [(0, .ref a0), (1, .int a1), (2, .int a2), (3, .long a3), (5, .int a5), (6, .ref a6), (7, .int a7), (8, .int a8), (9, .int a9)] [] (m_S_keep_24 (hp_G Z)  n a0 a1 a2 a3 a5 a6 a7 a8 a9 h) := by
  intro n
  induction n with
  | zero => intro a0 a1 a2 a3 a5 a6 a7 a8 a9 h; exact hp_fail
  | succ n ih =>
    intro a0 a1 a2 a3 a5 a6 a7 a8 a9 h
    rw [m_S_keep_24]
    refine hp_iload (x0 := 7) d_S_keep_24 rfl ?_
    refine hp_iconst (v := 1) d_S_keep_26 (by decide) ?_
    refine hp_icmp_lt (tgt := 133) d_S_keep_27 (by decide) ?_ ?_
    · refine hp_sub [0, 1, 2, 3, 4, 5, 6] rfl ?_
      exact j_S_keep_133  _ _ _ _ _ _ _ _
    · refine hp_iload (x0 := 7) d_S_keep_30 rfl ?_
      refine hp_aload_n (x0 := 0) d_S_keep_32 rfl rfl ?_
      refine hp_getR fl_S_12 d_S_keep_33 fun x1 => ?_
      refine hp_callI (hp_crV (ci := 2) (t_AL_size _ _ _) cw_S_42 rfl ⟨w_294, w_295⟩ (by decide) rfl rfl (Nat.le_of_ble_eq_true rfl) d_S_keep_36) fun q2 => ?_
      refine hp_icmp_gt (tgt := 133) d_S_keep_39 (by decide) ?_ ?_
      · refine hp_sub [0, 1, 2, 3, 4, 5, 6] rfl ?_
        exact j_S_keep_133  _ _ _ _ _ _ _ _
      · refine hp_iload (x0 := 8) d_S_keep_42 rfl ?_
        refine hp_sipush (v := 2000) d_S_keep_44 (by decide) ?_
        refine hp_icmp_ge (tgt := 133) d_S_keep_47 (by decide) ?_ ?_
        · refine hp_sub [0, 1, 2, 3, 4, 5, 6] rfl ?_
          exact j_S_keep_133  _ _ _ _ _ _ _ _
        · refine hp_aload_n (x0 := 0) d_S_keep_50 rfl rfl ?_
          refine hp_getR fl_S_12 d_S_keep_51 fun x3 => ?_
          refine hp_iload (x0 := 7) d_S_keep_54 rfl ?_
          refine hp_iconst (v := 1) d_S_keep_56 (by decide) ?_
          refine hp_isub d_S_keep_57 ?_
          refine hp_callR (hp_crV (ci := 2) (t_AL_get _ _ _ _) cw_S_46 rfl ⟨w_298, w_299⟩ (by decide) rfl rfl (Nat.le_of_ble_eq_true rfl) d_S_keep_58) fun q4 => ?_
          refine hp_cast (ci := 3) rfl w_63 d_S_keep_61 ?_
          refine hp_astore (fun x5 => [(10, .ref x5), (0, .ref a0), (1, .int a1), (2, .int a2), (3, .long a3), (5, .int a5), (6, .ref a6), (7, .int a7), (8, .int a8), (9, .int a9)]) d_S_keep_64 (by decide) (fun _ => rfl) fun x5 => ?_
          refine hp_aload (x0 := 0) d_S_keep_66 rfl ?_
          refine hp_getI fl_S_81 d_S_keep_68 fun x6 => ?_
          refine hp_iload_n (x0 := 2) d_S_keep_71 rfl rfl ?_
          refine hp_icmp_ne (tgt := 120) d_S_keep_72 (by decide) ?_ ?_
          · refine hp_aload (x0 := 0) d_S_keep_75 rfl ?_
            refine hp_getI fl_S_84 d_S_keep_77 fun x7 => ?_
            refine hp_iload_n (x0 := 3) d_S_keep_80 rfl rfl ?_
            refine hp_icmp_ne (tgt := 120) d_S_keep_81 (by decide) ?_ ?_
            · refine hp_aload (x0 := 0) d_S_keep_84 rfl ?_
              refine hp_getL fl_S_87 d_S_keep_86 fun x8 => ?_
              refine hp_lload_n (x0 := 4) d_S_keep_89 rfl rfl ?_
              refine hp_lcmp d_S_keep_90 ?_
              refine hp_if_ne (tgt := 120) d_S_keep_91 (by decide) ?_ ?_
              · refine hp_aload (x0 := 0) d_S_keep_94 rfl ?_
                refine hp_getI fl_S_88 d_S_keep_96 fun x9 => ?_
                refine hp_iload (x0 := 5) d_S_keep_99 rfl ?_
                refine hp_icmp_ne (tgt := 120) d_S_keep_101 (by decide) ?_ ?_
                · refine hp_aload (x0 := 6) d_S_keep_104 rfl ?_
                  refine hp_aload (x0 := 0) d_S_keep_106 rfl ?_
                  refine hp_getR fl_S_89 d_S_keep_108 fun x10 => ?_
                  refine hp_callI (hp_crV (ci := 4) (t_R_holds _ _ _ _) cw_S_92 rfl ⟨w_312, w_313⟩ (by decide) rfl rfl (Nat.le_of_ble_eq_true rfl) d_S_keep_111) fun q11 => ?_
                  refine hp_if_eq (tgt := 120) d_S_keep_114 (by decide) ?_ ?_
                  · refine hp_sub [1, 2, 3, 4, 5, 6, 7, 9, 0] rfl ?_
                    exact j_S_keep_120 _ ih _ _ _ _ _ _ _ _ _ _
                  · refine hp_iload (x0 := 8) d_S_keep_117 rfl ?_
                    exact hp_iret d_S_keep_119 rfl
                · refine hp_sub [1, 2, 3, 4, 5, 6, 7, 9, 0] rfl ?_
                  exact j_S_keep_120 _ ih _ _ _ _ _ _ _ _ _ _
              · refine hp_sub [1, 2, 3, 4, 5, 6, 7, 9, 0] rfl ?_
                exact j_S_keep_120 _ ih _ _ _ _ _ _ _ _ _ _
            · refine hp_sub [1, 2, 3, 4, 5, 6, 7, 9, 0] rfl ?_
              exact j_S_keep_120 _ ih _ _ _ _ _ _ _ _ _ _
          · refine hp_sub [1, 2, 3, 4, 5, 6, 7, 9, 0] rfl ?_
            exact j_S_keep_120 _ ih _ _ _ _ _ _ _ _ _ _
def m_S_keep (G : Nat → Nat) (a0 : Nat) (a1 : Int32) (a2 : Int32) (a3 : Int64) (a5 : Int32) (a6 : Nat) (h : hp_H) : Option (Int32 × hp_H) := (m_S_chainOf G a1 a2 a3 a5 a6 h).bind fun q1 => hp_nm q1.1 fun x2 => (hp_gR q1.2 a0 1 1).bind fun x3 => (hp_aI q1.2 .int x3 x2).bind fun x4 => hp_nm x4 fun x5 => hp_nm (0 : Int32) fun x6 => m_S_keep_24 G hp_fu a0 a1 a2 a3 a5 a6 x2 x5 x6 q1.2
set_option maxRecDepth 100000 in
set_option maxHeartbeats 4000000 in
theorem j_S_keep_0 {Z : hp_Z} (a0 : Nat) (a1 : Int32) (a2 : Int32) (a3 : Int64) (a5 : Int32) (a6 : Nat) (h : hp_H) : hp_J Y_S_keep Z hp_rI h 0 [(0, .ref a0), (1, .int a1), (2, .int a2), (3, .long a3), (5, .int a5), (6, .ref a6)] [] (m_S_keep (hp_G Z)  a0 a1 a2 a3 a5 a6 h) := by
  unfold m_S_keep
  refine hp_iload_n (x0 := 1) d_S_keep_0 rfl rfl ?_
  refine hp_iload_n (x0 := 2) d_S_keep_1 rfl rfl ?_
  refine hp_lload_n (x0 := 3) d_S_keep_2 rfl rfl ?_
  refine hp_iload (x0 := 4) d_S_keep_3 rfl ?_
  refine hp_aload (x0 := 5) d_S_keep_5 rfl ?_
  refine hp_callI (hp_crS (t_S_chainOf _ _ _ _ _ _ _) cw_S_78 w_290 (by decide) rfl rfl (Nat.le_of_ble_eq_true rfl) d_S_keep_7) fun q1 => ?_
  refine hp_istore (fun x2 => [(7, .int x2), (0, .ref a0), (1, .int a1), (2, .int a2), (3, .long a3), (5, .int a5), (6, .ref a6)]) d_S_keep_10 (by decide) (fun _ => rfl) fun x2 => ?_
  refine hp_aload_n (x0 := 1) d_S_keep_12 rfl rfl ?_
  refine hp_getR fl_S_18 d_S_keep_13 fun x3 => ?_
  refine hp_iload (x0 := 0) d_S_keep_16 rfl ?_
  refine hp_iald d_S_keep_18 fun x4 => ?_
  refine hp_istore (fun x5 => [(8, .int x5), (7, .int x2), (0, .ref a0), (1, .int a1), (2, .int a2), (3, .long a3), (5, .int a5), (6, .ref a6)]) d_S_keep_19 (by decide) (fun _ => rfl) fun x5 => ?_
  refine hp_iconst (v := 0) d_S_keep_21 (by decide) ?_
  refine hp_istore (fun x6 => [(9, .int x6), (8, .int x5), (7, .int x2), (0, .ref a0), (1, .int a1), (2, .int a2), (3, .long a3), (5, .int a5), (6, .ref a6)]) d_S_keep_22 (by decide) (fun _ => rfl) fun x6 => ?_
  refine hp_sub [3, 4, 5, 6, 7, 8, 2, 1, 0] rfl ?_
  exact j_S_keep_24  hp_fu _ _ _ _ _ _ _ _ _ _
theorem t_S_keep (l : Launch) (E : hp_E) (a0 : Nat) (a1 : Int32) (a2 : Int32) (a3 : Int64) (a5 : Int32) (a6 : Nat) : hp_M l E y_S_keep Y_S_keep hp_rI [.ref a0, .int a1, .int a2, .long a3, .int a5, .ref a6] (m_S_keep E.2.2.1 a0 a1 a2 a3 a5 a6) := hp_M.of (plainFor_of_name (by decide)) ⟨rfl, rfl⟩ (Nat.le_of_ble_eq_true rfl) (fun Z h hE => by subst hE; exact j_S_keep_0 _ _ _ _ _ _ h)
-- S_keepNumber
theorem d_S_keepNumber_0 : decode prog_6_method_5_code 0 = .ok (.aload_n 0, 1) := by decide +kernel
theorem d_S_keepNumber_1 : decode prog_6_method_5_code 1 = .ok (.iload_n 1, 1) := by decide +kernel
theorem d_S_keepNumber_2 : decode prog_6_method_5_code 2 = .ok (.iconst 0, 1) := by decide +kernel
theorem d_S_keepNumber_3 : decode prog_6_method_5_code 3 = .ok (.lload_n 2, 1) := by decide +kernel
theorem d_S_keepNumber_4 : decode prog_6_method_5_code 4 = .ok (.iload 4, 2) := by decide +kernel
theorem d_S_keepNumber_6 : decode prog_6_method_5_code 6 = .ok (.aload_n 0, 1) := by decide +kernel
theorem d_S_keepNumber_7 : decode prog_6_method_5_code 7 = .ok (.getfield 38, 3) := by decide +kernel
theorem d_S_keepNumber_10 : decode prog_6_method_5_code 10 = .ok (.invokevirtual 50, 3) := by decide +kernel
theorem d_S_keepNumber_13 : decode prog_6_method_5_code 13 = .ok (.ireturn, 1) := by decide +kernel
def m_S_keepNumber (G : Nat → Nat) (a0 : Nat) (a1 : Int32) (a2 : Int64) (a4 : Int32) (h : hp_H) : Option (Int32 × hp_H) := (hp_gR h a0 1 3).bind fun x1 => (hp_vck h a0 1 (m_S_keep G a0 a1 (0 : Int32) a2 a4 x1 h)).bind fun q2 => some (q2.1, q2.2)
set_option maxRecDepth 100000 in
set_option maxHeartbeats 4000000 in
theorem j_S_keepNumber_0 {Z : hp_Z} (a0 : Nat) (a1 : Int32) (a2 : Int64) (a4 : Int32) (h : hp_H) : hp_J Y_S_keepNumber Z hp_rI h 0 [(0, .ref a0), (1, .int a1), (2, .long a2), (4, .int a4)] [] (m_S_keepNumber (hp_G Z)  a0 a1 a2 a4 h) := by
  unfold m_S_keepNumber
  refine hp_aload_n (x0 := 0) d_S_keepNumber_0 rfl rfl ?_
  refine hp_iload_n (x0 := 1) d_S_keepNumber_1 rfl rfl ?_
  refine hp_iconst (v := 0) d_S_keepNumber_2 (by decide) ?_
  refine hp_lload_n (x0 := 2) d_S_keepNumber_3 rfl rfl ?_
  refine hp_iload (x0 := 3) d_S_keepNumber_4 rfl ?_
  refine hp_aload_n (x0 := 0) d_S_keepNumber_6 rfl rfl ?_
  refine hp_getR fl_S_38 d_S_keepNumber_7 fun x1 => ?_
  refine hp_callI (hp_crV (ci := 1) (t_S_keep _ _ _ _ _ _ _ _) cw_S_50 rfl ⟨w_287, ws_0⟩ (by decide) rfl rfl (Nat.le_of_ble_eq_true rfl) d_S_keepNumber_10) fun q2 => ?_
  exact hp_iret d_S_keepNumber_13 rfl
theorem t_S_keepNumber (l : Launch) (E : hp_E) (a0 : Nat) (a1 : Int32) (a2 : Int64) (a4 : Int32) : hp_M l E y_S_keepNumber Y_S_keepNumber hp_rI [.ref a0, .int a1, .long a2, .int a4] (m_S_keepNumber E.2.2.1 a0 a1 a2 a4) := hp_M.of (plainFor_of_name (by decide)) ⟨rfl, rfl⟩ (Nat.le_of_ble_eq_true rfl) (fun Z h hE => by subst hE; exact j_S_keepNumber_0 _ _ _ _ h)
-- D_whole
theorem d_D_whole_0 : decode prog_1_method_3_code 0 = .ok (.lload_n 1, 1) := by decide +kernel
theorem d_D_whole_1 : decode prog_1_method_3_code 1 = .ok (.invokestatic 47, 3) := by decide +kernel
theorem d_D_whole_4 : decode prog_1_method_3_code 4 = .ok (.ifCond .eq 16, 3) := by decide +kernel
theorem d_D_whole_7 : decode prog_1_method_3_code 7 = .ok (.aload_n 0, 1) := by decide +kernel
theorem d_D_whole_8 : decode prog_1_method_3_code 8 = .ok (.getfield 10, 3) := by decide +kernel
theorem d_D_whole_11 : decode prog_1_method_3_code 11 = .ok (.iconst 3, 1) := by decide +kernel
theorem d_D_whole_12 : decode prog_1_method_3_code 12 = .ok (.lload_n 1, 1) := by decide +kernel
theorem d_D_whole_13 : decode prog_1_method_3_code 13 = .ok (.iconst 0, 1) := by decide +kernel
theorem d_D_whole_14 : decode prog_1_method_3_code 14 = .ok (.invokevirtual 51, 3) := by decide +kernel
theorem d_D_whole_17 : decode prog_1_method_3_code 17 = .ok (.goto 4, 3) := by decide +kernel
theorem d_D_whole_20 : decode prog_1_method_3_code 20 = .ok (.iconst (-1), 1) := by decide +kernel
theorem d_D_whole_21 : decode prog_1_method_3_code 21 = .ok (.ireturn, 1) := by decide +kernel
def m_D_whole_21 (G : Nat → Nat) (s0 : Int32) (h : hp_H) : Option (Int32 × hp_H) := some (s0, h)
set_option maxRecDepth 100000 in
set_option maxHeartbeats 4000000 in
theorem j_D_whole_21 {Z : hp_Z} (s0 : Int32) (h : hp_H) : hp_J Y_D_whole Z hp_rI h 21 [] [.int s0] (m_D_whole_21 (hp_G Z)  s0 h) := by
  unfold m_D_whole_21
  exact hp_iret d_D_whole_21 rfl
def m_D_whole (G : Nat → Nat) (a0 : Nat) (a1 : Int64) (h : hp_H) : Option (Int32 × hp_H) := (m_D_isInSize G a1 h).bind fun q1 => if q1.1 = 0 then (m_D_whole_21 G (-1 : Int32) q1.2) else ((hp_gR q1.2 a0 0 0).bind fun x2 => (hp_vck q1.2 x2 1 (m_S_keepNumber G x2 (3 : Int32) a1 (0 : Int32) q1.2)).bind fun q3 => m_D_whole_21 G q3.1 q3.2)
set_option maxRecDepth 100000 in
set_option maxHeartbeats 4000000 in
theorem j_D_whole_0 {Z : hp_Z} (a0 : Nat) (a1 : Int64) (h : hp_H) : hp_J Y_D_whole Z hp_rI h 0 [(0, .ref a0), (1, .long a1)] [] (m_D_whole (hp_G Z)  a0 a1 h) := by
  unfold m_D_whole
  refine hp_lload_n (x0 := 1) d_D_whole_0 rfl rfl ?_
  refine hp_callI (hp_crS (t_D_isInSize _ _ _) cw_D_47 w_277 (by decide) rfl rfl (Nat.le_of_ble_eq_true rfl) d_D_whole_1) fun q1 => ?_
  refine hp_if_eq (tgt := 20) d_D_whole_4 (by decide) ?_ ?_
  · refine hp_iconst (v := -1) d_D_whole_20 (by decide) ?_
    refine hp_sub [] rfl ?_
    exact j_D_whole_21  _ _
  · refine hp_aload_n (x0 := 0) d_D_whole_7 rfl rfl ?_
    refine hp_getR fl_D_10 d_D_whole_8 fun x2 => ?_
    refine hp_iconst (v := 3) d_D_whole_11 (by decide) ?_
    refine hp_lload_n (x0 := 1) d_D_whole_12 rfl rfl ?_
    refine hp_iconst (v := 0) d_D_whole_13 (by decide) ?_
    refine hp_callI (hp_crV (ci := 1) (t_S_keepNumber _ _ _ _ _ _) cw_D_51 rfl ⟨w_282, w_283⟩ (by decide) rfl rfl (Nat.le_of_ble_eq_true rfl) d_D_whole_14) fun q3 => ?_
    refine hp_goto (tgt := 21) d_D_whole_17 (by decide) ?_
    refine hp_sub [] rfl ?_
    exact j_D_whole_21  _ _
theorem t_D_whole (l : Launch) (E : hp_E) (a0 : Nat) (a1 : Int64) : hp_M l E y_D_whole Y_D_whole hp_rI [.ref a0, .long a1] (m_D_whole E.2.2.1 a0 a1) := hp_M.of (plainFor_of_name (by decide)) ⟨rfl, rfl⟩ (Nat.le_of_ble_eq_true rfl) (fun Z h hE => by subst hE; exact j_D_whole_0 _ _ h)
-- D_decimal
theorem d_D_decimal_0 : decode prog_1_method_4_code 0 = .ok (.iload_n 3, 1) := by decide +kernel
theorem d_D_decimal_1 : decode prog_1_method_4_code 1 = .ok (.ifCond .lt 16, 3) := by decide +kernel
theorem d_D_decimal_4 : decode prog_1_method_4_code 4 = .ok (.iload_n 3, 1) := by decide +kernel
theorem d_D_decimal_5 : decode prog_1_method_4_code 5 = .ok (.bipush 9, 2) := by decide +kernel
theorem d_D_decimal_7 : decode prog_1_method_4_code 7 = .ok (.if_icmp .gt 10, 3) := by decide +kernel
theorem d_D_decimal_10 : decode prog_1_method_4_code 10 = .ok (.lload_n 1, 1) := by decide +kernel
theorem d_D_decimal_11 : decode prog_1_method_4_code 11 = .ok (.invokestatic 47, 3) := by decide +kernel
theorem d_D_decimal_14 : decode prog_1_method_4_code 14 = .ok (.ifCond .ne 5, 3) := by decide +kernel
theorem d_D_decimal_17 : decode prog_1_method_4_code 17 = .ok (.iconst (-1), 1) := by decide +kernel
theorem d_D_decimal_18 : decode prog_1_method_4_code 18 = .ok (.ireturn, 1) := by decide +kernel
theorem d_D_decimal_19 : decode prog_1_method_4_code 19 = .ok (.lload_n 1, 1) := by decide +kernel
theorem d_D_decimal_20 : decode prog_1_method_4_code 20 = .ok (.lstore 4, 2) := by decide +kernel
theorem d_D_decimal_22 : decode prog_1_method_4_code 22 = .ok (.iload_n 3, 1) := by decide +kernel
theorem d_D_decimal_23 : decode prog_1_method_4_code 23 = .ok (.istore 6, 2) := by decide +kernel
theorem d_D_decimal_25 : decode prog_1_method_4_code 25 = .ok (.iload 6, 2) := by decide +kernel
theorem d_D_decimal_27 : decode prog_1_method_4_code 27 = .ok (.ifCond .le 28, 3) := by decide +kernel
theorem d_D_decimal_30 : decode prog_1_method_4_code 30 = .ok (.lload 4, 2) := by decide +kernel
theorem d_D_decimal_32 : decode prog_1_method_4_code 32 = .ok (.ldc2_w 55, 3) := by decide +kernel
theorem d_D_decimal_35 : decode prog_1_method_4_code 35 = .ok (.lrem, 1) := by decide +kernel
theorem d_D_decimal_36 : decode prog_1_method_4_code 36 = .ok (.lconst 0, 1) := by decide +kernel
theorem d_D_decimal_37 : decode prog_1_method_4_code 37 = .ok (.lcmp, 1) := by decide +kernel
theorem d_D_decimal_38 : decode prog_1_method_4_code 38 = .ok (.ifCond .ne 17, 3) := by decide +kernel
theorem d_D_decimal_41 : decode prog_1_method_4_code 41 = .ok (.lload 4, 2) := by decide +kernel
theorem d_D_decimal_43 : decode prog_1_method_4_code 43 = .ok (.ldc2_w 55, 3) := by decide +kernel
theorem d_D_decimal_46 : decode prog_1_method_4_code 46 = .ok (.ldiv, 1) := by decide +kernel
theorem d_D_decimal_47 : decode prog_1_method_4_code 47 = .ok (.lstore 4, 2) := by decide +kernel
theorem d_D_decimal_49 : decode prog_1_method_4_code 49 = .ok (.iinc 6 (-1), 3) := by decide +kernel
theorem d_D_decimal_52 : decode prog_1_method_4_code 52 = .ok (.goto (-27), 3) := by decide +kernel
theorem d_D_decimal_55 : decode prog_1_method_4_code 55 = .ok (.aload_n 0, 1) := by decide +kernel
theorem d_D_decimal_56 : decode prog_1_method_4_code 56 = .ok (.getfield 10, 3) := by decide +kernel
theorem d_D_decimal_59 : decode prog_1_method_4_code 59 = .ok (.iconst 4, 1) := by decide +kernel
theorem d_D_decimal_60 : decode prog_1_method_4_code 60 = .ok (.lload 4, 2) := by decide +kernel
theorem d_D_decimal_62 : decode prog_1_method_4_code 62 = .ok (.iload 6, 2) := by decide +kernel
theorem d_D_decimal_64 : decode prog_1_method_4_code 64 = .ok (.invokevirtual 51, 3) := by decide +kernel
theorem d_D_decimal_67 : decode prog_1_method_4_code 67 = .ok (.ireturn, 1) := by decide +kernel
def m_D_decimal_17 (G : Nat → Nat) (h : hp_H) : Option (Int32 × hp_H) := some ((-1 : Int32), h)
set_option maxRecDepth 100000 in
set_option maxHeartbeats 4000000 in
theorem j_D_decimal_17 {Z : hp_Z} (h : hp_H) : hp_J Y_D_decimal Z hp_rI h 17 [] [] (m_D_decimal_17 (hp_G Z)   h) := by
  unfold m_D_decimal_17
  refine hp_iconst (v := -1) d_D_decimal_17 (by decide) ?_
  exact hp_iret d_D_decimal_18 rfl
def m_D_decimal_55 (G : Nat → Nat) (a0 : Nat) (a4 : Int64) (a6 : Int32) (h : hp_H) : Option (Int32 × hp_H) := (hp_gR h a0 0 0).bind fun x1 => (hp_vck h x1 1 (m_S_keepNumber G x1 (4 : Int32) a4 a6 h)).bind fun q2 => some (q2.1, q2.2)
set_option maxRecDepth 100000 in
set_option maxHeartbeats 4000000 in
theorem j_D_decimal_55 {Z : hp_Z} (a0 : Nat) (a4 : Int64) (a6 : Int32) (h : hp_H) : hp_J Y_D_decimal Z hp_rI h 55 [(0, .ref a0), (4, .long a4), (6, .int a6)] [] (m_D_decimal_55 (hp_G Z)  a0 a4 a6 h) := by
  unfold m_D_decimal_55
  refine hp_aload_n (x0 := 0) d_D_decimal_55 rfl rfl ?_
  refine hp_getR fl_D_10 d_D_decimal_56 fun x1 => ?_
  refine hp_iconst (v := 4) d_D_decimal_59 (by decide) ?_
  refine hp_lload (x0 := 1) d_D_decimal_60 rfl ?_
  refine hp_iload (x0 := 2) d_D_decimal_62 rfl ?_
  refine hp_callI (hp_crV (ci := 1) (t_S_keepNumber _ _ _ _ _ _) cw_D_51 rfl ⟨w_282, w_283⟩ (by decide) rfl rfl (Nat.le_of_ble_eq_true rfl) d_D_decimal_64) fun q2 => ?_
  exact hp_iret d_D_decimal_67 rfl
def m_D_decimal_25 (G : Nat → Nat) : Nat → Nat → Int64 → Int32 → hp_H → Option (Int32 × hp_H)
  | 0, _, _, _, _ => none
  | n + 1, a0, a4, a6, h => if a6 ≤ 0 then (m_D_decimal_55 G a0 a4 a6 h) else ((hp_mL a4 (10 : Int64)).bind fun x1 => if (lg_cmp x1 (0 : Int64)) = 0 then ((hp_dL a4 (10 : Int64)).bind fun x2 => hp_nm x2 fun x3 => hp_nm (a6 + (-1)) fun x4 => (m_D_decimal_25 G  n) a0 x3 x4 h) else (m_D_decimal_55 G a0 a4 a6 h))
set_option maxRecDepth 100000 in
set_option maxHeartbeats 4000000 in
theorem j_D_decimal_25 {Z : hp_Z} : ∀ (n : Nat) (a0 : Nat) (a4 : Int64) (a6 : Int32) (h : hp_H), hp_J Y_D_decimal Z hp_rI h 25 [(0, .ref a0), (4, .long a4), (6, .int a6)] [] (m_D_decimal_25 (hp_G Z)  n a0 a4 a6 h) := by
  intro n
  induction n with
  | zero => intro a0 a4 a6 h; exact hp_fail
  | succ n ih =>
    intro a0 a4 a6 h
    rw [m_D_decimal_25]
    refine hp_iload (x0 := 2) d_D_decimal_25 rfl ?_
    refine hp_if_le (tgt := 55) d_D_decimal_27 (by decide) ?_ ?_
    · exact j_D_decimal_55  _ _ _ _
    · refine hp_lload (x0 := 1) d_D_decimal_30 rfl ?_
      refine hp_ldc2 (v := 10) d_D_decimal_32 w_385 ?_
      refine hp_lrem d_D_decimal_35 fun x1 => ?_
      refine hp_lconst (v := 0) d_D_decimal_36 (by decide) ?_
      refine hp_lcmp d_D_decimal_37 ?_
      refine hp_if_ne (tgt := 55) d_D_decimal_38 (by decide) ?_ ?_
      · refine hp_lload (x0 := 1) d_D_decimal_41 rfl ?_
        refine hp_ldc2 (v := 10) d_D_decimal_43 w_385 ?_
        refine hp_ldiv d_D_decimal_46 fun x2 => ?_
        refine hp_lstore (fun x3 => [(4, .long x3), (0, .ref a0), (6, .int a6)]) d_D_decimal_47 (by decide) (fun _ => rfl) fun x3 => ?_
        refine hp_iinc (x0 := 2) (d := -1) (fun x4 => [(6, .int x4), (4, .long x3), (0, .ref a0)]) d_D_decimal_49 rfl (by decide) (by decide) (fun _ => rfl) fun x4 => ?_
        refine hp_goto (tgt := 25) d_D_decimal_52 (by decide) ?_
        refine hp_sub [2, 1, 0] rfl ?_
        exact ih _ _ _ _
      · exact j_D_decimal_55  _ _ _ _
def m_D_decimal (G : Nat → Nat) (a0 : Nat) (a1 : Int64) (a3 : Int32) (h : hp_H) : Option (Int32 × hp_H) := if a3 < 0 then (m_D_decimal_17 G h) else (if (9 : Int32) < a3 then (m_D_decimal_17 G h) else ((m_D_isInSize G a1 h).bind fun q1 => if q1.1 = 0 then (m_D_decimal_17 G q1.2) else (hp_nm a1 fun x2 => hp_nm a3 fun x3 => m_D_decimal_25 G hp_fu a0 x2 x3 q1.2)))
set_option maxRecDepth 100000 in
set_option maxHeartbeats 4000000 in
theorem j_D_decimal_0 {Z : hp_Z} (a0 : Nat) (a1 : Int64) (a3 : Int32) (h : hp_H) : hp_J Y_D_decimal Z hp_rI h 0 [(0, .ref a0), (1, .long a1), (3, .int a3)] [] (m_D_decimal (hp_G Z)  a0 a1 a3 h) := by
  unfold m_D_decimal
  refine hp_iload_n (x0 := 2) d_D_decimal_0 rfl rfl ?_
  refine hp_if_lt (tgt := 17) d_D_decimal_1 (by decide) ?_ ?_
  · refine hp_sub [] rfl ?_
    exact j_D_decimal_17   _
  · refine hp_iload_n (x0 := 2) d_D_decimal_4 rfl rfl ?_
    refine hp_bipush (v := 9) d_D_decimal_5 (by decide) ?_
    refine hp_icmp_gt (tgt := 17) d_D_decimal_7 (by decide) ?_ ?_
    · refine hp_sub [] rfl ?_
      exact j_D_decimal_17   _
    · refine hp_lload_n (x0 := 1) d_D_decimal_10 rfl rfl ?_
      refine hp_callI (hp_crS (t_D_isInSize _ _ _) cw_D_47 w_277 (by decide) rfl rfl (Nat.le_of_ble_eq_true rfl) d_D_decimal_11) fun q1 => ?_
      refine hp_if_ne (tgt := 19) d_D_decimal_14 (by decide) ?_ ?_
      · refine hp_sub [] rfl ?_
        exact j_D_decimal_17   _
      · refine hp_lload_n (x0 := 1) d_D_decimal_19 rfl rfl ?_
        refine hp_lstore (fun x2 => [(4, .long x2), (0, .ref a0), (1, .long a1), (3, .int a3)]) d_D_decimal_20 (by decide) (fun _ => rfl) fun x2 => ?_
        refine hp_iload_n (x0 := 3) d_D_decimal_22 rfl rfl ?_
        refine hp_istore (fun x3 => [(6, .int x3), (4, .long x2), (0, .ref a0), (1, .long a1), (3, .int a3)]) d_D_decimal_23 (by decide) (fun _ => rfl) fun x3 => ?_
        refine hp_sub [2, 1, 0] rfl ?_
        exact j_D_decimal_25  hp_fu _ _ _ _
theorem t_D_decimal (l : Launch) (E : hp_E) (a0 : Nat) (a1 : Int64) (a3 : Int32) : hp_M l E y_D_decimal Y_D_decimal hp_rI [.ref a0, .long a1, .int a3] (m_D_decimal E.2.2.1 a0 a1 a3) := hp_M.of (plainFor_of_name (by decide)) ⟨rfl, rfl⟩ (Nat.le_of_ble_eq_true rfl) (fun Z h hE => by subst hE; exact j_D_decimal_0 _ _ _ h)
-- S_keepTruth
theorem d_S_keepTruth_0 : decode prog_6_method_6_code 0 = .ok (.aload_n 0, 1) := by decide +kernel
theorem d_S_keepTruth_1 : decode prog_6_method_6_code 1 = .ok (.bipush 8, 2) := by decide +kernel
theorem d_S_keepTruth_3 : decode prog_6_method_6_code 3 = .ok (.iload_n 1, 1) := by decide +kernel
theorem d_S_keepTruth_4 : decode prog_6_method_6_code 4 = .ok (.ifCond .eq 7, 3) := by decide +kernel
theorem d_S_keepTruth_7 : decode prog_6_method_6_code 7 = .ok (.iconst 1, 1) := by decide +kernel
theorem d_S_keepTruth_8 : decode prog_6_method_6_code 8 = .ok (.goto 4, 3) := by decide +kernel
theorem d_S_keepTruth_11 : decode prog_6_method_6_code 11 = .ok (.iconst 0, 1) := by decide +kernel
theorem d_S_keepTruth_12 : decode prog_6_method_6_code 12 = .ok (.lconst 0, 1) := by decide +kernel
theorem d_S_keepTruth_13 : decode prog_6_method_6_code 13 = .ok (.iconst 0, 1) := by decide +kernel
theorem d_S_keepTruth_14 : decode prog_6_method_6_code 14 = .ok (.aload_n 0, 1) := by decide +kernel
theorem d_S_keepTruth_15 : decode prog_6_method_6_code 15 = .ok (.getfield 38, 3) := by decide +kernel
theorem d_S_keepTruth_18 : decode prog_6_method_6_code 18 = .ok (.invokevirtual 50, 3) := by decide +kernel
theorem d_S_keepTruth_21 : decode prog_6_method_6_code 21 = .ok (.ireturn, 1) := by decide +kernel
def m_S_keepTruth_12 (G : Nat → Nat) (a0 : Nat) (s0 : Int32) (s1 : Int32) (s2 : Nat) (h : hp_H) : Option (Int32 × hp_H) := (hp_gR h a0 1 3).bind fun x1 => (hp_vck h s2 1 (m_S_keep G s2 s1 s0 (0 : Int64) (0 : Int32) x1 h)).bind fun q2 => some (q2.1, q2.2)
set_option maxRecDepth 100000 in
set_option maxHeartbeats 4000000 in
theorem j_S_keepTruth_12 {Z : hp_Z} (a0 : Nat) (s0 : Int32) (s1 : Int32) (s2 : Nat) (h : hp_H) : hp_J Y_S_keepTruth Z hp_rI h 12 [(0, .ref a0)] [.int s0, .int s1, .ref s2] (m_S_keepTruth_12 (hp_G Z)  a0 s0 s1 s2 h) := by
  unfold m_S_keepTruth_12
  refine hp_lconst (v := 0) d_S_keepTruth_12 (by decide) ?_
  refine hp_iconst (v := 0) d_S_keepTruth_13 (by decide) ?_
  refine hp_aload_n (x0 := 0) d_S_keepTruth_14 rfl rfl ?_
  refine hp_getR fl_S_38 d_S_keepTruth_15 fun x1 => ?_
  refine hp_callI (hp_crV (ci := 1) (t_S_keep _ _ _ _ _ _ _ _) cw_S_50 rfl ⟨w_287, ws_0⟩ (by decide) rfl rfl (Nat.le_of_ble_eq_true rfl) d_S_keepTruth_18) fun q2 => ?_
  exact hp_iret d_S_keepTruth_21 rfl
def m_S_keepTruth (G : Nat → Nat) (a0 : Nat) (a1 : Int32) (h : hp_H) : Option (Int32 × hp_H) := if a1 = 0 then (m_S_keepTruth_12 G a0 (0 : Int32) (8 : Int32) a0 h) else (m_S_keepTruth_12 G a0 (1 : Int32) (8 : Int32) a0 h)
set_option maxRecDepth 100000 in
set_option maxHeartbeats 4000000 in
theorem j_S_keepTruth_0 {Z : hp_Z} (a0 : Nat) (a1 : Int32) (h : hp_H) : hp_J Y_S_keepTruth Z hp_rI h 0 [(0, .ref a0), (1, .int a1)] [] (m_S_keepTruth (hp_G Z)  a0 a1 h) := by
  unfold m_S_keepTruth
  refine hp_aload_n (x0 := 0) d_S_keepTruth_0 rfl rfl ?_
  refine hp_bipush (v := 8) d_S_keepTruth_1 (by decide) ?_
  refine hp_iload_n (x0 := 1) d_S_keepTruth_3 rfl rfl ?_
  refine hp_if_eq (tgt := 11) d_S_keepTruth_4 (by decide) ?_ ?_
  · refine hp_iconst (v := 0) d_S_keepTruth_11 (by decide) ?_
    refine hp_sub [0] rfl ?_
    exact j_S_keepTruth_12  _ _ _ _ _
  · refine hp_iconst (v := 1) d_S_keepTruth_7 (by decide) ?_
    refine hp_goto (tgt := 12) d_S_keepTruth_8 (by decide) ?_
    refine hp_sub [0] rfl ?_
    exact j_S_keepTruth_12  _ _ _ _ _
theorem t_S_keepTruth (l : Launch) (E : hp_E) (a0 : Nat) (a1 : Int32) : hp_M l E y_S_keepTruth Y_S_keepTruth hp_rI [.ref a0, .int a1] (m_S_keepTruth E.2.2.1 a0 a1) := hp_M.of (plainFor_of_name (by decide)) ⟨rfl, rfl⟩ (Nat.le_of_ble_eq_true rfl) (fun Z h hE => by subst hE; exact j_S_keepTruth_0 _ _ h)
-- D_truth
theorem d_D_truth_0 : decode prog_1_method_5_code 0 = .ok (.aload_n 0, 1) := by decide +kernel
theorem d_D_truth_1 : decode prog_1_method_5_code 1 = .ok (.getfield 10, 3) := by decide +kernel
theorem d_D_truth_4 : decode prog_1_method_5_code 4 = .ok (.iload_n 1, 1) := by decide +kernel
theorem d_D_truth_5 : decode prog_1_method_5_code 5 = .ok (.invokevirtual 57, 3) := by decide +kernel
theorem d_D_truth_8 : decode prog_1_method_5_code 8 = .ok (.ireturn, 1) := by decide +kernel
def m_D_truth (G : Nat → Nat) (a0 : Nat) (a1 : Int32) (h : hp_H) : Option (Int32 × hp_H) := (hp_gR h a0 0 0).bind fun x1 => (hp_vck h x1 1 (m_S_keepTruth G x1 a1 h)).bind fun q2 => some (q2.1, q2.2)
set_option maxRecDepth 100000 in
set_option maxHeartbeats 4000000 in
theorem j_D_truth_0 {Z : hp_Z} (a0 : Nat) (a1 : Int32) (h : hp_H) : hp_J Y_D_truth Z hp_rI h 0 [(0, .ref a0), (1, .int a1)] [] (m_D_truth (hp_G Z)  a0 a1 h) := by
  unfold m_D_truth
  refine hp_aload_n (x0 := 0) d_D_truth_0 rfl rfl ?_
  refine hp_getR fl_D_10 d_D_truth_1 fun x1 => ?_
  refine hp_iload_n (x0 := 1) d_D_truth_4 rfl rfl ?_
  refine hp_callI (hp_crV (ci := 1) (t_S_keepTruth _ _ _ _) cw_D_57 rfl ⟨w_391, w_392⟩ (by decide) rfl rfl (Nat.le_of_ble_eq_true rfl) d_D_truth_5) fun q2 => ?_
  exact hp_iret d_D_truth_8 rfl
theorem t_D_truth (l : Launch) (E : hp_E) (a0 : Nat) (a1 : Int32) : hp_M l E y_D_truth Y_D_truth hp_rI [.ref a0, .int a1] (m_D_truth E.2.2.1 a0 a1) := hp_M.of (plainFor_of_name (by decide)) ⟨rfl, rfl⟩ (Nat.le_of_ble_eq_true rfl) (fun Z h hE => by subst hE; exact j_D_truth_0 _ _ h)
-- S_keepNumbered
theorem d_S_keepNumbered_0 : decode prog_6_method_4_code 0 = .ok (.aload_n 0, 1) := by decide +kernel
theorem d_S_keepNumbered_1 : decode prog_6_method_4_code 1 = .ok (.iload_n 1, 1) := by decide +kernel
theorem d_S_keepNumbered_2 : decode prog_6_method_4_code 2 = .ok (.iload_n 2, 1) := by decide +kernel
theorem d_S_keepNumbered_3 : decode prog_6_method_4_code 3 = .ok (.lconst 0, 1) := by decide +kernel
theorem d_S_keepNumbered_4 : decode prog_6_method_4_code 4 = .ok (.iconst 0, 1) := by decide +kernel
theorem d_S_keepNumbered_5 : decode prog_6_method_4_code 5 = .ok (.aload_n 0, 1) := by decide +kernel
theorem d_S_keepNumbered_6 : decode prog_6_method_4_code 6 = .ok (.getfield 38, 3) := by decide +kernel
theorem d_S_keepNumbered_9 : decode prog_6_method_4_code 9 = .ok (.invokevirtual 50, 3) := by decide +kernel
theorem d_S_keepNumbered_12 : decode prog_6_method_4_code 12 = .ok (.ireturn, 1) := by decide +kernel
def m_S_keepNumbered (G : Nat → Nat) (a0 : Nat) (a1 : Int32) (a2 : Int32) (h : hp_H) : Option (Int32 × hp_H) := (hp_gR h a0 1 3).bind fun x1 => (hp_vck h a0 1 (m_S_keep G a0 a1 a2 (0 : Int64) (0 : Int32) x1 h)).bind fun q2 => some (q2.1, q2.2)
set_option maxRecDepth 100000 in
set_option maxHeartbeats 4000000 in
theorem j_S_keepNumbered_0 {Z : hp_Z} (a0 : Nat) (a1 : Int32) (a2 : Int32) (h : hp_H) : hp_J Y_S_keepNumbered Z hp_rI h 0 [(0, .ref a0), (1, .int a1), (2, .int a2)] [] (m_S_keepNumbered (hp_G Z)  a0 a1 a2 h) := by
  unfold m_S_keepNumbered
  refine hp_aload_n (x0 := 0) d_S_keepNumbered_0 rfl rfl ?_
  refine hp_iload_n (x0 := 1) d_S_keepNumbered_1 rfl rfl ?_
  refine hp_iload_n (x0 := 2) d_S_keepNumbered_2 rfl rfl ?_
  refine hp_lconst (v := 0) d_S_keepNumbered_3 (by decide) ?_
  refine hp_iconst (v := 0) d_S_keepNumbered_4 (by decide) ?_
  refine hp_aload_n (x0 := 0) d_S_keepNumbered_5 rfl rfl ?_
  refine hp_getR fl_S_38 d_S_keepNumbered_6 fun x1 => ?_
  refine hp_callI (hp_crV (ci := 1) (t_S_keep _ _ _ _ _ _ _ _) cw_S_50 rfl ⟨w_287, ws_0⟩ (by decide) rfl rfl (Nat.le_of_ble_eq_true rfl) d_S_keepNumbered_9) fun q2 => ?_
  exact hp_iret d_S_keepNumbered_12 rfl
theorem t_S_keepNumbered (l : Launch) (E : hp_E) (a0 : Nat) (a1 : Int32) (a2 : Int32) : hp_M l E y_S_keepNumbered Y_S_keepNumbered hp_rI [.ref a0, .int a1, .int a2] (m_S_keepNumbered E.2.2.1 a0 a1 a2) := hp_M.of (plainFor_of_name (by decide)) ⟨rfl, rfl⟩ (Nat.le_of_ble_eq_true rfl) (fun Z h hE => by subst hE; exact j_S_keepNumbered_0 _ _ _ h)
-- D_named
theorem d_D_named_0 : decode prog_1_method_6_code 0 = .ok (.iload_n 1, 1) := by decide +kernel
theorem d_D_named_1 : decode prog_1_method_6_code 1 = .ok (.iconst 1, 1) := by decide +kernel
theorem d_D_named_2 : decode prog_1_method_6_code 2 = .ok (.if_icmp .eq 8, 3) := by decide +kernel
theorem d_D_named_5 : decode prog_1_method_6_code 5 = .ok (.iload_n 1, 1) := by decide +kernel
theorem d_D_named_6 : decode prog_1_method_6_code 6 = .ok (.iconst 2, 1) := by decide +kernel
theorem d_D_named_7 : decode prog_1_method_6_code 7 = .ok (.if_icmp .ne 14, 3) := by decide +kernel
theorem d_D_named_10 : decode prog_1_method_6_code 10 = .ok (.iload_n 2, 1) := by decide +kernel
theorem d_D_named_11 : decode prog_1_method_6_code 11 = .ok (.ifCond .lt 10, 3) := by decide +kernel
theorem d_D_named_14 : decode prog_1_method_6_code 14 = .ok (.iload_n 2, 1) := by decide +kernel
theorem d_D_named_15 : decode prog_1_method_6_code 15 = .ok (.sipush 9999, 3) := by decide +kernel
theorem d_D_named_18 : decode prog_1_method_6_code 18 = .ok (.if_icmp .le 5, 3) := by decide +kernel
theorem d_D_named_21 : decode prog_1_method_6_code 21 = .ok (.iconst (-1), 1) := by decide +kernel
theorem d_D_named_22 : decode prog_1_method_6_code 22 = .ok (.ireturn, 1) := by decide +kernel
theorem d_D_named_23 : decode prog_1_method_6_code 23 = .ok (.aload_n 0, 1) := by decide +kernel
theorem d_D_named_24 : decode prog_1_method_6_code 24 = .ok (.getfield 10, 3) := by decide +kernel
theorem d_D_named_27 : decode prog_1_method_6_code 27 = .ok (.iload_n 1, 1) := by decide +kernel
theorem d_D_named_28 : decode prog_1_method_6_code 28 = .ok (.iload_n 2, 1) := by decide +kernel
theorem d_D_named_29 : decode prog_1_method_6_code 29 = .ok (.invokevirtual 61, 3) := by decide +kernel
theorem d_D_named_32 : decode prog_1_method_6_code 32 = .ok (.ireturn, 1) := by decide +kernel
def m_D_named_21 (G : Nat → Nat) (h : hp_H) : Option (Int32 × hp_H) := some ((-1 : Int32), h)
set_option maxRecDepth 100000 in
set_option maxHeartbeats 4000000 in
theorem j_D_named_21 {Z : hp_Z} (h : hp_H) : hp_J Y_D_named Z hp_rI h 21 [] [] (m_D_named_21 (hp_G Z)   h) := by
  unfold m_D_named_21
  refine hp_iconst (v := -1) d_D_named_21 (by decide) ?_
  exact hp_iret d_D_named_22 rfl
def m_D_named_10 (G : Nat → Nat) (a0 : Nat) (a1 : Int32) (a2 : Int32) (h : hp_H) : Option (Int32 × hp_H) := if a2 < 0 then (m_D_named_21 G h) else (if a2 ≤ (9999 : Int32) then ((hp_gR h a0 0 0).bind fun x1 => (hp_vck h x1 1 (m_S_keepNumbered G x1 a1 a2 h)).bind fun q2 => some (q2.1, q2.2)) else (m_D_named_21 G h))
set_option maxRecDepth 100000 in
set_option maxHeartbeats 4000000 in
theorem j_D_named_10 {Z : hp_Z} (a0 : Nat) (a1 : Int32) (a2 : Int32) (h : hp_H) : hp_J Y_D_named Z hp_rI h 10 [(0, .ref a0), (1, .int a1), (2, .int a2)] [] (m_D_named_10 (hp_G Z)  a0 a1 a2 h) := by
  unfold m_D_named_10
  refine hp_iload_n (x0 := 2) d_D_named_10 rfl rfl ?_
  refine hp_if_lt (tgt := 21) d_D_named_11 (by decide) ?_ ?_
  · refine hp_sub [] rfl ?_
    exact j_D_named_21   _
  · refine hp_iload_n (x0 := 2) d_D_named_14 rfl rfl ?_
    refine hp_sipush (v := 9999) d_D_named_15 (by decide) ?_
    refine hp_icmp_le (tgt := 23) d_D_named_18 (by decide) ?_ ?_
    · refine hp_aload_n (x0 := 0) d_D_named_23 rfl rfl ?_
      refine hp_getR fl_D_10 d_D_named_24 fun x1 => ?_
      refine hp_iload_n (x0 := 1) d_D_named_27 rfl rfl ?_
      refine hp_iload_n (x0 := 2) d_D_named_28 rfl rfl ?_
      refine hp_callI (hp_crV (ci := 1) (t_S_keepNumbered _ _ _ _ _) cw_D_61 rfl ⟨w_399, w_400⟩ (by decide) rfl rfl (Nat.le_of_ble_eq_true rfl) d_D_named_29) fun q2 => ?_
      exact hp_iret d_D_named_32 rfl
    · refine hp_sub [] rfl ?_
      exact j_D_named_21   _
def m_D_named (G : Nat → Nat) (a0 : Nat) (a1 : Int32) (a2 : Int32) (h : hp_H) : Option (Int32 × hp_H) := if a1 = (1 : Int32) then (m_D_named_10 G a0 a1 a2 h) else (if a1 = (2 : Int32) then (m_D_named_10 G a0 a1 a2 h) else (m_D_named_21 G h))
set_option maxRecDepth 100000 in
set_option maxHeartbeats 4000000 in
theorem j_D_named_0 {Z : hp_Z} (a0 : Nat) (a1 : Int32) (a2 : Int32) (h : hp_H) : hp_J Y_D_named Z hp_rI h 0 [(0, .ref a0), (1, .int a1), (2, .int a2)] [] (m_D_named (hp_G Z)  a0 a1 a2 h) := by
  unfold m_D_named
  refine hp_iload_n (x0 := 1) d_D_named_0 rfl rfl ?_
  refine hp_iconst (v := 1) d_D_named_1 (by decide) ?_
  refine hp_icmp_eq (tgt := 10) d_D_named_2 (by decide) ?_ ?_
  · exact j_D_named_10  _ _ _ _
  · refine hp_iload_n (x0 := 1) d_D_named_5 rfl rfl ?_
    refine hp_iconst (v := 2) d_D_named_6 (by decide) ?_
    refine hp_icmp_ne (tgt := 21) d_D_named_7 (by decide) ?_ ?_
    · exact j_D_named_10  _ _ _ _
    · refine hp_sub [] rfl ?_
      exact j_D_named_21   _
theorem t_D_named (l : Launch) (E : hp_E) (a0 : Nat) (a1 : Int32) (a2 : Int32) : hp_M l E y_D_named Y_D_named hp_rI [.ref a0, .int a1, .int a2] (m_D_named E.2.2.1 a0 a1 a2) := hp_M.of (plainFor_of_name (by decide)) ⟨rfl, rfl⟩ (Nat.le_of_ble_eq_true rfl) (fun Z h hE => by subst hE; exact j_D_named_0 _ _ _ h)
-- D_isTextKind
theorem d_D_isTextKind_0 : decode prog_1_method_22_code 0 = .ok (.iload_n 0, 1) := by decide +kernel
theorem d_D_isTextKind_1 : decode prog_1_method_22_code 1 = .ok (.iconst 5, 1) := by decide +kernel
theorem d_D_isTextKind_2 : decode prog_1_method_22_code 2 = .ok (.if_icmp .ne 13, 3) := by decide +kernel
theorem d_D_isTextKind_5 : decode prog_1_method_22_code 5 = .ok (.iload_n 1, 1) := by decide +kernel
theorem d_D_isTextKind_6 : decode prog_1_method_22_code 6 = .ok (.ifCond .ne 7, 3) := by decide +kernel
theorem d_D_isTextKind_9 : decode prog_1_method_22_code 9 = .ok (.iconst 1, 1) := by decide +kernel
theorem d_D_isTextKind_10 : decode prog_1_method_22_code 10 = .ok (.goto 4, 3) := by decide +kernel
theorem d_D_isTextKind_13 : decode prog_1_method_22_code 13 = .ok (.iconst 0, 1) := by decide +kernel
theorem d_D_isTextKind_14 : decode prog_1_method_22_code 14 = .ok (.ireturn, 1) := by decide +kernel
theorem d_D_isTextKind_15 : decode prog_1_method_22_code 15 = .ok (.iload_n 0, 1) := by decide +kernel
theorem d_D_isTextKind_16 : decode prog_1_method_22_code 16 = .ok (.bipush 6, 2) := by decide +kernel
theorem d_D_isTextKind_18 : decode prog_1_method_22_code 18 = .ok (.if_icmp .eq 9, 3) := by decide +kernel
theorem d_D_isTextKind_21 : decode prog_1_method_22_code 21 = .ok (.iload_n 0, 1) := by decide +kernel
theorem d_D_isTextKind_22 : decode prog_1_method_22_code 22 = .ok (.bipush 7, 2) := by decide +kernel
theorem d_D_isTextKind_24 : decode prog_1_method_22_code 24 = .ok (.if_icmp .ne 17, 3) := by decide +kernel
theorem d_D_isTextKind_27 : decode prog_1_method_22_code 27 = .ok (.iload_n 1, 1) := by decide +kernel
theorem d_D_isTextKind_28 : decode prog_1_method_22_code 28 = .ok (.ifCond .lt 13, 3) := by decide +kernel
theorem d_D_isTextKind_31 : decode prog_1_method_22_code 31 = .ok (.iload_n 1, 1) := by decide +kernel
theorem d_D_isTextKind_32 : decode prog_1_method_22_code 32 = .ok (.bipush 99, 2) := by decide +kernel
theorem d_D_isTextKind_34 : decode prog_1_method_22_code 34 = .ok (.if_icmp .gt 7, 3) := by decide +kernel
theorem d_D_isTextKind_37 : decode prog_1_method_22_code 37 = .ok (.iconst 1, 1) := by decide +kernel
theorem d_D_isTextKind_38 : decode prog_1_method_22_code 38 = .ok (.goto 4, 3) := by decide +kernel
theorem d_D_isTextKind_41 : decode prog_1_method_22_code 41 = .ok (.iconst 0, 1) := by decide +kernel
theorem d_D_isTextKind_42 : decode prog_1_method_22_code 42 = .ok (.ireturn, 1) := by decide +kernel
def m_D_isTextKind_14 (G : Nat → Nat) (s0 : Int32) (h : hp_H) : Option (Int32 × hp_H) := hp_z s0 h
set_option maxRecDepth 100000 in
set_option maxHeartbeats 4000000 in
theorem j_D_isTextKind_14 {Z : hp_Z} (s0 : Int32) (h : hp_H) : hp_J Y_D_isTextKind Z hp_rI h 14 [] [.int s0] (m_D_isTextKind_14 (hp_G Z)  s0 h) := by
  unfold m_D_isTextKind_14
  exact hp_zret d_D_isTextKind_14 rfl
def m_D_isTextKind_42 (G : Nat → Nat) (s0 : Int32) (h : hp_H) : Option (Int32 × hp_H) := hp_z s0 h
set_option maxRecDepth 100000 in
set_option maxHeartbeats 4000000 in
theorem j_D_isTextKind_42 {Z : hp_Z} (s0 : Int32) (h : hp_H) : hp_J Y_D_isTextKind Z hp_rI h 42 [] [.int s0] (m_D_isTextKind_42 (hp_G Z)  s0 h) := by
  unfold m_D_isTextKind_42
  exact hp_zret d_D_isTextKind_42 rfl
def m_D_isTextKind_41 (G : Nat → Nat) (h : hp_H) : Option (Int32 × hp_H) := m_D_isTextKind_42 G (0 : Int32) h
set_option maxRecDepth 100000 in
set_option maxHeartbeats 4000000 in
theorem j_D_isTextKind_41 {Z : hp_Z} (h : hp_H) : hp_J Y_D_isTextKind Z hp_rI h 41 [] [] (m_D_isTextKind_41 (hp_G Z)   h) := by
  unfold m_D_isTextKind_41
  refine hp_iconst (v := 0) d_D_isTextKind_41 (by decide) ?_
  exact j_D_isTextKind_42  _ _
def m_D_isTextKind_27 (G : Nat → Nat) (a1 : Int32) (h : hp_H) : Option (Int32 × hp_H) := if a1 < 0 then (m_D_isTextKind_41 G h) else (if (99 : Int32) < a1 then (m_D_isTextKind_41 G h) else (m_D_isTextKind_42 G (1 : Int32) h))
set_option maxRecDepth 100000 in
set_option maxHeartbeats 4000000 in
theorem j_D_isTextKind_27 {Z : hp_Z} (a1 : Int32) (h : hp_H) : hp_J Y_D_isTextKind Z hp_rI h 27 [(1, .int a1)] [] (m_D_isTextKind_27 (hp_G Z)  a1 h) := by
  unfold m_D_isTextKind_27
  refine hp_iload_n (x0 := 0) d_D_isTextKind_27 rfl rfl ?_
  refine hp_if_lt (tgt := 41) d_D_isTextKind_28 (by decide) ?_ ?_
  · refine hp_sub [] rfl ?_
    exact j_D_isTextKind_41   _
  · refine hp_iload_n (x0 := 0) d_D_isTextKind_31 rfl rfl ?_
    refine hp_bipush (v := 99) d_D_isTextKind_32 (by decide) ?_
    refine hp_icmp_gt (tgt := 41) d_D_isTextKind_34 (by decide) ?_ ?_
    · refine hp_sub [] rfl ?_
      exact j_D_isTextKind_41   _
    · refine hp_iconst (v := 1) d_D_isTextKind_37 (by decide) ?_
      refine hp_goto (tgt := 42) d_D_isTextKind_38 (by decide) ?_
      refine hp_sub [] rfl ?_
      exact j_D_isTextKind_42  _ _
def m_D_isTextKind (G : Nat → Nat) (a0 : Int32) (a1 : Int32) (h : hp_H) : Option (Int32 × hp_H) := if a0 = (5 : Int32) then (if a1 = 0 then (m_D_isTextKind_14 G (1 : Int32) h) else (m_D_isTextKind_14 G (0 : Int32) h)) else (if a0 = (6 : Int32) then (m_D_isTextKind_27 G a1 h) else (if a0 = (7 : Int32) then (m_D_isTextKind_27 G a1 h) else (m_D_isTextKind_41 G h)))
set_option maxRecDepth 100000 in
set_option maxHeartbeats 4000000 in
theorem j_D_isTextKind_0 {Z : hp_Z} (a0 : Int32) (a1 : Int32) (h : hp_H) : hp_J Y_D_isTextKind Z hp_rI h 0 [(0, .int a0), (1, .int a1)] [] (m_D_isTextKind (hp_G Z)  a0 a1 h) := by
  unfold m_D_isTextKind
  refine hp_iload_n (x0 := 0) d_D_isTextKind_0 rfl rfl ?_
  refine hp_iconst (v := 5) d_D_isTextKind_1 (by decide) ?_
  refine hp_icmp_ne (tgt := 15) d_D_isTextKind_2 (by decide) ?_ ?_
  · refine hp_iload_n (x0 := 1) d_D_isTextKind_5 rfl rfl ?_
    refine hp_if_ne (tgt := 13) d_D_isTextKind_6 (by decide) ?_ ?_
    · refine hp_iconst (v := 1) d_D_isTextKind_9 (by decide) ?_
      refine hp_goto (tgt := 14) d_D_isTextKind_10 (by decide) ?_
      refine hp_sub [] rfl ?_
      exact j_D_isTextKind_14  _ _
    · refine hp_iconst (v := 0) d_D_isTextKind_13 (by decide) ?_
      refine hp_sub [] rfl ?_
      exact j_D_isTextKind_14  _ _
  · refine hp_iload_n (x0 := 0) d_D_isTextKind_15 rfl rfl ?_
    refine hp_bipush (v := 6) d_D_isTextKind_16 (by decide) ?_
    refine hp_icmp_eq (tgt := 27) d_D_isTextKind_18 (by decide) ?_ ?_
    · refine hp_sub [1] rfl ?_
      exact j_D_isTextKind_27  _ _
    · refine hp_iload_n (x0 := 0) d_D_isTextKind_21 rfl rfl ?_
      refine hp_bipush (v := 7) d_D_isTextKind_22 (by decide) ?_
      refine hp_icmp_ne (tgt := 41) d_D_isTextKind_24 (by decide) ?_ ?_
      · refine hp_sub [1] rfl ?_
        exact j_D_isTextKind_27  _ _
      · refine hp_sub [] rfl ?_
        exact j_D_isTextKind_41   _
theorem t_D_isTextKind (l : Launch) (E : hp_E) (a0 : Int32) (a1 : Int32) : hp_M l E y_D_isTextKind Y_D_isTextKind hp_rI [.int a0, .int a1] (m_D_isTextKind E.2.2.1 a0 a1) := hp_M.of (plainFor_of_name (by decide)) ⟨rfl, rfl⟩ (Nat.le_of_ble_eq_true rfl) (fun Z h hE => by subst hE; exact j_D_isTextKind_0 _ _ h)
-- R_clear
theorem d_R_clear_0 : decode prog_5_method_2_code 0 = .ok (.aload_n 0, 1) := by decide +kernel
theorem d_R_clear_1 : decode prog_5_method_2_code 1 = .ok (.iconst 0, 1) := by decide +kernel
theorem d_R_clear_2 : decode prog_5_method_2_code 2 = .ok (.putfield 15, 3) := by decide +kernel
theorem d_R_clear_5 : decode prog_5_method_2_code 5 = .ok (.aload_n 0, 1) := by decide +kernel
theorem d_R_clear_6 : decode prog_5_method_2_code 6 = .ok (.iconst 0, 1) := by decide +kernel
theorem d_R_clear_7 : decode prog_5_method_2_code 7 = .ok (.putfield 19, 3) := by decide +kernel
theorem d_R_clear_10 : decode prog_5_method_2_code 10 = .ok (.return_, 1) := by decide +kernel
def m_R_clear (G : Nat → Nat) (a0 : Nat) (h : hp_H) : Option (Unit × hp_H) := (hp_p h a0 4 1 (.int (0 : Int32))).bind fun h1 => (hp_pZ h1 a0 4 2 (0 : Int32)).bind fun h2 => some ((), h2)
set_option maxRecDepth 100000 in
set_option maxHeartbeats 4000000 in
theorem j_R_clear_0 {Z : hp_Z} (a0 : Nat) (h : hp_H) : hp_J Y_R_clear Z hp_rV h 0 [(0, .ref a0)] [] (m_R_clear (hp_G Z)  a0 h) := by
  unfold m_R_clear
  refine hp_aload_n (x0 := 0) d_R_clear_0 rfl rfl ?_
  refine hp_iconst (v := 0) d_R_clear_1 (by decide) ?_
  refine hp_put fl_R_15 (fun q => by cases q) rfl rfl d_R_clear_2 fun h1 => ?_
  refine hp_aload_n (x0 := 0) d_R_clear_5 rfl rfl ?_
  refine hp_iconst (v := 0) d_R_clear_6 (by decide) ?_
  refine hp_putZ fl_R_19 (fun q => by cases q) d_R_clear_7 fun h2 => ?_
  exact hp_vret d_R_clear_10 rfl
theorem t_R_clear (l : Launch) (E : hp_E) (a0 : Nat) : hp_M l E y_R_clear Y_R_clear hp_rV [.ref a0] (m_R_clear E.2.2.1 a0) := hp_M.of (plainFor_of_name (by decide)) ⟨rfl, rfl⟩ (Nat.le_of_ble_eq_true rfl) (fun Z h hE => by subst hE; exact j_R_clear_0 _ h)
-- R_isText
theorem d_R_isText_0 : decode prog_5_method_8_code 0 = .ok (.iconst 0, 1) := by decide +kernel
theorem d_R_isText_1 : decode prog_5_method_8_code 1 = .ok (.istore_n 1, 1) := by decide +kernel
theorem d_R_isText_2 : decode prog_5_method_8_code 2 = .ok (.iload_n 1, 1) := by decide +kernel
theorem d_R_isText_3 : decode prog_5_method_8_code 3 = .ok (.aload_n 0, 1) := by decide +kernel
theorem d_R_isText_4 : decode prog_5_method_8_code 4 = .ok (.getfield 15, 3) := by decide +kernel
theorem d_R_isText_7 : decode prog_5_method_8_code 7 = .ok (.if_icmp .ge 26, 3) := by decide +kernel
theorem d_R_isText_10 : decode prog_5_method_8_code 10 = .ok (.iload_n 1, 1) := by decide +kernel
theorem d_R_isText_11 : decode prog_5_method_8_code 11 = .ok (.bipush 64, 2) := by decide +kernel
theorem d_R_isText_13 : decode prog_5_method_8_code 13 = .ok (.if_icmp .ge 20, 3) := by decide +kernel
theorem d_R_isText_16 : decode prog_5_method_8_code 16 = .ok (.aload_n 0, 1) := by decide +kernel
theorem d_R_isText_17 : decode prog_5_method_8_code 17 = .ok (.getfield 9, 3) := by decide +kernel
theorem d_R_isText_20 : decode prog_5_method_8_code 20 = .ok (.iload_n 1, 1) := by decide +kernel
theorem d_R_isText_21 : decode prog_5_method_8_code 21 = .ok (.baload, 1) := by decide +kernel
theorem d_R_isText_22 : decode prog_5_method_8_code 22 = .ok (.ifCond .gt 5, 3) := by decide +kernel
theorem d_R_isText_25 : decode prog_5_method_8_code 25 = .ok (.iconst 0, 1) := by decide +kernel
theorem d_R_isText_26 : decode prog_5_method_8_code 26 = .ok (.ireturn, 1) := by decide +kernel
theorem d_R_isText_27 : decode prog_5_method_8_code 27 = .ok (.iinc 1 1, 3) := by decide +kernel
theorem d_R_isText_30 : decode prog_5_method_8_code 30 = .ok (.goto (-28), 3) := by decide +kernel
theorem d_R_isText_33 : decode prog_5_method_8_code 33 = .ok (.iconst 1, 1) := by decide +kernel
theorem d_R_isText_34 : decode prog_5_method_8_code 34 = .ok (.ireturn, 1) := by decide +kernel
def m_R_isText_33 (G : Nat → Nat) (h : hp_H) : Option (Int32 × hp_H) := hp_z (1 : Int32) h
set_option maxRecDepth 100000 in
set_option maxHeartbeats 4000000 in
theorem j_R_isText_33 {Z : hp_Z} (h : hp_H) : hp_J Y_R_isText Z hp_rI h 33 [] [] (m_R_isText_33 (hp_G Z)   h) := by
  unfold m_R_isText_33
  refine hp_iconst (v := 1) d_R_isText_33 (by decide) ?_
  exact hp_zret d_R_isText_34 rfl
def m_R_isText_2 (G : Nat → Nat) : Nat → Nat → Int32 → hp_H → Option (Int32 × hp_H)
  | 0, _, _, _ => none
  | n + 1, a0, a1, h => (hp_gI h a0 4 1).bind fun x1 => if x1 ≤ a1 then (m_R_isText_33 G h) else (if (64 : Int32) ≤ a1 then (m_R_isText_33 G h) else ((hp_gR h a0 4 0).bind fun x2 => (hp_aI h .byte x2 a1).bind fun x3 => if 0 < x3 then (hp_nm (a1 + 1) fun x4 => (m_R_isText_2 G  n) a0 x4 h) else (hp_z (0 : Int32) h)))
set_option maxRecDepth 100000 in
set_option maxHeartbeats 4000000 in
theorem j_R_isText_2 {Z : hp_Z} : ∀ (n : Nat) (a0 : Nat) (a1 : Int32) (h : hp_H), hp_J Y_R_isText Z hp_rI h 2 [(0, .ref a0), (1, .int a1)] [] (m_R_isText_2 (hp_G Z)  n a0 a1 h) := by
  intro n
  induction n with
  | zero => intro a0 a1 h; exact hp_fail
  | succ n ih =>
    intro a0 a1 h
    rw [m_R_isText_2]
    refine hp_iload_n (x0 := 1) d_R_isText_2 rfl rfl ?_
    refine hp_aload_n (x0 := 0) d_R_isText_3 rfl rfl ?_
    refine hp_getI fl_R_15 d_R_isText_4 fun x1 => ?_
    refine hp_icmp_ge (tgt := 33) d_R_isText_7 (by decide) ?_ ?_
    · refine hp_sub [] rfl ?_
      exact j_R_isText_33   _
    · refine hp_iload_n (x0 := 1) d_R_isText_10 rfl rfl ?_
      refine hp_bipush (v := 64) d_R_isText_11 (by decide) ?_
      refine hp_icmp_ge (tgt := 33) d_R_isText_13 (by decide) ?_ ?_
      · refine hp_sub [] rfl ?_
        exact j_R_isText_33   _
      · refine hp_aload_n (x0 := 0) d_R_isText_16 rfl rfl ?_
        refine hp_getR fl_R_9 d_R_isText_17 fun x2 => ?_
        refine hp_iload_n (x0 := 1) d_R_isText_20 rfl rfl ?_
        refine hp_bald d_R_isText_21 fun x3 => ?_
        refine hp_if_gt (tgt := 27) d_R_isText_22 (by decide) ?_ ?_
        · refine hp_iinc (x0 := 1) (d := 1) (fun x4 => [(1, .int x4), (0, .ref a0)]) d_R_isText_27 rfl (by decide) (by decide) (fun _ => rfl) fun x4 => ?_
          refine hp_goto (tgt := 2) d_R_isText_30 (by decide) ?_
          refine hp_sub [1, 0] rfl ?_
          exact ih _ _ _
        · refine hp_iconst (v := 0) d_R_isText_25 (by decide) ?_
          exact hp_zret d_R_isText_26 rfl
def m_R_isText (G : Nat → Nat) (a0 : Nat) (h : hp_H) : Option (Int32 × hp_H) := hp_nm (0 : Int32) fun x1 => m_R_isText_2 G hp_fu a0 x1 h
set_option maxRecDepth 100000 in
set_option maxHeartbeats 4000000 in
theorem j_R_isText_0 {Z : hp_Z} (a0 : Nat) (h : hp_H) : hp_J Y_R_isText Z hp_rI h 0 [(0, .ref a0)] [] (m_R_isText (hp_G Z)  a0 h) := by
  unfold m_R_isText
  refine hp_iconst (v := 0) d_R_isText_0 (by decide) ?_
  refine hp_istore_n (fun x1 => [(1, .int x1), (0, .ref a0)]) d_R_isText_1 rfl (by decide) (fun _ => rfl) fun x1 => ?_
  refine hp_sub [1, 0] rfl ?_
  exact j_R_isText_2  hp_fu _ _ _
theorem t_R_isText (l : Launch) (E : hp_E) (a0 : Nat) : hp_M l E y_R_isText Y_R_isText hp_rI [.ref a0] (m_R_isText E.2.2.1 a0) := hp_M.of (plainFor_of_name (by decide)) ⟨rfl, rfl⟩ (Nat.le_of_ble_eq_true rfl) (fun Z h hE => by subst hE; exact j_R_isText_0 _ h)
-- S_keepRow
theorem d_S_keepRow_0 : decode prog_6_method_7_code 0 = .ok (.aload_n 3, 1) := by decide +kernel
theorem d_S_keepRow_1 : decode prog_6_method_7_code 1 = .ok (.getfield 54, 3) := by decide +kernel
theorem d_S_keepRow_4 : decode prog_6_method_7_code 4 = .ok (.ifCond .eq 8, 3) := by decide +kernel
theorem d_S_keepRow_7 : decode prog_6_method_7_code 7 = .ok (.bipush (-4), 2) := by decide +kernel
theorem d_S_keepRow_9 : decode prog_6_method_7_code 9 = .ok (.goto 12, 3) := by decide +kernel
theorem d_S_keepRow_12 : decode prog_6_method_7_code 12 = .ok (.aload_n 0, 1) := by decide +kernel
theorem d_S_keepRow_13 : decode prog_6_method_7_code 13 = .ok (.iload_n 1, 1) := by decide +kernel
theorem d_S_keepRow_14 : decode prog_6_method_7_code 14 = .ok (.iload_n 2, 1) := by decide +kernel
theorem d_S_keepRow_15 : decode prog_6_method_7_code 15 = .ok (.lconst 0, 1) := by decide +kernel
theorem d_S_keepRow_16 : decode prog_6_method_7_code 16 = .ok (.iconst 0, 1) := by decide +kernel
theorem d_S_keepRow_17 : decode prog_6_method_7_code 17 = .ok (.aload_n 3, 1) := by decide +kernel
theorem d_S_keepRow_18 : decode prog_6_method_7_code 18 = .ok (.invokevirtual 50, 3) := by decide +kernel
theorem d_S_keepRow_21 : decode prog_6_method_7_code 21 = .ok (.ireturn, 1) := by decide +kernel
def m_S_keepRow_21 (G : Nat → Nat) (s0 : Int32) (h : hp_H) : Option (Int32 × hp_H) := some (s0, h)
set_option maxRecDepth 100000 in
set_option maxHeartbeats 4000000 in
theorem j_S_keepRow_21 {Z : hp_Z} (s0 : Int32) (h : hp_H) : hp_J Y_S_keepRow Z hp_rI h 21 [] [.int s0] (m_S_keepRow_21 (hp_G Z)  s0 h) := by
  unfold m_S_keepRow_21
  exact hp_iret d_S_keepRow_21 rfl
def m_S_keepRow (G : Nat → Nat) (a0 : Nat) (a1 : Int32) (a2 : Int32) (a3 : Nat) (h : hp_H) : Option (Int32 × hp_H) := (hp_gI h a3 4 2).bind fun x1 => if x1 = 0 then ((hp_vck h a0 1 (m_S_keep G a0 a1 a2 (0 : Int64) (0 : Int32) a3 h)).bind fun q2 => m_S_keepRow_21 G q2.1 q2.2) else (m_S_keepRow_21 G (-4 : Int32) h)
set_option maxRecDepth 100000 in
set_option maxHeartbeats 4000000 in
theorem j_S_keepRow_0 {Z : hp_Z} (a0 : Nat) (a1 : Int32) (a2 : Int32) (a3 : Nat) (h : hp_H) : hp_J Y_S_keepRow Z hp_rI h 0 [(0, .ref a0), (1, .int a1), (2, .int a2), (3, .ref a3)] [] (m_S_keepRow (hp_G Z)  a0 a1 a2 a3 h) := by
  unfold m_S_keepRow
  refine hp_aload_n (x0 := 3) d_S_keepRow_0 rfl rfl ?_
  refine hp_getI fl_S_54 d_S_keepRow_1 fun x1 => ?_
  refine hp_if_eq (tgt := 12) d_S_keepRow_4 (by decide) ?_ ?_
  · refine hp_aload_n (x0 := 0) d_S_keepRow_12 rfl rfl ?_
    refine hp_iload_n (x0 := 1) d_S_keepRow_13 rfl rfl ?_
    refine hp_iload_n (x0 := 2) d_S_keepRow_14 rfl rfl ?_
    refine hp_lconst (v := 0) d_S_keepRow_15 (by decide) ?_
    refine hp_iconst (v := 0) d_S_keepRow_16 (by decide) ?_
    refine hp_aload_n (x0 := 3) d_S_keepRow_17 rfl rfl ?_
    refine hp_callI (hp_crV (ci := 1) (t_S_keep _ _ _ _ _ _ _ _) cw_S_50 rfl ⟨w_287, ws_0⟩ (by decide) rfl rfl (Nat.le_of_ble_eq_true rfl) d_S_keepRow_18) fun q2 => ?_
    refine hp_sub [] rfl ?_
    exact j_S_keepRow_21  _ _
  · refine hp_bipush (v := -4) d_S_keepRow_7 (by decide) ?_
    refine hp_goto (tgt := 21) d_S_keepRow_9 (by decide) ?_
    refine hp_sub [] rfl ?_
    exact j_S_keepRow_21  _ _
theorem t_S_keepRow (l : Launch) (E : hp_E) (a0 : Nat) (a1 : Int32) (a2 : Int32) (a3 : Nat) : hp_M l E y_S_keepRow Y_S_keepRow hp_rI [.ref a0, .int a1, .int a2, .ref a3] (m_S_keepRow E.2.2.1 a0 a1 a2 a3) := hp_M.of (plainFor_of_name (by decide)) ⟨rfl, rfl⟩ (Nat.le_of_ble_eq_true rfl) (fun Z h hE => by subst hE; exact j_S_keepRow_0 _ _ _ _ h)
-- D_text
theorem d_D_text_0 : decode prog_1_method_7_code 0 = .ok (.iload_n 1, 1) := by decide +kernel
theorem d_D_text_1 : decode prog_1_method_7_code 1 = .ok (.iload_n 2, 1) := by decide +kernel
theorem d_D_text_2 : decode prog_1_method_7_code 2 = .ok (.invokestatic 65, 3) := by decide +kernel
theorem d_D_text_5 : decode prog_1_method_7_code 5 = .ok (.ifCond .eq 17, 3) := by decide +kernel
theorem d_D_text_8 : decode prog_1_method_7_code 8 = .ok (.aload_n 0, 1) := by decide +kernel
theorem d_D_text_9 : decode prog_1_method_7_code 9 = .ok (.getfield 19, 3) := by decide +kernel
theorem d_D_text_12 : decode prog_1_method_7_code 12 = .ok (.invokevirtual 69, 3) := by decide +kernel
theorem d_D_text_15 : decode prog_1_method_7_code 15 = .ok (.ifCond .eq 7, 3) := by decide +kernel
theorem d_D_text_18 : decode prog_1_method_7_code 18 = .ok (.iconst 1, 1) := by decide +kernel
theorem d_D_text_19 : decode prog_1_method_7_code 19 = .ok (.goto 4, 3) := by decide +kernel
theorem d_D_text_22 : decode prog_1_method_7_code 22 = .ok (.iconst 0, 1) := by decide +kernel
theorem d_D_text_23 : decode prog_1_method_7_code 23 = .ok (.istore_n 3, 1) := by decide +kernel
theorem d_D_text_24 : decode prog_1_method_7_code 24 = .ok (.iload_n 3, 1) := by decide +kernel
theorem d_D_text_25 : decode prog_1_method_7_code 25 = .ok (.ifCond .eq 19, 3) := by decide +kernel
theorem d_D_text_28 : decode prog_1_method_7_code 28 = .ok (.aload_n 0, 1) := by decide +kernel
theorem d_D_text_29 : decode prog_1_method_7_code 29 = .ok (.getfield 10, 3) := by decide +kernel
theorem d_D_text_32 : decode prog_1_method_7_code 32 = .ok (.iload_n 1, 1) := by decide +kernel
theorem d_D_text_33 : decode prog_1_method_7_code 33 = .ok (.iload_n 2, 1) := by decide +kernel
theorem d_D_text_34 : decode prog_1_method_7_code 34 = .ok (.aload_n 0, 1) := by decide +kernel
theorem d_D_text_35 : decode prog_1_method_7_code 35 = .ok (.getfield 19, 3) := by decide +kernel
theorem d_D_text_38 : decode prog_1_method_7_code 38 = .ok (.invokevirtual 73, 3) := by decide +kernel
theorem d_D_text_41 : decode prog_1_method_7_code 41 = .ok (.goto 4, 3) := by decide +kernel
theorem d_D_text_44 : decode prog_1_method_7_code 44 = .ok (.iconst (-1), 1) := by decide +kernel
theorem d_D_text_45 : decode prog_1_method_7_code 45 = .ok (.istore 4, 2) := by decide +kernel
theorem d_D_text_47 : decode prog_1_method_7_code 47 = .ok (.aload_n 0, 1) := by decide +kernel
theorem d_D_text_48 : decode prog_1_method_7_code 48 = .ok (.getfield 19, 3) := by decide +kernel
theorem d_D_text_51 : decode prog_1_method_7_code 51 = .ok (.invokevirtual 77, 3) := by decide +kernel
theorem d_D_text_54 : decode prog_1_method_7_code 54 = .ok (.iload 4, 2) := by decide +kernel
theorem d_D_text_56 : decode prog_1_method_7_code 56 = .ok (.ireturn, 1) := by decide +kernel
def m_D_text_45 (G : Nat → Nat) (a0 : Nat) (s0 : Int32) (h : hp_H) : Option (Int32 × hp_H) := hp_nm s0 fun x1 => (hp_gR h a0 0 1).bind fun x2 => (hp_vck h x2 4 (m_R_clear G x2 h)).bind fun q3 => some (x1, q3.2)
set_option maxRecDepth 100000 in
set_option maxHeartbeats 4000000 in
theorem j_D_text_45 {Z : hp_Z} (a0 : Nat) (s0 : Int32) (h : hp_H) : hp_J Y_D_text Z hp_rI h 45 [(0, .ref a0)] [.int s0] (m_D_text_45 (hp_G Z)  a0 s0 h) := by
  unfold m_D_text_45
  refine hp_istore (fun x1 => [(4, .int x1), (0, .ref a0)]) d_D_text_45 (by decide) (fun _ => rfl) fun x1 => ?_
  refine hp_aload_n (x0 := 1) d_D_text_47 rfl rfl ?_
  refine hp_getR fl_D_19 d_D_text_48 fun x2 => ?_
  refine hp_callU (hp_crV (ci := 4) (t_R_clear _ _ _) cw_D_77 rfl ⟨w_418, w_419⟩ (by decide) rfl rfl (Nat.le_of_ble_eq_true rfl) d_D_text_51) fun q3 => ?_
  refine hp_iload (x0 := 0) d_D_text_54 rfl ?_
  exact hp_iret d_D_text_56 rfl
def m_D_text_23 (G : Nat → Nat) (a0 : Nat) (a1 : Int32) (a2 : Int32) (s0 : Int32) (h : hp_H) : Option (Int32 × hp_H) := hp_nm s0 fun x1 => if x1 = 0 then (m_D_text_45 G a0 (-1 : Int32) h) else ((hp_gR h a0 0 0).bind fun x2 => (hp_gR h a0 0 1).bind fun x3 => (hp_vck h x2 1 (m_S_keepRow G x2 a1 a2 x3 h)).bind fun q4 => m_D_text_45 G a0 q4.1 q4.2)
set_option maxRecDepth 100000 in
set_option maxHeartbeats 4000000 in
theorem j_D_text_23 {Z : hp_Z} (a0 : Nat) (a1 : Int32) (a2 : Int32) (s0 : Int32) (h : hp_H) : hp_J Y_D_text Z hp_rI h 23 [(0, .ref a0), (1, .int a1), (2, .int a2)] [.int s0] (m_D_text_23 (hp_G Z)  a0 a1 a2 s0 h) := by
  unfold m_D_text_23
  refine hp_istore_n (fun x1 => [(3, .int x1), (0, .ref a0), (1, .int a1), (2, .int a2)]) d_D_text_23 rfl (by decide) (fun _ => rfl) fun x1 => ?_
  refine hp_iload_n (x0 := 0) d_D_text_24 rfl rfl ?_
  refine hp_if_eq (tgt := 44) d_D_text_25 (by decide) ?_ ?_
  · refine hp_iconst (v := -1) d_D_text_44 (by decide) ?_
    refine hp_sub [1] rfl ?_
    exact j_D_text_45  _ _ _
  · refine hp_aload_n (x0 := 1) d_D_text_28 rfl rfl ?_
    refine hp_getR fl_D_10 d_D_text_29 fun x2 => ?_
    refine hp_iload_n (x0 := 2) d_D_text_32 rfl rfl ?_
    refine hp_iload_n (x0 := 3) d_D_text_33 rfl rfl ?_
    refine hp_aload_n (x0 := 1) d_D_text_34 rfl rfl ?_
    refine hp_getR fl_D_19 d_D_text_35 fun x3 => ?_
    refine hp_callI (hp_crV (ci := 1) (t_S_keepRow _ _ _ _ _ _) cw_D_73 rfl ⟨w_414, w_415⟩ (by decide) rfl rfl (Nat.le_of_ble_eq_true rfl) d_D_text_38) fun q4 => ?_
    refine hp_goto (tgt := 45) d_D_text_41 (by decide) ?_
    refine hp_sub [1] rfl ?_
    exact j_D_text_45  _ _ _
def m_D_text_22 (G : Nat → Nat) (a0 : Nat) (a1 : Int32) (a2 : Int32) (h : hp_H) : Option (Int32 × hp_H) := m_D_text_23 G a0 a1 a2 (0 : Int32) h
set_option maxRecDepth 100000 in
set_option maxHeartbeats 4000000 in
theorem j_D_text_22 {Z : hp_Z} (a0 : Nat) (a1 : Int32) (a2 : Int32) (h : hp_H) : hp_J Y_D_text Z hp_rI h 22 [(0, .ref a0), (1, .int a1), (2, .int a2)] [] (m_D_text_22 (hp_G Z)  a0 a1 a2 h) := by
  unfold m_D_text_22
  refine hp_iconst (v := 0) d_D_text_22 (by decide) ?_
  exact j_D_text_23  _ _ _ _ _
def m_D_text (G : Nat → Nat) (a0 : Nat) (a1 : Int32) (a2 : Int32) (h : hp_H) : Option (Int32 × hp_H) := (m_D_isTextKind G a1 a2 h).bind fun q1 => if q1.1 = 0 then (m_D_text_22 G a0 a1 a2 q1.2) else ((hp_gR q1.2 a0 0 1).bind fun x2 => (hp_vck q1.2 x2 4 (m_R_isText G x2 q1.2)).bind fun q3 => if q3.1 = 0 then (m_D_text_22 G a0 a1 a2 q3.2) else (m_D_text_23 G a0 a1 a2 (1 : Int32) q3.2))
set_option maxRecDepth 100000 in
set_option maxHeartbeats 4000000 in
theorem j_D_text_0 {Z : hp_Z} (a0 : Nat) (a1 : Int32) (a2 : Int32) (h : hp_H) : hp_J Y_D_text Z hp_rI h 0 [(0, .ref a0), (1, .int a1), (2, .int a2)] [] (m_D_text (hp_G Z)  a0 a1 a2 h) := by
  unfold m_D_text
  refine hp_iload_n (x0 := 1) d_D_text_0 rfl rfl ?_
  refine hp_iload_n (x0 := 2) d_D_text_1 rfl rfl ?_
  refine hp_callI (hp_crS (t_D_isTextKind _ _ _ _) cw_D_65 w_407 (by decide) rfl rfl (Nat.le_of_ble_eq_true rfl) d_D_text_2) fun q1 => ?_
  refine hp_if_eq (tgt := 22) d_D_text_5 (by decide) ?_ ?_
  · exact j_D_text_22  _ _ _ _
  · refine hp_aload_n (x0 := 0) d_D_text_8 rfl rfl ?_
    refine hp_getR fl_D_19 d_D_text_9 fun x2 => ?_
    refine hp_callI (hp_crV (ci := 4) (t_R_isText _ _ _) cw_D_69 rfl ⟨w_410, w_411⟩ (by decide) rfl rfl (Nat.le_of_ble_eq_true rfl) d_D_text_12) fun q3 => ?_
    refine hp_if_eq (tgt := 22) d_D_text_15 (by decide) ?_ ?_
    · exact j_D_text_22  _ _ _ _
    · refine hp_iconst (v := 1) d_D_text_18 (by decide) ?_
      refine hp_goto (tgt := 23) d_D_text_19 (by decide) ?_
      exact j_D_text_23  _ _ _ _ _
theorem t_D_text (l : Launch) (E : hp_E) (a0 : Nat) (a1 : Int32) (a2 : Int32) : hp_M l E y_D_text Y_D_text hp_rI [.ref a0, .int a1, .int a2] (m_D_text E.2.2.1 a0 a1 a2) := hp_M.of (plainFor_of_name (by decide)) ⟨rfl, rfl⟩ (Nat.le_of_ble_eq_true rfl) (fun Z h hE => by subst hE; exact j_D_text_0 _ _ _ h)
-- S_at
theorem d_S_at_0 : decode prog_6_method_3_code 0 = .ok (.iload_n 1, 1) := by decide +kernel
theorem d_S_at_1 : decode prog_6_method_3_code 1 = .ok (.iconst 1, 1) := by decide +kernel
theorem d_S_at_2 : decode prog_6_method_3_code 2 = .ok (.if_icmp .lt 30, 3) := by decide +kernel
theorem d_S_at_5 : decode prog_6_method_3_code 5 = .ok (.iload_n 1, 1) := by decide +kernel
theorem d_S_at_6 : decode prog_6_method_3_code 6 = .ok (.aload_n 0, 1) := by decide +kernel
theorem d_S_at_7 : decode prog_6_method_3_code 7 = .ok (.getfield 12, 3) := by decide +kernel
theorem d_S_at_10 : decode prog_6_method_3_code 10 = .ok (.invokevirtual 42, 3) := by decide +kernel
theorem d_S_at_13 : decode prog_6_method_3_code 13 = .ok (.if_icmp .gt 19, 3) := by decide +kernel
theorem d_S_at_16 : decode prog_6_method_3_code 16 = .ok (.aload_n 0, 1) := by decide +kernel
theorem d_S_at_17 : decode prog_6_method_3_code 17 = .ok (.getfield 12, 3) := by decide +kernel
theorem d_S_at_20 : decode prog_6_method_3_code 20 = .ok (.iload_n 1, 1) := by decide +kernel
theorem d_S_at_21 : decode prog_6_method_3_code 21 = .ok (.iconst 1, 1) := by decide +kernel
theorem d_S_at_22 : decode prog_6_method_3_code 22 = .ok (.isub, 1) := by decide +kernel
theorem d_S_at_23 : decode prog_6_method_3_code 23 = .ok (.invokevirtual 46, 3) := by decide +kernel
theorem d_S_at_26 : decode prog_6_method_3_code 26 = .ok (.checkcast 22, 3) := by decide +kernel
theorem d_S_at_29 : decode prog_6_method_3_code 29 = .ok (.goto 7, 3) := by decide +kernel
theorem d_S_at_32 : decode prog_6_method_3_code 32 = .ok (.aload_n 0, 1) := by decide +kernel
theorem d_S_at_33 : decode prog_6_method_3_code 33 = .ok (.getfield 31, 3) := by decide +kernel
theorem d_S_at_36 : decode prog_6_method_3_code 36 = .ok (.areturn, 1) := by decide +kernel
def m_S_at_36 (G : Nat → Nat) (s0 : Nat) (h : hp_H) : Option (Nat × hp_H) := some (s0, h)
set_option maxRecDepth 100000 in
set_option maxHeartbeats 4000000 in
theorem j_S_at_36 {Z : hp_Z} (s0 : Nat) (h : hp_H) : hp_J Y_S_at Z hp_rR h 36 [] [.ref s0] (m_S_at_36 (hp_G Z)  s0 h) := by
  unfold m_S_at_36
  exact hp_aret d_S_at_36 rfl (Or.inl ⟨_, rfl⟩)
def m_S_at_32 (G : Nat → Nat) (a0 : Nat) (h : hp_H) : Option (Nat × hp_H) := (hp_gR h a0 1 2).bind fun x1 => m_S_at_36 G x1 h
set_option maxRecDepth 100000 in
set_option maxHeartbeats 4000000 in
theorem j_S_at_32 {Z : hp_Z} (a0 : Nat) (h : hp_H) : hp_J Y_S_at Z hp_rR h 32 [(0, .ref a0)] [] (m_S_at_32 (hp_G Z)  a0 h) := by
  unfold m_S_at_32
  refine hp_aload_n (x0 := 0) d_S_at_32 rfl rfl ?_
  refine hp_getR fl_S_31 d_S_at_33 fun x1 => ?_
  refine hp_sub [] rfl ?_
  exact j_S_at_36  _ _
def m_S_at (G : Nat → Nat) (a0 : Nat) (a1 : Int32) (h : hp_H) : Option (Nat × hp_H) := if a1 < (1 : Int32) then (m_S_at_32 G a0 h) else ((hp_gR h a0 1 0).bind fun x1 => (hp_vck h x1 2 (m_AL_size G x1 h)).bind fun q2 => if q2.1 < a1 then (m_S_at_32 G a0 q2.2) else ((hp_gR q2.2 a0 1 0).bind fun x3 => (hp_vck q2.2 x3 2 (m_AL_get G x3 (a1 - (1 : Int32)) q2.2)).bind fun q4 => hp_vck q4.2 q4.1 3 <| m_S_at_36 G q4.1 q4.2))
set_option maxRecDepth 100000 in
set_option maxHeartbeats 4000000 in
theorem j_S_at_0 {Z : hp_Z} (a0 : Nat) (a1 : Int32) (h : hp_H) : hp_J Y_S_at Z hp_rR h 0 [(0, .ref a0), (1, .int a1)] [] (m_S_at (hp_G Z)  a0 a1 h) := by
  unfold m_S_at
  refine hp_iload_n (x0 := 1) d_S_at_0 rfl rfl ?_
  refine hp_iconst (v := 1) d_S_at_1 (by decide) ?_
  refine hp_icmp_lt (tgt := 32) d_S_at_2 (by decide) ?_ ?_
  · refine hp_sub [0] rfl ?_
    exact j_S_at_32  _ _
  · refine hp_iload_n (x0 := 1) d_S_at_5 rfl rfl ?_
    refine hp_aload_n (x0 := 0) d_S_at_6 rfl rfl ?_
    refine hp_getR fl_S_12 d_S_at_7 fun x1 => ?_
    refine hp_callI (hp_crV (ci := 2) (t_AL_size _ _ _) cw_S_42 rfl ⟨w_294, w_295⟩ (by decide) rfl rfl (Nat.le_of_ble_eq_true rfl) d_S_at_10) fun q2 => ?_
    refine hp_icmp_gt (tgt := 32) d_S_at_13 (by decide) ?_ ?_
    · refine hp_sub [0] rfl ?_
      exact j_S_at_32  _ _
    · refine hp_aload_n (x0 := 0) d_S_at_16 rfl rfl ?_
      refine hp_getR fl_S_12 d_S_at_17 fun x3 => ?_
      refine hp_iload_n (x0 := 1) d_S_at_20 rfl rfl ?_
      refine hp_iconst (v := 1) d_S_at_21 (by decide) ?_
      refine hp_isub d_S_at_22 ?_
      refine hp_callR (hp_crV (ci := 2) (t_AL_get _ _ _ _) cw_S_46 rfl ⟨w_298, w_299⟩ (by decide) rfl rfl (Nat.le_of_ble_eq_true rfl) d_S_at_23) fun q4 => ?_
      refine hp_cast (ci := 3) rfl w_63 d_S_at_26 ?_
      refine hp_goto (tgt := 36) d_S_at_29 (by decide) ?_
      refine hp_sub [] rfl ?_
      exact j_S_at_36  _ _
theorem t_S_at (l : Launch) (E : hp_E) (a0 : Nat) (a1 : Int32) : hp_M l E y_S_at Y_S_at hp_rR [.ref a0, .int a1] (m_S_at E.2.2.1 a0 a1) := hp_M.of (plainFor_of_name (by decide)) ⟨rfl, rfl⟩ (Nat.le_of_ble_eq_true rfl) (fun Z h hE => by subst hE; exact j_S_at_0 _ _ h)
-- D_told
theorem d_D_told_0 : decode prog_1_method_8_code 0 = .ok (.aload_n 0, 1) := by decide +kernel
theorem d_D_told_1 : decode prog_1_method_8_code 1 = .ok (.getfield 10, 3) := by decide +kernel
theorem d_D_told_4 : decode prog_1_method_8_code 4 = .ok (.iload_n 1, 1) := by decide +kernel
theorem d_D_told_5 : decode prog_1_method_8_code 5 = .ok (.invokevirtual 80, 3) := by decide +kernel
theorem d_D_told_8 : decode prog_1_method_8_code 8 = .ok (.astore_n 3, 1) := by decide +kernel
theorem d_D_told_9 : decode prog_1_method_8_code 9 = .ok (.aload_n 3, 1) := by decide +kernel
theorem d_D_told_10 : decode prog_1_method_8_code 10 = .ok (.getfield 84, 3) := by decide +kernel
theorem d_D_told_13 : decode prog_1_method_8_code 13 = .ok (.ifCond .ne 5, 3) := by decide +kernel
theorem d_D_told_16 : decode prog_1_method_8_code 16 = .ok (.iconst (-1), 1) := by decide +kernel
theorem d_D_told_17 : decode prog_1_method_8_code 17 = .ok (.ireturn, 1) := by decide +kernel
theorem d_D_told_18 : decode prog_1_method_8_code 18 = .ok (.iload_n 2, 1) := by decide +kernel
theorem d_D_told_19 : decode prog_1_method_8_code 19 = .ok (.tableswitch 50 0 3 #[29, 34, 39, 44], 29) := by decide +kernel
theorem d_D_told_48 : decode prog_1_method_8_code 48 = .ok (.aload_n 3, 1) := by decide +kernel
theorem d_D_told_49 : decode prog_1_method_8_code 49 = .ok (.getfield 84, 3) := by decide +kernel
theorem d_D_told_52 : decode prog_1_method_8_code 52 = .ok (.ireturn, 1) := by decide +kernel
theorem d_D_told_53 : decode prog_1_method_8_code 53 = .ok (.aload_n 3, 1) := by decide +kernel
theorem d_D_told_54 : decode prog_1_method_8_code 54 = .ok (.getfield 89, 3) := by decide +kernel
theorem d_D_told_57 : decode prog_1_method_8_code 57 = .ok (.ireturn, 1) := by decide +kernel
theorem d_D_told_58 : decode prog_1_method_8_code 58 = .ok (.aload_n 3, 1) := by decide +kernel
theorem d_D_told_59 : decode prog_1_method_8_code 59 = .ok (.getfield 92, 3) := by decide +kernel
theorem d_D_told_62 : decode prog_1_method_8_code 62 = .ok (.ireturn, 1) := by decide +kernel
theorem d_D_told_63 : decode prog_1_method_8_code 63 = .ok (.aload_n 3, 1) := by decide +kernel
theorem d_D_told_64 : decode prog_1_method_8_code 64 = .ok (.getfield 95, 3) := by decide +kernel
theorem d_D_told_67 : decode prog_1_method_8_code 67 = .ok (.arraylength, 1) := by decide +kernel
theorem d_D_told_68 : decode prog_1_method_8_code 68 = .ok (.ireturn, 1) := by decide +kernel
theorem d_D_told_69 : decode prog_1_method_8_code 69 = .ok (.iconst (-1), 1) := by decide +kernel
theorem d_D_told_70 : decode prog_1_method_8_code 70 = .ok (.ireturn, 1) := by decide +kernel
def m_D_told (G : Nat → Nat) (a0 : Nat) (a1 : Int32) (a2 : Int32) (h : hp_H) : Option (Int32 × hp_H) := (hp_gR h a0 0 0).bind fun x1 => (hp_vck h x1 1 (m_S_at G x1 a1 h)).bind fun q2 => hp_nm q2.1 fun x3 => (hp_gI q2.2 x3 3 0).bind fun x4 => if x4 = 0 then (some ((-1 : Int32), q2.2)) else (if a2 = 0 then ((hp_gI q2.2 x3 3 0).bind fun x5 => some (x5, q2.2)) else (if a2 = 1 then ((hp_gI q2.2 x3 3 1).bind fun x6 => some (x6, q2.2)) else (if a2 = 2 then ((hp_gI q2.2 x3 3 3).bind fun x7 => some (x7, q2.2)) else (if a2 = 3 then ((hp_gR q2.2 x3 3 4).bind fun x8 => (hp_len q2.2 x8).bind fun x9 => some (x9, q2.2)) else (some ((-1 : Int32), q2.2))))))
set_option maxRecDepth 100000 in
set_option maxHeartbeats 4000000 in
theorem j_D_told_0 {Z : hp_Z} (a0 : Nat) (a1 : Int32) (a2 : Int32) (h : hp_H) : hp_J Y_D_told Z hp_rI h 0 [(0, .ref a0), (1, .int a1), (2, .int a2)] [] (m_D_told (hp_G Z)  a0 a1 a2 h) := by
  unfold m_D_told
  refine hp_aload_n (x0 := 0) d_D_told_0 rfl rfl ?_
  refine hp_getR fl_D_10 d_D_told_1 fun x1 => ?_
  refine hp_iload_n (x0 := 1) d_D_told_4 rfl rfl ?_
  refine hp_callR (hp_crV (ci := 1) (t_S_at _ _ _ _) cw_D_80 rfl ⟨w_426, w_427⟩ (by decide) rfl rfl (Nat.le_of_ble_eq_true rfl) d_D_told_5) fun q2 => ?_
  refine hp_astore_n (fun x3 => [(3, .ref x3), (0, .ref a0), (1, .int a1), (2, .int a2)]) d_D_told_8 rfl (by decide) (fun _ => rfl) fun x3 => ?_
  refine hp_aload_n (x0 := 0) d_D_told_9 rfl rfl ?_
  refine hp_getI fl_D_84 d_D_told_10 fun x4 => ?_
  refine hp_if_ne (tgt := 18) d_D_told_13 (by decide) ?_ ?_
  · refine hp_iconst (v := -1) d_D_told_16 (by decide) ?_
    exact hp_iret d_D_told_17 rfl
  · refine hp_iload_n (x0 := 3) d_D_told_18 rfl rfl ?_
    refine hp_ite (fun c0 => ?_) (fun c0 => ?_)
    · refine hp_tabI (tgt := 48) (kv := 0) d_D_told_19 c0 (by decide) (by decide) rfl (by decide) ?_
      refine hp_aload_n (x0 := 0) d_D_told_48 rfl rfl ?_
      refine hp_getI fl_D_84 d_D_told_49 fun x5 => ?_
      exact hp_iret d_D_told_52 rfl
    · skip
      refine hp_ite (fun c1 => ?_) (fun c1 => ?_)
      · refine hp_tabI (tgt := 53) (kv := 1) d_D_told_19 c1 (by decide) (by decide) rfl (by decide) ?_
        refine hp_aload_n (x0 := 0) d_D_told_53 rfl rfl ?_
        refine hp_getI fl_D_89 d_D_told_54 fun x6 => ?_
        exact hp_iret d_D_told_57 rfl
      · skip
        refine hp_ite (fun c2 => ?_) (fun c2 => ?_)
        · refine hp_tabI (tgt := 58) (kv := 2) d_D_told_19 c2 (by decide) (by decide) rfl (by decide) ?_
          refine hp_aload_n (x0 := 0) d_D_told_58 rfl rfl ?_
          refine hp_getI fl_D_92 d_D_told_59 fun x7 => ?_
          exact hp_iret d_D_told_62 rfl
        · skip
          refine hp_ite (fun c3 => ?_) (fun c3 => ?_)
          · refine hp_tabI (tgt := 63) (kv := 3) d_D_told_19 c3 (by decide) (by decide) rfl (by decide) ?_
            refine hp_aload_n (x0 := 0) d_D_told_63 rfl rfl ?_
            refine hp_getR fl_D_95 d_D_told_64 fun x8 => ?_
            refine hp_alen d_D_told_67 fun x9 => ?_
            exact hp_iret d_D_told_68 rfl
          · skip
            refine hp_tabD (tgt := 69) d_D_told_19 (by have e0 := lv_neT c0 (a := 0) (by decide); have e1 := lv_neT c1 (a := 1) (by decide); have e2 := lv_neT c2 (a := 2) (by decide); have e3 := lv_neT c3 (a := 3) (by decide); omega) (by decide) ?_
            refine hp_iconst (v := -1) d_D_told_69 (by decide) ?_
            exact hp_iret d_D_told_70 rfl
theorem t_D_told (l : Launch) (E : hp_E) (a0 : Nat) (a1 : Int32) (a2 : Int32) : hp_M l E y_D_told Y_D_told hp_rI [.ref a0, .int a1, .int a2] (m_D_told E.2.2.1 a0 a1 a2) := hp_M.of (plainFor_of_name (by decide)) ⟨rfl, rfl⟩ (Nat.le_of_ble_eq_true rfl) (fun Z h hE => by subst hE; exact j_D_told_0 _ _ _ h)
-- D_amount
theorem d_D_amount_0 : decode prog_1_method_9_code 0 = .ok (.aload_n 0, 1) := by decide +kernel
theorem d_D_amount_1 : decode prog_1_method_9_code 1 = .ok (.getfield 10, 3) := by decide +kernel
theorem d_D_amount_4 : decode prog_1_method_9_code 4 = .ok (.iload_n 1, 1) := by decide +kernel
theorem d_D_amount_5 : decode prog_1_method_9_code 5 = .ok (.invokevirtual 80, 3) := by decide +kernel
theorem d_D_amount_8 : decode prog_1_method_9_code 8 = .ok (.getfield 99, 3) := by decide +kernel
theorem d_D_amount_11 : decode prog_1_method_9_code 11 = .ok (.lreturn, 1) := by decide +kernel
def m_D_amount (G : Nat → Nat) (a0 : Nat) (a1 : Int32) (h : hp_H) : Option (Int64 × hp_H) := (hp_gR h a0 0 0).bind fun x1 => (hp_vck h x1 1 (m_S_at G x1 a1 h)).bind fun q2 => (hp_gL q2.2 q2.1 3 2).bind fun x3 => some (x3, q2.2)
set_option maxRecDepth 100000 in
set_option maxHeartbeats 4000000 in
theorem j_D_amount_0 {Z : hp_Z} (a0 : Nat) (a1 : Int32) (h : hp_H) : hp_J Y_D_amount Z hp_rL h 0 [(0, .ref a0), (1, .int a1)] [] (m_D_amount (hp_G Z)  a0 a1 h) := by
  unfold m_D_amount
  refine hp_aload_n (x0 := 0) d_D_amount_0 rfl rfl ?_
  refine hp_getR fl_D_10 d_D_amount_1 fun x1 => ?_
  refine hp_iload_n (x0 := 1) d_D_amount_4 rfl rfl ?_
  refine hp_callR (hp_crV (ci := 1) (t_S_at _ _ _ _) cw_D_80 rfl ⟨w_426, w_427⟩ (by decide) rfl rfl (Nat.le_of_ble_eq_true rfl) d_D_amount_5) fun q2 => ?_
  refine hp_getL fl_D_99 d_D_amount_8 fun x3 => ?_
  exact hp_lret d_D_amount_11 rfl
theorem t_D_amount (l : Launch) (E : hp_E) (a0 : Nat) (a1 : Int32) : hp_M l E y_D_amount Y_D_amount hp_rL [.ref a0, .int a1] (m_D_amount E.2.2.1 a0 a1) := hp_M.of (plainFor_of_name (by decide)) ⟨rfl, rfl⟩ (Nat.le_of_ble_eq_true rfl) (fun Z h hE => by subst hE; exact j_D_amount_0 _ _ h)
-- D_byteOf
theorem d_D_byteOf_0 : decode prog_1_method_10_code 0 = .ok (.aload_n 0, 1) := by decide +kernel
theorem d_D_byteOf_1 : decode prog_1_method_10_code 1 = .ok (.getfield 10, 3) := by decide +kernel
theorem d_D_byteOf_4 : decode prog_1_method_10_code 4 = .ok (.iload_n 1, 1) := by decide +kernel
theorem d_D_byteOf_5 : decode prog_1_method_10_code 5 = .ok (.invokevirtual 80, 3) := by decide +kernel
theorem d_D_byteOf_8 : decode prog_1_method_10_code 8 = .ok (.getfield 95, 3) := by decide +kernel
theorem d_D_byteOf_11 : decode prog_1_method_10_code 11 = .ok (.astore_n 3, 1) := by decide +kernel
theorem d_D_byteOf_12 : decode prog_1_method_10_code 12 = .ok (.iload_n 2, 1) := by decide +kernel
theorem d_D_byteOf_13 : decode prog_1_method_10_code 13 = .ok (.ifCond .lt 15, 3) := by decide +kernel
theorem d_D_byteOf_16 : decode prog_1_method_10_code 16 = .ok (.iload_n 2, 1) := by decide +kernel
theorem d_D_byteOf_17 : decode prog_1_method_10_code 17 = .ok (.aload_n 3, 1) := by decide +kernel
theorem d_D_byteOf_18 : decode prog_1_method_10_code 18 = .ok (.arraylength, 1) := by decide +kernel
theorem d_D_byteOf_19 : decode prog_1_method_10_code 19 = .ok (.if_icmp .ge 9, 3) := by decide +kernel
theorem d_D_byteOf_22 : decode prog_1_method_10_code 22 = .ok (.aload_n 3, 1) := by decide +kernel
theorem d_D_byteOf_23 : decode prog_1_method_10_code 23 = .ok (.iload_n 2, 1) := by decide +kernel
theorem d_D_byteOf_24 : decode prog_1_method_10_code 24 = .ok (.baload, 1) := by decide +kernel
theorem d_D_byteOf_25 : decode prog_1_method_10_code 25 = .ok (.goto 4, 3) := by decide +kernel
theorem d_D_byteOf_28 : decode prog_1_method_10_code 28 = .ok (.iconst (-1), 1) := by decide +kernel
theorem d_D_byteOf_29 : decode prog_1_method_10_code 29 = .ok (.ireturn, 1) := by decide +kernel
def m_D_byteOf_29 (G : Nat → Nat) (s0 : Int32) (h : hp_H) : Option (Int32 × hp_H) := some (s0, h)
set_option maxRecDepth 100000 in
set_option maxHeartbeats 4000000 in
theorem j_D_byteOf_29 {Z : hp_Z} (s0 : Int32) (h : hp_H) : hp_J Y_D_byteOf Z hp_rI h 29 [] [.int s0] (m_D_byteOf_29 (hp_G Z)  s0 h) := by
  unfold m_D_byteOf_29
  exact hp_iret d_D_byteOf_29 rfl
def m_D_byteOf_28 (G : Nat → Nat) (h : hp_H) : Option (Int32 × hp_H) := m_D_byteOf_29 G (-1 : Int32) h
set_option maxRecDepth 100000 in
set_option maxHeartbeats 4000000 in
theorem j_D_byteOf_28 {Z : hp_Z} (h : hp_H) : hp_J Y_D_byteOf Z hp_rI h 28 [] [] (m_D_byteOf_28 (hp_G Z)   h) := by
  unfold m_D_byteOf_28
  refine hp_iconst (v := -1) d_D_byteOf_28 (by decide) ?_
  exact j_D_byteOf_29  _ _
def m_D_byteOf (G : Nat → Nat) (a0 : Nat) (a1 : Int32) (a2 : Int32) (h : hp_H) : Option (Int32 × hp_H) := (hp_gR h a0 0 0).bind fun x1 => (hp_vck h x1 1 (m_S_at G x1 a1 h)).bind fun q2 => (hp_gR q2.2 q2.1 3 4).bind fun x3 => hp_nm x3 fun x4 => if a2 < 0 then (m_D_byteOf_28 G q2.2) else ((hp_len q2.2 x4).bind fun x5 => if x5 ≤ a2 then (m_D_byteOf_28 G q2.2) else ((hp_aI q2.2 .byte x4 a2).bind fun x6 => m_D_byteOf_29 G x6 q2.2))
set_option maxRecDepth 100000 in
set_option maxHeartbeats 4000000 in
theorem j_D_byteOf_0 {Z : hp_Z} (a0 : Nat) (a1 : Int32) (a2 : Int32) (h : hp_H) : hp_J Y_D_byteOf Z hp_rI h 0 [(0, .ref a0), (1, .int a1), (2, .int a2)] [] (m_D_byteOf (hp_G Z)  a0 a1 a2 h) := by
  unfold m_D_byteOf
  refine hp_aload_n (x0 := 0) d_D_byteOf_0 rfl rfl ?_
  refine hp_getR fl_D_10 d_D_byteOf_1 fun x1 => ?_
  refine hp_iload_n (x0 := 1) d_D_byteOf_4 rfl rfl ?_
  refine hp_callR (hp_crV (ci := 1) (t_S_at _ _ _ _) cw_D_80 rfl ⟨w_426, w_427⟩ (by decide) rfl rfl (Nat.le_of_ble_eq_true rfl) d_D_byteOf_5) fun q2 => ?_
  refine hp_getR fl_D_95 d_D_byteOf_8 fun x3 => ?_
  refine hp_astore_n (fun x4 => [(3, .ref x4), (0, .ref a0), (1, .int a1), (2, .int a2)]) d_D_byteOf_11 rfl (by decide) (fun _ => rfl) fun x4 => ?_
  refine hp_iload_n (x0 := 3) d_D_byteOf_12 rfl rfl ?_
  refine hp_if_lt (tgt := 28) d_D_byteOf_13 (by decide) ?_ ?_
  · refine hp_sub [] rfl ?_
    exact j_D_byteOf_28   _
  · refine hp_iload_n (x0 := 3) d_D_byteOf_16 rfl rfl ?_
    refine hp_aload_n (x0 := 0) d_D_byteOf_17 rfl rfl ?_
    refine hp_alen d_D_byteOf_18 fun x5 => ?_
    refine hp_icmp_ge (tgt := 28) d_D_byteOf_19 (by decide) ?_ ?_
    · refine hp_sub [] rfl ?_
      exact j_D_byteOf_28   _
    · refine hp_aload_n (x0 := 0) d_D_byteOf_22 rfl rfl ?_
      refine hp_iload_n (x0 := 3) d_D_byteOf_23 rfl rfl ?_
      refine hp_bald d_D_byteOf_24 fun x6 => ?_
      refine hp_goto (tgt := 29) d_D_byteOf_25 (by decide) ?_
      refine hp_sub [] rfl ?_
      exact j_D_byteOf_29  _ _
theorem t_D_byteOf (l : Launch) (E : hp_E) (a0 : Nat) (a1 : Int32) (a2 : Int32) : hp_M l E y_D_byteOf Y_D_byteOf hp_rI [.ref a0, .int a1, .int a2] (m_D_byteOf E.2.2.1 a0 a1 a2) := hp_M.of (plainFor_of_name (by decide)) ⟨rfl, rfl⟩ (Nat.le_of_ble_eq_true rfl) (fun Z h hE => by subst hE; exact j_D_byteOf_0 _ _ _ h)
