-- M_decimal
theorem d_M_decimal_0 : decode prog_9_method_26_code 0 = .ok (.lload_n 1, 1) := by decide +kernel
theorem d_M_decimal_1 : decode prog_9_method_26_code 1 = .ok (.invokestatic 149, 3) := by decide +kernel
theorem d_M_decimal_4 : decode prog_9_method_26_code 4 = .ok (.ifCond .ne 13, 3) := by decide +kernel
theorem d_M_decimal_7 : decode prog_9_method_26_code 7 = .ok (.iload_n 3, 1) := by decide +kernel
theorem d_M_decimal_8 : decode prog_9_method_26_code 8 = .ok (.ifCond .lt 9, 3) := by decide +kernel
theorem d_M_decimal_11 : decode prog_9_method_26_code 11 = .ok (.iload_n 3, 1) := by decide +kernel
theorem d_M_decimal_12 : decode prog_9_method_26_code 12 = .ok (.bipush 9, 2) := by decide +kernel
theorem d_M_decimal_14 : decode prog_9_method_26_code 14 = .ok (.if_icmp .le 7, 3) := by decide +kernel
theorem d_M_decimal_17 : decode prog_9_method_26_code 17 = .ok (.iconst (-1), 1) := by decide +kernel
theorem d_M_decimal_18 : decode prog_9_method_26_code 18 = .ok (.goto 10, 3) := by decide +kernel
theorem d_M_decimal_21 : decode prog_9_method_26_code 21 = .ok (.aload_n 0, 1) := by decide +kernel
theorem d_M_decimal_22 : decode prog_9_method_26_code 22 = .ok (.lload_n 1, 1) := by decide +kernel
theorem d_M_decimal_23 : decode prog_9_method_26_code 23 = .ok (.iload_n 3, 1) := by decide +kernel
theorem d_M_decimal_24 : decode prog_9_method_26_code 24 = .ok (.iconst 0, 1) := by decide +kernel
theorem d_M_decimal_25 : decode prog_9_method_26_code 25 = .ok (.invokevirtual 153, 3) := by decide +kernel
theorem d_M_decimal_28 : decode prog_9_method_26_code 28 = .ok (.ireturn, 1) := by decide +kernel
def m_M_decimal_28 (G : Nat → Nat) (s0 : Int32) (h : hp_H) : Option (Int32 × hp_H) := some (s0, h)
set_option maxRecDepth 100000 in
set_option maxHeartbeats 4000000 in
theorem j_M_decimal_28 {Z : hp_Z} (s0 : Int32) (h : hp_H) : hp_J Y_M_decimal Z hp_rI h 28 [] [.int s0] (m_M_decimal_28 (hp_G Z)  s0 h) := by
  unfold m_M_decimal_28
  exact hp_iret d_M_decimal_28 rfl
def m_M_decimal_17 (G : Nat → Nat) (h : hp_H) : Option (Int32 × hp_H) := m_M_decimal_28 G (-1 : Int32) h
set_option maxRecDepth 100000 in
set_option maxHeartbeats 4000000 in
theorem j_M_decimal_17 {Z : hp_Z} (h : hp_H) : hp_J Y_M_decimal Z hp_rI h 17 [] [] (m_M_decimal_17 (hp_G Z)   h) := by
  unfold m_M_decimal_17
  refine hp_iconst (v := -1) d_M_decimal_17 (by decide) ?_
  refine hp_goto (tgt := 28) d_M_decimal_18 (by decide) ?_
  exact j_M_decimal_28  _ _
def m_M_decimal (G : Nat → Nat) (a0 : Nat) (a1 : Int64) (a3 : Int32) (h : hp_H) : Option (Int32 × hp_H) := (m_M_isFar G a1 h).bind fun q1 => if q1.1 = 0 then (if a3 < 0 then (m_M_decimal_17 G q1.2) else (if a3 ≤ (9 : Int32) then ((hp_vck q1.2 a0 8 (m_M_numbered G a0 a1 a3 (0 : Int32) q1.2)).bind fun q2 => m_M_decimal_28 G q2.1 q2.2) else (m_M_decimal_17 G q1.2))) else (m_M_decimal_17 G q1.2)
set_option maxRecDepth 100000 in
set_option maxHeartbeats 4000000 in
theorem j_M_decimal_0 {Z : hp_Z} (a0 : Nat) (a1 : Int64) (a3 : Int32) (h : hp_H) : hp_J Y_M_decimal Z hp_rI h 0 [(0, .ref a0), (1, .long a1), (3, .int a3)] [] (m_M_decimal (hp_G Z)  a0 a1 a3 h) := by
  unfold m_M_decimal
  refine hp_lload_n (x0 := 1) d_M_decimal_0 rfl rfl ?_
  refine hp_callI (hp_crS (t_M_isFar _ _ _) cw_M_149 w_967 (by decide) rfl rfl (Nat.le_of_ble_eq_true rfl) d_M_decimal_1) fun q1 => ?_
  refine hp_if_ne (tgt := 17) d_M_decimal_4 (by decide) ?_ ?_
  · refine hp_iload_n (x0 := 2) d_M_decimal_7 rfl rfl ?_
    refine hp_if_lt (tgt := 17) d_M_decimal_8 (by decide) ?_ ?_
    · refine hp_sub [] rfl ?_
      exact j_M_decimal_17   _
    · refine hp_iload_n (x0 := 2) d_M_decimal_11 rfl rfl ?_
      refine hp_bipush (v := 9) d_M_decimal_12 (by decide) ?_
      refine hp_icmp_le (tgt := 21) d_M_decimal_14 (by decide) ?_ ?_
      · refine hp_aload_n (x0 := 0) d_M_decimal_21 rfl rfl ?_
        refine hp_lload_n (x0 := 1) d_M_decimal_22 rfl rfl ?_
        refine hp_iload_n (x0 := 2) d_M_decimal_23 rfl rfl ?_
        refine hp_iconst (v := 0) d_M_decimal_24 (by decide) ?_
        refine hp_callI (hp_crV (ci := 8) (t_M_numbered _ _ _ _ _ _) cw_M_153 rfl ⟨w_973, ws_38⟩ (by decide) rfl rfl (Nat.le_of_ble_eq_true rfl) d_M_decimal_25) fun q2 => ?_
        refine hp_sub [] rfl ?_
        exact j_M_decimal_28  _ _
      · refine hp_sub [] rfl ?_
        exact j_M_decimal_17   _
  · refine hp_sub [] rfl ?_
    exact j_M_decimal_17   _
theorem t_M_decimal (l : Launch) (E : hp_E) (a0 : Nat) (a1 : Int64) (a3 : Int32) : hp_M l E y_M_decimal Y_M_decimal hp_rI [.ref a0, .long a1, .int a3] (m_M_decimal E.2.2.1 a0 a1 a3) := hp_M.of (plainFor_of_name (by decide)) ⟨rfl, rfl⟩ (Nat.le_of_ble_eq_true rfl) (fun Z h hE => by subst hE; exact j_M_decimal_0 _ _ _ h)
-- M_truth
theorem d_M_truth_0 : decode prog_9_method_27_code 0 = .ok (.aload_n 0, 1) := by decide +kernel
theorem d_M_truth_1 : decode prog_9_method_27_code 1 = .ok (.bipush 8, 2) := by decide +kernel
theorem d_M_truth_3 : decode prog_9_method_27_code 3 = .ok (.iload_n 1, 1) := by decide +kernel
theorem d_M_truth_4 : decode prog_9_method_27_code 4 = .ok (.ifCond .eq 7, 3) := by decide +kernel
theorem d_M_truth_7 : decode prog_9_method_27_code 7 = .ok (.iconst 1, 1) := by decide +kernel
theorem d_M_truth_8 : decode prog_9_method_27_code 8 = .ok (.goto 4, 3) := by decide +kernel
theorem d_M_truth_11 : decode prog_9_method_27_code 11 = .ok (.iconst 0, 1) := by decide +kernel
theorem d_M_truth_12 : decode prog_9_method_27_code 12 = .ok (.invokevirtual 103, 3) := by decide +kernel
theorem d_M_truth_15 : decode prog_9_method_27_code 15 = .ok (.aload_n 0, 1) := by decide +kernel
theorem d_M_truth_16 : decode prog_9_method_27_code 16 = .ok (.invokevirtual 111, 3) := by decide +kernel
theorem d_M_truth_19 : decode prog_9_method_27_code 19 = .ok (.ireturn, 1) := by decide +kernel
def m_M_truth_12 (G : Nat → Nat) (a0 : Nat) (s0 : Int32) (s1 : Int32) (s2 : Nat) (h : hp_H) : Option (Int32 × hp_H) := (hp_vck h s2 8 (m_M_start G s2 s1 s0 h)).bind fun q1 => (hp_vck q1.2 a0 8 (m_M_keep G a0 q1.2)).bind fun q2 => some (q2.1, q2.2)
set_option maxRecDepth 100000 in
set_option maxHeartbeats 4000000 in
theorem j_M_truth_12 {Z : hp_Z} (a0 : Nat) (s0 : Int32) (s1 : Int32) (s2 : Nat) (h : hp_H) : hp_J Y_M_truth Z hp_rI h 12 [(0, .ref a0)] [.int s0, .int s1, .ref s2] (m_M_truth_12 (hp_G Z)  a0 s0 s1 s2 h) := by
  unfold m_M_truth_12
  refine hp_callU (hp_crV (ci := 8) (t_M_start _ _ _ _ _) cw_M_103 rfl ⟨w_985, ws_40⟩ (by decide) rfl rfl (Nat.le_of_ble_eq_true rfl) d_M_truth_12) fun q1 => ?_
  refine hp_aload_n (x0 := 0) d_M_truth_15 rfl rfl ?_
  refine hp_callI (hp_crV (ci := 8) (t_M_keep _ _ _) cw_M_111 rfl ⟨w_992, ws_41⟩ (by decide) rfl rfl (Nat.le_of_ble_eq_true rfl) d_M_truth_16) fun q2 => ?_
  exact hp_iret d_M_truth_19 rfl
def m_M_truth (G : Nat → Nat) (a0 : Nat) (a1 : Int32) (h : hp_H) : Option (Int32 × hp_H) := if a1 = 0 then (m_M_truth_12 G a0 (0 : Int32) (8 : Int32) a0 h) else (m_M_truth_12 G a0 (1 : Int32) (8 : Int32) a0 h)
set_option maxRecDepth 100000 in
set_option maxHeartbeats 4000000 in
theorem j_M_truth_0 {Z : hp_Z} (a0 : Nat) (a1 : Int32) (h : hp_H) : hp_J Y_M_truth Z hp_rI h 0 [(0, .ref a0), (1, .int a1)] [] (m_M_truth (hp_G Z)  a0 a1 h) := by
  unfold m_M_truth
  refine hp_aload_n (x0 := 0) d_M_truth_0 rfl rfl ?_
  refine hp_bipush (v := 8) d_M_truth_1 (by decide) ?_
  refine hp_iload_n (x0 := 1) d_M_truth_3 rfl rfl ?_
  refine hp_if_eq (tgt := 11) d_M_truth_4 (by decide) ?_ ?_
  · refine hp_iconst (v := 0) d_M_truth_11 (by decide) ?_
    refine hp_sub [0] rfl ?_
    exact j_M_truth_12  _ _ _ _ _
  · refine hp_iconst (v := 1) d_M_truth_7 (by decide) ?_
    refine hp_goto (tgt := 12) d_M_truth_8 (by decide) ?_
    refine hp_sub [0] rfl ?_
    exact j_M_truth_12  _ _ _ _ _
theorem t_M_truth (l : Launch) (E : hp_E) (a0 : Nat) (a1 : Int32) : hp_M l E y_M_truth Y_M_truth hp_rI [.ref a0, .int a1] (m_M_truth E.2.2.1 a0 a1) := hp_M.of (plainFor_of_name (by decide)) ⟨rfl, rfl⟩ (Nat.le_of_ble_eq_true rfl) (fun Z h hE => by subst hE; exact j_M_truth_0 _ _ h)
-- M_named
theorem d_M_named_0 : decode prog_9_method_28_code 0 = .ok (.iload_n 1, 1) := by decide +kernel
theorem d_M_named_1 : decode prog_9_method_28_code 1 = .ok (.iconst 1, 1) := by decide +kernel
theorem d_M_named_2 : decode prog_9_method_28_code 2 = .ok (.if_icmp .eq 8, 3) := by decide +kernel
theorem d_M_named_5 : decode prog_9_method_28_code 5 = .ok (.iload_n 1, 1) := by decide +kernel
theorem d_M_named_6 : decode prog_9_method_28_code 6 = .ok (.iconst 2, 1) := by decide +kernel
theorem d_M_named_7 : decode prog_9_method_28_code 7 = .ok (.if_icmp .ne 14, 3) := by decide +kernel
theorem d_M_named_10 : decode prog_9_method_28_code 10 = .ok (.iload_n 2, 1) := by decide +kernel
theorem d_M_named_11 : decode prog_9_method_28_code 11 = .ok (.ifCond .lt 10, 3) := by decide +kernel
theorem d_M_named_14 : decode prog_9_method_28_code 14 = .ok (.iload_n 2, 1) := by decide +kernel
theorem d_M_named_15 : decode prog_9_method_28_code 15 = .ok (.sipush 9999, 3) := by decide +kernel
theorem d_M_named_18 : decode prog_9_method_28_code 18 = .ok (.if_icmp .le 5, 3) := by decide +kernel
theorem d_M_named_21 : decode prog_9_method_28_code 21 = .ok (.iconst (-1), 1) := by decide +kernel
theorem d_M_named_22 : decode prog_9_method_28_code 22 = .ok (.ireturn, 1) := by decide +kernel
theorem d_M_named_23 : decode prog_9_method_28_code 23 = .ok (.aload_n 0, 1) := by decide +kernel
theorem d_M_named_24 : decode prog_9_method_28_code 24 = .ok (.iload_n 1, 1) := by decide +kernel
theorem d_M_named_25 : decode prog_9_method_28_code 25 = .ok (.iload_n 2, 1) := by decide +kernel
theorem d_M_named_26 : decode prog_9_method_28_code 26 = .ok (.invokevirtual 103, 3) := by decide +kernel
theorem d_M_named_29 : decode prog_9_method_28_code 29 = .ok (.aload_n 0, 1) := by decide +kernel
theorem d_M_named_30 : decode prog_9_method_28_code 30 = .ok (.invokevirtual 111, 3) := by decide +kernel
theorem d_M_named_33 : decode prog_9_method_28_code 33 = .ok (.ireturn, 1) := by decide +kernel
def m_M_named_21 (G : Nat → Nat) (h : hp_H) : Option (Int32 × hp_H) := some ((-1 : Int32), h)
set_option maxRecDepth 100000 in
set_option maxHeartbeats 4000000 in
theorem j_M_named_21 {Z : hp_Z} (h : hp_H) : hp_J Y_M_named Z hp_rI h 21 [] [] (m_M_named_21 (hp_G Z)   h) := by
  unfold m_M_named_21
  refine hp_iconst (v := -1) d_M_named_21 (by decide) ?_
  exact hp_iret d_M_named_22 rfl
def m_M_named_10 (G : Nat → Nat) (a0 : Nat) (a1 : Int32) (a2 : Int32) (h : hp_H) : Option (Int32 × hp_H) := if a2 < 0 then (m_M_named_21 G h) else (if a2 ≤ (9999 : Int32) then ((hp_vck h a0 8 (m_M_start G a0 a1 a2 h)).bind fun q1 => (hp_vck q1.2 a0 8 (m_M_keep G a0 q1.2)).bind fun q2 => some (q2.1, q2.2)) else (m_M_named_21 G h))
set_option maxRecDepth 100000 in
set_option maxHeartbeats 4000000 in
theorem j_M_named_10 {Z : hp_Z} (a0 : Nat) (a1 : Int32) (a2 : Int32) (h : hp_H) : hp_J Y_M_named Z hp_rI h 10 [(0, .ref a0), (1, .int a1), (2, .int a2)] [] (m_M_named_10 (hp_G Z)  a0 a1 a2 h) := by
  unfold m_M_named_10
  refine hp_iload_n (x0 := 2) d_M_named_10 rfl rfl ?_
  refine hp_if_lt (tgt := 21) d_M_named_11 (by decide) ?_ ?_
  · refine hp_sub [] rfl ?_
    exact j_M_named_21   _
  · refine hp_iload_n (x0 := 2) d_M_named_14 rfl rfl ?_
    refine hp_sipush (v := 9999) d_M_named_15 (by decide) ?_
    refine hp_icmp_le (tgt := 23) d_M_named_18 (by decide) ?_ ?_
    · refine hp_aload_n (x0 := 0) d_M_named_23 rfl rfl ?_
      refine hp_iload_n (x0 := 1) d_M_named_24 rfl rfl ?_
      refine hp_iload_n (x0 := 2) d_M_named_25 rfl rfl ?_
      refine hp_callU (hp_crV (ci := 8) (t_M_start _ _ _ _ _) cw_M_103 rfl ⟨w_985, ws_40⟩ (by decide) rfl rfl (Nat.le_of_ble_eq_true rfl) d_M_named_26) fun q1 => ?_
      refine hp_aload_n (x0 := 0) d_M_named_29 rfl rfl ?_
      refine hp_callI (hp_crV (ci := 8) (t_M_keep _ _ _) cw_M_111 rfl ⟨w_992, ws_41⟩ (by decide) rfl rfl (Nat.le_of_ble_eq_true rfl) d_M_named_30) fun q2 => ?_
      exact hp_iret d_M_named_33 rfl
    · refine hp_sub [] rfl ?_
      exact j_M_named_21   _
def m_M_named (G : Nat → Nat) (a0 : Nat) (a1 : Int32) (a2 : Int32) (h : hp_H) : Option (Int32 × hp_H) := if a1 = (1 : Int32) then (m_M_named_10 G a0 a1 a2 h) else (if a1 = (2 : Int32) then (m_M_named_10 G a0 a1 a2 h) else (m_M_named_21 G h))
set_option maxRecDepth 100000 in
set_option maxHeartbeats 4000000 in
theorem j_M_named_0 {Z : hp_Z} (a0 : Nat) (a1 : Int32) (a2 : Int32) (h : hp_H) : hp_J Y_M_named Z hp_rI h 0 [(0, .ref a0), (1, .int a1), (2, .int a2)] [] (m_M_named (hp_G Z)  a0 a1 a2 h) := by
  unfold m_M_named
  refine hp_iload_n (x0 := 1) d_M_named_0 rfl rfl ?_
  refine hp_iconst (v := 1) d_M_named_1 (by decide) ?_
  refine hp_icmp_eq (tgt := 10) d_M_named_2 (by decide) ?_ ?_
  · exact j_M_named_10  _ _ _ _
  · refine hp_iload_n (x0 := 1) d_M_named_5 rfl rfl ?_
    refine hp_iconst (v := 2) d_M_named_6 (by decide) ?_
    refine hp_icmp_ne (tgt := 21) d_M_named_7 (by decide) ?_ ?_
    · exact j_M_named_10  _ _ _ _
    · refine hp_sub [] rfl ?_
      exact j_M_named_21   _
theorem t_M_named (l : Launch) (E : hp_E) (a0 : Nat) (a1 : Int32) (a2 : Int32) : hp_M l E y_M_named Y_M_named hp_rI [.ref a0, .int a1, .int a2] (m_M_named E.2.2.1 a0 a1 a2) := hp_M.of (plainFor_of_name (by decide)) ⟨rfl, rfl⟩ (Nat.le_of_ble_eq_true rfl) (fun Z h hE => by subst hE; exact j_M_named_0 _ _ _ h)
-- M_letter
theorem d_M_letter_0 : decode prog_9_method_5_code 0 = .ok (.aload_n 0, 1) := by decide +kernel
theorem d_M_letter_1 : decode prog_9_method_5_code 1 = .ok (.getfield 85, 3) := by decide +kernel
theorem d_M_letter_4 : decode prog_9_method_5_code 4 = .ok (.bipush 64, 2) := by decide +kernel
theorem d_M_letter_6 : decode prog_9_method_5_code 6 = .ok (.if_icmp .ge 13, 3) := by decide +kernel
theorem d_M_letter_9 : decode prog_9_method_5_code 9 = .ok (.aload_n 0, 1) := by decide +kernel
theorem d_M_letter_10 : decode prog_9_method_5_code 10 = .ok (.getfield 39, 3) := by decide +kernel
theorem d_M_letter_13 : decode prog_9_method_5_code 13 = .ok (.aload_n 0, 1) := by decide +kernel
theorem d_M_letter_14 : decode prog_9_method_5_code 14 = .ok (.getfield 85, 3) := by decide +kernel
theorem d_M_letter_17 : decode prog_9_method_5_code 17 = .ok (.iload_n 1, 1) := by decide +kernel
theorem d_M_letter_18 : decode prog_9_method_5_code 18 = .ok (.iastore, 1) := by decide +kernel
theorem d_M_letter_19 : decode prog_9_method_5_code 19 = .ok (.aload_n 0, 1) := by decide +kernel
theorem d_M_letter_20 : decode prog_9_method_5_code 20 = .ok (.dup, 1) := by decide +kernel
theorem d_M_letter_21 : decode prog_9_method_5_code 21 = .ok (.getfield 85, 3) := by decide +kernel
theorem d_M_letter_24 : decode prog_9_method_5_code 24 = .ok (.iconst 1, 1) := by decide +kernel
theorem d_M_letter_25 : decode prog_9_method_5_code 25 = .ok (.iadd, 1) := by decide +kernel
theorem d_M_letter_26 : decode prog_9_method_5_code 26 = .ok (.putfield 85, 3) := by decide +kernel
theorem d_M_letter_29 : decode prog_9_method_5_code 29 = .ok (.return_, 1) := by decide +kernel
def m_M_letter_19 (G : Nat → Nat) (a0 : Nat) (h : hp_H) : Option (Unit × hp_H) := (hp_gI h a0 8 16).bind fun x1 => (hp_p h a0 8 16 (.int (x1 + (1 : Int32)))).bind fun h2 => some ((), h2)
set_option maxRecDepth 100000 in
set_option maxHeartbeats 4000000 in
theorem j_M_letter_19 {Z : hp_Z} (a0 : Nat) (h : hp_H) : hp_J Y_M_letter Z hp_rV h 19 [(0, .ref a0)] [] (m_M_letter_19 (hp_G Z)  a0 h) := by
  unfold m_M_letter_19
  refine hp_aload_n (x0 := 0) d_M_letter_19 rfl rfl ?_
  refine hp_dup d_M_letter_20 rfl ?_
  refine hp_getI fl_M_85 d_M_letter_21 fun x1 => ?_
  refine hp_iconst (v := 1) d_M_letter_24 (by decide) ?_
  refine hp_iadd d_M_letter_25 ?_
  refine hp_put fl_M_85 (fun q => by cases q) rfl rfl d_M_letter_26 fun h2 => ?_
  exact hp_vret d_M_letter_29 rfl
def m_M_letter (G : Nat → Nat) (a0 : Nat) (a1 : Int32) (h : hp_H) : Option (Unit × hp_H) := (hp_gI h a0 8 16).bind fun x1 => if (64 : Int32) ≤ x1 then (m_M_letter_19 G a0 h) else ((hp_gR h a0 8 15).bind fun x2 => (hp_gI h a0 8 16).bind fun x3 => (hp_sI h .int x2 x3 a1).bind fun h4 => m_M_letter_19 G a0 h4)
set_option maxRecDepth 100000 in
set_option maxHeartbeats 4000000 in
theorem j_M_letter_0 {Z : hp_Z} (a0 : Nat) (a1 : Int32) (h : hp_H) : hp_J Y_M_letter Z hp_rV h 0 [(0, .ref a0), (1, .int a1)] [] (m_M_letter (hp_G Z)  a0 a1 h) := by
  unfold m_M_letter
  refine hp_aload_n (x0 := 0) d_M_letter_0 rfl rfl ?_
  refine hp_getI fl_M_85 d_M_letter_1 fun x1 => ?_
  refine hp_bipush (v := 64) d_M_letter_4 (by decide) ?_
  refine hp_icmp_ge (tgt := 19) d_M_letter_6 (by decide) ?_ ?_
  · refine hp_sub [0] rfl ?_
    exact j_M_letter_19  _ _
  · refine hp_aload_n (x0 := 0) d_M_letter_9 rfl rfl ?_
    refine hp_getR fl_M_39 d_M_letter_10 fun x2 => ?_
    refine hp_aload_n (x0 := 0) d_M_letter_13 rfl rfl ?_
    refine hp_getI fl_M_85 d_M_letter_14 fun x3 => ?_
    refine hp_iload_n (x0 := 1) d_M_letter_17 rfl rfl ?_
    refine hp_iast d_M_letter_18 fun h4 => ?_
    refine hp_sub [0] rfl ?_
    exact j_M_letter_19  _ _
theorem t_M_letter (l : Launch) (E : hp_E) (a0 : Nat) (a1 : Int32) : hp_M l E y_M_letter Y_M_letter hp_rV [.ref a0, .int a1] (m_M_letter E.2.2.1 a0 a1) := hp_M.of (plainFor_of_name (by decide)) ⟨rfl, rfl⟩ (Nat.le_of_ble_eq_true rfl) (fun Z h hE => by subst hE; exact j_M_letter_0 _ _ h)
-- M_text
theorem d_M_text_0 : decode prog_9_method_29_code 0 = .ok (.iload_n 1, 1) := by decide +kernel
theorem d_M_text_1 : decode prog_9_method_29_code 1 = .ok (.iconst 5, 1) := by decide +kernel
theorem d_M_text_2 : decode prog_9_method_29_code 2 = .ok (.if_icmp .ne 15, 3) := by decide +kernel
theorem d_M_text_5 : decode prog_9_method_29_code 5 = .ok (.iload_n 2, 1) := by decide +kernel
theorem d_M_text_6 : decode prog_9_method_29_code 6 = .ok (.ifCond .ne 7, 3) := by decide +kernel
theorem d_M_text_9 : decode prog_9_method_29_code 9 = .ok (.iconst 1, 1) := by decide +kernel
theorem d_M_text_10 : decode prog_9_method_29_code 10 = .ok (.goto 34, 3) := by decide +kernel
theorem d_M_text_13 : decode prog_9_method_29_code 13 = .ok (.iconst 0, 1) := by decide +kernel
theorem d_M_text_14 : decode prog_9_method_29_code 14 = .ok (.goto 30, 3) := by decide +kernel
theorem d_M_text_17 : decode prog_9_method_29_code 17 = .ok (.iload_n 1, 1) := by decide +kernel
theorem d_M_text_18 : decode prog_9_method_29_code 18 = .ok (.bipush 6, 2) := by decide +kernel
theorem d_M_text_20 : decode prog_9_method_29_code 20 = .ok (.if_icmp .eq 9, 3) := by decide +kernel
theorem d_M_text_23 : decode prog_9_method_29_code 23 = .ok (.iload_n 1, 1) := by decide +kernel
theorem d_M_text_24 : decode prog_9_method_29_code 24 = .ok (.bipush 7, 2) := by decide +kernel
theorem d_M_text_26 : decode prog_9_method_29_code 26 = .ok (.if_icmp .ne 17, 3) := by decide +kernel
theorem d_M_text_29 : decode prog_9_method_29_code 29 = .ok (.iload_n 2, 1) := by decide +kernel
theorem d_M_text_30 : decode prog_9_method_29_code 30 = .ok (.ifCond .lt 13, 3) := by decide +kernel
theorem d_M_text_33 : decode prog_9_method_29_code 33 = .ok (.iload_n 2, 1) := by decide +kernel
theorem d_M_text_34 : decode prog_9_method_29_code 34 = .ok (.bipush 100, 2) := by decide +kernel
theorem d_M_text_36 : decode prog_9_method_29_code 36 = .ok (.if_icmp .ge 7, 3) := by decide +kernel
theorem d_M_text_39 : decode prog_9_method_29_code 39 = .ok (.iconst 1, 1) := by decide +kernel
theorem d_M_text_40 : decode prog_9_method_29_code 40 = .ok (.goto 4, 3) := by decide +kernel
theorem d_M_text_43 : decode prog_9_method_29_code 43 = .ok (.iconst 0, 1) := by decide +kernel
theorem d_M_text_44 : decode prog_9_method_29_code 44 = .ok (.istore_n 3, 1) := by decide +kernel
theorem d_M_text_45 : decode prog_9_method_29_code 45 = .ok (.aload_n 0, 1) := by decide +kernel
theorem d_M_text_46 : decode prog_9_method_29_code 46 = .ok (.iload_n 1, 1) := by decide +kernel
theorem d_M_text_47 : decode prog_9_method_29_code 47 = .ok (.iload_n 2, 1) := by decide +kernel
theorem d_M_text_48 : decode prog_9_method_29_code 48 = .ok (.invokevirtual 103, 3) := by decide +kernel
theorem d_M_text_51 : decode prog_9_method_29_code 51 = .ok (.iconst 0, 1) := by decide +kernel
theorem d_M_text_52 : decode prog_9_method_29_code 52 = .ok (.istore 4, 2) := by decide +kernel
theorem d_M_text_54 : decode prog_9_method_29_code 54 = .ok (.iload 4, 2) := by decide +kernel
theorem d_M_text_56 : decode prog_9_method_29_code 56 = .ok (.aload_n 0, 1) := by decide +kernel
theorem d_M_text_57 : decode prog_9_method_29_code 57 = .ok (.getfield 144, 3) := by decide +kernel
theorem d_M_text_60 : decode prog_9_method_29_code 60 = .ok (.if_icmp .ge 53, 3) := by decide +kernel
theorem d_M_text_63 : decode prog_9_method_29_code 63 = .ok (.iload_n 3, 1) := by decide +kernel
theorem d_M_text_64 : decode prog_9_method_29_code 64 = .ok (.ifCond .eq 30, 3) := by decide +kernel
theorem d_M_text_67 : decode prog_9_method_29_code 67 = .ok (.aload_n 0, 1) := by decide +kernel
theorem d_M_text_68 : decode prog_9_method_29_code 68 = .ok (.getfield 33, 3) := by decide +kernel
theorem d_M_text_71 : decode prog_9_method_29_code 71 = .ok (.iload 4, 2) := by decide +kernel
theorem d_M_text_73 : decode prog_9_method_29_code 73 = .ok (.iaload, 1) := by decide +kernel
theorem d_M_text_74 : decode prog_9_method_29_code 74 = .ok (.ifCond .le 20, 3) := by decide +kernel
theorem d_M_text_77 : decode prog_9_method_29_code 77 = .ok (.aload_n 0, 1) := by decide +kernel
theorem d_M_text_78 : decode prog_9_method_29_code 78 = .ok (.getfield 33, 3) := by decide +kernel
theorem d_M_text_81 : decode prog_9_method_29_code 81 = .ok (.iload 4, 2) := by decide +kernel
theorem d_M_text_83 : decode prog_9_method_29_code 83 = .ok (.iaload, 1) := by decide +kernel
theorem d_M_text_84 : decode prog_9_method_29_code 84 = .ok (.sipush 128, 3) := by decide +kernel
theorem d_M_text_87 : decode prog_9_method_29_code 87 = .ok (.if_icmp .ge 7, 3) := by decide +kernel
theorem d_M_text_90 : decode prog_9_method_29_code 90 = .ok (.iconst 1, 1) := by decide +kernel
theorem d_M_text_91 : decode prog_9_method_29_code 91 = .ok (.goto 4, 3) := by decide +kernel
theorem d_M_text_94 : decode prog_9_method_29_code 94 = .ok (.iconst 0, 1) := by decide +kernel
theorem d_M_text_95 : decode prog_9_method_29_code 95 = .ok (.istore_n 3, 1) := by decide +kernel
theorem d_M_text_96 : decode prog_9_method_29_code 96 = .ok (.aload_n 0, 1) := by decide +kernel
theorem d_M_text_97 : decode prog_9_method_29_code 97 = .ok (.aload_n 0, 1) := by decide +kernel
theorem d_M_text_98 : decode prog_9_method_29_code 98 = .ok (.getfield 33, 3) := by decide +kernel
theorem d_M_text_101 : decode prog_9_method_29_code 101 = .ok (.iload 4, 2) := by decide +kernel
theorem d_M_text_103 : decode prog_9_method_29_code 103 = .ok (.iaload, 1) := by decide +kernel
theorem d_M_text_104 : decode prog_9_method_29_code 104 = .ok (.invokevirtual 157, 3) := by decide +kernel
theorem d_M_text_107 : decode prog_9_method_29_code 107 = .ok (.iinc 4 1, 3) := by decide +kernel
theorem d_M_text_110 : decode prog_9_method_29_code 110 = .ok (.goto (-56), 3) := by decide +kernel
theorem d_M_text_113 : decode prog_9_method_29_code 113 = .ok (.aload_n 0, 1) := by decide +kernel
theorem d_M_text_114 : decode prog_9_method_29_code 114 = .ok (.iconst 0, 1) := by decide +kernel
theorem d_M_text_115 : decode prog_9_method_29_code 115 = .ok (.putfield 144, 3) := by decide +kernel
theorem d_M_text_118 : decode prog_9_method_29_code 118 = .ok (.iload_n 3, 1) := by decide +kernel
theorem d_M_text_119 : decode prog_9_method_29_code 119 = .ok (.ifCond .eq 10, 3) := by decide +kernel
theorem d_M_text_122 : decode prog_9_method_29_code 122 = .ok (.aload_n 0, 1) := by decide +kernel
theorem d_M_text_123 : decode prog_9_method_29_code 123 = .ok (.invokevirtual 111, 3) := by decide +kernel
theorem d_M_text_126 : decode prog_9_method_29_code 126 = .ok (.goto 4, 3) := by decide +kernel
theorem d_M_text_129 : decode prog_9_method_29_code 129 = .ok (.iconst (-1), 1) := by decide +kernel
theorem d_M_text_130 : decode prog_9_method_29_code 130 = .ok (.ireturn, 1) := by decide +kernel
def m_M_text_95 (G : Nat → Nat) (r54 : Nat → Int32 → Int32 → hp_H → Option (Int32 × hp_H)) (a0 : Nat) (a4 : Int32) (s0 : Int32) (h : hp_H) : Option (Int32 × hp_H) := hp_nm s0 fun x1 => (hp_gR h a0 8 8).bind fun x2 => (hp_aI h .int x2 a4).bind fun x3 => (hp_vck h a0 8 (m_M_letter G a0 x3 h)).bind fun q4 => hp_nm (a4 + 1) fun x5 => r54 a0 x1 x5 q4.2
set_option maxRecDepth 100000 in
set_option maxHeartbeats 4000000 in
theorem j_M_text_95 {Z : hp_Z} (r54 : Nat → Int32 → Int32 → hp_H → Option (Int32 × hp_H)) (hr54 : ∀ (a0 : Nat) (a3 : Int32) (a4 : Int32) (h : hp_H), hp_J Y_M_text Z hp_rI h 54 [(0, .ref a0), (3, .int a3), (4, .int a4)] [] (r54 a0 a3 a4  h)) (a0 : Nat) (a4 : Int32) (s0 : Int32) (h : hp_H) : hp_J Y_M_text Z hp_rI h 95 [(0, .ref a0), (4, .int a4)] [.int s0] (m_M_text_95 (hp_G Z) r54 a0 a4 s0 h) := by
  unfold m_M_text_95
  refine hp_istore_n (fun x1 => [(3, .int x1), (0, .ref a0), (4, .int a4)]) d_M_text_95 rfl (by decide) (fun _ => rfl) fun x1 => ?_
  refine hp_aload_n (x0 := 1) d_M_text_96 rfl rfl ?_
  refine hp_aload_n (x0 := 1) d_M_text_97 rfl rfl ?_
  refine hp_getR fl_M_33 d_M_text_98 fun x2 => ?_
  refine hp_iload (x0 := 2) d_M_text_101 rfl ?_
  refine hp_iald d_M_text_103 fun x3 => ?_
  refine hp_callU (hp_crV (ci := 8) (t_M_letter _ _ _ _) cw_M_157 rfl ⟨w_1016, ws_43⟩ (by decide) rfl rfl (Nat.le_of_ble_eq_true rfl) d_M_text_104) fun q4 => ?_
  refine hp_iinc (x0 := 2) (d := 1) (fun x5 => [(4, .int x5), (3, .int x1), (0, .ref a0)]) d_M_text_107 rfl (by decide) (by decide) (fun _ => rfl) fun x5 => ?_
  refine hp_goto (tgt := 54) d_M_text_110 (by decide) ?_
  refine hp_sub [2, 1, 0] rfl ?_
  exact hr54 _ _ _ _
def m_M_text_94 (G : Nat → Nat) (r54 : Nat → Int32 → Int32 → hp_H → Option (Int32 × hp_H)) (a0 : Nat) (a4 : Int32) (h : hp_H) : Option (Int32 × hp_H) := m_M_text_95 G r54 a0 a4 (0 : Int32) h
set_option maxRecDepth 100000 in
set_option maxHeartbeats 4000000 in
theorem j_M_text_94 {Z : hp_Z} (r54 : Nat → Int32 → Int32 → hp_H → Option (Int32 × hp_H)) (hr54 : ∀ (a0 : Nat) (a3 : Int32) (a4 : Int32) (h : hp_H), hp_J Y_M_text Z hp_rI h 54 [(0, .ref a0), (3, .int a3), (4, .int a4)] [] (r54 a0 a3 a4  h)) (a0 : Nat) (a4 : Int32) (h : hp_H) : hp_J Y_M_text Z hp_rI h 94 [(0, .ref a0), (4, .int a4)] [] (m_M_text_94 (hp_G Z) r54 a0 a4 h) := by
  unfold m_M_text_94
  refine hp_iconst (v := 0) d_M_text_94 (by decide) ?_
  exact j_M_text_95 _ hr54 _ _ _ _
def m_M_text_130 (G : Nat → Nat) (s0 : Int32) (h : hp_H) : Option (Int32 × hp_H) := some (s0, h)
set_option maxRecDepth 100000 in
set_option maxHeartbeats 4000000 in
theorem j_M_text_130 {Z : hp_Z} (s0 : Int32) (h : hp_H) : hp_J Y_M_text Z hp_rI h 130 [] [.int s0] (m_M_text_130 (hp_G Z)  s0 h) := by
  unfold m_M_text_130
  exact hp_iret d_M_text_130 rfl
def m_M_text_54 (G : Nat → Nat) : Nat → Nat → Int32 → Int32 → hp_H → Option (Int32 × hp_H)
  | 0, _, _, _, _ => none
  | n + 1, a0, a3, a4, h => (hp_gI h a0 8 9).bind fun x1 => if x1 ≤ a4 then ((hp_p h a0 8 9 (.int (0 : Int32))).bind fun h2 => if a3 = 0 then (m_M_text_130 G (-1 : Int32) h2) else ((hp_vck h2 a0 8 (m_M_keep G a0 h2)).bind fun q3 => m_M_text_130 G q3.1 q3.2)) else (if a3 = 0 then (m_M_text_94 G (m_M_text_54 G  n) a0 a4 h) else ((hp_gR h a0 8 8).bind fun x4 => (hp_aI h .int x4 a4).bind fun x5 => if x5 ≤ 0 then (m_M_text_94 G (m_M_text_54 G  n) a0 a4 h) else ((hp_gR h a0 8 8).bind fun x6 => (hp_aI h .int x6 a4).bind fun x7 => if (128 : Int32) ≤ x7 then (m_M_text_94 G (m_M_text_54 G  n) a0 a4 h) else (m_M_text_95 G (m_M_text_54 G  n) a0 a4 (1 : Int32) h))))
set_option maxRecDepth 100000 in
set_option maxHeartbeats 4000000 in
theorem j_M_text_54 {Z : hp_Z} : ∀ (n : Nat) (a0 : Nat) (a3 : Int32) (a4 : Int32) (h : hp_H), hp_J Y_M_text Z hp_rI h 54 [(0, .ref a0), (3, .int a3), (4, .int a4)] [] (m_M_text_54 (hp_G Z)  n a0 a3 a4 h) := by
  intro n
  induction n with
  | zero => intro a0 a3 a4 h; exact hp_fail
  | succ n ih =>
    intro a0 a3 a4 h
    rw [m_M_text_54]
    refine hp_iload (x0 := 2) d_M_text_54 rfl ?_
    refine hp_aload_n (x0 := 0) d_M_text_56 rfl rfl ?_
    refine hp_getI fl_M_144 d_M_text_57 fun x1 => ?_
    refine hp_icmp_ge (tgt := 113) d_M_text_60 (by decide) ?_ ?_
    · refine hp_aload_n (x0 := 0) d_M_text_113 rfl rfl ?_
      refine hp_iconst (v := 0) d_M_text_114 (by decide) ?_
      refine hp_put fl_M_144 (fun q => by cases q) rfl rfl d_M_text_115 fun h2 => ?_
      refine hp_iload_n (x0 := 1) d_M_text_118 rfl rfl ?_
      refine hp_if_eq (tgt := 129) d_M_text_119 (by decide) ?_ ?_
      · refine hp_iconst (v := -1) d_M_text_129 (by decide) ?_
        refine hp_sub [] rfl ?_
        exact j_M_text_130  _ _
      · refine hp_aload_n (x0 := 0) d_M_text_122 rfl rfl ?_
        refine hp_callI (hp_crV (ci := 8) (t_M_keep _ _ _) cw_M_111 rfl ⟨w_992, ws_41⟩ (by decide) rfl rfl (Nat.le_of_ble_eq_true rfl) d_M_text_123) fun q3 => ?_
        refine hp_goto (tgt := 130) d_M_text_126 (by decide) ?_
        refine hp_sub [] rfl ?_
        exact j_M_text_130  _ _
    · refine hp_iload_n (x0 := 1) d_M_text_63 rfl rfl ?_
      refine hp_if_eq (tgt := 94) d_M_text_64 (by decide) ?_ ?_
      · refine hp_sub [0, 2] rfl ?_
        exact j_M_text_94 _ ih _ _ _
      · refine hp_aload_n (x0 := 0) d_M_text_67 rfl rfl ?_
        refine hp_getR fl_M_33 d_M_text_68 fun x4 => ?_
        refine hp_iload (x0 := 2) d_M_text_71 rfl ?_
        refine hp_iald d_M_text_73 fun x5 => ?_
        refine hp_if_le (tgt := 94) d_M_text_74 (by decide) ?_ ?_
        · refine hp_sub [0, 2] rfl ?_
          exact j_M_text_94 _ ih _ _ _
        · refine hp_aload_n (x0 := 0) d_M_text_77 rfl rfl ?_
          refine hp_getR fl_M_33 d_M_text_78 fun x6 => ?_
          refine hp_iload (x0 := 2) d_M_text_81 rfl ?_
          refine hp_iald d_M_text_83 fun x7 => ?_
          refine hp_sipush (v := 128) d_M_text_84 (by decide) ?_
          refine hp_icmp_ge (tgt := 94) d_M_text_87 (by decide) ?_ ?_
          · refine hp_sub [0, 2] rfl ?_
            exact j_M_text_94 _ ih _ _ _
          · refine hp_iconst (v := 1) d_M_text_90 (by decide) ?_
            refine hp_goto (tgt := 95) d_M_text_91 (by decide) ?_
            refine hp_sub [0, 2] rfl ?_
            exact j_M_text_95 _ ih _ _ _ _
def m_M_text_44 (G : Nat → Nat) (a0 : Nat) (a1 : Int32) (a2 : Int32) (s0 : Int32) (h : hp_H) : Option (Int32 × hp_H) := hp_nm s0 fun x1 => (hp_vck h a0 8 (m_M_start G a0 a1 a2 h)).bind fun q2 => hp_nm (0 : Int32) fun x3 => m_M_text_54 G hp_fu a0 x1 x3 q2.2
set_option maxRecDepth 100000 in
set_option maxHeartbeats 4000000 in
theorem j_M_text_44 {Z : hp_Z} (a0 : Nat) (a1 : Int32) (a2 : Int32) (s0 : Int32) (h : hp_H) : hp_J Y_M_text Z hp_rI h 44 [(0, .ref a0), (1, .int a1), (2, .int a2)] [.int s0] (m_M_text_44 (hp_G Z)  a0 a1 a2 s0 h) := by
  unfold m_M_text_44
  refine hp_istore_n (fun x1 => [(3, .int x1), (0, .ref a0), (1, .int a1), (2, .int a2)]) d_M_text_44 rfl (by decide) (fun _ => rfl) fun x1 => ?_
  refine hp_aload_n (x0 := 1) d_M_text_45 rfl rfl ?_
  refine hp_iload_n (x0 := 2) d_M_text_46 rfl rfl ?_
  refine hp_iload_n (x0 := 3) d_M_text_47 rfl rfl ?_
  refine hp_callU (hp_crV (ci := 8) (t_M_start _ _ _ _ _) cw_M_103 rfl ⟨w_985, ws_40⟩ (by decide) rfl rfl (Nat.le_of_ble_eq_true rfl) d_M_text_48) fun q2 => ?_
  refine hp_iconst (v := 0) d_M_text_51 (by decide) ?_
  refine hp_istore (fun x3 => [(4, .int x3), (3, .int x1), (0, .ref a0), (1, .int a1), (2, .int a2)]) d_M_text_52 (by decide) (fun _ => rfl) fun x3 => ?_
  refine hp_sub [2, 1, 0] rfl ?_
  exact j_M_text_54  hp_fu _ _ _ _
def m_M_text_43 (G : Nat → Nat) (a0 : Nat) (a1 : Int32) (a2 : Int32) (h : hp_H) : Option (Int32 × hp_H) := m_M_text_44 G a0 a1 a2 (0 : Int32) h
set_option maxRecDepth 100000 in
set_option maxHeartbeats 4000000 in
theorem j_M_text_43 {Z : hp_Z} (a0 : Nat) (a1 : Int32) (a2 : Int32) (h : hp_H) : hp_J Y_M_text Z hp_rI h 43 [(0, .ref a0), (1, .int a1), (2, .int a2)] [] (m_M_text_43 (hp_G Z)  a0 a1 a2 h) := by
  unfold m_M_text_43
  refine hp_iconst (v := 0) d_M_text_43 (by decide) ?_
  exact j_M_text_44  _ _ _ _ _
def m_M_text_29 (G : Nat → Nat) (a0 : Nat) (a1 : Int32) (a2 : Int32) (h : hp_H) : Option (Int32 × hp_H) := if a2 < 0 then (m_M_text_43 G a0 a1 a2 h) else (if (100 : Int32) ≤ a2 then (m_M_text_43 G a0 a1 a2 h) else (m_M_text_44 G a0 a1 a2 (1 : Int32) h))
set_option maxRecDepth 100000 in
set_option maxHeartbeats 4000000 in
theorem j_M_text_29 {Z : hp_Z} (a0 : Nat) (a1 : Int32) (a2 : Int32) (h : hp_H) : hp_J Y_M_text Z hp_rI h 29 [(0, .ref a0), (1, .int a1), (2, .int a2)] [] (m_M_text_29 (hp_G Z)  a0 a1 a2 h) := by
  unfold m_M_text_29
  refine hp_iload_n (x0 := 2) d_M_text_29 rfl rfl ?_
  refine hp_if_lt (tgt := 43) d_M_text_30 (by decide) ?_ ?_
  · exact j_M_text_43  _ _ _ _
  · refine hp_iload_n (x0 := 2) d_M_text_33 rfl rfl ?_
    refine hp_bipush (v := 100) d_M_text_34 (by decide) ?_
    refine hp_icmp_ge (tgt := 43) d_M_text_36 (by decide) ?_ ?_
    · exact j_M_text_43  _ _ _ _
    · refine hp_iconst (v := 1) d_M_text_39 (by decide) ?_
      refine hp_goto (tgt := 44) d_M_text_40 (by decide) ?_
      exact j_M_text_44  _ _ _ _ _
def m_M_text (G : Nat → Nat) (a0 : Nat) (a1 : Int32) (a2 : Int32) (h : hp_H) : Option (Int32 × hp_H) := if a1 = (5 : Int32) then (if a2 = 0 then (m_M_text_44 G a0 a1 a2 (1 : Int32) h) else (m_M_text_44 G a0 a1 a2 (0 : Int32) h)) else (if a1 = (6 : Int32) then (m_M_text_29 G a0 a1 a2 h) else (if a1 = (7 : Int32) then (m_M_text_29 G a0 a1 a2 h) else (m_M_text_43 G a0 a1 a2 h)))
set_option maxRecDepth 100000 in
set_option maxHeartbeats 4000000 in
theorem j_M_text_0 {Z : hp_Z} (a0 : Nat) (a1 : Int32) (a2 : Int32) (h : hp_H) : hp_J Y_M_text Z hp_rI h 0 [(0, .ref a0), (1, .int a1), (2, .int a2)] [] (m_M_text (hp_G Z)  a0 a1 a2 h) := by
  unfold m_M_text
  refine hp_iload_n (x0 := 1) d_M_text_0 rfl rfl ?_
  refine hp_iconst (v := 5) d_M_text_1 (by decide) ?_
  refine hp_icmp_ne (tgt := 17) d_M_text_2 (by decide) ?_ ?_
  · refine hp_iload_n (x0 := 2) d_M_text_5 rfl rfl ?_
    refine hp_if_ne (tgt := 13) d_M_text_6 (by decide) ?_ ?_
    · refine hp_iconst (v := 1) d_M_text_9 (by decide) ?_
      refine hp_goto (tgt := 44) d_M_text_10 (by decide) ?_
      exact j_M_text_44  _ _ _ _ _
    · refine hp_iconst (v := 0) d_M_text_13 (by decide) ?_
      refine hp_goto (tgt := 44) d_M_text_14 (by decide) ?_
      exact j_M_text_44  _ _ _ _ _
  · refine hp_iload_n (x0 := 1) d_M_text_17 rfl rfl ?_
    refine hp_bipush (v := 6) d_M_text_18 (by decide) ?_
    refine hp_icmp_eq (tgt := 29) d_M_text_20 (by decide) ?_ ?_
    · exact j_M_text_29  _ _ _ _
    · refine hp_iload_n (x0 := 1) d_M_text_23 rfl rfl ?_
      refine hp_bipush (v := 7) d_M_text_24 (by decide) ?_
      refine hp_icmp_ne (tgt := 43) d_M_text_26 (by decide) ?_ ?_
      · exact j_M_text_29  _ _ _ _
      · exact j_M_text_43  _ _ _ _
theorem t_M_text (l : Launch) (E : hp_E) (a0 : Nat) (a1 : Int32) (a2 : Int32) : hp_M l E y_M_text Y_M_text hp_rI [.ref a0, .int a1, .int a2] (m_M_text E.2.2.1 a0 a1 a2) := hp_M.of (plainFor_of_name (by decide)) ⟨rfl, rfl⟩ (Nat.le_of_ble_eq_true rfl) (fun Z h hE => by subst hE; exact j_M_text_0 _ _ _ h)
-- M_isValue
theorem d_M_isValue_0 : decode prog_9_method_30_code 0 = .ok (.iload_n 1, 1) := by decide +kernel
theorem d_M_isValue_1 : decode prog_9_method_30_code 1 = .ok (.ifCond .le 15, 3) := by decide +kernel
theorem d_M_isValue_4 : decode prog_9_method_30_code 4 = .ok (.iload_n 1, 1) := by decide +kernel
theorem d_M_isValue_5 : decode prog_9_method_30_code 5 = .ok (.aload_n 0, 1) := by decide +kernel
theorem d_M_isValue_6 : decode prog_9_method_30_code 6 = .ok (.getfield 88, 3) := by decide +kernel
theorem d_M_isValue_9 : decode prog_9_method_30_code 9 = .ok (.if_icmp .gt 7, 3) := by decide +kernel
theorem d_M_isValue_12 : decode prog_9_method_30_code 12 = .ok (.iconst 1, 1) := by decide +kernel
theorem d_M_isValue_13 : decode prog_9_method_30_code 13 = .ok (.goto 4, 3) := by decide +kernel
theorem d_M_isValue_16 : decode prog_9_method_30_code 16 = .ok (.iconst 0, 1) := by decide +kernel
theorem d_M_isValue_17 : decode prog_9_method_30_code 17 = .ok (.ireturn, 1) := by decide +kernel
def m_M_isValue_17 (G : Nat → Nat) (s0 : Int32) (h : hp_H) : Option (Int32 × hp_H) := hp_z s0 h
set_option maxRecDepth 100000 in
set_option maxHeartbeats 4000000 in
theorem j_M_isValue_17 {Z : hp_Z} (s0 : Int32) (h : hp_H) : hp_J Y_M_isValue Z hp_rI h 17 [] [.int s0] (m_M_isValue_17 (hp_G Z)  s0 h) := by
  unfold m_M_isValue_17
  exact hp_zret d_M_isValue_17 rfl
def m_M_isValue_16 (G : Nat → Nat) (h : hp_H) : Option (Int32 × hp_H) := m_M_isValue_17 G (0 : Int32) h
set_option maxRecDepth 100000 in
set_option maxHeartbeats 4000000 in
theorem j_M_isValue_16 {Z : hp_Z} (h : hp_H) : hp_J Y_M_isValue Z hp_rI h 16 [] [] (m_M_isValue_16 (hp_G Z)   h) := by
  unfold m_M_isValue_16
  refine hp_iconst (v := 0) d_M_isValue_16 (by decide) ?_
  exact j_M_isValue_17  _ _
def m_M_isValue (G : Nat → Nat) (a0 : Nat) (a1 : Int32) (h : hp_H) : Option (Int32 × hp_H) := if a1 ≤ 0 then (m_M_isValue_16 G h) else ((hp_gI h a0 8 0).bind fun x1 => if x1 < a1 then (m_M_isValue_16 G h) else (m_M_isValue_17 G (1 : Int32) h))
set_option maxRecDepth 100000 in
set_option maxHeartbeats 4000000 in
theorem j_M_isValue_0 {Z : hp_Z} (a0 : Nat) (a1 : Int32) (h : hp_H) : hp_J Y_M_isValue Z hp_rI h 0 [(0, .ref a0), (1, .int a1)] [] (m_M_isValue (hp_G Z)  a0 a1 h) := by
  unfold m_M_isValue
  refine hp_iload_n (x0 := 1) d_M_isValue_0 rfl rfl ?_
  refine hp_if_le (tgt := 16) d_M_isValue_1 (by decide) ?_ ?_
  · refine hp_sub [] rfl ?_
    exact j_M_isValue_16   _
  · refine hp_iload_n (x0 := 1) d_M_isValue_4 rfl rfl ?_
    refine hp_aload_n (x0 := 0) d_M_isValue_5 rfl rfl ?_
    refine hp_getI fl_M_88 d_M_isValue_6 fun x1 => ?_
    refine hp_icmp_gt (tgt := 16) d_M_isValue_9 (by decide) ?_ ?_
    · refine hp_sub [] rfl ?_
      exact j_M_isValue_16   _
    · refine hp_iconst (v := 1) d_M_isValue_12 (by decide) ?_
      refine hp_goto (tgt := 17) d_M_isValue_13 (by decide) ?_
      refine hp_sub [] rfl ?_
      exact j_M_isValue_17  _ _
theorem t_M_isValue (l : Launch) (E : hp_E) (a0 : Nat) (a1 : Int32) : hp_M l E y_M_isValue Y_M_isValue hp_rI [.ref a0, .int a1] (m_M_isValue E.2.2.1 a0 a1) := hp_M.of (plainFor_of_name (by decide)) ⟨rfl, rfl⟩ (Nat.le_of_ble_eq_true rfl) (fun Z h hE => by subst hE; exact j_M_isValue_0 _ _ h)
-- M_told
theorem d_M_told_0 : decode prog_9_method_31_code 0 = .ok (.aload_n 0, 1) := by decide +kernel
theorem d_M_told_1 : decode prog_9_method_31_code 1 = .ok (.iload_n 1, 1) := by decide +kernel
theorem d_M_told_2 : decode prog_9_method_31_code 2 = .ok (.invokevirtual 161, 3) := by decide +kernel
theorem d_M_told_5 : decode prog_9_method_31_code 5 = .ok (.ifCond .ne 5, 3) := by decide +kernel
theorem d_M_told_8 : decode prog_9_method_31_code 8 = .ok (.iconst (-1), 1) := by decide +kernel
theorem d_M_told_9 : decode prog_9_method_31_code 9 = .ok (.ireturn, 1) := by decide +kernel
theorem d_M_told_10 : decode prog_9_method_31_code 10 = .ok (.iload_n 2, 1) := by decide +kernel
theorem d_M_told_11 : decode prog_9_method_31_code 11 = .ok (.tableswitch 57 0 3 #[29, 36, 43, 50], 29) := by decide +kernel
theorem d_M_told_40 : decode prog_9_method_31_code 40 = .ok (.aload_n 0, 1) := by decide +kernel
theorem d_M_told_41 : decode prog_9_method_31_code 41 = .ok (.getfield 7, 3) := by decide +kernel
theorem d_M_told_44 : decode prog_9_method_31_code 44 = .ok (.iload_n 1, 1) := by decide +kernel
theorem d_M_told_45 : decode prog_9_method_31_code 45 = .ok (.iaload, 1) := by decide +kernel
theorem d_M_told_46 : decode prog_9_method_31_code 46 = .ok (.ireturn, 1) := by decide +kernel
theorem d_M_told_47 : decode prog_9_method_31_code 47 = .ok (.aload_n 0, 1) := by decide +kernel
theorem d_M_told_48 : decode prog_9_method_31_code 48 = .ok (.getfield 13, 3) := by decide +kernel
theorem d_M_told_51 : decode prog_9_method_31_code 51 = .ok (.iload_n 1, 1) := by decide +kernel
theorem d_M_told_52 : decode prog_9_method_31_code 52 = .ok (.iaload, 1) := by decide +kernel
theorem d_M_told_53 : decode prog_9_method_31_code 53 = .ok (.ireturn, 1) := by decide +kernel
theorem d_M_told_54 : decode prog_9_method_31_code 54 = .ok (.aload_n 0, 1) := by decide +kernel
theorem d_M_told_55 : decode prog_9_method_31_code 55 = .ok (.getfield 19, 3) := by decide +kernel
theorem d_M_told_58 : decode prog_9_method_31_code 58 = .ok (.iload_n 1, 1) := by decide +kernel
theorem d_M_told_59 : decode prog_9_method_31_code 59 = .ok (.iaload, 1) := by decide +kernel
theorem d_M_told_60 : decode prog_9_method_31_code 60 = .ok (.ireturn, 1) := by decide +kernel
theorem d_M_told_61 : decode prog_9_method_31_code 61 = .ok (.aload_n 0, 1) := by decide +kernel
theorem d_M_told_62 : decode prog_9_method_31_code 62 = .ok (.getfield 26, 3) := by decide +kernel
theorem d_M_told_65 : decode prog_9_method_31_code 65 = .ok (.iload_n 1, 1) := by decide +kernel
theorem d_M_told_66 : decode prog_9_method_31_code 66 = .ok (.iaload, 1) := by decide +kernel
theorem d_M_told_67 : decode prog_9_method_31_code 67 = .ok (.ireturn, 1) := by decide +kernel
theorem d_M_told_68 : decode prog_9_method_31_code 68 = .ok (.iconst (-1), 1) := by decide +kernel
theorem d_M_told_69 : decode prog_9_method_31_code 69 = .ok (.ireturn, 1) := by decide +kernel
def m_M_told (G : Nat → Nat) (a0 : Nat) (a1 : Int32) (a2 : Int32) (h : hp_H) : Option (Int32 × hp_H) := (hp_vck h a0 8 (m_M_isValue G a0 a1 h)).bind fun q1 => if q1.1 = 0 then (some ((-1 : Int32), q1.2)) else (if a2 = 0 then ((hp_gR q1.2 a0 8 1).bind fun x2 => (hp_aI q1.2 .int x2 a1).bind fun x3 => some (x3, q1.2)) else (if a2 = 1 then ((hp_gR q1.2 a0 8 2).bind fun x4 => (hp_aI q1.2 .int x4 a1).bind fun x5 => some (x5, q1.2)) else (if a2 = 2 then ((hp_gR q1.2 a0 8 4).bind fun x6 => (hp_aI q1.2 .int x6 a1).bind fun x7 => some (x7, q1.2)) else (if a2 = 3 then ((hp_gR q1.2 a0 8 6).bind fun x8 => (hp_aI q1.2 .int x8 a1).bind fun x9 => some (x9, q1.2)) else (some ((-1 : Int32), q1.2))))))
set_option maxRecDepth 100000 in
set_option maxHeartbeats 4000000 in
theorem j_M_told_0 {Z : hp_Z} (a0 : Nat) (a1 : Int32) (a2 : Int32) (h : hp_H) : hp_J Y_M_told Z hp_rI h 0 [(0, .ref a0), (1, .int a1), (2, .int a2)] [] (m_M_told (hp_G Z)  a0 a1 a2 h) := by
  unfold m_M_told
  refine hp_aload_n (x0 := 0) d_M_told_0 rfl rfl ?_
  refine hp_iload_n (x0 := 1) d_M_told_1 rfl rfl ?_
  refine hp_callI (hp_crV (ci := 8) (t_M_isValue _ _ _ _) cw_M_161 rfl ⟨w_1024, ws_44⟩ (by decide) rfl rfl (Nat.le_of_ble_eq_true rfl) d_M_told_2) fun q1 => ?_
  refine hp_if_ne (tgt := 10) d_M_told_5 (by decide) ?_ ?_
  · refine hp_iconst (v := -1) d_M_told_8 (by decide) ?_
    exact hp_iret d_M_told_9 rfl
  · refine hp_iload_n (x0 := 2) d_M_told_10 rfl rfl ?_
    refine hp_ite (fun c0 => ?_) (fun c0 => ?_)
    · refine hp_tabI (tgt := 40) (kv := 0) d_M_told_11 c0 (by decide) (by decide) rfl (by decide) ?_
      refine hp_aload_n (x0 := 0) d_M_told_40 rfl rfl ?_
      refine hp_getR fl_M_7 d_M_told_41 fun x2 => ?_
      refine hp_iload_n (x0 := 1) d_M_told_44 rfl rfl ?_
      refine hp_iald d_M_told_45 fun x3 => ?_
      exact hp_iret d_M_told_46 rfl
    · skip
      refine hp_ite (fun c1 => ?_) (fun c1 => ?_)
      · refine hp_tabI (tgt := 47) (kv := 1) d_M_told_11 c1 (by decide) (by decide) rfl (by decide) ?_
        refine hp_aload_n (x0 := 0) d_M_told_47 rfl rfl ?_
        refine hp_getR fl_M_13 d_M_told_48 fun x4 => ?_
        refine hp_iload_n (x0 := 1) d_M_told_51 rfl rfl ?_
        refine hp_iald d_M_told_52 fun x5 => ?_
        exact hp_iret d_M_told_53 rfl
      · skip
        refine hp_ite (fun c2 => ?_) (fun c2 => ?_)
        · refine hp_tabI (tgt := 54) (kv := 2) d_M_told_11 c2 (by decide) (by decide) rfl (by decide) ?_
          refine hp_aload_n (x0 := 0) d_M_told_54 rfl rfl ?_
          refine hp_getR fl_M_19 d_M_told_55 fun x6 => ?_
          refine hp_iload_n (x0 := 1) d_M_told_58 rfl rfl ?_
          refine hp_iald d_M_told_59 fun x7 => ?_
          exact hp_iret d_M_told_60 rfl
        · skip
          refine hp_ite (fun c3 => ?_) (fun c3 => ?_)
          · refine hp_tabI (tgt := 61) (kv := 3) d_M_told_11 c3 (by decide) (by decide) rfl (by decide) ?_
            refine hp_aload_n (x0 := 0) d_M_told_61 rfl rfl ?_
            refine hp_getR fl_M_26 d_M_told_62 fun x8 => ?_
            refine hp_iload_n (x0 := 1) d_M_told_65 rfl rfl ?_
            refine hp_iald d_M_told_66 fun x9 => ?_
            exact hp_iret d_M_told_67 rfl
          · skip
            refine hp_tabD (tgt := 68) d_M_told_11 (by have e0 := lv_neT c0 (a := 0) (by decide); have e1 := lv_neT c1 (a := 1) (by decide); have e2 := lv_neT c2 (a := 2) (by decide); have e3 := lv_neT c3 (a := 3) (by decide); omega) (by decide) ?_
            refine hp_iconst (v := -1) d_M_told_68 (by decide) ?_
            exact hp_iret d_M_told_69 rfl
theorem t_M_told (l : Launch) (E : hp_E) (a0 : Nat) (a1 : Int32) (a2 : Int32) : hp_M l E y_M_told Y_M_told hp_rI [.ref a0, .int a1, .int a2] (m_M_told E.2.2.1 a0 a1 a2) := hp_M.of (plainFor_of_name (by decide)) ⟨rfl, rfl⟩ (Nat.le_of_ble_eq_true rfl) (fun Z h hE => by subst hE; exact j_M_told_0 _ _ _ h)
-- M_amount
theorem d_M_amount_0 : decode prog_9_method_32_code 0 = .ok (.aload_n 0, 1) := by decide +kernel
theorem d_M_amount_1 : decode prog_9_method_32_code 1 = .ok (.iload_n 1, 1) := by decide +kernel
theorem d_M_amount_2 : decode prog_9_method_32_code 2 = .ok (.invokevirtual 161, 3) := by decide +kernel
theorem d_M_amount_5 : decode prog_9_method_32_code 5 = .ok (.ifCond .ne 5, 3) := by decide +kernel
theorem d_M_amount_8 : decode prog_9_method_32_code 8 = .ok (.lconst 0, 1) := by decide +kernel
theorem d_M_amount_9 : decode prog_9_method_32_code 9 = .ok (.lreturn, 1) := by decide +kernel
theorem d_M_amount_10 : decode prog_9_method_32_code 10 = .ok (.lconst 0, 1) := by decide +kernel
theorem d_M_amount_11 : decode prog_9_method_32_code 11 = .ok (.lstore_n 2, 1) := by decide +kernel
theorem d_M_amount_12 : decode prog_9_method_32_code 12 = .ok (.bipush 17, 2) := by decide +kernel
theorem d_M_amount_14 : decode prog_9_method_32_code 14 = .ok (.istore 4, 2) := by decide +kernel
theorem d_M_amount_16 : decode prog_9_method_32_code 16 = .ok (.iload 4, 2) := by decide +kernel
theorem d_M_amount_18 : decode prog_9_method_32_code 18 = .ok (.ifCond .lt 29, 3) := by decide +kernel
theorem d_M_amount_21 : decode prog_9_method_32_code 21 = .ok (.ldc2_w 138, 3) := by decide +kernel
theorem d_M_amount_24 : decode prog_9_method_32_code 24 = .ok (.lload_n 2, 1) := by decide +kernel
theorem d_M_amount_25 : decode prog_9_method_32_code 25 = .ok (.lmul, 1) := by decide +kernel
theorem d_M_amount_26 : decode prog_9_method_32_code 26 = .ok (.aload_n 0, 1) := by decide +kernel
theorem d_M_amount_27 : decode prog_9_method_32_code 27 = .ok (.getfield 23, 3) := by decide +kernel
theorem d_M_amount_30 : decode prog_9_method_32_code 30 = .ok (.bipush 18, 2) := by decide +kernel
theorem d_M_amount_32 : decode prog_9_method_32_code 32 = .ok (.iload_n 1, 1) := by decide +kernel
theorem d_M_amount_33 : decode prog_9_method_32_code 33 = .ok (.imul, 1) := by decide +kernel
theorem d_M_amount_34 : decode prog_9_method_32_code 34 = .ok (.iload 4, 2) := by decide +kernel
theorem d_M_amount_36 : decode prog_9_method_32_code 36 = .ok (.iadd, 1) := by decide +kernel
theorem d_M_amount_37 : decode prog_9_method_32_code 37 = .ok (.iaload, 1) := by decide +kernel
theorem d_M_amount_38 : decode prog_9_method_32_code 38 = .ok (.i2l, 1) := by decide +kernel
theorem d_M_amount_39 : decode prog_9_method_32_code 39 = .ok (.ladd, 1) := by decide +kernel
theorem d_M_amount_40 : decode prog_9_method_32_code 40 = .ok (.lstore_n 2, 1) := by decide +kernel
theorem d_M_amount_41 : decode prog_9_method_32_code 41 = .ok (.iinc 4 (-1), 3) := by decide +kernel
theorem d_M_amount_44 : decode prog_9_method_32_code 44 = .ok (.goto (-28), 3) := by decide +kernel
theorem d_M_amount_47 : decode prog_9_method_32_code 47 = .ok (.aload_n 0, 1) := by decide +kernel
theorem d_M_amount_48 : decode prog_9_method_32_code 48 = .ok (.getfield 16, 3) := by decide +kernel
theorem d_M_amount_51 : decode prog_9_method_32_code 51 = .ok (.iload_n 1, 1) := by decide +kernel
theorem d_M_amount_52 : decode prog_9_method_32_code 52 = .ok (.iaload, 1) := by decide +kernel
theorem d_M_amount_53 : decode prog_9_method_32_code 53 = .ok (.i2l, 1) := by decide +kernel
theorem d_M_amount_54 : decode prog_9_method_32_code 54 = .ok (.lload_n 2, 1) := by decide +kernel
theorem d_M_amount_55 : decode prog_9_method_32_code 55 = .ok (.lmul, 1) := by decide +kernel
theorem d_M_amount_56 : decode prog_9_method_32_code 56 = .ok (.lreturn, 1) := by decide +kernel
def m_M_amount_16 (G : Nat → Nat) : Nat → Nat → Int32 → Int64 → Int32 → hp_H → Option (Int64 × hp_H)
  | 0, _, _, _, _, _ => none
  | n + 1, a0, a1, a2, a4, h => if a4 < 0 then ((hp_gR h a0 8 3).bind fun x1 => (hp_aI h .int x1 a1).bind fun x2 => some (x2.toInt64 * a2, h)) else ((hp_gR h a0 8 5).bind fun x3 => (hp_aI h .int x3 (((18 : Int32) * a1) + a4)).bind fun x4 => hp_nm (((10 : Int64) * a2) + x4.toInt64) fun x5 => hp_nm (a4 + (-1)) fun x6 => (m_M_amount_16 G  n) a0 a1 x5 x6 h)
set_option maxRecDepth 100000 in
set_option maxHeartbeats 4000000 in
theorem j_M_amount_16 {Z : hp_Z} : ∀ (n : Nat) (a0 : Nat) (a1 : Int32) (a2 : Int64) (a4 : Int32) (h : hp_H), hp_J Y_M_amount Z hp_rL h 16 [(0, .ref a0), (1, .int a1), (2, .long a2), (4, .int a4)] [] (m_M_amount_16 (hp_G Z)  n a0 a1 a2 a4 h) := by
  intro n
  induction n with
  | zero => intro a0 a1 a2 a4 h; exact hp_fail
  | succ n ih =>
    intro a0 a1 a2 a4 h
    rw [m_M_amount_16]
    refine hp_iload (x0 := 3) d_M_amount_16 rfl ?_
    refine hp_if_lt (tgt := 47) d_M_amount_18 (by decide) ?_ ?_
    · refine hp_aload_n (x0 := 0) d_M_amount_47 rfl rfl ?_
      refine hp_getR fl_M_16 d_M_amount_48 fun x1 => ?_
      refine hp_iload_n (x0 := 1) d_M_amount_51 rfl rfl ?_
      refine hp_iald d_M_amount_52 fun x2 => ?_
      refine hp_i2l d_M_amount_53 ?_
      refine hp_lload_n (x0 := 2) d_M_amount_54 rfl rfl ?_
      refine hp_lmul d_M_amount_55 ?_
      exact hp_lret d_M_amount_56 rfl
    · refine hp_ldc2 (v := 10) d_M_amount_21 w_978 ?_
      refine hp_lload_n (x0 := 2) d_M_amount_24 rfl rfl ?_
      refine hp_lmul d_M_amount_25 ?_
      refine hp_aload_n (x0 := 0) d_M_amount_26 rfl rfl ?_
      refine hp_getR fl_M_23 d_M_amount_27 fun x3 => ?_
      refine hp_bipush (v := 18) d_M_amount_30 (by decide) ?_
      refine hp_iload_n (x0 := 1) d_M_amount_32 rfl rfl ?_
      refine hp_imul d_M_amount_33 ?_
      refine hp_iload (x0 := 3) d_M_amount_34 rfl ?_
      refine hp_iadd d_M_amount_36 ?_
      refine hp_iald d_M_amount_37 fun x4 => ?_
      refine hp_i2l d_M_amount_38 ?_
      refine hp_ladd d_M_amount_39 ?_
      refine hp_lstore_n (fun x5 => [(2, .long x5), (0, .ref a0), (1, .int a1), (4, .int a4)]) d_M_amount_40 rfl (by decide) (fun _ => rfl) fun x5 => ?_
      refine hp_iinc (x0 := 3) (d := -1) (fun x6 => [(4, .int x6), (2, .long x5), (0, .ref a0), (1, .int a1)]) d_M_amount_41 rfl (by decide) (by decide) (fun _ => rfl) fun x6 => ?_
      refine hp_goto (tgt := 16) d_M_amount_44 (by decide) ?_
      refine hp_sub [2, 3, 1, 0] rfl ?_
      exact ih _ _ _ _ _
def m_M_amount (G : Nat → Nat) (a0 : Nat) (a1 : Int32) (h : hp_H) : Option (Int64 × hp_H) := (hp_vck h a0 8 (m_M_isValue G a0 a1 h)).bind fun q1 => if q1.1 = 0 then (some ((0 : Int64), q1.2)) else (hp_nm (0 : Int64) fun x2 => hp_nm (17 : Int32) fun x3 => m_M_amount_16 G hp_fu a0 a1 x2 x3 q1.2)
set_option maxRecDepth 100000 in
set_option maxHeartbeats 4000000 in
theorem j_M_amount_0 {Z : hp_Z} (a0 : Nat) (a1 : Int32) (h : hp_H) : hp_J Y_M_amount Z hp_rL h 0 [(0, .ref a0), (1, .int a1)] [] (m_M_amount (hp_G Z)  a0 a1 h) := by
  unfold m_M_amount
  refine hp_aload_n (x0 := 0) d_M_amount_0 rfl rfl ?_
  refine hp_iload_n (x0 := 1) d_M_amount_1 rfl rfl ?_
  refine hp_callI (hp_crV (ci := 8) (t_M_isValue _ _ _ _) cw_M_161 rfl ⟨w_1024, ws_44⟩ (by decide) rfl rfl (Nat.le_of_ble_eq_true rfl) d_M_amount_2) fun q1 => ?_
  refine hp_if_ne (tgt := 10) d_M_amount_5 (by decide) ?_ ?_
  · refine hp_lconst (v := 0) d_M_amount_8 (by decide) ?_
    exact hp_lret d_M_amount_9 rfl
  · refine hp_lconst (v := 0) d_M_amount_10 (by decide) ?_
    refine hp_lstore_n (fun x2 => [(2, .long x2), (0, .ref a0), (1, .int a1)]) d_M_amount_11 rfl (by decide) (fun _ => rfl) fun x2 => ?_
    refine hp_bipush (v := 17) d_M_amount_12 (by decide) ?_
    refine hp_istore (fun x3 => [(4, .int x3), (2, .long x2), (0, .ref a0), (1, .int a1)]) d_M_amount_14 (by decide) (fun _ => rfl) fun x3 => ?_
    refine hp_sub [2, 3, 1, 0] rfl ?_
    exact j_M_amount_16  hp_fu _ _ _ _ _
theorem t_M_amount (l : Launch) (E : hp_E) (a0 : Nat) (a1 : Int32) : hp_M l E y_M_amount Y_M_amount hp_rL [.ref a0, .int a1] (m_M_amount E.2.2.1 a0 a1) := hp_M.of (plainFor_of_name (by decide)) ⟨rfl, rfl⟩ (Nat.le_of_ble_eq_true rfl) (fun Z h hE => by subst hE; exact j_M_amount_0 _ _ h)
-- M_byteOf
theorem d_M_byteOf_0 : decode prog_9_method_33_code 0 = .ok (.aload_n 0, 1) := by decide +kernel
theorem d_M_byteOf_1 : decode prog_9_method_33_code 1 = .ok (.iload_n 1, 1) := by decide +kernel
theorem d_M_byteOf_2 : decode prog_9_method_33_code 2 = .ok (.invokevirtual 161, 3) := by decide +kernel
theorem d_M_byteOf_5 : decode prog_9_method_33_code 5 = .ok (.ifCond .eq 31, 3) := by decide +kernel
theorem d_M_byteOf_8 : decode prog_9_method_33_code 8 = .ok (.iload_n 2, 1) := by decide +kernel
theorem d_M_byteOf_9 : decode prog_9_method_33_code 9 = .ok (.ifCond .lt 27, 3) := by decide +kernel
theorem d_M_byteOf_12 : decode prog_9_method_33_code 12 = .ok (.iload_n 2, 1) := by decide +kernel
theorem d_M_byteOf_13 : decode prog_9_method_33_code 13 = .ok (.aload_n 0, 1) := by decide +kernel
theorem d_M_byteOf_14 : decode prog_9_method_33_code 14 = .ok (.getfield 26, 3) := by decide +kernel
theorem d_M_byteOf_17 : decode prog_9_method_33_code 17 = .ok (.iload_n 1, 1) := by decide +kernel
theorem d_M_byteOf_18 : decode prog_9_method_33_code 18 = .ok (.iaload, 1) := by decide +kernel
theorem d_M_byteOf_19 : decode prog_9_method_33_code 19 = .ok (.if_icmp .ge 17, 3) := by decide +kernel
theorem d_M_byteOf_22 : decode prog_9_method_33_code 22 = .ok (.aload_n 0, 1) := by decide +kernel
theorem d_M_byteOf_23 : decode prog_9_method_33_code 23 = .ok (.getfield 30, 3) := by decide +kernel
theorem d_M_byteOf_26 : decode prog_9_method_33_code 26 = .ok (.bipush 64, 2) := by decide +kernel
theorem d_M_byteOf_28 : decode prog_9_method_33_code 28 = .ok (.iload_n 1, 1) := by decide +kernel
theorem d_M_byteOf_29 : decode prog_9_method_33_code 29 = .ok (.imul, 1) := by decide +kernel
theorem d_M_byteOf_30 : decode prog_9_method_33_code 30 = .ok (.iload_n 2, 1) := by decide +kernel
theorem d_M_byteOf_31 : decode prog_9_method_33_code 31 = .ok (.iadd, 1) := by decide +kernel
theorem d_M_byteOf_32 : decode prog_9_method_33_code 32 = .ok (.iaload, 1) := by decide +kernel
theorem d_M_byteOf_33 : decode prog_9_method_33_code 33 = .ok (.goto 4, 3) := by decide +kernel
theorem d_M_byteOf_36 : decode prog_9_method_33_code 36 = .ok (.iconst (-1), 1) := by decide +kernel
theorem d_M_byteOf_37 : decode prog_9_method_33_code 37 = .ok (.ireturn, 1) := by decide +kernel
def m_M_byteOf_37 (G : Nat → Nat) (s0 : Int32) (h : hp_H) : Option (Int32 × hp_H) := some (s0, h)
set_option maxRecDepth 100000 in
set_option maxHeartbeats 4000000 in
theorem j_M_byteOf_37 {Z : hp_Z} (s0 : Int32) (h : hp_H) : hp_J Y_M_byteOf Z hp_rI h 37 [] [.int s0] (m_M_byteOf_37 (hp_G Z)  s0 h) := by
  unfold m_M_byteOf_37
  exact hp_iret d_M_byteOf_37 rfl
def m_M_byteOf_36 (G : Nat → Nat) (h : hp_H) : Option (Int32 × hp_H) := m_M_byteOf_37 G (-1 : Int32) h
set_option maxRecDepth 100000 in
set_option maxHeartbeats 4000000 in
theorem j_M_byteOf_36 {Z : hp_Z} (h : hp_H) : hp_J Y_M_byteOf Z hp_rI h 36 [] [] (m_M_byteOf_36 (hp_G Z)   h) := by
  unfold m_M_byteOf_36
  refine hp_iconst (v := -1) d_M_byteOf_36 (by decide) ?_
  exact j_M_byteOf_37  _ _
def m_M_byteOf (G : Nat → Nat) (a0 : Nat) (a1 : Int32) (a2 : Int32) (h : hp_H) : Option (Int32 × hp_H) := (hp_vck h a0 8 (m_M_isValue G a0 a1 h)).bind fun q1 => if q1.1 = 0 then (m_M_byteOf_36 G q1.2) else (if a2 < 0 then (m_M_byteOf_36 G q1.2) else ((hp_gR q1.2 a0 8 6).bind fun x2 => (hp_aI q1.2 .int x2 a1).bind fun x3 => if x3 ≤ a2 then (m_M_byteOf_36 G q1.2) else ((hp_gR q1.2 a0 8 7).bind fun x4 => (hp_aI q1.2 .int x4 (((64 : Int32) * a1) + a2)).bind fun x5 => m_M_byteOf_37 G x5 q1.2)))
set_option maxRecDepth 100000 in
set_option maxHeartbeats 4000000 in
theorem j_M_byteOf_0 {Z : hp_Z} (a0 : Nat) (a1 : Int32) (a2 : Int32) (h : hp_H) : hp_J Y_M_byteOf Z hp_rI h 0 [(0, .ref a0), (1, .int a1), (2, .int a2)] [] (m_M_byteOf (hp_G Z)  a0 a1 a2 h) := by
  unfold m_M_byteOf
  refine hp_aload_n (x0 := 0) d_M_byteOf_0 rfl rfl ?_
  refine hp_iload_n (x0 := 1) d_M_byteOf_1 rfl rfl ?_
  refine hp_callI (hp_crV (ci := 8) (t_M_isValue _ _ _ _) cw_M_161 rfl ⟨w_1024, ws_44⟩ (by decide) rfl rfl (Nat.le_of_ble_eq_true rfl) d_M_byteOf_2) fun q1 => ?_
  refine hp_if_eq (tgt := 36) d_M_byteOf_5 (by decide) ?_ ?_
  · refine hp_sub [] rfl ?_
    exact j_M_byteOf_36   _
  · refine hp_iload_n (x0 := 2) d_M_byteOf_8 rfl rfl ?_
    refine hp_if_lt (tgt := 36) d_M_byteOf_9 (by decide) ?_ ?_
    · refine hp_sub [] rfl ?_
      exact j_M_byteOf_36   _
    · refine hp_iload_n (x0 := 2) d_M_byteOf_12 rfl rfl ?_
      refine hp_aload_n (x0 := 0) d_M_byteOf_13 rfl rfl ?_
      refine hp_getR fl_M_26 d_M_byteOf_14 fun x2 => ?_
      refine hp_iload_n (x0 := 1) d_M_byteOf_17 rfl rfl ?_
      refine hp_iald d_M_byteOf_18 fun x3 => ?_
      refine hp_icmp_ge (tgt := 36) d_M_byteOf_19 (by decide) ?_ ?_
      · refine hp_sub [] rfl ?_
        exact j_M_byteOf_36   _
      · refine hp_aload_n (x0 := 0) d_M_byteOf_22 rfl rfl ?_
        refine hp_getR fl_M_30 d_M_byteOf_23 fun x4 => ?_
        refine hp_bipush (v := 64) d_M_byteOf_26 (by decide) ?_
        refine hp_iload_n (x0 := 1) d_M_byteOf_28 rfl rfl ?_
        refine hp_imul d_M_byteOf_29 ?_
        refine hp_iload_n (x0 := 2) d_M_byteOf_30 rfl rfl ?_
        refine hp_iadd d_M_byteOf_31 ?_
        refine hp_iald d_M_byteOf_32 fun x5 => ?_
        refine hp_goto (tgt := 37) d_M_byteOf_33 (by decide) ?_
        refine hp_sub [] rfl ?_
        exact j_M_byteOf_37  _ _
theorem t_M_byteOf (l : Launch) (E : hp_E) (a0 : Nat) (a1 : Int32) (a2 : Int32) : hp_M l E y_M_byteOf Y_M_byteOf hp_rI [.ref a0, .int a1, .int a2] (m_M_byteOf E.2.2.1 a0 a1 a2) := hp_M.of (plainFor_of_name (by decide)) ⟨rfl, rfl⟩ (Nat.le_of_ble_eq_true rfl) (fun Z h hE => by subst hE; exact j_M_byteOf_0 _ _ _ h)
-- M_values
theorem d_M_values_0 : decode prog_9_method_34_code 0 = .ok (.aload_n 0, 1) := by decide +kernel
theorem d_M_values_1 : decode prog_9_method_34_code 1 = .ok (.getfield 88, 3) := by decide +kernel
theorem d_M_values_4 : decode prog_9_method_34_code 4 = .ok (.ireturn, 1) := by decide +kernel
def m_M_values (G : Nat → Nat) (a0 : Nat) (h : hp_H) : Option (Int32 × hp_H) := (hp_gI h a0 8 0).bind fun x1 => some (x1, h)
set_option maxRecDepth 100000 in
set_option maxHeartbeats 4000000 in
theorem j_M_values_0 {Z : hp_Z} (a0 : Nat) (h : hp_H) : hp_J Y_M_values Z hp_rI h 0 [(0, .ref a0)] [] (m_M_values (hp_G Z)  a0 h) := by
  unfold m_M_values
  refine hp_aload_n (x0 := 0) d_M_values_0 rfl rfl ?_
  refine hp_getI fl_M_88 d_M_values_1 fun x1 => ?_
  exact hp_iret d_M_values_4 rfl
theorem t_M_values (l : Launch) (E : hp_E) (a0 : Nat) : hp_M l E y_M_values Y_M_values hp_rI [.ref a0] (m_M_values E.2.2.1 a0) := hp_M.of (plainFor_of_name (by decide)) ⟨rfl, rfl⟩ (Nat.le_of_ble_eq_true rfl) (fun Z h hE => by subst hE; exact j_M_values_0 _ h)
-- M_isNumber
theorem d_M_isNumber_0 : decode prog_9_method_14_code 0 = .ok (.iload_n 1, 1) := by decide +kernel
theorem d_M_isNumber_1 : decode prog_9_method_14_code 1 = .ok (.ifCond .le 27, 3) := by decide +kernel
theorem d_M_isNumber_4 : decode prog_9_method_14_code 4 = .ok (.aload_n 0, 1) := by decide +kernel
theorem d_M_isNumber_5 : decode prog_9_method_14_code 5 = .ok (.getfield 7, 3) := by decide +kernel
theorem d_M_isNumber_8 : decode prog_9_method_14_code 8 = .ok (.iload_n 1, 1) := by decide +kernel
theorem d_M_isNumber_9 : decode prog_9_method_14_code 9 = .ok (.iaload, 1) := by decide +kernel
theorem d_M_isNumber_10 : decode prog_9_method_14_code 10 = .ok (.iconst 3, 1) := by decide +kernel
theorem d_M_isNumber_11 : decode prog_9_method_14_code 11 = .ok (.if_icmp .eq 13, 3) := by decide +kernel
theorem d_M_isNumber_14 : decode prog_9_method_14_code 14 = .ok (.aload_n 0, 1) := by decide +kernel
theorem d_M_isNumber_15 : decode prog_9_method_14_code 15 = .ok (.getfield 7, 3) := by decide +kernel
theorem d_M_isNumber_18 : decode prog_9_method_14_code 18 = .ok (.iload_n 1, 1) := by decide +kernel
theorem d_M_isNumber_19 : decode prog_9_method_14_code 19 = .ok (.iaload, 1) := by decide +kernel
theorem d_M_isNumber_20 : decode prog_9_method_14_code 20 = .ok (.iconst 4, 1) := by decide +kernel
theorem d_M_isNumber_21 : decode prog_9_method_14_code 21 = .ok (.if_icmp .ne 7, 3) := by decide +kernel
theorem d_M_isNumber_24 : decode prog_9_method_14_code 24 = .ok (.iconst 1, 1) := by decide +kernel
theorem d_M_isNumber_25 : decode prog_9_method_14_code 25 = .ok (.goto 4, 3) := by decide +kernel
theorem d_M_isNumber_28 : decode prog_9_method_14_code 28 = .ok (.iconst 0, 1) := by decide +kernel
theorem d_M_isNumber_29 : decode prog_9_method_14_code 29 = .ok (.ireturn, 1) := by decide +kernel
def m_M_isNumber_29 (G : Nat → Nat) (s0 : Int32) (h : hp_H) : Option (Int32 × hp_H) := hp_z s0 h
set_option maxRecDepth 100000 in
set_option maxHeartbeats 4000000 in
theorem j_M_isNumber_29 {Z : hp_Z} (s0 : Int32) (h : hp_H) : hp_J Y_M_isNumber Z hp_rI h 29 [] [.int s0] (m_M_isNumber_29 (hp_G Z)  s0 h) := by
  unfold m_M_isNumber_29
  exact hp_zret d_M_isNumber_29 rfl
def m_M_isNumber_24 (G : Nat → Nat) (h : hp_H) : Option (Int32 × hp_H) := m_M_isNumber_29 G (1 : Int32) h
set_option maxRecDepth 100000 in
set_option maxHeartbeats 4000000 in
theorem j_M_isNumber_24 {Z : hp_Z} (h : hp_H) : hp_J Y_M_isNumber Z hp_rI h 24 [] [] (m_M_isNumber_24 (hp_G Z)   h) := by
  unfold m_M_isNumber_24
  refine hp_iconst (v := 1) d_M_isNumber_24 (by decide) ?_
  refine hp_goto (tgt := 29) d_M_isNumber_25 (by decide) ?_
  exact j_M_isNumber_29  _ _
def m_M_isNumber_28 (G : Nat → Nat) (h : hp_H) : Option (Int32 × hp_H) := m_M_isNumber_29 G (0 : Int32) h
set_option maxRecDepth 100000 in
set_option maxHeartbeats 4000000 in
theorem j_M_isNumber_28 {Z : hp_Z} (h : hp_H) : hp_J Y_M_isNumber Z hp_rI h 28 [] [] (m_M_isNumber_28 (hp_G Z)   h) := by
  unfold m_M_isNumber_28
  refine hp_iconst (v := 0) d_M_isNumber_28 (by decide) ?_
  exact j_M_isNumber_29  _ _
def m_M_isNumber (G : Nat → Nat) (a0 : Nat) (a1 : Int32) (h : hp_H) : Option (Int32 × hp_H) := if a1 ≤ 0 then (m_M_isNumber_28 G h) else ((hp_gR h a0 8 1).bind fun x1 => (hp_aI h .int x1 a1).bind fun x2 => if x2 = (3 : Int32) then (m_M_isNumber_24 G h) else ((hp_gR h a0 8 1).bind fun x3 => (hp_aI h .int x3 a1).bind fun x4 => if x4 = (4 : Int32) then (m_M_isNumber_24 G h) else (m_M_isNumber_28 G h)))
set_option maxRecDepth 100000 in
set_option maxHeartbeats 4000000 in
theorem j_M_isNumber_0 {Z : hp_Z} (a0 : Nat) (a1 : Int32) (h : hp_H) : hp_J Y_M_isNumber Z hp_rI h 0 [(0, .ref a0), (1, .int a1)] [] (m_M_isNumber (hp_G Z)  a0 a1 h) := by
  unfold m_M_isNumber
  refine hp_iload_n (x0 := 1) d_M_isNumber_0 rfl rfl ?_
  refine hp_if_le (tgt := 28) d_M_isNumber_1 (by decide) ?_ ?_
  · refine hp_sub [] rfl ?_
    exact j_M_isNumber_28   _
  · refine hp_aload_n (x0 := 0) d_M_isNumber_4 rfl rfl ?_
    refine hp_getR fl_M_7 d_M_isNumber_5 fun x1 => ?_
    refine hp_iload_n (x0 := 1) d_M_isNumber_8 rfl rfl ?_
    refine hp_iald d_M_isNumber_9 fun x2 => ?_
    refine hp_iconst (v := 3) d_M_isNumber_10 (by decide) ?_
    refine hp_icmp_eq (tgt := 24) d_M_isNumber_11 (by decide) ?_ ?_
    · refine hp_sub [] rfl ?_
      exact j_M_isNumber_24   _
    · refine hp_aload_n (x0 := 0) d_M_isNumber_14 rfl rfl ?_
      refine hp_getR fl_M_7 d_M_isNumber_15 fun x3 => ?_
      refine hp_iload_n (x0 := 1) d_M_isNumber_18 rfl rfl ?_
      refine hp_iald d_M_isNumber_19 fun x4 => ?_
      refine hp_iconst (v := 4) d_M_isNumber_20 (by decide) ?_
      refine hp_icmp_ne (tgt := 28) d_M_isNumber_21 (by decide) ?_ ?_
      · refine hp_sub [] rfl ?_
        exact j_M_isNumber_24   _
      · refine hp_sub [] rfl ?_
        exact j_M_isNumber_28   _
theorem t_M_isNumber (l : Launch) (E : hp_E) (a0 : Nat) (a1 : Int32) : hp_M l E y_M_isNumber Y_M_isNumber hp_rI [.ref a0, .int a1] (m_M_isNumber E.2.2.1 a0 a1) := hp_M.of (plainFor_of_name (by decide)) ⟨rfl, rfl⟩ (Nat.le_of_ble_eq_true rfl) (fun Z h hE => by subst hE; exact j_M_isNumber_0 _ _ h)
-- M_orderBytes
theorem d_M_orderBytes_0 : decode prog_9_method_36_code 0 = .ok (.iconst 0, 1) := by decide +kernel
theorem d_M_orderBytes_1 : decode prog_9_method_36_code 1 = .ok (.istore_n 3, 1) := by decide +kernel
theorem d_M_orderBytes_2 : decode prog_9_method_36_code 2 = .ok (.iload_n 3, 1) := by decide +kernel
theorem d_M_orderBytes_3 : decode prog_9_method_36_code 3 = .ok (.aload_n 0, 1) := by decide +kernel
theorem d_M_orderBytes_4 : decode prog_9_method_36_code 4 = .ok (.getfield 26, 3) := by decide +kernel
theorem d_M_orderBytes_7 : decode prog_9_method_36_code 7 = .ok (.iload_n 1, 1) := by decide +kernel
theorem d_M_orderBytes_8 : decode prog_9_method_36_code 8 = .ok (.iaload, 1) := by decide +kernel
theorem d_M_orderBytes_9 : decode prog_9_method_36_code 9 = .ok (.if_icmp .ge 44, 3) := by decide +kernel
theorem d_M_orderBytes_12 : decode prog_9_method_36_code 12 = .ok (.iload_n 3, 1) := by decide +kernel
theorem d_M_orderBytes_13 : decode prog_9_method_36_code 13 = .ok (.aload_n 0, 1) := by decide +kernel
theorem d_M_orderBytes_14 : decode prog_9_method_36_code 14 = .ok (.getfield 26, 3) := by decide +kernel
theorem d_M_orderBytes_17 : decode prog_9_method_36_code 17 = .ok (.iload_n 2, 1) := by decide +kernel
theorem d_M_orderBytes_18 : decode prog_9_method_36_code 18 = .ok (.iaload, 1) := by decide +kernel
theorem d_M_orderBytes_19 : decode prog_9_method_36_code 19 = .ok (.if_icmp .ge 34, 3) := by decide +kernel
theorem d_M_orderBytes_22 : decode prog_9_method_36_code 22 = .ok (.aload_n 0, 1) := by decide +kernel
theorem d_M_orderBytes_23 : decode prog_9_method_36_code 23 = .ok (.getfield 30, 3) := by decide +kernel
theorem d_M_orderBytes_26 : decode prog_9_method_36_code 26 = .ok (.bipush 64, 2) := by decide +kernel
theorem d_M_orderBytes_28 : decode prog_9_method_36_code 28 = .ok (.iload_n 1, 1) := by decide +kernel
theorem d_M_orderBytes_29 : decode prog_9_method_36_code 29 = .ok (.imul, 1) := by decide +kernel
theorem d_M_orderBytes_30 : decode prog_9_method_36_code 30 = .ok (.iload_n 3, 1) := by decide +kernel
theorem d_M_orderBytes_31 : decode prog_9_method_36_code 31 = .ok (.iadd, 1) := by decide +kernel
theorem d_M_orderBytes_32 : decode prog_9_method_36_code 32 = .ok (.iaload, 1) := by decide +kernel
theorem d_M_orderBytes_33 : decode prog_9_method_36_code 33 = .ok (.aload_n 0, 1) := by decide +kernel
theorem d_M_orderBytes_34 : decode prog_9_method_36_code 34 = .ok (.getfield 30, 3) := by decide +kernel
theorem d_M_orderBytes_37 : decode prog_9_method_36_code 37 = .ok (.bipush 64, 2) := by decide +kernel
theorem d_M_orderBytes_39 : decode prog_9_method_36_code 39 = .ok (.iload_n 2, 1) := by decide +kernel
theorem d_M_orderBytes_40 : decode prog_9_method_36_code 40 = .ok (.imul, 1) := by decide +kernel
theorem d_M_orderBytes_41 : decode prog_9_method_36_code 41 = .ok (.iload_n 3, 1) := by decide +kernel
theorem d_M_orderBytes_42 : decode prog_9_method_36_code 42 = .ok (.iadd, 1) := by decide +kernel
theorem d_M_orderBytes_43 : decode prog_9_method_36_code 43 = .ok (.iaload, 1) := by decide +kernel
theorem d_M_orderBytes_44 : decode prog_9_method_36_code 44 = .ok (.if_icmp .ne 9, 3) := by decide +kernel
theorem d_M_orderBytes_47 : decode prog_9_method_36_code 47 = .ok (.iinc 3 1, 3) := by decide +kernel
theorem d_M_orderBytes_50 : decode prog_9_method_36_code 50 = .ok (.goto (-48), 3) := by decide +kernel
theorem d_M_orderBytes_53 : decode prog_9_method_36_code 53 = .ok (.iload_n 3, 1) := by decide +kernel
theorem d_M_orderBytes_54 : decode prog_9_method_36_code 54 = .ok (.aload_n 0, 1) := by decide +kernel
theorem d_M_orderBytes_55 : decode prog_9_method_36_code 55 = .ok (.getfield 26, 3) := by decide +kernel
theorem d_M_orderBytes_58 : decode prog_9_method_36_code 58 = .ok (.iload_n 1, 1) := by decide +kernel
theorem d_M_orderBytes_59 : decode prog_9_method_36_code 59 = .ok (.iaload, 1) := by decide +kernel
theorem d_M_orderBytes_60 : decode prog_9_method_36_code 60 = .ok (.if_icmp .ge 44, 3) := by decide +kernel
theorem d_M_orderBytes_63 : decode prog_9_method_36_code 63 = .ok (.iload_n 3, 1) := by decide +kernel
theorem d_M_orderBytes_64 : decode prog_9_method_36_code 64 = .ok (.aload_n 0, 1) := by decide +kernel
theorem d_M_orderBytes_65 : decode prog_9_method_36_code 65 = .ok (.getfield 26, 3) := by decide +kernel
theorem d_M_orderBytes_68 : decode prog_9_method_36_code 68 = .ok (.iload_n 2, 1) := by decide +kernel
theorem d_M_orderBytes_69 : decode prog_9_method_36_code 69 = .ok (.iaload, 1) := by decide +kernel
theorem d_M_orderBytes_70 : decode prog_9_method_36_code 70 = .ok (.if_icmp .ge 34, 3) := by decide +kernel
theorem d_M_orderBytes_73 : decode prog_9_method_36_code 73 = .ok (.aload_n 0, 1) := by decide +kernel
theorem d_M_orderBytes_74 : decode prog_9_method_36_code 74 = .ok (.getfield 30, 3) := by decide +kernel
theorem d_M_orderBytes_77 : decode prog_9_method_36_code 77 = .ok (.bipush 64, 2) := by decide +kernel
theorem d_M_orderBytes_79 : decode prog_9_method_36_code 79 = .ok (.iload_n 1, 1) := by decide +kernel
theorem d_M_orderBytes_80 : decode prog_9_method_36_code 80 = .ok (.imul, 1) := by decide +kernel
theorem d_M_orderBytes_81 : decode prog_9_method_36_code 81 = .ok (.iload_n 3, 1) := by decide +kernel
theorem d_M_orderBytes_82 : decode prog_9_method_36_code 82 = .ok (.iadd, 1) := by decide +kernel
theorem d_M_orderBytes_83 : decode prog_9_method_36_code 83 = .ok (.iaload, 1) := by decide +kernel
theorem d_M_orderBytes_84 : decode prog_9_method_36_code 84 = .ok (.aload_n 0, 1) := by decide +kernel
theorem d_M_orderBytes_85 : decode prog_9_method_36_code 85 = .ok (.getfield 30, 3) := by decide +kernel
theorem d_M_orderBytes_88 : decode prog_9_method_36_code 88 = .ok (.bipush 64, 2) := by decide +kernel
theorem d_M_orderBytes_90 : decode prog_9_method_36_code 90 = .ok (.iload_n 2, 1) := by decide +kernel
theorem d_M_orderBytes_91 : decode prog_9_method_36_code 91 = .ok (.imul, 1) := by decide +kernel
theorem d_M_orderBytes_92 : decode prog_9_method_36_code 92 = .ok (.iload_n 3, 1) := by decide +kernel
theorem d_M_orderBytes_93 : decode prog_9_method_36_code 93 = .ok (.iadd, 1) := by decide +kernel
theorem d_M_orderBytes_94 : decode prog_9_method_36_code 94 = .ok (.iaload, 1) := by decide +kernel
theorem d_M_orderBytes_95 : decode prog_9_method_36_code 95 = .ok (.if_icmp .ge 7, 3) := by decide +kernel
theorem d_M_orderBytes_98 : decode prog_9_method_36_code 98 = .ok (.iconst (-1), 1) := by decide +kernel
theorem d_M_orderBytes_99 : decode prog_9_method_36_code 99 = .ok (.goto 4, 3) := by decide +kernel
theorem d_M_orderBytes_102 : decode prog_9_method_36_code 102 = .ok (.iconst 1, 1) := by decide +kernel
theorem d_M_orderBytes_103 : decode prog_9_method_36_code 103 = .ok (.ireturn, 1) := by decide +kernel
theorem d_M_orderBytes_104 : decode prog_9_method_36_code 104 = .ok (.iload_n 3, 1) := by decide +kernel
theorem d_M_orderBytes_105 : decode prog_9_method_36_code 105 = .ok (.aload_n 0, 1) := by decide +kernel
theorem d_M_orderBytes_106 : decode prog_9_method_36_code 106 = .ok (.getfield 26, 3) := by decide +kernel
theorem d_M_orderBytes_109 : decode prog_9_method_36_code 109 = .ok (.iload_n 1, 1) := by decide +kernel
theorem d_M_orderBytes_110 : decode prog_9_method_36_code 110 = .ok (.iaload, 1) := by decide +kernel
theorem d_M_orderBytes_111 : decode prog_9_method_36_code 111 = .ok (.if_icmp .ge 7, 3) := by decide +kernel
theorem d_M_orderBytes_114 : decode prog_9_method_36_code 114 = .ok (.iconst 1, 1) := by decide +kernel
theorem d_M_orderBytes_115 : decode prog_9_method_36_code 115 = .ok (.goto 18, 3) := by decide +kernel
theorem d_M_orderBytes_118 : decode prog_9_method_36_code 118 = .ok (.iload_n 3, 1) := by decide +kernel
theorem d_M_orderBytes_119 : decode prog_9_method_36_code 119 = .ok (.aload_n 0, 1) := by decide +kernel
theorem d_M_orderBytes_120 : decode prog_9_method_36_code 120 = .ok (.getfield 26, 3) := by decide +kernel
theorem d_M_orderBytes_123 : decode prog_9_method_36_code 123 = .ok (.iload_n 2, 1) := by decide +kernel
theorem d_M_orderBytes_124 : decode prog_9_method_36_code 124 = .ok (.iaload, 1) := by decide +kernel
theorem d_M_orderBytes_125 : decode prog_9_method_36_code 125 = .ok (.if_icmp .ge 7, 3) := by decide +kernel
theorem d_M_orderBytes_128 : decode prog_9_method_36_code 128 = .ok (.iconst (-1), 1) := by decide +kernel
theorem d_M_orderBytes_129 : decode prog_9_method_36_code 129 = .ok (.goto 4, 3) := by decide +kernel
theorem d_M_orderBytes_132 : decode prog_9_method_36_code 132 = .ok (.iconst 0, 1) := by decide +kernel
theorem d_M_orderBytes_133 : decode prog_9_method_36_code 133 = .ok (.ireturn, 1) := by decide +kernel
def m_M_orderBytes_103 (G : Nat → Nat) (s0 : Int32) (h : hp_H) : Option (Int32 × hp_H) := some (s0, h)
set_option maxRecDepth 100000 in
set_option maxHeartbeats 4000000 in
theorem j_M_orderBytes_103 {Z : hp_Z} (s0 : Int32) (h : hp_H) : hp_J Y_M_orderBytes Z hp_rI h 103 [] [.int s0] (m_M_orderBytes_103 (hp_G Z)  s0 h) := by
  unfold m_M_orderBytes_103
  exact hp_iret d_M_orderBytes_103 rfl
def m_M_orderBytes_133 (G : Nat → Nat) (s0 : Int32) (h : hp_H) : Option (Int32 × hp_H) := some (s0, h)
set_option maxRecDepth 100000 in
set_option maxHeartbeats 4000000 in
theorem j_M_orderBytes_133 {Z : hp_Z} (s0 : Int32) (h : hp_H) : hp_J Y_M_orderBytes Z hp_rI h 133 [] [.int s0] (m_M_orderBytes_133 (hp_G Z)  s0 h) := by
  unfold m_M_orderBytes_133
  exact hp_iret d_M_orderBytes_133 rfl
def m_M_orderBytes_104 (G : Nat → Nat) (a0 : Nat) (a1 : Int32) (a2 : Int32) (a3 : Int32) (h : hp_H) : Option (Int32 × hp_H) := (hp_gR h a0 8 6).bind fun x1 => (hp_aI h .int x1 a1).bind fun x2 => if x2 ≤ a3 then ((hp_gR h a0 8 6).bind fun x3 => (hp_aI h .int x3 a2).bind fun x4 => if x4 ≤ a3 then (m_M_orderBytes_133 G (0 : Int32) h) else (m_M_orderBytes_133 G (-1 : Int32) h)) else (m_M_orderBytes_133 G (1 : Int32) h)
set_option maxRecDepth 100000 in
set_option maxHeartbeats 4000000 in
theorem j_M_orderBytes_104 {Z : hp_Z} (a0 : Nat) (a1 : Int32) (a2 : Int32) (a3 : Int32) (h : hp_H) : hp_J Y_M_orderBytes Z hp_rI h 104 [(0, .ref a0), (1, .int a1), (2, .int a2), (3, .int a3)] [] (m_M_orderBytes_104 (hp_G Z)  a0 a1 a2 a3 h) := by
  unfold m_M_orderBytes_104
  refine hp_iload_n (x0 := 3) d_M_orderBytes_104 rfl rfl ?_
  refine hp_aload_n (x0 := 0) d_M_orderBytes_105 rfl rfl ?_
  refine hp_getR fl_M_26 d_M_orderBytes_106 fun x1 => ?_
  refine hp_iload_n (x0 := 1) d_M_orderBytes_109 rfl rfl ?_
  refine hp_iald d_M_orderBytes_110 fun x2 => ?_
  refine hp_icmp_ge (tgt := 118) d_M_orderBytes_111 (by decide) ?_ ?_
  · refine hp_iload_n (x0 := 3) d_M_orderBytes_118 rfl rfl ?_
    refine hp_aload_n (x0 := 0) d_M_orderBytes_119 rfl rfl ?_
    refine hp_getR fl_M_26 d_M_orderBytes_120 fun x3 => ?_
    refine hp_iload_n (x0 := 2) d_M_orderBytes_123 rfl rfl ?_
    refine hp_iald d_M_orderBytes_124 fun x4 => ?_
    refine hp_icmp_ge (tgt := 132) d_M_orderBytes_125 (by decide) ?_ ?_
    · refine hp_iconst (v := 0) d_M_orderBytes_132 (by decide) ?_
      refine hp_sub [] rfl ?_
      exact j_M_orderBytes_133  _ _
    · refine hp_iconst (v := -1) d_M_orderBytes_128 (by decide) ?_
      refine hp_goto (tgt := 133) d_M_orderBytes_129 (by decide) ?_
      refine hp_sub [] rfl ?_
      exact j_M_orderBytes_133  _ _
  · refine hp_iconst (v := 1) d_M_orderBytes_114 (by decide) ?_
    refine hp_goto (tgt := 133) d_M_orderBytes_115 (by decide) ?_
    refine hp_sub [] rfl ?_
    exact j_M_orderBytes_133  _ _
def m_M_orderBytes_53 (G : Nat → Nat) (a0 : Nat) (a1 : Int32) (a2 : Int32) (a3 : Int32) (h : hp_H) : Option (Int32 × hp_H) := (hp_gR h a0 8 6).bind fun x1 => (hp_aI h .int x1 a1).bind fun x2 => if x2 ≤ a3 then (m_M_orderBytes_104 G a0 a1 a2 a3 h) else ((hp_gR h a0 8 6).bind fun x3 => (hp_aI h .int x3 a2).bind fun x4 => if x4 ≤ a3 then (m_M_orderBytes_104 G a0 a1 a2 a3 h) else ((hp_gR h a0 8 7).bind fun x5 => (hp_aI h .int x5 (((64 : Int32) * a1) + a3)).bind fun x6 => (hp_gR h a0 8 7).bind fun x7 => (hp_aI h .int x7 (((64 : Int32) * a2) + a3)).bind fun x8 => if x8 ≤ x6 then (m_M_orderBytes_103 G (1 : Int32) h) else (m_M_orderBytes_103 G (-1 : Int32) h)))
set_option maxRecDepth 100000 in
set_option maxHeartbeats 4000000 in
theorem j_M_orderBytes_53 {Z : hp_Z} (a0 : Nat) (a1 : Int32) (a2 : Int32) (a3 : Int32) (h : hp_H) : hp_J Y_M_orderBytes Z hp_rI h 53 [(0, .ref a0), (1, .int a1), (2, .int a2), (3, .int a3)] [] (m_M_orderBytes_53 (hp_G Z)  a0 a1 a2 a3 h) := by
  unfold m_M_orderBytes_53
  refine hp_iload_n (x0 := 3) d_M_orderBytes_53 rfl rfl ?_
  refine hp_aload_n (x0 := 0) d_M_orderBytes_54 rfl rfl ?_
  refine hp_getR fl_M_26 d_M_orderBytes_55 fun x1 => ?_
  refine hp_iload_n (x0 := 1) d_M_orderBytes_58 rfl rfl ?_
  refine hp_iald d_M_orderBytes_59 fun x2 => ?_
  refine hp_icmp_ge (tgt := 104) d_M_orderBytes_60 (by decide) ?_ ?_
  · exact j_M_orderBytes_104  _ _ _ _ _
  · refine hp_iload_n (x0 := 3) d_M_orderBytes_63 rfl rfl ?_
    refine hp_aload_n (x0 := 0) d_M_orderBytes_64 rfl rfl ?_
    refine hp_getR fl_M_26 d_M_orderBytes_65 fun x3 => ?_
    refine hp_iload_n (x0 := 2) d_M_orderBytes_68 rfl rfl ?_
    refine hp_iald d_M_orderBytes_69 fun x4 => ?_
    refine hp_icmp_ge (tgt := 104) d_M_orderBytes_70 (by decide) ?_ ?_
    · exact j_M_orderBytes_104  _ _ _ _ _
    · refine hp_aload_n (x0 := 0) d_M_orderBytes_73 rfl rfl ?_
      refine hp_getR fl_M_30 d_M_orderBytes_74 fun x5 => ?_
      refine hp_bipush (v := 64) d_M_orderBytes_77 (by decide) ?_
      refine hp_iload_n (x0 := 1) d_M_orderBytes_79 rfl rfl ?_
      refine hp_imul d_M_orderBytes_80 ?_
      refine hp_iload_n (x0 := 3) d_M_orderBytes_81 rfl rfl ?_
      refine hp_iadd d_M_orderBytes_82 ?_
      refine hp_iald d_M_orderBytes_83 fun x6 => ?_
      refine hp_aload_n (x0 := 0) d_M_orderBytes_84 rfl rfl ?_
      refine hp_getR fl_M_30 d_M_orderBytes_85 fun x7 => ?_
      refine hp_bipush (v := 64) d_M_orderBytes_88 (by decide) ?_
      refine hp_iload_n (x0 := 2) d_M_orderBytes_90 rfl rfl ?_
      refine hp_imul d_M_orderBytes_91 ?_
      refine hp_iload_n (x0 := 3) d_M_orderBytes_92 rfl rfl ?_
      refine hp_iadd d_M_orderBytes_93 ?_
      refine hp_iald d_M_orderBytes_94 fun x8 => ?_
      refine hp_icmp_ge (tgt := 102) d_M_orderBytes_95 (by decide) ?_ ?_
      · refine hp_iconst (v := 1) d_M_orderBytes_102 (by decide) ?_
        refine hp_sub [] rfl ?_
        exact j_M_orderBytes_103  _ _
      · refine hp_iconst (v := -1) d_M_orderBytes_98 (by decide) ?_
        refine hp_goto (tgt := 103) d_M_orderBytes_99 (by decide) ?_
        refine hp_sub [] rfl ?_
        exact j_M_orderBytes_103  _ _
def m_M_orderBytes_2 (G : Nat → Nat) : Nat → Nat → Int32 → Int32 → Int32 → hp_H → Option (Int32 × hp_H)
  | 0, _, _, _, _, _ => none
  | n + 1, a0, a1, a2, a3, h => (hp_gR h a0 8 6).bind fun x1 => (hp_aI h .int x1 a1).bind fun x2 => if x2 ≤ a3 then (m_M_orderBytes_53 G a0 a1 a2 a3 h) else ((hp_gR h a0 8 6).bind fun x3 => (hp_aI h .int x3 a2).bind fun x4 => if x4 ≤ a3 then (m_M_orderBytes_53 G a0 a1 a2 a3 h) else ((hp_gR h a0 8 7).bind fun x5 => (hp_aI h .int x5 (((64 : Int32) * a1) + a3)).bind fun x6 => (hp_gR h a0 8 7).bind fun x7 => (hp_aI h .int x7 (((64 : Int32) * a2) + a3)).bind fun x8 => if x6 = x8 then (hp_nm (a3 + 1) fun x9 => (m_M_orderBytes_2 G  n) a0 a1 a2 x9 h) else (m_M_orderBytes_53 G a0 a1 a2 a3 h)))
set_option maxRecDepth 100000 in
set_option maxHeartbeats 4000000 in
theorem j_M_orderBytes_2 {Z : hp_Z} : ∀ (n : Nat) (a0 : Nat) (a1 : Int32) (a2 : Int32) (a3 : Int32) (h : hp_H), hp_J Y_M_orderBytes Z hp_rI h 2 [(0, .ref a0), (1, .int a1), (2, .int a2), (3, .int a3)] [] (m_M_orderBytes_2 (hp_G Z)  n a0 a1 a2 a3 h) := by
  intro n
  induction n with
  | zero => intro a0 a1 a2 a3 h; exact hp_fail
  | succ n ih =>
    intro a0 a1 a2 a3 h
    rw [m_M_orderBytes_2]
    refine hp_iload_n (x0 := 3) d_M_orderBytes_2 rfl rfl ?_
    refine hp_aload_n (x0 := 0) d_M_orderBytes_3 rfl rfl ?_
    refine hp_getR fl_M_26 d_M_orderBytes_4 fun x1 => ?_
    refine hp_iload_n (x0 := 1) d_M_orderBytes_7 rfl rfl ?_
    refine hp_iald d_M_orderBytes_8 fun x2 => ?_
    refine hp_icmp_ge (tgt := 53) d_M_orderBytes_9 (by decide) ?_ ?_
    · exact j_M_orderBytes_53  _ _ _ _ _
    · refine hp_iload_n (x0 := 3) d_M_orderBytes_12 rfl rfl ?_
      refine hp_aload_n (x0 := 0) d_M_orderBytes_13 rfl rfl ?_
      refine hp_getR fl_M_26 d_M_orderBytes_14 fun x3 => ?_
      refine hp_iload_n (x0 := 2) d_M_orderBytes_17 rfl rfl ?_
      refine hp_iald d_M_orderBytes_18 fun x4 => ?_
      refine hp_icmp_ge (tgt := 53) d_M_orderBytes_19 (by decide) ?_ ?_
      · exact j_M_orderBytes_53  _ _ _ _ _
      · refine hp_aload_n (x0 := 0) d_M_orderBytes_22 rfl rfl ?_
        refine hp_getR fl_M_30 d_M_orderBytes_23 fun x5 => ?_
        refine hp_bipush (v := 64) d_M_orderBytes_26 (by decide) ?_
        refine hp_iload_n (x0 := 1) d_M_orderBytes_28 rfl rfl ?_
        refine hp_imul d_M_orderBytes_29 ?_
        refine hp_iload_n (x0 := 3) d_M_orderBytes_30 rfl rfl ?_
        refine hp_iadd d_M_orderBytes_31 ?_
        refine hp_iald d_M_orderBytes_32 fun x6 => ?_
        refine hp_aload_n (x0 := 0) d_M_orderBytes_33 rfl rfl ?_
        refine hp_getR fl_M_30 d_M_orderBytes_34 fun x7 => ?_
        refine hp_bipush (v := 64) d_M_orderBytes_37 (by decide) ?_
        refine hp_iload_n (x0 := 2) d_M_orderBytes_39 rfl rfl ?_
        refine hp_imul d_M_orderBytes_40 ?_
        refine hp_iload_n (x0 := 3) d_M_orderBytes_41 rfl rfl ?_
        refine hp_iadd d_M_orderBytes_42 ?_
        refine hp_iald d_M_orderBytes_43 fun x8 => ?_
        refine hp_icmp_ne (tgt := 53) d_M_orderBytes_44 (by decide) ?_ ?_
        · refine hp_iinc (x0 := 3) (d := 1) (fun x9 => [(3, .int x9), (0, .ref a0), (1, .int a1), (2, .int a2)]) d_M_orderBytes_47 rfl (by decide) (by decide) (fun _ => rfl) fun x9 => ?_
          refine hp_goto (tgt := 2) d_M_orderBytes_50 (by decide) ?_
          refine hp_sub [1, 2, 3, 0] rfl ?_
          exact ih _ _ _ _ _
        · exact j_M_orderBytes_53  _ _ _ _ _
def m_M_orderBytes (G : Nat → Nat) (a0 : Nat) (a1 : Int32) (a2 : Int32) (h : hp_H) : Option (Int32 × hp_H) := hp_nm (0 : Int32) fun x1 => m_M_orderBytes_2 G hp_fu a0 a1 a2 x1 h
set_option maxRecDepth 100000 in
set_option maxHeartbeats 4000000 in
theorem j_M_orderBytes_0 {Z : hp_Z} (a0 : Nat) (a1 : Int32) (a2 : Int32) (h : hp_H) : hp_J Y_M_orderBytes Z hp_rI h 0 [(0, .ref a0), (1, .int a1), (2, .int a2)] [] (m_M_orderBytes (hp_G Z)  a0 a1 a2 h) := by
  unfold m_M_orderBytes
  refine hp_iconst (v := 0) d_M_orderBytes_0 (by decide) ?_
  refine hp_istore_n (fun x1 => [(3, .int x1), (0, .ref a0), (1, .int a1), (2, .int a2)]) d_M_orderBytes_1 rfl (by decide) (fun _ => rfl) fun x1 => ?_
  refine hp_sub [1, 2, 3, 0] rfl ?_
  exact j_M_orderBytes_2  hp_fu _ _ _ _ _
theorem t_M_orderBytes (l : Launch) (E : hp_E) (a0 : Nat) (a1 : Int32) (a2 : Int32) : hp_M l E y_M_orderBytes Y_M_orderBytes hp_rI [.ref a0, .int a1, .int a2] (m_M_orderBytes E.2.2.1 a0 a1 a2) := hp_M.of (plainFor_of_name (by decide)) ⟨rfl, rfl⟩ (Nat.le_of_ble_eq_true rfl) (fun Z h hE => by subst hE; exact j_M_orderBytes_0 _ _ _ h)
-- M_compare
theorem d_M_compare_0 : decode prog_9_method_8_code 0 = .ok (.bipush 63, 2) := by decide +kernel
theorem d_M_compare_2 : decode prog_9_method_8_code 2 = .ok (.istore_n 2, 1) := by decide +kernel
theorem d_M_compare_3 : decode prog_9_method_8_code 3 = .ok (.iload_n 2, 1) := by decide +kernel
theorem d_M_compare_4 : decode prog_9_method_8_code 4 = .ok (.ifCond .lt 18, 3) := by decide +kernel
theorem d_M_compare_7 : decode prog_9_method_8_code 7 = .ok (.aload_n 0, 1) := by decide +kernel
theorem d_M_compare_8 : decode prog_9_method_8_code 8 = .ok (.iload_n 2, 1) := by decide +kernel
theorem d_M_compare_9 : decode prog_9_method_8_code 9 = .ok (.iaload, 1) := by decide +kernel
theorem d_M_compare_10 : decode prog_9_method_8_code 10 = .ok (.aload_n 1, 1) := by decide +kernel
theorem d_M_compare_11 : decode prog_9_method_8_code 11 = .ok (.iload_n 2, 1) := by decide +kernel
theorem d_M_compare_12 : decode prog_9_method_8_code 12 = .ok (.iaload, 1) := by decide +kernel
theorem d_M_compare_13 : decode prog_9_method_8_code 13 = .ok (.if_icmp .ne 9, 3) := by decide +kernel
theorem d_M_compare_16 : decode prog_9_method_8_code 16 = .ok (.iinc 2 (-1), 3) := by decide +kernel
theorem d_M_compare_19 : decode prog_9_method_8_code 19 = .ok (.goto (-16), 3) := by decide +kernel
theorem d_M_compare_22 : decode prog_9_method_8_code 22 = .ok (.iload_n 2, 1) := by decide +kernel
theorem d_M_compare_23 : decode prog_9_method_8_code 23 = .ok (.ifCond .ge 7, 3) := by decide +kernel
theorem d_M_compare_26 : decode prog_9_method_8_code 26 = .ok (.iconst 0, 1) := by decide +kernel
theorem d_M_compare_27 : decode prog_9_method_8_code 27 = .ok (.goto 17, 3) := by decide +kernel
theorem d_M_compare_30 : decode prog_9_method_8_code 30 = .ok (.aload_n 0, 1) := by decide +kernel
theorem d_M_compare_31 : decode prog_9_method_8_code 31 = .ok (.iload_n 2, 1) := by decide +kernel
theorem d_M_compare_32 : decode prog_9_method_8_code 32 = .ok (.iaload, 1) := by decide +kernel
theorem d_M_compare_33 : decode prog_9_method_8_code 33 = .ok (.aload_n 1, 1) := by decide +kernel
theorem d_M_compare_34 : decode prog_9_method_8_code 34 = .ok (.iload_n 2, 1) := by decide +kernel
theorem d_M_compare_35 : decode prog_9_method_8_code 35 = .ok (.iaload, 1) := by decide +kernel
theorem d_M_compare_36 : decode prog_9_method_8_code 36 = .ok (.if_icmp .ge 7, 3) := by decide +kernel
theorem d_M_compare_39 : decode prog_9_method_8_code 39 = .ok (.iconst (-1), 1) := by decide +kernel
theorem d_M_compare_40 : decode prog_9_method_8_code 40 = .ok (.goto 4, 3) := by decide +kernel
theorem d_M_compare_43 : decode prog_9_method_8_code 43 = .ok (.iconst 1, 1) := by decide +kernel
theorem d_M_compare_44 : decode prog_9_method_8_code 44 = .ok (.ireturn, 1) := by decide +kernel
def m_M_compare_44 (G : Nat → Nat) (s0 : Int32) (h : hp_H) : Option (Int32 × hp_H) := some (s0, h)
set_option maxRecDepth 100000 in
set_option maxHeartbeats 4000000 in
theorem j_M_compare_44 {Z : hp_Z} (s0 : Int32) (h : hp_H) : hp_J Y_M_compare Z hp_rI h 44 [] [.int s0] (m_M_compare_44 (hp_G Z)  s0 h) := by
  unfold m_M_compare_44
  exact hp_iret d_M_compare_44 rfl
def m_M_compare_22 (G : Nat → Nat) (a0 : Nat) (a1 : Nat) (a2 : Int32) (h : hp_H) : Option (Int32 × hp_H) := if 0 ≤ a2 then ((hp_aI h .int a0 a2).bind fun x1 => (hp_aI h .int a1 a2).bind fun x2 => if x2 ≤ x1 then (m_M_compare_44 G (1 : Int32) h) else (m_M_compare_44 G (-1 : Int32) h)) else (m_M_compare_44 G (0 : Int32) h)
set_option maxRecDepth 100000 in
set_option maxHeartbeats 4000000 in
theorem j_M_compare_22 {Z : hp_Z} (a0 : Nat) (a1 : Nat) (a2 : Int32) (h : hp_H) : hp_J Y_M_compare Z hp_rI h 22 [(0, .ref a0), (1, .ref a1), (2, .int a2)] [] (m_M_compare_22 (hp_G Z)  a0 a1 a2 h) := by
  unfold m_M_compare_22
  refine hp_iload_n (x0 := 2) d_M_compare_22 rfl rfl ?_
  refine hp_if_ge (tgt := 30) d_M_compare_23 (by decide) ?_ ?_
  · refine hp_aload_n (x0 := 0) d_M_compare_30 rfl rfl ?_
    refine hp_iload_n (x0 := 2) d_M_compare_31 rfl rfl ?_
    refine hp_iald d_M_compare_32 fun x1 => ?_
    refine hp_aload_n (x0 := 1) d_M_compare_33 rfl rfl ?_
    refine hp_iload_n (x0 := 2) d_M_compare_34 rfl rfl ?_
    refine hp_iald d_M_compare_35 fun x2 => ?_
    refine hp_icmp_ge (tgt := 43) d_M_compare_36 (by decide) ?_ ?_
    · refine hp_iconst (v := 1) d_M_compare_43 (by decide) ?_
      refine hp_sub [] rfl ?_
      exact j_M_compare_44  _ _
    · refine hp_iconst (v := -1) d_M_compare_39 (by decide) ?_
      refine hp_goto (tgt := 44) d_M_compare_40 (by decide) ?_
      refine hp_sub [] rfl ?_
      exact j_M_compare_44  _ _
  · refine hp_iconst (v := 0) d_M_compare_26 (by decide) ?_
    refine hp_goto (tgt := 44) d_M_compare_27 (by decide) ?_
    refine hp_sub [] rfl ?_
    exact j_M_compare_44  _ _
def m_M_compare_3 (G : Nat → Nat) : Nat → Nat → Nat → Int32 → hp_H → Option (Int32 × hp_H)
  | 0, _, _, _, _ => none
  | n + 1, a0, a1, a2, h => if a2 < 0 then (m_M_compare_22 G a0 a1 a2 h) else ((hp_aI h .int a0 a2).bind fun x1 => (hp_aI h .int a1 a2).bind fun x2 => if x1 = x2 then (hp_nm (a2 + (-1)) fun x3 => (m_M_compare_3 G  n) a0 a1 x3 h) else (m_M_compare_22 G a0 a1 a2 h))
set_option maxRecDepth 100000 in
set_option maxHeartbeats 4000000 in
theorem j_M_compare_3 {Z : hp_Z} : ∀ (n : Nat) (a0 : Nat) (a1 : Nat) (a2 : Int32) (h : hp_H), hp_J Y_M_compare Z hp_rI h 3 [(0, .ref a0), (1, .ref a1), (2, .int a2)] [] (m_M_compare_3 (hp_G Z)  n a0 a1 a2 h) := by
  intro n
  induction n with
  | zero => intro a0 a1 a2 h; exact hp_fail
  | succ n ih =>
    intro a0 a1 a2 h
    rw [m_M_compare_3]
    refine hp_iload_n (x0 := 2) d_M_compare_3 rfl rfl ?_
    refine hp_if_lt (tgt := 22) d_M_compare_4 (by decide) ?_ ?_
    · exact j_M_compare_22  _ _ _ _
    · refine hp_aload_n (x0 := 0) d_M_compare_7 rfl rfl ?_
      refine hp_iload_n (x0 := 2) d_M_compare_8 rfl rfl ?_
      refine hp_iald d_M_compare_9 fun x1 => ?_
      refine hp_aload_n (x0 := 1) d_M_compare_10 rfl rfl ?_
      refine hp_iload_n (x0 := 2) d_M_compare_11 rfl rfl ?_
      refine hp_iald d_M_compare_12 fun x2 => ?_
      refine hp_icmp_ne (tgt := 22) d_M_compare_13 (by decide) ?_ ?_
      · refine hp_iinc (x0 := 2) (d := -1) (fun x3 => [(2, .int x3), (0, .ref a0), (1, .ref a1)]) d_M_compare_16 rfl (by decide) (by decide) (fun _ => rfl) fun x3 => ?_
        refine hp_goto (tgt := 3) d_M_compare_19 (by decide) ?_
        refine hp_sub [1, 2, 0] rfl ?_
        exact ih _ _ _ _
      · exact j_M_compare_22  _ _ _ _
def m_M_compare (G : Nat → Nat) (a0 : Nat) (a1 : Nat) (h : hp_H) : Option (Int32 × hp_H) := hp_nm (63 : Int32) fun x1 => m_M_compare_3 G hp_fu a0 a1 x1 h
set_option maxRecDepth 100000 in
set_option maxHeartbeats 4000000 in
theorem j_M_compare_0 {Z : hp_Z} (a0 : Nat) (a1 : Nat) (h : hp_H) : hp_J Y_M_compare Z hp_rI h 0 [(0, .ref a0), (1, .ref a1)] [] (m_M_compare (hp_G Z)  a0 a1 h) := by
  unfold m_M_compare
  refine hp_bipush (v := 63) d_M_compare_0 (by decide) ?_
  refine hp_istore_n (fun x1 => [(2, .int x1), (0, .ref a0), (1, .ref a1)]) d_M_compare_2 rfl (by decide) (fun _ => rfl) fun x1 => ?_
  refine hp_sub [1, 2, 0] rfl ?_
  exact j_M_compare_3  hp_fu _ _ _ _
theorem t_M_compare (l : Launch) (E : hp_E) (a0 : Nat) (a1 : Nat) : hp_M l E y_M_compare Y_M_compare hp_rI [.ref a0, .ref a1] (m_M_compare E.2.2.1 a0 a1) := hp_M.of (plainFor_of_name (by decide)) ⟨rfl, rfl⟩ (Nat.le_of_ble_eq_true rfl) (fun Z h hE => by subst hE; exact j_M_compare_0 _ _ h)
-- M_lay
theorem d_M_lay_0 : decode prog_9_method_7_code 0 = .ok (.aload_n 2, 1) := by decide +kernel
theorem d_M_lay_1 : decode prog_9_method_7_code 1 = .ok (.invokestatic 95, 3) := by decide +kernel
theorem d_M_lay_4 : decode prog_9_method_7_code 4 = .ok (.iconst 0, 1) := by decide +kernel
theorem d_M_lay_5 : decode prog_9_method_7_code 5 = .ok (.istore_n 3, 1) := by decide +kernel
theorem d_M_lay_6 : decode prog_9_method_7_code 6 = .ok (.iload_n 3, 1) := by decide +kernel
theorem d_M_lay_7 : decode prog_9_method_7_code 7 = .ok (.bipush 18, 2) := by decide +kernel
theorem d_M_lay_9 : decode prog_9_method_7_code 9 = .ok (.if_icmp .ge 33, 3) := by decide +kernel
theorem d_M_lay_12 : decode prog_9_method_7_code 12 = .ok (.aload_n 2, 1) := by decide +kernel
theorem d_M_lay_13 : decode prog_9_method_7_code 13 = .ok (.bipush 18, 2) := by decide +kernel
theorem d_M_lay_15 : decode prog_9_method_7_code 15 = .ok (.aload_n 0, 1) := by decide +kernel
theorem d_M_lay_16 : decode prog_9_method_7_code 16 = .ok (.getfield 19, 3) := by decide +kernel
theorem d_M_lay_19 : decode prog_9_method_7_code 19 = .ok (.iload_n 1, 1) := by decide +kernel
theorem d_M_lay_20 : decode prog_9_method_7_code 20 = .ok (.iaload, 1) := by decide +kernel
theorem d_M_lay_21 : decode prog_9_method_7_code 21 = .ok (.isub, 1) := by decide +kernel
theorem d_M_lay_22 : decode prog_9_method_7_code 22 = .ok (.iload_n 3, 1) := by decide +kernel
theorem d_M_lay_23 : decode prog_9_method_7_code 23 = .ok (.iadd, 1) := by decide +kernel
theorem d_M_lay_24 : decode prog_9_method_7_code 24 = .ok (.aload_n 0, 1) := by decide +kernel
theorem d_M_lay_25 : decode prog_9_method_7_code 25 = .ok (.getfield 23, 3) := by decide +kernel
theorem d_M_lay_28 : decode prog_9_method_7_code 28 = .ok (.bipush 18, 2) := by decide +kernel
theorem d_M_lay_30 : decode prog_9_method_7_code 30 = .ok (.iload_n 1, 1) := by decide +kernel
theorem d_M_lay_31 : decode prog_9_method_7_code 31 = .ok (.imul, 1) := by decide +kernel
theorem d_M_lay_32 : decode prog_9_method_7_code 32 = .ok (.iload_n 3, 1) := by decide +kernel
theorem d_M_lay_33 : decode prog_9_method_7_code 33 = .ok (.iadd, 1) := by decide +kernel
theorem d_M_lay_34 : decode prog_9_method_7_code 34 = .ok (.iaload, 1) := by decide +kernel
theorem d_M_lay_35 : decode prog_9_method_7_code 35 = .ok (.iastore, 1) := by decide +kernel
theorem d_M_lay_36 : decode prog_9_method_7_code 36 = .ok (.iinc 3 1, 3) := by decide +kernel
theorem d_M_lay_39 : decode prog_9_method_7_code 39 = .ok (.goto (-33), 3) := by decide +kernel
theorem d_M_lay_42 : decode prog_9_method_7_code 42 = .ok (.return_, 1) := by decide +kernel
def m_M_lay_6 (G : Nat → Nat) : Nat → Nat → Int32 → Nat → Int32 → hp_H → Option (Unit × hp_H)
  | 0, _, _, _, _, _ => none
  | n + 1, a0, a1, a2, a3, h => if (18 : Int32) ≤ a3 then (some ((), h)) else ((hp_gR h a0 8 4).bind fun x1 => (hp_aI h .int x1 a1).bind fun x2 => (hp_gR h a0 8 5).bind fun x3 => (hp_aI h .int x3 (((18 : Int32) * a1) + a3)).bind fun x4 => (hp_sI h .int a2 (((18 : Int32) - x2) + a3) x4).bind fun h5 => hp_nm (a3 + 1) fun x6 => (m_M_lay_6 G  n) a0 a1 a2 x6 h5)
set_option maxRecDepth 100000 in
set_option maxHeartbeats 4000000 in
theorem j_M_lay_6 {Z : hp_Z} : ∀ (n : Nat) (a0 : Nat) (a1 : Int32) (a2 : Nat) (a3 : Int32) (h : hp_H), hp_J Y_M_lay Z hp_rV h 6 [(0, .ref a0), (1, .int a1), (2, .ref a2), (3, .int a3)] [] (m_M_lay_6 (hp_G Z)  n a0 a1 a2 a3 h) := by
  intro n
  induction n with
  | zero => intro a0 a1 a2 a3 h; exact hp_fail
  | succ n ih =>
    intro a0 a1 a2 a3 h
    rw [m_M_lay_6]
    refine hp_iload_n (x0 := 3) d_M_lay_6 rfl rfl ?_
    refine hp_bipush (v := 18) d_M_lay_7 (by decide) ?_
    refine hp_icmp_ge (tgt := 42) d_M_lay_9 (by decide) ?_ ?_
    · exact hp_vret d_M_lay_42 rfl
    · refine hp_aload_n (x0 := 2) d_M_lay_12 rfl rfl ?_
      refine hp_bipush (v := 18) d_M_lay_13 (by decide) ?_
      refine hp_aload_n (x0 := 0) d_M_lay_15 rfl rfl ?_
      refine hp_getR fl_M_19 d_M_lay_16 fun x1 => ?_
      refine hp_iload_n (x0 := 1) d_M_lay_19 rfl rfl ?_
      refine hp_iald d_M_lay_20 fun x2 => ?_
      refine hp_isub d_M_lay_21 ?_
      refine hp_iload_n (x0 := 3) d_M_lay_22 rfl rfl ?_
      refine hp_iadd d_M_lay_23 ?_
      refine hp_aload_n (x0 := 0) d_M_lay_24 rfl rfl ?_
      refine hp_getR fl_M_23 d_M_lay_25 fun x3 => ?_
      refine hp_bipush (v := 18) d_M_lay_28 (by decide) ?_
      refine hp_iload_n (x0 := 1) d_M_lay_30 rfl rfl ?_
      refine hp_imul d_M_lay_31 ?_
      refine hp_iload_n (x0 := 3) d_M_lay_32 rfl rfl ?_
      refine hp_iadd d_M_lay_33 ?_
      refine hp_iald d_M_lay_34 fun x4 => ?_
      refine hp_iast d_M_lay_35 fun h5 => ?_
      refine hp_iinc (x0 := 3) (d := 1) (fun x6 => [(3, .int x6), (0, .ref a0), (1, .int a1), (2, .ref a2)]) d_M_lay_36 rfl (by decide) (by decide) (fun _ => rfl) fun x6 => ?_
      refine hp_goto (tgt := 6) d_M_lay_39 (by decide) ?_
      refine hp_sub [1, 2, 3, 0] rfl ?_
      exact ih _ _ _ _ _
def m_M_lay (G : Nat → Nat) (a0 : Nat) (a1 : Int32) (a2 : Nat) (h : hp_H) : Option (Unit × hp_H) := (m_M_clear G a2 h).bind fun q1 => hp_nm (0 : Int32) fun x2 => m_M_lay_6 G hp_fu a0 a1 a2 x2 q1.2
set_option maxRecDepth 100000 in
set_option maxHeartbeats 4000000 in
theorem j_M_lay_0 {Z : hp_Z} (a0 : Nat) (a1 : Int32) (a2 : Nat) (h : hp_H) : hp_J Y_M_lay Z hp_rV h 0 [(0, .ref a0), (1, .int a1), (2, .ref a2)] [] (m_M_lay (hp_G Z)  a0 a1 a2 h) := by
  unfold m_M_lay
  refine hp_aload_n (x0 := 2) d_M_lay_0 rfl rfl ?_
  refine hp_callU (hp_crS (t_M_clear _ _ _) cw_M_95 w_976 (by decide) rfl rfl (Nat.le_of_ble_eq_true rfl) d_M_lay_1) fun q1 => ?_
  refine hp_iconst (v := 0) d_M_lay_4 (by decide) ?_
  refine hp_istore_n (fun x2 => [(3, .int x2), (0, .ref a0), (1, .int a1), (2, .ref a2)]) d_M_lay_5 rfl (by decide) (fun _ => rfl) fun x2 => ?_
  refine hp_sub [1, 2, 3, 0] rfl ?_
  exact j_M_lay_6  hp_fu _ _ _ _ _
theorem t_M_lay (l : Launch) (E : hp_E) (a0 : Nat) (a1 : Int32) (a2 : Nat) : hp_M l E y_M_lay Y_M_lay hp_rV [.ref a0, .int a1, .ref a2] (m_M_lay E.2.2.1 a0 a1 a2) := hp_M.of (plainFor_of_name (by decide)) ⟨rfl, rfl⟩ (Nat.le_of_ble_eq_true rfl) (fun Z h hE => by subst hE; exact j_M_lay_0 _ _ _ h)
-- M_orderNumbers
theorem d_M_orderNumbers_0 : decode prog_9_method_21_code 0 = .ok (.aload_n 0, 1) := by decide +kernel
theorem d_M_orderNumbers_1 : decode prog_9_method_21_code 1 = .ok (.getfield 16, 3) := by decide +kernel
theorem d_M_orderNumbers_4 : decode prog_9_method_21_code 4 = .ok (.iload_n 1, 1) := by decide +kernel
theorem d_M_orderNumbers_5 : decode prog_9_method_21_code 5 = .ok (.iaload, 1) := by decide +kernel
theorem d_M_orderNumbers_6 : decode prog_9_method_21_code 6 = .ok (.aload_n 0, 1) := by decide +kernel
theorem d_M_orderNumbers_7 : decode prog_9_method_21_code 7 = .ok (.getfield 16, 3) := by decide +kernel
theorem d_M_orderNumbers_10 : decode prog_9_method_21_code 10 = .ok (.iload_n 2, 1) := by decide +kernel
theorem d_M_orderNumbers_11 : decode prog_9_method_21_code 11 = .ok (.iaload, 1) := by decide +kernel
theorem d_M_orderNumbers_12 : decode prog_9_method_21_code 12 = .ok (.if_icmp .eq 24, 3) := by decide +kernel
theorem d_M_orderNumbers_15 : decode prog_9_method_21_code 15 = .ok (.aload_n 0, 1) := by decide +kernel
theorem d_M_orderNumbers_16 : decode prog_9_method_21_code 16 = .ok (.getfield 16, 3) := by decide +kernel
theorem d_M_orderNumbers_19 : decode prog_9_method_21_code 19 = .ok (.iload_n 1, 1) := by decide +kernel
theorem d_M_orderNumbers_20 : decode prog_9_method_21_code 20 = .ok (.iaload, 1) := by decide +kernel
theorem d_M_orderNumbers_21 : decode prog_9_method_21_code 21 = .ok (.aload_n 0, 1) := by decide +kernel
theorem d_M_orderNumbers_22 : decode prog_9_method_21_code 22 = .ok (.getfield 16, 3) := by decide +kernel
theorem d_M_orderNumbers_25 : decode prog_9_method_21_code 25 = .ok (.iload_n 2, 1) := by decide +kernel
theorem d_M_orderNumbers_26 : decode prog_9_method_21_code 26 = .ok (.iaload, 1) := by decide +kernel
theorem d_M_orderNumbers_27 : decode prog_9_method_21_code 27 = .ok (.if_icmp .ge 7, 3) := by decide +kernel
theorem d_M_orderNumbers_30 : decode prog_9_method_21_code 30 = .ok (.iconst (-1), 1) := by decide +kernel
theorem d_M_orderNumbers_31 : decode prog_9_method_21_code 31 = .ok (.goto 4, 3) := by decide +kernel
theorem d_M_orderNumbers_34 : decode prog_9_method_21_code 34 = .ok (.iconst 1, 1) := by decide +kernel
theorem d_M_orderNumbers_35 : decode prog_9_method_21_code 35 = .ok (.ireturn, 1) := by decide +kernel
theorem d_M_orderNumbers_36 : decode prog_9_method_21_code 36 = .ok (.aload_n 0, 1) := by decide +kernel
theorem d_M_orderNumbers_37 : decode prog_9_method_21_code 37 = .ok (.iload_n 1, 1) := by decide +kernel
theorem d_M_orderNumbers_38 : decode prog_9_method_21_code 38 = .ok (.aload_n 0, 1) := by decide +kernel
theorem d_M_orderNumbers_39 : decode prog_9_method_21_code 39 = .ok (.getfield 42, 3) := by decide +kernel
theorem d_M_orderNumbers_42 : decode prog_9_method_21_code 42 = .ok (.invokevirtual 115, 3) := by decide +kernel
theorem d_M_orderNumbers_45 : decode prog_9_method_21_code 45 = .ok (.aload_n 0, 1) := by decide +kernel
theorem d_M_orderNumbers_46 : decode prog_9_method_21_code 46 = .ok (.iload_n 2, 1) := by decide +kernel
theorem d_M_orderNumbers_47 : decode prog_9_method_21_code 47 = .ok (.aload_n 0, 1) := by decide +kernel
theorem d_M_orderNumbers_48 : decode prog_9_method_21_code 48 = .ok (.getfield 45, 3) := by decide +kernel
theorem d_M_orderNumbers_51 : decode prog_9_method_21_code 51 = .ok (.invokevirtual 115, 3) := by decide +kernel
theorem d_M_orderNumbers_54 : decode prog_9_method_21_code 54 = .ok (.aload_n 0, 1) := by decide +kernel
theorem d_M_orderNumbers_55 : decode prog_9_method_21_code 55 = .ok (.getfield 16, 3) := by decide +kernel
theorem d_M_orderNumbers_58 : decode prog_9_method_21_code 58 = .ok (.iload_n 1, 1) := by decide +kernel
theorem d_M_orderNumbers_59 : decode prog_9_method_21_code 59 = .ok (.iaload, 1) := by decide +kernel
theorem d_M_orderNumbers_60 : decode prog_9_method_21_code 60 = .ok (.aload_n 0, 1) := by decide +kernel
theorem d_M_orderNumbers_61 : decode prog_9_method_21_code 61 = .ok (.getfield 42, 3) := by decide +kernel
theorem d_M_orderNumbers_64 : decode prog_9_method_21_code 64 = .ok (.aload_n 0, 1) := by decide +kernel
theorem d_M_orderNumbers_65 : decode prog_9_method_21_code 65 = .ok (.getfield 45, 3) := by decide +kernel
theorem d_M_orderNumbers_68 : decode prog_9_method_21_code 68 = .ok (.invokestatic 131, 3) := by decide +kernel
theorem d_M_orderNumbers_71 : decode prog_9_method_21_code 71 = .ok (.imul, 1) := by decide +kernel
theorem d_M_orderNumbers_72 : decode prog_9_method_21_code 72 = .ok (.ireturn, 1) := by decide +kernel
def m_M_orderNumbers_35 (G : Nat → Nat) (s0 : Int32) (h : hp_H) : Option (Int32 × hp_H) := some (s0, h)
set_option maxRecDepth 100000 in
set_option maxHeartbeats 4000000 in
theorem j_M_orderNumbers_35 {Z : hp_Z} (s0 : Int32) (h : hp_H) : hp_J Y_M_orderNumbers Z hp_rI h 35 [] [.int s0] (m_M_orderNumbers_35 (hp_G Z)  s0 h) := by
  unfold m_M_orderNumbers_35
  exact hp_iret d_M_orderNumbers_35 rfl
def m_M_orderNumbers (G : Nat → Nat) (a0 : Nat) (a1 : Int32) (a2 : Int32) (h : hp_H) : Option (Int32 × hp_H) := (hp_gR h a0 8 3).bind fun x1 => (hp_aI h .int x1 a1).bind fun x2 => (hp_gR h a0 8 3).bind fun x3 => (hp_aI h .int x3 a2).bind fun x4 => if x2 = x4 then ((hp_gR h a0 8 17).bind fun x5 => (hp_vck h a0 8 (m_M_lay G a0 a1 x5 h)).bind fun q6 => (hp_gR q6.2 a0 8 18).bind fun x7 => (hp_vck q6.2 a0 8 (m_M_lay G a0 a2 x7 q6.2)).bind fun q8 => (hp_gR q8.2 a0 8 3).bind fun x9 => (hp_aI q8.2 .int x9 a1).bind fun x10 => (hp_gR q8.2 a0 8 17).bind fun x11 => (hp_gR q8.2 a0 8 18).bind fun x12 => (m_M_compare G x11 x12 q8.2).bind fun q13 => some (x10 * q13.1, q13.2)) else ((hp_gR h a0 8 3).bind fun x14 => (hp_aI h .int x14 a1).bind fun x15 => (hp_gR h a0 8 3).bind fun x16 => (hp_aI h .int x16 a2).bind fun x17 => if x17 ≤ x15 then (m_M_orderNumbers_35 G (1 : Int32) h) else (m_M_orderNumbers_35 G (-1 : Int32) h))
set_option maxRecDepth 100000 in
set_option maxHeartbeats 4000000 in
theorem j_M_orderNumbers_0 {Z : hp_Z} (a0 : Nat) (a1 : Int32) (a2 : Int32) (h : hp_H) : hp_J Y_M_orderNumbers Z hp_rI h 0 [(0, .ref a0), (1, .int a1), (2, .int a2)] [] (m_M_orderNumbers (hp_G Z)  a0 a1 a2 h) := by
  unfold m_M_orderNumbers
  refine hp_aload_n (x0 := 0) d_M_orderNumbers_0 rfl rfl ?_
  refine hp_getR fl_M_16 d_M_orderNumbers_1 fun x1 => ?_
  refine hp_iload_n (x0 := 1) d_M_orderNumbers_4 rfl rfl ?_
  refine hp_iald d_M_orderNumbers_5 fun x2 => ?_
  refine hp_aload_n (x0 := 0) d_M_orderNumbers_6 rfl rfl ?_
  refine hp_getR fl_M_16 d_M_orderNumbers_7 fun x3 => ?_
  refine hp_iload_n (x0 := 2) d_M_orderNumbers_10 rfl rfl ?_
  refine hp_iald d_M_orderNumbers_11 fun x4 => ?_
  refine hp_icmp_eq (tgt := 36) d_M_orderNumbers_12 (by decide) ?_ ?_
  · refine hp_aload_n (x0 := 0) d_M_orderNumbers_36 rfl rfl ?_
    refine hp_iload_n (x0 := 1) d_M_orderNumbers_37 rfl rfl ?_
    refine hp_aload_n (x0 := 0) d_M_orderNumbers_38 rfl rfl ?_
    refine hp_getR fl_M_42 d_M_orderNumbers_39 fun x5 => ?_
    refine hp_callU (hp_crV (ci := 8) (t_M_lay _ _ _ _ _) cw_M_115 rfl ⟨w_1060, ws_49⟩ (by decide) rfl rfl (Nat.le_of_ble_eq_true rfl) d_M_orderNumbers_42) fun q6 => ?_
    refine hp_aload_n (x0 := 0) d_M_orderNumbers_45 rfl rfl ?_
    refine hp_iload_n (x0 := 2) d_M_orderNumbers_46 rfl rfl ?_
    refine hp_aload_n (x0 := 0) d_M_orderNumbers_47 rfl rfl ?_
    refine hp_getR fl_M_45 d_M_orderNumbers_48 fun x7 => ?_
    refine hp_callU (hp_crV (ci := 8) (t_M_lay _ _ _ _ _) cw_M_115 rfl ⟨w_1060, ws_49⟩ (by decide) rfl rfl (Nat.le_of_ble_eq_true rfl) d_M_orderNumbers_51) fun q8 => ?_
    refine hp_aload_n (x0 := 0) d_M_orderNumbers_54 rfl rfl ?_
    refine hp_getR fl_M_16 d_M_orderNumbers_55 fun x9 => ?_
    refine hp_iload_n (x0 := 1) d_M_orderNumbers_58 rfl rfl ?_
    refine hp_iald d_M_orderNumbers_59 fun x10 => ?_
    refine hp_aload_n (x0 := 0) d_M_orderNumbers_60 rfl rfl ?_
    refine hp_getR fl_M_42 d_M_orderNumbers_61 fun x11 => ?_
    refine hp_aload_n (x0 := 0) d_M_orderNumbers_64 rfl rfl ?_
    refine hp_getR fl_M_45 d_M_orderNumbers_65 fun x12 => ?_
    refine hp_callI (hp_crS (t_M_compare _ _ _ _) cw_M_131 w_1063 (by decide) rfl rfl (Nat.le_of_ble_eq_true rfl) d_M_orderNumbers_68) fun q13 => ?_
    refine hp_imul d_M_orderNumbers_71 ?_
    exact hp_iret d_M_orderNumbers_72 rfl
  · refine hp_aload_n (x0 := 0) d_M_orderNumbers_15 rfl rfl ?_
    refine hp_getR fl_M_16 d_M_orderNumbers_16 fun x14 => ?_
    refine hp_iload_n (x0 := 1) d_M_orderNumbers_19 rfl rfl ?_
    refine hp_iald d_M_orderNumbers_20 fun x15 => ?_
    refine hp_aload_n (x0 := 0) d_M_orderNumbers_21 rfl rfl ?_
    refine hp_getR fl_M_16 d_M_orderNumbers_22 fun x16 => ?_
    refine hp_iload_n (x0 := 2) d_M_orderNumbers_25 rfl rfl ?_
    refine hp_iald d_M_orderNumbers_26 fun x17 => ?_
    refine hp_icmp_ge (tgt := 34) d_M_orderNumbers_27 (by decide) ?_ ?_
    · refine hp_iconst (v := 1) d_M_orderNumbers_34 (by decide) ?_
      refine hp_sub [] rfl ?_
      exact j_M_orderNumbers_35  _ _
    · refine hp_iconst (v := -1) d_M_orderNumbers_30 (by decide) ?_
      refine hp_goto (tgt := 35) d_M_orderNumbers_31 (by decide) ?_
      refine hp_sub [] rfl ?_
      exact j_M_orderNumbers_35  _ _
theorem t_M_orderNumbers (l : Launch) (E : hp_E) (a0 : Nat) (a1 : Int32) (a2 : Int32) : hp_M l E y_M_orderNumbers Y_M_orderNumbers hp_rI [.ref a0, .int a1, .int a2] (m_M_orderNumbers E.2.2.1 a0 a1 a2) := hp_M.of (plainFor_of_name (by decide)) ⟨rfl, rfl⟩ (Nat.le_of_ble_eq_true rfl) (fun Z h hE => by subst hE; exact j_M_orderNumbers_0 _ _ _ h)
-- M_rank
theorem d_M_rank_0 : decode prog_9_method_35_code 0 = .ok (.aload_n 0, 1) := by decide +kernel
theorem d_M_rank_1 : decode prog_9_method_35_code 1 = .ok (.getfield 7, 3) := by decide +kernel
theorem d_M_rank_4 : decode prog_9_method_35_code 4 = .ok (.iload_n 1, 1) := by decide +kernel
theorem d_M_rank_5 : decode prog_9_method_35_code 5 = .ok (.iaload, 1) := by decide +kernel
theorem d_M_rank_6 : decode prog_9_method_35_code 6 = .ok (.iconst 4, 1) := by decide +kernel
theorem d_M_rank_7 : decode prog_9_method_35_code 7 = .ok (.if_icmp .ne 7, 3) := by decide +kernel
theorem d_M_rank_10 : decode prog_9_method_35_code 10 = .ok (.iconst 3, 1) := by decide +kernel
theorem d_M_rank_11 : decode prog_9_method_35_code 11 = .ok (.goto 9, 3) := by decide +kernel
theorem d_M_rank_14 : decode prog_9_method_35_code 14 = .ok (.aload_n 0, 1) := by decide +kernel
theorem d_M_rank_15 : decode prog_9_method_35_code 15 = .ok (.getfield 7, 3) := by decide +kernel
theorem d_M_rank_18 : decode prog_9_method_35_code 18 = .ok (.iload_n 1, 1) := by decide +kernel
theorem d_M_rank_19 : decode prog_9_method_35_code 19 = .ok (.iaload, 1) := by decide +kernel
theorem d_M_rank_20 : decode prog_9_method_35_code 20 = .ok (.ireturn, 1) := by decide +kernel
def m_M_rank_20 (G : Nat → Nat) (s0 : Int32) (h : hp_H) : Option (Int32 × hp_H) := some (s0, h)
set_option maxRecDepth 100000 in
set_option maxHeartbeats 4000000 in
theorem j_M_rank_20 {Z : hp_Z} (s0 : Int32) (h : hp_H) : hp_J Y_M_rank Z hp_rI h 20 [] [.int s0] (m_M_rank_20 (hp_G Z)  s0 h) := by
  unfold m_M_rank_20
  exact hp_iret d_M_rank_20 rfl
def m_M_rank (G : Nat → Nat) (a0 : Nat) (a1 : Int32) (h : hp_H) : Option (Int32 × hp_H) := (hp_gR h a0 8 1).bind fun x1 => (hp_aI h .int x1 a1).bind fun x2 => if x2 = (4 : Int32) then (m_M_rank_20 G (3 : Int32) h) else ((hp_gR h a0 8 1).bind fun x3 => (hp_aI h .int x3 a1).bind fun x4 => m_M_rank_20 G x4 h)
set_option maxRecDepth 100000 in
set_option maxHeartbeats 4000000 in
theorem j_M_rank_0 {Z : hp_Z} (a0 : Nat) (a1 : Int32) (h : hp_H) : hp_J Y_M_rank Z hp_rI h 0 [(0, .ref a0), (1, .int a1)] [] (m_M_rank (hp_G Z)  a0 a1 h) := by
  unfold m_M_rank
  refine hp_aload_n (x0 := 0) d_M_rank_0 rfl rfl ?_
  refine hp_getR fl_M_7 d_M_rank_1 fun x1 => ?_
  refine hp_iload_n (x0 := 1) d_M_rank_4 rfl rfl ?_
  refine hp_iald d_M_rank_5 fun x2 => ?_
  refine hp_iconst (v := 4) d_M_rank_6 (by decide) ?_
  refine hp_icmp_ne (tgt := 14) d_M_rank_7 (by decide) ?_ ?_
  · refine hp_iconst (v := 3) d_M_rank_10 (by decide) ?_
    refine hp_goto (tgt := 20) d_M_rank_11 (by decide) ?_
    refine hp_sub [] rfl ?_
    exact j_M_rank_20  _ _
  · refine hp_aload_n (x0 := 0) d_M_rank_14 rfl rfl ?_
    refine hp_getR fl_M_7 d_M_rank_15 fun x3 => ?_
    refine hp_iload_n (x0 := 1) d_M_rank_18 rfl rfl ?_
    refine hp_iald d_M_rank_19 fun x4 => ?_
    refine hp_sub [] rfl ?_
    exact j_M_rank_20  _ _
theorem t_M_rank (l : Launch) (E : hp_E) (a0 : Nat) (a1 : Int32) : hp_M l E y_M_rank Y_M_rank hp_rI [.ref a0, .int a1] (m_M_rank E.2.2.1 a0 a1) := hp_M.of (plainFor_of_name (by decide)) ⟨rfl, rfl⟩ (Nat.le_of_ble_eq_true rfl) (fun Z h hE => by subst hE; exact j_M_rank_0 _ _ h)
-- M_orderOf
theorem d_M_orderOf_0 : decode prog_9_method_37_code 0 = .ok (.aload_n 0, 1) := by decide +kernel
theorem d_M_orderOf_1 : decode prog_9_method_37_code 1 = .ok (.iload_n 1, 1) := by decide +kernel
theorem d_M_orderOf_2 : decode prog_9_method_37_code 2 = .ok (.invokevirtual 164, 3) := by decide +kernel
theorem d_M_orderOf_5 : decode prog_9_method_37_code 5 = .ok (.aload_n 0, 1) := by decide +kernel
theorem d_M_orderOf_6 : decode prog_9_method_37_code 6 = .ok (.iload_n 2, 1) := by decide +kernel
theorem d_M_orderOf_7 : decode prog_9_method_37_code 7 = .ok (.invokevirtual 164, 3) := by decide +kernel
theorem d_M_orderOf_10 : decode prog_9_method_37_code 10 = .ok (.if_icmp .eq 22, 3) := by decide +kernel
theorem d_M_orderOf_13 : decode prog_9_method_37_code 13 = .ok (.aload_n 0, 1) := by decide +kernel
theorem d_M_orderOf_14 : decode prog_9_method_37_code 14 = .ok (.iload_n 1, 1) := by decide +kernel
theorem d_M_orderOf_15 : decode prog_9_method_37_code 15 = .ok (.invokevirtual 164, 3) := by decide +kernel
theorem d_M_orderOf_18 : decode prog_9_method_37_code 18 = .ok (.aload_n 0, 1) := by decide +kernel
theorem d_M_orderOf_19 : decode prog_9_method_37_code 19 = .ok (.iload_n 2, 1) := by decide +kernel
theorem d_M_orderOf_20 : decode prog_9_method_37_code 20 = .ok (.invokevirtual 164, 3) := by decide +kernel
theorem d_M_orderOf_23 : decode prog_9_method_37_code 23 = .ok (.if_icmp .ge 7, 3) := by decide +kernel
theorem d_M_orderOf_26 : decode prog_9_method_37_code 26 = .ok (.iconst (-1), 1) := by decide +kernel
theorem d_M_orderOf_27 : decode prog_9_method_37_code 27 = .ok (.goto 4, 3) := by decide +kernel
theorem d_M_orderOf_30 : decode prog_9_method_37_code 30 = .ok (.iconst 1, 1) := by decide +kernel
theorem d_M_orderOf_31 : decode prog_9_method_37_code 31 = .ok (.ireturn, 1) := by decide +kernel
theorem d_M_orderOf_32 : decode prog_9_method_37_code 32 = .ok (.aload_n 0, 1) := by decide +kernel
theorem d_M_orderOf_33 : decode prog_9_method_37_code 33 = .ok (.iload_n 1, 1) := by decide +kernel
theorem d_M_orderOf_34 : decode prog_9_method_37_code 34 = .ok (.invokevirtual 168, 3) := by decide +kernel
theorem d_M_orderOf_37 : decode prog_9_method_37_code 37 = .ok (.ifCond .eq 12, 3) := by decide +kernel
theorem d_M_orderOf_40 : decode prog_9_method_37_code 40 = .ok (.aload_n 0, 1) := by decide +kernel
theorem d_M_orderOf_41 : decode prog_9_method_37_code 41 = .ok (.iload_n 1, 1) := by decide +kernel
theorem d_M_orderOf_42 : decode prog_9_method_37_code 42 = .ok (.iload_n 2, 1) := by decide +kernel
theorem d_M_orderOf_43 : decode prog_9_method_37_code 43 = .ok (.invokevirtual 171, 3) := by decide +kernel
theorem d_M_orderOf_46 : decode prog_9_method_37_code 46 = .ok (.goto 9, 3) := by decide +kernel
theorem d_M_orderOf_49 : decode prog_9_method_37_code 49 = .ok (.aload_n 0, 1) := by decide +kernel
theorem d_M_orderOf_50 : decode prog_9_method_37_code 50 = .ok (.iload_n 1, 1) := by decide +kernel
theorem d_M_orderOf_51 : decode prog_9_method_37_code 51 = .ok (.iload_n 2, 1) := by decide +kernel
theorem d_M_orderOf_52 : decode prog_9_method_37_code 52 = .ok (.invokevirtual 175, 3) := by decide +kernel
theorem d_M_orderOf_55 : decode prog_9_method_37_code 55 = .ok (.istore_n 3, 1) := by decide +kernel
theorem d_M_orderOf_56 : decode prog_9_method_37_code 56 = .ok (.iload_n 3, 1) := by decide +kernel
theorem d_M_orderOf_57 : decode prog_9_method_37_code 57 = .ok (.ifCond .eq 5, 3) := by decide +kernel
theorem d_M_orderOf_60 : decode prog_9_method_37_code 60 = .ok (.iload_n 3, 1) := by decide +kernel
theorem d_M_orderOf_61 : decode prog_9_method_37_code 61 = .ok (.ireturn, 1) := by decide +kernel
theorem d_M_orderOf_62 : decode prog_9_method_37_code 62 = .ok (.aload_n 0, 1) := by decide +kernel
theorem d_M_orderOf_63 : decode prog_9_method_37_code 63 = .ok (.getfield 7, 3) := by decide +kernel
theorem d_M_orderOf_66 : decode prog_9_method_37_code 66 = .ok (.iload_n 1, 1) := by decide +kernel
theorem d_M_orderOf_67 : decode prog_9_method_37_code 67 = .ok (.iaload, 1) := by decide +kernel
theorem d_M_orderOf_68 : decode prog_9_method_37_code 68 = .ok (.aload_n 0, 1) := by decide +kernel
theorem d_M_orderOf_69 : decode prog_9_method_37_code 69 = .ok (.getfield 7, 3) := by decide +kernel
theorem d_M_orderOf_72 : decode prog_9_method_37_code 72 = .ok (.iload_n 2, 1) := by decide +kernel
theorem d_M_orderOf_73 : decode prog_9_method_37_code 73 = .ok (.iaload, 1) := by decide +kernel
theorem d_M_orderOf_74 : decode prog_9_method_37_code 74 = .ok (.if_icmp .eq 24, 3) := by decide +kernel
theorem d_M_orderOf_77 : decode prog_9_method_37_code 77 = .ok (.aload_n 0, 1) := by decide +kernel
theorem d_M_orderOf_78 : decode prog_9_method_37_code 78 = .ok (.getfield 7, 3) := by decide +kernel
theorem d_M_orderOf_81 : decode prog_9_method_37_code 81 = .ok (.iload_n 1, 1) := by decide +kernel
theorem d_M_orderOf_82 : decode prog_9_method_37_code 82 = .ok (.iaload, 1) := by decide +kernel
theorem d_M_orderOf_83 : decode prog_9_method_37_code 83 = .ok (.aload_n 0, 1) := by decide +kernel
theorem d_M_orderOf_84 : decode prog_9_method_37_code 84 = .ok (.getfield 7, 3) := by decide +kernel
theorem d_M_orderOf_87 : decode prog_9_method_37_code 87 = .ok (.iload_n 2, 1) := by decide +kernel
theorem d_M_orderOf_88 : decode prog_9_method_37_code 88 = .ok (.iaload, 1) := by decide +kernel
theorem d_M_orderOf_89 : decode prog_9_method_37_code 89 = .ok (.if_icmp .ge 7, 3) := by decide +kernel
theorem d_M_orderOf_92 : decode prog_9_method_37_code 92 = .ok (.iconst (-1), 1) := by decide +kernel
theorem d_M_orderOf_93 : decode prog_9_method_37_code 93 = .ok (.goto 4, 3) := by decide +kernel
theorem d_M_orderOf_96 : decode prog_9_method_37_code 96 = .ok (.iconst 1, 1) := by decide +kernel
theorem d_M_orderOf_97 : decode prog_9_method_37_code 97 = .ok (.ireturn, 1) := by decide +kernel
theorem d_M_orderOf_98 : decode prog_9_method_37_code 98 = .ok (.aload_n 0, 1) := by decide +kernel
theorem d_M_orderOf_99 : decode prog_9_method_37_code 99 = .ok (.getfield 13, 3) := by decide +kernel
theorem d_M_orderOf_102 : decode prog_9_method_37_code 102 = .ok (.iload_n 1, 1) := by decide +kernel
theorem d_M_orderOf_103 : decode prog_9_method_37_code 103 = .ok (.iaload, 1) := by decide +kernel
theorem d_M_orderOf_104 : decode prog_9_method_37_code 104 = .ok (.aload_n 0, 1) := by decide +kernel
theorem d_M_orderOf_105 : decode prog_9_method_37_code 105 = .ok (.getfield 13, 3) := by decide +kernel
theorem d_M_orderOf_108 : decode prog_9_method_37_code 108 = .ok (.iload_n 2, 1) := by decide +kernel
theorem d_M_orderOf_109 : decode prog_9_method_37_code 109 = .ok (.iaload, 1) := by decide +kernel
theorem d_M_orderOf_110 : decode prog_9_method_37_code 110 = .ok (.if_icmp .ge 7, 3) := by decide +kernel
theorem d_M_orderOf_113 : decode prog_9_method_37_code 113 = .ok (.iconst (-1), 1) := by decide +kernel
theorem d_M_orderOf_114 : decode prog_9_method_37_code 114 = .ok (.goto 23, 3) := by decide +kernel
theorem d_M_orderOf_117 : decode prog_9_method_37_code 117 = .ok (.aload_n 0, 1) := by decide +kernel
theorem d_M_orderOf_118 : decode prog_9_method_37_code 118 = .ok (.getfield 13, 3) := by decide +kernel
theorem d_M_orderOf_121 : decode prog_9_method_37_code 121 = .ok (.iload_n 1, 1) := by decide +kernel
theorem d_M_orderOf_122 : decode prog_9_method_37_code 122 = .ok (.iaload, 1) := by decide +kernel
theorem d_M_orderOf_123 : decode prog_9_method_37_code 123 = .ok (.aload_n 0, 1) := by decide +kernel
theorem d_M_orderOf_124 : decode prog_9_method_37_code 124 = .ok (.getfield 13, 3) := by decide +kernel
theorem d_M_orderOf_127 : decode prog_9_method_37_code 127 = .ok (.iload_n 2, 1) := by decide +kernel
theorem d_M_orderOf_128 : decode prog_9_method_37_code 128 = .ok (.iaload, 1) := by decide +kernel
theorem d_M_orderOf_129 : decode prog_9_method_37_code 129 = .ok (.if_icmp .le 7, 3) := by decide +kernel
theorem d_M_orderOf_132 : decode prog_9_method_37_code 132 = .ok (.iconst 1, 1) := by decide +kernel
theorem d_M_orderOf_133 : decode prog_9_method_37_code 133 = .ok (.goto 4, 3) := by decide +kernel
theorem d_M_orderOf_136 : decode prog_9_method_37_code 136 = .ok (.iconst 0, 1) := by decide +kernel
theorem d_M_orderOf_137 : decode prog_9_method_37_code 137 = .ok (.ireturn, 1) := by decide +kernel
def m_M_orderOf_31 (G : Nat → Nat) (s0 : Int32) (h : hp_H) : Option (Int32 × hp_H) := some (s0, h)
set_option maxRecDepth 100000 in
set_option maxHeartbeats 4000000 in
theorem j_M_orderOf_31 {Z : hp_Z} (s0 : Int32) (h : hp_H) : hp_J Y_M_orderOf Z hp_rI h 31 [] [.int s0] (m_M_orderOf_31 (hp_G Z)  s0 h) := by
  unfold m_M_orderOf_31
  exact hp_iret d_M_orderOf_31 rfl
def m_M_orderOf_97 (G : Nat → Nat) (s0 : Int32) (h : hp_H) : Option (Int32 × hp_H) := some (s0, h)
set_option maxRecDepth 100000 in
set_option maxHeartbeats 4000000 in
theorem j_M_orderOf_97 {Z : hp_Z} (s0 : Int32) (h : hp_H) : hp_J Y_M_orderOf Z hp_rI h 97 [] [.int s0] (m_M_orderOf_97 (hp_G Z)  s0 h) := by
  unfold m_M_orderOf_97
  exact hp_iret d_M_orderOf_97 rfl
def m_M_orderOf_137 (G : Nat → Nat) (s0 : Int32) (h : hp_H) : Option (Int32 × hp_H) := some (s0, h)
set_option maxRecDepth 100000 in
set_option maxHeartbeats 4000000 in
theorem j_M_orderOf_137 {Z : hp_Z} (s0 : Int32) (h : hp_H) : hp_J Y_M_orderOf Z hp_rI h 137 [] [.int s0] (m_M_orderOf_137 (hp_G Z)  s0 h) := by
  unfold m_M_orderOf_137
  exact hp_iret d_M_orderOf_137 rfl
def m_M_orderOf_55 (G : Nat → Nat) (a0 : Nat) (a1 : Int32) (a2 : Int32) (s0 : Int32) (h : hp_H) : Option (Int32 × hp_H) := hp_nm s0 fun x1 => if x1 = 0 then ((hp_gR h a0 8 1).bind fun x2 => (hp_aI h .int x2 a1).bind fun x3 => (hp_gR h a0 8 1).bind fun x4 => (hp_aI h .int x4 a2).bind fun x5 => if x3 = x5 then ((hp_gR h a0 8 2).bind fun x6 => (hp_aI h .int x6 a1).bind fun x7 => (hp_gR h a0 8 2).bind fun x8 => (hp_aI h .int x8 a2).bind fun x9 => if x9 ≤ x7 then ((hp_gR h a0 8 2).bind fun x10 => (hp_aI h .int x10 a1).bind fun x11 => (hp_gR h a0 8 2).bind fun x12 => (hp_aI h .int x12 a2).bind fun x13 => if x11 ≤ x13 then (m_M_orderOf_137 G (0 : Int32) h) else (m_M_orderOf_137 G (1 : Int32) h)) else (m_M_orderOf_137 G (-1 : Int32) h)) else ((hp_gR h a0 8 1).bind fun x14 => (hp_aI h .int x14 a1).bind fun x15 => (hp_gR h a0 8 1).bind fun x16 => (hp_aI h .int x16 a2).bind fun x17 => if x17 ≤ x15 then (m_M_orderOf_97 G (1 : Int32) h) else (m_M_orderOf_97 G (-1 : Int32) h))) else (some (x1, h))
set_option maxRecDepth 100000 in
set_option maxHeartbeats 4000000 in
theorem j_M_orderOf_55 {Z : hp_Z} (a0 : Nat) (a1 : Int32) (a2 : Int32) (s0 : Int32) (h : hp_H) : hp_J Y_M_orderOf Z hp_rI h 55 [(0, .ref a0), (1, .int a1), (2, .int a2)] [.int s0] (m_M_orderOf_55 (hp_G Z)  a0 a1 a2 s0 h) := by
  unfold m_M_orderOf_55
  refine hp_istore_n (fun x1 => [(3, .int x1), (0, .ref a0), (1, .int a1), (2, .int a2)]) d_M_orderOf_55 rfl (by decide) (fun _ => rfl) fun x1 => ?_
  refine hp_iload_n (x0 := 0) d_M_orderOf_56 rfl rfl ?_
  refine hp_if_eq (tgt := 62) d_M_orderOf_57 (by decide) ?_ ?_
  · refine hp_aload_n (x0 := 1) d_M_orderOf_62 rfl rfl ?_
    refine hp_getR fl_M_7 d_M_orderOf_63 fun x2 => ?_
    refine hp_iload_n (x0 := 2) d_M_orderOf_66 rfl rfl ?_
    refine hp_iald d_M_orderOf_67 fun x3 => ?_
    refine hp_aload_n (x0 := 1) d_M_orderOf_68 rfl rfl ?_
    refine hp_getR fl_M_7 d_M_orderOf_69 fun x4 => ?_
    refine hp_iload_n (x0 := 3) d_M_orderOf_72 rfl rfl ?_
    refine hp_iald d_M_orderOf_73 fun x5 => ?_
    refine hp_icmp_eq (tgt := 98) d_M_orderOf_74 (by decide) ?_ ?_
    · refine hp_aload_n (x0 := 1) d_M_orderOf_98 rfl rfl ?_
      refine hp_getR fl_M_13 d_M_orderOf_99 fun x6 => ?_
      refine hp_iload_n (x0 := 2) d_M_orderOf_102 rfl rfl ?_
      refine hp_iald d_M_orderOf_103 fun x7 => ?_
      refine hp_aload_n (x0 := 1) d_M_orderOf_104 rfl rfl ?_
      refine hp_getR fl_M_13 d_M_orderOf_105 fun x8 => ?_
      refine hp_iload_n (x0 := 3) d_M_orderOf_108 rfl rfl ?_
      refine hp_iald d_M_orderOf_109 fun x9 => ?_
      refine hp_icmp_ge (tgt := 117) d_M_orderOf_110 (by decide) ?_ ?_
      · refine hp_aload_n (x0 := 1) d_M_orderOf_117 rfl rfl ?_
        refine hp_getR fl_M_13 d_M_orderOf_118 fun x10 => ?_
        refine hp_iload_n (x0 := 2) d_M_orderOf_121 rfl rfl ?_
        refine hp_iald d_M_orderOf_122 fun x11 => ?_
        refine hp_aload_n (x0 := 1) d_M_orderOf_123 rfl rfl ?_
        refine hp_getR fl_M_13 d_M_orderOf_124 fun x12 => ?_
        refine hp_iload_n (x0 := 3) d_M_orderOf_127 rfl rfl ?_
        refine hp_iald d_M_orderOf_128 fun x13 => ?_
        refine hp_icmp_le (tgt := 136) d_M_orderOf_129 (by decide) ?_ ?_
        · refine hp_iconst (v := 0) d_M_orderOf_136 (by decide) ?_
          refine hp_sub [] rfl ?_
          exact j_M_orderOf_137  _ _
        · refine hp_iconst (v := 1) d_M_orderOf_132 (by decide) ?_
          refine hp_goto (tgt := 137) d_M_orderOf_133 (by decide) ?_
          refine hp_sub [] rfl ?_
          exact j_M_orderOf_137  _ _
      · refine hp_iconst (v := -1) d_M_orderOf_113 (by decide) ?_
        refine hp_goto (tgt := 137) d_M_orderOf_114 (by decide) ?_
        refine hp_sub [] rfl ?_
        exact j_M_orderOf_137  _ _
    · refine hp_aload_n (x0 := 1) d_M_orderOf_77 rfl rfl ?_
      refine hp_getR fl_M_7 d_M_orderOf_78 fun x14 => ?_
      refine hp_iload_n (x0 := 2) d_M_orderOf_81 rfl rfl ?_
      refine hp_iald d_M_orderOf_82 fun x15 => ?_
      refine hp_aload_n (x0 := 1) d_M_orderOf_83 rfl rfl ?_
      refine hp_getR fl_M_7 d_M_orderOf_84 fun x16 => ?_
      refine hp_iload_n (x0 := 3) d_M_orderOf_87 rfl rfl ?_
      refine hp_iald d_M_orderOf_88 fun x17 => ?_
      refine hp_icmp_ge (tgt := 96) d_M_orderOf_89 (by decide) ?_ ?_
      · refine hp_iconst (v := 1) d_M_orderOf_96 (by decide) ?_
        refine hp_sub [] rfl ?_
        exact j_M_orderOf_97  _ _
      · refine hp_iconst (v := -1) d_M_orderOf_92 (by decide) ?_
        refine hp_goto (tgt := 97) d_M_orderOf_93 (by decide) ?_
        refine hp_sub [] rfl ?_
        exact j_M_orderOf_97  _ _
  · refine hp_iload_n (x0 := 0) d_M_orderOf_60 rfl rfl ?_
    exact hp_iret d_M_orderOf_61 rfl
def m_M_orderOf (G : Nat → Nat) (a0 : Nat) (a1 : Int32) (a2 : Int32) (h : hp_H) : Option (Int32 × hp_H) := (hp_vck h a0 8 (m_M_rank G a0 a1 h)).bind fun q1 => (hp_vck q1.2 a0 8 (m_M_rank G a0 a2 q1.2)).bind fun q2 => if q1.1 = q2.1 then ((hp_vck q2.2 a0 8 (m_M_isNumber G a0 a1 q2.2)).bind fun q3 => if q3.1 = 0 then ((hp_vck q3.2 a0 8 (m_M_orderBytes G a0 a1 a2 q3.2)).bind fun q4 => m_M_orderOf_55 G a0 a1 a2 q4.1 q4.2) else ((hp_vck q3.2 a0 8 (m_M_orderNumbers G a0 a1 a2 q3.2)).bind fun q5 => m_M_orderOf_55 G a0 a1 a2 q5.1 q5.2)) else ((hp_vck q2.2 a0 8 (m_M_rank G a0 a1 q2.2)).bind fun q6 => (hp_vck q6.2 a0 8 (m_M_rank G a0 a2 q6.2)).bind fun q7 => if q7.1 ≤ q6.1 then (m_M_orderOf_31 G (1 : Int32) q7.2) else (m_M_orderOf_31 G (-1 : Int32) q7.2))
set_option maxRecDepth 100000 in
set_option maxHeartbeats 4000000 in
theorem j_M_orderOf_0 {Z : hp_Z} (a0 : Nat) (a1 : Int32) (a2 : Int32) (h : hp_H) : hp_J Y_M_orderOf Z hp_rI h 0 [(0, .ref a0), (1, .int a1), (2, .int a2)] [] (m_M_orderOf (hp_G Z)  a0 a1 a2 h) := by
  unfold m_M_orderOf
  refine hp_aload_n (x0 := 0) d_M_orderOf_0 rfl rfl ?_
  refine hp_iload_n (x0 := 1) d_M_orderOf_1 rfl rfl ?_
  refine hp_callI (hp_crV (ci := 8) (t_M_rank _ _ _ _) cw_M_164 rfl ⟨w_1048, ws_46⟩ (by decide) rfl rfl (Nat.le_of_ble_eq_true rfl) d_M_orderOf_2) fun q1 => ?_
  refine hp_aload_n (x0 := 0) d_M_orderOf_5 rfl rfl ?_
  refine hp_iload_n (x0 := 2) d_M_orderOf_6 rfl rfl ?_
  refine hp_callI (hp_crV (ci := 8) (t_M_rank _ _ _ _) cw_M_164 rfl ⟨w_1048, ws_46⟩ (by decide) rfl rfl (Nat.le_of_ble_eq_true rfl) d_M_orderOf_7) fun q2 => ?_
  refine hp_icmp_eq (tgt := 32) d_M_orderOf_10 (by decide) ?_ ?_
  · refine hp_aload_n (x0 := 0) d_M_orderOf_32 rfl rfl ?_
    refine hp_iload_n (x0 := 1) d_M_orderOf_33 rfl rfl ?_
    refine hp_callI (hp_crV (ci := 8) (t_M_isNumber _ _ _ _) cw_M_168 rfl ⟨w_1052, ws_47⟩ (by decide) rfl rfl (Nat.le_of_ble_eq_true rfl) d_M_orderOf_34) fun q3 => ?_
    refine hp_if_eq (tgt := 49) d_M_orderOf_37 (by decide) ?_ ?_
    · refine hp_aload_n (x0 := 0) d_M_orderOf_49 rfl rfl ?_
      refine hp_iload_n (x0 := 1) d_M_orderOf_50 rfl rfl ?_
      refine hp_iload_n (x0 := 2) d_M_orderOf_51 rfl rfl ?_
      refine hp_callI (hp_crV (ci := 8) (t_M_orderBytes _ _ _ _ _) cw_M_175 rfl ⟨w_1067, ws_50⟩ (by decide) rfl rfl (Nat.le_of_ble_eq_true rfl) d_M_orderOf_52) fun q4 => ?_
      exact j_M_orderOf_55  _ _ _ _ _
    · refine hp_aload_n (x0 := 0) d_M_orderOf_40 rfl rfl ?_
      refine hp_iload_n (x0 := 1) d_M_orderOf_41 rfl rfl ?_
      refine hp_iload_n (x0 := 2) d_M_orderOf_42 rfl rfl ?_
      refine hp_callI (hp_crV (ci := 8) (t_M_orderNumbers _ _ _ _ _) cw_M_171 rfl ⟨w_1056, ws_48⟩ (by decide) rfl rfl (Nat.le_of_ble_eq_true rfl) d_M_orderOf_43) fun q5 => ?_
      refine hp_goto (tgt := 55) d_M_orderOf_46 (by decide) ?_
      exact j_M_orderOf_55  _ _ _ _ _
  · refine hp_aload_n (x0 := 0) d_M_orderOf_13 rfl rfl ?_
    refine hp_iload_n (x0 := 1) d_M_orderOf_14 rfl rfl ?_
    refine hp_callI (hp_crV (ci := 8) (t_M_rank _ _ _ _) cw_M_164 rfl ⟨w_1048, ws_46⟩ (by decide) rfl rfl (Nat.le_of_ble_eq_true rfl) d_M_orderOf_15) fun q6 => ?_
    refine hp_aload_n (x0 := 0) d_M_orderOf_18 rfl rfl ?_
    refine hp_iload_n (x0 := 2) d_M_orderOf_19 rfl rfl ?_
    refine hp_callI (hp_crV (ci := 8) (t_M_rank _ _ _ _) cw_M_164 rfl ⟨w_1048, ws_46⟩ (by decide) rfl rfl (Nat.le_of_ble_eq_true rfl) d_M_orderOf_20) fun q7 => ?_
    refine hp_icmp_ge (tgt := 30) d_M_orderOf_23 (by decide) ?_ ?_
    · refine hp_iconst (v := 1) d_M_orderOf_30 (by decide) ?_
      refine hp_sub [] rfl ?_
      exact j_M_orderOf_31  _ _
    · refine hp_iconst (v := -1) d_M_orderOf_26 (by decide) ?_
      refine hp_goto (tgt := 31) d_M_orderOf_27 (by decide) ?_
      refine hp_sub [] rfl ?_
      exact j_M_orderOf_31  _ _
theorem t_M_orderOf (l : Launch) (E : hp_E) (a0 : Nat) (a1 : Int32) (a2 : Int32) : hp_M l E y_M_orderOf Y_M_orderOf hp_rI [.ref a0, .int a1, .int a2] (m_M_orderOf E.2.2.1 a0 a1 a2) := hp_M.of (plainFor_of_name (by decide)) ⟨rfl, rfl⟩ (Nat.le_of_ble_eq_true rfl) (fun Z h hE => by subst hE; exact j_M_orderOf_0 _ _ _ h)
