-- S_count
theorem d_S_count_0 : decode prog_6_method_2_code 0 = .ok (.aload_n 0, 1) := by decide +kernel
theorem d_S_count_1 : decode prog_6_method_2_code 1 = .ok (.getfield 12, 3) := by decide +kernel
theorem d_S_count_4 : decode prog_6_method_2_code 4 = .ok (.invokevirtual 42, 3) := by decide +kernel
theorem d_S_count_7 : decode prog_6_method_2_code 7 = .ok (.ireturn, 1) := by decide +kernel
def m_S_count (G : Nat → Nat) (a0 : Nat) (h : hp_H) : Option (Int32 × hp_H) := (hp_gR h a0 1 0).bind fun x1 => (hp_vck h x1 2 (m_AL_size G x1 h)).bind fun q2 => some (q2.1, q2.2)
set_option maxRecDepth 100000 in
set_option maxHeartbeats 4000000 in
theorem j_S_count_0 {Z : hp_Z} (a0 : Nat) (h : hp_H) : hp_J Y_S_count Z hp_rI h 0 [(0, .ref a0)] [] (m_S_count (hp_G Z)  a0 h) := by
  unfold m_S_count
  refine hp_aload_n (x0 := 0) d_S_count_0 rfl rfl ?_
  refine hp_getR fl_S_12 d_S_count_1 fun x1 => ?_
  refine hp_callI (hp_crV (ci := 2) (t_AL_size _ _ _) cw_S_42 rfl ⟨w_294, w_295⟩ (by decide) rfl rfl (Nat.le_of_ble_eq_true rfl) d_S_count_4) fun q2 => ?_
  exact hp_iret d_S_count_7 rfl
theorem t_S_count (l : Launch) (E : hp_E) (a0 : Nat) : hp_M l E y_S_count Y_S_count hp_rI [.ref a0] (m_S_count E.2.2.1 a0) := hp_M.of (plainFor_of_name (by decide)) ⟨rfl, rfl⟩ (Nat.le_of_ble_eq_true rfl) (fun Z h hE => by subst hE; exact j_S_count_0 _ h)
-- D_values
theorem d_D_values_0 : decode prog_1_method_11_code 0 = .ok (.aload_n 0, 1) := by decide +kernel
theorem d_D_values_1 : decode prog_1_method_11_code 1 = .ok (.getfield 10, 3) := by decide +kernel
theorem d_D_values_4 : decode prog_1_method_11_code 4 = .ok (.invokevirtual 103, 3) := by decide +kernel
theorem d_D_values_7 : decode prog_1_method_11_code 7 = .ok (.ireturn, 1) := by decide +kernel
def m_D_values (G : Nat → Nat) (a0 : Nat) (h : hp_H) : Option (Int32 × hp_H) := (hp_gR h a0 0 0).bind fun x1 => (hp_vck h x1 1 (m_S_count G x1 h)).bind fun q2 => some (q2.1, q2.2)
set_option maxRecDepth 100000 in
set_option maxHeartbeats 4000000 in
theorem j_D_values_0 {Z : hp_Z} (a0 : Nat) (h : hp_H) : hp_J Y_D_values Z hp_rI h 0 [(0, .ref a0)] [] (m_D_values (hp_G Z)  a0 h) := by
  unfold m_D_values
  refine hp_aload_n (x0 := 0) d_D_values_0 rfl rfl ?_
  refine hp_getR fl_D_10 d_D_values_1 fun x1 => ?_
  refine hp_callI (hp_crV (ci := 1) (t_S_count _ _ _) cw_D_103 rfl ⟨w_442, w_443⟩ (by decide) rfl rfl (Nat.le_of_ble_eq_true rfl) d_D_values_4) fun q2 => ?_
  exact hp_iret d_D_values_7 rfl
theorem t_D_values (l : Launch) (E : hp_E) (a0 : Nat) : hp_M l E y_D_values Y_D_values hp_rI [.ref a0] (m_D_values E.2.2.1 a0) := hp_M.of (plainFor_of_name (by decide)) ⟨rfl, rfl⟩ (Nat.le_of_ble_eq_true rfl) (fun Z h hE => by subst hE; exact j_D_values_0 _ h)
-- IN_compare
theorem d_IN_compare_0 : decode prog_12_method_40_code 0 = .ok (.iload_n 0, 1) := by decide +kernel
theorem d_IN_compare_1 : decode prog_12_method_40_code 1 = .ok (.iload_n 1, 1) := by decide +kernel
theorem d_IN_compare_2 : decode prog_12_method_40_code 2 = .ok (.if_icmp .ge 7, 3) := by decide +kernel
theorem d_IN_compare_5 : decode prog_12_method_40_code 5 = .ok (.iconst (-1), 1) := by decide +kernel
theorem d_IN_compare_6 : decode prog_12_method_40_code 6 = .ok (.goto 13, 3) := by decide +kernel
theorem d_IN_compare_9 : decode prog_12_method_40_code 9 = .ok (.iload_n 0, 1) := by decide +kernel
theorem d_IN_compare_10 : decode prog_12_method_40_code 10 = .ok (.iload_n 1, 1) := by decide +kernel
theorem d_IN_compare_11 : decode prog_12_method_40_code 11 = .ok (.if_icmp .ne 7, 3) := by decide +kernel
theorem d_IN_compare_14 : decode prog_12_method_40_code 14 = .ok (.iconst 0, 1) := by decide +kernel
theorem d_IN_compare_15 : decode prog_12_method_40_code 15 = .ok (.goto 4, 3) := by decide +kernel
theorem d_IN_compare_18 : decode prog_12_method_40_code 18 = .ok (.iconst 1, 1) := by decide +kernel
theorem d_IN_compare_19 : decode prog_12_method_40_code 19 = .ok (.ireturn, 1) := by decide +kernel
def m_IN_compare_19 (G : Nat → Nat) (s0 : Int32) (h : hp_H) : Option (Int32 × hp_H) := some (s0, h)
set_option maxRecDepth 100000 in
set_option maxHeartbeats 4000000 in
theorem j_IN_compare_19 {Z : hp_Z} (s0 : Int32) (h : hp_H) : hp_J Y_IN_compare Z hp_rI h 19 [] [.int s0] (m_IN_compare_19 (hp_G Z)  s0 h) := by
  unfold m_IN_compare_19
  exact hp_iret d_IN_compare_19 rfl
def m_IN_compare (G : Nat → Nat) (a0 : Int32) (a1 : Int32) (h : hp_H) : Option (Int32 × hp_H) := if a1 ≤ a0 then (if a0 = a1 then (m_IN_compare_19 G (0 : Int32) h) else (m_IN_compare_19 G (1 : Int32) h)) else (m_IN_compare_19 G (-1 : Int32) h)
set_option maxRecDepth 100000 in
set_option maxHeartbeats 4000000 in
theorem j_IN_compare_0 {Z : hp_Z} (a0 : Int32) (a1 : Int32) (h : hp_H) : hp_J Y_IN_compare Z hp_rI h 0 [(0, .int a0), (1, .int a1)] [] (m_IN_compare (hp_G Z)  a0 a1 h) := by
  unfold m_IN_compare
  refine hp_iload_n (x0 := 0) d_IN_compare_0 rfl rfl ?_
  refine hp_iload_n (x0 := 1) d_IN_compare_1 rfl rfl ?_
  refine hp_icmp_ge (tgt := 9) d_IN_compare_2 (by decide) ?_ ?_
  · refine hp_iload_n (x0 := 0) d_IN_compare_9 rfl rfl ?_
    refine hp_iload_n (x0 := 1) d_IN_compare_10 rfl rfl ?_
    refine hp_icmp_ne (tgt := 18) d_IN_compare_11 (by decide) ?_ ?_
    · refine hp_iconst (v := 0) d_IN_compare_14 (by decide) ?_
      refine hp_goto (tgt := 19) d_IN_compare_15 (by decide) ?_
      refine hp_sub [] rfl ?_
      exact j_IN_compare_19  _ _
    · refine hp_iconst (v := 1) d_IN_compare_18 (by decide) ?_
      refine hp_sub [] rfl ?_
      exact j_IN_compare_19  _ _
  · refine hp_iconst (v := -1) d_IN_compare_5 (by decide) ?_
    refine hp_goto (tgt := 19) d_IN_compare_6 (by decide) ?_
    refine hp_sub [] rfl ?_
    exact j_IN_compare_19  _ _
theorem t_IN_compare (l : Launch) (E : hp_E) (a0 : Int32) (a1 : Int32) : hp_M l E y_IN_compare Y_IN_compare hp_rI [.int a0, .int a1] (m_IN_compare E.2.2.1 a0 a1) := hp_M.of (by decide +kernel) ⟨rfl, rfl⟩ (Nat.le_of_ble_eq_true rfl) (fun Z h hE => by subst hE; exact j_IN_compare_0 _ _ h)
-- D_power
theorem d_D_power_0 : decode prog_1_method_23_code 0 = .ok (.iload_n 0, 1) := by decide +kernel
theorem d_D_power_1 : decode prog_1_method_23_code 1 = .ok (.ifCond .lt 19, 3) := by decide +kernel
theorem d_D_power_4 : decode prog_1_method_23_code 4 = .ok (.iload_n 0, 1) := by decide +kernel
theorem d_D_power_5 : decode prog_1_method_23_code 5 = .ok (.getstatic 140, 3) := by decide +kernel
theorem d_D_power_8 : decode prog_1_method_23_code 8 = .ok (.arraylength, 1) := by decide +kernel
theorem d_D_power_9 : decode prog_1_method_23_code 9 = .ok (.if_icmp .ge 11, 3) := by decide +kernel
theorem d_D_power_12 : decode prog_1_method_23_code 12 = .ok (.getstatic 140, 3) := by decide +kernel
theorem d_D_power_15 : decode prog_1_method_23_code 15 = .ok (.iload_n 0, 1) := by decide +kernel
theorem d_D_power_16 : decode prog_1_method_23_code 16 = .ok (.laload, 1) := by decide +kernel
theorem d_D_power_17 : decode prog_1_method_23_code 17 = .ok (.goto 4, 3) := by decide +kernel
theorem d_D_power_20 : decode prog_1_method_23_code 20 = .ok (.lconst 1, 1) := by decide +kernel
theorem d_D_power_21 : decode prog_1_method_23_code 21 = .ok (.lreturn, 1) := by decide +kernel
def m_D_power_21 (G : Nat → Nat) (s0 : Int64) (h : hp_H) : Option (Int64 × hp_H) := some (s0, h)
set_option maxRecDepth 100000 in
set_option maxHeartbeats 4000000 in
theorem j_D_power_21 {Z : hp_Z} (s0 : Int64) (h : hp_H) : hp_J Y_D_power Z hp_rL h 21 [] [.long s0] (m_D_power_21 (hp_G Z)  s0 h) := by
  unfold m_D_power_21
  exact hp_lret d_D_power_21 rfl
def m_D_power_20 (G : Nat → Nat) (h : hp_H) : Option (Int64 × hp_H) := m_D_power_21 G (1 : Int64) h
set_option maxRecDepth 100000 in
set_option maxHeartbeats 4000000 in
theorem j_D_power_20 {Z : hp_Z} (h : hp_H) : hp_J Y_D_power Z hp_rL h 20 [] [] (m_D_power_20 (hp_G Z)   h) := by
  unfold m_D_power_20
  refine hp_lconst (v := 1) d_D_power_20 (by decide) ?_
  exact j_D_power_21  _ _
def m_D_power (G : Nat → Nat) (a0 : Int32) (h : hp_H) : Option (Int64 × hp_H) := if a0 < 0 then (m_D_power_20 G h) else ((hp_len h (G 0)).bind fun x1 => if x1 ≤ a0 then (m_D_power_20 G h) else ((hp_aL h (G 0) a0).bind fun x2 => m_D_power_21 G x2 h))
set_option maxRecDepth 100000 in
set_option maxHeartbeats 4000000 in
theorem j_D_power_0 {Z : hp_Z} (a0 : Int32) (h : hp_H) : hp_J Y_D_power Z hp_rL h 0 [(0, .int a0)] [] (m_D_power (hp_G Z)  a0 h) := by
  unfold m_D_power
  refine hp_iload_n (x0 := 0) d_D_power_0 rfl rfl ?_
  refine hp_if_lt (tgt := 20) d_D_power_1 (by decide) ?_ ?_
  · refine hp_sub [] rfl ?_
    exact j_D_power_20   _
  · refine hp_iload_n (x0 := 0) d_D_power_4 rfl rfl ?_
    refine hp_gets (k := 0) rfl w_464 d_D_power_5 ?_
    refine hp_alen d_D_power_8 fun x1 => ?_
    refine hp_icmp_ge (tgt := 20) d_D_power_9 (by decide) ?_ ?_
    · refine hp_sub [] rfl ?_
      exact j_D_power_20   _
    · refine hp_gets (k := 0) rfl w_464 d_D_power_12 ?_
      refine hp_iload_n (x0 := 0) d_D_power_15 rfl rfl ?_
      refine hp_lald d_D_power_16 fun x2 => ?_
      refine hp_goto (tgt := 21) d_D_power_17 (by decide) ?_
      refine hp_sub [] rfl ?_
      exact j_D_power_21  _ _
theorem t_D_power (l : Launch) (E : hp_E) (a0 : Int32) : hp_M l E y_D_power Y_D_power hp_rL [.int a0] (m_D_power E.2.2.1 a0) := hp_M.of (plainFor_of_name (by decide)) ⟨rfl, rfl⟩ (Nat.le_of_ble_eq_true rfl) (fun Z h hE => by subst hE; exact j_D_power_0 _ h)
-- MA_floorMod
theorem d_MA_floorMod_0 : decode prog_15_method_52_code 0 = .ok (.lload_n 0, 1) := by decide +kernel
theorem d_MA_floorMod_1 : decode prog_15_method_52_code 1 = .ok (.lload_n 2, 1) := by decide +kernel
theorem d_MA_floorMod_2 : decode prog_15_method_52_code 2 = .ok (.lrem, 1) := by decide +kernel
theorem d_MA_floorMod_3 : decode prog_15_method_52_code 3 = .ok (.lstore 4, 2) := by decide +kernel
theorem d_MA_floorMod_5 : decode prog_15_method_52_code 5 = .ok (.lload_n 0, 1) := by decide +kernel
theorem d_MA_floorMod_6 : decode prog_15_method_52_code 6 = .ok (.lload_n 2, 1) := by decide +kernel
theorem d_MA_floorMod_7 : decode prog_15_method_52_code 7 = .ok (.lxor, 1) := by decide +kernel
theorem d_MA_floorMod_8 : decode prog_15_method_52_code 8 = .ok (.lconst 0, 1) := by decide +kernel
theorem d_MA_floorMod_9 : decode prog_15_method_52_code 9 = .ok (.lcmp, 1) := by decide +kernel
theorem d_MA_floorMod_10 : decode prog_15_method_52_code 10 = .ok (.ifCond .ge 15, 3) := by decide +kernel
theorem d_MA_floorMod_13 : decode prog_15_method_52_code 13 = .ok (.lload 4, 2) := by decide +kernel
theorem d_MA_floorMod_15 : decode prog_15_method_52_code 15 = .ok (.lconst 0, 1) := by decide +kernel
theorem d_MA_floorMod_16 : decode prog_15_method_52_code 16 = .ok (.lcmp, 1) := by decide +kernel
theorem d_MA_floorMod_17 : decode prog_15_method_52_code 17 = .ok (.ifCond .eq 8, 3) := by decide +kernel
theorem d_MA_floorMod_20 : decode prog_15_method_52_code 20 = .ok (.lload 4, 2) := by decide +kernel
theorem d_MA_floorMod_22 : decode prog_15_method_52_code 22 = .ok (.lload_n 2, 1) := by decide +kernel
theorem d_MA_floorMod_23 : decode prog_15_method_52_code 23 = .ok (.ladd, 1) := by decide +kernel
theorem d_MA_floorMod_24 : decode prog_15_method_52_code 24 = .ok (.lreturn, 1) := by decide +kernel
theorem d_MA_floorMod_25 : decode prog_15_method_52_code 25 = .ok (.lload 4, 2) := by decide +kernel
theorem d_MA_floorMod_27 : decode prog_15_method_52_code 27 = .ok (.lreturn, 1) := by decide +kernel
def m_MA_floorMod_25 (G : Nat → Nat) (a4 : Int64) (h : hp_H) : Option (Int64 × hp_H) := some (a4, h)
set_option maxRecDepth 100000 in
set_option maxHeartbeats 4000000 in
theorem j_MA_floorMod_25 {Z : hp_Z} (a4 : Int64) (h : hp_H) : hp_J Y_MA_floorMod Z hp_rL h 25 [(4, .long a4)] [] (m_MA_floorMod_25 (hp_G Z)  a4 h) := by
  unfold m_MA_floorMod_25
  refine hp_lload (x0 := 0) d_MA_floorMod_25 rfl ?_
  exact hp_lret d_MA_floorMod_27 rfl
def m_MA_floorMod (G : Nat → Nat) (a0 : Int64) (a2 : Int64) (h : hp_H) : Option (Int64 × hp_H) := (hp_mL a0 a2).bind fun x1 => hp_nm x1 fun x2 => if 0 ≤ (lg_cmp (a0 ^^^ a2) (0 : Int64)) then (m_MA_floorMod_25 G x2 h) else (if (lg_cmp x2 (0 : Int64)) = 0 then (m_MA_floorMod_25 G x2 h) else (some (x2 + a2, h)))
set_option maxRecDepth 100000 in
set_option maxHeartbeats 4000000 in
theorem j_MA_floorMod_0 {Z : hp_Z} (a0 : Int64) (a2 : Int64) (h : hp_H) : hp_J Y_MA_floorMod Z hp_rL h 0 [(0, .long a0), (2, .long a2)] [] (m_MA_floorMod (hp_G Z)  a0 a2 h) := by
  unfold m_MA_floorMod
  refine hp_lload_n (x0 := 0) d_MA_floorMod_0 rfl rfl ?_
  refine hp_lload_n (x0 := 1) d_MA_floorMod_1 rfl rfl ?_
  refine hp_lrem d_MA_floorMod_2 fun x1 => ?_
  refine hp_lstore (fun x2 => [(4, .long x2), (0, .long a0), (2, .long a2)]) d_MA_floorMod_3 (by decide) (fun _ => rfl) fun x2 => ?_
  refine hp_lload_n (x0 := 1) d_MA_floorMod_5 rfl rfl ?_
  refine hp_lload_n (x0 := 2) d_MA_floorMod_6 rfl rfl ?_
  refine hp_lxor d_MA_floorMod_7 ?_
  refine hp_lconst (v := 0) d_MA_floorMod_8 (by decide) ?_
  refine hp_lcmp d_MA_floorMod_9 ?_
  refine hp_if_ge (tgt := 25) d_MA_floorMod_10 (by decide) ?_ ?_
  · refine hp_sub [0] rfl ?_
    exact j_MA_floorMod_25  _ _
  · refine hp_lload (x0 := 0) d_MA_floorMod_13 rfl ?_
    refine hp_lconst (v := 0) d_MA_floorMod_15 (by decide) ?_
    refine hp_lcmp d_MA_floorMod_16 ?_
    refine hp_if_eq (tgt := 25) d_MA_floorMod_17 (by decide) ?_ ?_
    · refine hp_sub [0] rfl ?_
      exact j_MA_floorMod_25  _ _
    · refine hp_lload (x0 := 0) d_MA_floorMod_20 rfl ?_
      refine hp_lload_n (x0 := 2) d_MA_floorMod_22 rfl rfl ?_
      refine hp_ladd d_MA_floorMod_23 ?_
      exact hp_lret d_MA_floorMod_24 rfl
theorem t_MA_floorMod (l : Launch) (E : hp_E) (a0 : Int64) (a2 : Int64) : hp_M l E y_MA_floorMod Y_MA_floorMod hp_rL [.long a0, .long a2] (m_MA_floorMod E.2.2.1 a0 a2) := hp_M.of (by decide +kernel) ⟨rfl, rfl⟩ (Nat.le_of_ble_eq_true rfl) (fun Z h hE => by subst hE; exact j_MA_floorMod_0 _ _ h)
-- D_billionths
theorem d_D_billionths_0 : decode prog_1_method_24_code 0 = .ok (.lload_n 0, 1) := by decide +kernel
theorem d_D_billionths_1 : decode prog_1_method_24_code 1 = .ok (.iload_n 2, 1) := by decide +kernel
theorem d_D_billionths_2 : decode prog_1_method_24_code 2 = .ok (.invokestatic 144, 3) := by decide +kernel
theorem d_D_billionths_5 : decode prog_1_method_24_code 5 = .ok (.invokestatic 148, 3) := by decide +kernel
theorem d_D_billionths_8 : decode prog_1_method_24_code 8 = .ok (.bipush 9, 2) := by decide +kernel
theorem d_D_billionths_10 : decode prog_1_method_24_code 10 = .ok (.iload_n 2, 1) := by decide +kernel
theorem d_D_billionths_11 : decode prog_1_method_24_code 11 = .ok (.isub, 1) := by decide +kernel
theorem d_D_billionths_12 : decode prog_1_method_24_code 12 = .ok (.invokestatic 144, 3) := by decide +kernel
theorem d_D_billionths_15 : decode prog_1_method_24_code 15 = .ok (.lmul, 1) := by decide +kernel
theorem d_D_billionths_16 : decode prog_1_method_24_code 16 = .ok (.lreturn, 1) := by decide +kernel
def m_D_billionths (G : Nat → Nat) (a0 : Int64) (a2 : Int32) (h : hp_H) : Option (Int64 × hp_H) := (m_D_power G a2 h).bind fun q1 => (m_MA_floorMod G a0 q1.1 q1.2).bind fun q2 => (m_D_power G ((9 : Int32) - a2) q2.2).bind fun q3 => some (q2.1 * q3.1, q3.2)
set_option maxRecDepth 100000 in
set_option maxHeartbeats 4000000 in
theorem j_D_billionths_0 {Z : hp_Z} (a0 : Int64) (a2 : Int32) (h : hp_H) : hp_J Y_D_billionths Z hp_rL h 0 [(0, .long a0), (2, .int a2)] [] (m_D_billionths (hp_G Z)  a0 a2 h) := by
  unfold m_D_billionths
  refine hp_lload_n (x0 := 0) d_D_billionths_0 rfl rfl ?_
  refine hp_iload_n (x0 := 1) d_D_billionths_1 rfl rfl ?_
  refine hp_callL (hp_crS (t_D_power _ _ _) cw_D_144 w_462 (by decide) rfl rfl (Nat.le_of_ble_eq_true rfl) d_D_billionths_2) fun q1 => ?_
  refine hp_callL (hp_crS (t_MA_floorMod _ _ _ _) cw_D_148 w_477 (by decide) rfl rfl (Nat.le_of_ble_eq_true rfl) d_D_billionths_5) fun q2 => ?_
  refine hp_bipush (v := 9) d_D_billionths_8 (by decide) ?_
  refine hp_iload_n (x0 := 1) d_D_billionths_10 rfl rfl ?_
  refine hp_isub d_D_billionths_11 ?_
  refine hp_callL (hp_crS (t_D_power _ _ _) cw_D_144 w_462 (by decide) rfl rfl (Nat.le_of_ble_eq_true rfl) d_D_billionths_12) fun q3 => ?_
  refine hp_lmul d_D_billionths_15 ?_
  exact hp_lret d_D_billionths_16 rfl
theorem t_D_billionths (l : Launch) (E : hp_E) (a0 : Int64) (a2 : Int32) : hp_M l E y_D_billionths Y_D_billionths hp_rL [.long a0, .int a2] (m_D_billionths E.2.2.1 a0 a2) := hp_M.of (plainFor_of_name (by decide)) ⟨rfl, rfl⟩ (Nat.le_of_ble_eq_true rfl) (fun Z h hE => by subst hE; exact j_D_billionths_0 _ _ h)
-- LO_compare
theorem d_LO_compare_0 : decode prog_14_method_42_code 0 = .ok (.lload_n 0, 1) := by decide +kernel
theorem d_LO_compare_1 : decode prog_14_method_42_code 1 = .ok (.lload_n 2, 1) := by decide +kernel
theorem d_LO_compare_2 : decode prog_14_method_42_code 2 = .ok (.lcmp, 1) := by decide +kernel
theorem d_LO_compare_3 : decode prog_14_method_42_code 3 = .ok (.ifCond .ge 7, 3) := by decide +kernel
theorem d_LO_compare_6 : decode prog_14_method_42_code 6 = .ok (.iconst (-1), 1) := by decide +kernel
theorem d_LO_compare_7 : decode prog_14_method_42_code 7 = .ok (.goto 14, 3) := by decide +kernel
theorem d_LO_compare_10 : decode prog_14_method_42_code 10 = .ok (.lload_n 0, 1) := by decide +kernel
theorem d_LO_compare_11 : decode prog_14_method_42_code 11 = .ok (.lload_n 2, 1) := by decide +kernel
theorem d_LO_compare_12 : decode prog_14_method_42_code 12 = .ok (.lcmp, 1) := by decide +kernel
theorem d_LO_compare_13 : decode prog_14_method_42_code 13 = .ok (.ifCond .ne 7, 3) := by decide +kernel
theorem d_LO_compare_16 : decode prog_14_method_42_code 16 = .ok (.iconst 0, 1) := by decide +kernel
theorem d_LO_compare_17 : decode prog_14_method_42_code 17 = .ok (.goto 4, 3) := by decide +kernel
theorem d_LO_compare_20 : decode prog_14_method_42_code 20 = .ok (.iconst 1, 1) := by decide +kernel
theorem d_LO_compare_21 : decode prog_14_method_42_code 21 = .ok (.ireturn, 1) := by decide +kernel
def m_LO_compare_21 (G : Nat → Nat) (s0 : Int32) (h : hp_H) : Option (Int32 × hp_H) := some (s0, h)
set_option maxRecDepth 100000 in
set_option maxHeartbeats 4000000 in
theorem j_LO_compare_21 {Z : hp_Z} (s0 : Int32) (h : hp_H) : hp_J Y_LO_compare Z hp_rI h 21 [] [.int s0] (m_LO_compare_21 (hp_G Z)  s0 h) := by
  unfold m_LO_compare_21
  exact hp_iret d_LO_compare_21 rfl
def m_LO_compare (G : Nat → Nat) (a0 : Int64) (a2 : Int64) (h : hp_H) : Option (Int32 × hp_H) := if 0 ≤ (lg_cmp a0 a2) then (if (lg_cmp a0 a2) = 0 then (m_LO_compare_21 G (0 : Int32) h) else (m_LO_compare_21 G (1 : Int32) h)) else (m_LO_compare_21 G (-1 : Int32) h)
set_option maxRecDepth 100000 in
set_option maxHeartbeats 4000000 in
theorem j_LO_compare_0 {Z : hp_Z} (a0 : Int64) (a2 : Int64) (h : hp_H) : hp_J Y_LO_compare Z hp_rI h 0 [(0, .long a0), (2, .long a2)] [] (m_LO_compare (hp_G Z)  a0 a2 h) := by
  unfold m_LO_compare
  refine hp_lload_n (x0 := 0) d_LO_compare_0 rfl rfl ?_
  refine hp_lload_n (x0 := 1) d_LO_compare_1 rfl rfl ?_
  refine hp_lcmp d_LO_compare_2 ?_
  refine hp_if_ge (tgt := 10) d_LO_compare_3 (by decide) ?_ ?_
  · refine hp_lload_n (x0 := 0) d_LO_compare_10 rfl rfl ?_
    refine hp_lload_n (x0 := 1) d_LO_compare_11 rfl rfl ?_
    refine hp_lcmp d_LO_compare_12 ?_
    refine hp_if_ne (tgt := 20) d_LO_compare_13 (by decide) ?_ ?_
    · refine hp_iconst (v := 0) d_LO_compare_16 (by decide) ?_
      refine hp_goto (tgt := 21) d_LO_compare_17 (by decide) ?_
      refine hp_sub [] rfl ?_
      exact j_LO_compare_21  _ _
    · refine hp_iconst (v := 1) d_LO_compare_20 (by decide) ?_
      refine hp_sub [] rfl ?_
      exact j_LO_compare_21  _ _
  · refine hp_iconst (v := -1) d_LO_compare_6 (by decide) ?_
    refine hp_goto (tgt := 21) d_LO_compare_7 (by decide) ?_
    refine hp_sub [] rfl ?_
    exact j_LO_compare_21  _ _
theorem t_LO_compare (l : Launch) (E : hp_E) (a0 : Int64) (a2 : Int64) : hp_M l E y_LO_compare Y_LO_compare hp_rI [.long a0, .long a2] (m_LO_compare E.2.2.1 a0 a2) := hp_M.of (by decide +kernel) ⟨rfl, rfl⟩ (Nat.le_of_ble_eq_true rfl) (fun Z h hE => by subst hE; exact j_LO_compare_0 _ _ h)
-- MA_floorDiv
theorem d_MA_floorDiv_0 : decode prog_15_method_49_code 0 = .ok (.lload_n 0, 1) := by decide +kernel
theorem d_MA_floorDiv_1 : decode prog_15_method_49_code 1 = .ok (.lload_n 2, 1) := by decide +kernel
theorem d_MA_floorDiv_2 : decode prog_15_method_49_code 2 = .ok (.ldiv, 1) := by decide +kernel
theorem d_MA_floorDiv_3 : decode prog_15_method_49_code 3 = .ok (.lstore 4, 2) := by decide +kernel
theorem d_MA_floorDiv_5 : decode prog_15_method_49_code 5 = .ok (.lload_n 0, 1) := by decide +kernel
theorem d_MA_floorDiv_6 : decode prog_15_method_49_code 6 = .ok (.lload_n 2, 1) := by decide +kernel
theorem d_MA_floorDiv_7 : decode prog_15_method_49_code 7 = .ok (.lxor, 1) := by decide +kernel
theorem d_MA_floorDiv_8 : decode prog_15_method_49_code 8 = .ok (.lconst 0, 1) := by decide +kernel
theorem d_MA_floorDiv_9 : decode prog_15_method_49_code 9 = .ok (.lcmp, 1) := by decide +kernel
theorem d_MA_floorDiv_10 : decode prog_15_method_49_code 10 = .ok (.ifCond .ge 17, 3) := by decide +kernel
theorem d_MA_floorDiv_13 : decode prog_15_method_49_code 13 = .ok (.lload 4, 2) := by decide +kernel
theorem d_MA_floorDiv_15 : decode prog_15_method_49_code 15 = .ok (.lload_n 2, 1) := by decide +kernel
theorem d_MA_floorDiv_16 : decode prog_15_method_49_code 16 = .ok (.lmul, 1) := by decide +kernel
theorem d_MA_floorDiv_17 : decode prog_15_method_49_code 17 = .ok (.lload_n 0, 1) := by decide +kernel
theorem d_MA_floorDiv_18 : decode prog_15_method_49_code 18 = .ok (.lcmp, 1) := by decide +kernel
theorem d_MA_floorDiv_19 : decode prog_15_method_49_code 19 = .ok (.ifCond .eq 8, 3) := by decide +kernel
theorem d_MA_floorDiv_22 : decode prog_15_method_49_code 22 = .ok (.lload 4, 2) := by decide +kernel
theorem d_MA_floorDiv_24 : decode prog_15_method_49_code 24 = .ok (.lconst 1, 1) := by decide +kernel
theorem d_MA_floorDiv_25 : decode prog_15_method_49_code 25 = .ok (.lsub, 1) := by decide +kernel
theorem d_MA_floorDiv_26 : decode prog_15_method_49_code 26 = .ok (.lreturn, 1) := by decide +kernel
theorem d_MA_floorDiv_27 : decode prog_15_method_49_code 27 = .ok (.lload 4, 2) := by decide +kernel
theorem d_MA_floorDiv_29 : decode prog_15_method_49_code 29 = .ok (.lreturn, 1) := by decide +kernel
def m_MA_floorDiv_27 (G : Nat → Nat) (a4 : Int64) (h : hp_H) : Option (Int64 × hp_H) := some (a4, h)
set_option maxRecDepth 100000 in
set_option maxHeartbeats 4000000 in
theorem j_MA_floorDiv_27 {Z : hp_Z} (a4 : Int64) (h : hp_H) : hp_J Y_MA_floorDiv Z hp_rL h 27 [(4, .long a4)] [] (m_MA_floorDiv_27 (hp_G Z)  a4 h) := by
  unfold m_MA_floorDiv_27
  refine hp_lload (x0 := 0) d_MA_floorDiv_27 rfl ?_
  exact hp_lret d_MA_floorDiv_29 rfl
def m_MA_floorDiv (G : Nat → Nat) (a0 : Int64) (a2 : Int64) (h : hp_H) : Option (Int64 × hp_H) := (hp_dL a0 a2).bind fun x1 => hp_nm x1 fun x2 => if 0 ≤ (lg_cmp (a0 ^^^ a2) (0 : Int64)) then (m_MA_floorDiv_27 G x2 h) else (if (lg_cmp (x2 * a2) a0) = 0 then (m_MA_floorDiv_27 G x2 h) else (some (x2 - (1 : Int64), h)))
set_option maxRecDepth 100000 in
set_option maxHeartbeats 4000000 in
theorem j_MA_floorDiv_0 {Z : hp_Z} (a0 : Int64) (a2 : Int64) (h : hp_H) : hp_J Y_MA_floorDiv Z hp_rL h 0 [(0, .long a0), (2, .long a2)] [] (m_MA_floorDiv (hp_G Z)  a0 a2 h) := by
  unfold m_MA_floorDiv
  refine hp_lload_n (x0 := 0) d_MA_floorDiv_0 rfl rfl ?_
  refine hp_lload_n (x0 := 1) d_MA_floorDiv_1 rfl rfl ?_
  refine hp_ldiv d_MA_floorDiv_2 fun x1 => ?_
  refine hp_lstore (fun x2 => [(4, .long x2), (0, .long a0), (2, .long a2)]) d_MA_floorDiv_3 (by decide) (fun _ => rfl) fun x2 => ?_
  refine hp_lload_n (x0 := 1) d_MA_floorDiv_5 rfl rfl ?_
  refine hp_lload_n (x0 := 2) d_MA_floorDiv_6 rfl rfl ?_
  refine hp_lxor d_MA_floorDiv_7 ?_
  refine hp_lconst (v := 0) d_MA_floorDiv_8 (by decide) ?_
  refine hp_lcmp d_MA_floorDiv_9 ?_
  refine hp_if_ge (tgt := 27) d_MA_floorDiv_10 (by decide) ?_ ?_
  · refine hp_sub [0] rfl ?_
    exact j_MA_floorDiv_27  _ _
  · refine hp_lload (x0 := 0) d_MA_floorDiv_13 rfl ?_
    refine hp_lload_n (x0 := 2) d_MA_floorDiv_15 rfl rfl ?_
    refine hp_lmul d_MA_floorDiv_16 ?_
    refine hp_lload_n (x0 := 1) d_MA_floorDiv_17 rfl rfl ?_
    refine hp_lcmp d_MA_floorDiv_18 ?_
    refine hp_if_eq (tgt := 27) d_MA_floorDiv_19 (by decide) ?_ ?_
    · refine hp_sub [0] rfl ?_
      exact j_MA_floorDiv_27  _ _
    · refine hp_lload (x0 := 0) d_MA_floorDiv_22 rfl ?_
      refine hp_lconst (v := 1) d_MA_floorDiv_24 (by decide) ?_
      refine hp_lsub d_MA_floorDiv_25 ?_
      exact hp_lret d_MA_floorDiv_26 rfl
theorem t_MA_floorDiv (l : Launch) (E : hp_E) (a0 : Int64) (a2 : Int64) : hp_M l E y_MA_floorDiv Y_MA_floorDiv hp_rL [.long a0, .long a2] (m_MA_floorDiv E.2.2.1 a0 a2) := hp_M.of (by decide +kernel) ⟨rfl, rfl⟩ (Nat.le_of_ble_eq_true rfl) (fun Z h hE => by subst hE; exact j_MA_floorDiv_0 _ _ h)
-- V_comparedByAmount
theorem d_V_comparedByAmount_0 : decode prog_7_method_6_code 0 = .ok (.aload_n 0, 1) := by decide +kernel
theorem d_V_comparedByAmount_1 : decode prog_7_method_6_code 1 = .ok (.getfield 18, 3) := by decide +kernel
theorem d_V_comparedByAmount_4 : decode prog_7_method_6_code 4 = .ok (.aload_n 0, 1) := by decide +kernel
theorem d_V_comparedByAmount_5 : decode prog_7_method_6_code 5 = .ok (.getfield 22, 3) := by decide +kernel
theorem d_V_comparedByAmount_8 : decode prog_7_method_6_code 8 = .ok (.invokestatic 49, 3) := by decide +kernel
theorem d_V_comparedByAmount_11 : decode prog_7_method_6_code 11 = .ok (.invokestatic 53, 3) := by decide +kernel
theorem d_V_comparedByAmount_14 : decode prog_7_method_6_code 14 = .ok (.aload_n 1, 1) := by decide +kernel
theorem d_V_comparedByAmount_15 : decode prog_7_method_6_code 15 = .ok (.getfield 18, 3) := by decide +kernel
theorem d_V_comparedByAmount_18 : decode prog_7_method_6_code 18 = .ok (.aload_n 1, 1) := by decide +kernel
theorem d_V_comparedByAmount_19 : decode prog_7_method_6_code 19 = .ok (.getfield 22, 3) := by decide +kernel
theorem d_V_comparedByAmount_22 : decode prog_7_method_6_code 22 = .ok (.invokestatic 49, 3) := by decide +kernel
theorem d_V_comparedByAmount_25 : decode prog_7_method_6_code 25 = .ok (.invokestatic 53, 3) := by decide +kernel
theorem d_V_comparedByAmount_28 : decode prog_7_method_6_code 28 = .ok (.invokestatic 59, 3) := by decide +kernel
theorem d_V_comparedByAmount_31 : decode prog_7_method_6_code 31 = .ok (.istore_n 2, 1) := by decide +kernel
theorem d_V_comparedByAmount_32 : decode prog_7_method_6_code 32 = .ok (.iload_n 2, 1) := by decide +kernel
theorem d_V_comparedByAmount_33 : decode prog_7_method_6_code 33 = .ok (.ifCond .eq 7, 3) := by decide +kernel
theorem d_V_comparedByAmount_36 : decode prog_7_method_6_code 36 = .ok (.iload_n 2, 1) := by decide +kernel
theorem d_V_comparedByAmount_37 : decode prog_7_method_6_code 37 = .ok (.goto 28, 3) := by decide +kernel
theorem d_V_comparedByAmount_40 : decode prog_7_method_6_code 40 = .ok (.aload_n 0, 1) := by decide +kernel
theorem d_V_comparedByAmount_41 : decode prog_7_method_6_code 41 = .ok (.getfield 18, 3) := by decide +kernel
theorem d_V_comparedByAmount_44 : decode prog_7_method_6_code 44 = .ok (.aload_n 0, 1) := by decide +kernel
theorem d_V_comparedByAmount_45 : decode prog_7_method_6_code 45 = .ok (.getfield 22, 3) := by decide +kernel
theorem d_V_comparedByAmount_48 : decode prog_7_method_6_code 48 = .ok (.invokestatic 64, 3) := by decide +kernel
theorem d_V_comparedByAmount_51 : decode prog_7_method_6_code 51 = .ok (.aload_n 1, 1) := by decide +kernel
theorem d_V_comparedByAmount_52 : decode prog_7_method_6_code 52 = .ok (.getfield 18, 3) := by decide +kernel
theorem d_V_comparedByAmount_55 : decode prog_7_method_6_code 55 = .ok (.aload_n 1, 1) := by decide +kernel
theorem d_V_comparedByAmount_56 : decode prog_7_method_6_code 56 = .ok (.getfield 22, 3) := by decide +kernel
theorem d_V_comparedByAmount_59 : decode prog_7_method_6_code 59 = .ok (.invokestatic 64, 3) := by decide +kernel
theorem d_V_comparedByAmount_62 : decode prog_7_method_6_code 62 = .ok (.invokestatic 59, 3) := by decide +kernel
theorem d_V_comparedByAmount_65 : decode prog_7_method_6_code 65 = .ok (.ireturn, 1) := by decide +kernel
def m_V_comparedByAmount_65 (G : Nat → Nat) (s0 : Int32) (h : hp_H) : Option (Int32 × hp_H) := some (s0, h)
set_option maxRecDepth 100000 in
set_option maxHeartbeats 4000000 in
theorem j_V_comparedByAmount_65 {Z : hp_Z} (s0 : Int32) (h : hp_H) : hp_J Y_V_comparedByAmount Z hp_rI h 65 [] [.int s0] (m_V_comparedByAmount_65 (hp_G Z)  s0 h) := by
  unfold m_V_comparedByAmount_65
  exact hp_iret d_V_comparedByAmount_65 rfl
def m_V_comparedByAmount (G : Nat → Nat) (a0 : Nat) (a1 : Nat) (h : hp_H) : Option (Int32 × hp_H) := (hp_gL h a0 3 2).bind fun x1 => (hp_gI h a0 3 3).bind fun x2 => (m_D_power G x2 h).bind fun q3 => (m_MA_floorDiv G x1 q3.1 q3.2).bind fun q4 => (hp_gL q4.2 a1 3 2).bind fun x5 => (hp_gI q4.2 a1 3 3).bind fun x6 => (m_D_power G x6 q4.2).bind fun q7 => (m_MA_floorDiv G x5 q7.1 q7.2).bind fun q8 => (m_LO_compare G q4.1 q8.1 q8.2).bind fun q9 => hp_nm q9.1 fun x10 => if x10 = 0 then ((hp_gL q9.2 a0 3 2).bind fun x11 => (hp_gI q9.2 a0 3 3).bind fun x12 => (m_D_billionths G x11 x12 q9.2).bind fun q13 => (hp_gL q13.2 a1 3 2).bind fun x14 => (hp_gI q13.2 a1 3 3).bind fun x15 => (m_D_billionths G x14 x15 q13.2).bind fun q16 => (m_LO_compare G q13.1 q16.1 q16.2).bind fun q17 => m_V_comparedByAmount_65 G q17.1 q17.2) else (m_V_comparedByAmount_65 G x10 q9.2)
set_option maxRecDepth 100000 in
set_option maxHeartbeats 4000000 in
theorem j_V_comparedByAmount_0 {Z : hp_Z} (a0 : Nat) (a1 : Nat) (h : hp_H) : hp_J Y_V_comparedByAmount Z hp_rI h 0 [(0, .ref a0), (1, .ref a1)] [] (m_V_comparedByAmount (hp_G Z)  a0 a1 h) := by
  unfold m_V_comparedByAmount
  refine hp_aload_n (x0 := 0) d_V_comparedByAmount_0 rfl rfl ?_
  refine hp_getL fl_V_18 d_V_comparedByAmount_1 fun x1 => ?_
  refine hp_aload_n (x0 := 0) d_V_comparedByAmount_4 rfl rfl ?_
  refine hp_getI fl_V_22 d_V_comparedByAmount_5 fun x2 => ?_
  refine hp_callL (hp_crSN (t_D_power _ _ _) cw_V_49 w_462 (by decide) rfl rfl (Nat.le_of_ble_eq_true rfl) d_V_comparedByAmount_8) fun q3 => ?_
  refine hp_callL (hp_crS (t_MA_floorDiv _ _ _ _) cw_V_53 w_467 (by decide) rfl rfl (Nat.le_of_ble_eq_true rfl) d_V_comparedByAmount_11) fun q4 => ?_
  refine hp_aload_n (x0 := 1) d_V_comparedByAmount_14 rfl rfl ?_
  refine hp_getL fl_V_18 d_V_comparedByAmount_15 fun x5 => ?_
  refine hp_aload_n (x0 := 1) d_V_comparedByAmount_18 rfl rfl ?_
  refine hp_getI fl_V_22 d_V_comparedByAmount_19 fun x6 => ?_
  refine hp_callL (hp_crSN (t_D_power _ _ _) cw_V_49 w_462 (by decide) rfl rfl (Nat.le_of_ble_eq_true rfl) d_V_comparedByAmount_22) fun q7 => ?_
  refine hp_callL (hp_crS (t_MA_floorDiv _ _ _ _) cw_V_53 w_467 (by decide) rfl rfl (Nat.le_of_ble_eq_true rfl) d_V_comparedByAmount_25) fun q8 => ?_
  refine hp_callI (hp_crS (t_LO_compare _ _ _ _) cw_V_59 w_470 (by decide) rfl rfl (Nat.le_of_ble_eq_true rfl) d_V_comparedByAmount_28) fun q9 => ?_
  refine hp_istore_n (fun x10 => [(2, .int x10), (0, .ref a0), (1, .ref a1)]) d_V_comparedByAmount_31 rfl (by decide) (fun _ => rfl) fun x10 => ?_
  refine hp_iload_n (x0 := 0) d_V_comparedByAmount_32 rfl rfl ?_
  refine hp_if_eq (tgt := 40) d_V_comparedByAmount_33 (by decide) ?_ ?_
  · refine hp_aload_n (x0 := 1) d_V_comparedByAmount_40 rfl rfl ?_
    refine hp_getL fl_V_18 d_V_comparedByAmount_41 fun x11 => ?_
    refine hp_aload_n (x0 := 1) d_V_comparedByAmount_44 rfl rfl ?_
    refine hp_getI fl_V_22 d_V_comparedByAmount_45 fun x12 => ?_
    refine hp_callL (hp_crSN (t_D_billionths _ _ _ _) cw_V_64 w_473 (by decide) rfl rfl (Nat.le_of_ble_eq_true rfl) d_V_comparedByAmount_48) fun q13 => ?_
    refine hp_aload_n (x0 := 2) d_V_comparedByAmount_51 rfl rfl ?_
    refine hp_getL fl_V_18 d_V_comparedByAmount_52 fun x14 => ?_
    refine hp_aload_n (x0 := 2) d_V_comparedByAmount_55 rfl rfl ?_
    refine hp_getI fl_V_22 d_V_comparedByAmount_56 fun x15 => ?_
    refine hp_callL (hp_crSN (t_D_billionths _ _ _ _) cw_V_64 w_473 (by decide) rfl rfl (Nat.le_of_ble_eq_true rfl) d_V_comparedByAmount_59) fun q16 => ?_
    refine hp_callI (hp_crS (t_LO_compare _ _ _ _) cw_V_59 w_470 (by decide) rfl rfl (Nat.le_of_ble_eq_true rfl) d_V_comparedByAmount_62) fun q17 => ?_
    refine hp_sub [] rfl ?_
    exact j_V_comparedByAmount_65  _ _
  · refine hp_iload_n (x0 := 0) d_V_comparedByAmount_36 rfl rfl ?_
    refine hp_goto (tgt := 65) d_V_comparedByAmount_37 (by decide) ?_
    refine hp_sub [] rfl ?_
    exact j_V_comparedByAmount_65  _ _
theorem t_V_comparedByAmount (l : Launch) (E : hp_E) (a0 : Nat) (a1 : Nat) : hp_M l E y_V_comparedByAmount Y_V_comparedByAmount hp_rI [.ref a0, .ref a1] (m_V_comparedByAmount E.2.2.1 a0 a1) := hp_M.of (plainFor_of_name (by decide)) ⟨rfl, rfl⟩ (Nat.le_of_ble_eq_true rfl) (fun Z h hE => by subst hE; exact j_V_comparedByAmount_0 _ _ h)
-- V_comparedByBytes
theorem d_V_comparedByBytes_0 : decode prog_7_method_7_code 0 = .ok (.iconst 0, 1) := by decide +kernel
theorem d_V_comparedByBytes_1 : decode prog_7_method_7_code 1 = .ok (.istore_n 2, 1) := by decide +kernel
theorem d_V_comparedByBytes_2 : decode prog_7_method_7_code 2 = .ok (.iload_n 2, 1) := by decide +kernel
theorem d_V_comparedByBytes_3 : decode prog_7_method_7_code 3 = .ok (.aload_n 0, 1) := by decide +kernel
theorem d_V_comparedByBytes_4 : decode prog_7_method_7_code 4 = .ok (.getfield 25, 3) := by decide +kernel
theorem d_V_comparedByBytes_7 : decode prog_7_method_7_code 7 = .ok (.arraylength, 1) := by decide +kernel
theorem d_V_comparedByBytes_8 : decode prog_7_method_7_code 8 = .ok (.if_icmp .ge 49, 3) := by decide +kernel
theorem d_V_comparedByBytes_11 : decode prog_7_method_7_code 11 = .ok (.iload_n 2, 1) := by decide +kernel
theorem d_V_comparedByBytes_12 : decode prog_7_method_7_code 12 = .ok (.aload_n 1, 1) := by decide +kernel
theorem d_V_comparedByBytes_13 : decode prog_7_method_7_code 13 = .ok (.getfield 25, 3) := by decide +kernel
theorem d_V_comparedByBytes_16 : decode prog_7_method_7_code 16 = .ok (.arraylength, 1) := by decide +kernel
theorem d_V_comparedByBytes_17 : decode prog_7_method_7_code 17 = .ok (.if_icmp .ge 40, 3) := by decide +kernel
theorem d_V_comparedByBytes_20 : decode prog_7_method_7_code 20 = .ok (.aload_n 0, 1) := by decide +kernel
theorem d_V_comparedByBytes_21 : decode prog_7_method_7_code 21 = .ok (.getfield 25, 3) := by decide +kernel
theorem d_V_comparedByBytes_24 : decode prog_7_method_7_code 24 = .ok (.iload_n 2, 1) := by decide +kernel
theorem d_V_comparedByBytes_25 : decode prog_7_method_7_code 25 = .ok (.baload, 1) := by decide +kernel
theorem d_V_comparedByBytes_26 : decode prog_7_method_7_code 26 = .ok (.aload_n 1, 1) := by decide +kernel
theorem d_V_comparedByBytes_27 : decode prog_7_method_7_code 27 = .ok (.getfield 25, 3) := by decide +kernel
theorem d_V_comparedByBytes_30 : decode prog_7_method_7_code 30 = .ok (.iload_n 2, 1) := by decide +kernel
theorem d_V_comparedByBytes_31 : decode prog_7_method_7_code 31 = .ok (.baload, 1) := by decide +kernel
theorem d_V_comparedByBytes_32 : decode prog_7_method_7_code 32 = .ok (.if_icmp .eq 19, 3) := by decide +kernel
theorem d_V_comparedByBytes_35 : decode prog_7_method_7_code 35 = .ok (.aload_n 0, 1) := by decide +kernel
theorem d_V_comparedByBytes_36 : decode prog_7_method_7_code 36 = .ok (.getfield 25, 3) := by decide +kernel
theorem d_V_comparedByBytes_39 : decode prog_7_method_7_code 39 = .ok (.iload_n 2, 1) := by decide +kernel
theorem d_V_comparedByBytes_40 : decode prog_7_method_7_code 40 = .ok (.baload, 1) := by decide +kernel
theorem d_V_comparedByBytes_41 : decode prog_7_method_7_code 41 = .ok (.aload_n 1, 1) := by decide +kernel
theorem d_V_comparedByBytes_42 : decode prog_7_method_7_code 42 = .ok (.getfield 25, 3) := by decide +kernel
theorem d_V_comparedByBytes_45 : decode prog_7_method_7_code 45 = .ok (.iload_n 2, 1) := by decide +kernel
theorem d_V_comparedByBytes_46 : decode prog_7_method_7_code 46 = .ok (.baload, 1) := by decide +kernel
theorem d_V_comparedByBytes_47 : decode prog_7_method_7_code 47 = .ok (.invokestatic 40, 3) := by decide +kernel
theorem d_V_comparedByBytes_50 : decode prog_7_method_7_code 50 = .ok (.ireturn, 1) := by decide +kernel
theorem d_V_comparedByBytes_51 : decode prog_7_method_7_code 51 = .ok (.iinc 2 1, 3) := by decide +kernel
theorem d_V_comparedByBytes_54 : decode prog_7_method_7_code 54 = .ok (.goto (-52), 3) := by decide +kernel
theorem d_V_comparedByBytes_57 : decode prog_7_method_7_code 57 = .ok (.aload_n 0, 1) := by decide +kernel
theorem d_V_comparedByBytes_58 : decode prog_7_method_7_code 58 = .ok (.getfield 25, 3) := by decide +kernel
theorem d_V_comparedByBytes_61 : decode prog_7_method_7_code 61 = .ok (.arraylength, 1) := by decide +kernel
theorem d_V_comparedByBytes_62 : decode prog_7_method_7_code 62 = .ok (.aload_n 1, 1) := by decide +kernel
theorem d_V_comparedByBytes_63 : decode prog_7_method_7_code 63 = .ok (.getfield 25, 3) := by decide +kernel
theorem d_V_comparedByBytes_66 : decode prog_7_method_7_code 66 = .ok (.arraylength, 1) := by decide +kernel
theorem d_V_comparedByBytes_67 : decode prog_7_method_7_code 67 = .ok (.invokestatic 40, 3) := by decide +kernel
theorem d_V_comparedByBytes_70 : decode prog_7_method_7_code 70 = .ok (.ireturn, 1) := by decide +kernel
def m_V_comparedByBytes_57 (G : Nat → Nat) (a0 : Nat) (a1 : Nat) (h : hp_H) : Option (Int32 × hp_H) := (hp_gR h a0 3 4).bind fun x1 => (hp_len h x1).bind fun x2 => (hp_gR h a1 3 4).bind fun x3 => (hp_len h x3).bind fun x4 => (m_IN_compare G x2 x4 h).bind fun q5 => some (q5.1, q5.2)
set_option maxRecDepth 100000 in
set_option maxHeartbeats 4000000 in
theorem j_V_comparedByBytes_57 {Z : hp_Z} (a0 : Nat) (a1 : Nat) (h : hp_H) : hp_J Y_V_comparedByBytes Z hp_rI h 57 [(0, .ref a0), (1, .ref a1)] [] (m_V_comparedByBytes_57 (hp_G Z)  a0 a1 h) := by
  unfold m_V_comparedByBytes_57
  refine hp_aload_n (x0 := 0) d_V_comparedByBytes_57 rfl rfl ?_
  refine hp_getR fl_V_25 d_V_comparedByBytes_58 fun x1 => ?_
  refine hp_alen d_V_comparedByBytes_61 fun x2 => ?_
  refine hp_aload_n (x0 := 1) d_V_comparedByBytes_62 rfl rfl ?_
  refine hp_getR fl_V_25 d_V_comparedByBytes_63 fun x3 => ?_
  refine hp_alen d_V_comparedByBytes_66 fun x4 => ?_
  refine hp_callI (hp_crS (t_IN_compare _ _ _ _) cw_V_40 w_480 (by decide) rfl rfl (Nat.le_of_ble_eq_true rfl) d_V_comparedByBytes_67) fun q5 => ?_
  exact hp_iret d_V_comparedByBytes_70 rfl
def m_V_comparedByBytes_2 (G : Nat → Nat) : Nat → Nat → Nat → Int32 → hp_H → Option (Int32 × hp_H)
  | 0, _, _, _, _ => none
  | n + 1, a0, a1, a2, h => (hp_gR h a0 3 4).bind fun x1 => (hp_len h x1).bind fun x2 => if x2 ≤ a2 then (m_V_comparedByBytes_57 G a0 a1 h) else ((hp_gR h a1 3 4).bind fun x3 => (hp_len h x3).bind fun x4 => if x4 ≤ a2 then (m_V_comparedByBytes_57 G a0 a1 h) else ((hp_gR h a0 3 4).bind fun x5 => (hp_aI h .byte x5 a2).bind fun x6 => (hp_gR h a1 3 4).bind fun x7 => (hp_aI h .byte x7 a2).bind fun x8 => if x6 = x8 then (hp_nm (a2 + 1) fun x9 => (m_V_comparedByBytes_2 G  n) a0 a1 x9 h) else ((hp_gR h a0 3 4).bind fun x10 => (hp_aI h .byte x10 a2).bind fun x11 => (hp_gR h a1 3 4).bind fun x12 => (hp_aI h .byte x12 a2).bind fun x13 => (m_IN_compare G x11 x13 h).bind fun q14 => some (q14.1, q14.2))))
set_option maxRecDepth 100000 in
set_option maxHeartbeats 4000000 in
theorem j_V_comparedByBytes_2 {Z : hp_Z} : ∀ (n : Nat) (a0 : Nat) (a1 : Nat) (a2 : Int32) (h : hp_H), hp_J Y_V_comparedByBytes Z hp_rI h 2 [(0, .ref a0), (1, .ref a1), (2, .int a2)] [] (m_V_comparedByBytes_2 (hp_G Z)  n a0 a1 a2 h) := by
  intro n
  induction n with
  | zero => intro a0 a1 a2 h; exact hp_fail
  | succ n ih =>
    intro a0 a1 a2 h
    rw [m_V_comparedByBytes_2]
    refine hp_iload_n (x0 := 2) d_V_comparedByBytes_2 rfl rfl ?_
    refine hp_aload_n (x0 := 0) d_V_comparedByBytes_3 rfl rfl ?_
    refine hp_getR fl_V_25 d_V_comparedByBytes_4 fun x1 => ?_
    refine hp_alen d_V_comparedByBytes_7 fun x2 => ?_
    refine hp_icmp_ge (tgt := 57) d_V_comparedByBytes_8 (by decide) ?_ ?_
    · refine hp_sub [0, 1] rfl ?_
      exact j_V_comparedByBytes_57  _ _ _
    · refine hp_iload_n (x0 := 2) d_V_comparedByBytes_11 rfl rfl ?_
      refine hp_aload_n (x0 := 1) d_V_comparedByBytes_12 rfl rfl ?_
      refine hp_getR fl_V_25 d_V_comparedByBytes_13 fun x3 => ?_
      refine hp_alen d_V_comparedByBytes_16 fun x4 => ?_
      refine hp_icmp_ge (tgt := 57) d_V_comparedByBytes_17 (by decide) ?_ ?_
      · refine hp_sub [0, 1] rfl ?_
        exact j_V_comparedByBytes_57  _ _ _
      · refine hp_aload_n (x0 := 0) d_V_comparedByBytes_20 rfl rfl ?_
        refine hp_getR fl_V_25 d_V_comparedByBytes_21 fun x5 => ?_
        refine hp_iload_n (x0 := 2) d_V_comparedByBytes_24 rfl rfl ?_
        refine hp_bald d_V_comparedByBytes_25 fun x6 => ?_
        refine hp_aload_n (x0 := 1) d_V_comparedByBytes_26 rfl rfl ?_
        refine hp_getR fl_V_25 d_V_comparedByBytes_27 fun x7 => ?_
        refine hp_iload_n (x0 := 2) d_V_comparedByBytes_30 rfl rfl ?_
        refine hp_bald d_V_comparedByBytes_31 fun x8 => ?_
        refine hp_icmp_eq (tgt := 51) d_V_comparedByBytes_32 (by decide) ?_ ?_
        · refine hp_iinc (x0 := 2) (d := 1) (fun x9 => [(2, .int x9), (0, .ref a0), (1, .ref a1)]) d_V_comparedByBytes_51 rfl (by decide) (by decide) (fun _ => rfl) fun x9 => ?_
          refine hp_goto (tgt := 2) d_V_comparedByBytes_54 (by decide) ?_
          refine hp_sub [1, 2, 0] rfl ?_
          exact ih _ _ _ _
        · refine hp_aload_n (x0 := 0) d_V_comparedByBytes_35 rfl rfl ?_
          refine hp_getR fl_V_25 d_V_comparedByBytes_36 fun x10 => ?_
          refine hp_iload_n (x0 := 2) d_V_comparedByBytes_39 rfl rfl ?_
          refine hp_bald d_V_comparedByBytes_40 fun x11 => ?_
          refine hp_aload_n (x0 := 1) d_V_comparedByBytes_41 rfl rfl ?_
          refine hp_getR fl_V_25 d_V_comparedByBytes_42 fun x12 => ?_
          refine hp_iload_n (x0 := 2) d_V_comparedByBytes_45 rfl rfl ?_
          refine hp_bald d_V_comparedByBytes_46 fun x13 => ?_
          refine hp_callI (hp_crS (t_IN_compare _ _ _ _) cw_V_40 w_480 (by decide) rfl rfl (Nat.le_of_ble_eq_true rfl) d_V_comparedByBytes_47) fun q14 => ?_
          exact hp_iret d_V_comparedByBytes_50 rfl
def m_V_comparedByBytes (G : Nat → Nat) (a0 : Nat) (a1 : Nat) (h : hp_H) : Option (Int32 × hp_H) := hp_nm (0 : Int32) fun x1 => m_V_comparedByBytes_2 G hp_fu a0 a1 x1 h
set_option maxRecDepth 100000 in
set_option maxHeartbeats 4000000 in
theorem j_V_comparedByBytes_0 {Z : hp_Z} (a0 : Nat) (a1 : Nat) (h : hp_H) : hp_J Y_V_comparedByBytes Z hp_rI h 0 [(0, .ref a0), (1, .ref a1)] [] (m_V_comparedByBytes (hp_G Z)  a0 a1 h) := by
  unfold m_V_comparedByBytes
  refine hp_iconst (v := 0) d_V_comparedByBytes_0 (by decide) ?_
  refine hp_istore_n (fun x1 => [(2, .int x1), (0, .ref a0), (1, .ref a1)]) d_V_comparedByBytes_1 rfl (by decide) (fun _ => rfl) fun x1 => ?_
  refine hp_sub [1, 2, 0] rfl ?_
  exact j_V_comparedByBytes_2  hp_fu _ _ _ _
theorem t_V_comparedByBytes (l : Launch) (E : hp_E) (a0 : Nat) (a1 : Nat) : hp_M l E y_V_comparedByBytes Y_V_comparedByBytes hp_rI [.ref a0, .ref a1] (m_V_comparedByBytes E.2.2.1 a0 a1) := hp_M.of (plainFor_of_name (by decide)) ⟨rfl, rfl⟩ (Nat.le_of_ble_eq_true rfl) (fun Z h hE => by subst hE; exact j_V_comparedByBytes_0 _ _ h)
-- V_isNumber
theorem d_V_isNumber_0 : decode prog_7_method_2_code 0 = .ok (.aload_n 0, 1) := by decide +kernel
theorem d_V_isNumber_1 : decode prog_7_method_2_code 1 = .ok (.getfield 9, 3) := by decide +kernel
theorem d_V_isNumber_4 : decode prog_7_method_2_code 4 = .ok (.iconst 3, 1) := by decide +kernel
theorem d_V_isNumber_5 : decode prog_7_method_2_code 5 = .ok (.if_icmp .eq 11, 3) := by decide +kernel
theorem d_V_isNumber_8 : decode prog_7_method_2_code 8 = .ok (.aload_n 0, 1) := by decide +kernel
theorem d_V_isNumber_9 : decode prog_7_method_2_code 9 = .ok (.getfield 9, 3) := by decide +kernel
theorem d_V_isNumber_12 : decode prog_7_method_2_code 12 = .ok (.iconst 4, 1) := by decide +kernel
theorem d_V_isNumber_13 : decode prog_7_method_2_code 13 = .ok (.if_icmp .ne 7, 3) := by decide +kernel
theorem d_V_isNumber_16 : decode prog_7_method_2_code 16 = .ok (.iconst 1, 1) := by decide +kernel
theorem d_V_isNumber_17 : decode prog_7_method_2_code 17 = .ok (.goto 4, 3) := by decide +kernel
theorem d_V_isNumber_20 : decode prog_7_method_2_code 20 = .ok (.iconst 0, 1) := by decide +kernel
theorem d_V_isNumber_21 : decode prog_7_method_2_code 21 = .ok (.ireturn, 1) := by decide +kernel
def m_V_isNumber_21 (G : Nat → Nat) (s0 : Int32) (h : hp_H) : Option (Int32 × hp_H) := hp_z s0 h
set_option maxRecDepth 100000 in
set_option maxHeartbeats 4000000 in
theorem j_V_isNumber_21 {Z : hp_Z} (s0 : Int32) (h : hp_H) : hp_J Y_V_isNumber Z hp_rI h 21 [] [.int s0] (m_V_isNumber_21 (hp_G Z)  s0 h) := by
  unfold m_V_isNumber_21
  exact hp_zret d_V_isNumber_21 rfl
def m_V_isNumber_16 (G : Nat → Nat) (h : hp_H) : Option (Int32 × hp_H) := m_V_isNumber_21 G (1 : Int32) h
set_option maxRecDepth 100000 in
set_option maxHeartbeats 4000000 in
theorem j_V_isNumber_16 {Z : hp_Z} (h : hp_H) : hp_J Y_V_isNumber Z hp_rI h 16 [] [] (m_V_isNumber_16 (hp_G Z)   h) := by
  unfold m_V_isNumber_16
  refine hp_iconst (v := 1) d_V_isNumber_16 (by decide) ?_
  refine hp_goto (tgt := 21) d_V_isNumber_17 (by decide) ?_
  exact j_V_isNumber_21  _ _
def m_V_isNumber (G : Nat → Nat) (a0 : Nat) (h : hp_H) : Option (Int32 × hp_H) := (hp_gI h a0 3 0).bind fun x1 => if x1 = (3 : Int32) then (m_V_isNumber_16 G h) else ((hp_gI h a0 3 0).bind fun x2 => if x2 = (4 : Int32) then (m_V_isNumber_16 G h) else (m_V_isNumber_21 G (0 : Int32) h))
set_option maxRecDepth 100000 in
set_option maxHeartbeats 4000000 in
theorem j_V_isNumber_0 {Z : hp_Z} (a0 : Nat) (h : hp_H) : hp_J Y_V_isNumber Z hp_rI h 0 [(0, .ref a0)] [] (m_V_isNumber (hp_G Z)  a0 h) := by
  unfold m_V_isNumber
  refine hp_aload_n (x0 := 0) d_V_isNumber_0 rfl rfl ?_
  refine hp_getI fl_V_9 d_V_isNumber_1 fun x1 => ?_
  refine hp_iconst (v := 3) d_V_isNumber_4 (by decide) ?_
  refine hp_icmp_eq (tgt := 16) d_V_isNumber_5 (by decide) ?_ ?_
  · refine hp_sub [] rfl ?_
    exact j_V_isNumber_16   _
  · refine hp_aload_n (x0 := 0) d_V_isNumber_8 rfl rfl ?_
    refine hp_getI fl_V_9 d_V_isNumber_9 fun x2 => ?_
    refine hp_iconst (v := 4) d_V_isNumber_12 (by decide) ?_
    refine hp_icmp_ne (tgt := 20) d_V_isNumber_13 (by decide) ?_ ?_
    · refine hp_sub [] rfl ?_
      exact j_V_isNumber_16   _
    · refine hp_iconst (v := 0) d_V_isNumber_20 (by decide) ?_
      refine hp_sub [] rfl ?_
      exact j_V_isNumber_21  _ _
theorem t_V_isNumber (l : Launch) (E : hp_E) (a0 : Nat) : hp_M l E y_V_isNumber Y_V_isNumber hp_rI [.ref a0] (m_V_isNumber E.2.2.1 a0) := hp_M.of (plainFor_of_name (by decide)) ⟨rfl, rfl⟩ (Nat.le_of_ble_eq_true rfl) (fun Z h hE => by subst hE; exact j_V_isNumber_0 _ h)
-- V_comparedTo
theorem d_V_comparedTo_0 : decode prog_7_method_5_code 0 = .ok (.aload_n 0, 1) := by decide +kernel
theorem d_V_comparedTo_1 : decode prog_7_method_5_code 1 = .ok (.invokevirtual 32, 3) := by decide +kernel
theorem d_V_comparedTo_4 : decode prog_7_method_5_code 4 = .ok (.ifCond .eq 36, 3) := by decide +kernel
theorem d_V_comparedTo_7 : decode prog_7_method_5_code 7 = .ok (.aload_n 1, 1) := by decide +kernel
theorem d_V_comparedTo_8 : decode prog_7_method_5_code 8 = .ok (.invokevirtual 32, 3) := by decide +kernel
theorem d_V_comparedTo_11 : decode prog_7_method_5_code 11 = .ok (.ifCond .eq 29, 3) := by decide +kernel
theorem d_V_comparedTo_14 : decode prog_7_method_5_code 14 = .ok (.aload_n 0, 1) := by decide +kernel
theorem d_V_comparedTo_15 : decode prog_7_method_5_code 15 = .ok (.aload_n 1, 1) := by decide +kernel
theorem d_V_comparedTo_16 : decode prog_7_method_5_code 16 = .ok (.invokevirtual 36, 3) := by decide +kernel
theorem d_V_comparedTo_19 : decode prog_7_method_5_code 19 = .ok (.istore_n 2, 1) := by decide +kernel
theorem d_V_comparedTo_20 : decode prog_7_method_5_code 20 = .ok (.iload_n 2, 1) := by decide +kernel
theorem d_V_comparedTo_21 : decode prog_7_method_5_code 21 = .ok (.ifCond .eq 7, 3) := by decide +kernel
theorem d_V_comparedTo_24 : decode prog_7_method_5_code 24 = .ok (.iload_n 2, 1) := by decide +kernel
theorem d_V_comparedTo_25 : decode prog_7_method_5_code 25 = .ok (.goto 14, 3) := by decide +kernel
theorem d_V_comparedTo_28 : decode prog_7_method_5_code 28 = .ok (.aload_n 0, 1) := by decide +kernel
theorem d_V_comparedTo_29 : decode prog_7_method_5_code 29 = .ok (.getfield 9, 3) := by decide +kernel
theorem d_V_comparedTo_32 : decode prog_7_method_5_code 32 = .ok (.aload_n 1, 1) := by decide +kernel
theorem d_V_comparedTo_33 : decode prog_7_method_5_code 33 = .ok (.getfield 9, 3) := by decide +kernel
theorem d_V_comparedTo_36 : decode prog_7_method_5_code 36 = .ok (.invokestatic 40, 3) := by decide +kernel
theorem d_V_comparedTo_39 : decode prog_7_method_5_code 39 = .ok (.ireturn, 1) := by decide +kernel
theorem d_V_comparedTo_40 : decode prog_7_method_5_code 40 = .ok (.aload_n 0, 1) := by decide +kernel
theorem d_V_comparedTo_41 : decode prog_7_method_5_code 41 = .ok (.getfield 9, 3) := by decide +kernel
theorem d_V_comparedTo_44 : decode prog_7_method_5_code 44 = .ok (.aload_n 1, 1) := by decide +kernel
theorem d_V_comparedTo_45 : decode prog_7_method_5_code 45 = .ok (.getfield 9, 3) := by decide +kernel
theorem d_V_comparedTo_48 : decode prog_7_method_5_code 48 = .ok (.if_icmp .eq 15, 3) := by decide +kernel
theorem d_V_comparedTo_51 : decode prog_7_method_5_code 51 = .ok (.aload_n 0, 1) := by decide +kernel
theorem d_V_comparedTo_52 : decode prog_7_method_5_code 52 = .ok (.getfield 9, 3) := by decide +kernel
theorem d_V_comparedTo_55 : decode prog_7_method_5_code 55 = .ok (.aload_n 1, 1) := by decide +kernel
theorem d_V_comparedTo_56 : decode prog_7_method_5_code 56 = .ok (.getfield 9, 3) := by decide +kernel
theorem d_V_comparedTo_59 : decode prog_7_method_5_code 59 = .ok (.invokestatic 40, 3) := by decide +kernel
theorem d_V_comparedTo_62 : decode prog_7_method_5_code 62 = .ok (.ireturn, 1) := by decide +kernel
theorem d_V_comparedTo_63 : decode prog_7_method_5_code 63 = .ok (.aload_n 0, 1) := by decide +kernel
theorem d_V_comparedTo_64 : decode prog_7_method_5_code 64 = .ok (.aload_n 1, 1) := by decide +kernel
theorem d_V_comparedTo_65 : decode prog_7_method_5_code 65 = .ok (.invokevirtual 46, 3) := by decide +kernel
theorem d_V_comparedTo_68 : decode prog_7_method_5_code 68 = .ok (.istore_n 2, 1) := by decide +kernel
theorem d_V_comparedTo_69 : decode prog_7_method_5_code 69 = .ok (.iload_n 2, 1) := by decide +kernel
theorem d_V_comparedTo_70 : decode prog_7_method_5_code 70 = .ok (.ifCond .eq 7, 3) := by decide +kernel
theorem d_V_comparedTo_73 : decode prog_7_method_5_code 73 = .ok (.iload_n 2, 1) := by decide +kernel
theorem d_V_comparedTo_74 : decode prog_7_method_5_code 74 = .ok (.goto 14, 3) := by decide +kernel
theorem d_V_comparedTo_77 : decode prog_7_method_5_code 77 = .ok (.aload_n 0, 1) := by decide +kernel
theorem d_V_comparedTo_78 : decode prog_7_method_5_code 78 = .ok (.getfield 15, 3) := by decide +kernel
theorem d_V_comparedTo_81 : decode prog_7_method_5_code 81 = .ok (.aload_n 1, 1) := by decide +kernel
theorem d_V_comparedTo_82 : decode prog_7_method_5_code 82 = .ok (.getfield 15, 3) := by decide +kernel
theorem d_V_comparedTo_85 : decode prog_7_method_5_code 85 = .ok (.invokestatic 40, 3) := by decide +kernel
theorem d_V_comparedTo_88 : decode prog_7_method_5_code 88 = .ok (.ireturn, 1) := by decide +kernel
def m_V_comparedTo_39 (G : Nat → Nat) (s0 : Int32) (h : hp_H) : Option (Int32 × hp_H) := some (s0, h)
set_option maxRecDepth 100000 in
set_option maxHeartbeats 4000000 in
theorem j_V_comparedTo_39 {Z : hp_Z} (s0 : Int32) (h : hp_H) : hp_J Y_V_comparedTo Z hp_rI h 39 [] [.int s0] (m_V_comparedTo_39 (hp_G Z)  s0 h) := by
  unfold m_V_comparedTo_39
  exact hp_iret d_V_comparedTo_39 rfl
def m_V_comparedTo_88 (G : Nat → Nat) (s0 : Int32) (h : hp_H) : Option (Int32 × hp_H) := some (s0, h)
set_option maxRecDepth 100000 in
set_option maxHeartbeats 4000000 in
theorem j_V_comparedTo_88 {Z : hp_Z} (s0 : Int32) (h : hp_H) : hp_J Y_V_comparedTo Z hp_rI h 88 [] [.int s0] (m_V_comparedTo_88 (hp_G Z)  s0 h) := by
  unfold m_V_comparedTo_88
  exact hp_iret d_V_comparedTo_88 rfl
def m_V_comparedTo_40 (G : Nat → Nat) (a0 : Nat) (a1 : Nat) (h : hp_H) : Option (Int32 × hp_H) := (hp_gI h a0 3 0).bind fun x1 => (hp_gI h a1 3 0).bind fun x2 => if x1 = x2 then ((hp_vck h a0 3 (m_V_comparedByBytes G a0 a1 h)).bind fun q3 => hp_nm q3.1 fun x4 => if x4 = 0 then ((hp_gI q3.2 a0 3 1).bind fun x5 => (hp_gI q3.2 a1 3 1).bind fun x6 => (m_IN_compare G x5 x6 q3.2).bind fun q7 => m_V_comparedTo_88 G q7.1 q7.2) else (m_V_comparedTo_88 G x4 q3.2)) else ((hp_gI h a0 3 0).bind fun x8 => (hp_gI h a1 3 0).bind fun x9 => (m_IN_compare G x8 x9 h).bind fun q10 => some (q10.1, q10.2))
set_option maxRecDepth 100000 in
set_option maxHeartbeats 4000000 in
theorem j_V_comparedTo_40 {Z : hp_Z} (a0 : Nat) (a1 : Nat) (h : hp_H) : hp_J Y_V_comparedTo Z hp_rI h 40 [(0, .ref a0), (1, .ref a1)] [] (m_V_comparedTo_40 (hp_G Z)  a0 a1 h) := by
  unfold m_V_comparedTo_40
  refine hp_aload_n (x0 := 0) d_V_comparedTo_40 rfl rfl ?_
  refine hp_getI fl_V_9 d_V_comparedTo_41 fun x1 => ?_
  refine hp_aload_n (x0 := 1) d_V_comparedTo_44 rfl rfl ?_
  refine hp_getI fl_V_9 d_V_comparedTo_45 fun x2 => ?_
  refine hp_icmp_eq (tgt := 63) d_V_comparedTo_48 (by decide) ?_ ?_
  · refine hp_aload_n (x0 := 0) d_V_comparedTo_63 rfl rfl ?_
    refine hp_aload_n (x0 := 1) d_V_comparedTo_64 rfl rfl ?_
    refine hp_callI (hp_crV (ci := 3) (t_V_comparedByBytes _ _ _ _) cw_V_46 rfl ⟨w_484, ws_4⟩ (by decide) rfl rfl (Nat.le_of_ble_eq_true rfl) d_V_comparedTo_65) fun q3 => ?_
    refine hp_istore_n (fun x4 => [(2, .int x4), (0, .ref a0), (1, .ref a1)]) d_V_comparedTo_68 rfl (by decide) (fun _ => rfl) fun x4 => ?_
    refine hp_iload_n (x0 := 0) d_V_comparedTo_69 rfl rfl ?_
    refine hp_if_eq (tgt := 77) d_V_comparedTo_70 (by decide) ?_ ?_
    · refine hp_aload_n (x0 := 1) d_V_comparedTo_77 rfl rfl ?_
      refine hp_getI fl_V_15 d_V_comparedTo_78 fun x5 => ?_
      refine hp_aload_n (x0 := 2) d_V_comparedTo_81 rfl rfl ?_
      refine hp_getI fl_V_15 d_V_comparedTo_82 fun x6 => ?_
      refine hp_callI (hp_crS (t_IN_compare _ _ _ _) cw_V_40 w_480 (by decide) rfl rfl (Nat.le_of_ble_eq_true rfl) d_V_comparedTo_85) fun q7 => ?_
      refine hp_sub [] rfl ?_
      exact j_V_comparedTo_88  _ _
    · refine hp_iload_n (x0 := 0) d_V_comparedTo_73 rfl rfl ?_
      refine hp_goto (tgt := 88) d_V_comparedTo_74 (by decide) ?_
      refine hp_sub [] rfl ?_
      exact j_V_comparedTo_88  _ _
  · refine hp_aload_n (x0 := 0) d_V_comparedTo_51 rfl rfl ?_
    refine hp_getI fl_V_9 d_V_comparedTo_52 fun x8 => ?_
    refine hp_aload_n (x0 := 1) d_V_comparedTo_55 rfl rfl ?_
    refine hp_getI fl_V_9 d_V_comparedTo_56 fun x9 => ?_
    refine hp_callI (hp_crS (t_IN_compare _ _ _ _) cw_V_40 w_480 (by decide) rfl rfl (Nat.le_of_ble_eq_true rfl) d_V_comparedTo_59) fun q10 => ?_
    exact hp_iret d_V_comparedTo_62 rfl
def m_V_comparedTo (G : Nat → Nat) (a0 : Nat) (a1 : Nat) (h : hp_H) : Option (Int32 × hp_H) := (hp_vck h a0 3 (m_V_isNumber G a0 h)).bind fun q1 => if q1.1 = 0 then (m_V_comparedTo_40 G a0 a1 q1.2) else ((hp_vck q1.2 a1 3 (m_V_isNumber G a1 q1.2)).bind fun q2 => if q2.1 = 0 then (m_V_comparedTo_40 G a0 a1 q2.2) else ((hp_vck q2.2 a0 3 (m_V_comparedByAmount G a0 a1 q2.2)).bind fun q3 => hp_nm q3.1 fun x4 => if x4 = 0 then ((hp_gI q3.2 a0 3 0).bind fun x5 => (hp_gI q3.2 a1 3 0).bind fun x6 => (m_IN_compare G x5 x6 q3.2).bind fun q7 => m_V_comparedTo_39 G q7.1 q7.2) else (m_V_comparedTo_39 G x4 q3.2)))
set_option maxRecDepth 100000 in
set_option maxHeartbeats 4000000 in
theorem j_V_comparedTo_0 {Z : hp_Z} (a0 : Nat) (a1 : Nat) (h : hp_H) : hp_J Y_V_comparedTo Z hp_rI h 0 [(0, .ref a0), (1, .ref a1)] [] (m_V_comparedTo (hp_G Z)  a0 a1 h) := by
  unfold m_V_comparedTo
  refine hp_aload_n (x0 := 0) d_V_comparedTo_0 rfl rfl ?_
  refine hp_callI (hp_crV (ci := 3) (t_V_isNumber _ _ _) cw_V_32 rfl ⟨w_454, w_455⟩ (by decide) rfl rfl (Nat.le_of_ble_eq_true rfl) d_V_comparedTo_1) fun q1 => ?_
  refine hp_if_eq (tgt := 40) d_V_comparedTo_4 (by decide) ?_ ?_
  · exact j_V_comparedTo_40  _ _ _
  · refine hp_aload_n (x0 := 1) d_V_comparedTo_7 rfl rfl ?_
    refine hp_callI (hp_crV (ci := 3) (t_V_isNumber _ _ _) cw_V_32 rfl ⟨w_454, w_455⟩ (by decide) rfl rfl (Nat.le_of_ble_eq_true rfl) d_V_comparedTo_8) fun q2 => ?_
    refine hp_if_eq (tgt := 40) d_V_comparedTo_11 (by decide) ?_ ?_
    · exact j_V_comparedTo_40  _ _ _
    · refine hp_aload_n (x0 := 0) d_V_comparedTo_14 rfl rfl ?_
      refine hp_aload_n (x0 := 1) d_V_comparedTo_15 rfl rfl ?_
      refine hp_callI (hp_crV (ci := 3) (t_V_comparedByAmount _ _ _ _) cw_V_36 rfl ⟨w_458, w_459⟩ (by decide) rfl rfl (Nat.le_of_ble_eq_true rfl) d_V_comparedTo_16) fun q3 => ?_
      refine hp_istore_n (fun x4 => [(2, .int x4), (0, .ref a0), (1, .ref a1)]) d_V_comparedTo_19 rfl (by decide) (fun _ => rfl) fun x4 => ?_
      refine hp_iload_n (x0 := 0) d_V_comparedTo_20 rfl rfl ?_
      refine hp_if_eq (tgt := 28) d_V_comparedTo_21 (by decide) ?_ ?_
      · refine hp_aload_n (x0 := 1) d_V_comparedTo_28 rfl rfl ?_
        refine hp_getI fl_V_9 d_V_comparedTo_29 fun x5 => ?_
        refine hp_aload_n (x0 := 2) d_V_comparedTo_32 rfl rfl ?_
        refine hp_getI fl_V_9 d_V_comparedTo_33 fun x6 => ?_
        refine hp_callI (hp_crS (t_IN_compare _ _ _ _) cw_V_40 w_480 (by decide) rfl rfl (Nat.le_of_ble_eq_true rfl) d_V_comparedTo_36) fun q7 => ?_
        refine hp_sub [] rfl ?_
        exact j_V_comparedTo_39  _ _
      · refine hp_iload_n (x0 := 0) d_V_comparedTo_24 rfl rfl ?_
        refine hp_goto (tgt := 39) d_V_comparedTo_25 (by decide) ?_
        refine hp_sub [] rfl ?_
        exact j_V_comparedTo_39  _ _
theorem t_V_comparedTo (l : Launch) (E : hp_E) (a0 : Nat) (a1 : Nat) : hp_M l E y_V_comparedTo Y_V_comparedTo hp_rI [.ref a0, .ref a1] (m_V_comparedTo E.2.2.1 a0 a1) := hp_M.of (plainFor_of_name (by decide)) ⟨rfl, rfl⟩ (Nat.le_of_ble_eq_true rfl) (fun Z h hE => by subst hE; exact j_V_comparedTo_0 _ _ h)
-- D_order
theorem d_D_order_0 : decode prog_1_method_12_code 0 = .ok (.aload_n 0, 1) := by decide +kernel
theorem d_D_order_1 : decode prog_1_method_12_code 1 = .ok (.getfield 10, 3) := by decide +kernel
theorem d_D_order_4 : decode prog_1_method_12_code 4 = .ok (.iload_n 1, 1) := by decide +kernel
theorem d_D_order_5 : decode prog_1_method_12_code 5 = .ok (.invokevirtual 80, 3) := by decide +kernel
theorem d_D_order_8 : decode prog_1_method_12_code 8 = .ok (.astore_n 3, 1) := by decide +kernel
theorem d_D_order_9 : decode prog_1_method_12_code 9 = .ok (.aload_n 0, 1) := by decide +kernel
theorem d_D_order_10 : decode prog_1_method_12_code 10 = .ok (.getfield 10, 3) := by decide +kernel
theorem d_D_order_13 : decode prog_1_method_12_code 13 = .ok (.iload_n 2, 1) := by decide +kernel
theorem d_D_order_14 : decode prog_1_method_12_code 14 = .ok (.invokevirtual 80, 3) := by decide +kernel
theorem d_D_order_17 : decode prog_1_method_12_code 17 = .ok (.astore 4, 2) := by decide +kernel
theorem d_D_order_19 : decode prog_1_method_12_code 19 = .ok (.aload_n 3, 1) := by decide +kernel
theorem d_D_order_20 : decode prog_1_method_12_code 20 = .ok (.getfield 84, 3) := by decide +kernel
theorem d_D_order_23 : decode prog_1_method_12_code 23 = .ok (.ifCond .eq 11, 3) := by decide +kernel
theorem d_D_order_26 : decode prog_1_method_12_code 26 = .ok (.aload 4, 2) := by decide +kernel
theorem d_D_order_28 : decode prog_1_method_12_code 28 = .ok (.getfield 84, 3) := by decide +kernel
theorem d_D_order_31 : decode prog_1_method_12_code 31 = .ok (.ifCond .ne 5, 3) := by decide +kernel
theorem d_D_order_34 : decode prog_1_method_12_code 34 = .ok (.iconst 2, 1) := by decide +kernel
theorem d_D_order_35 : decode prog_1_method_12_code 35 = .ok (.ireturn, 1) := by decide +kernel
theorem d_D_order_36 : decode prog_1_method_12_code 36 = .ok (.aload_n 3, 1) := by decide +kernel
theorem d_D_order_37 : decode prog_1_method_12_code 37 = .ok (.aload 4, 2) := by decide +kernel
theorem d_D_order_39 : decode prog_1_method_12_code 39 = .ok (.invokevirtual 107, 3) := by decide +kernel
theorem d_D_order_42 : decode prog_1_method_12_code 42 = .ok (.ireturn, 1) := by decide +kernel
def m_D_order_34 (G : Nat → Nat) (h : hp_H) : Option (Int32 × hp_H) := some ((2 : Int32), h)
set_option maxRecDepth 100000 in
set_option maxHeartbeats 4000000 in
theorem j_D_order_34 {Z : hp_Z} (h : hp_H) : hp_J Y_D_order Z hp_rI h 34 [] [] (m_D_order_34 (hp_G Z)   h) := by
  unfold m_D_order_34
  refine hp_iconst (v := 2) d_D_order_34 (by decide) ?_
  exact hp_iret d_D_order_35 rfl
def m_D_order (G : Nat → Nat) (a0 : Nat) (a1 : Int32) (a2 : Int32) (h : hp_H) : Option (Int32 × hp_H) := (hp_gR h a0 0 0).bind fun x1 => (hp_vck h x1 1 (m_S_at G x1 a1 h)).bind fun q2 => hp_nm q2.1 fun x3 => (hp_gR q2.2 a0 0 0).bind fun x4 => (hp_vck q2.2 x4 1 (m_S_at G x4 a2 q2.2)).bind fun q5 => hp_nm q5.1 fun x6 => (hp_gI q5.2 x3 3 0).bind fun x7 => if x7 = 0 then (m_D_order_34 G q5.2) else ((hp_gI q5.2 x6 3 0).bind fun x8 => if x8 = 0 then (m_D_order_34 G q5.2) else ((hp_vck q5.2 x3 3 (m_V_comparedTo G x3 x6 q5.2)).bind fun q9 => some (q9.1, q9.2)))
set_option maxRecDepth 100000 in
set_option maxHeartbeats 4000000 in
theorem j_D_order_0 {Z : hp_Z} (a0 : Nat) (a1 : Int32) (a2 : Int32) (h : hp_H) : hp_J Y_D_order Z hp_rI h 0 [(0, .ref a0), (1, .int a1), (2, .int a2)] [] (m_D_order (hp_G Z)  a0 a1 a2 h) := by
  unfold m_D_order
  refine hp_aload_n (x0 := 0) d_D_order_0 rfl rfl ?_
  refine hp_getR fl_D_10 d_D_order_1 fun x1 => ?_
  refine hp_iload_n (x0 := 1) d_D_order_4 rfl rfl ?_
  refine hp_callR (hp_crV (ci := 1) (t_S_at _ _ _ _) cw_D_80 rfl ⟨w_426, w_427⟩ (by decide) rfl rfl (Nat.le_of_ble_eq_true rfl) d_D_order_5) fun q2 => ?_
  refine hp_astore_n (fun x3 => [(3, .ref x3), (0, .ref a0), (1, .int a1), (2, .int a2)]) d_D_order_8 rfl (by decide) (fun _ => rfl) fun x3 => ?_
  refine hp_aload_n (x0 := 1) d_D_order_9 rfl rfl ?_
  refine hp_getR fl_D_10 d_D_order_10 fun x4 => ?_
  refine hp_iload_n (x0 := 3) d_D_order_13 rfl rfl ?_
  refine hp_callR (hp_crV (ci := 1) (t_S_at _ _ _ _) cw_D_80 rfl ⟨w_426, w_427⟩ (by decide) rfl rfl (Nat.le_of_ble_eq_true rfl) d_D_order_14) fun q5 => ?_
  refine hp_astore (fun x6 => [(4, .ref x6), (3, .ref x3), (0, .ref a0), (1, .int a1), (2, .int a2)]) d_D_order_17 (by decide) (fun _ => rfl) fun x6 => ?_
  refine hp_aload_n (x0 := 1) d_D_order_19 rfl rfl ?_
  refine hp_getI fl_D_84 d_D_order_20 fun x7 => ?_
  refine hp_if_eq (tgt := 34) d_D_order_23 (by decide) ?_ ?_
  · refine hp_sub [] rfl ?_
    exact j_D_order_34   _
  · refine hp_aload (x0 := 0) d_D_order_26 rfl ?_
    refine hp_getI fl_D_84 d_D_order_28 fun x8 => ?_
    refine hp_if_ne (tgt := 36) d_D_order_31 (by decide) ?_ ?_
    · refine hp_sub [] rfl ?_
      exact j_D_order_34   _
    · refine hp_aload_n (x0 := 1) d_D_order_36 rfl rfl ?_
      refine hp_aload (x0 := 0) d_D_order_37 rfl ?_
      refine hp_callI (hp_crV (ci := 3) (t_V_comparedTo _ _ _ _) cw_D_107 rfl ⟨w_450, w_451⟩ (by decide) rfl rfl (Nat.le_of_ble_eq_true rfl) d_D_order_39) fun q9 => ?_
      exact hp_iret d_D_order_42 rfl
theorem t_D_order (l : Launch) (E : hp_E) (a0 : Nat) (a1 : Int32) (a2 : Int32) : hp_M l E y_D_order Y_D_order hp_rI [.ref a0, .int a1, .int a2] (m_D_order E.2.2.1 a0 a1 a2) := hp_M.of (plainFor_of_name (by decide)) ⟨rfl, rfl⟩ (Nat.le_of_ble_eq_true rfl) (fun Z h hE => by subst hE; exact j_D_order_0 _ _ _ h)
-- E_takesMany
theorem d_E_takesMany_0 : decode prog_2_method_8_code 0 = .ok (.iload_n 0, 1) := by decide +kernel
theorem d_E_takesMany_1 : decode prog_2_method_8_code 1 = .ok (.bipush 23, 2) := by decide +kernel
theorem d_E_takesMany_3 : decode prog_2_method_8_code 3 = .ok (.if_icmp .eq 15, 3) := by decide +kernel
theorem d_E_takesMany_6 : decode prog_2_method_8_code 6 = .ok (.iload_n 0, 1) := by decide +kernel
theorem d_E_takesMany_7 : decode prog_2_method_8_code 7 = .ok (.bipush 24, 2) := by decide +kernel
theorem d_E_takesMany_9 : decode prog_2_method_8_code 9 = .ok (.if_icmp .eq 9, 3) := by decide +kernel
theorem d_E_takesMany_12 : decode prog_2_method_8_code 12 = .ok (.iload_n 0, 1) := by decide +kernel
theorem d_E_takesMany_13 : decode prog_2_method_8_code 13 = .ok (.bipush 29, 2) := by decide +kernel
theorem d_E_takesMany_15 : decode prog_2_method_8_code 15 = .ok (.if_icmp .ne 7, 3) := by decide +kernel
theorem d_E_takesMany_18 : decode prog_2_method_8_code 18 = .ok (.iconst 1, 1) := by decide +kernel
theorem d_E_takesMany_19 : decode prog_2_method_8_code 19 = .ok (.goto 4, 3) := by decide +kernel
theorem d_E_takesMany_22 : decode prog_2_method_8_code 22 = .ok (.iconst 0, 1) := by decide +kernel
theorem d_E_takesMany_23 : decode prog_2_method_8_code 23 = .ok (.ireturn, 1) := by decide +kernel
def m_E_takesMany_23 (G : Nat → Nat) (s0 : Int32) (h : hp_H) : Option (Int32 × hp_H) := hp_z s0 h
set_option maxRecDepth 100000 in
set_option maxHeartbeats 4000000 in
theorem j_E_takesMany_23 {Z : hp_Z} (s0 : Int32) (h : hp_H) : hp_J Y_E_takesMany Z hp_rI h 23 [] [.int s0] (m_E_takesMany_23 (hp_G Z)  s0 h) := by
  unfold m_E_takesMany_23
  exact hp_zret d_E_takesMany_23 rfl
def m_E_takesMany_18 (G : Nat → Nat) (h : hp_H) : Option (Int32 × hp_H) := m_E_takesMany_23 G (1 : Int32) h
set_option maxRecDepth 100000 in
set_option maxHeartbeats 4000000 in
theorem j_E_takesMany_18 {Z : hp_Z} (h : hp_H) : hp_J Y_E_takesMany Z hp_rI h 18 [] [] (m_E_takesMany_18 (hp_G Z)   h) := by
  unfold m_E_takesMany_18
  refine hp_iconst (v := 1) d_E_takesMany_18 (by decide) ?_
  refine hp_goto (tgt := 23) d_E_takesMany_19 (by decide) ?_
  exact j_E_takesMany_23  _ _
def m_E_takesMany (G : Nat → Nat) (a0 : Int32) (h : hp_H) : Option (Int32 × hp_H) := if a0 = (23 : Int32) then (m_E_takesMany_18 G h) else (if a0 = (24 : Int32) then (m_E_takesMany_18 G h) else (if a0 = (29 : Int32) then (m_E_takesMany_18 G h) else (m_E_takesMany_23 G (0 : Int32) h)))
set_option maxRecDepth 100000 in
set_option maxHeartbeats 4000000 in
theorem j_E_takesMany_0 {Z : hp_Z} (a0 : Int32) (h : hp_H) : hp_J Y_E_takesMany Z hp_rI h 0 [(0, .int a0)] [] (m_E_takesMany (hp_G Z)  a0 h) := by
  unfold m_E_takesMany
  refine hp_iload_n (x0 := 0) d_E_takesMany_0 rfl rfl ?_
  refine hp_bipush (v := 23) d_E_takesMany_1 (by decide) ?_
  refine hp_icmp_eq (tgt := 18) d_E_takesMany_3 (by decide) ?_ ?_
  · refine hp_sub [] rfl ?_
    exact j_E_takesMany_18   _
  · refine hp_iload_n (x0 := 0) d_E_takesMany_6 rfl rfl ?_
    refine hp_bipush (v := 24) d_E_takesMany_7 (by decide) ?_
    refine hp_icmp_eq (tgt := 18) d_E_takesMany_9 (by decide) ?_ ?_
    · refine hp_sub [] rfl ?_
      exact j_E_takesMany_18   _
    · refine hp_iload_n (x0 := 0) d_E_takesMany_12 rfl rfl ?_
      refine hp_bipush (v := 29) d_E_takesMany_13 (by decide) ?_
      refine hp_icmp_ne (tgt := 22) d_E_takesMany_15 (by decide) ?_ ?_
      · refine hp_sub [] rfl ?_
        exact j_E_takesMany_18   _
      · refine hp_iconst (v := 0) d_E_takesMany_22 (by decide) ?_
        refine hp_sub [] rfl ?_
        exact j_E_takesMany_23  _ _
theorem t_E_takesMany (l : Launch) (E : hp_E) (a0 : Int32) : hp_M l E y_E_takesMany Y_E_takesMany hp_rI [.int a0] (m_E_takesMany E.2.2.1 a0) := hp_M.of (plainFor_of_name (by decide)) ⟨rfl, rfl⟩ (Nat.le_of_ble_eq_true rfl) (fun Z h hE => by subst hE; exact j_E_takesMany_0 _ h)
-- E_append
theorem d_E_append_0 : decode prog_2_method_2_code 0 = .ok (.iload_n 1, 1) := by decide +kernel
theorem d_E_append_1 : decode prog_2_method_2_code 1 = .ok (.ifCond .lt 9, 3) := by decide +kernel
theorem d_E_append_4 : decode prog_2_method_2_code 4 = .ok (.iload_n 1, 1) := by decide +kernel
theorem d_E_append_5 : decode prog_2_method_2_code 5 = .ok (.bipush 41, 2) := by decide +kernel
theorem d_E_append_7 : decode prog_2_method_2_code 7 = .ok (.if_icmp .le 5, 3) := by decide +kernel
theorem d_E_append_10 : decode prog_2_method_2_code 10 = .ok (.iconst (-1), 1) := by decide +kernel
theorem d_E_append_11 : decode prog_2_method_2_code 11 = .ok (.ireturn, 1) := by decide +kernel
theorem d_E_append_12 : decode prog_2_method_2_code 12 = .ok (.iload_n 1, 1) := by decide +kernel
theorem d_E_append_13 : decode prog_2_method_2_code 13 = .ok (.bipush 23, 2) := by decide +kernel
theorem d_E_append_15 : decode prog_2_method_2_code 15 = .ok (.if_icmp .ne 7, 3) := by decide +kernel
theorem d_E_append_18 : decode prog_2_method_2_code 18 = .ok (.iconst 1, 1) := by decide +kernel
theorem d_E_append_19 : decode prog_2_method_2_code 19 = .ok (.goto 4, 3) := by decide +kernel
theorem d_E_append_22 : decode prog_2_method_2_code 22 = .ok (.iconst 0, 1) := by decide +kernel
theorem d_E_append_23 : decode prog_2_method_2_code 23 = .ok (.istore_n 3, 1) := by decide +kernel
theorem d_E_append_24 : decode prog_2_method_2_code 24 = .ok (.iload_n 1, 1) := by decide +kernel
theorem d_E_append_25 : decode prog_2_method_2_code 25 = .ok (.invokestatic 42, 3) := by decide +kernel
theorem d_E_append_28 : decode prog_2_method_2_code 28 = .ok (.ifCond .eq 16, 3) := by decide +kernel
theorem d_E_append_31 : decode prog_2_method_2_code 31 = .ok (.iload_n 2, 1) := by decide +kernel
theorem d_E_append_32 : decode prog_2_method_2_code 32 = .ok (.iload_n 3, 1) := by decide +kernel
theorem d_E_append_33 : decode prog_2_method_2_code 33 = .ok (.if_icmp .lt 9, 3) := by decide +kernel
theorem d_E_append_36 : decode prog_2_method_2_code 36 = .ok (.iload_n 2, 1) := by decide +kernel
theorem d_E_append_37 : decode prog_2_method_2_code 37 = .ok (.bipush 20, 2) := by decide +kernel
theorem d_E_append_39 : decode prog_2_method_2_code 39 = .ok (.if_icmp .le 5, 3) := by decide +kernel
theorem d_E_append_42 : decode prog_2_method_2_code 42 = .ok (.iconst (-1), 1) := by decide +kernel
theorem d_E_append_43 : decode prog_2_method_2_code 43 = .ok (.ireturn, 1) := by decide +kernel
theorem d_E_append_44 : decode prog_2_method_2_code 44 = .ok (.aload_n 0, 1) := by decide +kernel
theorem d_E_append_45 : decode prog_2_method_2_code 45 = .ok (.getfield 46, 3) := by decide +kernel
theorem d_E_append_48 : decode prog_2_method_2_code 48 = .ok (.bipush 100, 2) := by decide +kernel
theorem d_E_append_50 : decode prog_2_method_2_code 50 = .ok (.if_icmp .lt 6, 3) := by decide +kernel
theorem d_E_append_53 : decode prog_2_method_2_code 53 = .ok (.bipush (-3), 2) := by decide +kernel
theorem d_E_append_55 : decode prog_2_method_2_code 55 = .ok (.ireturn, 1) := by decide +kernel
theorem d_E_append_56 : decode prog_2_method_2_code 56 = .ok (.aload_n 0, 1) := by decide +kernel
theorem d_E_append_57 : decode prog_2_method_2_code 57 = .ok (.getfield 9, 3) := by decide +kernel
theorem d_E_append_60 : decode prog_2_method_2_code 60 = .ok (.aload_n 0, 1) := by decide +kernel
theorem d_E_append_61 : decode prog_2_method_2_code 61 = .ok (.getfield 46, 3) := by decide +kernel
theorem d_E_append_64 : decode prog_2_method_2_code 64 = .ok (.iload_n 1, 1) := by decide +kernel
theorem d_E_append_65 : decode prog_2_method_2_code 65 = .ok (.iastore, 1) := by decide +kernel
theorem d_E_append_66 : decode prog_2_method_2_code 66 = .ok (.aload_n 0, 1) := by decide +kernel
theorem d_E_append_67 : decode prog_2_method_2_code 67 = .ok (.getfield 15, 3) := by decide +kernel
theorem d_E_append_70 : decode prog_2_method_2_code 70 = .ok (.aload_n 0, 1) := by decide +kernel
theorem d_E_append_71 : decode prog_2_method_2_code 71 = .ok (.getfield 46, 3) := by decide +kernel
theorem d_E_append_74 : decode prog_2_method_2_code 74 = .ok (.iload_n 2, 1) := by decide +kernel
theorem d_E_append_75 : decode prog_2_method_2_code 75 = .ok (.iastore, 1) := by decide +kernel
theorem d_E_append_76 : decode prog_2_method_2_code 76 = .ok (.aload_n 0, 1) := by decide +kernel
theorem d_E_append_77 : decode prog_2_method_2_code 77 = .ok (.dup, 1) := by decide +kernel
theorem d_E_append_78 : decode prog_2_method_2_code 78 = .ok (.getfield 46, 3) := by decide +kernel
theorem d_E_append_81 : decode prog_2_method_2_code 81 = .ok (.iconst 1, 1) := by decide +kernel
theorem d_E_append_82 : decode prog_2_method_2_code 82 = .ok (.iadd, 1) := by decide +kernel
theorem d_E_append_83 : decode prog_2_method_2_code 83 = .ok (.putfield 46, 3) := by decide +kernel
theorem d_E_append_86 : decode prog_2_method_2_code 86 = .ok (.aload_n 0, 1) := by decide +kernel
theorem d_E_append_87 : decode prog_2_method_2_code 87 = .ok (.getfield 46, 3) := by decide +kernel
theorem d_E_append_90 : decode prog_2_method_2_code 90 = .ok (.ireturn, 1) := by decide +kernel
def m_E_append_10 (G : Nat → Nat) (h : hp_H) : Option (Int32 × hp_H) := some ((-1 : Int32), h)
set_option maxRecDepth 100000 in
set_option maxHeartbeats 4000000 in
theorem j_E_append_10 {Z : hp_Z} (h : hp_H) : hp_J Y_E_append Z hp_rI h 10 [] [] (m_E_append_10 (hp_G Z)   h) := by
  unfold m_E_append_10
  refine hp_iconst (v := -1) d_E_append_10 (by decide) ?_
  exact hp_iret d_E_append_11 rfl
def m_E_append_42 (G : Nat → Nat) (h : hp_H) : Option (Int32 × hp_H) := some ((-1 : Int32), h)
set_option maxRecDepth 100000 in
set_option maxHeartbeats 4000000 in
theorem j_E_append_42 {Z : hp_Z} (h : hp_H) : hp_J Y_E_append Z hp_rI h 42 [] [] (m_E_append_42 (hp_G Z)   h) := by
  unfold m_E_append_42
  refine hp_iconst (v := -1) d_E_append_42 (by decide) ?_
  exact hp_iret d_E_append_43 rfl
def m_E_append_44 (G : Nat → Nat) (a0 : Nat) (a1 : Int32) (a2 : Int32) (h : hp_H) : Option (Int32 × hp_H) := (hp_gI h a0 5 7).bind fun x1 => if x1 < (100 : Int32) then ((hp_gR h a0 5 1).bind fun x2 => (hp_gI h a0 5 7).bind fun x3 => (hp_sI h .int x2 x3 a1).bind fun h4 => (hp_gR h4 a0 5 2).bind fun x5 => (hp_gI h4 a0 5 7).bind fun x6 => (hp_sI h4 .int x5 x6 a2).bind fun h7 => (hp_gI h7 a0 5 7).bind fun x8 => (hp_p h7 a0 5 7 (.int (x8 + (1 : Int32)))).bind fun h9 => (hp_gI h9 a0 5 7).bind fun x10 => some (x10, h9)) else (some ((-3 : Int32), h))
set_option maxRecDepth 100000 in
set_option maxHeartbeats 4000000 in
theorem j_E_append_44 {Z : hp_Z} (a0 : Nat) (a1 : Int32) (a2 : Int32) (h : hp_H) : hp_J Y_E_append Z hp_rI h 44 [(0, .ref a0), (1, .int a1), (2, .int a2)] [] (m_E_append_44 (hp_G Z)  a0 a1 a2 h) := by
  unfold m_E_append_44
  refine hp_aload_n (x0 := 0) d_E_append_44 rfl rfl ?_
  refine hp_getI fl_E_46 d_E_append_45 fun x1 => ?_
  refine hp_bipush (v := 100) d_E_append_48 (by decide) ?_
  refine hp_icmp_lt (tgt := 56) d_E_append_50 (by decide) ?_ ?_
  · refine hp_aload_n (x0 := 0) d_E_append_56 rfl rfl ?_
    refine hp_getR fl_E_9 d_E_append_57 fun x2 => ?_
    refine hp_aload_n (x0 := 0) d_E_append_60 rfl rfl ?_
    refine hp_getI fl_E_46 d_E_append_61 fun x3 => ?_
    refine hp_iload_n (x0 := 1) d_E_append_64 rfl rfl ?_
    refine hp_iast d_E_append_65 fun h4 => ?_
    refine hp_aload_n (x0 := 0) d_E_append_66 rfl rfl ?_
    refine hp_getR fl_E_15 d_E_append_67 fun x5 => ?_
    refine hp_aload_n (x0 := 0) d_E_append_70 rfl rfl ?_
    refine hp_getI fl_E_46 d_E_append_71 fun x6 => ?_
    refine hp_iload_n (x0 := 2) d_E_append_74 rfl rfl ?_
    refine hp_iast d_E_append_75 fun h7 => ?_
    refine hp_aload_n (x0 := 0) d_E_append_76 rfl rfl ?_
    refine hp_dup d_E_append_77 rfl ?_
    refine hp_getI fl_E_46 d_E_append_78 fun x8 => ?_
    refine hp_iconst (v := 1) d_E_append_81 (by decide) ?_
    refine hp_iadd d_E_append_82 ?_
    refine hp_put fl_E_46 (fun q => by cases q) rfl rfl d_E_append_83 fun h9 => ?_
    refine hp_aload_n (x0 := 0) d_E_append_86 rfl rfl ?_
    refine hp_getI fl_E_46 d_E_append_87 fun x10 => ?_
    exact hp_iret d_E_append_90 rfl
  · refine hp_bipush (v := -3) d_E_append_53 (by decide) ?_
    exact hp_iret d_E_append_55 rfl
def m_E_append_23 (G : Nat → Nat) (a0 : Nat) (a1 : Int32) (a2 : Int32) (s0 : Int32) (h : hp_H) : Option (Int32 × hp_H) := hp_nm s0 fun x1 => (m_E_takesMany G a1 h).bind fun q2 => if q2.1 = 0 then (m_E_append_44 G a0 a1 a2 q2.2) else (if a2 < x1 then (m_E_append_42 G q2.2) else (if a2 ≤ (20 : Int32) then (m_E_append_44 G a0 a1 a2 q2.2) else (m_E_append_42 G q2.2)))
set_option maxRecDepth 100000 in
set_option maxHeartbeats 4000000 in
theorem j_E_append_23 {Z : hp_Z} (a0 : Nat) (a1 : Int32) (a2 : Int32) (s0 : Int32) (h : hp_H) : hp_J Y_E_append Z hp_rI h 23 [(0, .ref a0), (1, .int a1), (2, .int a2)] [.int s0] (m_E_append_23 (hp_G Z)  a0 a1 a2 s0 h) := by
  unfold m_E_append_23
  refine hp_istore_n (fun x1 => [(3, .int x1), (0, .ref a0), (1, .int a1), (2, .int a2)]) d_E_append_23 rfl (by decide) (fun _ => rfl) fun x1 => ?_
  refine hp_iload_n (x0 := 2) d_E_append_24 rfl rfl ?_
  refine hp_callI (hp_crS (t_E_takesMany _ _ _) cw_E_42 w_495 (by decide) rfl rfl (Nat.le_of_ble_eq_true rfl) d_E_append_25) fun q2 => ?_
  refine hp_if_eq (tgt := 44) d_E_append_28 (by decide) ?_ ?_
  · refine hp_sub [1, 2, 3] rfl ?_
    exact j_E_append_44  _ _ _ _
  · refine hp_iload_n (x0 := 3) d_E_append_31 rfl rfl ?_
    refine hp_iload_n (x0 := 0) d_E_append_32 rfl rfl ?_
    refine hp_icmp_lt (tgt := 42) d_E_append_33 (by decide) ?_ ?_
    · refine hp_sub [] rfl ?_
      exact j_E_append_42   _
    · refine hp_iload_n (x0 := 3) d_E_append_36 rfl rfl ?_
      refine hp_bipush (v := 20) d_E_append_37 (by decide) ?_
      refine hp_icmp_le (tgt := 44) d_E_append_39 (by decide) ?_ ?_
      · refine hp_sub [1, 2, 3] rfl ?_
        exact j_E_append_44  _ _ _ _
      · refine hp_sub [] rfl ?_
        exact j_E_append_42   _
def m_E_append (G : Nat → Nat) (a0 : Nat) (a1 : Int32) (a2 : Int32) (h : hp_H) : Option (Int32 × hp_H) := if a1 < 0 then (m_E_append_10 G h) else (if a1 ≤ (41 : Int32) then (if a1 = (23 : Int32) then (m_E_append_23 G a0 a1 a2 (1 : Int32) h) else (m_E_append_23 G a0 a1 a2 (0 : Int32) h)) else (m_E_append_10 G h))
set_option maxRecDepth 100000 in
set_option maxHeartbeats 4000000 in
theorem j_E_append_0 {Z : hp_Z} (a0 : Nat) (a1 : Int32) (a2 : Int32) (h : hp_H) : hp_J Y_E_append Z hp_rI h 0 [(0, .ref a0), (1, .int a1), (2, .int a2)] [] (m_E_append (hp_G Z)  a0 a1 a2 h) := by
  unfold m_E_append
  refine hp_iload_n (x0 := 1) d_E_append_0 rfl rfl ?_
  refine hp_if_lt (tgt := 10) d_E_append_1 (by decide) ?_ ?_
  · refine hp_sub [] rfl ?_
    exact j_E_append_10   _
  · refine hp_iload_n (x0 := 1) d_E_append_4 rfl rfl ?_
    refine hp_bipush (v := 41) d_E_append_5 (by decide) ?_
    refine hp_icmp_le (tgt := 12) d_E_append_7 (by decide) ?_ ?_
    · refine hp_iload_n (x0 := 1) d_E_append_12 rfl rfl ?_
      refine hp_bipush (v := 23) d_E_append_13 (by decide) ?_
      refine hp_icmp_ne (tgt := 22) d_E_append_15 (by decide) ?_ ?_
      · refine hp_iconst (v := 1) d_E_append_18 (by decide) ?_
        refine hp_goto (tgt := 23) d_E_append_19 (by decide) ?_
        exact j_E_append_23  _ _ _ _ _
      · refine hp_iconst (v := 0) d_E_append_22 (by decide) ?_
        exact j_E_append_23  _ _ _ _ _
    · refine hp_sub [] rfl ?_
      exact j_E_append_10   _
theorem t_E_append (l : Launch) (E : hp_E) (a0 : Nat) (a1 : Int32) (a2 : Int32) : hp_M l E y_E_append Y_E_append hp_rI [.ref a0, .int a1, .int a2] (m_E_append E.2.2.1 a0 a1 a2) := hp_M.of (plainFor_of_name (by decide)) ⟨rfl, rfl⟩ (Nat.le_of_ble_eq_true rfl) (fun Z h hE => by subst hE; exact j_E_append_0 _ _ _ h)
-- D_word
theorem d_D_word_0 : decode prog_1_method_13_code 0 = .ok (.aload_n 0, 1) := by decide +kernel
theorem d_D_word_1 : decode prog_1_method_13_code 1 = .ok (.getfield 28, 3) := by decide +kernel
theorem d_D_word_4 : decode prog_1_method_13_code 4 = .ok (.iload_n 1, 1) := by decide +kernel
theorem d_D_word_5 : decode prog_1_method_13_code 5 = .ok (.iload_n 2, 1) := by decide +kernel
theorem d_D_word_6 : decode prog_1_method_13_code 6 = .ok (.invokevirtual 111, 3) := by decide +kernel
theorem d_D_word_9 : decode prog_1_method_13_code 9 = .ok (.ireturn, 1) := by decide +kernel
def m_D_word (G : Nat → Nat) (a0 : Nat) (a1 : Int32) (a2 : Int32) (h : hp_H) : Option (Int32 × hp_H) := (hp_gR h a0 0 2).bind fun x1 => (hp_vck h x1 5 (m_E_append G x1 a1 a2 h)).bind fun q2 => some (q2.1, q2.2)
set_option maxRecDepth 100000 in
set_option maxHeartbeats 4000000 in
theorem j_D_word_0 {Z : hp_Z} (a0 : Nat) (a1 : Int32) (a2 : Int32) (h : hp_H) : hp_J Y_D_word Z hp_rI h 0 [(0, .ref a0), (1, .int a1), (2, .int a2)] [] (m_D_word (hp_G Z)  a0 a1 a2 h) := by
  unfold m_D_word
  refine hp_aload_n (x0 := 0) d_D_word_0 rfl rfl ?_
  refine hp_getR fl_D_28 d_D_word_1 fun x1 => ?_
  refine hp_iload_n (x0 := 1) d_D_word_4 rfl rfl ?_
  refine hp_iload_n (x0 := 2) d_D_word_5 rfl rfl ?_
  refine hp_callI (hp_crV (ci := 5) (t_E_append _ _ _ _ _) cw_D_111 rfl ⟨w_491, w_492⟩ (by decide) rfl rfl (Nat.le_of_ble_eq_true rfl) d_D_word_6) fun q2 => ?_
  exact hp_iret d_D_word_9 rfl
theorem t_D_word (l : Launch) (E : hp_E) (a0 : Nat) (a1 : Int32) (a2 : Int32) : hp_M l E y_D_word Y_D_word hp_rI [.ref a0, .int a1, .int a2] (m_D_word E.2.2.1 a0 a1 a2) := hp_M.of (plainFor_of_name (by decide)) ⟨rfl, rfl⟩ (Nat.le_of_ble_eq_true rfl) (fun Z h hE => by subst hE; exact j_D_word_0 _ _ _ h)
-- E_restart
theorem d_E_restart_0 : decode prog_2_method_3_code 0 = .ok (.aload_n 0, 1) := by decide +kernel
theorem d_E_restart_1 : decode prog_2_method_3_code 1 = .ok (.getfield 46, 3) := by decide +kernel
theorem d_E_restart_4 : decode prog_2_method_3_code 4 = .ok (.istore_n 1, 1) := by decide +kernel
theorem d_E_restart_5 : decode prog_2_method_3_code 5 = .ok (.aload_n 0, 1) := by decide +kernel
theorem d_E_restart_6 : decode prog_2_method_3_code 6 = .ok (.iconst 0, 1) := by decide +kernel
theorem d_E_restart_7 : decode prog_2_method_3_code 7 = .ok (.putfield 46, 3) := by decide +kernel
theorem d_E_restart_10 : decode prog_2_method_3_code 10 = .ok (.iload_n 1, 1) := by decide +kernel
theorem d_E_restart_11 : decode prog_2_method_3_code 11 = .ok (.ireturn, 1) := by decide +kernel
def m_E_restart (G : Nat → Nat) (a0 : Nat) (h : hp_H) : Option (Int32 × hp_H) := (hp_gI h a0 5 7).bind fun x1 => hp_nm x1 fun x2 => (hp_p h a0 5 7 (.int (0 : Int32))).bind fun h3 => some (x2, h3)
set_option maxRecDepth 100000 in
set_option maxHeartbeats 4000000 in
theorem j_E_restart_0 {Z : hp_Z} (a0 : Nat) (h : hp_H) : hp_J Y_E_restart Z hp_rI h 0 [(0, .ref a0)] [] (m_E_restart (hp_G Z)  a0 h) := by
  unfold m_E_restart
  refine hp_aload_n (x0 := 0) d_E_restart_0 rfl rfl ?_
  refine hp_getI fl_E_46 d_E_restart_1 fun x1 => ?_
  refine hp_istore_n (fun x2 => [(1, .int x2), (0, .ref a0)]) d_E_restart_4 rfl (by decide) (fun _ => rfl) fun x2 => ?_
  refine hp_aload_n (x0 := 1) d_E_restart_5 rfl rfl ?_
  refine hp_iconst (v := 0) d_E_restart_6 (by decide) ?_
  refine hp_put fl_E_46 (fun q => by cases q) rfl rfl d_E_restart_7 fun h3 => ?_
  refine hp_iload_n (x0 := 0) d_E_restart_10 rfl rfl ?_
  exact hp_iret d_E_restart_11 rfl
theorem t_E_restart (l : Launch) (E : hp_E) (a0 : Nat) : hp_M l E y_E_restart Y_E_restart hp_rI [.ref a0] (m_E_restart E.2.2.1 a0) := hp_M.of (plainFor_of_name (by decide)) ⟨rfl, rfl⟩ (Nat.le_of_ble_eq_true rfl) (fun Z h hE => by subst hE; exact j_E_restart_0 _ h)
-- D_begin
theorem d_D_begin_0 : decode prog_1_method_14_code 0 = .ok (.aload_n 0, 1) := by decide +kernel
theorem d_D_begin_1 : decode prog_1_method_14_code 1 = .ok (.getfield 28, 3) := by decide +kernel
theorem d_D_begin_4 : decode prog_1_method_14_code 4 = .ok (.invokevirtual 114, 3) := by decide +kernel
theorem d_D_begin_7 : decode prog_1_method_14_code 7 = .ok (.ireturn, 1) := by decide +kernel
def m_D_begin (G : Nat → Nat) (a0 : Nat) (h : hp_H) : Option (Int32 × hp_H) := (hp_gR h a0 0 2).bind fun x1 => (hp_vck h x1 5 (m_E_restart G x1 h)).bind fun q2 => some (q2.1, q2.2)
set_option maxRecDepth 100000 in
set_option maxHeartbeats 4000000 in
theorem j_D_begin_0 {Z : hp_Z} (a0 : Nat) (h : hp_H) : hp_J Y_D_begin Z hp_rI h 0 [(0, .ref a0)] [] (m_D_begin (hp_G Z)  a0 h) := by
  unfold m_D_begin
  refine hp_aload_n (x0 := 0) d_D_begin_0 rfl rfl ?_
  refine hp_getR fl_D_28 d_D_begin_1 fun x1 => ?_
  refine hp_callI (hp_crV (ci := 5) (t_E_restart _ _ _) cw_D_114 rfl ⟨w_502, w_503⟩ (by decide) rfl rfl (Nat.le_of_ble_eq_true rfl) d_D_begin_4) fun q2 => ?_
  exact hp_iret d_D_begin_7 rfl
theorem t_D_begin (l : Launch) (E : hp_E) (a0 : Nat) : hp_M l E y_D_begin Y_D_begin hp_rI [.ref a0] (m_D_begin E.2.2.1 a0) := hp_M.of (plainFor_of_name (by decide)) ⟨rfl, rfl⟩ (Nat.le_of_ble_eq_true rfl) (fun Z h hE => by subst hE; exact j_D_begin_0 _ h)
-- E_let
theorem d_E_let_0 : decode prog_2_method_4_code 0 = .ok (.iload_n 1, 1) := by decide +kernel
theorem d_E_let_1 : decode prog_2_method_4_code 1 = .ok (.ifCond .lt 24, 3) := by decide +kernel
theorem d_E_let_4 : decode prog_2_method_4_code 4 = .ok (.iload_n 1, 1) := by decide +kernel
theorem d_E_let_5 : decode prog_2_method_4_code 5 = .ok (.bipush 10, 2) := by decide +kernel
theorem d_E_let_7 : decode prog_2_method_4_code 7 = .ok (.if_icmp .ge 18, 3) := by decide +kernel
theorem d_E_let_10 : decode prog_2_method_4_code 10 = .ok (.iload_n 2, 1) := by decide +kernel
theorem d_E_let_11 : decode prog_2_method_4_code 11 = .ok (.ifCond .lt 14, 3) := by decide +kernel
theorem d_E_let_14 : decode prog_2_method_4_code 14 = .ok (.iload_n 2, 1) := by decide +kernel
theorem d_E_let_15 : decode prog_2_method_4_code 15 = .ok (.aload_n 0, 1) := by decide +kernel
theorem d_E_let_16 : decode prog_2_method_4_code 16 = .ok (.getfield 38, 3) := by decide +kernel
theorem d_E_let_19 : decode prog_2_method_4_code 19 = .ok (.invokevirtual 50, 3) := by decide +kernel
theorem d_E_let_22 : decode prog_2_method_4_code 22 = .ok (.if_icmp .le 5, 3) := by decide +kernel
theorem d_E_let_25 : decode prog_2_method_4_code 25 = .ok (.iconst 0, 1) := by decide +kernel
theorem d_E_let_26 : decode prog_2_method_4_code 26 = .ok (.ireturn, 1) := by decide +kernel
theorem d_E_let_27 : decode prog_2_method_4_code 27 = .ok (.aload_n 0, 1) := by decide +kernel
theorem d_E_let_28 : decode prog_2_method_4_code 28 = .ok (.getfield 18, 3) := by decide +kernel
theorem d_E_let_31 : decode prog_2_method_4_code 31 = .ok (.iload_n 1, 1) := by decide +kernel
theorem d_E_let_32 : decode prog_2_method_4_code 32 = .ok (.iload_n 2, 1) := by decide +kernel
theorem d_E_let_33 : decode prog_2_method_4_code 33 = .ok (.iastore, 1) := by decide +kernel
theorem d_E_let_34 : decode prog_2_method_4_code 34 = .ok (.iconst 1, 1) := by decide +kernel
theorem d_E_let_35 : decode prog_2_method_4_code 35 = .ok (.ireturn, 1) := by decide +kernel
def m_E_let_25 (G : Nat → Nat) (h : hp_H) : Option (Int32 × hp_H) := hp_z (0 : Int32) h
set_option maxRecDepth 100000 in
set_option maxHeartbeats 4000000 in
theorem j_E_let_25 {Z : hp_Z} (h : hp_H) : hp_J Y_E_let Z hp_rI h 25 [] [] (m_E_let_25 (hp_G Z)   h) := by
  unfold m_E_let_25
  refine hp_iconst (v := 0) d_E_let_25 (by decide) ?_
  exact hp_zret d_E_let_26 rfl
def m_E_let (G : Nat → Nat) (a0 : Nat) (a1 : Int32) (a2 : Int32) (h : hp_H) : Option (Int32 × hp_H) := if a1 < 0 then (m_E_let_25 G h) else (if (10 : Int32) ≤ a1 then (m_E_let_25 G h) else (if a2 < 0 then (m_E_let_25 G h) else ((hp_gR h a0 5 0).bind fun x1 => (hp_vck h x1 1 (m_S_count G x1 h)).bind fun q2 => if a2 ≤ q2.1 then ((hp_gR q2.2 a0 5 3).bind fun x3 => (hp_sI q2.2 .int x3 a1 a2).bind fun h4 => hp_z (1 : Int32) h4) else (m_E_let_25 G q2.2))))
set_option maxRecDepth 100000 in
set_option maxHeartbeats 4000000 in
theorem j_E_let_0 {Z : hp_Z} (a0 : Nat) (a1 : Int32) (a2 : Int32) (h : hp_H) : hp_J Y_E_let Z hp_rI h 0 [(0, .ref a0), (1, .int a1), (2, .int a2)] [] (m_E_let (hp_G Z)  a0 a1 a2 h) := by
  unfold m_E_let
  refine hp_iload_n (x0 := 1) d_E_let_0 rfl rfl ?_
  refine hp_if_lt (tgt := 25) d_E_let_1 (by decide) ?_ ?_
  · refine hp_sub [] rfl ?_
    exact j_E_let_25   _
  · refine hp_iload_n (x0 := 1) d_E_let_4 rfl rfl ?_
    refine hp_bipush (v := 10) d_E_let_5 (by decide) ?_
    refine hp_icmp_ge (tgt := 25) d_E_let_7 (by decide) ?_ ?_
    · refine hp_sub [] rfl ?_
      exact j_E_let_25   _
    · refine hp_iload_n (x0 := 2) d_E_let_10 rfl rfl ?_
      refine hp_if_lt (tgt := 25) d_E_let_11 (by decide) ?_ ?_
      · refine hp_sub [] rfl ?_
        exact j_E_let_25   _
      · refine hp_iload_n (x0 := 2) d_E_let_14 rfl rfl ?_
        refine hp_aload_n (x0 := 0) d_E_let_15 rfl rfl ?_
        refine hp_getR fl_E_38 d_E_let_16 fun x1 => ?_
        refine hp_callI (hp_crV (ci := 1) (t_S_count _ _ _) cw_E_50 rfl ⟨w_442, w_443⟩ (by decide) rfl rfl (Nat.le_of_ble_eq_true rfl) d_E_let_19) fun q2 => ?_
        refine hp_icmp_le (tgt := 27) d_E_let_22 (by decide) ?_ ?_
        · refine hp_aload_n (x0 := 0) d_E_let_27 rfl rfl ?_
          refine hp_getR fl_E_18 d_E_let_28 fun x3 => ?_
          refine hp_iload_n (x0 := 1) d_E_let_31 rfl rfl ?_
          refine hp_iload_n (x0 := 2) d_E_let_32 rfl rfl ?_
          refine hp_iast d_E_let_33 fun h4 => ?_
          refine hp_iconst (v := 1) d_E_let_34 (by decide) ?_
          exact hp_zret d_E_let_35 rfl
        · refine hp_sub [] rfl ?_
          exact j_E_let_25   _
theorem t_E_let (l : Launch) (E : hp_E) (a0 : Nat) (a1 : Int32) (a2 : Int32) : hp_M l E y_E_let Y_E_let hp_rI [.ref a0, .int a1, .int a2] (m_E_let E.2.2.1 a0 a1 a2) := hp_M.of (plainFor_of_name (by decide)) ⟨rfl, rfl⟩ (Nat.le_of_ble_eq_true rfl) (fun Z h hE => by subst hE; exact j_E_let_0 _ _ _ h)
-- D_bind
theorem d_D_bind_0 : decode prog_1_method_15_code 0 = .ok (.aload_n 0, 1) := by decide +kernel
theorem d_D_bind_1 : decode prog_1_method_15_code 1 = .ok (.getfield 28, 3) := by decide +kernel
theorem d_D_bind_4 : decode prog_1_method_15_code 4 = .ok (.iload_n 1, 1) := by decide +kernel
theorem d_D_bind_5 : decode prog_1_method_15_code 5 = .ok (.iload_n 2, 1) := by decide +kernel
theorem d_D_bind_6 : decode prog_1_method_15_code 6 = .ok (.invokevirtual 117, 3) := by decide +kernel
theorem d_D_bind_9 : decode prog_1_method_15_code 9 = .ok (.ireturn, 1) := by decide +kernel
def m_D_bind (G : Nat → Nat) (a0 : Nat) (a1 : Int32) (a2 : Int32) (h : hp_H) : Option (Int32 × hp_H) := (hp_gR h a0 0 2).bind fun x1 => (hp_vck h x1 5 (m_E_let G x1 a1 a2 h)).bind fun q2 => hp_z q2.1 q2.2
set_option maxRecDepth 100000 in
set_option maxHeartbeats 4000000 in
theorem j_D_bind_0 {Z : hp_Z} (a0 : Nat) (a1 : Int32) (a2 : Int32) (h : hp_H) : hp_J Y_D_bind Z hp_rI h 0 [(0, .ref a0), (1, .int a1), (2, .int a2)] [] (m_D_bind (hp_G Z)  a0 a1 a2 h) := by
  unfold m_D_bind
  refine hp_aload_n (x0 := 0) d_D_bind_0 rfl rfl ?_
  refine hp_getR fl_D_28 d_D_bind_1 fun x1 => ?_
  refine hp_iload_n (x0 := 1) d_D_bind_4 rfl rfl ?_
  refine hp_iload_n (x0 := 2) d_D_bind_5 rfl rfl ?_
  refine hp_callI (hp_crV (ci := 5) (t_E_let _ _ _ _ _) cw_D_117 rfl ⟨w_510, w_511⟩ (by decide) rfl rfl (Nat.le_of_ble_eq_true rfl) d_D_bind_6) fun q2 => ?_
  exact hp_zret d_D_bind_9 rfl
theorem t_D_bind (l : Launch) (E : hp_E) (a0 : Nat) (a1 : Int32) (a2 : Int32) : hp_M l E y_D_bind Y_D_bind hp_rI [.ref a0, .int a1, .int a2] (m_D_bind E.2.2.1 a0 a1 a2) := hp_M.of (plainFor_of_name (by decide)) ⟨rfl, rfl⟩ (Nat.le_of_ble_eq_true rfl) (fun Z h hE => by subst hE; exact j_D_bind_0 _ _ _ h)
-- E_bearsErrors
theorem d_E_bearsErrors_0 : decode prog_2_method_9_code 0 = .ok (.iload_n 0, 1) := by decide +kernel
theorem d_E_bearsErrors_1 : decode prog_2_method_9_code 1 = .ok (.iconst 2, 1) := by decide +kernel
theorem d_E_bearsErrors_2 : decode prog_2_method_9_code 2 = .ok (.if_icmp .le 25, 3) := by decide +kernel
theorem d_E_bearsErrors_5 : decode prog_2_method_9_code 5 = .ok (.iload_n 0, 1) := by decide +kernel
theorem d_E_bearsErrors_6 : decode prog_2_method_9_code 6 = .ok (.iconst 4, 1) := by decide +kernel
theorem d_E_bearsErrors_7 : decode prog_2_method_9_code 7 = .ok (.if_icmp .eq 20, 3) := by decide +kernel
theorem d_E_bearsErrors_10 : decode prog_2_method_9_code 10 = .ok (.iload_n 0, 1) := by decide +kernel
theorem d_E_bearsErrors_11 : decode prog_2_method_9_code 11 = .ok (.iconst 5, 1) := by decide +kernel
theorem d_E_bearsErrors_12 : decode prog_2_method_9_code 12 = .ok (.if_icmp .eq 15, 3) := by decide +kernel
theorem d_E_bearsErrors_15 : decode prog_2_method_9_code 15 = .ok (.iload_n 0, 1) := by decide +kernel
theorem d_E_bearsErrors_16 : decode prog_2_method_9_code 16 = .ok (.bipush 22, 2) := by decide +kernel
theorem d_E_bearsErrors_18 : decode prog_2_method_9_code 18 = .ok (.if_icmp .lt 13, 3) := by decide +kernel
theorem d_E_bearsErrors_21 : decode prog_2_method_9_code 21 = .ok (.iload_n 0, 1) := by decide +kernel
theorem d_E_bearsErrors_22 : decode prog_2_method_9_code 22 = .ok (.bipush 24, 2) := by decide +kernel
theorem d_E_bearsErrors_24 : decode prog_2_method_9_code 24 = .ok (.if_icmp .gt 7, 3) := by decide +kernel
theorem d_E_bearsErrors_27 : decode prog_2_method_9_code 27 = .ok (.iconst 1, 1) := by decide +kernel
theorem d_E_bearsErrors_28 : decode prog_2_method_9_code 28 = .ok (.goto 4, 3) := by decide +kernel
theorem d_E_bearsErrors_31 : decode prog_2_method_9_code 31 = .ok (.iconst 0, 1) := by decide +kernel
theorem d_E_bearsErrors_32 : decode prog_2_method_9_code 32 = .ok (.ireturn, 1) := by decide +kernel
def m_E_bearsErrors_32 (G : Nat → Nat) (s0 : Int32) (h : hp_H) : Option (Int32 × hp_H) := hp_z s0 h
set_option maxRecDepth 100000 in
set_option maxHeartbeats 4000000 in
theorem j_E_bearsErrors_32 {Z : hp_Z} (s0 : Int32) (h : hp_H) : hp_J Y_E_bearsErrors Z hp_rI h 32 [] [.int s0] (m_E_bearsErrors_32 (hp_G Z)  s0 h) := by
  unfold m_E_bearsErrors_32
  exact hp_zret d_E_bearsErrors_32 rfl
def m_E_bearsErrors_27 (G : Nat → Nat) (h : hp_H) : Option (Int32 × hp_H) := m_E_bearsErrors_32 G (1 : Int32) h
set_option maxRecDepth 100000 in
set_option maxHeartbeats 4000000 in
theorem j_E_bearsErrors_27 {Z : hp_Z} (h : hp_H) : hp_J Y_E_bearsErrors Z hp_rI h 27 [] [] (m_E_bearsErrors_27 (hp_G Z)   h) := by
  unfold m_E_bearsErrors_27
  refine hp_iconst (v := 1) d_E_bearsErrors_27 (by decide) ?_
  refine hp_goto (tgt := 32) d_E_bearsErrors_28 (by decide) ?_
  exact j_E_bearsErrors_32  _ _
def m_E_bearsErrors_31 (G : Nat → Nat) (h : hp_H) : Option (Int32 × hp_H) := m_E_bearsErrors_32 G (0 : Int32) h
set_option maxRecDepth 100000 in
set_option maxHeartbeats 4000000 in
theorem j_E_bearsErrors_31 {Z : hp_Z} (h : hp_H) : hp_J Y_E_bearsErrors Z hp_rI h 31 [] [] (m_E_bearsErrors_31 (hp_G Z)   h) := by
  unfold m_E_bearsErrors_31
  refine hp_iconst (v := 0) d_E_bearsErrors_31 (by decide) ?_
  exact j_E_bearsErrors_32  _ _
def m_E_bearsErrors (G : Nat → Nat) (a0 : Int32) (h : hp_H) : Option (Int32 × hp_H) := if a0 ≤ (2 : Int32) then (m_E_bearsErrors_27 G h) else (if a0 = (4 : Int32) then (m_E_bearsErrors_27 G h) else (if a0 = (5 : Int32) then (m_E_bearsErrors_27 G h) else (if a0 < (22 : Int32) then (m_E_bearsErrors_31 G h) else (if (24 : Int32) < a0 then (m_E_bearsErrors_31 G h) else (m_E_bearsErrors_27 G h)))))
set_option maxRecDepth 100000 in
set_option maxHeartbeats 4000000 in
theorem j_E_bearsErrors_0 {Z : hp_Z} (a0 : Int32) (h : hp_H) : hp_J Y_E_bearsErrors Z hp_rI h 0 [(0, .int a0)] [] (m_E_bearsErrors (hp_G Z)  a0 h) := by
  unfold m_E_bearsErrors
  refine hp_iload_n (x0 := 0) d_E_bearsErrors_0 rfl rfl ?_
  refine hp_iconst (v := 2) d_E_bearsErrors_1 (by decide) ?_
  refine hp_icmp_le (tgt := 27) d_E_bearsErrors_2 (by decide) ?_ ?_
  · refine hp_sub [] rfl ?_
    exact j_E_bearsErrors_27   _
  · refine hp_iload_n (x0 := 0) d_E_bearsErrors_5 rfl rfl ?_
    refine hp_iconst (v := 4) d_E_bearsErrors_6 (by decide) ?_
    refine hp_icmp_eq (tgt := 27) d_E_bearsErrors_7 (by decide) ?_ ?_
    · refine hp_sub [] rfl ?_
      exact j_E_bearsErrors_27   _
    · refine hp_iload_n (x0 := 0) d_E_bearsErrors_10 rfl rfl ?_
      refine hp_iconst (v := 5) d_E_bearsErrors_11 (by decide) ?_
      refine hp_icmp_eq (tgt := 27) d_E_bearsErrors_12 (by decide) ?_ ?_
      · refine hp_sub [] rfl ?_
        exact j_E_bearsErrors_27   _
      · refine hp_iload_n (x0 := 0) d_E_bearsErrors_15 rfl rfl ?_
        refine hp_bipush (v := 22) d_E_bearsErrors_16 (by decide) ?_
        refine hp_icmp_lt (tgt := 31) d_E_bearsErrors_18 (by decide) ?_ ?_
        · refine hp_sub [] rfl ?_
          exact j_E_bearsErrors_31   _
        · refine hp_iload_n (x0 := 0) d_E_bearsErrors_21 rfl rfl ?_
          refine hp_bipush (v := 24) d_E_bearsErrors_22 (by decide) ?_
          refine hp_icmp_gt (tgt := 31) d_E_bearsErrors_24 (by decide) ?_ ?_
          · refine hp_sub [] rfl ?_
            exact j_E_bearsErrors_31   _
          · refine hp_sub [] rfl ?_
            exact j_E_bearsErrors_27   _
theorem t_E_bearsErrors (l : Launch) (E : hp_E) (a0 : Int32) : hp_M l E y_E_bearsErrors Y_E_bearsErrors hp_rI [.int a0] (m_E_bearsErrors E.2.2.1 a0) := hp_M.of (plainFor_of_name (by decide)) ⟨rfl, rfl⟩ (Nat.le_of_ble_eq_true rfl) (fun Z h hE => by subst hE; exact j_E_bearsErrors_0 _ h)
-- E_numberTaken
theorem d_E_numberTaken_0 : decode prog_2_method_10_code 0 = .ok (.aload_n 0, 1) := by decide +kernel
theorem d_E_numberTaken_1 : decode prog_2_method_10_code 1 = .ok (.getfield 60, 3) := by decide +kernel
theorem d_E_numberTaken_4 : decode prog_2_method_10_code 4 = .ok (.iload_n 1, 1) := by decide +kernel
theorem d_E_numberTaken_5 : decode prog_2_method_10_code 5 = .ok (.iadd, 1) := by decide +kernel
theorem d_E_numberTaken_6 : decode prog_2_method_10_code 6 = .ok (.istore_n 2, 1) := by decide +kernel
theorem d_E_numberTaken_7 : decode prog_2_method_10_code 7 = .ok (.iload_n 2, 1) := by decide +kernel
theorem d_E_numberTaken_8 : decode prog_2_method_10_code 8 = .ok (.ifCond .lt 18, 3) := by decide +kernel
theorem d_E_numberTaken_11 : decode prog_2_method_10_code 11 = .ok (.iload_n 2, 1) := by decide +kernel
theorem d_E_numberTaken_12 : decode prog_2_method_10_code 12 = .ok (.bipush 100, 2) := by decide +kernel
theorem d_E_numberTaken_14 : decode prog_2_method_10_code 14 = .ok (.if_icmp .ge 12, 3) := by decide +kernel
theorem d_E_numberTaken_17 : decode prog_2_method_10_code 17 = .ok (.aload_n 0, 1) := by decide +kernel
theorem d_E_numberTaken_18 : decode prog_2_method_10_code 18 = .ok (.getfield 21, 3) := by decide +kernel
theorem d_E_numberTaken_21 : decode prog_2_method_10_code 21 = .ok (.iload_n 2, 1) := by decide +kernel
theorem d_E_numberTaken_22 : decode prog_2_method_10_code 22 = .ok (.iaload, 1) := by decide +kernel
theorem d_E_numberTaken_23 : decode prog_2_method_10_code 23 = .ok (.goto 5, 3) := by decide +kernel
theorem d_E_numberTaken_26 : decode prog_2_method_10_code 26 = .ok (.bipush (-4), 2) := by decide +kernel
theorem d_E_numberTaken_28 : decode prog_2_method_10_code 28 = .ok (.ireturn, 1) := by decide +kernel
def m_E_numberTaken_28 (G : Nat → Nat) (s0 : Int32) (h : hp_H) : Option (Int32 × hp_H) := some (s0, h)
set_option maxRecDepth 100000 in
set_option maxHeartbeats 4000000 in
theorem j_E_numberTaken_28 {Z : hp_Z} (s0 : Int32) (h : hp_H) : hp_J Y_E_numberTaken Z hp_rI h 28 [] [.int s0] (m_E_numberTaken_28 (hp_G Z)  s0 h) := by
  unfold m_E_numberTaken_28
  exact hp_iret d_E_numberTaken_28 rfl
def m_E_numberTaken_26 (G : Nat → Nat) (h : hp_H) : Option (Int32 × hp_H) := m_E_numberTaken_28 G (-4 : Int32) h
set_option maxRecDepth 100000 in
set_option maxHeartbeats 4000000 in
theorem j_E_numberTaken_26 {Z : hp_Z} (h : hp_H) : hp_J Y_E_numberTaken Z hp_rI h 26 [] [] (m_E_numberTaken_26 (hp_G Z)   h) := by
  unfold m_E_numberTaken_26
  refine hp_bipush (v := -4) d_E_numberTaken_26 (by decide) ?_
  exact j_E_numberTaken_28  _ _
def m_E_numberTaken (G : Nat → Nat) (a0 : Nat) (a1 : Int32) (h : hp_H) : Option (Int32 × hp_H) := (hp_gI h a0 5 8).bind fun x1 => hp_nm (x1 + a1) fun x2 => if x2 < 0 then (m_E_numberTaken_26 G h) else (if (100 : Int32) ≤ x2 then (m_E_numberTaken_26 G h) else ((hp_gR h a0 5 4).bind fun x3 => (hp_aI h .int x3 x2).bind fun x4 => m_E_numberTaken_28 G x4 h))
set_option maxRecDepth 100000 in
set_option maxHeartbeats 4000000 in
theorem j_E_numberTaken_0 {Z : hp_Z} (a0 : Nat) (a1 : Int32) (h : hp_H) : hp_J Y_E_numberTaken Z hp_rI h 0 [(0, .ref a0), (1, .int a1)] [] (m_E_numberTaken (hp_G Z)  a0 a1 h) := by
  unfold m_E_numberTaken
  refine hp_aload_n (x0 := 0) d_E_numberTaken_0 rfl rfl ?_
  refine hp_getI fl_E_60 d_E_numberTaken_1 fun x1 => ?_
  refine hp_iload_n (x0 := 1) d_E_numberTaken_4 rfl rfl ?_
  refine hp_iadd d_E_numberTaken_5 ?_
  refine hp_istore_n (fun x2 => [(2, .int x2), (0, .ref a0), (1, .int a1)]) d_E_numberTaken_6 rfl (by decide) (fun _ => rfl) fun x2 => ?_
  refine hp_iload_n (x0 := 0) d_E_numberTaken_7 rfl rfl ?_
  refine hp_if_lt (tgt := 26) d_E_numberTaken_8 (by decide) ?_ ?_
  · refine hp_sub [] rfl ?_
    exact j_E_numberTaken_26   _
  · refine hp_iload_n (x0 := 0) d_E_numberTaken_11 rfl rfl ?_
    refine hp_bipush (v := 100) d_E_numberTaken_12 (by decide) ?_
    refine hp_icmp_ge (tgt := 26) d_E_numberTaken_14 (by decide) ?_ ?_
    · refine hp_sub [] rfl ?_
      exact j_E_numberTaken_26   _
    · refine hp_aload_n (x0 := 1) d_E_numberTaken_17 rfl rfl ?_
      refine hp_getR fl_E_21 d_E_numberTaken_18 fun x3 => ?_
      refine hp_iload_n (x0 := 0) d_E_numberTaken_21 rfl rfl ?_
      refine hp_iald d_E_numberTaken_22 fun x4 => ?_
      refine hp_goto (tgt := 28) d_E_numberTaken_23 (by decide) ?_
      refine hp_sub [] rfl ?_
      exact j_E_numberTaken_28  _ _
theorem t_E_numberTaken (l : Launch) (E : hp_E) (a0 : Nat) (a1 : Int32) : hp_M l E y_E_numberTaken Y_E_numberTaken hp_rI [.ref a0, .int a1] (m_E_numberTaken E.2.2.1 a0 a1) := hp_M.of (plainFor_of_name (by decide)) ⟨rfl, rfl⟩ (Nat.le_of_ble_eq_true rfl) (fun Z h hE => by subst hE; exact j_E_numberTaken_0 _ _ h)
-- E_taken
theorem d_E_taken_0 : decode prog_2_method_11_code 0 = .ok (.aload_n 0, 1) := by decide +kernel
theorem d_E_taken_1 : decode prog_2_method_11_code 1 = .ok (.getfield 38, 3) := by decide +kernel
theorem d_E_taken_4 : decode prog_2_method_11_code 4 = .ok (.aload_n 0, 1) := by decide +kernel
theorem d_E_taken_5 : decode prog_2_method_11_code 5 = .ok (.iload_n 1, 1) := by decide +kernel
theorem d_E_taken_6 : decode prog_2_method_11_code 6 = .ok (.invokevirtual 82, 3) := by decide +kernel
theorem d_E_taken_9 : decode prog_2_method_11_code 9 = .ok (.invokevirtual 86, 3) := by decide +kernel
theorem d_E_taken_12 : decode prog_2_method_11_code 12 = .ok (.areturn, 1) := by decide +kernel
def m_E_taken (G : Nat → Nat) (a0 : Nat) (a1 : Int32) (h : hp_H) : Option (Nat × hp_H) := (hp_gR h a0 5 0).bind fun x1 => (hp_vck h a0 5 (m_E_numberTaken G a0 a1 h)).bind fun q2 => (hp_vck q2.2 x1 1 (m_S_at G x1 q2.1 q2.2)).bind fun q3 => some (q3.1, q3.2)
set_option maxRecDepth 100000 in
set_option maxHeartbeats 4000000 in
theorem j_E_taken_0 {Z : hp_Z} (a0 : Nat) (a1 : Int32) (h : hp_H) : hp_J Y_E_taken Z hp_rR h 0 [(0, .ref a0), (1, .int a1)] [] (m_E_taken (hp_G Z)  a0 a1 h) := by
  unfold m_E_taken
  refine hp_aload_n (x0 := 0) d_E_taken_0 rfl rfl ?_
  refine hp_getR fl_E_38 d_E_taken_1 fun x1 => ?_
  refine hp_aload_n (x0 := 0) d_E_taken_4 rfl rfl ?_
  refine hp_iload_n (x0 := 1) d_E_taken_5 rfl rfl ?_
  refine hp_callI (hp_crV (ci := 5) (t_E_numberTaken _ _ _ _) cw_E_82 rfl ⟨w_554, ws_10⟩ (by decide) rfl rfl (Nat.le_of_ble_eq_true rfl) d_E_taken_6) fun q2 => ?_
  refine hp_callR (hp_crV (ci := 1) (t_S_at _ _ _ _) cw_E_86 rfl ⟨w_426, w_427⟩ (by decide) rfl rfl (Nat.le_of_ble_eq_true rfl) d_E_taken_9) fun q3 => ?_
  exact hp_aret d_E_taken_12 rfl (Or.inl ⟨_, rfl⟩)
theorem t_E_taken (l : Launch) (E : hp_E) (a0 : Nat) (a1 : Int32) : hp_M l E y_E_taken Y_E_taken hp_rR [.ref a0, .int a1] (m_E_taken E.2.2.1 a0 a1) := hp_M.of (plainFor_of_name (by decide)) ⟨rfl, rfl⟩ (Nat.le_of_ble_eq_true rfl) (fun Z h hE => by subst hE; exact j_E_taken_0 _ _ h)
-- E_hasTakenError
theorem d_E_hasTakenError_0 : decode prog_2_method_12_code 0 = .ok (.iconst 0, 1) := by decide +kernel
theorem d_E_hasTakenError_1 : decode prog_2_method_12_code 1 = .ok (.istore_n 2, 1) := by decide +kernel
theorem d_E_hasTakenError_2 : decode prog_2_method_12_code 2 = .ok (.iload_n 2, 1) := by decide +kernel
theorem d_E_hasTakenError_3 : decode prog_2_method_12_code 3 = .ok (.iload_n 1, 1) := by decide +kernel
theorem d_E_hasTakenError_4 : decode prog_2_method_12_code 4 = .ok (.if_icmp .ge 22, 3) := by decide +kernel
theorem d_E_hasTakenError_7 : decode prog_2_method_12_code 7 = .ok (.aload_n 0, 1) := by decide +kernel
theorem d_E_hasTakenError_8 : decode prog_2_method_12_code 8 = .ok (.iload_n 2, 1) := by decide +kernel
theorem d_E_hasTakenError_9 : decode prog_2_method_12_code 9 = .ok (.invokevirtual 90, 3) := by decide +kernel
theorem d_E_hasTakenError_12 : decode prog_2_method_12_code 12 = .ok (.getfield 93, 3) := by decide +kernel
theorem d_E_hasTakenError_15 : decode prog_2_method_12_code 15 = .ok (.ifCond .ne 5, 3) := by decide +kernel
theorem d_E_hasTakenError_18 : decode prog_2_method_12_code 18 = .ok (.iconst 1, 1) := by decide +kernel
theorem d_E_hasTakenError_19 : decode prog_2_method_12_code 19 = .ok (.ireturn, 1) := by decide +kernel
theorem d_E_hasTakenError_20 : decode prog_2_method_12_code 20 = .ok (.iinc 2 1, 3) := by decide +kernel
theorem d_E_hasTakenError_23 : decode prog_2_method_12_code 23 = .ok (.goto (-21), 3) := by decide +kernel
theorem d_E_hasTakenError_26 : decode prog_2_method_12_code 26 = .ok (.iconst 0, 1) := by decide +kernel
theorem d_E_hasTakenError_27 : decode prog_2_method_12_code 27 = .ok (.ireturn, 1) := by decide +kernel
def m_E_hasTakenError_2 (G : Nat → Nat) : Nat → Nat → Int32 → Int32 → hp_H → Option (Int32 × hp_H)
  | 0, _, _, _, _ => none
  | n + 1, a0, a1, a2, h => if a1 ≤ a2 then (hp_z (0 : Int32) h) else ((hp_vck h a0 5 (m_E_taken G a0 a2 h)).bind fun q1 => (hp_gI q1.2 q1.1 3 0).bind fun x2 => if x2 = 0 then (hp_z (1 : Int32) q1.2) else (hp_nm (a2 + 1) fun x3 => (m_E_hasTakenError_2 G  n) a0 a1 x3 q1.2))
set_option maxRecDepth 100000 in
set_option maxHeartbeats 4000000 in
theorem j_E_hasTakenError_2 {Z : hp_Z} : ∀ (n : Nat) (a0 : Nat) (a1 : Int32) (a2 : Int32) (h : hp_H), hp_J Y_E_hasTakenError Z hp_rI h 2 [(0, .ref a0), (1, .int a1), (2, .int a2)] [] (m_E_hasTakenError_2 (hp_G Z)  n a0 a1 a2 h) := by
  intro n
  induction n with
  | zero => intro a0 a1 a2 h; exact hp_fail
  | succ n ih =>
    intro a0 a1 a2 h
    rw [m_E_hasTakenError_2]
    refine hp_iload_n (x0 := 2) d_E_hasTakenError_2 rfl rfl ?_
    refine hp_iload_n (x0 := 1) d_E_hasTakenError_3 rfl rfl ?_
    refine hp_icmp_ge (tgt := 26) d_E_hasTakenError_4 (by decide) ?_ ?_
    · refine hp_iconst (v := 0) d_E_hasTakenError_26 (by decide) ?_
      exact hp_zret d_E_hasTakenError_27 rfl
    · refine hp_aload_n (x0 := 0) d_E_hasTakenError_7 rfl rfl ?_
      refine hp_iload_n (x0 := 2) d_E_hasTakenError_8 rfl rfl ?_
      refine hp_callR (hp_crV (ci := 5) (t_E_taken _ _ _ _) cw_E_90 rfl ⟨w_550, ws_9⟩ (by decide) rfl rfl (Nat.le_of_ble_eq_true rfl) d_E_hasTakenError_9) fun q1 => ?_
      refine hp_getI fl_E_93 d_E_hasTakenError_12 fun x2 => ?_
      refine hp_if_ne (tgt := 20) d_E_hasTakenError_15 (by decide) ?_ ?_
      · refine hp_iconst (v := 1) d_E_hasTakenError_18 (by decide) ?_
        exact hp_zret d_E_hasTakenError_19 rfl
      · refine hp_iinc (x0 := 2) (d := 1) (fun x3 => [(2, .int x3), (0, .ref a0), (1, .int a1)]) d_E_hasTakenError_20 rfl (by decide) (by decide) (fun _ => rfl) fun x3 => ?_
        refine hp_goto (tgt := 2) d_E_hasTakenError_23 (by decide) ?_
        refine hp_sub [1, 2, 0] rfl ?_
        exact ih _ _ _ _
def m_E_hasTakenError (G : Nat → Nat) (a0 : Nat) (a1 : Int32) (h : hp_H) : Option (Int32 × hp_H) := hp_nm (0 : Int32) fun x1 => m_E_hasTakenError_2 G hp_fu a0 a1 x1 h
set_option maxRecDepth 100000 in
set_option maxHeartbeats 4000000 in
theorem j_E_hasTakenError_0 {Z : hp_Z} (a0 : Nat) (a1 : Int32) (h : hp_H) : hp_J Y_E_hasTakenError Z hp_rI h 0 [(0, .ref a0), (1, .int a1)] [] (m_E_hasTakenError (hp_G Z)  a0 a1 h) := by
  unfold m_E_hasTakenError
  refine hp_iconst (v := 0) d_E_hasTakenError_0 (by decide) ?_
  refine hp_istore_n (fun x1 => [(2, .int x1), (0, .ref a0), (1, .int a1)]) d_E_hasTakenError_1 rfl (by decide) (fun _ => rfl) fun x1 => ?_
  refine hp_sub [1, 2, 0] rfl ?_
  exact j_E_hasTakenError_2  hp_fu _ _ _ _
theorem t_E_hasTakenError (l : Launch) (E : hp_E) (a0 : Nat) (a1 : Int32) : hp_M l E y_E_hasTakenError Y_E_hasTakenError hp_rI [.ref a0, .int a1] (m_E_hasTakenError E.2.2.1 a0 a1) := hp_M.of (plainFor_of_name (by decide)) ⟨rfl, rfl⟩ (Nat.le_of_ble_eq_true rfl) (fun Z h hE => by subst hE; exact j_E_hasTakenError_0 _ _ h)
-- E_takenBy
theorem d_E_takenBy_0 : decode prog_2_method_7_code 0 = .ok (.iload_n 0, 1) := by decide +kernel
theorem d_E_takenBy_1 : decode prog_2_method_7_code 1 = .ok (.ifCond .lt 11, 3) := by decide +kernel
theorem d_E_takenBy_4 : decode prog_2_method_7_code 4 = .ok (.iload_n 0, 1) := by decide +kernel
theorem d_E_takenBy_5 : decode prog_2_method_7_code 5 = .ok (.getstatic 79, 3) := by decide +kernel
theorem d_E_takenBy_8 : decode prog_2_method_7_code 8 = .ok (.arraylength, 1) := by decide +kernel
theorem d_E_takenBy_9 : decode prog_2_method_7_code 9 = .ok (.if_icmp .lt 5, 3) := by decide +kernel
theorem d_E_takenBy_12 : decode prog_2_method_7_code 12 = .ok (.iconst 0, 1) := by decide +kernel
theorem d_E_takenBy_13 : decode prog_2_method_7_code 13 = .ok (.ireturn, 1) := by decide +kernel
theorem d_E_takenBy_14 : decode prog_2_method_7_code 14 = .ok (.iload_n 0, 1) := by decide +kernel
theorem d_E_takenBy_15 : decode prog_2_method_7_code 15 = .ok (.invokestatic 42, 3) := by decide +kernel
theorem d_E_takenBy_18 : decode prog_2_method_7_code 18 = .ok (.ifCond .eq 13, 3) := by decide +kernel
theorem d_E_takenBy_21 : decode prog_2_method_7_code 21 = .ok (.getstatic 79, 3) := by decide +kernel
theorem d_E_takenBy_24 : decode prog_2_method_7_code 24 = .ok (.iload_n 0, 1) := by decide +kernel
theorem d_E_takenBy_25 : decode prog_2_method_7_code 25 = .ok (.iaload, 1) := by decide +kernel
theorem d_E_takenBy_26 : decode prog_2_method_7_code 26 = .ok (.iload_n 1, 1) := by decide +kernel
theorem d_E_takenBy_27 : decode prog_2_method_7_code 27 = .ok (.iadd, 1) := by decide +kernel
theorem d_E_takenBy_28 : decode prog_2_method_7_code 28 = .ok (.goto 8, 3) := by decide +kernel
theorem d_E_takenBy_31 : decode prog_2_method_7_code 31 = .ok (.getstatic 79, 3) := by decide +kernel
theorem d_E_takenBy_34 : decode prog_2_method_7_code 34 = .ok (.iload_n 0, 1) := by decide +kernel
theorem d_E_takenBy_35 : decode prog_2_method_7_code 35 = .ok (.iaload, 1) := by decide +kernel
theorem d_E_takenBy_36 : decode prog_2_method_7_code 36 = .ok (.ireturn, 1) := by decide +kernel
def m_E_takenBy_12 (G : Nat → Nat) (h : hp_H) : Option (Int32 × hp_H) := some ((0 : Int32), h)
set_option maxRecDepth 100000 in
set_option maxHeartbeats 4000000 in
theorem j_E_takenBy_12 {Z : hp_Z} (h : hp_H) : hp_J Y_E_takenBy Z hp_rI h 12 [] [] (m_E_takenBy_12 (hp_G Z)   h) := by
  unfold m_E_takenBy_12
  refine hp_iconst (v := 0) d_E_takenBy_12 (by decide) ?_
  exact hp_iret d_E_takenBy_13 rfl
def m_E_takenBy_36 (G : Nat → Nat) (s0 : Int32) (h : hp_H) : Option (Int32 × hp_H) := some (s0, h)
set_option maxRecDepth 100000 in
set_option maxHeartbeats 4000000 in
theorem j_E_takenBy_36 {Z : hp_Z} (s0 : Int32) (h : hp_H) : hp_J Y_E_takenBy Z hp_rI h 36 [] [.int s0] (m_E_takenBy_36 (hp_G Z)  s0 h) := by
  unfold m_E_takenBy_36
  exact hp_iret d_E_takenBy_36 rfl
def m_E_takenBy (G : Nat → Nat) (a0 : Int32) (a1 : Int32) (h : hp_H) : Option (Int32 × hp_H) := if a0 < 0 then (m_E_takenBy_12 G h) else ((hp_len h (G 2)).bind fun x1 => if a0 < x1 then ((m_E_takesMany G a0 h).bind fun q2 => if q2.1 = 0 then ((hp_aI q2.2 .int (G 2) a0).bind fun x3 => m_E_takenBy_36 G x3 q2.2) else ((hp_aI q2.2 .int (G 2) a0).bind fun x4 => m_E_takenBy_36 G (x4 + a1) q2.2)) else (m_E_takenBy_12 G h))
set_option maxRecDepth 100000 in
set_option maxHeartbeats 4000000 in
theorem j_E_takenBy_0 {Z : hp_Z} (a0 : Int32) (a1 : Int32) (h : hp_H) : hp_J Y_E_takenBy Z hp_rI h 0 [(0, .int a0), (1, .int a1)] [] (m_E_takenBy (hp_G Z)  a0 a1 h) := by
  unfold m_E_takenBy
  refine hp_iload_n (x0 := 0) d_E_takenBy_0 rfl rfl ?_
  refine hp_if_lt (tgt := 12) d_E_takenBy_1 (by decide) ?_ ?_
  · refine hp_sub [] rfl ?_
    exact j_E_takenBy_12   _
  · refine hp_iload_n (x0 := 0) d_E_takenBy_4 rfl rfl ?_
    refine hp_gets (k := 2) rfl w_529 d_E_takenBy_5 ?_
    refine hp_alen d_E_takenBy_8 fun x1 => ?_
    refine hp_icmp_lt (tgt := 14) d_E_takenBy_9 (by decide) ?_ ?_
    · refine hp_iload_n (x0 := 0) d_E_takenBy_14 rfl rfl ?_
      refine hp_callI (hp_crS (t_E_takesMany _ _ _) cw_E_42 w_495 (by decide) rfl rfl (Nat.le_of_ble_eq_true rfl) d_E_takenBy_15) fun q2 => ?_
      refine hp_if_eq (tgt := 31) d_E_takenBy_18 (by decide) ?_ ?_
      · refine hp_gets (k := 2) rfl w_529 d_E_takenBy_31 ?_
        refine hp_iload_n (x0 := 0) d_E_takenBy_34 rfl rfl ?_
        refine hp_iald d_E_takenBy_35 fun x3 => ?_
        refine hp_sub [] rfl ?_
        exact j_E_takenBy_36  _ _
      · refine hp_gets (k := 2) rfl w_529 d_E_takenBy_21 ?_
        refine hp_iload_n (x0 := 0) d_E_takenBy_24 rfl rfl ?_
        refine hp_iald d_E_takenBy_25 fun x4 => ?_
        refine hp_iload_n (x0 := 1) d_E_takenBy_26 rfl rfl ?_
        refine hp_iadd d_E_takenBy_27 ?_
        refine hp_goto (tgt := 36) d_E_takenBy_28 (by decide) ?_
        refine hp_sub [] rfl ?_
        exact j_E_takenBy_36  _ _
    · refine hp_sub [] rfl ?_
      exact j_E_takenBy_12   _
theorem t_E_takenBy (l : Launch) (E : hp_E) (a0 : Int32) (a1 : Int32) : hp_M l E y_E_takenBy Y_E_takenBy hp_rI [.int a0, .int a1] (m_E_takenBy E.2.2.1 a0 a1) := hp_M.of (plainFor_of_name (by decide)) ⟨rfl, rfl⟩ (Nat.le_of_ble_eq_true rfl) (fun Z h hE => by subst hE; exact j_E_takenBy_0 _ _ h)
-- E_isRight
theorem d_E_isRight_0 : decode prog_2_method_6_code 0 = .ok (.iconst 0, 1) := by decide +kernel
theorem d_E_isRight_1 : decode prog_2_method_6_code 1 = .ok (.istore_n 1, 1) := by decide +kernel
theorem d_E_isRight_2 : decode prog_2_method_6_code 2 = .ok (.iconst 0, 1) := by decide +kernel
theorem d_E_isRight_3 : decode prog_2_method_6_code 3 = .ok (.istore_n 2, 1) := by decide +kernel
theorem d_E_isRight_4 : decode prog_2_method_6_code 4 = .ok (.iload_n 2, 1) := by decide +kernel
theorem d_E_isRight_5 : decode prog_2_method_6_code 5 = .ok (.aload_n 0, 1) := by decide +kernel
theorem d_E_isRight_6 : decode prog_2_method_6_code 6 = .ok (.getfield 46, 3) := by decide +kernel
theorem d_E_isRight_9 : decode prog_2_method_6_code 9 = .ok (.if_icmp .ge 42, 3) := by decide +kernel
theorem d_E_isRight_12 : decode prog_2_method_6_code 12 = .ok (.iload_n 2, 1) := by decide +kernel
theorem d_E_isRight_13 : decode prog_2_method_6_code 13 = .ok (.bipush 100, 2) := by decide +kernel
theorem d_E_isRight_15 : decode prog_2_method_6_code 15 = .ok (.if_icmp .ge 36, 3) := by decide +kernel
theorem d_E_isRight_18 : decode prog_2_method_6_code 18 = .ok (.iload_n 1, 1) := by decide +kernel
theorem d_E_isRight_19 : decode prog_2_method_6_code 19 = .ok (.aload_n 0, 1) := by decide +kernel
theorem d_E_isRight_20 : decode prog_2_method_6_code 20 = .ok (.getfield 9, 3) := by decide +kernel
theorem d_E_isRight_23 : decode prog_2_method_6_code 23 = .ok (.iload_n 2, 1) := by decide +kernel
theorem d_E_isRight_24 : decode prog_2_method_6_code 24 = .ok (.iaload, 1) := by decide +kernel
theorem d_E_isRight_25 : decode prog_2_method_6_code 25 = .ok (.aload_n 0, 1) := by decide +kernel
theorem d_E_isRight_26 : decode prog_2_method_6_code 26 = .ok (.getfield 15, 3) := by decide +kernel
theorem d_E_isRight_29 : decode prog_2_method_6_code 29 = .ok (.iload_n 2, 1) := by decide +kernel
theorem d_E_isRight_30 : decode prog_2_method_6_code 30 = .ok (.iaload, 1) := by decide +kernel
theorem d_E_isRight_31 : decode prog_2_method_6_code 31 = .ok (.invokestatic 63, 3) := by decide +kernel
theorem d_E_isRight_34 : decode prog_2_method_6_code 34 = .ok (.isub, 1) := by decide +kernel
theorem d_E_isRight_35 : decode prog_2_method_6_code 35 = .ok (.istore_n 1, 1) := by decide +kernel
theorem d_E_isRight_36 : decode prog_2_method_6_code 36 = .ok (.iload_n 1, 1) := by decide +kernel
theorem d_E_isRight_37 : decode prog_2_method_6_code 37 = .ok (.ifCond .ge 5, 3) := by decide +kernel
theorem d_E_isRight_40 : decode prog_2_method_6_code 40 = .ok (.iconst 0, 1) := by decide +kernel
theorem d_E_isRight_41 : decode prog_2_method_6_code 41 = .ok (.ireturn, 1) := by decide +kernel
theorem d_E_isRight_42 : decode prog_2_method_6_code 42 = .ok (.iinc 1 1, 3) := by decide +kernel
theorem d_E_isRight_45 : decode prog_2_method_6_code 45 = .ok (.iinc 2 1, 3) := by decide +kernel
theorem d_E_isRight_48 : decode prog_2_method_6_code 48 = .ok (.goto (-44), 3) := by decide +kernel
theorem d_E_isRight_51 : decode prog_2_method_6_code 51 = .ok (.iload_n 1, 1) := by decide +kernel
theorem d_E_isRight_52 : decode prog_2_method_6_code 52 = .ok (.iconst 1, 1) := by decide +kernel
theorem d_E_isRight_53 : decode prog_2_method_6_code 53 = .ok (.if_icmp .ne 7, 3) := by decide +kernel
theorem d_E_isRight_56 : decode prog_2_method_6_code 56 = .ok (.iconst 1, 1) := by decide +kernel
theorem d_E_isRight_57 : decode prog_2_method_6_code 57 = .ok (.goto 4, 3) := by decide +kernel
theorem d_E_isRight_60 : decode prog_2_method_6_code 60 = .ok (.iconst 0, 1) := by decide +kernel
theorem d_E_isRight_61 : decode prog_2_method_6_code 61 = .ok (.ireturn, 1) := by decide +kernel
def m_E_isRight_61 (G : Nat → Nat) (s0 : Int32) (h : hp_H) : Option (Int32 × hp_H) := hp_z s0 h
set_option maxRecDepth 100000 in
set_option maxHeartbeats 4000000 in
theorem j_E_isRight_61 {Z : hp_Z} (s0 : Int32) (h : hp_H) : hp_J Y_E_isRight Z hp_rI h 61 [] [.int s0] (m_E_isRight_61 (hp_G Z)  s0 h) := by
  unfold m_E_isRight_61
  exact hp_zret d_E_isRight_61 rfl
def m_E_isRight_51 (G : Nat → Nat) (a1 : Int32) (h : hp_H) : Option (Int32 × hp_H) := if a1 = (1 : Int32) then (m_E_isRight_61 G (1 : Int32) h) else (m_E_isRight_61 G (0 : Int32) h)
set_option maxRecDepth 100000 in
set_option maxHeartbeats 4000000 in
theorem j_E_isRight_51 {Z : hp_Z} (a1 : Int32) (h : hp_H) : hp_J Y_E_isRight Z hp_rI h 51 [(1, .int a1)] [] (m_E_isRight_51 (hp_G Z)  a1 h) := by
  unfold m_E_isRight_51
  refine hp_iload_n (x0 := 0) d_E_isRight_51 rfl rfl ?_
  refine hp_iconst (v := 1) d_E_isRight_52 (by decide) ?_
  refine hp_icmp_ne (tgt := 60) d_E_isRight_53 (by decide) ?_ ?_
  · refine hp_iconst (v := 1) d_E_isRight_56 (by decide) ?_
    refine hp_goto (tgt := 61) d_E_isRight_57 (by decide) ?_
    refine hp_sub [] rfl ?_
    exact j_E_isRight_61  _ _
  · refine hp_iconst (v := 0) d_E_isRight_60 (by decide) ?_
    refine hp_sub [] rfl ?_
    exact j_E_isRight_61  _ _
def m_E_isRight_4 (G : Nat → Nat) : Nat → Nat → Int32 → Int32 → hp_H → Option (Int32 × hp_H)
  | 0, _, _, _, _ => none
  | n + 1, a0, a1, a2, h => (hp_gI h a0 5 7).bind fun x1 => if x1 ≤ a2 then (m_E_isRight_51 G a1 h) else (if (100 : Int32) ≤ a2 then (m_E_isRight_51 G a1 h) else ((hp_gR h a0 5 1).bind fun x2 => (hp_aI h .int x2 a2).bind fun x3 => (hp_gR h a0 5 2).bind fun x4 => (hp_aI h .int x4 a2).bind fun x5 => (m_E_takenBy G x3 x5 h).bind fun q6 => hp_nm (a1 - q6.1) fun x7 => if 0 ≤ x7 then (hp_nm (x7 + 1) fun x8 => hp_nm (a2 + 1) fun x9 => (m_E_isRight_4 G  n) a0 x8 x9 q6.2) else (hp_z (0 : Int32) q6.2)))
set_option maxRecDepth 100000 in
set_option maxHeartbeats 4000000 in
theorem j_E_isRight_4 {Z : hp_Z} : ∀ (n : Nat) (a0 : Nat) (a1 : Int32) (a2 : Int32) (h : hp_H), hp_J Y_E_isRight Z hp_rI h 4 [(0, .ref a0), (1, .int a1), (2, .int a2)] [] (m_E_isRight_4 (hp_G Z)  n a0 a1 a2 h) := by
  intro n
  induction n with
  | zero => intro a0 a1 a2 h; exact hp_fail
  | succ n ih =>
    intro a0 a1 a2 h
    rw [m_E_isRight_4]
    refine hp_iload_n (x0 := 2) d_E_isRight_4 rfl rfl ?_
    refine hp_aload_n (x0 := 0) d_E_isRight_5 rfl rfl ?_
    refine hp_getI fl_E_46 d_E_isRight_6 fun x1 => ?_
    refine hp_icmp_ge (tgt := 51) d_E_isRight_9 (by decide) ?_ ?_
    · refine hp_sub [1] rfl ?_
      exact j_E_isRight_51  _ _
    · refine hp_iload_n (x0 := 2) d_E_isRight_12 rfl rfl ?_
      refine hp_bipush (v := 100) d_E_isRight_13 (by decide) ?_
      refine hp_icmp_ge (tgt := 51) d_E_isRight_15 (by decide) ?_ ?_
      · refine hp_sub [1] rfl ?_
        exact j_E_isRight_51  _ _
      · refine hp_iload_n (x0 := 1) d_E_isRight_18 rfl rfl ?_
        refine hp_aload_n (x0 := 0) d_E_isRight_19 rfl rfl ?_
        refine hp_getR fl_E_9 d_E_isRight_20 fun x2 => ?_
        refine hp_iload_n (x0 := 2) d_E_isRight_23 rfl rfl ?_
        refine hp_iald d_E_isRight_24 fun x3 => ?_
        refine hp_aload_n (x0 := 0) d_E_isRight_25 rfl rfl ?_
        refine hp_getR fl_E_15 d_E_isRight_26 fun x4 => ?_
        refine hp_iload_n (x0 := 2) d_E_isRight_29 rfl rfl ?_
        refine hp_iald d_E_isRight_30 fun x5 => ?_
        refine hp_callI (hp_crS (t_E_takenBy _ _ _ _) cw_E_63 w_527 (by decide) rfl rfl (Nat.le_of_ble_eq_true rfl) d_E_isRight_31) fun q6 => ?_
        refine hp_isub d_E_isRight_34 ?_
        refine hp_istore_n (fun x7 => [(1, .int x7), (0, .ref a0), (2, .int a2)]) d_E_isRight_35 rfl (by decide) (fun _ => rfl) fun x7 => ?_
        refine hp_iload_n (x0 := 0) d_E_isRight_36 rfl rfl ?_
        refine hp_if_ge (tgt := 42) d_E_isRight_37 (by decide) ?_ ?_
        · refine hp_iinc (x0 := 0) (d := 1) (fun x8 => [(1, .int x8), (0, .ref a0), (2, .int a2)]) d_E_isRight_42 rfl (by decide) (by decide) (fun _ => rfl) fun x8 => ?_
          refine hp_iinc (x0 := 2) (d := 1) (fun x9 => [(2, .int x9), (1, .int x8), (0, .ref a0)]) d_E_isRight_45 rfl (by decide) (by decide) (fun _ => rfl) fun x9 => ?_
          refine hp_goto (tgt := 4) d_E_isRight_48 (by decide) ?_
          refine hp_sub [2, 1, 0] rfl ?_
          exact ih _ _ _ _
        · refine hp_iconst (v := 0) d_E_isRight_40 (by decide) ?_
          exact hp_zret d_E_isRight_41 rfl
def m_E_isRight (G : Nat → Nat) (a0 : Nat) (h : hp_H) : Option (Int32 × hp_H) := hp_nm (0 : Int32) fun x1 => hp_nm (0 : Int32) fun x2 => m_E_isRight_4 G hp_fu a0 x1 x2 h
set_option maxRecDepth 100000 in
set_option maxHeartbeats 4000000 in
theorem j_E_isRight_0 {Z : hp_Z} (a0 : Nat) (h : hp_H) : hp_J Y_E_isRight Z hp_rI h 0 [(0, .ref a0)] [] (m_E_isRight (hp_G Z)  a0 h) := by
  unfold m_E_isRight
  refine hp_iconst (v := 0) d_E_isRight_0 (by decide) ?_
  refine hp_istore_n (fun x1 => [(1, .int x1), (0, .ref a0)]) d_E_isRight_1 rfl (by decide) (fun _ => rfl) fun x1 => ?_
  refine hp_iconst (v := 0) d_E_isRight_2 (by decide) ?_
  refine hp_istore_n (fun x2 => [(2, .int x2), (1, .int x1), (0, .ref a0)]) d_E_isRight_3 rfl (by decide) (fun _ => rfl) fun x2 => ?_
  refine hp_sub [2, 1, 0] rfl ?_
  exact j_E_isRight_4  hp_fu _ _ _ _
theorem t_E_isRight (l : Launch) (E : hp_E) (a0 : Nat) : hp_M l E y_E_isRight Y_E_isRight hp_rI [.ref a0] (m_E_isRight E.2.2.1 a0) := hp_M.of (plainFor_of_name (by decide)) ⟨rfl, rfl⟩ (Nat.le_of_ble_eq_true rfl) (fun Z h hE => by subst hE; exact j_E_isRight_0 _ h)
