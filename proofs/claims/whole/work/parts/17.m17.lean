-- D_test
theorem d_D_test_0 : decode prog_1_method_17_code 0 = .ok (.aload_n 0, 1) := by decide +kernel
theorem d_D_test_1 : decode prog_1_method_17_code 1 = .ok (.getfield 28, 3) := by decide +kernel
theorem d_D_test_4 : decode prog_1_method_17_code 4 = .ok (.invokevirtual 120, 3) := by decide +kernel
theorem d_D_test_7 : decode prog_1_method_17_code 7 = .ok (.istore_n 1, 1) := by decide +kernel
theorem d_D_test_8 : decode prog_1_method_17_code 8 = .ok (.iload_n 1, 1) := by decide +kernel
theorem d_D_test_9 : decode prog_1_method_17_code 9 = .ok (.ifCond .le 17, 3) := by decide +kernel
theorem d_D_test_12 : decode prog_1_method_17_code 12 = .ok (.aload_n 0, 1) := by decide +kernel
theorem d_D_test_13 : decode prog_1_method_17_code 13 = .ok (.getfield 10, 3) := by decide +kernel
theorem d_D_test_16 : decode prog_1_method_17_code 16 = .ok (.iload_n 1, 1) := by decide +kernel
theorem d_D_test_17 : decode prog_1_method_17_code 17 = .ok (.invokevirtual 80, 3) := by decide +kernel
theorem d_D_test_20 : decode prog_1_method_17_code 20 = .ok (.invokevirtual 123, 3) := by decide +kernel
theorem d_D_test_23 : decode prog_1_method_17_code 23 = .ok (.goto 4, 3) := by decide +kernel
theorem d_D_test_26 : decode prog_1_method_17_code 26 = .ok (.iload_n 1, 1) := by decide +kernel
theorem d_D_test_27 : decode prog_1_method_17_code 27 = .ok (.ireturn, 1) := by decide +kernel
def m_D_test_27 (G : Nat → Nat) (s0 : Int32) (h : hp_H) : Option (Int32 × hp_H) := some (s0, h)
set_option maxRecDepth 100000 in
set_option maxHeartbeats 4000000 in
theorem j_D_test_27 {Z : hp_Z} (s0 : Int32) (h : hp_H) : hp_J Y_D_test Z hp_rI h 27 [] [.int s0] (m_D_test_27 (hp_G Z)  s0 h) := by
  unfold m_D_test_27
  exact hp_iret d_D_test_27 rfl
def m_D_test (G : Nat → Nat) (a0 : Nat) (h : hp_H) : Option (Int32 × hp_H) := (hp_gR h a0 0 2).bind fun x1 => (hp_vck h x1 5 (m_E_evaluate G x1 h)).bind fun q2 => hp_nm q2.1 fun x3 => if x3 ≤ 0 then (m_D_test_27 G x3 q2.2) else ((hp_gR q2.2 a0 0 0).bind fun x4 => (hp_vck q2.2 x4 1 (m_S_at G x4 x3 q2.2)).bind fun q5 => (hp_vck q5.2 q5.1 3 (m_V_truthOf G q5.1 q5.2)).bind fun q6 => m_D_test_27 G q6.1 q6.2)
set_option maxRecDepth 100000 in
set_option maxHeartbeats 4000000 in
theorem j_D_test_0 {Z : hp_Z} (a0 : Nat) (h : hp_H) : hp_J Y_D_test Z hp_rI h 0 [(0, .ref a0)] [] (m_D_test (hp_G Z)  a0 h) := by
  unfold m_D_test
  refine hp_aload_n (x0 := 0) d_D_test_0 rfl rfl ?_
  refine hp_getR fl_D_28 d_D_test_1 fun x1 => ?_
  refine hp_callI (hp_crV (ci := 5) (t_E_evaluate _ _ _) cw_D_120 rfl ⟨w_519, w_520⟩ (by decide) rfl rfl (Nat.le_of_ble_eq_true rfl) d_D_test_4) fun q2 => ?_
  refine hp_istore_n (fun x3 => [(1, .int x3), (0, .ref a0)]) d_D_test_7 rfl (by decide) (fun _ => rfl) fun x3 => ?_
  refine hp_iload_n (x0 := 0) d_D_test_8 rfl rfl ?_
  refine hp_if_le (tgt := 26) d_D_test_9 (by decide) ?_ ?_
  · refine hp_iload_n (x0 := 0) d_D_test_26 rfl rfl ?_
    refine hp_sub [] rfl ?_
    exact j_D_test_27  _ _
  · refine hp_aload_n (x0 := 1) d_D_test_12 rfl rfl ?_
    refine hp_getR fl_D_10 d_D_test_13 fun x4 => ?_
    refine hp_iload_n (x0 := 0) d_D_test_16 rfl rfl ?_
    refine hp_callR (hp_crV (ci := 1) (t_S_at _ _ _ _) cw_D_80 rfl ⟨w_426, w_427⟩ (by decide) rfl rfl (Nat.le_of_ble_eq_true rfl) d_D_test_17) fun q5 => ?_
    refine hp_callI (hp_crV (ci := 3) (t_V_truthOf _ _ _) cw_D_123 rfl ⟨w_557, w_558⟩ (by decide) rfl rfl (Nat.le_of_ble_eq_true rfl) d_D_test_20) fun q6 => ?_
    refine hp_goto (tgt := 27) d_D_test_23 (by decide) ?_
    refine hp_sub [] rfl ?_
    exact j_D_test_27  _ _
theorem t_D_test (l : Launch) (E : hp_E) (a0 : Nat) : hp_M l E y_D_test Y_D_test hp_rI [.ref a0] (m_D_test E.2.2.1 a0) := hp_M.of (plainFor_of_name (by decide)) ⟨rfl, rfl⟩ (Nat.le_of_ble_eq_true rfl) (fun Z h hE => by subst hE; exact j_D_test_0 _ h)
-- G_restart
theorem d_G_restart_0 : decode prog_3_method_2_code 0 = .ok (.iload_n 1, 1) := by decide +kernel
theorem d_G_restart_1 : decode prog_3_method_2_code 1 = .ok (.ifCond .lt 9, 3) := by decide +kernel
theorem d_G_restart_4 : decode prog_3_method_2_code 4 = .ok (.iload_n 1, 1) := by decide +kernel
theorem d_G_restart_5 : decode prog_3_method_2_code 5 = .ok (.bipush 6, 2) := by decide +kernel
theorem d_G_restart_7 : decode prog_3_method_2_code 7 = .ok (.if_icmp .le 5, 3) := by decide +kernel
theorem d_G_restart_10 : decode prog_3_method_2_code 10 = .ok (.iconst (-1), 1) := by decide +kernel
theorem d_G_restart_11 : decode prog_3_method_2_code 11 = .ok (.ireturn, 1) := by decide +kernel
theorem d_G_restart_12 : decode prog_3_method_2_code 12 = .ok (.iload_n 1, 1) := by decide +kernel
theorem d_G_restart_13 : decode prog_3_method_2_code 13 = .ok (.bipush 6, 2) := by decide +kernel
theorem d_G_restart_15 : decode prog_3_method_2_code 15 = .ok (.if_icmp .ne 20, 3) := by decide +kernel
theorem d_G_restart_18 : decode prog_3_method_2_code 18 = .ok (.aload_n 0, 1) := by decide +kernel
theorem d_G_restart_19 : decode prog_3_method_2_code 19 = .ok (.getfield 36, 3) := by decide +kernel
theorem d_G_restart_22 : decode prog_3_method_2_code 22 = .ok (.iload_n 3, 1) := by decide +kernel
theorem d_G_restart_23 : decode prog_3_method_2_code 23 = .ok (.invokevirtual 40, 3) := by decide +kernel
theorem d_G_restart_26 : decode prog_3_method_2_code 26 = .ok (.getfield 46, 3) := by decide +kernel
theorem d_G_restart_29 : decode prog_3_method_2_code 29 = .ok (.iconst 5, 1) := by decide +kernel
theorem d_G_restart_30 : decode prog_3_method_2_code 30 = .ok (.if_icmp .eq 5, 3) := by decide +kernel
theorem d_G_restart_33 : decode prog_3_method_2_code 33 = .ok (.iconst (-1), 1) := by decide +kernel
theorem d_G_restart_34 : decode prog_3_method_2_code 34 = .ok (.ireturn, 1) := by decide +kernel
theorem d_G_restart_35 : decode prog_3_method_2_code 35 = .ok (.aload_n 0, 1) := by decide +kernel
theorem d_G_restart_36 : decode prog_3_method_2_code 36 = .ok (.iload_n 1, 1) := by decide +kernel
theorem d_G_restart_37 : decode prog_3_method_2_code 37 = .ok (.putfield 32, 3) := by decide +kernel
theorem d_G_restart_40 : decode prog_3_method_2_code 40 = .ok (.aload_n 0, 1) := by decide +kernel
theorem d_G_restart_41 : decode prog_3_method_2_code 41 = .ok (.iload_n 2, 1) := by decide +kernel
theorem d_G_restart_42 : decode prog_3_method_2_code 42 = .ok (.putfield 51, 3) := by decide +kernel
theorem d_G_restart_45 : decode prog_3_method_2_code 45 = .ok (.aload_n 0, 1) := by decide +kernel
theorem d_G_restart_46 : decode prog_3_method_2_code 46 = .ok (.iload_n 3, 1) := by decide +kernel
theorem d_G_restart_47 : decode prog_3_method_2_code 47 = .ok (.putfield 55, 3) := by decide +kernel
theorem d_G_restart_50 : decode prog_3_method_2_code 50 = .ok (.aload_n 0, 1) := by decide +kernel
theorem d_G_restart_51 : decode prog_3_method_2_code 51 = .ok (.iconst 0, 1) := by decide +kernel
theorem d_G_restart_52 : decode prog_3_method_2_code 52 = .ok (.putfield 58, 3) := by decide +kernel
theorem d_G_restart_55 : decode prog_3_method_2_code 55 = .ok (.iconst 0, 1) := by decide +kernel
theorem d_G_restart_56 : decode prog_3_method_2_code 56 = .ok (.ireturn, 1) := by decide +kernel
def m_G_restart_10 (G : Nat → Nat) (h : hp_H) : Option (Int32 × hp_H) := some ((-1 : Int32), h)
set_option maxRecDepth 100000 in
set_option maxHeartbeats 4000000 in
theorem j_G_restart_10 {Z : hp_Z} (h : hp_H) : hp_J Y_G_restart Z hp_rI h 10 [] [] (m_G_restart_10 (hp_G Z)   h) := by
  unfold m_G_restart_10
  refine hp_iconst (v := -1) d_G_restart_10 (by decide) ?_
  exact hp_iret d_G_restart_11 rfl
def m_G_restart_35 (G : Nat → Nat) (a0 : Nat) (a1 : Int32) (a2 : Int32) (a3 : Int32) (h : hp_H) : Option (Int32 × hp_H) := (hp_p h a0 7 5 (.int a1)).bind fun h1 => (hp_pZ h1 a0 7 6 a2).bind fun h2 => (hp_p h2 a0 7 7 (.int a3)).bind fun h3 => (hp_p h3 a0 7 8 (.int (0 : Int32))).bind fun h4 => some ((0 : Int32), h4)
set_option maxRecDepth 100000 in
set_option maxHeartbeats 4000000 in
theorem j_G_restart_35 {Z : hp_Z} (a0 : Nat) (a1 : Int32) (a2 : Int32) (a3 : Int32) (h : hp_H) : hp_J Y_G_restart Z hp_rI h 35 [(0, .ref a0), (1, .int a1), (2, .int a2), (3, .int a3)] [] (m_G_restart_35 (hp_G Z)  a0 a1 a2 a3 h) := by
  unfold m_G_restart_35
  refine hp_aload_n (x0 := 0) d_G_restart_35 rfl rfl ?_
  refine hp_iload_n (x0 := 1) d_G_restart_36 rfl rfl ?_
  refine hp_put fl_G_32 (fun q => by cases q) rfl rfl d_G_restart_37 fun h1 => ?_
  refine hp_aload_n (x0 := 0) d_G_restart_40 rfl rfl ?_
  refine hp_iload_n (x0 := 2) d_G_restart_41 rfl rfl ?_
  refine hp_putZ fl_G_51 (fun q => by cases q) d_G_restart_42 fun h2 => ?_
  refine hp_aload_n (x0 := 0) d_G_restart_45 rfl rfl ?_
  refine hp_iload_n (x0 := 3) d_G_restart_46 rfl rfl ?_
  refine hp_put fl_G_55 (fun q => by cases q) rfl rfl d_G_restart_47 fun h3 => ?_
  refine hp_aload_n (x0 := 0) d_G_restart_50 rfl rfl ?_
  refine hp_iconst (v := 0) d_G_restart_51 (by decide) ?_
  refine hp_put fl_G_58 (fun q => by cases q) rfl rfl d_G_restart_52 fun h4 => ?_
  refine hp_iconst (v := 0) d_G_restart_55 (by decide) ?_
  exact hp_iret d_G_restart_56 rfl
def m_G_restart (G : Nat → Nat) (a0 : Nat) (a1 : Int32) (a2 : Int32) (a3 : Int32) (h : hp_H) : Option (Int32 × hp_H) := if a1 < 0 then (m_G_restart_10 G h) else (if a1 ≤ (6 : Int32) then (if a1 = (6 : Int32) then ((hp_gR h a0 7 0).bind fun x1 => (hp_vck h x1 1 (m_S_at G x1 a3 h)).bind fun q2 => (hp_gI q2.2 q2.1 3 0).bind fun x3 => if x3 = (5 : Int32) then (m_G_restart_35 G a0 a1 a2 a3 q2.2) else (some ((-1 : Int32), q2.2))) else (m_G_restart_35 G a0 a1 a2 a3 h)) else (m_G_restart_10 G h))
set_option maxRecDepth 100000 in
set_option maxHeartbeats 4000000 in
theorem j_G_restart_0 {Z : hp_Z} (a0 : Nat) (a1 : Int32) (a2 : Int32) (a3 : Int32) (h : hp_H) : hp_J Y_G_restart Z hp_rI h 0 [(0, .ref a0), (1, .int a1), (2, .int a2), (3, .int a3)] [] (m_G_restart (hp_G Z)  a0 a1 a2 a3 h) := by
  unfold m_G_restart
  refine hp_iload_n (x0 := 1) d_G_restart_0 rfl rfl ?_
  refine hp_if_lt (tgt := 10) d_G_restart_1 (by decide) ?_ ?_
  · refine hp_sub [] rfl ?_
    exact j_G_restart_10   _
  · refine hp_iload_n (x0 := 1) d_G_restart_4 rfl rfl ?_
    refine hp_bipush (v := 6) d_G_restart_5 (by decide) ?_
    refine hp_icmp_le (tgt := 12) d_G_restart_7 (by decide) ?_ ?_
    · refine hp_iload_n (x0 := 1) d_G_restart_12 rfl rfl ?_
      refine hp_bipush (v := 6) d_G_restart_13 (by decide) ?_
      refine hp_icmp_ne (tgt := 35) d_G_restart_15 (by decide) ?_ ?_
      · refine hp_aload_n (x0 := 0) d_G_restart_18 rfl rfl ?_
        refine hp_getR fl_G_36 d_G_restart_19 fun x1 => ?_
        refine hp_iload_n (x0 := 3) d_G_restart_22 rfl rfl ?_
        refine hp_callR (hp_crV (ci := 1) (t_S_at _ _ _ _) cw_G_40 rfl ⟨w_426, w_427⟩ (by decide) rfl rfl (Nat.le_of_ble_eq_true rfl) d_G_restart_23) fun q2 => ?_
        refine hp_getI fl_G_46 d_G_restart_26 fun x3 => ?_
        refine hp_iconst (v := 5) d_G_restart_29 (by decide) ?_
        refine hp_icmp_eq (tgt := 35) d_G_restart_30 (by decide) ?_ ?_
        · exact j_G_restart_35  _ _ _ _ _
        · refine hp_iconst (v := -1) d_G_restart_33 (by decide) ?_
          exact hp_iret d_G_restart_34 rfl
      · exact j_G_restart_35  _ _ _ _ _
    · refine hp_sub [] rfl ?_
      exact j_G_restart_10   _
theorem t_G_restart (l : Launch) (E : hp_E) (a0 : Nat) (a1 : Int32) (a2 : Int32) (a3 : Int32) : hp_M l E y_G_restart Y_G_restart hp_rI [.ref a0, .int a1, .int a2, .int a3] (m_G_restart E.2.2.1 a0 a1 a2 a3) := hp_M.of (plainFor_of_name (by decide)) ⟨rfl, rfl⟩ (Nat.le_of_ble_eq_true rfl) (fun Z h hE => by subst hE; exact j_G_restart_0 _ _ _ _ h)
-- D_gather
theorem d_D_gather_0 : decode prog_1_method_18_code 0 = .ok (.aload_n 0, 1) := by decide +kernel
theorem d_D_gather_1 : decode prog_1_method_18_code 1 = .ok (.getfield 35, 3) := by decide +kernel
theorem d_D_gather_4 : decode prog_1_method_18_code 4 = .ok (.iload_n 1, 1) := by decide +kernel
theorem d_D_gather_5 : decode prog_1_method_18_code 5 = .ok (.iload_n 2, 1) := by decide +kernel
theorem d_D_gather_6 : decode prog_1_method_18_code 6 = .ok (.iload_n 3, 1) := by decide +kernel
theorem d_D_gather_7 : decode prog_1_method_18_code 7 = .ok (.invokevirtual 126, 3) := by decide +kernel
theorem d_D_gather_10 : decode prog_1_method_18_code 10 = .ok (.ireturn, 1) := by decide +kernel
def m_D_gather (G : Nat → Nat) (a0 : Nat) (a1 : Int32) (a2 : Int32) (a3 : Int32) (h : hp_H) : Option (Int32 × hp_H) := (hp_gR h a0 0 3).bind fun x1 => (hp_vck h x1 7 (m_G_restart G x1 a1 a2 a3 h)).bind fun q2 => some (q2.1, q2.2)
set_option maxRecDepth 100000 in
set_option maxHeartbeats 4000000 in
theorem j_D_gather_0 {Z : hp_Z} (a0 : Nat) (a1 : Int32) (a2 : Int32) (a3 : Int32) (h : hp_H) : hp_J Y_D_gather Z hp_rI h 0 [(0, .ref a0), (1, .int a1), (2, .int a2), (3, .int a3)] [] (m_D_gather (hp_G Z)  a0 a1 a2 a3 h) := by
  unfold m_D_gather
  refine hp_aload_n (x0 := 0) d_D_gather_0 rfl rfl ?_
  refine hp_getR fl_D_35 d_D_gather_1 fun x1 => ?_
  refine hp_iload_n (x0 := 1) d_D_gather_4 rfl rfl ?_
  refine hp_iload_n (x0 := 2) d_D_gather_5 rfl rfl ?_
  refine hp_iload_n (x0 := 3) d_D_gather_6 rfl rfl ?_
  refine hp_callI (hp_crV (ci := 7) (t_G_restart _ _ _ _ _ _) cw_D_126 rfl ⟨w_786, w_787⟩ (by decide) rfl rfl (Nat.le_of_ble_eq_true rfl) d_D_gather_7) fun q2 => ?_
  exact hp_iret d_D_gather_10 rfl
theorem t_D_gather (l : Launch) (E : hp_E) (a0 : Nat) (a1 : Int32) (a2 : Int32) (a3 : Int32) : hp_M l E y_D_gather Y_D_gather hp_rI [.ref a0, .int a1, .int a2, .int a3] (m_D_gather E.2.2.1 a0 a1 a2 a3) := hp_M.of (plainFor_of_name (by decide)) ⟨rfl, rfl⟩ (Nat.le_of_ble_eq_true rfl) (fun Z h hE => by subst hE; exact j_D_gather_0 _ _ _ _ h)
-- G_isThere
theorem d_G_isThere_0 : decode prog_3_method_4_code 0 = .ok (.iconst 0, 1) := by decide +kernel
theorem d_G_isThere_1 : decode prog_3_method_4_code 1 = .ok (.istore_n 2, 1) := by decide +kernel
theorem d_G_isThere_2 : decode prog_3_method_4_code 2 = .ok (.iload_n 2, 1) := by decide +kernel
theorem d_G_isThere_3 : decode prog_3_method_4_code 3 = .ok (.aload_n 0, 1) := by decide +kernel
theorem d_G_isThere_4 : decode prog_3_method_4_code 4 = .ok (.getfield 58, 3) := by decide +kernel
theorem d_G_isThere_7 : decode prog_3_method_4_code 7 = .ok (.if_icmp .ge 28, 3) := by decide +kernel
theorem d_G_isThere_10 : decode prog_3_method_4_code 10 = .ok (.iload_n 2, 1) := by decide +kernel
theorem d_G_isThere_11 : decode prog_3_method_4_code 11 = .ok (.sipush 500, 3) := by decide +kernel
theorem d_G_isThere_14 : decode prog_3_method_4_code 14 = .ok (.if_icmp .ge 21, 3) := by decide +kernel
theorem d_G_isThere_17 : decode prog_3_method_4_code 17 = .ok (.aload_n 0, 1) := by decide +kernel
theorem d_G_isThere_18 : decode prog_3_method_4_code 18 = .ok (.getfield 9, 3) := by decide +kernel
theorem d_G_isThere_21 : decode prog_3_method_4_code 21 = .ok (.iload_n 2, 1) := by decide +kernel
theorem d_G_isThere_22 : decode prog_3_method_4_code 22 = .ok (.iaload, 1) := by decide +kernel
theorem d_G_isThere_23 : decode prog_3_method_4_code 23 = .ok (.iload_n 1, 1) := by decide +kernel
theorem d_G_isThere_24 : decode prog_3_method_4_code 24 = .ok (.if_icmp .ne 5, 3) := by decide +kernel
theorem d_G_isThere_27 : decode prog_3_method_4_code 27 = .ok (.iconst 1, 1) := by decide +kernel
theorem d_G_isThere_28 : decode prog_3_method_4_code 28 = .ok (.ireturn, 1) := by decide +kernel
theorem d_G_isThere_29 : decode prog_3_method_4_code 29 = .ok (.iinc 2 1, 3) := by decide +kernel
theorem d_G_isThere_32 : decode prog_3_method_4_code 32 = .ok (.goto (-30), 3) := by decide +kernel
theorem d_G_isThere_35 : decode prog_3_method_4_code 35 = .ok (.iconst 0, 1) := by decide +kernel
theorem d_G_isThere_36 : decode prog_3_method_4_code 36 = .ok (.ireturn, 1) := by decide +kernel
def m_G_isThere_35 (G : Nat → Nat) (h : hp_H) : Option (Int32 × hp_H) := hp_z (0 : Int32) h
set_option maxRecDepth 100000 in
set_option maxHeartbeats 4000000 in
theorem j_G_isThere_35 {Z : hp_Z} (h : hp_H) : hp_J Y_G_isThere Z hp_rI h 35 [] [] (m_G_isThere_35 (hp_G Z)   h) := by
  unfold m_G_isThere_35
  refine hp_iconst (v := 0) d_G_isThere_35 (by decide) ?_
  exact hp_zret d_G_isThere_36 rfl
def m_G_isThere_2 (G : Nat → Nat) : Nat → Nat → Int32 → Int32 → hp_H → Option (Int32 × hp_H)
  | 0, _, _, _, _ => none
  | n + 1, a0, a1, a2, h => (hp_gI h a0 7 8).bind fun x1 => if x1 ≤ a2 then (m_G_isThere_35 G h) else (if (500 : Int32) ≤ a2 then (m_G_isThere_35 G h) else ((hp_gR h a0 7 1).bind fun x2 => (hp_aI h .int x2 a2).bind fun x3 => if x3 = a1 then (hp_z (1 : Int32) h) else (hp_nm (a2 + 1) fun x4 => (m_G_isThere_2 G  n) a0 a1 x4 h)))
set_option maxRecDepth 100000 in
set_option maxHeartbeats 4000000 in
theorem j_G_isThere_2 {Z : hp_Z} : ∀ (n : Nat) (a0 : Nat) (a1 : Int32) (a2 : Int32) (h : hp_H), hp_J Y_G_isThere Z hp_rI h 2 [(0, .ref a0), (1, .int a1), (2, .int a2)] [] (m_G_isThere_2 (hp_G Z)  n a0 a1 a2 h) := by
  intro n
  induction n with
  | zero => intro a0 a1 a2 h; exact hp_fail
  | succ n ih =>
    intro a0 a1 a2 h
    rw [m_G_isThere_2]
    refine hp_iload_n (x0 := 2) d_G_isThere_2 rfl rfl ?_
    refine hp_aload_n (x0 := 0) d_G_isThere_3 rfl rfl ?_
    refine hp_getI fl_G_58 d_G_isThere_4 fun x1 => ?_
    refine hp_icmp_ge (tgt := 35) d_G_isThere_7 (by decide) ?_ ?_
    · refine hp_sub [] rfl ?_
      exact j_G_isThere_35   _
    · refine hp_iload_n (x0 := 2) d_G_isThere_10 rfl rfl ?_
      refine hp_sipush (v := 500) d_G_isThere_11 (by decide) ?_
      refine hp_icmp_ge (tgt := 35) d_G_isThere_14 (by decide) ?_ ?_
      · refine hp_sub [] rfl ?_
        exact j_G_isThere_35   _
      · refine hp_aload_n (x0 := 0) d_G_isThere_17 rfl rfl ?_
        refine hp_getR fl_G_9 d_G_isThere_18 fun x2 => ?_
        refine hp_iload_n (x0 := 2) d_G_isThere_21 rfl rfl ?_
        refine hp_iald d_G_isThere_22 fun x3 => ?_
        refine hp_iload_n (x0 := 1) d_G_isThere_23 rfl rfl ?_
        refine hp_icmp_ne (tgt := 29) d_G_isThere_24 (by decide) ?_ ?_
        · refine hp_iconst (v := 1) d_G_isThere_27 (by decide) ?_
          exact hp_zret d_G_isThere_28 rfl
        · refine hp_iinc (x0 := 2) (d := 1) (fun x4 => [(2, .int x4), (0, .ref a0), (1, .int a1)]) d_G_isThere_29 rfl (by decide) (by decide) (fun _ => rfl) fun x4 => ?_
          refine hp_goto (tgt := 2) d_G_isThere_32 (by decide) ?_
          refine hp_sub [1, 2, 0] rfl ?_
          exact ih _ _ _ _
def m_G_isThere (G : Nat → Nat) (a0 : Nat) (a1 : Int32) (h : hp_H) : Option (Int32 × hp_H) := hp_nm (0 : Int32) fun x1 => m_G_isThere_2 G hp_fu a0 a1 x1 h
set_option maxRecDepth 100000 in
set_option maxHeartbeats 4000000 in
theorem j_G_isThere_0 {Z : hp_Z} (a0 : Nat) (a1 : Int32) (h : hp_H) : hp_J Y_G_isThere Z hp_rI h 0 [(0, .ref a0), (1, .int a1)] [] (m_G_isThere (hp_G Z)  a0 a1 h) := by
  unfold m_G_isThere
  refine hp_iconst (v := 0) d_G_isThere_0 (by decide) ?_
  refine hp_istore_n (fun x1 => [(2, .int x1), (0, .ref a0), (1, .int a1)]) d_G_isThere_1 rfl (by decide) (fun _ => rfl) fun x1 => ?_
  refine hp_sub [1, 2, 0] rfl ?_
  exact j_G_isThere_2  hp_fu _ _ _ _
theorem t_G_isThere (l : Launch) (E : hp_E) (a0 : Nat) (a1 : Int32) : hp_M l E y_G_isThere Y_G_isThere hp_rI [.ref a0, .int a1] (m_G_isThere E.2.2.1 a0 a1) := hp_M.of (plainFor_of_name (by decide)) ⟨rfl, rfl⟩ (Nat.le_of_ble_eq_true rfl) (fun Z h hE => by subst hE; exact j_G_isThere_0 _ _ h)
-- G_take
theorem d_G_take_0 : decode prog_3_method_3_code 0 = .ok (.iload_n 1, 1) := by decide +kernel
theorem d_G_take_1 : decode prog_3_method_3_code 1 = .ok (.ifCond .lt 14, 3) := by decide +kernel
theorem d_G_take_4 : decode prog_3_method_3_code 4 = .ok (.iload_n 1, 1) := by decide +kernel
theorem d_G_take_5 : decode prog_3_method_3_code 5 = .ok (.aload_n 0, 1) := by decide +kernel
theorem d_G_take_6 : decode prog_3_method_3_code 6 = .ok (.getfield 36, 3) := by decide +kernel
theorem d_G_take_9 : decode prog_3_method_3_code 9 = .ok (.invokevirtual 61, 3) := by decide +kernel
theorem d_G_take_12 : decode prog_3_method_3_code 12 = .ok (.if_icmp .le 5, 3) := by decide +kernel
theorem d_G_take_15 : decode prog_3_method_3_code 15 = .ok (.iconst (-1), 1) := by decide +kernel
theorem d_G_take_16 : decode prog_3_method_3_code 16 = .ok (.ireturn, 1) := by decide +kernel
theorem d_G_take_17 : decode prog_3_method_3_code 17 = .ok (.aload_n 0, 1) := by decide +kernel
theorem d_G_take_18 : decode prog_3_method_3_code 18 = .ok (.getfield 51, 3) := by decide +kernel
theorem d_G_take_21 : decode prog_3_method_3_code 21 = .ok (.ifCond .eq 16, 3) := by decide +kernel
theorem d_G_take_24 : decode prog_3_method_3_code 24 = .ok (.aload_n 0, 1) := by decide +kernel
theorem d_G_take_25 : decode prog_3_method_3_code 25 = .ok (.iload_n 1, 1) := by decide +kernel
theorem d_G_take_26 : decode prog_3_method_3_code 26 = .ok (.invokevirtual 64, 3) := by decide +kernel
theorem d_G_take_29 : decode prog_3_method_3_code 29 = .ok (.ifCond .eq 8, 3) := by decide +kernel
theorem d_G_take_32 : decode prog_3_method_3_code 32 = .ok (.aload_n 0, 1) := by decide +kernel
theorem d_G_take_33 : decode prog_3_method_3_code 33 = .ok (.getfield 58, 3) := by decide +kernel
theorem d_G_take_36 : decode prog_3_method_3_code 36 = .ok (.ireturn, 1) := by decide +kernel
theorem d_G_take_37 : decode prog_3_method_3_code 37 = .ok (.aload_n 0, 1) := by decide +kernel
theorem d_G_take_38 : decode prog_3_method_3_code 38 = .ok (.getfield 58, 3) := by decide +kernel
theorem d_G_take_41 : decode prog_3_method_3_code 41 = .ok (.sipush 500, 3) := by decide +kernel
theorem d_G_take_44 : decode prog_3_method_3_code 44 = .ok (.if_icmp .lt 6, 3) := by decide +kernel
theorem d_G_take_47 : decode prog_3_method_3_code 47 = .ok (.bipush (-3), 2) := by decide +kernel
theorem d_G_take_49 : decode prog_3_method_3_code 49 = .ok (.ireturn, 1) := by decide +kernel
theorem d_G_take_50 : decode prog_3_method_3_code 50 = .ok (.aload_n 0, 1) := by decide +kernel
theorem d_G_take_51 : decode prog_3_method_3_code 51 = .ok (.getfield 9, 3) := by decide +kernel
theorem d_G_take_54 : decode prog_3_method_3_code 54 = .ok (.aload_n 0, 1) := by decide +kernel
theorem d_G_take_55 : decode prog_3_method_3_code 55 = .ok (.getfield 58, 3) := by decide +kernel
theorem d_G_take_58 : decode prog_3_method_3_code 58 = .ok (.iload_n 1, 1) := by decide +kernel
theorem d_G_take_59 : decode prog_3_method_3_code 59 = .ok (.iastore, 1) := by decide +kernel
theorem d_G_take_60 : decode prog_3_method_3_code 60 = .ok (.aload_n 0, 1) := by decide +kernel
theorem d_G_take_61 : decode prog_3_method_3_code 61 = .ok (.dup, 1) := by decide +kernel
theorem d_G_take_62 : decode prog_3_method_3_code 62 = .ok (.getfield 58, 3) := by decide +kernel
theorem d_G_take_65 : decode prog_3_method_3_code 65 = .ok (.iconst 1, 1) := by decide +kernel
theorem d_G_take_66 : decode prog_3_method_3_code 66 = .ok (.iadd, 1) := by decide +kernel
theorem d_G_take_67 : decode prog_3_method_3_code 67 = .ok (.putfield 58, 3) := by decide +kernel
theorem d_G_take_70 : decode prog_3_method_3_code 70 = .ok (.aload_n 0, 1) := by decide +kernel
theorem d_G_take_71 : decode prog_3_method_3_code 71 = .ok (.getfield 58, 3) := by decide +kernel
theorem d_G_take_74 : decode prog_3_method_3_code 74 = .ok (.ireturn, 1) := by decide +kernel
def m_G_take_15 (G : Nat → Nat) (h : hp_H) : Option (Int32 × hp_H) := some ((-1 : Int32), h)
set_option maxRecDepth 100000 in
set_option maxHeartbeats 4000000 in
theorem j_G_take_15 {Z : hp_Z} (h : hp_H) : hp_J Y_G_take Z hp_rI h 15 [] [] (m_G_take_15 (hp_G Z)   h) := by
  unfold m_G_take_15
  refine hp_iconst (v := -1) d_G_take_15 (by decide) ?_
  exact hp_iret d_G_take_16 rfl
def m_G_take_37 (G : Nat → Nat) (a0 : Nat) (a1 : Int32) (h : hp_H) : Option (Int32 × hp_H) := (hp_gI h a0 7 8).bind fun x1 => if x1 < (500 : Int32) then ((hp_gR h a0 7 1).bind fun x2 => (hp_gI h a0 7 8).bind fun x3 => (hp_sI h .int x2 x3 a1).bind fun h4 => (hp_gI h4 a0 7 8).bind fun x5 => (hp_p h4 a0 7 8 (.int (x5 + (1 : Int32)))).bind fun h6 => (hp_gI h6 a0 7 8).bind fun x7 => some (x7, h6)) else (some ((-3 : Int32), h))
set_option maxRecDepth 100000 in
set_option maxHeartbeats 4000000 in
theorem j_G_take_37 {Z : hp_Z} (a0 : Nat) (a1 : Int32) (h : hp_H) : hp_J Y_G_take Z hp_rI h 37 [(0, .ref a0), (1, .int a1)] [] (m_G_take_37 (hp_G Z)  a0 a1 h) := by
  unfold m_G_take_37
  refine hp_aload_n (x0 := 0) d_G_take_37 rfl rfl ?_
  refine hp_getI fl_G_58 d_G_take_38 fun x1 => ?_
  refine hp_sipush (v := 500) d_G_take_41 (by decide) ?_
  refine hp_icmp_lt (tgt := 50) d_G_take_44 (by decide) ?_ ?_
  · refine hp_aload_n (x0 := 0) d_G_take_50 rfl rfl ?_
    refine hp_getR fl_G_9 d_G_take_51 fun x2 => ?_
    refine hp_aload_n (x0 := 0) d_G_take_54 rfl rfl ?_
    refine hp_getI fl_G_58 d_G_take_55 fun x3 => ?_
    refine hp_iload_n (x0 := 1) d_G_take_58 rfl rfl ?_
    refine hp_iast d_G_take_59 fun h4 => ?_
    refine hp_aload_n (x0 := 0) d_G_take_60 rfl rfl ?_
    refine hp_dup d_G_take_61 rfl ?_
    refine hp_getI fl_G_58 d_G_take_62 fun x5 => ?_
    refine hp_iconst (v := 1) d_G_take_65 (by decide) ?_
    refine hp_iadd d_G_take_66 ?_
    refine hp_put fl_G_58 (fun q => by cases q) rfl rfl d_G_take_67 fun h6 => ?_
    refine hp_aload_n (x0 := 0) d_G_take_70 rfl rfl ?_
    refine hp_getI fl_G_58 d_G_take_71 fun x7 => ?_
    exact hp_iret d_G_take_74 rfl
  · refine hp_bipush (v := -3) d_G_take_47 (by decide) ?_
    exact hp_iret d_G_take_49 rfl
def m_G_take (G : Nat → Nat) (a0 : Nat) (a1 : Int32) (h : hp_H) : Option (Int32 × hp_H) := if a1 < 0 then (m_G_take_15 G h) else ((hp_gR h a0 7 0).bind fun x1 => (hp_vck h x1 1 (m_S_count G x1 h)).bind fun q2 => if a1 ≤ q2.1 then ((hp_gI q2.2 a0 7 6).bind fun x3 => if x3 = 0 then (m_G_take_37 G a0 a1 q2.2) else ((hp_vck q2.2 a0 7 (m_G_isThere G a0 a1 q2.2)).bind fun q4 => if q4.1 = 0 then (m_G_take_37 G a0 a1 q4.2) else ((hp_gI q4.2 a0 7 8).bind fun x5 => some (x5, q4.2)))) else (m_G_take_15 G q2.2))
set_option maxRecDepth 100000 in
set_option maxHeartbeats 4000000 in
theorem j_G_take_0 {Z : hp_Z} (a0 : Nat) (a1 : Int32) (h : hp_H) : hp_J Y_G_take Z hp_rI h 0 [(0, .ref a0), (1, .int a1)] [] (m_G_take (hp_G Z)  a0 a1 h) := by
  unfold m_G_take
  refine hp_iload_n (x0 := 1) d_G_take_0 rfl rfl ?_
  refine hp_if_lt (tgt := 15) d_G_take_1 (by decide) ?_ ?_
  · refine hp_sub [] rfl ?_
    exact j_G_take_15   _
  · refine hp_iload_n (x0 := 1) d_G_take_4 rfl rfl ?_
    refine hp_aload_n (x0 := 0) d_G_take_5 rfl rfl ?_
    refine hp_getR fl_G_36 d_G_take_6 fun x1 => ?_
    refine hp_callI (hp_crV (ci := 1) (t_S_count _ _ _) cw_G_61 rfl ⟨w_442, w_443⟩ (by decide) rfl rfl (Nat.le_of_ble_eq_true rfl) d_G_take_9) fun q2 => ?_
    refine hp_icmp_le (tgt := 17) d_G_take_12 (by decide) ?_ ?_
    · refine hp_aload_n (x0 := 0) d_G_take_17 rfl rfl ?_
      refine hp_getI fl_G_51 d_G_take_18 fun x3 => ?_
      refine hp_if_eq (tgt := 37) d_G_take_21 (by decide) ?_ ?_
      · exact j_G_take_37  _ _ _
      · refine hp_aload_n (x0 := 0) d_G_take_24 rfl rfl ?_
        refine hp_iload_n (x0 := 1) d_G_take_25 rfl rfl ?_
        refine hp_callI (hp_crV (ci := 7) (t_G_isThere _ _ _ _) cw_G_64 rfl ⟨w_801, ws_31⟩ (by decide) rfl rfl (Nat.le_of_ble_eq_true rfl) d_G_take_26) fun q4 => ?_
        refine hp_if_eq (tgt := 37) d_G_take_29 (by decide) ?_ ?_
        · exact j_G_take_37  _ _ _
        · refine hp_aload_n (x0 := 0) d_G_take_32 rfl rfl ?_
          refine hp_getI fl_G_58 d_G_take_33 fun x5 => ?_
          exact hp_iret d_G_take_36 rfl
    · refine hp_sub [] rfl ?_
      exact j_G_take_15   _
theorem t_G_take (l : Launch) (E : hp_E) (a0 : Nat) (a1 : Int32) : hp_M l E y_G_take Y_G_take hp_rI [.ref a0, .int a1] (m_G_take E.2.2.1 a0 a1) := hp_M.of (plainFor_of_name (by decide)) ⟨rfl, rfl⟩ (Nat.le_of_ble_eq_true rfl) (fun Z h hE => by subst hE; exact j_G_take_0 _ _ h)
-- D_add
theorem d_D_add_0 : decode prog_1_method_19_code 0 = .ok (.aload_n 0, 1) := by decide +kernel
theorem d_D_add_1 : decode prog_1_method_19_code 1 = .ok (.getfield 35, 3) := by decide +kernel
theorem d_D_add_4 : decode prog_1_method_19_code 4 = .ok (.iload_n 1, 1) := by decide +kernel
theorem d_D_add_5 : decode prog_1_method_19_code 5 = .ok (.invokevirtual 129, 3) := by decide +kernel
theorem d_D_add_8 : decode prog_1_method_19_code 8 = .ok (.ireturn, 1) := by decide +kernel
def m_D_add (G : Nat → Nat) (a0 : Nat) (a1 : Int32) (h : hp_H) : Option (Int32 × hp_H) := (hp_gR h a0 0 3).bind fun x1 => (hp_vck h x1 7 (m_G_take G x1 a1 h)).bind fun q2 => some (q2.1, q2.2)
set_option maxRecDepth 100000 in
set_option maxHeartbeats 4000000 in
theorem j_D_add_0 {Z : hp_Z} (a0 : Nat) (a1 : Int32) (h : hp_H) : hp_J Y_D_add Z hp_rI h 0 [(0, .ref a0), (1, .int a1)] [] (m_D_add (hp_G Z)  a0 a1 h) := by
  unfold m_D_add
  refine hp_aload_n (x0 := 0) d_D_add_0 rfl rfl ?_
  refine hp_getR fl_D_35 d_D_add_1 fun x1 => ?_
  refine hp_iload_n (x0 := 1) d_D_add_4 rfl rfl ?_
  refine hp_callI (hp_crV (ci := 7) (t_G_take _ _ _ _) cw_D_129 rfl ⟨w_795, w_796⟩ (by decide) rfl rfl (Nat.le_of_ble_eq_true rfl) d_D_add_5) fun q2 => ?_
  exact hp_iret d_D_add_8 rfl
theorem t_D_add (l : Launch) (E : hp_E) (a0 : Nat) (a1 : Int32) : hp_M l E y_D_add Y_D_add hp_rI [.ref a0, .int a1] (m_D_add E.2.2.1 a0 a1) := hp_M.of (plainFor_of_name (by decide)) ⟨rfl, rfl⟩ (Nat.le_of_ble_eq_true rfl) (fun Z h hE => by subst hE; exact j_D_add_0 _ _ h)
-- G_countGood
theorem d_G_countGood_0 : decode prog_3_method_6_code 0 = .ok (.iconst 0, 1) := by decide +kernel
theorem d_G_countGood_1 : decode prog_3_method_6_code 1 = .ok (.istore_n 1, 1) := by decide +kernel
theorem d_G_countGood_2 : decode prog_3_method_6_code 2 = .ok (.iconst 0, 1) := by decide +kernel
theorem d_G_countGood_3 : decode prog_3_method_6_code 3 = .ok (.istore_n 2, 1) := by decide +kernel
theorem d_G_countGood_4 : decode prog_3_method_6_code 4 = .ok (.iload_n 2, 1) := by decide +kernel
theorem d_G_countGood_5 : decode prog_3_method_6_code 5 = .ok (.aload_n 0, 1) := by decide +kernel
theorem d_G_countGood_6 : decode prog_3_method_6_code 6 = .ok (.getfield 58, 3) := by decide +kernel
theorem d_G_countGood_9 : decode prog_3_method_6_code 9 = .ok (.if_icmp .ge 28, 3) := by decide +kernel
theorem d_G_countGood_12 : decode prog_3_method_6_code 12 = .ok (.iload_n 2, 1) := by decide +kernel
theorem d_G_countGood_13 : decode prog_3_method_6_code 13 = .ok (.sipush 500, 3) := by decide +kernel
theorem d_G_countGood_16 : decode prog_3_method_6_code 16 = .ok (.if_icmp .ge 21, 3) := by decide +kernel
theorem d_G_countGood_19 : decode prog_3_method_6_code 19 = .ok (.aload_n 0, 1) := by decide +kernel
theorem d_G_countGood_20 : decode prog_3_method_6_code 20 = .ok (.getfield 9, 3) := by decide +kernel
theorem d_G_countGood_23 : decode prog_3_method_6_code 23 = .ok (.iload_n 2, 1) := by decide +kernel
theorem d_G_countGood_24 : decode prog_3_method_6_code 24 = .ok (.iaload, 1) := by decide +kernel
theorem d_G_countGood_25 : decode prog_3_method_6_code 25 = .ok (.ifCond .le 6, 3) := by decide +kernel
theorem d_G_countGood_28 : decode prog_3_method_6_code 28 = .ok (.iinc 1 1, 3) := by decide +kernel
theorem d_G_countGood_31 : decode prog_3_method_6_code 31 = .ok (.iinc 2 1, 3) := by decide +kernel
theorem d_G_countGood_34 : decode prog_3_method_6_code 34 = .ok (.goto (-30), 3) := by decide +kernel
theorem d_G_countGood_37 : decode prog_3_method_6_code 37 = .ok (.iload_n 1, 1) := by decide +kernel
theorem d_G_countGood_38 : decode prog_3_method_6_code 38 = .ok (.ireturn, 1) := by decide +kernel
def m_G_countGood_31 (G : Nat → Nat) (r4 : Nat → Int32 → Int32 → hp_H → Option (Int32 × hp_H)) (a0 : Nat) (a1 : Int32) (a2 : Int32) (h : hp_H) : Option (Int32 × hp_H) := hp_nm (a2 + 1) fun x1 => r4 a0 a1 x1 h
set_option maxRecDepth 100000 in
set_option maxHeartbeats 4000000 in
theorem j_G_countGood_31 {Z : hp_Z} (r4 : Nat → Int32 → Int32 → hp_H → Option (Int32 × hp_H)) (hr4 : ∀ (a0 : Nat) (a1 : Int32) (a2 : Int32) (h : hp_H), hp_J Y_G_countGood Z hp_rI h 4 [(0, .ref a0), (1, .int a1), (2, .int a2)] [] (r4 a0 a1 a2  h)) (a0 : Nat) (a1 : Int32) (a2 : Int32) (h : hp_H) : hp_J Y_G_countGood Z hp_rI h 31 [(0, .ref a0), (1, .int a1), (2, .int a2)] [] (m_G_countGood_31 (hp_G Z) r4 a0 a1 a2 h) := by
  unfold m_G_countGood_31
  refine hp_iinc (x0 := 2) (d := 1) (fun x1 => [(2, .int x1), (0, .ref a0), (1, .int a1)]) d_G_countGood_31 rfl (by decide) (by decide) (fun _ => rfl) fun x1 => ?_
  refine hp_goto (tgt := 4) d_G_countGood_34 (by decide) ?_
  refine hp_sub [1, 2, 0] rfl ?_
  exact hr4 _ _ _ _
def m_G_countGood_37 (G : Nat → Nat) (a1 : Int32) (h : hp_H) : Option (Int32 × hp_H) := some (a1, h)
set_option maxRecDepth 100000 in
set_option maxHeartbeats 4000000 in
theorem j_G_countGood_37 {Z : hp_Z} (a1 : Int32) (h : hp_H) : hp_J Y_G_countGood Z hp_rI h 37 [(1, .int a1)] [] (m_G_countGood_37 (hp_G Z)  a1 h) := by
  unfold m_G_countGood_37
  refine hp_iload_n (x0 := 0) d_G_countGood_37 rfl rfl ?_
  exact hp_iret d_G_countGood_38 rfl
def m_G_countGood_4 (G : Nat → Nat) : Nat → Nat → Int32 → Int32 → hp_H → Option (Int32 × hp_H)
  | 0, _, _, _, _ => none
  | n + 1, a0, a1, a2, h => (hp_gI h a0 7 8).bind fun x1 => if x1 ≤ a2 then (m_G_countGood_37 G a1 h) else (if (500 : Int32) ≤ a2 then (m_G_countGood_37 G a1 h) else ((hp_gR h a0 7 1).bind fun x2 => (hp_aI h .int x2 a2).bind fun x3 => if x3 ≤ 0 then (m_G_countGood_31 G (m_G_countGood_4 G  n) a0 a1 a2 h) else (hp_nm (a1 + 1) fun x4 => m_G_countGood_31 G (m_G_countGood_4 G  n) a0 x4 a2 h)))
set_option maxRecDepth 100000 in
set_option maxHeartbeats 4000000 in
theorem j_G_countGood_4 {Z : hp_Z} : ∀ (n : Nat) (a0 : Nat) (a1 : Int32) (a2 : Int32) (h : hp_H), hp_J Y_G_countGood Z hp_rI h 4 [(0, .ref a0), (1, .int a1), (2, .int a2)] [] (m_G_countGood_4 (hp_G Z)  n a0 a1 a2 h) := by
  intro n
  induction n with
  | zero => intro a0 a1 a2 h; exact hp_fail
  | succ n ih =>
    intro a0 a1 a2 h
    rw [m_G_countGood_4]
    refine hp_iload_n (x0 := 2) d_G_countGood_4 rfl rfl ?_
    refine hp_aload_n (x0 := 0) d_G_countGood_5 rfl rfl ?_
    refine hp_getI fl_G_58 d_G_countGood_6 fun x1 => ?_
    refine hp_icmp_ge (tgt := 37) d_G_countGood_9 (by decide) ?_ ?_
    · refine hp_sub [1] rfl ?_
      exact j_G_countGood_37  _ _
    · refine hp_iload_n (x0 := 2) d_G_countGood_12 rfl rfl ?_
      refine hp_sipush (v := 500) d_G_countGood_13 (by decide) ?_
      refine hp_icmp_ge (tgt := 37) d_G_countGood_16 (by decide) ?_ ?_
      · refine hp_sub [1] rfl ?_
        exact j_G_countGood_37  _ _
      · refine hp_aload_n (x0 := 0) d_G_countGood_19 rfl rfl ?_
        refine hp_getR fl_G_9 d_G_countGood_20 fun x2 => ?_
        refine hp_iload_n (x0 := 2) d_G_countGood_23 rfl rfl ?_
        refine hp_iald d_G_countGood_24 fun x3 => ?_
        refine hp_if_le (tgt := 31) d_G_countGood_25 (by decide) ?_ ?_
        · exact j_G_countGood_31 _ ih _ _ _ _
        · refine hp_iinc (x0 := 1) (d := 1) (fun x4 => [(1, .int x4), (0, .ref a0), (2, .int a2)]) d_G_countGood_28 rfl (by decide) (by decide) (fun _ => rfl) fun x4 => ?_
          refine hp_sub [1, 0, 2] rfl ?_
          exact j_G_countGood_31 _ ih _ _ _ _
def m_G_countGood (G : Nat → Nat) (a0 : Nat) (h : hp_H) : Option (Int32 × hp_H) := hp_nm (0 : Int32) fun x1 => hp_nm (0 : Int32) fun x2 => m_G_countGood_4 G hp_fu a0 x1 x2 h
set_option maxRecDepth 100000 in
set_option maxHeartbeats 4000000 in
theorem j_G_countGood_0 {Z : hp_Z} (a0 : Nat) (h : hp_H) : hp_J Y_G_countGood Z hp_rI h 0 [(0, .ref a0)] [] (m_G_countGood (hp_G Z)  a0 h) := by
  unfold m_G_countGood
  refine hp_iconst (v := 0) d_G_countGood_0 (by decide) ?_
  refine hp_istore_n (fun x1 => [(1, .int x1), (0, .ref a0)]) d_G_countGood_1 rfl (by decide) (fun _ => rfl) fun x1 => ?_
  refine hp_iconst (v := 0) d_G_countGood_2 (by decide) ?_
  refine hp_istore_n (fun x2 => [(2, .int x2), (1, .int x1), (0, .ref a0)]) d_G_countGood_3 rfl (by decide) (fun _ => rfl) fun x2 => ?_
  refine hp_sub [2, 1, 0] rfl ?_
  exact j_G_countGood_4  hp_fu _ _ _ _
theorem t_G_countGood (l : Launch) (E : hp_E) (a0 : Nat) : hp_M l E y_G_countGood Y_G_countGood hp_rI [.ref a0] (m_G_countGood E.2.2.1 a0) := hp_M.of (plainFor_of_name (by decide)) ⟨rfl, rfl⟩ (Nat.le_of_ble_eq_true rfl) (fun Z h hE => by subst hE; exact j_G_countGood_0 _ h)
-- G_putAll
theorem d_G_putAll_0 : decode prog_3_method_10_code 0 = .ok (.aload_n 0, 1) := by decide +kernel
theorem d_G_putAll_1 : decode prog_3_method_10_code 1 = .ok (.getfield 36, 3) := by decide +kernel
theorem d_G_putAll_4 : decode prog_3_method_10_code 4 = .ok (.aload_n 0, 1) := by decide +kernel
theorem d_G_putAll_5 : decode prog_3_method_10_code 5 = .ok (.getfield 55, 3) := by decide +kernel
theorem d_G_putAll_8 : decode prog_3_method_10_code 8 = .ok (.invokevirtual 40, 3) := by decide +kernel
theorem d_G_putAll_11 : decode prog_3_method_10_code 11 = .ok (.getfield 129, 3) := by decide +kernel
theorem d_G_putAll_14 : decode prog_3_method_10_code 14 = .ok (.astore_n 2, 1) := by decide +kernel
theorem d_G_putAll_15 : decode prog_3_method_10_code 15 = .ok (.aload_n 0, 1) := by decide +kernel
theorem d_G_putAll_16 : decode prog_3_method_10_code 16 = .ok (.getfield 21, 3) := by decide +kernel
theorem d_G_putAll_19 : decode prog_3_method_10_code 19 = .ok (.invokevirtual 133, 3) := by decide +kernel
theorem d_G_putAll_22 : decode prog_3_method_10_code 22 = .ok (.iconst 0, 1) := by decide +kernel
theorem d_G_putAll_23 : decode prog_3_method_10_code 23 = .ok (.istore_n 3, 1) := by decide +kernel
theorem d_G_putAll_24 : decode prog_3_method_10_code 24 = .ok (.iload_n 3, 1) := by decide +kernel
theorem d_G_putAll_25 : decode prog_3_method_10_code 25 = .ok (.aload_n 0, 1) := by decide +kernel
theorem d_G_putAll_26 : decode prog_3_method_10_code 26 = .ok (.getfield 58, 3) := by decide +kernel
theorem d_G_putAll_29 : decode prog_3_method_10_code 29 = .ok (.if_icmp .ge 62, 3) := by decide +kernel
theorem d_G_putAll_32 : decode prog_3_method_10_code 32 = .ok (.iload_n 3, 1) := by decide +kernel
theorem d_G_putAll_33 : decode prog_3_method_10_code 33 = .ok (.aload_n 1, 1) := by decide +kernel
theorem d_G_putAll_34 : decode prog_3_method_10_code 34 = .ok (.arraylength, 1) := by decide +kernel
theorem d_G_putAll_35 : decode prog_3_method_10_code 35 = .ok (.if_icmp .ge 56, 3) := by decide +kernel
theorem d_G_putAll_38 : decode prog_3_method_10_code 38 = .ok (.iload_n 3, 1) := by decide +kernel
theorem d_G_putAll_39 : decode prog_3_method_10_code 39 = .ok (.ifCond .le 14, 3) := by decide +kernel
theorem d_G_putAll_42 : decode prog_3_method_10_code 42 = .ok (.aload_n 0, 1) := by decide +kernel
theorem d_G_putAll_43 : decode prog_3_method_10_code 43 = .ok (.getfield 21, 3) := by decide +kernel
theorem d_G_putAll_46 : decode prog_3_method_10_code 46 = .ok (.aload_n 2, 1) := by decide +kernel
theorem d_G_putAll_47 : decode prog_3_method_10_code 47 = .ok (.iconst 0, 1) := by decide +kernel
theorem d_G_putAll_48 : decode prog_3_method_10_code 48 = .ok (.aload_n 2, 1) := by decide +kernel
theorem d_G_putAll_49 : decode prog_3_method_10_code 49 = .ok (.arraylength, 1) := by decide +kernel
theorem d_G_putAll_50 : decode prog_3_method_10_code 50 = .ok (.invokevirtual 136, 3) := by decide +kernel
theorem d_G_putAll_53 : decode prog_3_method_10_code 53 = .ok (.aload_n 0, 1) := by decide +kernel
theorem d_G_putAll_54 : decode prog_3_method_10_code 54 = .ok (.getfield 21, 3) := by decide +kernel
theorem d_G_putAll_57 : decode prog_3_method_10_code 57 = .ok (.aload_n 0, 1) := by decide +kernel
theorem d_G_putAll_58 : decode prog_3_method_10_code 58 = .ok (.getfield 36, 3) := by decide +kernel
theorem d_G_putAll_61 : decode prog_3_method_10_code 61 = .ok (.aload_n 1, 1) := by decide +kernel
theorem d_G_putAll_62 : decode prog_3_method_10_code 62 = .ok (.iload_n 3, 1) := by decide +kernel
theorem d_G_putAll_63 : decode prog_3_method_10_code 63 = .ok (.iaload, 1) := by decide +kernel
theorem d_G_putAll_64 : decode prog_3_method_10_code 64 = .ok (.invokevirtual 40, 3) := by decide +kernel
theorem d_G_putAll_67 : decode prog_3_method_10_code 67 = .ok (.invokevirtual 140, 3) := by decide +kernel
theorem d_G_putAll_70 : decode prog_3_method_10_code 70 = .ok (.ifCond .eq 13, 3) := by decide +kernel
theorem d_G_putAll_73 : decode prog_3_method_10_code 73 = .ok (.aload_n 0, 1) := by decide +kernel
theorem d_G_putAll_74 : decode prog_3_method_10_code 74 = .ok (.getfield 21, 3) := by decide +kernel
theorem d_G_putAll_77 : decode prog_3_method_10_code 77 = .ok (.getfield 144, 3) := by decide +kernel
theorem d_G_putAll_80 : decode prog_3_method_10_code 80 = .ok (.ifCond .eq 5, 3) := by decide +kernel
theorem d_G_putAll_83 : decode prog_3_method_10_code 83 = .ok (.iconst 0, 1) := by decide +kernel
theorem d_G_putAll_84 : decode prog_3_method_10_code 84 = .ok (.ireturn, 1) := by decide +kernel
theorem d_G_putAll_85 : decode prog_3_method_10_code 85 = .ok (.iinc 3 1, 3) := by decide +kernel
theorem d_G_putAll_88 : decode prog_3_method_10_code 88 = .ok (.goto (-64), 3) := by decide +kernel
theorem d_G_putAll_91 : decode prog_3_method_10_code 91 = .ok (.iconst 1, 1) := by decide +kernel
theorem d_G_putAll_92 : decode prog_3_method_10_code 92 = .ok (.ireturn, 1) := by decide +kernel
def m_G_putAll_83 (G : Nat → Nat) (h : hp_H) : Option (Int32 × hp_H) := hp_z (0 : Int32) h
set_option maxRecDepth 100000 in
set_option maxHeartbeats 4000000 in
theorem j_G_putAll_83 {Z : hp_Z} (h : hp_H) : hp_J Y_G_putAll Z hp_rI h 83 [] [] (m_G_putAll_83 (hp_G Z)   h) := by
  unfold m_G_putAll_83
  refine hp_iconst (v := 0) d_G_putAll_83 (by decide) ?_
  exact hp_zret d_G_putAll_84 rfl
def m_G_putAll_53 (G : Nat → Nat) (r24 : Nat → Nat → Nat → Int32 → hp_H → Option (Int32 × hp_H)) (a0 : Nat) (a1 : Nat) (a2 : Nat) (a3 : Int32) (h : hp_H) : Option (Int32 × hp_H) := (hp_gR h a0 7 3).bind fun x1 => (hp_gR h a0 7 0).bind fun x2 => (hp_aI h .int a1 a3).bind fun x3 => (hp_vck h x2 1 (m_S_at G x2 x3 h)).bind fun q4 => (hp_vck q4.2 x1 4 (m_R_putString G x1 q4.1 q4.2)).bind fun q5 => if q5.1 = 0 then (m_G_putAll_83 G q5.2) else ((hp_gR q5.2 a0 7 3).bind fun x6 => (hp_gI q5.2 x6 4 2).bind fun x7 => if x7 = 0 then (hp_nm (a3 + 1) fun x8 => r24 a0 a1 a2 x8 q5.2) else (m_G_putAll_83 G q5.2))
set_option maxRecDepth 100000 in
set_option maxHeartbeats 4000000 in
theorem j_G_putAll_53 {Z : hp_Z} (r24 : Nat → Nat → Nat → Int32 → hp_H → Option (Int32 × hp_H)) (hr24 : ∀ (a0 : Nat) (a1 : Nat) (a2 : Nat) (a3 : Int32) (h : hp_H), hp_J Y_G_putAll Z hp_rI h 24 [(0, .ref a0), (1, .ref a1), (2, .ref a2), (3, .int a3)] [] (r24 a0 a1 a2 a3  h)) (a0 : Nat) (a1 : Nat) (a2 : Nat) (a3 : Int32) (h : hp_H) : hp_J Y_G_putAll Z hp_rI h 53 [(0, .ref a0), (1, .ref a1), (2, .ref a2), (3, .int a3)] [] (m_G_putAll_53 (hp_G Z) r24 a0 a1 a2 a3 h) := by
  unfold m_G_putAll_53
  refine hp_aload_n (x0 := 0) d_G_putAll_53 rfl rfl ?_
  refine hp_getR fl_G_21 d_G_putAll_54 fun x1 => ?_
  refine hp_aload_n (x0 := 0) d_G_putAll_57 rfl rfl ?_
  refine hp_getR fl_G_36 d_G_putAll_58 fun x2 => ?_
  refine hp_aload_n (x0 := 1) d_G_putAll_61 rfl rfl ?_
  refine hp_iload_n (x0 := 3) d_G_putAll_62 rfl rfl ?_
  refine hp_iald d_G_putAll_63 fun x3 => ?_
  refine hp_callR (hp_crV (ci := 1) (t_S_at _ _ _ _) cw_G_40 rfl ⟨w_426, w_427⟩ (by decide) rfl rfl (Nat.le_of_ble_eq_true rfl) d_G_putAll_64) fun q4 => ?_
  refine hp_callI (hp_crV (ci := 4) (t_R_putString _ _ _ _) cw_G_140 rfl ⟨w_699, w_700⟩ (by decide) rfl rfl (Nat.le_of_ble_eq_true rfl) d_G_putAll_67) fun q5 => ?_
  refine hp_if_eq (tgt := 83) d_G_putAll_70 (by decide) ?_ ?_
  · refine hp_sub [] rfl ?_
    exact j_G_putAll_83   _
  · refine hp_aload_n (x0 := 0) d_G_putAll_73 rfl rfl ?_
    refine hp_getR fl_G_21 d_G_putAll_74 fun x6 => ?_
    refine hp_getI fl_G_144 d_G_putAll_77 fun x7 => ?_
    refine hp_if_eq (tgt := 85) d_G_putAll_80 (by decide) ?_ ?_
    · refine hp_iinc (x0 := 3) (d := 1) (fun x8 => [(3, .int x8), (0, .ref a0), (1, .ref a1), (2, .ref a2)]) d_G_putAll_85 rfl (by decide) (by decide) (fun _ => rfl) fun x8 => ?_
      refine hp_goto (tgt := 24) d_G_putAll_88 (by decide) ?_
      refine hp_sub [1, 2, 3, 0] rfl ?_
      exact hr24 _ _ _ _ _
    · refine hp_sub [] rfl ?_
      exact j_G_putAll_83   _
def m_G_putAll_91 (G : Nat → Nat) (h : hp_H) : Option (Int32 × hp_H) := hp_z (1 : Int32) h
set_option maxRecDepth 100000 in
set_option maxHeartbeats 4000000 in
theorem j_G_putAll_91 {Z : hp_Z} (h : hp_H) : hp_J Y_G_putAll Z hp_rI h 91 [] [] (m_G_putAll_91 (hp_G Z)   h) := by
  unfold m_G_putAll_91
  refine hp_iconst (v := 1) d_G_putAll_91 (by decide) ?_
  exact hp_zret d_G_putAll_92 rfl
def m_G_putAll_24 (G : Nat → Nat) : Nat → Nat → Nat → Nat → Int32 → hp_H → Option (Int32 × hp_H)
  | 0, _, _, _, _, _ => none
  | n + 1, a0, a1, a2, a3, h => (hp_gI h a0 7 8).bind fun x1 => if x1 ≤ a3 then (m_G_putAll_91 G h) else ((hp_len h a1).bind fun x2 => if x2 ≤ a3 then (m_G_putAll_91 G h) else (if a3 ≤ 0 then (m_G_putAll_53 G (m_G_putAll_24 G  n) a0 a1 a2 a3 h) else ((hp_gR h a0 7 3).bind fun x3 => (hp_len h a2).bind fun x4 => (hp_vck h x3 4 (m_R_putPart G x3 a2 (0 : Int32) x4 h)).bind fun q5 => m_G_putAll_53 G (m_G_putAll_24 G  n) a0 a1 a2 a3 q5.2)))
set_option maxRecDepth 100000 in
set_option maxHeartbeats 4000000 in
theorem j_G_putAll_24 {Z : hp_Z} : ∀ (n : Nat) (a0 : Nat) (a1 : Nat) (a2 : Nat) (a3 : Int32) (h : hp_H), hp_J Y_G_putAll Z hp_rI h 24 [(0, .ref a0), (1, .ref a1), (2, .ref a2), (3, .int a3)] [] (m_G_putAll_24 (hp_G Z)  n a0 a1 a2 a3 h) := by
  intro n
  induction n with
  | zero => intro a0 a1 a2 a3 h; exact hp_fail
  | succ n ih =>
    intro a0 a1 a2 a3 h
    rw [m_G_putAll_24]
    refine hp_iload_n (x0 := 3) d_G_putAll_24 rfl rfl ?_
    refine hp_aload_n (x0 := 0) d_G_putAll_25 rfl rfl ?_
    refine hp_getI fl_G_58 d_G_putAll_26 fun x1 => ?_
    refine hp_icmp_ge (tgt := 91) d_G_putAll_29 (by decide) ?_ ?_
    · refine hp_sub [] rfl ?_
      exact j_G_putAll_91   _
    · refine hp_iload_n (x0 := 3) d_G_putAll_32 rfl rfl ?_
      refine hp_aload_n (x0 := 1) d_G_putAll_33 rfl rfl ?_
      refine hp_alen d_G_putAll_34 fun x2 => ?_
      refine hp_icmp_ge (tgt := 91) d_G_putAll_35 (by decide) ?_ ?_
      · refine hp_sub [] rfl ?_
        exact j_G_putAll_91   _
      · refine hp_iload_n (x0 := 3) d_G_putAll_38 rfl rfl ?_
        refine hp_if_le (tgt := 53) d_G_putAll_39 (by decide) ?_ ?_
        · exact j_G_putAll_53 _ ih _ _ _ _ _
        · refine hp_aload_n (x0 := 0) d_G_putAll_42 rfl rfl ?_
          refine hp_getR fl_G_21 d_G_putAll_43 fun x3 => ?_
          refine hp_aload_n (x0 := 2) d_G_putAll_46 rfl rfl ?_
          refine hp_iconst (v := 0) d_G_putAll_47 (by decide) ?_
          refine hp_aload_n (x0 := 2) d_G_putAll_48 rfl rfl ?_
          refine hp_alen d_G_putAll_49 fun x4 => ?_
          refine hp_callU (hp_crV (ci := 4) (t_R_putPart _ _ _ _ _ _) cw_G_136 rfl ⟨w_655, w_656⟩ (by decide) rfl rfl (Nat.le_of_ble_eq_true rfl) d_G_putAll_50) fun q5 => ?_
          exact j_G_putAll_53 _ ih _ _ _ _ _
def m_G_putAll (G : Nat → Nat) (a0 : Nat) (a1 : Nat) (h : hp_H) : Option (Int32 × hp_H) := (hp_gR h a0 7 0).bind fun x1 => (hp_gI h a0 7 7).bind fun x2 => (hp_vck h x1 1 (m_S_at G x1 x2 h)).bind fun q3 => (hp_gR q3.2 q3.1 3 4).bind fun x4 => hp_nm x4 fun x5 => (hp_gR q3.2 a0 7 3).bind fun x6 => (hp_vck q3.2 x6 4 (m_R_clear G x6 q3.2)).bind fun q7 => hp_nm (0 : Int32) fun x8 => m_G_putAll_24 G hp_fu a0 a1 x5 x8 q7.2
set_option maxRecDepth 100000 in
set_option maxHeartbeats 4000000 in
theorem j_G_putAll_0 {Z : hp_Z} (a0 : Nat) (a1 : Nat) (h : hp_H) : hp_J Y_G_putAll Z hp_rI h 0 [(0, .ref a0), (1, .ref a1)] [] (m_G_putAll (hp_G Z)  a0 a1 h) := by
  unfold m_G_putAll
  refine hp_aload_n (x0 := 0) d_G_putAll_0 rfl rfl ?_
  refine hp_getR fl_G_36 d_G_putAll_1 fun x1 => ?_
  refine hp_aload_n (x0 := 0) d_G_putAll_4 rfl rfl ?_
  refine hp_getI fl_G_55 d_G_putAll_5 fun x2 => ?_
  refine hp_callR (hp_crV (ci := 1) (t_S_at _ _ _ _) cw_G_40 rfl ⟨w_426, w_427⟩ (by decide) rfl rfl (Nat.le_of_ble_eq_true rfl) d_G_putAll_8) fun q3 => ?_
  refine hp_getR fl_G_129 d_G_putAll_11 fun x4 => ?_
  refine hp_astore_n (fun x5 => [(2, .ref x5), (0, .ref a0), (1, .ref a1)]) d_G_putAll_14 rfl (by decide) (fun _ => rfl) fun x5 => ?_
  refine hp_aload_n (x0 := 1) d_G_putAll_15 rfl rfl ?_
  refine hp_getR fl_G_21 d_G_putAll_16 fun x6 => ?_
  refine hp_callU (hp_crV (ci := 4) (t_R_clear _ _ _) cw_G_133 rfl ⟨w_418, w_419⟩ (by decide) rfl rfl (Nat.le_of_ble_eq_true rfl) d_G_putAll_19) fun q7 => ?_
  refine hp_iconst (v := 0) d_G_putAll_22 (by decide) ?_
  refine hp_istore_n (fun x8 => [(3, .int x8), (2, .ref x5), (0, .ref a0), (1, .ref a1)]) d_G_putAll_23 rfl (by decide) (fun _ => rfl) fun x8 => ?_
  refine hp_sub [2, 3, 1, 0] rfl ?_
  exact j_G_putAll_24  hp_fu _ _ _ _ _
theorem t_G_putAll (l : Launch) (E : hp_E) (a0 : Nat) (a1 : Nat) : hp_M l E y_G_putAll Y_G_putAll hp_rI [.ref a0, .ref a1] (m_G_putAll E.2.2.1 a0 a1) := hp_M.of (plainFor_of_name (by decide)) ⟨rfl, rfl⟩ (Nat.le_of_ble_eq_true rfl) (fun Z h hE => by subst hE; exact j_G_putAll_0 _ _ h)
-- G_sortGathered
theorem d_G_sortGathered_0 : decode prog_3_method_11_code 0 = .ok (.iconst 0, 1) := by decide +kernel
theorem d_G_sortGathered_1 : decode prog_3_method_11_code 1 = .ok (.istore_n 1, 1) := by decide +kernel
theorem d_G_sortGathered_2 : decode prog_3_method_11_code 2 = .ok (.iload_n 1, 1) := by decide +kernel
theorem d_G_sortGathered_3 : decode prog_3_method_11_code 3 = .ok (.aload_n 0, 1) := by decide +kernel
theorem d_G_sortGathered_4 : decode prog_3_method_11_code 4 = .ok (.getfield 58, 3) := by decide +kernel
theorem d_G_sortGathered_7 : decode prog_3_method_11_code 7 = .ok (.if_icmp .ge 90, 3) := by decide +kernel
theorem d_G_sortGathered_10 : decode prog_3_method_11_code 10 = .ok (.iload_n 1, 1) := by decide +kernel
theorem d_G_sortGathered_11 : decode prog_3_method_11_code 11 = .ok (.sipush 500, 3) := by decide +kernel
theorem d_G_sortGathered_14 : decode prog_3_method_11_code 14 = .ok (.if_icmp .ge 83, 3) := by decide +kernel
theorem d_G_sortGathered_17 : decode prog_3_method_11_code 17 = .ok (.aload_n 0, 1) := by decide +kernel
theorem d_G_sortGathered_18 : decode prog_3_method_11_code 18 = .ok (.getfield 36, 3) := by decide +kernel
theorem d_G_sortGathered_21 : decode prog_3_method_11_code 21 = .ok (.aload_n 0, 1) := by decide +kernel
theorem d_G_sortGathered_22 : decode prog_3_method_11_code 22 = .ok (.getfield 9, 3) := by decide +kernel
theorem d_G_sortGathered_25 : decode prog_3_method_11_code 25 = .ok (.iload_n 1, 1) := by decide +kernel
theorem d_G_sortGathered_26 : decode prog_3_method_11_code 26 = .ok (.iaload, 1) := by decide +kernel
theorem d_G_sortGathered_27 : decode prog_3_method_11_code 27 = .ok (.invokevirtual 40, 3) := by decide +kernel
theorem d_G_sortGathered_30 : decode prog_3_method_11_code 30 = .ok (.astore_n 2, 1) := by decide +kernel
theorem d_G_sortGathered_31 : decode prog_3_method_11_code 31 = .ok (.iload_n 1, 1) := by decide +kernel
theorem d_G_sortGathered_32 : decode prog_3_method_11_code 32 = .ok (.istore_n 3, 1) := by decide +kernel
theorem d_G_sortGathered_33 : decode prog_3_method_11_code 33 = .ok (.iload_n 3, 1) := by decide +kernel
theorem d_G_sortGathered_34 : decode prog_3_method_11_code 34 = .ok (.ifCond .le 45, 3) := by decide +kernel
theorem d_G_sortGathered_37 : decode prog_3_method_11_code 37 = .ok (.aload_n 0, 1) := by decide +kernel
theorem d_G_sortGathered_38 : decode prog_3_method_11_code 38 = .ok (.getfield 36, 3) := by decide +kernel
theorem d_G_sortGathered_41 : decode prog_3_method_11_code 41 = .ok (.aload_n 0, 1) := by decide +kernel
theorem d_G_sortGathered_42 : decode prog_3_method_11_code 42 = .ok (.getfield 15, 3) := by decide +kernel
theorem d_G_sortGathered_45 : decode prog_3_method_11_code 45 = .ok (.iload_n 3, 1) := by decide +kernel
theorem d_G_sortGathered_46 : decode prog_3_method_11_code 46 = .ok (.iconst 1, 1) := by decide +kernel
theorem d_G_sortGathered_47 : decode prog_3_method_11_code 47 = .ok (.isub, 1) := by decide +kernel
theorem d_G_sortGathered_48 : decode prog_3_method_11_code 48 = .ok (.iaload, 1) := by decide +kernel
theorem d_G_sortGathered_49 : decode prog_3_method_11_code 49 = .ok (.invokevirtual 40, 3) := by decide +kernel
theorem d_G_sortGathered_52 : decode prog_3_method_11_code 52 = .ok (.aload_n 2, 1) := by decide +kernel
theorem d_G_sortGathered_53 : decode prog_3_method_11_code 53 = .ok (.invokevirtual 114, 3) := by decide +kernel
theorem d_G_sortGathered_56 : decode prog_3_method_11_code 56 = .ok (.ifCond .le 23, 3) := by decide +kernel
theorem d_G_sortGathered_59 : decode prog_3_method_11_code 59 = .ok (.aload_n 0, 1) := by decide +kernel
theorem d_G_sortGathered_60 : decode prog_3_method_11_code 60 = .ok (.getfield 15, 3) := by decide +kernel
theorem d_G_sortGathered_63 : decode prog_3_method_11_code 63 = .ok (.iload_n 3, 1) := by decide +kernel
theorem d_G_sortGathered_64 : decode prog_3_method_11_code 64 = .ok (.aload_n 0, 1) := by decide +kernel
theorem d_G_sortGathered_65 : decode prog_3_method_11_code 65 = .ok (.getfield 15, 3) := by decide +kernel
theorem d_G_sortGathered_68 : decode prog_3_method_11_code 68 = .ok (.iload_n 3, 1) := by decide +kernel
theorem d_G_sortGathered_69 : decode prog_3_method_11_code 69 = .ok (.iconst 1, 1) := by decide +kernel
theorem d_G_sortGathered_70 : decode prog_3_method_11_code 70 = .ok (.isub, 1) := by decide +kernel
theorem d_G_sortGathered_71 : decode prog_3_method_11_code 71 = .ok (.iaload, 1) := by decide +kernel
theorem d_G_sortGathered_72 : decode prog_3_method_11_code 72 = .ok (.iastore, 1) := by decide +kernel
theorem d_G_sortGathered_73 : decode prog_3_method_11_code 73 = .ok (.iinc 3 (-1), 3) := by decide +kernel
theorem d_G_sortGathered_76 : decode prog_3_method_11_code 76 = .ok (.goto (-43), 3) := by decide +kernel
theorem d_G_sortGathered_79 : decode prog_3_method_11_code 79 = .ok (.aload_n 0, 1) := by decide +kernel
theorem d_G_sortGathered_80 : decode prog_3_method_11_code 80 = .ok (.getfield 15, 3) := by decide +kernel
theorem d_G_sortGathered_83 : decode prog_3_method_11_code 83 = .ok (.iload_n 3, 1) := by decide +kernel
theorem d_G_sortGathered_84 : decode prog_3_method_11_code 84 = .ok (.aload_n 0, 1) := by decide +kernel
theorem d_G_sortGathered_85 : decode prog_3_method_11_code 85 = .ok (.getfield 9, 3) := by decide +kernel
theorem d_G_sortGathered_88 : decode prog_3_method_11_code 88 = .ok (.iload_n 1, 1) := by decide +kernel
theorem d_G_sortGathered_89 : decode prog_3_method_11_code 89 = .ok (.iaload, 1) := by decide +kernel
theorem d_G_sortGathered_90 : decode prog_3_method_11_code 90 = .ok (.iastore, 1) := by decide +kernel
theorem d_G_sortGathered_91 : decode prog_3_method_11_code 91 = .ok (.iinc 1 1, 3) := by decide +kernel
theorem d_G_sortGathered_94 : decode prog_3_method_11_code 94 = .ok (.goto (-92), 3) := by decide +kernel
theorem d_G_sortGathered_97 : decode prog_3_method_11_code 97 = .ok (.return_, 1) := by decide +kernel
def m_G_sortGathered_79 (G : Nat → Nat) (r2 : Nat → Int32 → hp_H → Option (Unit × hp_H)) (a0 : Nat) (a1 : Int32) (a3 : Int32) (h : hp_H) : Option (Unit × hp_H) := (hp_gR h a0 7 2).bind fun x1 => (hp_gR h a0 7 1).bind fun x2 => (hp_aI h .int x2 a1).bind fun x3 => (hp_sI h .int x1 a3 x3).bind fun h4 => hp_nm (a1 + 1) fun x5 => r2 a0 x5 h4
set_option maxRecDepth 100000 in
set_option maxHeartbeats 4000000 in
theorem j_G_sortGathered_79 {Z : hp_Z} (r2 : Nat → Int32 → hp_H → Option (Unit × hp_H)) (hr2 : ∀ (a0 : Nat) (a1 : Int32) (h : hp_H), hp_J Y_G_sortGathered Z hp_rV h 2 [(0, .ref a0), (1, .int a1)] [] (r2 a0 a1  h)) (a0 : Nat) (a1 : Int32) (a3 : Int32) (h : hp_H) : hp_J Y_G_sortGathered Z hp_rV h 79 [(0, .ref a0), (1, .int a1), (3, .int a3)] [] (m_G_sortGathered_79 (hp_G Z) r2 a0 a1 a3 h) := by
  unfold m_G_sortGathered_79
  refine hp_aload_n (x0 := 0) d_G_sortGathered_79 rfl rfl ?_
  refine hp_getR fl_G_15 d_G_sortGathered_80 fun x1 => ?_
  refine hp_iload_n (x0 := 2) d_G_sortGathered_83 rfl rfl ?_
  refine hp_aload_n (x0 := 0) d_G_sortGathered_84 rfl rfl ?_
  refine hp_getR fl_G_9 d_G_sortGathered_85 fun x2 => ?_
  refine hp_iload_n (x0 := 1) d_G_sortGathered_88 rfl rfl ?_
  refine hp_iald d_G_sortGathered_89 fun x3 => ?_
  refine hp_iast d_G_sortGathered_90 fun h4 => ?_
  refine hp_iinc (x0 := 1) (d := 1) (fun x5 => [(1, .int x5), (0, .ref a0), (3, .int a3)]) d_G_sortGathered_91 rfl (by decide) (by decide) (fun _ => rfl) fun x5 => ?_
  refine hp_goto (tgt := 2) d_G_sortGathered_94 (by decide) ?_
  refine hp_sub [1, 0] rfl ?_
  exact hr2 _ _ _
def m_G_sortGathered_33 (G : Nat → Nat) (r2 : Nat → Int32 → hp_H → Option (Unit × hp_H)) : Nat → Nat → Int32 → Nat → Int32 → hp_H → Option (Unit × hp_H)
  | 0, _, _, _, _, _ => none
  | n + 1, a0, a1, a2, a3, h => if a3 ≤ 0 then (m_G_sortGathered_79 G r2 a0 a1 a3 h) else ((hp_gR h a0 7 0).bind fun x1 => (hp_gR h a0 7 2).bind fun x2 => (hp_aI h .int x2 (a3 - (1 : Int32))).bind fun x3 => (hp_vck h x1 1 (m_S_at G x1 x3 h)).bind fun q4 => (hp_vck q4.2 q4.1 3 (m_V_comparedTo G q4.1 a2 q4.2)).bind fun q5 => if q5.1 ≤ 0 then (m_G_sortGathered_79 G r2 a0 a1 a3 q5.2) else ((hp_gR q5.2 a0 7 2).bind fun x6 => (hp_gR q5.2 a0 7 2).bind fun x7 => (hp_aI q5.2 .int x7 (a3 - (1 : Int32))).bind fun x8 => (hp_sI q5.2 .int x6 a3 x8).bind fun h9 => hp_nm (a3 + (-1)) fun x10 => (m_G_sortGathered_33 G r2 n) a0 a1 a2 x10 h9))
set_option maxRecDepth 100000 in
set_option maxHeartbeats 4000000 in
theorem j_G_sortGathered_33 {Z : hp_Z} (r2 : Nat → Int32 → hp_H → Option (Unit × hp_H)) (hr2 : ∀ (a0 : Nat) (a1 : Int32) (h : hp_H), hp_J Y_G_sortGathered Z hp_rV h 2 [(0, .ref a0), (1, .int a1)] [] (r2 a0 a1  h)) : ∀ (n : Nat) (a0 : Nat) (a1 : Int32) (a2 : Nat) (a3 : Int32) (h : hp_H), hp_J Y_G_sortGathered Z hp_rV h 33 [(0, .ref a0), (1, .int a1), (2, .ref a2), (3, .int a3)] [] (m_G_sortGathered_33 (hp_G Z) r2 n a0 a1 a2 a3 h) := by
  intro n
  induction n with
  | zero => intro a0 a1 a2 a3 h; exact hp_fail
  | succ n ih =>
    intro a0 a1 a2 a3 h
    rw [m_G_sortGathered_33]
    refine hp_iload_n (x0 := 3) d_G_sortGathered_33 rfl rfl ?_
    refine hp_if_le (tgt := 79) d_G_sortGathered_34 (by decide) ?_ ?_
    · refine hp_sub [0, 1, 3] rfl ?_
      exact j_G_sortGathered_79 _ hr2 _ _ _ _
    · refine hp_aload_n (x0 := 0) d_G_sortGathered_37 rfl rfl ?_
      refine hp_getR fl_G_36 d_G_sortGathered_38 fun x1 => ?_
      refine hp_aload_n (x0 := 0) d_G_sortGathered_41 rfl rfl ?_
      refine hp_getR fl_G_15 d_G_sortGathered_42 fun x2 => ?_
      refine hp_iload_n (x0 := 3) d_G_sortGathered_45 rfl rfl ?_
      refine hp_iconst (v := 1) d_G_sortGathered_46 (by decide) ?_
      refine hp_isub d_G_sortGathered_47 ?_
      refine hp_iald d_G_sortGathered_48 fun x3 => ?_
      refine hp_callR (hp_crV (ci := 1) (t_S_at _ _ _ _) cw_G_40 rfl ⟨w_426, w_427⟩ (by decide) rfl rfl (Nat.le_of_ble_eq_true rfl) d_G_sortGathered_49) fun q4 => ?_
      refine hp_aload_n (x0 := 2) d_G_sortGathered_52 rfl rfl ?_
      refine hp_callI (hp_crV (ci := 3) (t_V_comparedTo _ _ _ _) cw_G_114 rfl ⟨w_450, w_451⟩ (by decide) rfl rfl (Nat.le_of_ble_eq_true rfl) d_G_sortGathered_53) fun q5 => ?_
      refine hp_if_le (tgt := 79) d_G_sortGathered_56 (by decide) ?_ ?_
      · refine hp_sub [0, 1, 3] rfl ?_
        exact j_G_sortGathered_79 _ hr2 _ _ _ _
      · refine hp_aload_n (x0 := 0) d_G_sortGathered_59 rfl rfl ?_
        refine hp_getR fl_G_15 d_G_sortGathered_60 fun x6 => ?_
        refine hp_iload_n (x0 := 3) d_G_sortGathered_63 rfl rfl ?_
        refine hp_aload_n (x0 := 0) d_G_sortGathered_64 rfl rfl ?_
        refine hp_getR fl_G_15 d_G_sortGathered_65 fun x7 => ?_
        refine hp_iload_n (x0 := 3) d_G_sortGathered_68 rfl rfl ?_
        refine hp_iconst (v := 1) d_G_sortGathered_69 (by decide) ?_
        refine hp_isub d_G_sortGathered_70 ?_
        refine hp_iald d_G_sortGathered_71 fun x8 => ?_
        refine hp_iast d_G_sortGathered_72 fun h9 => ?_
        refine hp_iinc (x0 := 3) (d := -1) (fun x10 => [(3, .int x10), (0, .ref a0), (1, .int a1), (2, .ref a2)]) d_G_sortGathered_73 rfl (by decide) (by decide) (fun _ => rfl) fun x10 => ?_
        refine hp_goto (tgt := 33) d_G_sortGathered_76 (by decide) ?_
        refine hp_sub [1, 2, 3, 0] rfl ?_
        exact ih _ _ _ _ _
def m_G_sortGathered_97 (G : Nat → Nat) (h : hp_H) : Option (Unit × hp_H) := some ((), h)
set_option maxRecDepth 100000 in
set_option maxHeartbeats 4000000 in
theorem j_G_sortGathered_97 {Z : hp_Z} (h : hp_H) : hp_J Y_G_sortGathered Z hp_rV h 97 [] [] (m_G_sortGathered_97 (hp_G Z)   h) := by
  unfold m_G_sortGathered_97
  exact hp_vret d_G_sortGathered_97 rfl
def m_G_sortGathered_2 (G : Nat → Nat) : Nat → Nat → Int32 → hp_H → Option (Unit × hp_H)
  | 0, _, _, _ => none
  | n + 1, a0, a1, h => (hp_gI h a0 7 8).bind fun x1 => if x1 ≤ a1 then (m_G_sortGathered_97 G h) else (if (500 : Int32) ≤ a1 then (m_G_sortGathered_97 G h) else ((hp_gR h a0 7 0).bind fun x2 => (hp_gR h a0 7 1).bind fun x3 => (hp_aI h .int x3 a1).bind fun x4 => (hp_vck h x2 1 (m_S_at G x2 x4 h)).bind fun q5 => hp_nm q5.1 fun x6 => hp_nm a1 fun x7 => m_G_sortGathered_33 G (m_G_sortGathered_2 G  n) hp_fu a0 a1 x6 x7 q5.2))
set_option maxRecDepth 100000 in
set_option maxHeartbeats 4000000 in
theorem j_G_sortGathered_2 {Z : hp_Z} : ∀ (n : Nat) (a0 : Nat) (a1 : Int32) (h : hp_H), hp_J Y_G_sortGathered Z hp_rV h 2 [(0, .ref a0), (1, .int a1)] [] (m_G_sortGathered_2 (hp_G Z)  n a0 a1 h) := by
  intro n
  induction n with
  | zero => intro a0 a1 h; exact hp_fail
  | succ n ih =>
    intro a0 a1 h
    rw [m_G_sortGathered_2]
    refine hp_iload_n (x0 := 1) d_G_sortGathered_2 rfl rfl ?_
    refine hp_aload_n (x0 := 0) d_G_sortGathered_3 rfl rfl ?_
    refine hp_getI fl_G_58 d_G_sortGathered_4 fun x1 => ?_
    refine hp_icmp_ge (tgt := 97) d_G_sortGathered_7 (by decide) ?_ ?_
    · refine hp_sub [] rfl ?_
      exact j_G_sortGathered_97   _
    · refine hp_iload_n (x0 := 1) d_G_sortGathered_10 rfl rfl ?_
      refine hp_sipush (v := 500) d_G_sortGathered_11 (by decide) ?_
      refine hp_icmp_ge (tgt := 97) d_G_sortGathered_14 (by decide) ?_ ?_
      · refine hp_sub [] rfl ?_
        exact j_G_sortGathered_97   _
      · refine hp_aload_n (x0 := 0) d_G_sortGathered_17 rfl rfl ?_
        refine hp_getR fl_G_36 d_G_sortGathered_18 fun x2 => ?_
        refine hp_aload_n (x0 := 0) d_G_sortGathered_21 rfl rfl ?_
        refine hp_getR fl_G_9 d_G_sortGathered_22 fun x3 => ?_
        refine hp_iload_n (x0 := 1) d_G_sortGathered_25 rfl rfl ?_
        refine hp_iald d_G_sortGathered_26 fun x4 => ?_
        refine hp_callR (hp_crV (ci := 1) (t_S_at _ _ _ _) cw_G_40 rfl ⟨w_426, w_427⟩ (by decide) rfl rfl (Nat.le_of_ble_eq_true rfl) d_G_sortGathered_27) fun q5 => ?_
        refine hp_astore_n (fun x6 => [(2, .ref x6), (0, .ref a0), (1, .int a1)]) d_G_sortGathered_30 rfl (by decide) (fun _ => rfl) fun x6 => ?_
        refine hp_iload_n (x0 := 2) d_G_sortGathered_31 rfl rfl ?_
        refine hp_istore_n (fun x7 => [(3, .int x7), (2, .ref x6), (0, .ref a0), (1, .int a1)]) d_G_sortGathered_32 rfl (by decide) (fun _ => rfl) fun x7 => ?_
        refine hp_sub [2, 3, 1, 0] rfl ?_
        exact j_G_sortGathered_33 _ ih hp_fu _ _ _ _ _
def m_G_sortGathered (G : Nat → Nat) (a0 : Nat) (h : hp_H) : Option (Unit × hp_H) := hp_nm (0 : Int32) fun x1 => m_G_sortGathered_2 G hp_fu a0 x1 h
set_option maxRecDepth 100000 in
set_option maxHeartbeats 4000000 in
theorem j_G_sortGathered_0 {Z : hp_Z} (a0 : Nat) (h : hp_H) : hp_J Y_G_sortGathered Z hp_rV h 0 [(0, .ref a0)] [] (m_G_sortGathered (hp_G Z)  a0 h) := by
  unfold m_G_sortGathered
  refine hp_iconst (v := 0) d_G_sortGathered_0 (by decide) ?_
  refine hp_istore_n (fun x1 => [(1, .int x1), (0, .ref a0)]) d_G_sortGathered_1 rfl (by decide) (fun _ => rfl) fun x1 => ?_
  refine hp_sub [1, 0] rfl ?_
  exact j_G_sortGathered_2  hp_fu _ _ _
theorem t_G_sortGathered (l : Launch) (E : hp_E) (a0 : Nat) : hp_M l E y_G_sortGathered Y_G_sortGathered hp_rV [.ref a0] (m_G_sortGathered E.2.2.1 a0) := hp_M.of (plainFor_of_name (by decide)) ⟨rfl, rfl⟩ (Nat.le_of_ble_eq_true rfl) (fun Z h hE => by subst hE; exact j_G_sortGathered_0 _ h)
-- G_joined
theorem d_G_joined_0 : decode prog_3_method_9_code 0 = .ok (.aload_n 0, 1) := by decide +kernel
theorem d_G_joined_1 : decode prog_3_method_9_code 1 = .ok (.aload_n 0, 1) := by decide +kernel
theorem d_G_joined_2 : decode prog_3_method_9_code 2 = .ok (.getfield 9, 3) := by decide +kernel
theorem d_G_joined_5 : decode prog_3_method_9_code 5 = .ok (.invokevirtual 118, 3) := by decide +kernel
theorem d_G_joined_8 : decode prog_3_method_9_code 8 = .ok (.ifCond .ne 6, 3) := by decide +kernel
theorem d_G_joined_11 : decode prog_3_method_9_code 11 = .ok (.bipush (-4), 2) := by decide +kernel
theorem d_G_joined_13 : decode prog_3_method_9_code 13 = .ok (.ireturn, 1) := by decide +kernel
theorem d_G_joined_14 : decode prog_3_method_9_code 14 = .ok (.aload_n 0, 1) := by decide +kernel
theorem d_G_joined_15 : decode prog_3_method_9_code 15 = .ok (.invokevirtual 122, 3) := by decide +kernel
theorem d_G_joined_18 : decode prog_3_method_9_code 18 = .ok (.aload_n 0, 1) := by decide +kernel
theorem d_G_joined_19 : decode prog_3_method_9_code 19 = .ok (.aload_n 0, 1) := by decide +kernel
theorem d_G_joined_20 : decode prog_3_method_9_code 20 = .ok (.getfield 15, 3) := by decide +kernel
theorem d_G_joined_23 : decode prog_3_method_9_code 23 = .ok (.invokevirtual 118, 3) := by decide +kernel
theorem d_G_joined_26 : decode prog_3_method_9_code 26 = .ok (.ifCond .eq 19, 3) := by decide +kernel
theorem d_G_joined_29 : decode prog_3_method_9_code 29 = .ok (.aload_n 0, 1) := by decide +kernel
theorem d_G_joined_30 : decode prog_3_method_9_code 30 = .ok (.getfield 36, 3) := by decide +kernel
theorem d_G_joined_33 : decode prog_3_method_9_code 33 = .ok (.iconst 5, 1) := by decide +kernel
theorem d_G_joined_34 : decode prog_3_method_9_code 34 = .ok (.iconst 0, 1) := by decide +kernel
theorem d_G_joined_35 : decode prog_3_method_9_code 35 = .ok (.aload_n 0, 1) := by decide +kernel
theorem d_G_joined_36 : decode prog_3_method_9_code 36 = .ok (.getfield 21, 3) := by decide +kernel
theorem d_G_joined_39 : decode prog_3_method_9_code 39 = .ok (.invokevirtual 125, 3) := by decide +kernel
theorem d_G_joined_42 : decode prog_3_method_9_code 42 = .ok (.goto 5, 3) := by decide +kernel
theorem d_G_joined_45 : decode prog_3_method_9_code 45 = .ok (.bipush (-4), 2) := by decide +kernel
theorem d_G_joined_47 : decode prog_3_method_9_code 47 = .ok (.ireturn, 1) := by decide +kernel
def m_G_joined_47 (G : Nat → Nat) (s0 : Int32) (h : hp_H) : Option (Int32 × hp_H) := some (s0, h)
set_option maxRecDepth 100000 in
set_option maxHeartbeats 4000000 in
theorem j_G_joined_47 {Z : hp_Z} (s0 : Int32) (h : hp_H) : hp_J Y_G_joined Z hp_rI h 47 [] [.int s0] (m_G_joined_47 (hp_G Z)  s0 h) := by
  unfold m_G_joined_47
  exact hp_iret d_G_joined_47 rfl
def m_G_joined (G : Nat → Nat) (a0 : Nat) (h : hp_H) : Option (Int32 × hp_H) := (hp_gR h a0 7 1).bind fun x1 => (hp_vck h a0 7 (m_G_putAll G a0 x1 h)).bind fun q2 => if q2.1 = 0 then (some ((-4 : Int32), q2.2)) else ((hp_vck q2.2 a0 7 (m_G_sortGathered G a0 q2.2)).bind fun q3 => (hp_gR q3.2 a0 7 2).bind fun x4 => (hp_vck q3.2 a0 7 (m_G_putAll G a0 x4 q3.2)).bind fun q5 => if q5.1 = 0 then (m_G_joined_47 G (-4 : Int32) q5.2) else ((hp_gR q5.2 a0 7 0).bind fun x6 => (hp_gR q5.2 a0 7 3).bind fun x7 => (hp_vck q5.2 x6 1 (m_S_keepRow G x6 (5 : Int32) (0 : Int32) x7 q5.2)).bind fun q8 => m_G_joined_47 G q8.1 q8.2))
set_option maxRecDepth 100000 in
set_option maxHeartbeats 4000000 in
theorem j_G_joined_0 {Z : hp_Z} (a0 : Nat) (h : hp_H) : hp_J Y_G_joined Z hp_rI h 0 [(0, .ref a0)] [] (m_G_joined (hp_G Z)  a0 h) := by
  unfold m_G_joined
  refine hp_aload_n (x0 := 0) d_G_joined_0 rfl rfl ?_
  refine hp_aload_n (x0 := 0) d_G_joined_1 rfl rfl ?_
  refine hp_getR fl_G_9 d_G_joined_2 fun x1 => ?_
  refine hp_callI (hp_crV (ci := 7) (t_G_putAll _ _ _ _) cw_G_118 rfl ⟨w_836, ws_36⟩ (by decide) rfl rfl (Nat.le_of_ble_eq_true rfl) d_G_joined_5) fun q2 => ?_
  refine hp_if_ne (tgt := 14) d_G_joined_8 (by decide) ?_ ?_
  · refine hp_bipush (v := -4) d_G_joined_11 (by decide) ?_
    exact hp_iret d_G_joined_13 rfl
  · refine hp_aload_n (x0 := 0) d_G_joined_14 rfl rfl ?_
    refine hp_callU (hp_crV (ci := 7) (t_G_sortGathered _ _ _) cw_G_122 rfl ⟨w_843, ws_37⟩ (by decide) rfl rfl (Nat.le_of_ble_eq_true rfl) d_G_joined_15) fun q3 => ?_
    refine hp_aload_n (x0 := 0) d_G_joined_18 rfl rfl ?_
    refine hp_aload_n (x0 := 0) d_G_joined_19 rfl rfl ?_
    refine hp_getR fl_G_15 d_G_joined_20 fun x4 => ?_
    refine hp_callI (hp_crV (ci := 7) (t_G_putAll _ _ _ _) cw_G_118 rfl ⟨w_836, ws_36⟩ (by decide) rfl rfl (Nat.le_of_ble_eq_true rfl) d_G_joined_23) fun q5 => ?_
    refine hp_if_eq (tgt := 45) d_G_joined_26 (by decide) ?_ ?_
    · refine hp_bipush (v := -4) d_G_joined_45 (by decide) ?_
      refine hp_sub [] rfl ?_
      exact j_G_joined_47  _ _
    · refine hp_aload_n (x0 := 0) d_G_joined_29 rfl rfl ?_
      refine hp_getR fl_G_36 d_G_joined_30 fun x6 => ?_
      refine hp_iconst (v := 5) d_G_joined_33 (by decide) ?_
      refine hp_iconst (v := 0) d_G_joined_34 (by decide) ?_
      refine hp_aload_n (x0 := 0) d_G_joined_35 rfl rfl ?_
      refine hp_getR fl_G_21 d_G_joined_36 fun x7 => ?_
      refine hp_callI (hp_crV (ci := 1) (t_S_keepRow _ _ _ _ _ _) cw_G_125 rfl ⟨w_414, w_415⟩ (by decide) rfl rfl (Nat.le_of_ble_eq_true rfl) d_G_joined_39) fun q8 => ?_
      refine hp_goto (tgt := 47) d_G_joined_42 (by decide) ?_
      refine hp_sub [] rfl ?_
      exact j_G_joined_47  _ _
theorem t_G_joined (l : Launch) (E : hp_E) (a0 : Nat) : hp_M l E y_G_joined Y_G_joined hp_rI [.ref a0] (m_G_joined E.2.2.1 a0) := hp_M.of (plainFor_of_name (by decide)) ⟨rfl, rfl⟩ (Nat.le_of_ble_eq_true rfl) (fun Z h hE => by subst hE; exact j_G_joined_0 _ h)
-- G_outermost
theorem d_G_outermost_0 : decode prog_3_method_8_code 0 = .ok (.bipush (-4), 2) := by decide +kernel
theorem d_G_outermost_2 : decode prog_3_method_8_code 2 = .ok (.istore_n 2, 1) := by decide +kernel
theorem d_G_outermost_3 : decode prog_3_method_8_code 3 = .ok (.iconst 0, 1) := by decide +kernel
theorem d_G_outermost_4 : decode prog_3_method_8_code 4 = .ok (.istore_n 3, 1) := by decide +kernel
theorem d_G_outermost_5 : decode prog_3_method_8_code 5 = .ok (.iload_n 3, 1) := by decide +kernel
theorem d_G_outermost_6 : decode prog_3_method_8_code 6 = .ok (.aload_n 0, 1) := by decide +kernel
theorem d_G_outermost_7 : decode prog_3_method_8_code 7 = .ok (.getfield 58, 3) := by decide +kernel
theorem d_G_outermost_10 : decode prog_3_method_8_code 10 = .ok (.if_icmp .ge 62, 3) := by decide +kernel
theorem d_G_outermost_13 : decode prog_3_method_8_code 13 = .ok (.iload_n 3, 1) := by decide +kernel
theorem d_G_outermost_14 : decode prog_3_method_8_code 14 = .ok (.sipush 500, 3) := by decide +kernel
theorem d_G_outermost_17 : decode prog_3_method_8_code 17 = .ok (.if_icmp .ge 55, 3) := by decide +kernel
theorem d_G_outermost_20 : decode prog_3_method_8_code 20 = .ok (.aload_n 0, 1) := by decide +kernel
theorem d_G_outermost_21 : decode prog_3_method_8_code 21 = .ok (.getfield 9, 3) := by decide +kernel
theorem d_G_outermost_24 : decode prog_3_method_8_code 24 = .ok (.iload_n 3, 1) := by decide +kernel
theorem d_G_outermost_25 : decode prog_3_method_8_code 25 = .ok (.iaload, 1) := by decide +kernel
theorem d_G_outermost_26 : decode prog_3_method_8_code 26 = .ok (.istore 4, 2) := by decide +kernel
theorem d_G_outermost_28 : decode prog_3_method_8_code 28 = .ok (.iload 4, 2) := by decide +kernel
theorem d_G_outermost_30 : decode prog_3_method_8_code 30 = .ok (.ifCond .le 36, 3) := by decide +kernel
theorem d_G_outermost_33 : decode prog_3_method_8_code 33 = .ok (.iload_n 2, 1) := by decide +kernel
theorem d_G_outermost_34 : decode prog_3_method_8_code 34 = .ok (.bipush (-4), 2) := by decide +kernel
theorem d_G_outermost_36 : decode prog_3_method_8_code 36 = .ok (.if_icmp .eq 27, 3) := by decide +kernel
theorem d_G_outermost_39 : decode prog_3_method_8_code 39 = .ok (.aload_n 0, 1) := by decide +kernel
theorem d_G_outermost_40 : decode prog_3_method_8_code 40 = .ok (.getfield 36, 3) := by decide +kernel
theorem d_G_outermost_43 : decode prog_3_method_8_code 43 = .ok (.iload 4, 2) := by decide +kernel
theorem d_G_outermost_45 : decode prog_3_method_8_code 45 = .ok (.invokevirtual 40, 3) := by decide +kernel
theorem d_G_outermost_48 : decode prog_3_method_8_code 48 = .ok (.aload_n 0, 1) := by decide +kernel
theorem d_G_outermost_49 : decode prog_3_method_8_code 49 = .ok (.getfield 36, 3) := by decide +kernel
theorem d_G_outermost_52 : decode prog_3_method_8_code 52 = .ok (.iload_n 2, 1) := by decide +kernel
theorem d_G_outermost_53 : decode prog_3_method_8_code 53 = .ok (.invokevirtual 40, 3) := by decide +kernel
theorem d_G_outermost_56 : decode prog_3_method_8_code 56 = .ok (.invokevirtual 114, 3) := by decide +kernel
theorem d_G_outermost_59 : decode prog_3_method_8_code 59 = .ok (.iload_n 1, 1) := by decide +kernel
theorem d_G_outermost_60 : decode prog_3_method_8_code 60 = .ok (.if_icmp .ne 6, 3) := by decide +kernel
theorem d_G_outermost_63 : decode prog_3_method_8_code 63 = .ok (.iload 4, 2) := by decide +kernel
theorem d_G_outermost_65 : decode prog_3_method_8_code 65 = .ok (.istore_n 2, 1) := by decide +kernel
theorem d_G_outermost_66 : decode prog_3_method_8_code 66 = .ok (.iinc 3 1, 3) := by decide +kernel
theorem d_G_outermost_69 : decode prog_3_method_8_code 69 = .ok (.goto (-64), 3) := by decide +kernel
theorem d_G_outermost_72 : decode prog_3_method_8_code 72 = .ok (.iload_n 2, 1) := by decide +kernel
theorem d_G_outermost_73 : decode prog_3_method_8_code 73 = .ok (.ireturn, 1) := by decide +kernel
def m_G_outermost_66 (G : Nat → Nat) (r5 : Nat → Int32 → Int32 → Int32 → hp_H → Option (Int32 × hp_H)) (a0 : Nat) (a1 : Int32) (a2 : Int32) (a3 : Int32) (h : hp_H) : Option (Int32 × hp_H) := hp_nm (a3 + 1) fun x1 => r5 a0 a1 a2 x1 h
set_option maxRecDepth 100000 in
set_option maxHeartbeats 4000000 in
theorem j_G_outermost_66 {Z : hp_Z} (r5 : Nat → Int32 → Int32 → Int32 → hp_H → Option (Int32 × hp_H)) (hr5 : ∀ (a0 : Nat) (a1 : Int32) (a2 : Int32) (a3 : Int32) (h : hp_H), hp_J Y_G_outermost Z hp_rI h 5 [(0, .ref a0), (1, .int a1), (2, .int a2), (3, .int a3)] [] (r5 a0 a1 a2 a3  h)) (a0 : Nat) (a1 : Int32) (a2 : Int32) (a3 : Int32) (h : hp_H) : hp_J Y_G_outermost Z hp_rI h 66 [(0, .ref a0), (1, .int a1), (2, .int a2), (3, .int a3)] [] (m_G_outermost_66 (hp_G Z) r5 a0 a1 a2 a3 h) := by
  unfold m_G_outermost_66
  refine hp_iinc (x0 := 3) (d := 1) (fun x1 => [(3, .int x1), (0, .ref a0), (1, .int a1), (2, .int a2)]) d_G_outermost_66 rfl (by decide) (by decide) (fun _ => rfl) fun x1 => ?_
  refine hp_goto (tgt := 5) d_G_outermost_69 (by decide) ?_
  refine hp_sub [1, 2, 3, 0] rfl ?_
  exact hr5 _ _ _ _ _
def m_G_outermost_63 (G : Nat → Nat) (r5 : Nat → Int32 → Int32 → Int32 → hp_H → Option (Int32 × hp_H)) (a0 : Nat) (a1 : Int32) (a3 : Int32) (a4 : Int32) (h : hp_H) : Option (Int32 × hp_H) := hp_nm a4 fun x1 => m_G_outermost_66 G r5 a0 a1 x1 a3 h
set_option maxRecDepth 100000 in
set_option maxHeartbeats 4000000 in
theorem j_G_outermost_63 {Z : hp_Z} (r5 : Nat → Int32 → Int32 → Int32 → hp_H → Option (Int32 × hp_H)) (hr5 : ∀ (a0 : Nat) (a1 : Int32) (a2 : Int32) (a3 : Int32) (h : hp_H), hp_J Y_G_outermost Z hp_rI h 5 [(0, .ref a0), (1, .int a1), (2, .int a2), (3, .int a3)] [] (r5 a0 a1 a2 a3  h)) (a0 : Nat) (a1 : Int32) (a3 : Int32) (a4 : Int32) (h : hp_H) : hp_J Y_G_outermost Z hp_rI h 63 [(0, .ref a0), (1, .int a1), (3, .int a3), (4, .int a4)] [] (m_G_outermost_63 (hp_G Z) r5 a0 a1 a3 a4 h) := by
  unfold m_G_outermost_63
  refine hp_iload (x0 := 3) d_G_outermost_63 rfl ?_
  refine hp_istore_n (fun x1 => [(2, .int x1), (0, .ref a0), (1, .int a1), (3, .int a3), (4, .int a4)]) d_G_outermost_65 rfl (by decide) (fun _ => rfl) fun x1 => ?_
  refine hp_sub [1, 2, 0, 3] rfl ?_
  exact j_G_outermost_66 _ hr5 _ _ _ _ _
def m_G_outermost_72 (G : Nat → Nat) (a2 : Int32) (h : hp_H) : Option (Int32 × hp_H) := some (a2, h)
set_option maxRecDepth 100000 in
set_option maxHeartbeats 4000000 in
theorem j_G_outermost_72 {Z : hp_Z} (a2 : Int32) (h : hp_H) : hp_J Y_G_outermost Z hp_rI h 72 [(2, .int a2)] [] (m_G_outermost_72 (hp_G Z)  a2 h) := by
  unfold m_G_outermost_72
  refine hp_iload_n (x0 := 0) d_G_outermost_72 rfl rfl ?_
  exact hp_iret d_G_outermost_73 rfl
def m_G_outermost_5 (G : Nat → Nat) : Nat → Nat → Int32 → Int32 → Int32 → hp_H → Option (Int32 × hp_H)
  | 0, _, _, _, _, _ => none
  | n + 1, a0, a1, a2, a3, h => (hp_gI h a0 7 8).bind fun x1 => if x1 ≤ a3 then (m_G_outermost_72 G a2 h) else (if (500 : Int32) ≤ a3 then (m_G_outermost_72 G a2 h) else ((hp_gR h a0 7 1).bind fun x2 => (hp_aI h .int x2 a3).bind fun x3 => hp_nm x3 fun x4 => if x4 ≤ 0 then (m_G_outermost_66 G (m_G_outermost_5 G  n) a0 a1 a2 a3 h) else (if a2 = (-4 : Int32) then (m_G_outermost_63 G (m_G_outermost_5 G  n) a0 a1 a3 x4 h) else ((hp_gR h a0 7 0).bind fun x5 => (hp_vck h x5 1 (m_S_at G x5 x4 h)).bind fun q6 => (hp_gR q6.2 a0 7 0).bind fun x7 => (hp_vck q6.2 x7 1 (m_S_at G x7 a2 q6.2)).bind fun q8 => (hp_vck q8.2 q6.1 3 (m_V_comparedTo G q6.1 q8.1 q8.2)).bind fun q9 => if q9.1 = a1 then (m_G_outermost_63 G (m_G_outermost_5 G  n) a0 a1 a3 x4 q9.2) else (m_G_outermost_66 G (m_G_outermost_5 G  n) a0 a1 a2 a3 q9.2)))))
set_option maxRecDepth 100000 in
set_option maxHeartbeats 4000000 in
theorem j_G_outermost_5 {Z : hp_Z} : ∀ (n : Nat) (a0 : Nat) (a1 : Int32) (a2 : Int32) (a3 : Int32) (h : hp_H), hp_J Y_G_outermost Z hp_rI h 5 [(0, .ref a0), (1, .int a1), (2, .int a2), (3, .int a3)] [] (m_G_outermost_5 (hp_G Z)  n a0 a1 a2 a3 h) := by
  intro n
  induction n with
  | zero => intro a0 a1 a2 a3 h; exact hp_fail
  | succ n ih =>
    intro a0 a1 a2 a3 h
    rw [m_G_outermost_5]
    refine hp_iload_n (x0 := 3) d_G_outermost_5 rfl rfl ?_
    refine hp_aload_n (x0 := 0) d_G_outermost_6 rfl rfl ?_
    refine hp_getI fl_G_58 d_G_outermost_7 fun x1 => ?_
    refine hp_icmp_ge (tgt := 72) d_G_outermost_10 (by decide) ?_ ?_
    · refine hp_sub [2] rfl ?_
      exact j_G_outermost_72  _ _
    · refine hp_iload_n (x0 := 3) d_G_outermost_13 rfl rfl ?_
      refine hp_sipush (v := 500) d_G_outermost_14 (by decide) ?_
      refine hp_icmp_ge (tgt := 72) d_G_outermost_17 (by decide) ?_ ?_
      · refine hp_sub [2] rfl ?_
        exact j_G_outermost_72  _ _
      · refine hp_aload_n (x0 := 0) d_G_outermost_20 rfl rfl ?_
        refine hp_getR fl_G_9 d_G_outermost_21 fun x2 => ?_
        refine hp_iload_n (x0 := 3) d_G_outermost_24 rfl rfl ?_
        refine hp_iald d_G_outermost_25 fun x3 => ?_
        refine hp_istore (fun x4 => [(4, .int x4), (0, .ref a0), (1, .int a1), (2, .int a2), (3, .int a3)]) d_G_outermost_26 (by decide) (fun _ => rfl) fun x4 => ?_
        refine hp_iload (x0 := 0) d_G_outermost_28 rfl ?_
        refine hp_if_le (tgt := 66) d_G_outermost_30 (by decide) ?_ ?_
        · refine hp_sub [1, 2, 3, 4] rfl ?_
          exact j_G_outermost_66 _ ih _ _ _ _ _
        · refine hp_iload_n (x0 := 3) d_G_outermost_33 rfl rfl ?_
          refine hp_bipush (v := -4) d_G_outermost_34 (by decide) ?_
          refine hp_icmp_eq (tgt := 63) d_G_outermost_36 (by decide) ?_ ?_
          · refine hp_sub [1, 2, 4, 0] rfl ?_
            exact j_G_outermost_63 _ ih _ _ _ _ _
          · refine hp_aload_n (x0 := 1) d_G_outermost_39 rfl rfl ?_
            refine hp_getR fl_G_36 d_G_outermost_40 fun x5 => ?_
            refine hp_iload (x0 := 0) d_G_outermost_43 rfl ?_
            refine hp_callR (hp_crV (ci := 1) (t_S_at _ _ _ _) cw_G_40 rfl ⟨w_426, w_427⟩ (by decide) rfl rfl (Nat.le_of_ble_eq_true rfl) d_G_outermost_45) fun q6 => ?_
            refine hp_aload_n (x0 := 1) d_G_outermost_48 rfl rfl ?_
            refine hp_getR fl_G_36 d_G_outermost_49 fun x7 => ?_
            refine hp_iload_n (x0 := 3) d_G_outermost_52 rfl rfl ?_
            refine hp_callR (hp_crV (ci := 1) (t_S_at _ _ _ _) cw_G_40 rfl ⟨w_426, w_427⟩ (by decide) rfl rfl (Nat.le_of_ble_eq_true rfl) d_G_outermost_53) fun q8 => ?_
            refine hp_callI (hp_crV (ci := 3) (t_V_comparedTo _ _ _ _) cw_G_114 rfl ⟨w_450, w_451⟩ (by decide) rfl rfl (Nat.le_of_ble_eq_true rfl) d_G_outermost_56) fun q9 => ?_
            refine hp_iload_n (x0 := 2) d_G_outermost_59 rfl rfl ?_
            refine hp_icmp_ne (tgt := 66) d_G_outermost_60 (by decide) ?_ ?_
            · refine hp_sub [1, 2, 4, 0] rfl ?_
              exact j_G_outermost_63 _ ih _ _ _ _ _
            · refine hp_sub [1, 2, 3, 4] rfl ?_
              exact j_G_outermost_66 _ ih _ _ _ _ _
def m_G_outermost (G : Nat → Nat) (a0 : Nat) (a1 : Int32) (h : hp_H) : Option (Int32 × hp_H) := hp_nm (-4 : Int32) fun x1 => hp_nm (0 : Int32) fun x2 => m_G_outermost_5 G hp_fu a0 a1 x1 x2 h
set_option maxRecDepth 100000 in
set_option maxHeartbeats 4000000 in
theorem j_G_outermost_0 {Z : hp_Z} (a0 : Nat) (a1 : Int32) (h : hp_H) : hp_J Y_G_outermost Z hp_rI h 0 [(0, .ref a0), (1, .int a1)] [] (m_G_outermost (hp_G Z)  a0 a1 h) := by
  unfold m_G_outermost
  refine hp_bipush (v := -4) d_G_outermost_0 (by decide) ?_
  refine hp_istore_n (fun x1 => [(2, .int x1), (0, .ref a0), (1, .int a1)]) d_G_outermost_2 rfl (by decide) (fun _ => rfl) fun x1 => ?_
  refine hp_iconst (v := 0) d_G_outermost_3 (by decide) ?_
  refine hp_istore_n (fun x2 => [(3, .int x2), (2, .int x1), (0, .ref a0), (1, .int a1)]) d_G_outermost_4 rfl (by decide) (fun _ => rfl) fun x2 => ?_
  refine hp_sub [2, 3, 1, 0] rfl ?_
  exact j_G_outermost_5  hp_fu _ _ _ _ _
theorem t_G_outermost (l : Launch) (E : hp_E) (a0 : Nat) (a1 : Int32) : hp_M l E y_G_outermost Y_G_outermost hp_rI [.ref a0, .int a1] (m_G_outermost E.2.2.1 a0 a1) := hp_M.of (plainFor_of_name (by decide)) ⟨rfl, rfl⟩ (Nat.le_of_ble_eq_true rfl) (fun Z h hE => by subst hE; exact j_G_outermost_0 _ _ h)
-- G_reckonSum
theorem d_G_reckonSum_0 : decode prog_3_method_7_code 0 = .ok (.aload_n 0, 1) := by decide +kernel
theorem d_G_reckonSum_1 : decode prog_3_method_7_code 1 = .ok (.getfield 28, 3) := by decide +kernel
theorem d_G_reckonSum_4 : decode prog_3_method_7_code 4 = .ok (.iconst 1, 1) := by decide +kernel
theorem d_G_reckonSum_5 : decode prog_3_method_7_code 5 = .ok (.lconst 0, 1) := by decide +kernel
theorem d_G_reckonSum_6 : decode prog_3_method_7_code 6 = .ok (.iconst 0, 1) := by decide +kernel
theorem d_G_reckonSum_7 : decode prog_3_method_7_code 7 = .ok (.invokevirtual 93, 3) := by decide +kernel
theorem d_G_reckonSum_10 : decode prog_3_method_7_code 10 = .ok (.iconst 0, 1) := by decide +kernel
theorem d_G_reckonSum_11 : decode prog_3_method_7_code 11 = .ok (.istore_n 1, 1) := by decide +kernel
theorem d_G_reckonSum_12 : decode prog_3_method_7_code 12 = .ok (.iload_n 1, 1) := by decide +kernel
theorem d_G_reckonSum_13 : decode prog_3_method_7_code 13 = .ok (.aload_n 0, 1) := by decide +kernel
theorem d_G_reckonSum_14 : decode prog_3_method_7_code 14 = .ok (.getfield 58, 3) := by decide +kernel
theorem d_G_reckonSum_17 : decode prog_3_method_7_code 17 = .ok (.if_icmp .ge 86, 3) := by decide +kernel
theorem d_G_reckonSum_20 : decode prog_3_method_7_code 20 = .ok (.iload_n 1, 1) := by decide +kernel
theorem d_G_reckonSum_21 : decode prog_3_method_7_code 21 = .ok (.sipush 500, 3) := by decide +kernel
theorem d_G_reckonSum_24 : decode prog_3_method_7_code 24 = .ok (.if_icmp .ge 79, 3) := by decide +kernel
theorem d_G_reckonSum_27 : decode prog_3_method_7_code 27 = .ok (.aload_n 0, 1) := by decide +kernel
theorem d_G_reckonSum_28 : decode prog_3_method_7_code 28 = .ok (.getfield 28, 3) := by decide +kernel
theorem d_G_reckonSum_31 : decode prog_3_method_7_code 31 = .ok (.getfield 97, 3) := by decide +kernel
theorem d_G_reckonSum_34 : decode prog_3_method_7_code 34 = .ok (.ifCond .eq 69, 3) := by decide +kernel
theorem d_G_reckonSum_37 : decode prog_3_method_7_code 37 = .ok (.aload_n 0, 1) := by decide +kernel
theorem d_G_reckonSum_38 : decode prog_3_method_7_code 38 = .ok (.getfield 36, 3) := by decide +kernel
theorem d_G_reckonSum_41 : decode prog_3_method_7_code 41 = .ok (.aload_n 0, 1) := by decide +kernel
theorem d_G_reckonSum_42 : decode prog_3_method_7_code 42 = .ok (.getfield 9, 3) := by decide +kernel
theorem d_G_reckonSum_45 : decode prog_3_method_7_code 45 = .ok (.iload_n 1, 1) := by decide +kernel
theorem d_G_reckonSum_46 : decode prog_3_method_7_code 46 = .ok (.iaload, 1) := by decide +kernel
theorem d_G_reckonSum_47 : decode prog_3_method_7_code 47 = .ok (.invokevirtual 40, 3) := by decide +kernel
theorem d_G_reckonSum_50 : decode prog_3_method_7_code 50 = .ok (.astore_n 2, 1) := by decide +kernel
theorem d_G_reckonSum_51 : decode prog_3_method_7_code 51 = .ok (.aload_n 2, 1) := by decide +kernel
theorem d_G_reckonSum_52 : decode prog_3_method_7_code 52 = .ok (.invokevirtual 100, 3) := by decide +kernel
theorem d_G_reckonSum_55 : decode prog_3_method_7_code 55 = .ok (.ifCond .eq 34, 3) := by decide +kernel
theorem d_G_reckonSum_58 : decode prog_3_method_7_code 58 = .ok (.aload_n 0, 1) := by decide +kernel
theorem d_G_reckonSum_59 : decode prog_3_method_7_code 59 = .ok (.getfield 28, 3) := by decide +kernel
theorem d_G_reckonSum_62 : decode prog_3_method_7_code 62 = .ok (.aload_n 2, 1) := by decide +kernel
theorem d_G_reckonSum_63 : decode prog_3_method_7_code 63 = .ok (.getfield 46, 3) := by decide +kernel
theorem d_G_reckonSum_66 : decode prog_3_method_7_code 66 = .ok (.iconst 3, 1) := by decide +kernel
theorem d_G_reckonSum_67 : decode prog_3_method_7_code 67 = .ok (.if_icmp .ne 7, 3) := by decide +kernel
theorem d_G_reckonSum_70 : decode prog_3_method_7_code 70 = .ok (.iconst 1, 1) := by decide +kernel
theorem d_G_reckonSum_71 : decode prog_3_method_7_code 71 = .ok (.goto 4, 3) := by decide +kernel
theorem d_G_reckonSum_74 : decode prog_3_method_7_code 74 = .ok (.iconst 0, 1) := by decide +kernel
theorem d_G_reckonSum_75 : decode prog_3_method_7_code 75 = .ok (.aload_n 2, 1) := by decide +kernel
theorem d_G_reckonSum_76 : decode prog_3_method_7_code 76 = .ok (.getfield 104, 3) := by decide +kernel
theorem d_G_reckonSum_79 : decode prog_3_method_7_code 79 = .ok (.aload_n 2, 1) := by decide +kernel
theorem d_G_reckonSum_80 : decode prog_3_method_7_code 80 = .ok (.getfield 108, 3) := by decide +kernel
theorem d_G_reckonSum_83 : decode prog_3_method_7_code 83 = .ok (.invokevirtual 111, 3) := by decide +kernel
theorem d_G_reckonSum_86 : decode prog_3_method_7_code 86 = .ok (.goto 11, 3) := by decide +kernel
theorem d_G_reckonSum_89 : decode prog_3_method_7_code 89 = .ok (.aload_n 0, 1) := by decide +kernel
theorem d_G_reckonSum_90 : decode prog_3_method_7_code 90 = .ok (.getfield 28, 3) := by decide +kernel
theorem d_G_reckonSum_93 : decode prog_3_method_7_code 93 = .ok (.iconst 0, 1) := by decide +kernel
theorem d_G_reckonSum_94 : decode prog_3_method_7_code 94 = .ok (.putfield 97, 3) := by decide +kernel
theorem d_G_reckonSum_97 : decode prog_3_method_7_code 97 = .ok (.iinc 1 1, 3) := by decide +kernel
theorem d_G_reckonSum_100 : decode prog_3_method_7_code 100 = .ok (.goto (-88), 3) := by decide +kernel
theorem d_G_reckonSum_103 : decode prog_3_method_7_code 103 = .ok (.return_, 1) := by decide +kernel
def m_G_reckonSum_97 (G : Nat → Nat) (r12 : Nat → Int32 → hp_H → Option (Unit × hp_H)) (a0 : Nat) (a1 : Int32) (h : hp_H) : Option (Unit × hp_H) := hp_nm (a1 + 1) fun x1 => r12 a0 x1 h
set_option maxRecDepth 100000 in
set_option maxHeartbeats 4000000 in
theorem j_G_reckonSum_97 {Z : hp_Z} (r12 : Nat → Int32 → hp_H → Option (Unit × hp_H)) (hr12 : ∀ (a0 : Nat) (a1 : Int32) (h : hp_H), hp_J Y_G_reckonSum Z hp_rV h 12 [(0, .ref a0), (1, .int a1)] [] (r12 a0 a1  h)) (a0 : Nat) (a1 : Int32) (h : hp_H) : hp_J Y_G_reckonSum Z hp_rV h 97 [(0, .ref a0), (1, .int a1)] [] (m_G_reckonSum_97 (hp_G Z) r12 a0 a1 h) := by
  unfold m_G_reckonSum_97
  refine hp_iinc (x0 := 1) (d := 1) (fun x1 => [(1, .int x1), (0, .ref a0)]) d_G_reckonSum_97 rfl (by decide) (by decide) (fun _ => rfl) fun x1 => ?_
  refine hp_goto (tgt := 12) d_G_reckonSum_100 (by decide) ?_
  refine hp_sub [1, 0] rfl ?_
  exact hr12 _ _ _
def m_G_reckonSum_75 (G : Nat → Nat) (r12 : Nat → Int32 → hp_H → Option (Unit × hp_H)) (a0 : Nat) (a1 : Int32) (a2 : Nat) (s0 : Int32) (s1 : Nat) (h : hp_H) : Option (Unit × hp_H) := (hp_gL h a2 3 2).bind fun x1 => (hp_gI h a2 3 3).bind fun x2 => (hp_vck h s1 6 (m_K_plus G s1 s0 x1 x2 h)).bind fun q3 => m_G_reckonSum_97 G r12 a0 a1 q3.2
set_option maxRecDepth 100000 in
set_option maxHeartbeats 4000000 in
theorem j_G_reckonSum_75 {Z : hp_Z} (r12 : Nat → Int32 → hp_H → Option (Unit × hp_H)) (hr12 : ∀ (a0 : Nat) (a1 : Int32) (h : hp_H), hp_J Y_G_reckonSum Z hp_rV h 12 [(0, .ref a0), (1, .int a1)] [] (r12 a0 a1  h)) (a0 : Nat) (a1 : Int32) (a2 : Nat) (s0 : Int32) (s1 : Nat) (h : hp_H) : hp_J Y_G_reckonSum Z hp_rV h 75 [(0, .ref a0), (1, .int a1), (2, .ref a2)] [.int s0, .ref s1] (m_G_reckonSum_75 (hp_G Z) r12 a0 a1 a2 s0 s1 h) := by
  unfold m_G_reckonSum_75
  refine hp_aload_n (x0 := 2) d_G_reckonSum_75 rfl rfl ?_
  refine hp_getL fl_G_104 d_G_reckonSum_76 fun x1 => ?_
  refine hp_aload_n (x0 := 2) d_G_reckonSum_79 rfl rfl ?_
  refine hp_getI fl_G_108 d_G_reckonSum_80 fun x2 => ?_
  refine hp_callU (hp_crV (ci := 6) (t_K_plus _ _ _ _ _ _) cw_G_111 rfl ⟨w_604, w_605⟩ (by decide) rfl rfl (Nat.le_of_ble_eq_true rfl) d_G_reckonSum_83) fun q3 => ?_
  refine hp_goto (tgt := 97) d_G_reckonSum_86 (by decide) ?_
  refine hp_sub [0, 1] rfl ?_
  exact j_G_reckonSum_97 _ hr12 _ _ _
def m_G_reckonSum_103 (G : Nat → Nat) (h : hp_H) : Option (Unit × hp_H) := some ((), h)
set_option maxRecDepth 100000 in
set_option maxHeartbeats 4000000 in
theorem j_G_reckonSum_103 {Z : hp_Z} (h : hp_H) : hp_J Y_G_reckonSum Z hp_rV h 103 [] [] (m_G_reckonSum_103 (hp_G Z)   h) := by
  unfold m_G_reckonSum_103
  exact hp_vret d_G_reckonSum_103 rfl
def m_G_reckonSum_12 (G : Nat → Nat) : Nat → Nat → Int32 → hp_H → Option (Unit × hp_H)
  | 0, _, _, _ => none
  | n + 1, a0, a1, h => (hp_gI h a0 7 8).bind fun x1 => if x1 ≤ a1 then (m_G_reckonSum_103 G h) else (if (500 : Int32) ≤ a1 then (m_G_reckonSum_103 G h) else ((hp_gR h a0 7 4).bind fun x2 => (hp_gI h x2 6 0).bind fun x3 => if x3 = 0 then (m_G_reckonSum_103 G h) else ((hp_gR h a0 7 0).bind fun x4 => (hp_gR h a0 7 1).bind fun x5 => (hp_aI h .int x5 a1).bind fun x6 => (hp_vck h x4 1 (m_S_at G x4 x6 h)).bind fun q7 => hp_nm q7.1 fun x8 => (hp_vck q7.2 x8 3 (m_V_isNumber G x8 q7.2)).bind fun q9 => if q9.1 = 0 then ((hp_gR q9.2 a0 7 4).bind fun x10 => (hp_pZ q9.2 x10 6 0 (0 : Int32)).bind fun h11 => m_G_reckonSum_97 G (m_G_reckonSum_12 G  n) a0 a1 h11) else ((hp_gR q9.2 a0 7 4).bind fun x12 => (hp_gI q9.2 x8 3 0).bind fun x13 => if x13 = (3 : Int32) then (m_G_reckonSum_75 G (m_G_reckonSum_12 G  n) a0 a1 x8 (1 : Int32) x12 q9.2) else (m_G_reckonSum_75 G (m_G_reckonSum_12 G  n) a0 a1 x8 (0 : Int32) x12 q9.2)))))
set_option maxRecDepth 100000 in
set_option maxHeartbeats 4000000 in
theorem j_G_reckonSum_12 {Z : hp_Z} : ∀ (n : Nat) (a0 : Nat) (a1 : Int32) (h : hp_H), hp_J Y_G_reckonSum Z hp_rV h 12 [(0, .ref a0), (1, .int a1)] [] (m_G_reckonSum_12 (hp_G Z)  n a0 a1 h) := by
  intro n
  induction n with
  | zero => intro a0 a1 h; exact hp_fail
  | succ n ih =>
    intro a0 a1 h
    rw [m_G_reckonSum_12]
    refine hp_iload_n (x0 := 1) d_G_reckonSum_12 rfl rfl ?_
    refine hp_aload_n (x0 := 0) d_G_reckonSum_13 rfl rfl ?_
    refine hp_getI fl_G_58 d_G_reckonSum_14 fun x1 => ?_
    refine hp_icmp_ge (tgt := 103) d_G_reckonSum_17 (by decide) ?_ ?_
    · refine hp_sub [] rfl ?_
      exact j_G_reckonSum_103   _
    · refine hp_iload_n (x0 := 1) d_G_reckonSum_20 rfl rfl ?_
      refine hp_sipush (v := 500) d_G_reckonSum_21 (by decide) ?_
      refine hp_icmp_ge (tgt := 103) d_G_reckonSum_24 (by decide) ?_ ?_
      · refine hp_sub [] rfl ?_
        exact j_G_reckonSum_103   _
      · refine hp_aload_n (x0 := 0) d_G_reckonSum_27 rfl rfl ?_
        refine hp_getR fl_G_28 d_G_reckonSum_28 fun x2 => ?_
        refine hp_getI fl_G_97 d_G_reckonSum_31 fun x3 => ?_
        refine hp_if_eq (tgt := 103) d_G_reckonSum_34 (by decide) ?_ ?_
        · refine hp_sub [] rfl ?_
          exact j_G_reckonSum_103   _
        · refine hp_aload_n (x0 := 0) d_G_reckonSum_37 rfl rfl ?_
          refine hp_getR fl_G_36 d_G_reckonSum_38 fun x4 => ?_
          refine hp_aload_n (x0 := 0) d_G_reckonSum_41 rfl rfl ?_
          refine hp_getR fl_G_9 d_G_reckonSum_42 fun x5 => ?_
          refine hp_iload_n (x0 := 1) d_G_reckonSum_45 rfl rfl ?_
          refine hp_iald d_G_reckonSum_46 fun x6 => ?_
          refine hp_callR (hp_crV (ci := 1) (t_S_at _ _ _ _) cw_G_40 rfl ⟨w_426, w_427⟩ (by decide) rfl rfl (Nat.le_of_ble_eq_true rfl) d_G_reckonSum_47) fun q7 => ?_
          refine hp_astore_n (fun x8 => [(2, .ref x8), (0, .ref a0), (1, .int a1)]) d_G_reckonSum_50 rfl (by decide) (fun _ => rfl) fun x8 => ?_
          refine hp_aload_n (x0 := 0) d_G_reckonSum_51 rfl rfl ?_
          refine hp_callI (hp_crV (ci := 3) (t_V_isNumber _ _ _) cw_G_100 rfl ⟨w_454, w_455⟩ (by decide) rfl rfl (Nat.le_of_ble_eq_true rfl) d_G_reckonSum_52) fun q9 => ?_
          refine hp_if_eq (tgt := 89) d_G_reckonSum_55 (by decide) ?_ ?_
          · refine hp_aload_n (x0 := 1) d_G_reckonSum_89 rfl rfl ?_
            refine hp_getR fl_G_28 d_G_reckonSum_90 fun x10 => ?_
            refine hp_iconst (v := 0) d_G_reckonSum_93 (by decide) ?_
            refine hp_putZ fl_G_97 (fun q => by cases q) d_G_reckonSum_94 fun h11 => ?_
            refine hp_sub [1, 2] rfl ?_
            exact j_G_reckonSum_97 _ ih _ _ _
          · refine hp_aload_n (x0 := 1) d_G_reckonSum_58 rfl rfl ?_
            refine hp_getR fl_G_28 d_G_reckonSum_59 fun x12 => ?_
            refine hp_aload_n (x0 := 0) d_G_reckonSum_62 rfl rfl ?_
            refine hp_getI fl_G_46 d_G_reckonSum_63 fun x13 => ?_
            refine hp_iconst (v := 3) d_G_reckonSum_66 (by decide) ?_
            refine hp_icmp_ne (tgt := 74) d_G_reckonSum_67 (by decide) ?_ ?_
            · refine hp_iconst (v := 1) d_G_reckonSum_70 (by decide) ?_
              refine hp_goto (tgt := 75) d_G_reckonSum_71 (by decide) ?_
              refine hp_sub [1, 2, 0] rfl ?_
              exact j_G_reckonSum_75 _ ih _ _ _ _ _ _
            · refine hp_iconst (v := 0) d_G_reckonSum_74 (by decide) ?_
              refine hp_sub [1, 2, 0] rfl ?_
              exact j_G_reckonSum_75 _ ih _ _ _ _ _ _
def m_G_reckonSum (G : Nat → Nat) (a0 : Nat) (h : hp_H) : Option (Unit × hp_H) := (hp_gR h a0 7 4).bind fun x1 => (hp_vck h x1 6 (m_K_start G x1 (1 : Int32) (0 : Int64) (0 : Int32) h)).bind fun q2 => hp_nm (0 : Int32) fun x3 => m_G_reckonSum_12 G hp_fu a0 x3 q2.2
set_option maxRecDepth 100000 in
set_option maxHeartbeats 4000000 in
theorem j_G_reckonSum_0 {Z : hp_Z} (a0 : Nat) (h : hp_H) : hp_J Y_G_reckonSum Z hp_rV h 0 [(0, .ref a0)] [] (m_G_reckonSum (hp_G Z)  a0 h) := by
  unfold m_G_reckonSum
  refine hp_aload_n (x0 := 0) d_G_reckonSum_0 rfl rfl ?_
  refine hp_getR fl_G_28 d_G_reckonSum_1 fun x1 => ?_
  refine hp_iconst (v := 1) d_G_reckonSum_4 (by decide) ?_
  refine hp_lconst (v := 0) d_G_reckonSum_5 (by decide) ?_
  refine hp_iconst (v := 0) d_G_reckonSum_6 (by decide) ?_
  refine hp_callU (hp_crV (ci := 6) (t_K_start _ _ _ _ _ _) cw_G_93 rfl ⟨w_600, w_601⟩ (by decide) rfl rfl (Nat.le_of_ble_eq_true rfl) d_G_reckonSum_7) fun q2 => ?_
  refine hp_iconst (v := 0) d_G_reckonSum_10 (by decide) ?_
  refine hp_istore_n (fun x3 => [(1, .int x3), (0, .ref a0)]) d_G_reckonSum_11 rfl (by decide) (fun _ => rfl) fun x3 => ?_
  refine hp_sub [1, 0] rfl ?_
  exact j_G_reckonSum_12  hp_fu _ _ _
theorem t_G_reckonSum (l : Launch) (E : hp_E) (a0 : Nat) : hp_M l E y_G_reckonSum Y_G_reckonSum hp_rV [.ref a0] (m_G_reckonSum E.2.2.1 a0) := hp_M.of (plainFor_of_name (by decide)) ⟨rfl, rfl⟩ (Nat.le_of_ble_eq_true rfl) (fun Z h hE => by subst hE; exact j_G_reckonSum_0 _ h)
-- G_answer
theorem d_G_answer_0 : decode prog_3_method_5_code 0 = .ok (.aload_n 0, 1) := by decide +kernel
theorem d_G_answer_1 : decode prog_3_method_5_code 1 = .ok (.getfield 32, 3) := by decide +kernel
theorem d_G_answer_4 : decode prog_3_method_5_code 4 = .ok (.tableswitch 122 0 6 #[44, 59, 122, 111, 75, 122, 117], 44) := by decide +kernel
theorem d_G_answer_48 : decode prog_3_method_5_code 48 = .ok (.aload_n 0, 1) := by decide +kernel
theorem d_G_answer_49 : decode prog_3_method_5_code 49 = .ok (.getfield 36, 3) := by decide +kernel
theorem d_G_answer_52 : decode prog_3_method_5_code 52 = .ok (.iconst 3, 1) := by decide +kernel
theorem d_G_answer_53 : decode prog_3_method_5_code 53 = .ok (.aload_n 0, 1) := by decide +kernel
theorem d_G_answer_54 : decode prog_3_method_5_code 54 = .ok (.invokevirtual 68, 3) := by decide +kernel
theorem d_G_answer_57 : decode prog_3_method_5_code 57 = .ok (.i2l, 1) := by decide +kernel
theorem d_G_answer_58 : decode prog_3_method_5_code 58 = .ok (.iconst 0, 1) := by decide +kernel
theorem d_G_answer_59 : decode prog_3_method_5_code 59 = .ok (.invokevirtual 71, 3) := by decide +kernel
theorem d_G_answer_62 : decode prog_3_method_5_code 62 = .ok (.ireturn, 1) := by decide +kernel
theorem d_G_answer_63 : decode prog_3_method_5_code 63 = .ok (.aload_n 0, 1) := by decide +kernel
theorem d_G_answer_64 : decode prog_3_method_5_code 64 = .ok (.invokevirtual 75, 3) := by decide +kernel
theorem d_G_answer_67 : decode prog_3_method_5_code 67 = .ok (.aload_n 0, 1) := by decide +kernel
theorem d_G_answer_68 : decode prog_3_method_5_code 68 = .ok (.getfield 36, 3) := by decide +kernel
theorem d_G_answer_71 : decode prog_3_method_5_code 71 = .ok (.aload_n 0, 1) := by decide +kernel
theorem d_G_answer_72 : decode prog_3_method_5_code 72 = .ok (.getfield 28, 3) := by decide +kernel
theorem d_G_answer_75 : decode prog_3_method_5_code 75 = .ok (.invokevirtual 78, 3) := by decide +kernel
theorem d_G_answer_78 : decode prog_3_method_5_code 78 = .ok (.ireturn, 1) := by decide +kernel
theorem d_G_answer_79 : decode prog_3_method_5_code 79 = .ok (.aload_n 0, 1) := by decide +kernel
theorem d_G_answer_80 : decode prog_3_method_5_code 80 = .ok (.invokevirtual 75, 3) := by decide +kernel
theorem d_G_answer_83 : decode prog_3_method_5_code 83 = .ok (.aload_n 0, 1) := by decide +kernel
theorem d_G_answer_84 : decode prog_3_method_5_code 84 = .ok (.getfield 58, 3) := by decide +kernel
theorem d_G_answer_87 : decode prog_3_method_5_code 87 = .ok (.ifCond .le 16, 3) := by decide +kernel
theorem d_G_answer_90 : decode prog_3_method_5_code 90 = .ok (.aload_n 0, 1) := by decide +kernel
theorem d_G_answer_91 : decode prog_3_method_5_code 91 = .ok (.getfield 28, 3) := by decide +kernel
theorem d_G_answer_94 : decode prog_3_method_5_code 94 = .ok (.aload_n 0, 1) := by decide +kernel
theorem d_G_answer_95 : decode prog_3_method_5_code 95 = .ok (.getfield 58, 3) := by decide +kernel
theorem d_G_answer_98 : decode prog_3_method_5_code 98 = .ok (.i2l, 1) := by decide +kernel
theorem d_G_answer_99 : decode prog_3_method_5_code 99 = .ok (.iconst 0, 1) := by decide +kernel
theorem d_G_answer_100 : decode prog_3_method_5_code 100 = .ok (.invokevirtual 82, 3) := by decide +kernel
theorem d_G_answer_103 : decode prog_3_method_5_code 103 = .ok (.aload_n 0, 1) := by decide +kernel
theorem d_G_answer_104 : decode prog_3_method_5_code 104 = .ok (.getfield 36, 3) := by decide +kernel
theorem d_G_answer_107 : decode prog_3_method_5_code 107 = .ok (.aload_n 0, 1) := by decide +kernel
theorem d_G_answer_108 : decode prog_3_method_5_code 108 = .ok (.getfield 28, 3) := by decide +kernel
theorem d_G_answer_111 : decode prog_3_method_5_code 111 = .ok (.invokevirtual 78, 3) := by decide +kernel
theorem d_G_answer_114 : decode prog_3_method_5_code 114 = .ok (.ireturn, 1) := by decide +kernel
theorem d_G_answer_115 : decode prog_3_method_5_code 115 = .ok (.aload_n 0, 1) := by decide +kernel
theorem d_G_answer_116 : decode prog_3_method_5_code 116 = .ok (.iconst 1, 1) := by decide +kernel
theorem d_G_answer_117 : decode prog_3_method_5_code 117 = .ok (.invokevirtual 86, 3) := by decide +kernel
theorem d_G_answer_120 : decode prog_3_method_5_code 120 = .ok (.ireturn, 1) := by decide +kernel
theorem d_G_answer_121 : decode prog_3_method_5_code 121 = .ok (.aload_n 0, 1) := by decide +kernel
theorem d_G_answer_122 : decode prog_3_method_5_code 122 = .ok (.invokevirtual 90, 3) := by decide +kernel
theorem d_G_answer_125 : decode prog_3_method_5_code 125 = .ok (.ireturn, 1) := by decide +kernel
theorem d_G_answer_126 : decode prog_3_method_5_code 126 = .ok (.aload_n 0, 1) := by decide +kernel
theorem d_G_answer_127 : decode prog_3_method_5_code 127 = .ok (.iconst (-1), 1) := by decide +kernel
theorem d_G_answer_128 : decode prog_3_method_5_code 128 = .ok (.invokevirtual 86, 3) := by decide +kernel
theorem d_G_answer_131 : decode prog_3_method_5_code 131 = .ok (.ireturn, 1) := by decide +kernel
def m_G_answer_103 (G : Nat → Nat) (a0 : Nat) (h : hp_H) : Option (Int32 × hp_H) := (hp_gR h a0 7 0).bind fun x1 => (hp_gR h a0 7 4).bind fun x2 => (hp_vck h x1 1 (m_S_keepReckoned G x1 x2 h)).bind fun q3 => some (q3.1, q3.2)
set_option maxRecDepth 100000 in
set_option maxHeartbeats 4000000 in
theorem j_G_answer_103 {Z : hp_Z} (a0 : Nat) (h : hp_H) : hp_J Y_G_answer Z hp_rI h 103 [(0, .ref a0)] [] (m_G_answer_103 (hp_G Z)  a0 h) := by
  unfold m_G_answer_103
  refine hp_aload_n (x0 := 0) d_G_answer_103 rfl rfl ?_
  refine hp_getR fl_G_36 d_G_answer_104 fun x1 => ?_
  refine hp_aload_n (x0 := 0) d_G_answer_107 rfl rfl ?_
  refine hp_getR fl_G_28 d_G_answer_108 fun x2 => ?_
  refine hp_callI (hp_crV (ci := 1) (t_S_keepReckoned _ _ _ _) cw_G_78 rfl ⟨w_631, w_632⟩ (by decide) rfl rfl (Nat.le_of_ble_eq_true rfl) d_G_answer_111) fun q3 => ?_
  exact hp_iret d_G_answer_114 rfl
def m_G_answer (G : Nat → Nat) (a0 : Nat) (h : hp_H) : Option (Int32 × hp_H) := (hp_gI h a0 7 5).bind fun x1 => if x1 = 0 then ((hp_gR h a0 7 0).bind fun x2 => (hp_vck h a0 7 (m_G_countGood G a0 h)).bind fun q3 => (hp_vck q3.2 x2 1 (m_S_keepNumber G x2 (3 : Int32) q3.1.toInt64 (0 : Int32) q3.2)).bind fun q4 => some (q4.1, q4.2)) else (if x1 = 1 then ((hp_vck h a0 7 (m_G_reckonSum G a0 h)).bind fun q5 => (hp_gR q5.2 a0 7 0).bind fun x6 => (hp_gR q5.2 a0 7 4).bind fun x7 => (hp_vck q5.2 x6 1 (m_S_keepReckoned G x6 x7 q5.2)).bind fun q8 => some (q8.1, q8.2)) else (if x1 = 2 then ((hp_vck h a0 7 (m_G_outermost G a0 (-1 : Int32) h)).bind fun q9 => some (q9.1, q9.2)) else (if x1 = 3 then ((hp_vck h a0 7 (m_G_outermost G a0 (1 : Int32) h)).bind fun q10 => some (q10.1, q10.2)) else (if x1 = 4 then ((hp_vck h a0 7 (m_G_reckonSum G a0 h)).bind fun q11 => (hp_gI q11.2 a0 7 8).bind fun x12 => if x12 ≤ 0 then (m_G_answer_103 G a0 q11.2) else ((hp_gR q11.2 a0 7 4).bind fun x13 => (hp_gI q11.2 a0 7 8).bind fun x14 => (hp_vck q11.2 x13 6 (m_K_over G x13 x14.toInt64 (0 : Int32) q11.2)).bind fun q15 => m_G_answer_103 G a0 q15.2)) else (if x1 = 5 then ((hp_vck h a0 7 (m_G_outermost G a0 (-1 : Int32) h)).bind fun q16 => some (q16.1, q16.2)) else (if x1 = 6 then ((hp_vck h a0 7 (m_G_joined G a0 h)).bind fun q17 => some (q17.1, q17.2)) else ((hp_vck h a0 7 (m_G_outermost G a0 (-1 : Int32) h)).bind fun q18 => some (q18.1, q18.2))))))))
set_option maxRecDepth 100000 in
set_option maxHeartbeats 4000000 in
theorem j_G_answer_0 {Z : hp_Z} (a0 : Nat) (h : hp_H) : hp_J Y_G_answer Z hp_rI h 0 [(0, .ref a0)] [] (m_G_answer (hp_G Z)  a0 h) := by
  unfold m_G_answer
  refine hp_aload_n (x0 := 0) d_G_answer_0 rfl rfl ?_
  refine hp_getI fl_G_32 d_G_answer_1 fun x1 => ?_
  refine hp_ite (fun c0 => ?_) (fun c0 => ?_)
  · refine hp_tabI (tgt := 48) (kv := 0) d_G_answer_4 c0 (by decide) (by decide) rfl (by decide) ?_
    refine hp_aload_n (x0 := 0) d_G_answer_48 rfl rfl ?_
    refine hp_getR fl_G_36 d_G_answer_49 fun x2 => ?_
    refine hp_iconst (v := 3) d_G_answer_52 (by decide) ?_
    refine hp_aload_n (x0 := 0) d_G_answer_53 rfl rfl ?_
    refine hp_callI (hp_crV (ci := 7) (t_G_countGood _ _ _) cw_G_68 rfl ⟨w_813, ws_32⟩ (by decide) rfl rfl (Nat.le_of_ble_eq_true rfl) d_G_answer_54) fun q3 => ?_
    refine hp_i2l d_G_answer_57 ?_
    refine hp_iconst (v := 0) d_G_answer_58 (by decide) ?_
    refine hp_callI (hp_crV (ci := 1) (t_S_keepNumber _ _ _ _ _ _) cw_G_71 rfl ⟨w_282, w_283⟩ (by decide) rfl rfl (Nat.le_of_ble_eq_true rfl) d_G_answer_59) fun q4 => ?_
    exact hp_iret d_G_answer_62 rfl
  · skip
    refine hp_ite (fun c1 => ?_) (fun c1 => ?_)
    · refine hp_tabI (tgt := 63) (kv := 1) d_G_answer_4 c1 (by decide) (by decide) rfl (by decide) ?_
      refine hp_aload_n (x0 := 0) d_G_answer_63 rfl rfl ?_
      refine hp_callU (hp_crV (ci := 7) (t_G_reckonSum _ _ _) cw_G_75 rfl ⟨w_818, ws_33⟩ (by decide) rfl rfl (Nat.le_of_ble_eq_true rfl) d_G_answer_64) fun q5 => ?_
      refine hp_aload_n (x0 := 0) d_G_answer_67 rfl rfl ?_
      refine hp_getR fl_G_36 d_G_answer_68 fun x6 => ?_
      refine hp_aload_n (x0 := 0) d_G_answer_71 rfl rfl ?_
      refine hp_getR fl_G_28 d_G_answer_72 fun x7 => ?_
      refine hp_callI (hp_crV (ci := 1) (t_S_keepReckoned _ _ _ _) cw_G_78 rfl ⟨w_631, w_632⟩ (by decide) rfl rfl (Nat.le_of_ble_eq_true rfl) d_G_answer_75) fun q8 => ?_
      exact hp_iret d_G_answer_78 rfl
    · skip
      refine hp_ite (fun c2 => ?_) (fun c2 => ?_)
      · refine hp_tabI (tgt := 126) (kv := 2) d_G_answer_4 c2 (by decide) (by decide) rfl (by decide) ?_
        refine hp_aload_n (x0 := 0) d_G_answer_126 rfl rfl ?_
        refine hp_iconst (v := -1) d_G_answer_127 (by decide) ?_
        refine hp_callI (hp_crV (ci := 7) (t_G_outermost _ _ _ _) cw_G_86 rfl ⟨w_827, ws_34⟩ (by decide) rfl rfl (Nat.le_of_ble_eq_true rfl) d_G_answer_128) fun q9 => ?_
        exact hp_iret d_G_answer_131 rfl
      · skip
        refine hp_ite (fun c3 => ?_) (fun c3 => ?_)
        · refine hp_tabI (tgt := 115) (kv := 3) d_G_answer_4 c3 (by decide) (by decide) rfl (by decide) ?_
          refine hp_aload_n (x0 := 0) d_G_answer_115 rfl rfl ?_
          refine hp_iconst (v := 1) d_G_answer_116 (by decide) ?_
          refine hp_callI (hp_crV (ci := 7) (t_G_outermost _ _ _ _) cw_G_86 rfl ⟨w_827, ws_34⟩ (by decide) rfl rfl (Nat.le_of_ble_eq_true rfl) d_G_answer_117) fun q10 => ?_
          exact hp_iret d_G_answer_120 rfl
        · skip
          refine hp_ite (fun c4 => ?_) (fun c4 => ?_)
          · refine hp_tabI (tgt := 79) (kv := 4) d_G_answer_4 c4 (by decide) (by decide) rfl (by decide) ?_
            refine hp_aload_n (x0 := 0) d_G_answer_79 rfl rfl ?_
            refine hp_callU (hp_crV (ci := 7) (t_G_reckonSum _ _ _) cw_G_75 rfl ⟨w_818, ws_33⟩ (by decide) rfl rfl (Nat.le_of_ble_eq_true rfl) d_G_answer_80) fun q11 => ?_
            refine hp_aload_n (x0 := 0) d_G_answer_83 rfl rfl ?_
            refine hp_getI fl_G_58 d_G_answer_84 fun x12 => ?_
            refine hp_if_le (tgt := 103) d_G_answer_87 (by decide) ?_ ?_
            · exact j_G_answer_103  _ _
            · refine hp_aload_n (x0 := 0) d_G_answer_90 rfl rfl ?_
              refine hp_getR fl_G_28 d_G_answer_91 fun x13 => ?_
              refine hp_aload_n (x0 := 0) d_G_answer_94 rfl rfl ?_
              refine hp_getI fl_G_58 d_G_answer_95 fun x14 => ?_
              refine hp_i2l d_G_answer_98 ?_
              refine hp_iconst (v := 0) d_G_answer_99 (by decide) ?_
              refine hp_callU (hp_crV (ci := 6) (t_K_over _ _ _ _ _) cw_G_82 rfl ⟨w_626, w_627⟩ (by decide) rfl rfl (Nat.le_of_ble_eq_true rfl) d_G_answer_100) fun q15 => ?_
              exact j_G_answer_103  _ _
          · skip
            refine hp_ite (fun c5 => ?_) (fun c5 => ?_)
            · refine hp_tabI (tgt := 126) (kv := 5) d_G_answer_4 c5 (by decide) (by decide) rfl (by decide) ?_
              refine hp_aload_n (x0 := 0) d_G_answer_126 rfl rfl ?_
              refine hp_iconst (v := -1) d_G_answer_127 (by decide) ?_
              refine hp_callI (hp_crV (ci := 7) (t_G_outermost _ _ _ _) cw_G_86 rfl ⟨w_827, ws_34⟩ (by decide) rfl rfl (Nat.le_of_ble_eq_true rfl) d_G_answer_128) fun q16 => ?_
              exact hp_iret d_G_answer_131 rfl
            · skip
              refine hp_ite (fun c6 => ?_) (fun c6 => ?_)
              · refine hp_tabI (tgt := 121) (kv := 6) d_G_answer_4 c6 (by decide) (by decide) rfl (by decide) ?_
                refine hp_aload_n (x0 := 0) d_G_answer_121 rfl rfl ?_
                refine hp_callI (hp_crV (ci := 7) (t_G_joined _ _ _) cw_G_90 rfl ⟨w_832, ws_35⟩ (by decide) rfl rfl (Nat.le_of_ble_eq_true rfl) d_G_answer_122) fun q17 => ?_
                exact hp_iret d_G_answer_125 rfl
              · skip
                refine hp_tabD (tgt := 126) d_G_answer_4 (by have e0 := lv_neT c0 (a := 0) (by decide); have e1 := lv_neT c1 (a := 1) (by decide); have e2 := lv_neT c2 (a := 2) (by decide); have e3 := lv_neT c3 (a := 3) (by decide); have e4 := lv_neT c4 (a := 4) (by decide); have e5 := lv_neT c5 (a := 5) (by decide); have e6 := lv_neT c6 (a := 6) (by decide); omega) (by decide) ?_
                refine hp_aload_n (x0 := 0) d_G_answer_126 rfl rfl ?_
                refine hp_iconst (v := -1) d_G_answer_127 (by decide) ?_
                refine hp_callI (hp_crV (ci := 7) (t_G_outermost _ _ _ _) cw_G_86 rfl ⟨w_827, ws_34⟩ (by decide) rfl rfl (Nat.le_of_ble_eq_true rfl) d_G_answer_128) fun q18 => ?_
                exact hp_iret d_G_answer_131 rfl
theorem t_G_answer (l : Launch) (E : hp_E) (a0 : Nat) : hp_M l E y_G_answer Y_G_answer hp_rI [.ref a0] (m_G_answer E.2.2.1 a0) := hp_M.of (plainFor_of_name (by decide)) ⟨rfl, rfl⟩ (Nat.le_of_ble_eq_true rfl) (fun Z h hE => by subst hE; exact j_G_answer_0 _ h)
-- D_together
theorem d_D_together_0 : decode prog_1_method_20_code 0 = .ok (.aload_n 0, 1) := by decide +kernel
theorem d_D_together_1 : decode prog_1_method_20_code 1 = .ok (.getfield 35, 3) := by decide +kernel
theorem d_D_together_4 : decode prog_1_method_20_code 4 = .ok (.invokevirtual 133, 3) := by decide +kernel
theorem d_D_together_7 : decode prog_1_method_20_code 7 = .ok (.ireturn, 1) := by decide +kernel
def m_D_together (G : Nat → Nat) (a0 : Nat) (h : hp_H) : Option (Int32 × hp_H) := (hp_gR h a0 0 3).bind fun x1 => (hp_vck h x1 7 (m_G_answer G x1 h)).bind fun q2 => some (q2.1, q2.2)
set_option maxRecDepth 100000 in
set_option maxHeartbeats 4000000 in
theorem j_D_together_0 {Z : hp_Z} (a0 : Nat) (h : hp_H) : hp_J Y_D_together Z hp_rI h 0 [(0, .ref a0)] [] (m_D_together (hp_G Z)  a0 h) := by
  unfold m_D_together
  refine hp_aload_n (x0 := 0) d_D_together_0 rfl rfl ?_
  refine hp_getR fl_D_35 d_D_together_1 fun x1 => ?_
  refine hp_callI (hp_crV (ci := 7) (t_G_answer _ _ _) cw_D_133 rfl ⟨w_808, w_809⟩ (by decide) rfl rfl (Nat.le_of_ble_eq_true rfl) d_D_together_4) fun q2 => ?_
  exact hp_iret d_D_together_7 rfl
theorem t_D_together (l : Launch) (E : hp_E) (a0 : Nat) : hp_M l E y_D_together Y_D_together hp_rI [.ref a0] (m_D_together E.2.2.1 a0) := hp_M.of (plainFor_of_name (by decide)) ⟨rfl, rfl⟩ (Nat.le_of_ble_eq_true rfl) (fun Z h hE => by subst hE; exact j_D_together_0 _ h)
-- M_init
theorem d_M_init_0 : decode prog_9_method_1_code 0 = .ok (.aload_n 0, 1) := by decide +kernel
theorem d_M_init_1 : decode prog_9_method_1_code 1 = .ok (.invokespecial 1, 3) := by decide +kernel
theorem d_M_init_4 : decode prog_9_method_1_code 4 = .ok (.aload_n 0, 1) := by decide +kernel
theorem d_M_init_5 : decode prog_9_method_1_code 5 = .ok (.sipush 2001, 3) := by decide +kernel
theorem d_M_init_8 : decode prog_9_method_1_code 8 = .ok (.newarray .int, 2) := by decide +kernel
theorem d_M_init_10 : decode prog_9_method_1_code 10 = .ok (.putfield 7, 3) := by decide +kernel
theorem d_M_init_13 : decode prog_9_method_1_code 13 = .ok (.aload_n 0, 1) := by decide +kernel
theorem d_M_init_14 : decode prog_9_method_1_code 14 = .ok (.sipush 2001, 3) := by decide +kernel
theorem d_M_init_17 : decode prog_9_method_1_code 17 = .ok (.newarray .int, 2) := by decide +kernel
theorem d_M_init_19 : decode prog_9_method_1_code 19 = .ok (.putfield 13, 3) := by decide +kernel
theorem d_M_init_22 : decode prog_9_method_1_code 22 = .ok (.aload_n 0, 1) := by decide +kernel
theorem d_M_init_23 : decode prog_9_method_1_code 23 = .ok (.sipush 2001, 3) := by decide +kernel
theorem d_M_init_26 : decode prog_9_method_1_code 26 = .ok (.newarray .int, 2) := by decide +kernel
theorem d_M_init_28 : decode prog_9_method_1_code 28 = .ok (.putfield 16, 3) := by decide +kernel
theorem d_M_init_31 : decode prog_9_method_1_code 31 = .ok (.aload_n 0, 1) := by decide +kernel
theorem d_M_init_32 : decode prog_9_method_1_code 32 = .ok (.sipush 2001, 3) := by decide +kernel
theorem d_M_init_35 : decode prog_9_method_1_code 35 = .ok (.newarray .int, 2) := by decide +kernel
theorem d_M_init_37 : decode prog_9_method_1_code 37 = .ok (.putfield 19, 3) := by decide +kernel
theorem d_M_init_40 : decode prog_9_method_1_code 40 = .ok (.aload_n 0, 1) := by decide +kernel
theorem d_M_init_41 : decode prog_9_method_1_code 41 = .ok (.ldc 22, 2) := by decide +kernel
theorem d_M_init_43 : decode prog_9_method_1_code 43 = .ok (.newarray .int, 2) := by decide +kernel
theorem d_M_init_45 : decode prog_9_method_1_code 45 = .ok (.putfield 23, 3) := by decide +kernel
theorem d_M_init_48 : decode prog_9_method_1_code 48 = .ok (.aload_n 0, 1) := by decide +kernel
theorem d_M_init_49 : decode prog_9_method_1_code 49 = .ok (.sipush 2001, 3) := by decide +kernel
theorem d_M_init_52 : decode prog_9_method_1_code 52 = .ok (.newarray .int, 2) := by decide +kernel
theorem d_M_init_54 : decode prog_9_method_1_code 54 = .ok (.putfield 26, 3) := by decide +kernel
theorem d_M_init_57 : decode prog_9_method_1_code 57 = .ok (.aload_n 0, 1) := by decide +kernel
theorem d_M_init_58 : decode prog_9_method_1_code 58 = .ok (.ldc 29, 2) := by decide +kernel
theorem d_M_init_60 : decode prog_9_method_1_code 60 = .ok (.newarray .int, 2) := by decide +kernel
theorem d_M_init_62 : decode prog_9_method_1_code 62 = .ok (.putfield 30, 3) := by decide +kernel
theorem d_M_init_65 : decode prog_9_method_1_code 65 = .ok (.aload_n 0, 1) := by decide +kernel
theorem d_M_init_66 : decode prog_9_method_1_code 66 = .ok (.bipush 64, 2) := by decide +kernel
theorem d_M_init_68 : decode prog_9_method_1_code 68 = .ok (.newarray .int, 2) := by decide +kernel
theorem d_M_init_70 : decode prog_9_method_1_code 70 = .ok (.putfield 33, 3) := by decide +kernel
theorem d_M_init_73 : decode prog_9_method_1_code 73 = .ok (.aload_n 0, 1) := by decide +kernel
theorem d_M_init_74 : decode prog_9_method_1_code 74 = .ok (.bipush 18, 2) := by decide +kernel
theorem d_M_init_76 : decode prog_9_method_1_code 76 = .ok (.newarray .int, 2) := by decide +kernel
theorem d_M_init_78 : decode prog_9_method_1_code 78 = .ok (.putfield 36, 3) := by decide +kernel
theorem d_M_init_81 : decode prog_9_method_1_code 81 = .ok (.aload_n 0, 1) := by decide +kernel
theorem d_M_init_82 : decode prog_9_method_1_code 82 = .ok (.bipush 64, 2) := by decide +kernel
theorem d_M_init_84 : decode prog_9_method_1_code 84 = .ok (.newarray .int, 2) := by decide +kernel
theorem d_M_init_86 : decode prog_9_method_1_code 86 = .ok (.putfield 39, 3) := by decide +kernel
theorem d_M_init_89 : decode prog_9_method_1_code 89 = .ok (.aload_n 0, 1) := by decide +kernel
theorem d_M_init_90 : decode prog_9_method_1_code 90 = .ok (.bipush 64, 2) := by decide +kernel
theorem d_M_init_92 : decode prog_9_method_1_code 92 = .ok (.newarray .int, 2) := by decide +kernel
theorem d_M_init_94 : decode prog_9_method_1_code 94 = .ok (.putfield 42, 3) := by decide +kernel
theorem d_M_init_97 : decode prog_9_method_1_code 97 = .ok (.aload_n 0, 1) := by decide +kernel
theorem d_M_init_98 : decode prog_9_method_1_code 98 = .ok (.bipush 64, 2) := by decide +kernel
theorem d_M_init_100 : decode prog_9_method_1_code 100 = .ok (.newarray .int, 2) := by decide +kernel
theorem d_M_init_102 : decode prog_9_method_1_code 102 = .ok (.putfield 45, 3) := by decide +kernel
theorem d_M_init_105 : decode prog_9_method_1_code 105 = .ok (.aload_n 0, 1) := by decide +kernel
theorem d_M_init_106 : decode prog_9_method_1_code 106 = .ok (.bipush 64, 2) := by decide +kernel
theorem d_M_init_108 : decode prog_9_method_1_code 108 = .ok (.newarray .int, 2) := by decide +kernel
theorem d_M_init_110 : decode prog_9_method_1_code 110 = .ok (.putfield 48, 3) := by decide +kernel
theorem d_M_init_113 : decode prog_9_method_1_code 113 = .ok (.aload_n 0, 1) := by decide +kernel
theorem d_M_init_114 : decode prog_9_method_1_code 114 = .ok (.bipush 100, 2) := by decide +kernel
theorem d_M_init_116 : decode prog_9_method_1_code 116 = .ok (.newarray .int, 2) := by decide +kernel
theorem d_M_init_118 : decode prog_9_method_1_code 118 = .ok (.putfield 51, 3) := by decide +kernel
theorem d_M_init_121 : decode prog_9_method_1_code 121 = .ok (.aload_n 0, 1) := by decide +kernel
theorem d_M_init_122 : decode prog_9_method_1_code 122 = .ok (.bipush 100, 2) := by decide +kernel
theorem d_M_init_124 : decode prog_9_method_1_code 124 = .ok (.newarray .int, 2) := by decide +kernel
theorem d_M_init_126 : decode prog_9_method_1_code 126 = .ok (.putfield 54, 3) := by decide +kernel
theorem d_M_init_129 : decode prog_9_method_1_code 129 = .ok (.aload_n 0, 1) := by decide +kernel
theorem d_M_init_130 : decode prog_9_method_1_code 130 = .ok (.bipush 10, 2) := by decide +kernel
theorem d_M_init_132 : decode prog_9_method_1_code 132 = .ok (.newarray .int, 2) := by decide +kernel
theorem d_M_init_134 : decode prog_9_method_1_code 134 = .ok (.putfield 57, 3) := by decide +kernel
theorem d_M_init_137 : decode prog_9_method_1_code 137 = .ok (.aload_n 0, 1) := by decide +kernel
theorem d_M_init_138 : decode prog_9_method_1_code 138 = .ok (.bipush 102, 2) := by decide +kernel
theorem d_M_init_140 : decode prog_9_method_1_code 140 = .ok (.newarray .int, 2) := by decide +kernel
theorem d_M_init_142 : decode prog_9_method_1_code 142 = .ok (.putfield 60, 3) := by decide +kernel
theorem d_M_init_145 : decode prog_9_method_1_code 145 = .ok (.aload_n 0, 1) := by decide +kernel
theorem d_M_init_146 : decode prog_9_method_1_code 146 = .ok (.sipush 500, 3) := by decide +kernel
theorem d_M_init_149 : decode prog_9_method_1_code 149 = .ok (.newarray .int, 2) := by decide +kernel
theorem d_M_init_151 : decode prog_9_method_1_code 151 = .ok (.putfield 63, 3) := by decide +kernel
theorem d_M_init_154 : decode prog_9_method_1_code 154 = .ok (.aload_n 0, 1) := by decide +kernel
theorem d_M_init_155 : decode prog_9_method_1_code 155 = .ok (.bipush 64, 2) := by decide +kernel
theorem d_M_init_157 : decode prog_9_method_1_code 157 = .ok (.newarray .int, 2) := by decide +kernel
theorem d_M_init_159 : decode prog_9_method_1_code 159 = .ok (.putfield 66, 3) := by decide +kernel
theorem d_M_init_162 : decode prog_9_method_1_code 162 = .ok (.aload_n 0, 1) := by decide +kernel
theorem d_M_init_163 : decode prog_9_method_1_code 163 = .ok (.sipush 500, 3) := by decide +kernel
theorem d_M_init_166 : decode prog_9_method_1_code 166 = .ok (.newarray .int, 2) := by decide +kernel
theorem d_M_init_168 : decode prog_9_method_1_code 168 = .ok (.putfield 69, 3) := by decide +kernel
theorem d_M_init_171 : decode prog_9_method_1_code 171 = .ok (.return_, 1) := by decide +kernel
def m_M_init (G : Nat → Nat) (a0 : Nat) (h : hp_H) : Option (Unit × hp_H) := hp_naK h .int (2001 : Int32) (.inl fun _ => 0) fun o1 h2 => (hp_p h2 a0 8 1 (.ref o1)).bind fun h3 => hp_naK h3 .int (2001 : Int32) (.inl fun _ => 0) fun o4 h5 => (hp_p h5 a0 8 2 (.ref o4)).bind fun h6 => hp_naK h6 .int (2001 : Int32) (.inl fun _ => 0) fun o7 h8 => (hp_p h8 a0 8 3 (.ref o7)).bind fun h9 => hp_naK h9 .int (2001 : Int32) (.inl fun _ => 0) fun o10 h11 => (hp_p h11 a0 8 4 (.ref o10)).bind fun h12 => hp_naK h12 .int (36018 : Int32) (.inl fun _ => 0) fun o13 h14 => (hp_p h14 a0 8 5 (.ref o13)).bind fun h15 => hp_naK h15 .int (2001 : Int32) (.inl fun _ => 0) fun o16 h17 => (hp_p h17 a0 8 6 (.ref o16)).bind fun h18 => hp_naK h18 .int (128064 : Int32) (.inl fun _ => 0) fun o19 h20 => (hp_p h20 a0 8 7 (.ref o19)).bind fun h21 => hp_naK h21 .int (64 : Int32) (.inl fun _ => 0) fun o22 h23 => (hp_p h23 a0 8 8 (.ref o22)).bind fun h24 => hp_naK h24 .int (18 : Int32) (.inl fun _ => 0) fun o25 h26 => (hp_p h26 a0 8 14 (.ref o25)).bind fun h27 => hp_naK h27 .int (64 : Int32) (.inl fun _ => 0) fun o28 h29 => (hp_p h29 a0 8 15 (.ref o28)).bind fun h30 => hp_naK h30 .int (64 : Int32) (.inl fun _ => 0) fun o31 h32 => (hp_p h32 a0 8 17 (.ref o31)).bind fun h33 => hp_naK h33 .int (64 : Int32) (.inl fun _ => 0) fun o34 h35 => (hp_p h35 a0 8 18 (.ref o34)).bind fun h36 => hp_naK h36 .int (64 : Int32) (.inl fun _ => 0) fun o37 h38 => (hp_p h38 a0 8 19 (.ref o37)).bind fun h39 => hp_naK h39 .int (100 : Int32) (.inl fun _ => 0) fun o40 h41 => (hp_p h41 a0 8 20 (.ref o40)).bind fun h42 => hp_naK h42 .int (100 : Int32) (.inl fun _ => 0) fun o43 h44 => (hp_p h44 a0 8 21 (.ref o43)).bind fun h45 => hp_naK h45 .int (10 : Int32) (.inl fun _ => 0) fun o46 h47 => (hp_p h47 a0 8 23 (.ref o46)).bind fun h48 => hp_naK h48 .int (102 : Int32) (.inl fun _ => 0) fun o49 h50 => (hp_p h50 a0 8 24 (.ref o49)).bind fun h51 => hp_naK h51 .int (500 : Int32) (.inl fun _ => 0) fun o52 h53 => (hp_p h53 a0 8 25 (.ref o52)).bind fun h54 => hp_naK h54 .int (64 : Int32) (.inl fun _ => 0) fun o55 h56 => (hp_p h56 a0 8 30 (.ref o55)).bind fun h57 => hp_naK h57 .int (500 : Int32) (.inl fun _ => 0) fun o58 h59 => (hp_p h59 a0 8 33 (.ref o58)).bind fun h60 => some ((), h60)
set_option maxRecDepth 100000 in
set_option maxHeartbeats 4000000 in
theorem j_M_init_0 {Z : hp_Z} (a0 : Nat) (h : hp_H) : hp_J Y_M_init Z hp_rV h 0 [(0, .ref a0)] [] (m_M_init (hp_G Z)  a0 h) := by
  unfold m_M_init
  refine hp_aload_n (x0 := 0) d_M_init_0 rfl rfl ?_
  refine hp_objInit ⟨w_851, w_29, w_30⟩ (by decide) (Nat.le_of_ble_eq_true rfl) d_M_init_1 ?_
  refine hp_aload_n (x0 := 0) d_M_init_4 rfl rfl ?_
  refine hp_sipush (v := 2001) d_M_init_5 (by decide) ?_
  refine hp_newA w_115 rfl (fun _ => rfl) d_M_init_8 fun o1 h2 => ?_
  refine hp_put fl_M_7 (fun _ => ⟨rfl, fun _ q => by cases q; rfl⟩) rfl rfl d_M_init_10 fun h3 => ?_
  refine hp_aload_n (x0 := 0) d_M_init_13 rfl rfl ?_
  refine hp_sipush (v := 2001) d_M_init_14 (by decide) ?_
  refine hp_newA w_115 rfl (fun _ => rfl) d_M_init_17 fun o4 h5 => ?_
  refine hp_put fl_M_13 (fun _ => ⟨rfl, fun _ q => by cases q; rfl⟩) rfl rfl d_M_init_19 fun h6 => ?_
  refine hp_aload_n (x0 := 0) d_M_init_22 rfl rfl ?_
  refine hp_sipush (v := 2001) d_M_init_23 (by decide) ?_
  refine hp_newA w_115 rfl (fun _ => rfl) d_M_init_26 fun o7 h8 => ?_
  refine hp_put fl_M_16 (fun _ => ⟨rfl, fun _ q => by cases q; rfl⟩) rfl rfl d_M_init_28 fun h9 => ?_
  refine hp_aload_n (x0 := 0) d_M_init_31 rfl rfl ?_
  refine hp_sipush (v := 2001) d_M_init_32 (by decide) ?_
  refine hp_newA w_115 rfl (fun _ => rfl) d_M_init_35 fun o10 h11 => ?_
  refine hp_put fl_M_19 (fun _ => ⟨rfl, fun _ q => by cases q; rfl⟩) rfl rfl d_M_init_37 fun h12 => ?_
  refine hp_aload_n (x0 := 0) d_M_init_40 rfl rfl ?_
  refine hp_ldc (v := 36018) d_M_init_41 w_852 ?_
  refine hp_newA w_115 rfl (fun _ => rfl) d_M_init_43 fun o13 h14 => ?_
  refine hp_put fl_M_23 (fun _ => ⟨rfl, fun _ q => by cases q; rfl⟩) rfl rfl d_M_init_45 fun h15 => ?_
  refine hp_aload_n (x0 := 0) d_M_init_48 rfl rfl ?_
  refine hp_sipush (v := 2001) d_M_init_49 (by decide) ?_
  refine hp_newA w_115 rfl (fun _ => rfl) d_M_init_52 fun o16 h17 => ?_
  refine hp_put fl_M_26 (fun _ => ⟨rfl, fun _ q => by cases q; rfl⟩) rfl rfl d_M_init_54 fun h18 => ?_
  refine hp_aload_n (x0 := 0) d_M_init_57 rfl rfl ?_
  refine hp_ldc (v := 128064) d_M_init_58 w_853 ?_
  refine hp_newA w_115 rfl (fun _ => rfl) d_M_init_60 fun o19 h20 => ?_
  refine hp_put fl_M_30 (fun _ => ⟨rfl, fun _ q => by cases q; rfl⟩) rfl rfl d_M_init_62 fun h21 => ?_
  refine hp_aload_n (x0 := 0) d_M_init_65 rfl rfl ?_
  refine hp_bipush (v := 64) d_M_init_66 (by decide) ?_
  refine hp_newA w_115 rfl (fun _ => rfl) d_M_init_68 fun o22 h23 => ?_
  refine hp_put fl_M_33 (fun _ => ⟨rfl, fun _ q => by cases q; rfl⟩) rfl rfl d_M_init_70 fun h24 => ?_
  refine hp_aload_n (x0 := 0) d_M_init_73 rfl rfl ?_
  refine hp_bipush (v := 18) d_M_init_74 (by decide) ?_
  refine hp_newA w_115 rfl (fun _ => rfl) d_M_init_76 fun o25 h26 => ?_
  refine hp_put fl_M_36 (fun _ => ⟨rfl, fun _ q => by cases q; rfl⟩) rfl rfl d_M_init_78 fun h27 => ?_
  refine hp_aload_n (x0 := 0) d_M_init_81 rfl rfl ?_
  refine hp_bipush (v := 64) d_M_init_82 (by decide) ?_
  refine hp_newA w_115 rfl (fun _ => rfl) d_M_init_84 fun o28 h29 => ?_
  refine hp_put fl_M_39 (fun _ => ⟨rfl, fun _ q => by cases q; rfl⟩) rfl rfl d_M_init_86 fun h30 => ?_
  refine hp_aload_n (x0 := 0) d_M_init_89 rfl rfl ?_
  refine hp_bipush (v := 64) d_M_init_90 (by decide) ?_
  refine hp_newA w_115 rfl (fun _ => rfl) d_M_init_92 fun o31 h32 => ?_
  refine hp_put fl_M_42 (fun _ => ⟨rfl, fun _ q => by cases q; rfl⟩) rfl rfl d_M_init_94 fun h33 => ?_
  refine hp_aload_n (x0 := 0) d_M_init_97 rfl rfl ?_
  refine hp_bipush (v := 64) d_M_init_98 (by decide) ?_
  refine hp_newA w_115 rfl (fun _ => rfl) d_M_init_100 fun o34 h35 => ?_
  refine hp_put fl_M_45 (fun _ => ⟨rfl, fun _ q => by cases q; rfl⟩) rfl rfl d_M_init_102 fun h36 => ?_
  refine hp_aload_n (x0 := 0) d_M_init_105 rfl rfl ?_
  refine hp_bipush (v := 64) d_M_init_106 (by decide) ?_
  refine hp_newA w_115 rfl (fun _ => rfl) d_M_init_108 fun o37 h38 => ?_
  refine hp_put fl_M_48 (fun _ => ⟨rfl, fun _ q => by cases q; rfl⟩) rfl rfl d_M_init_110 fun h39 => ?_
  refine hp_aload_n (x0 := 0) d_M_init_113 rfl rfl ?_
  refine hp_bipush (v := 100) d_M_init_114 (by decide) ?_
  refine hp_newA w_115 rfl (fun _ => rfl) d_M_init_116 fun o40 h41 => ?_
  refine hp_put fl_M_51 (fun _ => ⟨rfl, fun _ q => by cases q; rfl⟩) rfl rfl d_M_init_118 fun h42 => ?_
  refine hp_aload_n (x0 := 0) d_M_init_121 rfl rfl ?_
  refine hp_bipush (v := 100) d_M_init_122 (by decide) ?_
  refine hp_newA w_115 rfl (fun _ => rfl) d_M_init_124 fun o43 h44 => ?_
  refine hp_put fl_M_54 (fun _ => ⟨rfl, fun _ q => by cases q; rfl⟩) rfl rfl d_M_init_126 fun h45 => ?_
  refine hp_aload_n (x0 := 0) d_M_init_129 rfl rfl ?_
  refine hp_bipush (v := 10) d_M_init_130 (by decide) ?_
  refine hp_newA w_115 rfl (fun _ => rfl) d_M_init_132 fun o46 h47 => ?_
  refine hp_put fl_M_57 (fun _ => ⟨rfl, fun _ q => by cases q; rfl⟩) rfl rfl d_M_init_134 fun h48 => ?_
  refine hp_aload_n (x0 := 0) d_M_init_137 rfl rfl ?_
  refine hp_bipush (v := 102) d_M_init_138 (by decide) ?_
  refine hp_newA w_115 rfl (fun _ => rfl) d_M_init_140 fun o49 h50 => ?_
  refine hp_put fl_M_60 (fun _ => ⟨rfl, fun _ q => by cases q; rfl⟩) rfl rfl d_M_init_142 fun h51 => ?_
  refine hp_aload_n (x0 := 0) d_M_init_145 rfl rfl ?_
  refine hp_sipush (v := 500) d_M_init_146 (by decide) ?_
  refine hp_newA w_115 rfl (fun _ => rfl) d_M_init_149 fun o52 h53 => ?_
  refine hp_put fl_M_63 (fun _ => ⟨rfl, fun _ q => by cases q; rfl⟩) rfl rfl d_M_init_151 fun h54 => ?_
  refine hp_aload_n (x0 := 0) d_M_init_154 rfl rfl ?_
  refine hp_bipush (v := 64) d_M_init_155 (by decide) ?_
  refine hp_newA w_115 rfl (fun _ => rfl) d_M_init_157 fun o55 h56 => ?_
  refine hp_put fl_M_66 (fun _ => ⟨rfl, fun _ q => by cases q; rfl⟩) rfl rfl d_M_init_159 fun h57 => ?_
  refine hp_aload_n (x0 := 0) d_M_init_162 rfl rfl ?_
  refine hp_sipush (v := 500) d_M_init_163 (by decide) ?_
  refine hp_newA w_115 rfl (fun _ => rfl) d_M_init_166 fun o58 h59 => ?_
  refine hp_put fl_M_69 (fun _ => ⟨rfl, fun _ q => by cases q; rfl⟩) rfl rfl d_M_init_168 fun h60 => ?_
  exact hp_vret d_M_init_171 rfl
theorem t_M_init (l : Launch) (E : hp_E) (a0 : Nat) : hp_M l E y_M_init Y_M_init hp_rV [.ref a0] (m_M_init E.2.2.1 a0) := hp_M.of (plainFor_of_name (by decide)) ⟨rfl, rfl⟩ (Nat.le_of_ble_eq_true rfl) (fun Z h hE => by subst hE; exact j_M_init_0 _ h)
