-- M_average
theorem d_M_average_0 : decode prog_9_method_77_code 0 = .ok (.aload_n 0, 1) := by decide +kernel
theorem d_M_average_1 : decode prog_9_method_77_code 1 = .ok (.invokevirtual 340, 3) := by decide +kernel
theorem d_M_average_4 : decode prog_9_method_77_code 4 = .ok (.ifCond .ne 6, 3) := by decide +kernel
theorem d_M_average_7 : decode prog_9_method_77_code 7 = .ok (.bipush (-4), 2) := by decide +kernel
theorem d_M_average_9 : decode prog_9_method_77_code 9 = .ok (.ireturn, 1) := by decide +kernel
theorem d_M_average_10 : decode prog_9_method_77_code 10 = .ok (.aload_n 0, 1) := by decide +kernel
theorem d_M_average_11 : decode prog_9_method_77_code 11 = .ok (.getfield 328, 3) := by decide +kernel
theorem d_M_average_14 : decode prog_9_method_77_code 14 = .ok (.ifCond .ne 11, 3) := by decide +kernel
theorem d_M_average_17 : decode prog_9_method_77_code 17 = .ok (.aload_n 0, 1) := by decide +kernel
theorem d_M_average_18 : decode prog_9_method_77_code 18 = .ok (.lconst 0, 1) := by decide +kernel
theorem d_M_average_19 : decode prog_9_method_77_code 19 = .ok (.iconst 0, 1) := by decide +kernel
theorem d_M_average_20 : decode prog_9_method_77_code 20 = .ok (.iconst 1, 1) := by decide +kernel
theorem d_M_average_21 : decode prog_9_method_77_code 21 = .ok (.invokevirtual 153, 3) := by decide +kernel
theorem d_M_average_24 : decode prog_9_method_77_code 24 = .ok (.ireturn, 1) := by decide +kernel
theorem d_M_average_25 : decode prog_9_method_77_code 25 = .ok (.aload_n 0, 1) := by decide +kernel
theorem d_M_average_26 : decode prog_9_method_77_code 26 = .ok (.getfield 48, 3) := by decide +kernel
theorem d_M_average_29 : decode prog_9_method_77_code 29 = .ok (.invokestatic 95, 3) := by decide +kernel
theorem d_M_average_32 : decode prog_9_method_77_code 32 = .ok (.iconst 0, 1) := by decide +kernel
theorem d_M_average_33 : decode prog_9_method_77_code 33 = .ok (.istore_n 1, 1) := by decide +kernel
theorem d_M_average_34 : decode prog_9_method_77_code 34 = .ok (.bipush 63, 2) := by decide +kernel
theorem d_M_average_36 : decode prog_9_method_77_code 36 = .ok (.istore_n 2, 1) := by decide +kernel
theorem d_M_average_37 : decode prog_9_method_77_code 37 = .ok (.iload_n 2, 1) := by decide +kernel
theorem d_M_average_38 : decode prog_9_method_77_code 38 = .ok (.ifCond .lt 40, 3) := by decide +kernel
theorem d_M_average_41 : decode prog_9_method_77_code 41 = .ok (.bipush 10, 2) := by decide +kernel
theorem d_M_average_43 : decode prog_9_method_77_code 43 = .ok (.iload_n 1, 1) := by decide +kernel
theorem d_M_average_44 : decode prog_9_method_77_code 44 = .ok (.imul, 1) := by decide +kernel
theorem d_M_average_45 : decode prog_9_method_77_code 45 = .ok (.aload_n 0, 1) := by decide +kernel
theorem d_M_average_46 : decode prog_9_method_77_code 46 = .ok (.getfield 66, 3) := by decide +kernel
theorem d_M_average_49 : decode prog_9_method_77_code 49 = .ok (.iload_n 2, 1) := by decide +kernel
theorem d_M_average_50 : decode prog_9_method_77_code 50 = .ok (.iaload, 1) := by decide +kernel
theorem d_M_average_51 : decode prog_9_method_77_code 51 = .ok (.iadd, 1) := by decide +kernel
theorem d_M_average_52 : decode prog_9_method_77_code 52 = .ok (.istore_n 1, 1) := by decide +kernel
theorem d_M_average_53 : decode prog_9_method_77_code 53 = .ok (.aload_n 0, 1) := by decide +kernel
theorem d_M_average_54 : decode prog_9_method_77_code 54 = .ok (.getfield 48, 3) := by decide +kernel
theorem d_M_average_57 : decode prog_9_method_77_code 57 = .ok (.iload_n 2, 1) := by decide +kernel
theorem d_M_average_58 : decode prog_9_method_77_code 58 = .ok (.iload_n 1, 1) := by decide +kernel
theorem d_M_average_59 : decode prog_9_method_77_code 59 = .ok (.aload_n 0, 1) := by decide +kernel
theorem d_M_average_60 : decode prog_9_method_77_code 60 = .ok (.getfield 328, 3) := by decide +kernel
theorem d_M_average_63 : decode prog_9_method_77_code 63 = .ok (.idiv, 1) := by decide +kernel
theorem d_M_average_64 : decode prog_9_method_77_code 64 = .ok (.iastore, 1) := by decide +kernel
theorem d_M_average_65 : decode prog_9_method_77_code 65 = .ok (.iload_n 1, 1) := by decide +kernel
theorem d_M_average_66 : decode prog_9_method_77_code 66 = .ok (.aload_n 0, 1) := by decide +kernel
theorem d_M_average_67 : decode prog_9_method_77_code 67 = .ok (.getfield 328, 3) := by decide +kernel
theorem d_M_average_70 : decode prog_9_method_77_code 70 = .ok (.irem, 1) := by decide +kernel
theorem d_M_average_71 : decode prog_9_method_77_code 71 = .ok (.istore_n 1, 1) := by decide +kernel
theorem d_M_average_72 : decode prog_9_method_77_code 72 = .ok (.iinc 2 (-1), 3) := by decide +kernel
theorem d_M_average_75 : decode prog_9_method_77_code 75 = .ok (.goto (-38), 3) := by decide +kernel
theorem d_M_average_78 : decode prog_9_method_77_code 78 = .ok (.aload_n 0, 1) := by decide +kernel
theorem d_M_average_79 : decode prog_9_method_77_code 79 = .ok (.getfield 48, 3) := by decide +kernel
theorem d_M_average_82 : decode prog_9_method_77_code 82 = .ok (.invokestatic 135, 3) := by decide +kernel
theorem d_M_average_85 : decode prog_9_method_77_code 85 = .ok (.aload_n 0, 1) := by decide +kernel
theorem d_M_average_86 : decode prog_9_method_77_code 86 = .ok (.aload_n 0, 1) := by decide +kernel
theorem d_M_average_87 : decode prog_9_method_77_code 87 = .ok (.getfield 48, 3) := by decide +kernel
theorem d_M_average_90 : decode prog_9_method_77_code 90 = .ok (.aload_n 0, 1) := by decide +kernel
theorem d_M_average_91 : decode prog_9_method_77_code 91 = .ok (.getfield 331, 3) := by decide +kernel
theorem d_M_average_94 : decode prog_9_method_77_code 94 = .ok (.iconst 0, 1) := by decide +kernel
theorem d_M_average_95 : decode prog_9_method_77_code 95 = .ok (.invokevirtual 127, 3) := by decide +kernel
theorem d_M_average_98 : decode prog_9_method_77_code 98 = .ok (.ireturn, 1) := by decide +kernel
def m_M_average_37 (G : Nat → Nat) : Nat → Nat → Int32 → Int32 → hp_H → Option (Int32 × hp_H)
  | 0, _, _, _, _ => none
  | n + 1, a0, a1, a2, h => if a2 < 0 then ((hp_gR h a0 8 19).bind fun x1 => (m_M_round G x1 h).bind fun q2 => (hp_gR q2.2 a0 8 19).bind fun x3 => (hp_gI q2.2 a0 8 31).bind fun x4 => (hp_vck q2.2 a0 8 (m_M_number G a0 x3 x4 (0 : Int32) q2.2)).bind fun q5 => some (q5.1, q5.2)) else ((hp_gR h a0 8 30).bind fun x6 => (hp_aI h .int x6 a2).bind fun x7 => hp_nm (((10 : Int32) * a1) + x7) fun x8 => (hp_gR h a0 8 19).bind fun x9 => (hp_gI h a0 8 26).bind fun x10 => (hp_dI x8 x10).bind fun x11 => (hp_sI h .int x9 a2 x11).bind fun h12 => (hp_gI h12 a0 8 26).bind fun x13 => (hp_mI x8 x13).bind fun x14 => hp_nm x14 fun x15 => hp_nm (a2 + (-1)) fun x16 => (m_M_average_37 G  n) a0 x15 x16 h12)
set_option maxRecDepth 100000 in
set_option maxHeartbeats 4000000 in
theorem j_M_average_37 {Z : hp_Z} : ∀ (n : Nat) (a0 : Nat) (a1 : Int32) (a2 : Int32) (h : hp_H), hp_J Y_M_average Z hp_rI h 37 [(0, .ref a0), (1, .int a1), (2, .int a2)] [] (m_M_average_37 (hp_G Z)  n a0 a1 a2 h) := by
  intro n
  induction n with
  | zero => intro a0 a1 a2 h; exact hp_fail
  | succ n ih =>
    intro a0 a1 a2 h
    rw [m_M_average_37]
    refine hp_iload_n (x0 := 2) d_M_average_37 rfl rfl ?_
    refine hp_if_lt (tgt := 78) d_M_average_38 (by decide) ?_ ?_
    · refine hp_aload_n (x0 := 0) d_M_average_78 rfl rfl ?_
      refine hp_getR fl_M_48 d_M_average_79 fun x1 => ?_
      refine hp_callU (hp_crS (t_M_round _ _ _) cw_M_135 w_1193 (by decide) rfl rfl (Nat.le_of_ble_eq_true rfl) d_M_average_82) fun q2 => ?_
      refine hp_aload_n (x0 := 0) d_M_average_85 rfl rfl ?_
      refine hp_aload_n (x0 := 0) d_M_average_86 rfl rfl ?_
      refine hp_getR fl_M_48 d_M_average_87 fun x3 => ?_
      refine hp_aload_n (x0 := 0) d_M_average_90 rfl rfl ?_
      refine hp_getI fl_M_331 d_M_average_91 fun x4 => ?_
      refine hp_iconst (v := 0) d_M_average_94 (by decide) ?_
      refine hp_callI (hp_crV (ci := 8) (t_M_number _ _ _ _ _ _) cw_M_127 rfl ⟨w_981, ws_39⟩ (by decide) rfl rfl (Nat.le_of_ble_eq_true rfl) d_M_average_95) fun q5 => ?_
      exact hp_iret d_M_average_98 rfl
    · refine hp_bipush (v := 10) d_M_average_41 (by decide) ?_
      refine hp_iload_n (x0 := 1) d_M_average_43 rfl rfl ?_
      refine hp_imul d_M_average_44 ?_
      refine hp_aload_n (x0 := 0) d_M_average_45 rfl rfl ?_
      refine hp_getR fl_M_66 d_M_average_46 fun x6 => ?_
      refine hp_iload_n (x0 := 2) d_M_average_49 rfl rfl ?_
      refine hp_iald d_M_average_50 fun x7 => ?_
      refine hp_iadd d_M_average_51 ?_
      refine hp_istore_n (fun x8 => [(1, .int x8), (0, .ref a0), (2, .int a2)]) d_M_average_52 rfl (by decide) (fun _ => rfl) fun x8 => ?_
      refine hp_aload_n (x0 := 1) d_M_average_53 rfl rfl ?_
      refine hp_getR fl_M_48 d_M_average_54 fun x9 => ?_
      refine hp_iload_n (x0 := 2) d_M_average_57 rfl rfl ?_
      refine hp_iload_n (x0 := 0) d_M_average_58 rfl rfl ?_
      refine hp_aload_n (x0 := 1) d_M_average_59 rfl rfl ?_
      refine hp_getI fl_M_328 d_M_average_60 fun x10 => ?_
      refine hp_idiv d_M_average_63 fun x11 => ?_
      refine hp_iast d_M_average_64 fun h12 => ?_
      refine hp_iload_n (x0 := 0) d_M_average_65 rfl rfl ?_
      refine hp_aload_n (x0 := 1) d_M_average_66 rfl rfl ?_
      refine hp_getI fl_M_328 d_M_average_67 fun x13 => ?_
      refine hp_irem d_M_average_70 fun x14 => ?_
      refine hp_istore_n (fun x15 => [(1, .int x15), (0, .ref a0), (2, .int a2)]) d_M_average_71 rfl (by decide) (fun _ => rfl) fun x15 => ?_
      refine hp_iinc (x0 := 2) (d := -1) (fun x16 => [(2, .int x16), (1, .int x15), (0, .ref a0)]) d_M_average_72 rfl (by decide) (by decide) (fun _ => rfl) fun x16 => ?_
      refine hp_goto (tgt := 37) d_M_average_75 (by decide) ?_
      refine hp_sub [2, 1, 0] rfl ?_
      exact ih _ _ _ _
def m_M_average (G : Nat → Nat) (a0 : Nat) (h : hp_H) : Option (Int32 × hp_H) := (hp_vck h a0 8 (m_M_sumAll G a0 h)).bind fun q1 => if q1.1 = 0 then (some ((-4 : Int32), q1.2)) else ((hp_gI q1.2 a0 8 26).bind fun x2 => if x2 = 0 then ((hp_vck q1.2 a0 8 (m_M_numbered G a0 (0 : Int64) (0 : Int32) (1 : Int32) q1.2)).bind fun q7 => some (q7.1, q7.2)) else ((hp_gR q1.2 a0 8 19).bind fun x3 => (m_M_clear G x3 q1.2).bind fun q4 => hp_nm (0 : Int32) fun x5 => hp_nm (63 : Int32) fun x6 => m_M_average_37 G hp_fu a0 x5 x6 q4.2))
set_option maxRecDepth 100000 in
set_option maxHeartbeats 4000000 in
theorem j_M_average_0 {Z : hp_Z} (a0 : Nat) (h : hp_H) : hp_J Y_M_average Z hp_rI h 0 [(0, .ref a0)] [] (m_M_average (hp_G Z)  a0 h) := by
  unfold m_M_average
  refine hp_aload_n (x0 := 0) d_M_average_0 rfl rfl ?_
  refine hp_callI (hp_crV (ci := 8) (t_M_sumAll _ _ _) cw_M_340 rfl ⟨w_1258, ws_84⟩ (by decide) rfl rfl (Nat.le_of_ble_eq_true rfl) d_M_average_1) fun q1 => ?_
  refine hp_if_ne (tgt := 10) d_M_average_4 (by decide) ?_ ?_
  · refine hp_bipush (v := -4) d_M_average_7 (by decide) ?_
    exact hp_iret d_M_average_9 rfl
  · refine hp_aload_n (x0 := 0) d_M_average_10 rfl rfl ?_
    refine hp_getI fl_M_328 d_M_average_11 fun x2 => ?_
    refine hp_if_ne (tgt := 25) d_M_average_14 (by decide) ?_ ?_
    · refine hp_aload_n (x0 := 0) d_M_average_17 rfl rfl ?_
      refine hp_lconst (v := 0) d_M_average_18 (by decide) ?_
      refine hp_iconst (v := 0) d_M_average_19 (by decide) ?_
      refine hp_iconst (v := 1) d_M_average_20 (by decide) ?_
      refine hp_callI (hp_crV (ci := 8) (t_M_numbered _ _ _ _ _ _) cw_M_153 rfl ⟨w_973, ws_38⟩ (by decide) rfl rfl (Nat.le_of_ble_eq_true rfl) d_M_average_21) fun q7 => ?_
      exact hp_iret d_M_average_24 rfl
    · refine hp_aload_n (x0 := 0) d_M_average_25 rfl rfl ?_
      refine hp_getR fl_M_48 d_M_average_26 fun x3 => ?_
      refine hp_callU (hp_crS (t_M_clear _ _ _) cw_M_95 w_976 (by decide) rfl rfl (Nat.le_of_ble_eq_true rfl) d_M_average_29) fun q4 => ?_
      refine hp_iconst (v := 0) d_M_average_32 (by decide) ?_
      refine hp_istore_n (fun x5 => [(1, .int x5), (0, .ref a0)]) d_M_average_33 rfl (by decide) (fun _ => rfl) fun x5 => ?_
      refine hp_bipush (v := 63) d_M_average_34 (by decide) ?_
      refine hp_istore_n (fun x6 => [(2, .int x6), (1, .int x5), (0, .ref a0)]) d_M_average_36 rfl (by decide) (fun _ => rfl) fun x6 => ?_
      refine hp_sub [2, 1, 0] rfl ?_
      exact j_M_average_37  hp_fu _ _ _ _
theorem t_M_average (l : Launch) (E : hp_E) (a0 : Nat) : hp_M l E y_M_average Y_M_average hp_rI [.ref a0] (m_M_average E.2.2.1 a0) := hp_M.of (plainFor_of_name (by decide)) ⟨rfl, rfl⟩ (Nat.le_of_ble_eq_true rfl) (fun Z h hE => by subst hE; exact j_M_average_0 _ h)
-- M_extreme
theorem d_M_extreme_0 : decode prog_9_method_78_code 0 = .ok (.bipush (-4), 2) := by decide +kernel
theorem d_M_extreme_2 : decode prog_9_method_78_code 2 = .ok (.istore_n 2, 1) := by decide +kernel
theorem d_M_extreme_3 : decode prog_9_method_78_code 3 = .ok (.iconst 0, 1) := by decide +kernel
theorem d_M_extreme_4 : decode prog_9_method_78_code 4 = .ok (.istore_n 3, 1) := by decide +kernel
theorem d_M_extreme_5 : decode prog_9_method_78_code 5 = .ok (.iload_n 3, 1) := by decide +kernel
theorem d_M_extreme_6 : decode prog_9_method_78_code 6 = .ok (.aload_n 0, 1) := by decide +kernel
theorem d_M_extreme_7 : decode prog_9_method_78_code 7 = .ok (.getfield 328, 3) := by decide +kernel
theorem d_M_extreme_10 : decode prog_9_method_78_code 10 = .ok (.if_icmp .ge 42, 3) := by decide +kernel
theorem d_M_extreme_13 : decode prog_9_method_78_code 13 = .ok (.aload_n 0, 1) := by decide +kernel
theorem d_M_extreme_14 : decode prog_9_method_78_code 14 = .ok (.getfield 63, 3) := by decide +kernel
theorem d_M_extreme_17 : decode prog_9_method_78_code 17 = .ok (.iload_n 3, 1) := by decide +kernel
theorem d_M_extreme_18 : decode prog_9_method_78_code 18 = .ok (.iaload, 1) := by decide +kernel
theorem d_M_extreme_19 : decode prog_9_method_78_code 19 = .ok (.istore 4, 2) := by decide +kernel
theorem d_M_extreme_21 : decode prog_9_method_78_code 21 = .ok (.iload 4, 2) := by decide +kernel
theorem d_M_extreme_23 : decode prog_9_method_78_code 23 = .ok (.ifCond .le 23, 3) := by decide +kernel
theorem d_M_extreme_26 : decode prog_9_method_78_code 26 = .ok (.iload_n 2, 1) := by decide +kernel
theorem d_M_extreme_27 : decode prog_9_method_78_code 27 = .ok (.bipush (-4), 2) := by decide +kernel
theorem d_M_extreme_29 : decode prog_9_method_78_code 29 = .ok (.if_icmp .eq 14, 3) := by decide +kernel
theorem d_M_extreme_32 : decode prog_9_method_78_code 32 = .ok (.aload_n 0, 1) := by decide +kernel
theorem d_M_extreme_33 : decode prog_9_method_78_code 33 = .ok (.iload 4, 2) := by decide +kernel
theorem d_M_extreme_35 : decode prog_9_method_78_code 35 = .ok (.iload_n 2, 1) := by decide +kernel
theorem d_M_extreme_36 : decode prog_9_method_78_code 36 = .ok (.invokevirtual 178, 3) := by decide +kernel
theorem d_M_extreme_39 : decode prog_9_method_78_code 39 = .ok (.iload_n 1, 1) := by decide +kernel
theorem d_M_extreme_40 : decode prog_9_method_78_code 40 = .ok (.if_icmp .ne 6, 3) := by decide +kernel
theorem d_M_extreme_43 : decode prog_9_method_78_code 43 = .ok (.iload 4, 2) := by decide +kernel
theorem d_M_extreme_45 : decode prog_9_method_78_code 45 = .ok (.istore_n 2, 1) := by decide +kernel
theorem d_M_extreme_46 : decode prog_9_method_78_code 46 = .ok (.iinc 3 1, 3) := by decide +kernel
theorem d_M_extreme_49 : decode prog_9_method_78_code 49 = .ok (.goto (-44), 3) := by decide +kernel
theorem d_M_extreme_52 : decode prog_9_method_78_code 52 = .ok (.iload_n 2, 1) := by decide +kernel
theorem d_M_extreme_53 : decode prog_9_method_78_code 53 = .ok (.ireturn, 1) := by decide +kernel
def m_M_extreme_46 (G : Nat → Nat) (r5 : Nat → Int32 → Int32 → Int32 → hp_H → Option (Int32 × hp_H)) (a0 : Nat) (a1 : Int32) (a2 : Int32) (a3 : Int32) (h : hp_H) : Option (Int32 × hp_H) := hp_nm (a3 + 1) fun x1 => r5 a0 a1 a2 x1 h
set_option maxRecDepth 100000 in
set_option maxHeartbeats 4000000 in
theorem j_M_extreme_46 {Z : hp_Z} (r5 : Nat → Int32 → Int32 → Int32 → hp_H → Option (Int32 × hp_H)) (hr5 : ∀ (a0 : Nat) (a1 : Int32) (a2 : Int32) (a3 : Int32) (h : hp_H), hp_J Y_M_extreme Z hp_rI h 5 [(0, .ref a0), (1, .int a1), (2, .int a2), (3, .int a3)] [] (r5 a0 a1 a2 a3  h)) (a0 : Nat) (a1 : Int32) (a2 : Int32) (a3 : Int32) (h : hp_H) : hp_J Y_M_extreme Z hp_rI h 46 [(0, .ref a0), (1, .int a1), (2, .int a2), (3, .int a3)] [] (m_M_extreme_46 (hp_G Z) r5 a0 a1 a2 a3 h) := by
  unfold m_M_extreme_46
  refine hp_iinc (x0 := 3) (d := 1) (fun x1 => [(3, .int x1), (0, .ref a0), (1, .int a1), (2, .int a2)]) d_M_extreme_46 rfl (by decide) (by decide) (fun _ => rfl) fun x1 => ?_
  refine hp_goto (tgt := 5) d_M_extreme_49 (by decide) ?_
  refine hp_sub [1, 2, 3, 0] rfl ?_
  exact hr5 _ _ _ _ _
def m_M_extreme_43 (G : Nat → Nat) (r5 : Nat → Int32 → Int32 → Int32 → hp_H → Option (Int32 × hp_H)) (a0 : Nat) (a1 : Int32) (a3 : Int32) (a4 : Int32) (h : hp_H) : Option (Int32 × hp_H) := hp_nm a4 fun x1 => m_M_extreme_46 G r5 a0 a1 x1 a3 h
set_option maxRecDepth 100000 in
set_option maxHeartbeats 4000000 in
theorem j_M_extreme_43 {Z : hp_Z} (r5 : Nat → Int32 → Int32 → Int32 → hp_H → Option (Int32 × hp_H)) (hr5 : ∀ (a0 : Nat) (a1 : Int32) (a2 : Int32) (a3 : Int32) (h : hp_H), hp_J Y_M_extreme Z hp_rI h 5 [(0, .ref a0), (1, .int a1), (2, .int a2), (3, .int a3)] [] (r5 a0 a1 a2 a3  h)) (a0 : Nat) (a1 : Int32) (a3 : Int32) (a4 : Int32) (h : hp_H) : hp_J Y_M_extreme Z hp_rI h 43 [(0, .ref a0), (1, .int a1), (3, .int a3), (4, .int a4)] [] (m_M_extreme_43 (hp_G Z) r5 a0 a1 a3 a4 h) := by
  unfold m_M_extreme_43
  refine hp_iload (x0 := 3) d_M_extreme_43 rfl ?_
  refine hp_istore_n (fun x1 => [(2, .int x1), (0, .ref a0), (1, .int a1), (3, .int a3), (4, .int a4)]) d_M_extreme_45 rfl (by decide) (fun _ => rfl) fun x1 => ?_
  refine hp_sub [1, 2, 0, 3] rfl ?_
  exact j_M_extreme_46 _ hr5 _ _ _ _ _
def m_M_extreme_5 (G : Nat → Nat) : Nat → Nat → Int32 → Int32 → Int32 → hp_H → Option (Int32 × hp_H)
  | 0, _, _, _, _, _ => none
  | n + 1, a0, a1, a2, a3, h => (hp_gI h a0 8 26).bind fun x1 => if x1 ≤ a3 then (some (a2, h)) else ((hp_gR h a0 8 25).bind fun x2 => (hp_aI h .int x2 a3).bind fun x3 => hp_nm x3 fun x4 => if x4 ≤ 0 then (m_M_extreme_46 G (m_M_extreme_5 G  n) a0 a1 a2 a3 h) else (if a2 = (-4 : Int32) then (m_M_extreme_43 G (m_M_extreme_5 G  n) a0 a1 a3 x4 h) else ((hp_vck h a0 8 (m_M_orderOf G a0 x4 a2 h)).bind fun q5 => if q5.1 = a1 then (m_M_extreme_43 G (m_M_extreme_5 G  n) a0 a1 a3 x4 q5.2) else (m_M_extreme_46 G (m_M_extreme_5 G  n) a0 a1 a2 a3 q5.2))))
set_option maxRecDepth 100000 in
set_option maxHeartbeats 4000000 in
theorem j_M_extreme_5 {Z : hp_Z} : ∀ (n : Nat) (a0 : Nat) (a1 : Int32) (a2 : Int32) (a3 : Int32) (h : hp_H), hp_J Y_M_extreme Z hp_rI h 5 [(0, .ref a0), (1, .int a1), (2, .int a2), (3, .int a3)] [] (m_M_extreme_5 (hp_G Z)  n a0 a1 a2 a3 h) := by
  intro n
  induction n with
  | zero => intro a0 a1 a2 a3 h; exact hp_fail
  | succ n ih =>
    intro a0 a1 a2 a3 h
    rw [m_M_extreme_5]
    refine hp_iload_n (x0 := 3) d_M_extreme_5 rfl rfl ?_
    refine hp_aload_n (x0 := 0) d_M_extreme_6 rfl rfl ?_
    refine hp_getI fl_M_328 d_M_extreme_7 fun x1 => ?_
    refine hp_icmp_ge (tgt := 52) d_M_extreme_10 (by decide) ?_ ?_
    · refine hp_iload_n (x0 := 2) d_M_extreme_52 rfl rfl ?_
      exact hp_iret d_M_extreme_53 rfl
    · refine hp_aload_n (x0 := 0) d_M_extreme_13 rfl rfl ?_
      refine hp_getR fl_M_63 d_M_extreme_14 fun x2 => ?_
      refine hp_iload_n (x0 := 3) d_M_extreme_17 rfl rfl ?_
      refine hp_iald d_M_extreme_18 fun x3 => ?_
      refine hp_istore (fun x4 => [(4, .int x4), (0, .ref a0), (1, .int a1), (2, .int a2), (3, .int a3)]) d_M_extreme_19 (by decide) (fun _ => rfl) fun x4 => ?_
      refine hp_iload (x0 := 0) d_M_extreme_21 rfl ?_
      refine hp_if_le (tgt := 46) d_M_extreme_23 (by decide) ?_ ?_
      · refine hp_sub [1, 2, 3, 4] rfl ?_
        exact j_M_extreme_46 _ ih _ _ _ _ _
      · refine hp_iload_n (x0 := 3) d_M_extreme_26 rfl rfl ?_
        refine hp_bipush (v := -4) d_M_extreme_27 (by decide) ?_
        refine hp_icmp_eq (tgt := 43) d_M_extreme_29 (by decide) ?_ ?_
        · refine hp_sub [1, 2, 4, 0] rfl ?_
          exact j_M_extreme_43 _ ih _ _ _ _ _
        · refine hp_aload_n (x0 := 1) d_M_extreme_32 rfl rfl ?_
          refine hp_iload (x0 := 0) d_M_extreme_33 rfl ?_
          refine hp_iload_n (x0 := 3) d_M_extreme_35 rfl rfl ?_
          refine hp_callI (hp_crV (ci := 8) (t_M_orderOf _ _ _ _ _) cw_M_178 rfl ⟨w_1044, ws_45⟩ (by decide) rfl rfl (Nat.le_of_ble_eq_true rfl) d_M_extreme_36) fun q5 => ?_
          refine hp_iload_n (x0 := 2) d_M_extreme_39 rfl rfl ?_
          refine hp_icmp_ne (tgt := 46) d_M_extreme_40 (by decide) ?_ ?_
          · refine hp_sub [1, 2, 4, 0] rfl ?_
            exact j_M_extreme_43 _ ih _ _ _ _ _
          · refine hp_sub [1, 2, 3, 4] rfl ?_
            exact j_M_extreme_46 _ ih _ _ _ _ _
def m_M_extreme (G : Nat → Nat) (a0 : Nat) (a1 : Int32) (h : hp_H) : Option (Int32 × hp_H) := hp_nm (-4 : Int32) fun x1 => hp_nm (0 : Int32) fun x2 => m_M_extreme_5 G hp_fu a0 a1 x1 x2 h
set_option maxRecDepth 100000 in
set_option maxHeartbeats 4000000 in
theorem j_M_extreme_0 {Z : hp_Z} (a0 : Nat) (a1 : Int32) (h : hp_H) : hp_J Y_M_extreme Z hp_rI h 0 [(0, .ref a0), (1, .int a1)] [] (m_M_extreme (hp_G Z)  a0 a1 h) := by
  unfold m_M_extreme
  refine hp_bipush (v := -4) d_M_extreme_0 (by decide) ?_
  refine hp_istore_n (fun x1 => [(2, .int x1), (0, .ref a0), (1, .int a1)]) d_M_extreme_2 rfl (by decide) (fun _ => rfl) fun x1 => ?_
  refine hp_iconst (v := 0) d_M_extreme_3 (by decide) ?_
  refine hp_istore_n (fun x2 => [(3, .int x2), (2, .int x1), (0, .ref a0), (1, .int a1)]) d_M_extreme_4 rfl (by decide) (fun _ => rfl) fun x2 => ?_
  refine hp_sub [2, 3, 1, 0] rfl ?_
  exact j_M_extreme_5  hp_fu _ _ _ _ _
theorem t_M_extreme (l : Launch) (E : hp_E) (a0 : Nat) (a1 : Int32) : hp_M l E y_M_extreme Y_M_extreme hp_rI [.ref a0, .int a1] (m_M_extreme E.2.2.1 a0 a1) := hp_M.of (plainFor_of_name (by decide)) ⟨rfl, rfl⟩ (Nat.le_of_ble_eq_true rfl) (fun Z h hE => by subst hE; exact j_M_extreme_0 _ _ h)
-- M_row
theorem d_M_row_0 : decode prog_9_method_79_code 0 = .ok (.iconst 0, 1) := by decide +kernel
theorem d_M_row_1 : decode prog_9_method_79_code 1 = .ok (.istore_n 1, 1) := by decide +kernel
theorem d_M_row_2 : decode prog_9_method_79_code 2 = .ok (.iload_n 1, 1) := by decide +kernel
theorem d_M_row_3 : decode prog_9_method_79_code 3 = .ok (.aload_n 0, 1) := by decide +kernel
theorem d_M_row_4 : decode prog_9_method_79_code 4 = .ok (.getfield 328, 3) := by decide +kernel
theorem d_M_row_7 : decode prog_9_method_79_code 7 = .ok (.if_icmp .ge 21, 3) := by decide +kernel
theorem d_M_row_10 : decode prog_9_method_79_code 10 = .ok (.aload_n 0, 1) := by decide +kernel
theorem d_M_row_11 : decode prog_9_method_79_code 11 = .ok (.getfield 63, 3) := by decide +kernel
theorem d_M_row_14 : decode prog_9_method_79_code 14 = .ok (.iload_n 1, 1) := by decide +kernel
theorem d_M_row_15 : decode prog_9_method_79_code 15 = .ok (.iaload, 1) := by decide +kernel
theorem d_M_row_16 : decode prog_9_method_79_code 16 = .ok (.ifCond .ne 6, 3) := by decide +kernel
theorem d_M_row_19 : decode prog_9_method_79_code 19 = .ok (.bipush (-4), 2) := by decide +kernel
theorem d_M_row_21 : decode prog_9_method_79_code 21 = .ok (.ireturn, 1) := by decide +kernel
theorem d_M_row_22 : decode prog_9_method_79_code 22 = .ok (.iinc 1 1, 3) := by decide +kernel
theorem d_M_row_25 : decode prog_9_method_79_code 25 = .ok (.goto (-23), 3) := by decide +kernel
theorem d_M_row_28 : decode prog_9_method_79_code 28 = .ok (.iconst 0, 1) := by decide +kernel
theorem d_M_row_29 : decode prog_9_method_79_code 29 = .ok (.istore_n 1, 1) := by decide +kernel
theorem d_M_row_30 : decode prog_9_method_79_code 30 = .ok (.iload_n 1, 1) := by decide +kernel
theorem d_M_row_31 : decode prog_9_method_79_code 31 = .ok (.aload_n 0, 1) := by decide +kernel
theorem d_M_row_32 : decode prog_9_method_79_code 32 = .ok (.getfield 328, 3) := by decide +kernel
theorem d_M_row_35 : decode prog_9_method_79_code 35 = .ok (.if_icmp .ge 80, 3) := by decide +kernel
theorem d_M_row_38 : decode prog_9_method_79_code 38 = .ok (.iconst 0, 1) := by decide +kernel
theorem d_M_row_39 : decode prog_9_method_79_code 39 = .ok (.istore_n 2, 1) := by decide +kernel
theorem d_M_row_40 : decode prog_9_method_79_code 40 = .ok (.iconst 0, 1) := by decide +kernel
theorem d_M_row_41 : decode prog_9_method_79_code 41 = .ok (.istore_n 3, 1) := by decide +kernel
theorem d_M_row_42 : decode prog_9_method_79_code 42 = .ok (.iload_n 3, 1) := by decide +kernel
theorem d_M_row_43 : decode prog_9_method_79_code 43 = .ok (.aload_n 0, 1) := by decide +kernel
theorem d_M_row_44 : decode prog_9_method_79_code 44 = .ok (.getfield 328, 3) := by decide +kernel
theorem d_M_row_47 : decode prog_9_method_79_code 47 = .ok (.if_icmp .ge 50, 3) := by decide +kernel
theorem d_M_row_50 : decode prog_9_method_79_code 50 = .ok (.aload_n 0, 1) := by decide +kernel
theorem d_M_row_51 : decode prog_9_method_79_code 51 = .ok (.aload_n 0, 1) := by decide +kernel
theorem d_M_row_52 : decode prog_9_method_79_code 52 = .ok (.getfield 63, 3) := by decide +kernel
theorem d_M_row_55 : decode prog_9_method_79_code 55 = .ok (.iload_n 3, 1) := by decide +kernel
theorem d_M_row_56 : decode prog_9_method_79_code 56 = .ok (.iaload, 1) := by decide +kernel
theorem d_M_row_57 : decode prog_9_method_79_code 57 = .ok (.aload_n 0, 1) := by decide +kernel
theorem d_M_row_58 : decode prog_9_method_79_code 58 = .ok (.getfield 63, 3) := by decide +kernel
theorem d_M_row_61 : decode prog_9_method_79_code 61 = .ok (.iload_n 1, 1) := by decide +kernel
theorem d_M_row_62 : decode prog_9_method_79_code 62 = .ok (.iaload, 1) := by decide +kernel
theorem d_M_row_63 : decode prog_9_method_79_code 63 = .ok (.invokevirtual 178, 3) := by decide +kernel
theorem d_M_row_66 : decode prog_9_method_79_code 66 = .ok (.istore 4, 2) := by decide +kernel
theorem d_M_row_68 : decode prog_9_method_79_code 68 = .ok (.iload_n 2, 1) := by decide +kernel
theorem d_M_row_69 : decode prog_9_method_79_code 69 = .ok (.iload 4, 2) := by decide +kernel
theorem d_M_row_71 : decode prog_9_method_79_code 71 = .ok (.ifCond .lt 13, 3) := by decide +kernel
theorem d_M_row_74 : decode prog_9_method_79_code 74 = .ok (.iload 4, 2) := by decide +kernel
theorem d_M_row_76 : decode prog_9_method_79_code 76 = .ok (.ifCond .ne 12, 3) := by decide +kernel
theorem d_M_row_79 : decode prog_9_method_79_code 79 = .ok (.iload_n 3, 1) := by decide +kernel
theorem d_M_row_80 : decode prog_9_method_79_code 80 = .ok (.iload_n 1, 1) := by decide +kernel
theorem d_M_row_81 : decode prog_9_method_79_code 81 = .ok (.if_icmp .ge 7, 3) := by decide +kernel
theorem d_M_row_84 : decode prog_9_method_79_code 84 = .ok (.iconst 1, 1) := by decide +kernel
theorem d_M_row_85 : decode prog_9_method_79_code 85 = .ok (.goto 4, 3) := by decide +kernel
theorem d_M_row_88 : decode prog_9_method_79_code 88 = .ok (.iconst 0, 1) := by decide +kernel
theorem d_M_row_89 : decode prog_9_method_79_code 89 = .ok (.iadd, 1) := by decide +kernel
theorem d_M_row_90 : decode prog_9_method_79_code 90 = .ok (.istore_n 2, 1) := by decide +kernel
theorem d_M_row_91 : decode prog_9_method_79_code 91 = .ok (.iinc 3 1, 3) := by decide +kernel
theorem d_M_row_94 : decode prog_9_method_79_code 94 = .ok (.goto (-52), 3) := by decide +kernel
theorem d_M_row_97 : decode prog_9_method_79_code 97 = .ok (.aload_n 0, 1) := by decide +kernel
theorem d_M_row_98 : decode prog_9_method_79_code 98 = .ok (.getfield 69, 3) := by decide +kernel
theorem d_M_row_101 : decode prog_9_method_79_code 101 = .ok (.iload_n 2, 1) := by decide +kernel
theorem d_M_row_102 : decode prog_9_method_79_code 102 = .ok (.aload_n 0, 1) := by decide +kernel
theorem d_M_row_103 : decode prog_9_method_79_code 103 = .ok (.getfield 63, 3) := by decide +kernel
theorem d_M_row_106 : decode prog_9_method_79_code 106 = .ok (.iload_n 1, 1) := by decide +kernel
theorem d_M_row_107 : decode prog_9_method_79_code 107 = .ok (.iaload, 1) := by decide +kernel
theorem d_M_row_108 : decode prog_9_method_79_code 108 = .ok (.iastore, 1) := by decide +kernel
theorem d_M_row_109 : decode prog_9_method_79_code 109 = .ok (.iinc 1 1, 3) := by decide +kernel
theorem d_M_row_112 : decode prog_9_method_79_code 112 = .ok (.goto (-82), 3) := by decide +kernel
theorem d_M_row_115 : decode prog_9_method_79_code 115 = .ok (.aload_n 0, 1) := by decide +kernel
theorem d_M_row_116 : decode prog_9_method_79_code 116 = .ok (.iconst 5, 1) := by decide +kernel
theorem d_M_row_117 : decode prog_9_method_79_code 117 = .ok (.iconst 0, 1) := by decide +kernel
theorem d_M_row_118 : decode prog_9_method_79_code 118 = .ok (.invokevirtual 103, 3) := by decide +kernel
theorem d_M_row_121 : decode prog_9_method_79_code 121 = .ok (.iconst 1, 1) := by decide +kernel
theorem d_M_row_122 : decode prog_9_method_79_code 122 = .ok (.istore_n 1, 1) := by decide +kernel
theorem d_M_row_123 : decode prog_9_method_79_code 123 = .ok (.iconst 0, 1) := by decide +kernel
theorem d_M_row_124 : decode prog_9_method_79_code 124 = .ok (.istore_n 2, 1) := by decide +kernel
theorem d_M_row_125 : decode prog_9_method_79_code 125 = .ok (.iload_n 2, 1) := by decide +kernel
theorem d_M_row_126 : decode prog_9_method_79_code 126 = .ok (.aload_n 0, 1) := by decide +kernel
theorem d_M_row_127 : decode prog_9_method_79_code 127 = .ok (.getfield 328, 3) := by decide +kernel
theorem d_M_row_130 : decode prog_9_method_79_code 130 = .ok (.if_icmp .ge 46, 3) := by decide +kernel
theorem d_M_row_133 : decode prog_9_method_79_code 133 = .ok (.iload_n 1, 1) := by decide +kernel
theorem d_M_row_134 : decode prog_9_method_79_code 134 = .ok (.ifCond .eq 42, 3) := by decide +kernel
theorem d_M_row_137 : decode prog_9_method_79_code 137 = .ok (.iload_n 2, 1) := by decide +kernel
theorem d_M_row_138 : decode prog_9_method_79_code 138 = .ok (.ifCond .le 21, 3) := by decide +kernel
theorem d_M_row_141 : decode prog_9_method_79_code 141 = .ok (.aload_n 0, 1) := by decide +kernel
theorem d_M_row_142 : decode prog_9_method_79_code 142 = .ok (.aload_n 0, 1) := by decide +kernel
theorem d_M_row_143 : decode prog_9_method_79_code 143 = .ok (.getfield 325, 3) := by decide +kernel
theorem d_M_row_146 : decode prog_9_method_79_code 146 = .ok (.iconst 0, 1) := by decide +kernel
theorem d_M_row_147 : decode prog_9_method_79_code 147 = .ok (.aload_n 0, 1) := by decide +kernel
theorem d_M_row_148 : decode prog_9_method_79_code 148 = .ok (.getfield 26, 3) := by decide +kernel
theorem d_M_row_151 : decode prog_9_method_79_code 151 = .ok (.aload_n 0, 1) := by decide +kernel
theorem d_M_row_152 : decode prog_9_method_79_code 152 = .ok (.getfield 325, 3) := by decide +kernel
theorem d_M_row_155 : decode prog_9_method_79_code 155 = .ok (.iaload, 1) := by decide +kernel
theorem d_M_row_156 : decode prog_9_method_79_code 156 = .ok (.invokevirtual 202, 3) := by decide +kernel
theorem d_M_row_159 : decode prog_9_method_79_code 159 = .ok (.aload_n 0, 1) := by decide +kernel
theorem d_M_row_160 : decode prog_9_method_79_code 160 = .ok (.aload_n 0, 1) := by decide +kernel
theorem d_M_row_161 : decode prog_9_method_79_code 161 = .ok (.getfield 69, 3) := by decide +kernel
theorem d_M_row_164 : decode prog_9_method_79_code 164 = .ok (.iload_n 2, 1) := by decide +kernel
theorem d_M_row_165 : decode prog_9_method_79_code 165 = .ok (.iaload, 1) := by decide +kernel
theorem d_M_row_166 : decode prog_9_method_79_code 166 = .ok (.invokevirtual 290, 3) := by decide +kernel
theorem d_M_row_169 : decode prog_9_method_79_code 169 = .ok (.istore_n 1, 1) := by decide +kernel
theorem d_M_row_170 : decode prog_9_method_79_code 170 = .ok (.iinc 2 1, 3) := by decide +kernel
theorem d_M_row_173 : decode prog_9_method_79_code 173 = .ok (.goto (-48), 3) := by decide +kernel
theorem d_M_row_176 : decode prog_9_method_79_code 176 = .ok (.iload_n 1, 1) := by decide +kernel
theorem d_M_row_177 : decode prog_9_method_79_code 177 = .ok (.ifCond .eq 10, 3) := by decide +kernel
theorem d_M_row_180 : decode prog_9_method_79_code 180 = .ok (.aload_n 0, 1) := by decide +kernel
theorem d_M_row_181 : decode prog_9_method_79_code 181 = .ok (.invokevirtual 111, 3) := by decide +kernel
theorem d_M_row_184 : decode prog_9_method_79_code 184 = .ok (.goto 5, 3) := by decide +kernel
theorem d_M_row_187 : decode prog_9_method_79_code 187 = .ok (.bipush (-4), 2) := by decide +kernel
theorem d_M_row_189 : decode prog_9_method_79_code 189 = .ok (.ireturn, 1) := by decide +kernel
def m_M_row_89 (G : Nat → Nat) (r30 : Nat → Int32 → hp_H → Option (Int32 × hp_H)) (r42 : Nat → Int32 → Int32 → Int32 → hp_H → Option (Int32 × hp_H)) (a0 : Nat) (a1 : Int32) (a3 : Int32) (s0 : Int32) (s1 : Int32) (h : hp_H) : Option (Int32 × hp_H) := hp_nm (s1 + s0) fun x1 => hp_nm (a3 + 1) fun x2 => r42 a0 a1 x1 x2 h
set_option maxRecDepth 100000 in
set_option maxHeartbeats 4000000 in
theorem j_M_row_89 {Z : hp_Z} (r30 : Nat → Int32 → hp_H → Option (Int32 × hp_H)) (hr30 : ∀ (a0 : Nat) (a1 : Int32) (h : hp_H), hp_J Y_M_row Z hp_rI h 30 [(0, .ref a0), (1, .int a1)] [] (r30 a0 a1  h)) (r42 : Nat → Int32 → Int32 → Int32 → hp_H → Option (Int32 × hp_H)) (hr42 : ∀ (a0 : Nat) (a1 : Int32) (a2 : Int32) (a3 : Int32) (h : hp_H), hp_J Y_M_row Z hp_rI h 42 [(0, .ref a0), (1, .int a1), (2, .int a2), (3, .int a3)] [] (r42 a0 a1 a2 a3  h)) (a0 : Nat) (a1 : Int32) (a3 : Int32) (s0 : Int32) (s1 : Int32) (h : hp_H) : hp_J Y_M_row Z hp_rI h 89 [(0, .ref a0), (1, .int a1), (3, .int a3)] [.int s0, .int s1] (m_M_row_89 (hp_G Z) r30 r42 a0 a1 a3 s0 s1 h) := by
  unfold m_M_row_89
  refine hp_iadd d_M_row_89 ?_
  refine hp_istore_n (fun x1 => [(2, .int x1), (0, .ref a0), (1, .int a1), (3, .int a3)]) d_M_row_90 rfl (by decide) (fun _ => rfl) fun x1 => ?_
  refine hp_iinc (x0 := 3) (d := 1) (fun x2 => [(3, .int x2), (2, .int x1), (0, .ref a0), (1, .int a1)]) d_M_row_91 rfl (by decide) (by decide) (fun _ => rfl) fun x2 => ?_
  refine hp_goto (tgt := 42) d_M_row_94 (by decide) ?_
  refine hp_sub [2, 3, 1, 0] rfl ?_
  exact hr42 _ _ _ _ _
def m_M_row_84 (G : Nat → Nat) (r30 : Nat → Int32 → hp_H → Option (Int32 × hp_H)) (r42 : Nat → Int32 → Int32 → Int32 → hp_H → Option (Int32 × hp_H)) (a0 : Nat) (a1 : Int32) (a3 : Int32) (s0 : Int32) (h : hp_H) : Option (Int32 × hp_H) := m_M_row_89 G r30 r42 a0 a1 a3 (1 : Int32) s0 h
set_option maxRecDepth 100000 in
set_option maxHeartbeats 4000000 in
theorem j_M_row_84 {Z : hp_Z} (r30 : Nat → Int32 → hp_H → Option (Int32 × hp_H)) (hr30 : ∀ (a0 : Nat) (a1 : Int32) (h : hp_H), hp_J Y_M_row Z hp_rI h 30 [(0, .ref a0), (1, .int a1)] [] (r30 a0 a1  h)) (r42 : Nat → Int32 → Int32 → Int32 → hp_H → Option (Int32 × hp_H)) (hr42 : ∀ (a0 : Nat) (a1 : Int32) (a2 : Int32) (a3 : Int32) (h : hp_H), hp_J Y_M_row Z hp_rI h 42 [(0, .ref a0), (1, .int a1), (2, .int a2), (3, .int a3)] [] (r42 a0 a1 a2 a3  h)) (a0 : Nat) (a1 : Int32) (a3 : Int32) (s0 : Int32) (h : hp_H) : hp_J Y_M_row Z hp_rI h 84 [(0, .ref a0), (1, .int a1), (3, .int a3)] [.int s0] (m_M_row_84 (hp_G Z) r30 r42 a0 a1 a3 s0 h) := by
  unfold m_M_row_84
  refine hp_iconst (v := 1) d_M_row_84 (by decide) ?_
  refine hp_goto (tgt := 89) d_M_row_85 (by decide) ?_
  exact j_M_row_89 _ hr30 _ hr42 _ _ _ _ _ _
def m_M_row_88 (G : Nat → Nat) (r30 : Nat → Int32 → hp_H → Option (Int32 × hp_H)) (r42 : Nat → Int32 → Int32 → Int32 → hp_H → Option (Int32 × hp_H)) (a0 : Nat) (a1 : Int32) (a3 : Int32) (s0 : Int32) (h : hp_H) : Option (Int32 × hp_H) := m_M_row_89 G r30 r42 a0 a1 a3 (0 : Int32) s0 h
set_option maxRecDepth 100000 in
set_option maxHeartbeats 4000000 in
theorem j_M_row_88 {Z : hp_Z} (r30 : Nat → Int32 → hp_H → Option (Int32 × hp_H)) (hr30 : ∀ (a0 : Nat) (a1 : Int32) (h : hp_H), hp_J Y_M_row Z hp_rI h 30 [(0, .ref a0), (1, .int a1)] [] (r30 a0 a1  h)) (r42 : Nat → Int32 → Int32 → Int32 → hp_H → Option (Int32 × hp_H)) (hr42 : ∀ (a0 : Nat) (a1 : Int32) (a2 : Int32) (a3 : Int32) (h : hp_H), hp_J Y_M_row Z hp_rI h 42 [(0, .ref a0), (1, .int a1), (2, .int a2), (3, .int a3)] [] (r42 a0 a1 a2 a3  h)) (a0 : Nat) (a1 : Int32) (a3 : Int32) (s0 : Int32) (h : hp_H) : hp_J Y_M_row Z hp_rI h 88 [(0, .ref a0), (1, .int a1), (3, .int a3)] [.int s0] (m_M_row_88 (hp_G Z) r30 r42 a0 a1 a3 s0 h) := by
  unfold m_M_row_88
  refine hp_iconst (v := 0) d_M_row_88 (by decide) ?_
  exact j_M_row_89 _ hr30 _ hr42 _ _ _ _ _ _
def m_M_row_42 (G : Nat → Nat) (r30 : Nat → Int32 → hp_H → Option (Int32 × hp_H)) : Nat → Nat → Int32 → Int32 → Int32 → hp_H → Option (Int32 × hp_H)
  | 0, _, _, _, _, _ => none
  | n + 1, a0, a1, a2, a3, h => (hp_gI h a0 8 26).bind fun x1 => if x1 ≤ a3 then ((hp_gR h a0 8 33).bind fun x2 => (hp_gR h a0 8 25).bind fun x3 => (hp_aI h .int x3 a1).bind fun x4 => (hp_sI h .int x2 a2 x4).bind fun h5 => hp_nm (a1 + 1) fun x6 => r30 a0 x6 h5) else ((hp_gR h a0 8 25).bind fun x7 => (hp_aI h .int x7 a3).bind fun x8 => (hp_gR h a0 8 25).bind fun x9 => (hp_aI h .int x9 a1).bind fun x10 => (hp_vck h a0 8 (m_M_orderOf G a0 x8 x10 h)).bind fun q11 => hp_nm q11.1 fun x12 => if x12 < 0 then (m_M_row_84 G r30 (m_M_row_42 G r30 n) a0 a1 a3 a2 q11.2) else (if x12 = 0 then (if a1 ≤ a3 then (m_M_row_88 G r30 (m_M_row_42 G r30 n) a0 a1 a3 a2 q11.2) else (m_M_row_84 G r30 (m_M_row_42 G r30 n) a0 a1 a3 a2 q11.2)) else (m_M_row_88 G r30 (m_M_row_42 G r30 n) a0 a1 a3 a2 q11.2)))
set_option maxRecDepth 100000 in
set_option maxHeartbeats 4000000 in
theorem j_M_row_42 {Z : hp_Z} (r30 : Nat → Int32 → hp_H → Option (Int32 × hp_H)) (hr30 : ∀ (a0 : Nat) (a1 : Int32) (h : hp_H), hp_J Y_M_row Z hp_rI h 30 [(0, .ref a0), (1, .int a1)] [] (r30 a0 a1  h)) : ∀ (n : Nat) (a0 : Nat) (a1 : Int32) (a2 : Int32) (a3 : Int32) (h : hp_H), hp_J Y_M_row Z hp_rI h 42 [(0, .ref a0), (1, .int a1), (2, .int a2), (3, .int a3)] [] (m_M_row_42 (hp_G Z) r30 n a0 a1 a2 a3 h) := by
  intro n
  induction n with
  | zero => intro a0 a1 a2 a3 h; exact hp_fail
  | succ n ih =>
    intro a0 a1 a2 a3 h
    rw [m_M_row_42]
    refine hp_iload_n (x0 := 3) d_M_row_42 rfl rfl ?_
    refine hp_aload_n (x0 := 0) d_M_row_43 rfl rfl ?_
    refine hp_getI fl_M_328 d_M_row_44 fun x1 => ?_
    refine hp_icmp_ge (tgt := 97) d_M_row_47 (by decide) ?_ ?_
    · refine hp_aload_n (x0 := 0) d_M_row_97 rfl rfl ?_
      refine hp_getR fl_M_69 d_M_row_98 fun x2 => ?_
      refine hp_iload_n (x0 := 2) d_M_row_101 rfl rfl ?_
      refine hp_aload_n (x0 := 0) d_M_row_102 rfl rfl ?_
      refine hp_getR fl_M_63 d_M_row_103 fun x3 => ?_
      refine hp_iload_n (x0 := 1) d_M_row_106 rfl rfl ?_
      refine hp_iald d_M_row_107 fun x4 => ?_
      refine hp_iast d_M_row_108 fun h5 => ?_
      refine hp_iinc (x0 := 1) (d := 1) (fun x6 => [(1, .int x6), (0, .ref a0), (2, .int a2), (3, .int a3)]) d_M_row_109 rfl (by decide) (by decide) (fun _ => rfl) fun x6 => ?_
      refine hp_goto (tgt := 30) d_M_row_112 (by decide) ?_
      refine hp_sub [1, 0] rfl ?_
      exact hr30 _ _ _
    · refine hp_aload_n (x0 := 0) d_M_row_50 rfl rfl ?_
      refine hp_aload_n (x0 := 0) d_M_row_51 rfl rfl ?_
      refine hp_getR fl_M_63 d_M_row_52 fun x7 => ?_
      refine hp_iload_n (x0 := 3) d_M_row_55 rfl rfl ?_
      refine hp_iald d_M_row_56 fun x8 => ?_
      refine hp_aload_n (x0 := 0) d_M_row_57 rfl rfl ?_
      refine hp_getR fl_M_63 d_M_row_58 fun x9 => ?_
      refine hp_iload_n (x0 := 1) d_M_row_61 rfl rfl ?_
      refine hp_iald d_M_row_62 fun x10 => ?_
      refine hp_callI (hp_crV (ci := 8) (t_M_orderOf _ _ _ _ _) cw_M_178 rfl ⟨w_1044, ws_45⟩ (by decide) rfl rfl (Nat.le_of_ble_eq_true rfl) d_M_row_63) fun q11 => ?_
      refine hp_istore (fun x12 => [(4, .int x12), (0, .ref a0), (1, .int a1), (2, .int a2), (3, .int a3)]) d_M_row_66 (by decide) (fun _ => rfl) fun x12 => ?_
      refine hp_iload_n (x0 := 3) d_M_row_68 rfl rfl ?_
      refine hp_iload (x0 := 0) d_M_row_69 rfl ?_
      refine hp_if_lt (tgt := 84) d_M_row_71 (by decide) ?_ ?_
      · refine hp_sub [1, 2, 4] rfl ?_
        exact j_M_row_84 _ hr30 _ ih _ _ _ _ _
      · refine hp_iload (x0 := 0) d_M_row_74 rfl ?_
        refine hp_if_ne (tgt := 88) d_M_row_76 (by decide) ?_ ?_
        · refine hp_iload_n (x0 := 4) d_M_row_79 rfl rfl ?_
          refine hp_iload_n (x0 := 2) d_M_row_80 rfl rfl ?_
          refine hp_icmp_ge (tgt := 88) d_M_row_81 (by decide) ?_ ?_
          · refine hp_sub [1, 2, 4] rfl ?_
            exact j_M_row_88 _ hr30 _ ih _ _ _ _ _
          · refine hp_sub [1, 2, 4] rfl ?_
            exact j_M_row_84 _ hr30 _ ih _ _ _ _ _
        · refine hp_sub [1, 2, 4] rfl ?_
          exact j_M_row_88 _ hr30 _ ih _ _ _ _ _
def m_M_row_159 (G : Nat → Nat) (r125 : Nat → Int32 → Int32 → hp_H → Option (Int32 × hp_H)) (a0 : Nat) (a2 : Int32) (h : hp_H) : Option (Int32 × hp_H) := (hp_gR h a0 8 33).bind fun x1 => (hp_aI h .int x1 a2).bind fun x2 => (hp_vck h a0 8 (m_M_string G a0 x2 h)).bind fun q3 => hp_nm q3.1 fun x4 => hp_nm (a2 + 1) fun x5 => r125 a0 x4 x5 q3.2
set_option maxRecDepth 100000 in
set_option maxHeartbeats 4000000 in
theorem j_M_row_159 {Z : hp_Z} (r125 : Nat → Int32 → Int32 → hp_H → Option (Int32 × hp_H)) (hr125 : ∀ (a0 : Nat) (a1 : Int32) (a2 : Int32) (h : hp_H), hp_J Y_M_row Z hp_rI h 125 [(0, .ref a0), (1, .int a1), (2, .int a2)] [] (r125 a0 a1 a2  h)) (a0 : Nat) (a2 : Int32) (h : hp_H) : hp_J Y_M_row Z hp_rI h 159 [(0, .ref a0), (2, .int a2)] [] (m_M_row_159 (hp_G Z) r125 a0 a2 h) := by
  unfold m_M_row_159
  refine hp_aload_n (x0 := 0) d_M_row_159 rfl rfl ?_
  refine hp_aload_n (x0 := 0) d_M_row_160 rfl rfl ?_
  refine hp_getR fl_M_69 d_M_row_161 fun x1 => ?_
  refine hp_iload_n (x0 := 1) d_M_row_164 rfl rfl ?_
  refine hp_iald d_M_row_165 fun x2 => ?_
  refine hp_callI (hp_crV (ci := 8) (t_M_string _ _ _ _) cw_M_290 rfl ⟨w_1220, ws_80⟩ (by decide) rfl rfl (Nat.le_of_ble_eq_true rfl) d_M_row_166) fun q3 => ?_
  refine hp_istore_n (fun x4 => [(1, .int x4), (0, .ref a0), (2, .int a2)]) d_M_row_169 rfl (by decide) (fun _ => rfl) fun x4 => ?_
  refine hp_iinc (x0 := 2) (d := 1) (fun x5 => [(2, .int x5), (1, .int x4), (0, .ref a0)]) d_M_row_170 rfl (by decide) (by decide) (fun _ => rfl) fun x5 => ?_
  refine hp_goto (tgt := 125) d_M_row_173 (by decide) ?_
  refine hp_sub [2, 1, 0] rfl ?_
  exact hr125 _ _ _ _
def m_M_row_189 (G : Nat → Nat) (s0 : Int32) (h : hp_H) : Option (Int32 × hp_H) := some (s0, h)
set_option maxRecDepth 100000 in
set_option maxHeartbeats 4000000 in
theorem j_M_row_189 {Z : hp_Z} (s0 : Int32) (h : hp_H) : hp_J Y_M_row Z hp_rI h 189 [] [.int s0] (m_M_row_189 (hp_G Z)  s0 h) := by
  unfold m_M_row_189
  exact hp_iret d_M_row_189 rfl
def m_M_row_176 (G : Nat → Nat) (a0 : Nat) (a1 : Int32) (h : hp_H) : Option (Int32 × hp_H) := if a1 = 0 then (m_M_row_189 G (-4 : Int32) h) else ((hp_vck h a0 8 (m_M_keep G a0 h)).bind fun q1 => m_M_row_189 G q1.1 q1.2)
set_option maxRecDepth 100000 in
set_option maxHeartbeats 4000000 in
theorem j_M_row_176 {Z : hp_Z} (a0 : Nat) (a1 : Int32) (h : hp_H) : hp_J Y_M_row Z hp_rI h 176 [(0, .ref a0), (1, .int a1)] [] (m_M_row_176 (hp_G Z)  a0 a1 h) := by
  unfold m_M_row_176
  refine hp_iload_n (x0 := 1) d_M_row_176 rfl rfl ?_
  refine hp_if_eq (tgt := 187) d_M_row_177 (by decide) ?_ ?_
  · refine hp_bipush (v := -4) d_M_row_187 (by decide) ?_
    refine hp_sub [] rfl ?_
    exact j_M_row_189  _ _
  · refine hp_aload_n (x0 := 0) d_M_row_180 rfl rfl ?_
    refine hp_callI (hp_crV (ci := 8) (t_M_keep _ _ _) cw_M_111 rfl ⟨w_992, ws_41⟩ (by decide) rfl rfl (Nat.le_of_ble_eq_true rfl) d_M_row_181) fun q1 => ?_
    refine hp_goto (tgt := 189) d_M_row_184 (by decide) ?_
    refine hp_sub [] rfl ?_
    exact j_M_row_189  _ _
def m_M_row_125 (G : Nat → Nat) : Nat → Nat → Int32 → Int32 → hp_H → Option (Int32 × hp_H)
  | 0, _, _, _, _ => none
  | n + 1, a0, a1, a2, h => (hp_gI h a0 8 26).bind fun x1 => if x1 ≤ a2 then (m_M_row_176 G a0 a1 h) else (if a1 = 0 then (m_M_row_176 G a0 a1 h) else (if a2 ≤ 0 then (m_M_row_159 G (m_M_row_125 G  n) a0 a2 h) else ((hp_gI h a0 8 29).bind fun x2 => (hp_gR h a0 8 6).bind fun x3 => (hp_gI h a0 8 29).bind fun x4 => (hp_aI h .int x3 x4).bind fun x5 => (hp_vck h a0 8 (m_M_letterAll G a0 x2 (0 : Int32) x5 h)).bind fun q6 => m_M_row_159 G (m_M_row_125 G  n) a0 a2 q6.2)))
set_option maxRecDepth 100000 in
set_option maxHeartbeats 4000000 in
theorem j_M_row_125 {Z : hp_Z} : ∀ (n : Nat) (a0 : Nat) (a1 : Int32) (a2 : Int32) (h : hp_H), hp_J Y_M_row Z hp_rI h 125 [(0, .ref a0), (1, .int a1), (2, .int a2)] [] (m_M_row_125 (hp_G Z)  n a0 a1 a2 h) := by
  intro n
  induction n with
  | zero => intro a0 a1 a2 h; exact hp_fail
  | succ n ih =>
    intro a0 a1 a2 h
    rw [m_M_row_125]
    refine hp_iload_n (x0 := 2) d_M_row_125 rfl rfl ?_
    refine hp_aload_n (x0 := 0) d_M_row_126 rfl rfl ?_
    refine hp_getI fl_M_328 d_M_row_127 fun x1 => ?_
    refine hp_icmp_ge (tgt := 176) d_M_row_130 (by decide) ?_ ?_
    · refine hp_sub [0, 1] rfl ?_
      exact j_M_row_176  _ _ _
    · refine hp_iload_n (x0 := 1) d_M_row_133 rfl rfl ?_
      refine hp_if_eq (tgt := 176) d_M_row_134 (by decide) ?_ ?_
      · refine hp_sub [0, 1] rfl ?_
        exact j_M_row_176  _ _ _
      · refine hp_iload_n (x0 := 2) d_M_row_137 rfl rfl ?_
        refine hp_if_le (tgt := 159) d_M_row_138 (by decide) ?_ ?_
        · refine hp_sub [0, 2] rfl ?_
          exact j_M_row_159 _ ih _ _ _
        · refine hp_aload_n (x0 := 0) d_M_row_141 rfl rfl ?_
          refine hp_aload_n (x0 := 0) d_M_row_142 rfl rfl ?_
          refine hp_getI fl_M_325 d_M_row_143 fun x2 => ?_
          refine hp_iconst (v := 0) d_M_row_146 (by decide) ?_
          refine hp_aload_n (x0 := 0) d_M_row_147 rfl rfl ?_
          refine hp_getR fl_M_26 d_M_row_148 fun x3 => ?_
          refine hp_aload_n (x0 := 0) d_M_row_151 rfl rfl ?_
          refine hp_getI fl_M_325 d_M_row_152 fun x4 => ?_
          refine hp_iald d_M_row_155 fun x5 => ?_
          refine hp_callU (hp_crV (ci := 8) (t_M_letterAll _ _ _ _ _ _) cw_M_202 rfl ⟨w_1139, ws_63⟩ (by decide) rfl rfl (Nat.le_of_ble_eq_true rfl) d_M_row_156) fun q6 => ?_
          refine hp_sub [0, 2] rfl ?_
          exact j_M_row_159 _ ih _ _ _
def m_M_row_30 (G : Nat → Nat) : Nat → Nat → Int32 → hp_H → Option (Int32 × hp_H)
  | 0, _, _, _ => none
  | n + 1, a0, a1, h => (hp_gI h a0 8 26).bind fun x1 => if x1 ≤ a1 then ((hp_vck h a0 8 (m_M_start G a0 (5 : Int32) (0 : Int32) h)).bind fun q2 => hp_nm (1 : Int32) fun x3 => hp_nm (0 : Int32) fun x4 => m_M_row_125 G hp_fu a0 x3 x4 q2.2) else (hp_nm (0 : Int32) fun x5 => hp_nm (0 : Int32) fun x6 => m_M_row_42 G (m_M_row_30 G  n) hp_fu a0 a1 x5 x6 h)
set_option maxRecDepth 100000 in
set_option maxHeartbeats 4000000 in
theorem j_M_row_30 {Z : hp_Z} : ∀ (n : Nat) (a0 : Nat) (a1 : Int32) (h : hp_H), hp_J Y_M_row Z hp_rI h 30 [(0, .ref a0), (1, .int a1)] [] (m_M_row_30 (hp_G Z)  n a0 a1 h) := by
  intro n
  induction n with
  | zero => intro a0 a1 h; exact hp_fail
  | succ n ih =>
    intro a0 a1 h
    rw [m_M_row_30]
    refine hp_iload_n (x0 := 1) d_M_row_30 rfl rfl ?_
    refine hp_aload_n (x0 := 0) d_M_row_31 rfl rfl ?_
    refine hp_getI fl_M_328 d_M_row_32 fun x1 => ?_
    refine hp_icmp_ge (tgt := 115) d_M_row_35 (by decide) ?_ ?_
    · refine hp_aload_n (x0 := 0) d_M_row_115 rfl rfl ?_
      refine hp_iconst (v := 5) d_M_row_116 (by decide) ?_
      refine hp_iconst (v := 0) d_M_row_117 (by decide) ?_
      refine hp_callU (hp_crV (ci := 8) (t_M_start _ _ _ _ _) cw_M_103 rfl ⟨w_985, ws_40⟩ (by decide) rfl rfl (Nat.le_of_ble_eq_true rfl) d_M_row_118) fun q2 => ?_
      refine hp_iconst (v := 1) d_M_row_121 (by decide) ?_
      refine hp_istore_n (fun x3 => [(1, .int x3), (0, .ref a0)]) d_M_row_122 rfl (by decide) (fun _ => rfl) fun x3 => ?_
      refine hp_iconst (v := 0) d_M_row_123 (by decide) ?_
      refine hp_istore_n (fun x4 => [(2, .int x4), (1, .int x3), (0, .ref a0)]) d_M_row_124 rfl (by decide) (fun _ => rfl) fun x4 => ?_
      refine hp_sub [2, 1, 0] rfl ?_
      exact j_M_row_125  hp_fu _ _ _ _
    · refine hp_iconst (v := 0) d_M_row_38 (by decide) ?_
      refine hp_istore_n (fun x5 => [(2, .int x5), (0, .ref a0), (1, .int a1)]) d_M_row_39 rfl (by decide) (fun _ => rfl) fun x5 => ?_
      refine hp_iconst (v := 0) d_M_row_40 (by decide) ?_
      refine hp_istore_n (fun x6 => [(3, .int x6), (2, .int x5), (0, .ref a0), (1, .int a1)]) d_M_row_41 rfl (by decide) (fun _ => rfl) fun x6 => ?_
      refine hp_sub [2, 3, 1, 0] rfl ?_
      exact j_M_row_42 _ ih hp_fu _ _ _ _ _
def m_M_row_2 (G : Nat → Nat) : Nat → Nat → Int32 → hp_H → Option (Int32 × hp_H)
  | 0, _, _, _ => none
  | n + 1, a0, a1, h => (hp_gI h a0 8 26).bind fun x1 => if x1 ≤ a1 then (hp_nm (0 : Int32) fun x2 => m_M_row_30 G hp_fu a0 x2 h) else ((hp_gR h a0 8 25).bind fun x3 => (hp_aI h .int x3 a1).bind fun x4 => if x4 = 0 then (some ((-4 : Int32), h)) else (hp_nm (a1 + 1) fun x5 => (m_M_row_2 G  n) a0 x5 h))
set_option maxRecDepth 100000 in
set_option maxHeartbeats 4000000 in
theorem j_M_row_2 {Z : hp_Z} : ∀ (n : Nat) (a0 : Nat) (a1 : Int32) (h : hp_H), hp_J Y_M_row Z hp_rI h 2 [(0, .ref a0), (1, .int a1)] [] (m_M_row_2 (hp_G Z)  n a0 a1 h) := by
  intro n
  induction n with
  | zero => intro a0 a1 h; exact hp_fail
  | succ n ih =>
    intro a0 a1 h
    rw [m_M_row_2]
    refine hp_iload_n (x0 := 1) d_M_row_2 rfl rfl ?_
    refine hp_aload_n (x0 := 0) d_M_row_3 rfl rfl ?_
    refine hp_getI fl_M_328 d_M_row_4 fun x1 => ?_
    refine hp_icmp_ge (tgt := 28) d_M_row_7 (by decide) ?_ ?_
    · refine hp_iconst (v := 0) d_M_row_28 (by decide) ?_
      refine hp_istore_n (fun x2 => [(1, .int x2), (0, .ref a0)]) d_M_row_29 rfl (by decide) (fun _ => rfl) fun x2 => ?_
      refine hp_sub [1, 0] rfl ?_
      exact j_M_row_30  hp_fu _ _ _
    · refine hp_aload_n (x0 := 0) d_M_row_10 rfl rfl ?_
      refine hp_getR fl_M_63 d_M_row_11 fun x3 => ?_
      refine hp_iload_n (x0 := 1) d_M_row_14 rfl rfl ?_
      refine hp_iald d_M_row_15 fun x4 => ?_
      refine hp_if_ne (tgt := 22) d_M_row_16 (by decide) ?_ ?_
      · refine hp_bipush (v := -4) d_M_row_19 (by decide) ?_
        exact hp_iret d_M_row_21 rfl
      · refine hp_iinc (x0 := 1) (d := 1) (fun x5 => [(1, .int x5), (0, .ref a0)]) d_M_row_22 rfl (by decide) (by decide) (fun _ => rfl) fun x5 => ?_
        refine hp_goto (tgt := 2) d_M_row_25 (by decide) ?_
        refine hp_sub [1, 0] rfl ?_
        exact ih _ _ _
def m_M_row (G : Nat → Nat) (a0 : Nat) (h : hp_H) : Option (Int32 × hp_H) := hp_nm (0 : Int32) fun x1 => m_M_row_2 G hp_fu a0 x1 h
set_option maxRecDepth 100000 in
set_option maxHeartbeats 4000000 in
theorem j_M_row_0 {Z : hp_Z} (a0 : Nat) (h : hp_H) : hp_J Y_M_row Z hp_rI h 0 [(0, .ref a0)] [] (m_M_row (hp_G Z)  a0 h) := by
  unfold m_M_row
  refine hp_iconst (v := 0) d_M_row_0 (by decide) ?_
  refine hp_istore_n (fun x1 => [(1, .int x1), (0, .ref a0)]) d_M_row_1 rfl (by decide) (fun _ => rfl) fun x1 => ?_
  refine hp_sub [1, 0] rfl ?_
  exact j_M_row_2  hp_fu _ _ _
theorem t_M_row (l : Launch) (E : hp_E) (a0 : Nat) : hp_M l E y_M_row Y_M_row hp_rI [.ref a0] (m_M_row E.2.2.1 a0) := hp_M.of (plainFor_of_name (by decide)) ⟨rfl, rfl⟩ (Nat.le_of_ble_eq_true rfl) (fun Z h hE => by subst hE; exact j_M_row_0 _ h)
-- M_together
theorem d_M_together_0 : decode prog_9_method_80_code 0 = .ok (.iconst 0, 1) := by decide +kernel
theorem d_M_together_1 : decode prog_9_method_80_code 1 = .ok (.istore_n 1, 1) := by decide +kernel
theorem d_M_together_2 : decode prog_9_method_80_code 2 = .ok (.iconst 0, 1) := by decide +kernel
theorem d_M_together_3 : decode prog_9_method_80_code 3 = .ok (.istore_n 2, 1) := by decide +kernel
theorem d_M_together_4 : decode prog_9_method_80_code 4 = .ok (.iload_n 2, 1) := by decide +kernel
theorem d_M_together_5 : decode prog_9_method_80_code 5 = .ok (.aload_n 0, 1) := by decide +kernel
theorem d_M_together_6 : decode prog_9_method_80_code 6 = .ok (.getfield 328, 3) := by decide +kernel
theorem d_M_together_9 : decode prog_9_method_80_code 9 = .ok (.if_icmp .ge 26, 3) := by decide +kernel
theorem d_M_together_12 : decode prog_9_method_80_code 12 = .ok (.iload_n 1, 1) := by decide +kernel
theorem d_M_together_13 : decode prog_9_method_80_code 13 = .ok (.aload_n 0, 1) := by decide +kernel
theorem d_M_together_14 : decode prog_9_method_80_code 14 = .ok (.getfield 63, 3) := by decide +kernel
theorem d_M_together_17 : decode prog_9_method_80_code 17 = .ok (.iload_n 2, 1) := by decide +kernel
theorem d_M_together_18 : decode prog_9_method_80_code 18 = .ok (.iaload, 1) := by decide +kernel
theorem d_M_together_19 : decode prog_9_method_80_code 19 = .ok (.ifCond .le 7, 3) := by decide +kernel
theorem d_M_together_22 : decode prog_9_method_80_code 22 = .ok (.iconst 1, 1) := by decide +kernel
theorem d_M_together_23 : decode prog_9_method_80_code 23 = .ok (.goto 4, 3) := by decide +kernel
theorem d_M_together_26 : decode prog_9_method_80_code 26 = .ok (.iconst 0, 1) := by decide +kernel
theorem d_M_together_27 : decode prog_9_method_80_code 27 = .ok (.iadd, 1) := by decide +kernel
theorem d_M_together_28 : decode prog_9_method_80_code 28 = .ok (.istore_n 1, 1) := by decide +kernel
theorem d_M_together_29 : decode prog_9_method_80_code 29 = .ok (.iinc 2 1, 3) := by decide +kernel
theorem d_M_together_32 : decode prog_9_method_80_code 32 = .ok (.goto (-28), 3) := by decide +kernel
theorem d_M_together_35 : decode prog_9_method_80_code 35 = .ok (.aload_n 0, 1) := by decide +kernel
theorem d_M_together_36 : decode prog_9_method_80_code 36 = .ok (.getfield 318, 3) := by decide +kernel
theorem d_M_together_39 : decode prog_9_method_80_code 39 = .ok (.tableswitch 95 0 6 #[41, 50, 95, 79, 85, 95, 90], 41) := by decide +kernel
theorem d_M_together_80 : decode prog_9_method_80_code 80 = .ok (.aload_n 0, 1) := by decide +kernel
theorem d_M_together_81 : decode prog_9_method_80_code 81 = .ok (.iload_n 1, 1) := by decide +kernel
theorem d_M_together_82 : decode prog_9_method_80_code 82 = .ok (.i2l, 1) := by decide +kernel
theorem d_M_together_83 : decode prog_9_method_80_code 83 = .ok (.iconst 0, 1) := by decide +kernel
theorem d_M_together_84 : decode prog_9_method_80_code 84 = .ok (.iconst 1, 1) := by decide +kernel
theorem d_M_together_85 : decode prog_9_method_80_code 85 = .ok (.invokevirtual 153, 3) := by decide +kernel
theorem d_M_together_88 : decode prog_9_method_80_code 88 = .ok (.ireturn, 1) := by decide +kernel
theorem d_M_together_89 : decode prog_9_method_80_code 89 = .ok (.aload_n 0, 1) := by decide +kernel
theorem d_M_together_90 : decode prog_9_method_80_code 90 = .ok (.invokevirtual 340, 3) := by decide +kernel
theorem d_M_together_93 : decode prog_9_method_80_code 93 = .ok (.ifCond .eq 22, 3) := by decide +kernel
theorem d_M_together_96 : decode prog_9_method_80_code 96 = .ok (.aload_n 0, 1) := by decide +kernel
theorem d_M_together_97 : decode prog_9_method_80_code 97 = .ok (.aload_n 0, 1) := by decide +kernel
theorem d_M_together_98 : decode prog_9_method_80_code 98 = .ok (.getfield 66, 3) := by decide +kernel
theorem d_M_together_101 : decode prog_9_method_80_code 101 = .ok (.aload_n 0, 1) := by decide +kernel
theorem d_M_together_102 : decode prog_9_method_80_code 102 = .ok (.getfield 331, 3) := by decide +kernel
theorem d_M_together_105 : decode prog_9_method_80_code 105 = .ok (.aload_n 0, 1) := by decide +kernel
theorem d_M_together_106 : decode prog_9_method_80_code 106 = .ok (.getfield 334, 3) := by decide +kernel
theorem d_M_together_109 : decode prog_9_method_80_code 109 = .ok (.invokevirtual 127, 3) := by decide +kernel
theorem d_M_together_112 : decode prog_9_method_80_code 112 = .ok (.goto 5, 3) := by decide +kernel
theorem d_M_together_115 : decode prog_9_method_80_code 115 = .ok (.bipush (-4), 2) := by decide +kernel
theorem d_M_together_117 : decode prog_9_method_80_code 117 = .ok (.ireturn, 1) := by decide +kernel
theorem d_M_together_118 : decode prog_9_method_80_code 118 = .ok (.aload_n 0, 1) := by decide +kernel
theorem d_M_together_119 : decode prog_9_method_80_code 119 = .ok (.iconst 1, 1) := by decide +kernel
theorem d_M_together_120 : decode prog_9_method_80_code 120 = .ok (.invokevirtual 343, 3) := by decide +kernel
theorem d_M_together_123 : decode prog_9_method_80_code 123 = .ok (.ireturn, 1) := by decide +kernel
theorem d_M_together_124 : decode prog_9_method_80_code 124 = .ok (.aload_n 0, 1) := by decide +kernel
theorem d_M_together_125 : decode prog_9_method_80_code 125 = .ok (.invokevirtual 346, 3) := by decide +kernel
theorem d_M_together_128 : decode prog_9_method_80_code 128 = .ok (.ireturn, 1) := by decide +kernel
theorem d_M_together_129 : decode prog_9_method_80_code 129 = .ok (.aload_n 0, 1) := by decide +kernel
theorem d_M_together_130 : decode prog_9_method_80_code 130 = .ok (.invokevirtual 349, 3) := by decide +kernel
theorem d_M_together_133 : decode prog_9_method_80_code 133 = .ok (.ireturn, 1) := by decide +kernel
theorem d_M_together_134 : decode prog_9_method_80_code 134 = .ok (.aload_n 0, 1) := by decide +kernel
theorem d_M_together_135 : decode prog_9_method_80_code 135 = .ok (.iconst (-1), 1) := by decide +kernel
theorem d_M_together_136 : decode prog_9_method_80_code 136 = .ok (.invokevirtual 343, 3) := by decide +kernel
theorem d_M_together_139 : decode prog_9_method_80_code 139 = .ok (.ireturn, 1) := by decide +kernel
def m_M_together_27 (G : Nat → Nat) (r4 : Nat → Int32 → Int32 → hp_H → Option (Int32 × hp_H)) (a0 : Nat) (a2 : Int32) (s0 : Int32) (s1 : Int32) (h : hp_H) : Option (Int32 × hp_H) := hp_nm (s1 + s0) fun x1 => hp_nm (a2 + 1) fun x2 => r4 a0 x1 x2 h
set_option maxRecDepth 100000 in
set_option maxHeartbeats 4000000 in
theorem j_M_together_27 {Z : hp_Z} (r4 : Nat → Int32 → Int32 → hp_H → Option (Int32 × hp_H)) (hr4 : ∀ (a0 : Nat) (a1 : Int32) (a2 : Int32) (h : hp_H), hp_J Y_M_together Z hp_rI h 4 [(0, .ref a0), (1, .int a1), (2, .int a2)] [] (r4 a0 a1 a2  h)) (a0 : Nat) (a2 : Int32) (s0 : Int32) (s1 : Int32) (h : hp_H) : hp_J Y_M_together Z hp_rI h 27 [(0, .ref a0), (2, .int a2)] [.int s0, .int s1] (m_M_together_27 (hp_G Z) r4 a0 a2 s0 s1 h) := by
  unfold m_M_together_27
  refine hp_iadd d_M_together_27 ?_
  refine hp_istore_n (fun x1 => [(1, .int x1), (0, .ref a0), (2, .int a2)]) d_M_together_28 rfl (by decide) (fun _ => rfl) fun x1 => ?_
  refine hp_iinc (x0 := 2) (d := 1) (fun x2 => [(2, .int x2), (1, .int x1), (0, .ref a0)]) d_M_together_29 rfl (by decide) (by decide) (fun _ => rfl) fun x2 => ?_
  refine hp_goto (tgt := 4) d_M_together_32 (by decide) ?_
  refine hp_sub [2, 1, 0] rfl ?_
  exact hr4 _ _ _ _
def m_M_together_117 (G : Nat → Nat) (s0 : Int32) (h : hp_H) : Option (Int32 × hp_H) := some (s0, h)
set_option maxRecDepth 100000 in
set_option maxHeartbeats 4000000 in
theorem j_M_together_117 {Z : hp_Z} (s0 : Int32) (h : hp_H) : hp_J Y_M_together Z hp_rI h 117 [] [.int s0] (m_M_together_117 (hp_G Z)  s0 h) := by
  unfold m_M_together_117
  exact hp_iret d_M_together_117 rfl
def m_M_together_4 (G : Nat → Nat) : Nat → Nat → Int32 → Int32 → hp_H → Option (Int32 × hp_H)
  | 0, _, _, _, _ => none
  | n + 1, a0, a1, a2, h => (hp_gI h a0 8 26).bind fun x1 => if x1 ≤ a2 then ((hp_gI h a0 8 27).bind fun x2 => if x2 = 0 then ((hp_vck h a0 8 (m_M_numbered G a0 a1.toInt64 (0 : Int32) (1 : Int32) h)).bind fun q3 => some (q3.1, q3.2)) else (if x2 = 1 then ((hp_vck h a0 8 (m_M_sumAll G a0 h)).bind fun q4 => if q4.1 = 0 then (m_M_together_117 G (-4 : Int32) q4.2) else ((hp_gR q4.2 a0 8 30).bind fun x5 => (hp_gI q4.2 a0 8 31).bind fun x6 => (hp_gI q4.2 a0 8 32).bind fun x7 => (hp_vck q4.2 a0 8 (m_M_number G a0 x5 x6 x7 q4.2)).bind fun q8 => m_M_together_117 G q8.1 q8.2)) else (if x2 = 2 then ((hp_vck h a0 8 (m_M_extreme G a0 (-1 : Int32) h)).bind fun q9 => some (q9.1, q9.2)) else (if x2 = 3 then ((hp_vck h a0 8 (m_M_extreme G a0 (1 : Int32) h)).bind fun q10 => some (q10.1, q10.2)) else (if x2 = 4 then ((hp_vck h a0 8 (m_M_average G a0 h)).bind fun q11 => some (q11.1, q11.2)) else (if x2 = 5 then ((hp_vck h a0 8 (m_M_extreme G a0 (-1 : Int32) h)).bind fun q12 => some (q12.1, q12.2)) else (if x2 = 6 then ((hp_vck h a0 8 (m_M_row G a0 h)).bind fun q13 => some (q13.1, q13.2)) else ((hp_vck h a0 8 (m_M_extreme G a0 (-1 : Int32) h)).bind fun q14 => some (q14.1, q14.2))))))))) else ((hp_gR h a0 8 25).bind fun x15 => (hp_aI h .int x15 a2).bind fun x16 => if x16 ≤ 0 then (m_M_together_27 G (m_M_together_4 G  n) a0 a2 (0 : Int32) a1 h) else (m_M_together_27 G (m_M_together_4 G  n) a0 a2 (1 : Int32) a1 h))
set_option maxRecDepth 100000 in
set_option maxHeartbeats 4000000 in
theorem j_M_together_4 {Z : hp_Z} : ∀ (n : Nat) (a0 : Nat) (a1 : Int32) (a2 : Int32) (h : hp_H), hp_J Y_M_together Z hp_rI h 4 [(0, .ref a0), (1, .int a1), (2, .int a2)] [] (m_M_together_4 (hp_G Z)  n a0 a1 a2 h) := by
  intro n
  induction n with
  | zero => intro a0 a1 a2 h; exact hp_fail
  | succ n ih =>
    intro a0 a1 a2 h
    rw [m_M_together_4]
    refine hp_iload_n (x0 := 2) d_M_together_4 rfl rfl ?_
    refine hp_aload_n (x0 := 0) d_M_together_5 rfl rfl ?_
    refine hp_getI fl_M_328 d_M_together_6 fun x1 => ?_
    refine hp_icmp_ge (tgt := 35) d_M_together_9 (by decide) ?_ ?_
    · refine hp_aload_n (x0 := 0) d_M_together_35 rfl rfl ?_
      refine hp_getI fl_M_318 d_M_together_36 fun x2 => ?_
      refine hp_ite (fun c0 => ?_) (fun c0 => ?_)
      · refine hp_tabI (tgt := 80) (kv := 0) d_M_together_39 c0 (by decide) (by decide) rfl (by decide) ?_
        refine hp_aload_n (x0 := 0) d_M_together_80 rfl rfl ?_
        refine hp_iload_n (x0 := 1) d_M_together_81 rfl rfl ?_
        refine hp_i2l d_M_together_82 ?_
        refine hp_iconst (v := 0) d_M_together_83 (by decide) ?_
        refine hp_iconst (v := 1) d_M_together_84 (by decide) ?_
        refine hp_callI (hp_crV (ci := 8) (t_M_numbered _ _ _ _ _ _) cw_M_153 rfl ⟨w_973, ws_38⟩ (by decide) rfl rfl (Nat.le_of_ble_eq_true rfl) d_M_together_85) fun q3 => ?_
        exact hp_iret d_M_together_88 rfl
      · skip
        refine hp_ite (fun c1 => ?_) (fun c1 => ?_)
        · refine hp_tabI (tgt := 89) (kv := 1) d_M_together_39 c1 (by decide) (by decide) rfl (by decide) ?_
          refine hp_aload_n (x0 := 0) d_M_together_89 rfl rfl ?_
          refine hp_callI (hp_crV (ci := 8) (t_M_sumAll _ _ _) cw_M_340 rfl ⟨w_1258, ws_84⟩ (by decide) rfl rfl (Nat.le_of_ble_eq_true rfl) d_M_together_90) fun q4 => ?_
          refine hp_if_eq (tgt := 115) d_M_together_93 (by decide) ?_ ?_
          · refine hp_bipush (v := -4) d_M_together_115 (by decide) ?_
            refine hp_sub [] rfl ?_
            exact j_M_together_117  _ _
          · refine hp_aload_n (x0 := 0) d_M_together_96 rfl rfl ?_
            refine hp_aload_n (x0 := 0) d_M_together_97 rfl rfl ?_
            refine hp_getR fl_M_66 d_M_together_98 fun x5 => ?_
            refine hp_aload_n (x0 := 0) d_M_together_101 rfl rfl ?_
            refine hp_getI fl_M_331 d_M_together_102 fun x6 => ?_
            refine hp_aload_n (x0 := 0) d_M_together_105 rfl rfl ?_
            refine hp_getI fl_M_334 d_M_together_106 fun x7 => ?_
            refine hp_callI (hp_crV (ci := 8) (t_M_number _ _ _ _ _ _) cw_M_127 rfl ⟨w_981, ws_39⟩ (by decide) rfl rfl (Nat.le_of_ble_eq_true rfl) d_M_together_109) fun q8 => ?_
            refine hp_goto (tgt := 117) d_M_together_112 (by decide) ?_
            refine hp_sub [] rfl ?_
            exact j_M_together_117  _ _
        · skip
          refine hp_ite (fun c2 => ?_) (fun c2 => ?_)
          · refine hp_tabI (tgt := 134) (kv := 2) d_M_together_39 c2 (by decide) (by decide) rfl (by decide) ?_
            refine hp_aload_n (x0 := 0) d_M_together_134 rfl rfl ?_
            refine hp_iconst (v := -1) d_M_together_135 (by decide) ?_
            refine hp_callI (hp_crV (ci := 8) (t_M_extreme _ _ _ _) cw_M_343 rfl ⟨w_1266, ws_86⟩ (by decide) rfl rfl (Nat.le_of_ble_eq_true rfl) d_M_together_136) fun q9 => ?_
            exact hp_iret d_M_together_139 rfl
          · skip
            refine hp_ite (fun c3 => ?_) (fun c3 => ?_)
            · refine hp_tabI (tgt := 118) (kv := 3) d_M_together_39 c3 (by decide) (by decide) rfl (by decide) ?_
              refine hp_aload_n (x0 := 0) d_M_together_118 rfl rfl ?_
              refine hp_iconst (v := 1) d_M_together_119 (by decide) ?_
              refine hp_callI (hp_crV (ci := 8) (t_M_extreme _ _ _ _) cw_M_343 rfl ⟨w_1266, ws_86⟩ (by decide) rfl rfl (Nat.le_of_ble_eq_true rfl) d_M_together_120) fun q10 => ?_
              exact hp_iret d_M_together_123 rfl
            · skip
              refine hp_ite (fun c4 => ?_) (fun c4 => ?_)
              · refine hp_tabI (tgt := 124) (kv := 4) d_M_together_39 c4 (by decide) (by decide) rfl (by decide) ?_
                refine hp_aload_n (x0 := 0) d_M_together_124 rfl rfl ?_
                refine hp_callI (hp_crV (ci := 8) (t_M_average _ _ _) cw_M_346 rfl ⟨w_1270, ws_87⟩ (by decide) rfl rfl (Nat.le_of_ble_eq_true rfl) d_M_together_125) fun q11 => ?_
                exact hp_iret d_M_together_128 rfl
              · skip
                refine hp_ite (fun c5 => ?_) (fun c5 => ?_)
                · refine hp_tabI (tgt := 134) (kv := 5) d_M_together_39 c5 (by decide) (by decide) rfl (by decide) ?_
                  refine hp_aload_n (x0 := 0) d_M_together_134 rfl rfl ?_
                  refine hp_iconst (v := -1) d_M_together_135 (by decide) ?_
                  refine hp_callI (hp_crV (ci := 8) (t_M_extreme _ _ _ _) cw_M_343 rfl ⟨w_1266, ws_86⟩ (by decide) rfl rfl (Nat.le_of_ble_eq_true rfl) d_M_together_136) fun q12 => ?_
                  exact hp_iret d_M_together_139 rfl
                · skip
                  refine hp_ite (fun c6 => ?_) (fun c6 => ?_)
                  · refine hp_tabI (tgt := 129) (kv := 6) d_M_together_39 c6 (by decide) (by decide) rfl (by decide) ?_
                    refine hp_aload_n (x0 := 0) d_M_together_129 rfl rfl ?_
                    refine hp_callI (hp_crV (ci := 8) (t_M_row _ _ _) cw_M_349 rfl ⟨w_1274, ws_88⟩ (by decide) rfl rfl (Nat.le_of_ble_eq_true rfl) d_M_together_130) fun q13 => ?_
                    exact hp_iret d_M_together_133 rfl
                  · skip
                    refine hp_tabD (tgt := 134) d_M_together_39 (by have e0 := lv_neT c0 (a := 0) (by decide); have e1 := lv_neT c1 (a := 1) (by decide); have e2 := lv_neT c2 (a := 2) (by decide); have e3 := lv_neT c3 (a := 3) (by decide); have e4 := lv_neT c4 (a := 4) (by decide); have e5 := lv_neT c5 (a := 5) (by decide); have e6 := lv_neT c6 (a := 6) (by decide); omega) (by decide) ?_
                    refine hp_aload_n (x0 := 0) d_M_together_134 rfl rfl ?_
                    refine hp_iconst (v := -1) d_M_together_135 (by decide) ?_
                    refine hp_callI (hp_crV (ci := 8) (t_M_extreme _ _ _ _) cw_M_343 rfl ⟨w_1266, ws_86⟩ (by decide) rfl rfl (Nat.le_of_ble_eq_true rfl) d_M_together_136) fun q14 => ?_
                    exact hp_iret d_M_together_139 rfl
    · refine hp_iload_n (x0 := 1) d_M_together_12 rfl rfl ?_
      refine hp_aload_n (x0 := 0) d_M_together_13 rfl rfl ?_
      refine hp_getR fl_M_63 d_M_together_14 fun x15 => ?_
      refine hp_iload_n (x0 := 2) d_M_together_17 rfl rfl ?_
      refine hp_iald d_M_together_18 fun x16 => ?_
      refine hp_if_le (tgt := 26) d_M_together_19 (by decide) ?_ ?_
      · refine hp_iconst (v := 0) d_M_together_26 (by decide) ?_
        refine hp_sub [0, 2] rfl ?_
        exact j_M_together_27 _ ih _ _ _ _ _
      · refine hp_iconst (v := 1) d_M_together_22 (by decide) ?_
        refine hp_goto (tgt := 27) d_M_together_23 (by decide) ?_
        refine hp_sub [0, 2] rfl ?_
        exact j_M_together_27 _ ih _ _ _ _ _
def m_M_together (G : Nat → Nat) (a0 : Nat) (h : hp_H) : Option (Int32 × hp_H) := hp_nm (0 : Int32) fun x1 => hp_nm (0 : Int32) fun x2 => m_M_together_4 G hp_fu a0 x1 x2 h
set_option maxRecDepth 100000 in
set_option maxHeartbeats 4000000 in
theorem j_M_together_0 {Z : hp_Z} (a0 : Nat) (h : hp_H) : hp_J Y_M_together Z hp_rI h 0 [(0, .ref a0)] [] (m_M_together (hp_G Z)  a0 h) := by
  unfold m_M_together
  refine hp_iconst (v := 0) d_M_together_0 (by decide) ?_
  refine hp_istore_n (fun x1 => [(1, .int x1), (0, .ref a0)]) d_M_together_1 rfl (by decide) (fun _ => rfl) fun x1 => ?_
  refine hp_iconst (v := 0) d_M_together_2 (by decide) ?_
  refine hp_istore_n (fun x2 => [(2, .int x2), (1, .int x1), (0, .ref a0)]) d_M_together_3 rfl (by decide) (fun _ => rfl) fun x2 => ?_
  refine hp_sub [2, 1, 0] rfl ?_
  exact j_M_together_4  hp_fu _ _ _ _
theorem t_M_together (l : Launch) (E : hp_E) (a0 : Nat) : hp_M l E y_M_together Y_M_together hp_rI [.ref a0] (m_M_together E.2.2.1 a0) := hp_M.of (plainFor_of_name (by decide)) ⟨rfl, rfl⟩ (Nat.le_of_ble_eq_true rfl) (fun Z h hE => by subst hE; exact j_M_together_0 _ h)
-- L_law
theorem d_L_law_0 : decode code 0 = .ok (.new 7, 3) := by decide +kernel
theorem d_L_law_3 : decode code 3 = .ok (.dup, 1) := by decide +kernel
theorem d_L_law_4 : decode code 4 = .ok (.invokespecial 9, 3) := by decide +kernel
theorem d_L_law_7 : decode code 7 = .ok (.astore_n 1, 1) := by decide +kernel
theorem d_L_law_8 : decode code 8 = .ok (.new 10, 3) := by decide +kernel
theorem d_L_law_11 : decode code 11 = .ok (.dup, 1) := by decide +kernel
theorem d_L_law_12 : decode code 12 = .ok (.invokespecial 12, 3) := by decide +kernel
theorem d_L_law_15 : decode code 15 = .ok (.astore_n 2, 1) := by decide +kernel
theorem d_L_law_16 : decode code 16 = .ok (.iconst 0, 1) := by decide +kernel
theorem d_L_law_17 : decode code 17 = .ok (.istore_n 3, 1) := by decide +kernel
theorem d_L_law_18 : decode code 18 = .ok (.iload_n 3, 1) := by decide +kernel
theorem d_L_law_19 : decode code 19 = .ok (.aload_n 0, 1) := by decide +kernel
theorem d_L_law_20 : decode code 20 = .ok (.arraylength, 1) := by decide +kernel
theorem d_L_law_21 : decode code 21 = .ok (.iconst 4, 1) := by decide +kernel
theorem d_L_law_22 : decode code 22 = .ok (.isub, 1) := by decide +kernel
theorem d_L_law_23 : decode code 23 = .ok (.if_icmp .gt 727, 3) := by decide +kernel
theorem d_L_law_26 : decode code 26 = .ok (.aload_n 0, 1) := by decide +kernel
theorem d_L_law_27 : decode code 27 = .ok (.iload_n 3, 1) := by decide +kernel
theorem d_L_law_28 : decode code 28 = .ok (.iaload, 1) := by decide +kernel
theorem d_L_law_29 : decode code 29 = .ok (.bipush 31, 2) := by decide +kernel
theorem d_L_law_31 : decode code 31 = .ok (.iand, 1) := by decide +kernel
theorem d_L_law_32 : decode code 32 = .ok (.tableswitch 712 0 18 #[92, 155, 208, 271, 310, 343, 376, 409, 433, 466, 479, 512, 545, 558, 591, 604, 617, 676, 699], 92) := by decide +kernel
theorem d_L_law_124 : decode code 124 = .ok (.aload_n 1, 1) := by decide +kernel
theorem d_L_law_125 : decode code 125 = .ok (.aload_n 0, 1) := by decide +kernel
theorem d_L_law_126 : decode code 126 = .ok (.iload_n 3, 1) := by decide +kernel
theorem d_L_law_127 : decode code 127 = .ok (.iconst 1, 1) := by decide +kernel
theorem d_L_law_128 : decode code 128 = .ok (.iadd, 1) := by decide +kernel
theorem d_L_law_129 : decode code 129 = .ok (.iaload, 1) := by decide +kernel
theorem d_L_law_130 : decode code 130 = .ok (.i2l, 1) := by decide +kernel
theorem d_L_law_131 : decode code 131 = .ok (.bipush 32, 2) := by decide +kernel
theorem d_L_law_133 : decode code 133 = .ok (.lshl, 1) := by decide +kernel
theorem d_L_law_134 : decode code 134 = .ok (.aload_n 0, 1) := by decide +kernel
theorem d_L_law_135 : decode code 135 = .ok (.iload_n 3, 1) := by decide +kernel
theorem d_L_law_136 : decode code 136 = .ok (.iconst 2, 1) := by decide +kernel
theorem d_L_law_137 : decode code 137 = .ok (.iadd, 1) := by decide +kernel
theorem d_L_law_138 : decode code 138 = .ok (.iaload, 1) := by decide +kernel
theorem d_L_law_139 : decode code 139 = .ok (.i2l, 1) := by decide +kernel
theorem d_L_law_140 : decode code 140 = .ok (.ldc2_w 13, 3) := by decide +kernel
theorem d_L_law_143 : decode code 143 = .ok (.land, 1) := by decide +kernel
theorem d_L_law_144 : decode code 144 = .ok (.lor, 1) := by decide +kernel
theorem d_L_law_145 : decode code 145 = .ok (.aload_n 0, 1) := by decide +kernel
theorem d_L_law_146 : decode code 146 = .ok (.iload_n 3, 1) := by decide +kernel
theorem d_L_law_147 : decode code 147 = .ok (.iconst 3, 1) := by decide +kernel
theorem d_L_law_148 : decode code 148 = .ok (.iadd, 1) := by decide +kernel
theorem d_L_law_149 : decode code 149 = .ok (.iaload, 1) := by decide +kernel
theorem d_L_law_150 : decode code 150 = .ok (.invokevirtual 15, 3) := by decide +kernel
theorem d_L_law_153 : decode code 153 = .ok (.aload_n 2, 1) := by decide +kernel
theorem d_L_law_154 : decode code 154 = .ok (.aload_n 0, 1) := by decide +kernel
theorem d_L_law_155 : decode code 155 = .ok (.iload_n 3, 1) := by decide +kernel
theorem d_L_law_156 : decode code 156 = .ok (.iconst 1, 1) := by decide +kernel
theorem d_L_law_157 : decode code 157 = .ok (.iadd, 1) := by decide +kernel
theorem d_L_law_158 : decode code 158 = .ok (.iaload, 1) := by decide +kernel
theorem d_L_law_159 : decode code 159 = .ok (.i2l, 1) := by decide +kernel
theorem d_L_law_160 : decode code 160 = .ok (.bipush 32, 2) := by decide +kernel
theorem d_L_law_162 : decode code 162 = .ok (.lshl, 1) := by decide +kernel
theorem d_L_law_163 : decode code 163 = .ok (.aload_n 0, 1) := by decide +kernel
theorem d_L_law_164 : decode code 164 = .ok (.iload_n 3, 1) := by decide +kernel
theorem d_L_law_165 : decode code 165 = .ok (.iconst 2, 1) := by decide +kernel
theorem d_L_law_166 : decode code 166 = .ok (.iadd, 1) := by decide +kernel
theorem d_L_law_167 : decode code 167 = .ok (.iaload, 1) := by decide +kernel
theorem d_L_law_168 : decode code 168 = .ok (.i2l, 1) := by decide +kernel
theorem d_L_law_169 : decode code 169 = .ok (.ldc2_w 13, 3) := by decide +kernel
theorem d_L_law_172 : decode code 172 = .ok (.land, 1) := by decide +kernel
theorem d_L_law_173 : decode code 173 = .ok (.lor, 1) := by decide +kernel
theorem d_L_law_174 : decode code 174 = .ok (.aload_n 0, 1) := by decide +kernel
theorem d_L_law_175 : decode code 175 = .ok (.iload_n 3, 1) := by decide +kernel
theorem d_L_law_176 : decode code 176 = .ok (.iconst 3, 1) := by decide +kernel
theorem d_L_law_177 : decode code 177 = .ok (.iadd, 1) := by decide +kernel
theorem d_L_law_178 : decode code 178 = .ok (.iaload, 1) := by decide +kernel
theorem d_L_law_179 : decode code 179 = .ok (.invokevirtual 19, 3) := by decide +kernel
theorem d_L_law_182 : decode code 182 = .ok (.if_icmp .eq 562, 3) := by decide +kernel
theorem d_L_law_185 : decode code 185 = .ok (.iconst 0, 1) := by decide +kernel
theorem d_L_law_186 : decode code 186 = .ok (.ireturn, 1) := by decide +kernel
theorem d_L_law_187 : decode code 187 = .ok (.aload_n 1, 1) := by decide +kernel
theorem d_L_law_188 : decode code 188 = .ok (.aload_n 0, 1) := by decide +kernel
theorem d_L_law_189 : decode code 189 = .ok (.iload_n 3, 1) := by decide +kernel
theorem d_L_law_190 : decode code 190 = .ok (.iconst 1, 1) := by decide +kernel
theorem d_L_law_191 : decode code 191 = .ok (.iadd, 1) := by decide +kernel
theorem d_L_law_192 : decode code 192 = .ok (.iaload, 1) := by decide +kernel
theorem d_L_law_193 : decode code 193 = .ok (.i2l, 1) := by decide +kernel
theorem d_L_law_194 : decode code 194 = .ok (.bipush 32, 2) := by decide +kernel
theorem d_L_law_196 : decode code 196 = .ok (.lshl, 1) := by decide +kernel
theorem d_L_law_197 : decode code 197 = .ok (.aload_n 0, 1) := by decide +kernel
theorem d_L_law_198 : decode code 198 = .ok (.iload_n 3, 1) := by decide +kernel
theorem d_L_law_199 : decode code 199 = .ok (.iconst 2, 1) := by decide +kernel
theorem d_L_law_200 : decode code 200 = .ok (.iadd, 1) := by decide +kernel
theorem d_L_law_201 : decode code 201 = .ok (.iaload, 1) := by decide +kernel
theorem d_L_law_202 : decode code 202 = .ok (.i2l, 1) := by decide +kernel
theorem d_L_law_203 : decode code 203 = .ok (.ldc2_w 13, 3) := by decide +kernel
theorem d_L_law_206 : decode code 206 = .ok (.land, 1) := by decide +kernel
theorem d_L_law_207 : decode code 207 = .ok (.lor, 1) := by decide +kernel
theorem d_L_law_208 : decode code 208 = .ok (.invokevirtual 20, 3) := by decide +kernel
theorem d_L_law_211 : decode code 211 = .ok (.aload_n 2, 1) := by decide +kernel
theorem d_L_law_212 : decode code 212 = .ok (.aload_n 0, 1) := by decide +kernel
theorem d_L_law_213 : decode code 213 = .ok (.iload_n 3, 1) := by decide +kernel
theorem d_L_law_214 : decode code 214 = .ok (.iconst 1, 1) := by decide +kernel
theorem d_L_law_215 : decode code 215 = .ok (.iadd, 1) := by decide +kernel
theorem d_L_law_216 : decode code 216 = .ok (.iaload, 1) := by decide +kernel
theorem d_L_law_217 : decode code 217 = .ok (.i2l, 1) := by decide +kernel
theorem d_L_law_218 : decode code 218 = .ok (.bipush 32, 2) := by decide +kernel
theorem d_L_law_220 : decode code 220 = .ok (.lshl, 1) := by decide +kernel
theorem d_L_law_221 : decode code 221 = .ok (.aload_n 0, 1) := by decide +kernel
theorem d_L_law_222 : decode code 222 = .ok (.iload_n 3, 1) := by decide +kernel
theorem d_L_law_223 : decode code 223 = .ok (.iconst 2, 1) := by decide +kernel
theorem d_L_law_224 : decode code 224 = .ok (.iadd, 1) := by decide +kernel
theorem d_L_law_225 : decode code 225 = .ok (.iaload, 1) := by decide +kernel
theorem d_L_law_226 : decode code 226 = .ok (.i2l, 1) := by decide +kernel
theorem d_L_law_227 : decode code 227 = .ok (.ldc2_w 13, 3) := by decide +kernel
theorem d_L_law_230 : decode code 230 = .ok (.land, 1) := by decide +kernel
theorem d_L_law_231 : decode code 231 = .ok (.lor, 1) := by decide +kernel
theorem d_L_law_232 : decode code 232 = .ok (.invokevirtual 24, 3) := by decide +kernel
theorem d_L_law_235 : decode code 235 = .ok (.if_icmp .eq 509, 3) := by decide +kernel
theorem d_L_law_238 : decode code 238 = .ok (.iconst 0, 1) := by decide +kernel
theorem d_L_law_239 : decode code 239 = .ok (.ireturn, 1) := by decide +kernel
theorem d_L_law_240 : decode code 240 = .ok (.aload_n 1, 1) := by decide +kernel
theorem d_L_law_241 : decode code 241 = .ok (.aload_n 0, 1) := by decide +kernel
theorem d_L_law_242 : decode code 242 = .ok (.iload_n 3, 1) := by decide +kernel
theorem d_L_law_243 : decode code 243 = .ok (.iconst 1, 1) := by decide +kernel
theorem d_L_law_244 : decode code 244 = .ok (.iadd, 1) := by decide +kernel
theorem d_L_law_245 : decode code 245 = .ok (.iaload, 1) := by decide +kernel
theorem d_L_law_246 : decode code 246 = .ok (.i2l, 1) := by decide +kernel
theorem d_L_law_247 : decode code 247 = .ok (.bipush 32, 2) := by decide +kernel
theorem d_L_law_249 : decode code 249 = .ok (.lshl, 1) := by decide +kernel
theorem d_L_law_250 : decode code 250 = .ok (.aload_n 0, 1) := by decide +kernel
theorem d_L_law_251 : decode code 251 = .ok (.iload_n 3, 1) := by decide +kernel
theorem d_L_law_252 : decode code 252 = .ok (.iconst 2, 1) := by decide +kernel
theorem d_L_law_253 : decode code 253 = .ok (.iadd, 1) := by decide +kernel
theorem d_L_law_254 : decode code 254 = .ok (.iaload, 1) := by decide +kernel
theorem d_L_law_255 : decode code 255 = .ok (.i2l, 1) := by decide +kernel
theorem d_L_law_256 : decode code 256 = .ok (.ldc2_w 13, 3) := by decide +kernel
theorem d_L_law_259 : decode code 259 = .ok (.land, 1) := by decide +kernel
theorem d_L_law_260 : decode code 260 = .ok (.lor, 1) := by decide +kernel
theorem d_L_law_261 : decode code 261 = .ok (.aload_n 0, 1) := by decide +kernel
theorem d_L_law_262 : decode code 262 = .ok (.iload_n 3, 1) := by decide +kernel
theorem d_L_law_263 : decode code 263 = .ok (.iconst 3, 1) := by decide +kernel
theorem d_L_law_264 : decode code 264 = .ok (.iadd, 1) := by decide +kernel
theorem d_L_law_265 : decode code 265 = .ok (.iaload, 1) := by decide +kernel
theorem d_L_law_266 : decode code 266 = .ok (.invokevirtual 25, 3) := by decide +kernel
theorem d_L_law_269 : decode code 269 = .ok (.aload_n 2, 1) := by decide +kernel
theorem d_L_law_270 : decode code 270 = .ok (.aload_n 0, 1) := by decide +kernel
theorem d_L_law_271 : decode code 271 = .ok (.iload_n 3, 1) := by decide +kernel
theorem d_L_law_272 : decode code 272 = .ok (.iconst 1, 1) := by decide +kernel
theorem d_L_law_273 : decode code 273 = .ok (.iadd, 1) := by decide +kernel
theorem d_L_law_274 : decode code 274 = .ok (.iaload, 1) := by decide +kernel
theorem d_L_law_275 : decode code 275 = .ok (.i2l, 1) := by decide +kernel
theorem d_L_law_276 : decode code 276 = .ok (.bipush 32, 2) := by decide +kernel
theorem d_L_law_278 : decode code 278 = .ok (.lshl, 1) := by decide +kernel
theorem d_L_law_279 : decode code 279 = .ok (.aload_n 0, 1) := by decide +kernel
theorem d_L_law_280 : decode code 280 = .ok (.iload_n 3, 1) := by decide +kernel
theorem d_L_law_281 : decode code 281 = .ok (.iconst 2, 1) := by decide +kernel
theorem d_L_law_282 : decode code 282 = .ok (.iadd, 1) := by decide +kernel
theorem d_L_law_283 : decode code 283 = .ok (.iaload, 1) := by decide +kernel
theorem d_L_law_284 : decode code 284 = .ok (.i2l, 1) := by decide +kernel
theorem d_L_law_285 : decode code 285 = .ok (.ldc2_w 13, 3) := by decide +kernel
theorem d_L_law_288 : decode code 288 = .ok (.land, 1) := by decide +kernel
theorem d_L_law_289 : decode code 289 = .ok (.lor, 1) := by decide +kernel
theorem d_L_law_290 : decode code 290 = .ok (.aload_n 0, 1) := by decide +kernel
theorem d_L_law_291 : decode code 291 = .ok (.iload_n 3, 1) := by decide +kernel
theorem d_L_law_292 : decode code 292 = .ok (.iconst 3, 1) := by decide +kernel
theorem d_L_law_293 : decode code 293 = .ok (.iadd, 1) := by decide +kernel
theorem d_L_law_294 : decode code 294 = .ok (.iaload, 1) := by decide +kernel
theorem d_L_law_295 : decode code 295 = .ok (.invokevirtual 28, 3) := by decide +kernel
theorem d_L_law_298 : decode code 298 = .ok (.if_icmp .eq 446, 3) := by decide +kernel
theorem d_L_law_301 : decode code 301 = .ok (.iconst 0, 1) := by decide +kernel
theorem d_L_law_302 : decode code 302 = .ok (.ireturn, 1) := by decide +kernel
theorem d_L_law_303 : decode code 303 = .ok (.aload_n 1, 1) := by decide +kernel
theorem d_L_law_304 : decode code 304 = .ok (.aload_n 0, 1) := by decide +kernel
theorem d_L_law_305 : decode code 305 = .ok (.iload_n 3, 1) := by decide +kernel
theorem d_L_law_306 : decode code 306 = .ok (.iconst 1, 1) := by decide +kernel
theorem d_L_law_307 : decode code 307 = .ok (.iadd, 1) := by decide +kernel
theorem d_L_law_308 : decode code 308 = .ok (.iaload, 1) := by decide +kernel
theorem d_L_law_309 : decode code 309 = .ok (.ifCond .eq 7, 3) := by decide +kernel
theorem d_L_law_312 : decode code 312 = .ok (.iconst 1, 1) := by decide +kernel
theorem d_L_law_313 : decode code 313 = .ok (.goto 4, 3) := by decide +kernel
theorem d_L_law_316 : decode code 316 = .ok (.iconst 0, 1) := by decide +kernel
theorem d_L_law_317 : decode code 317 = .ok (.invokevirtual 29, 3) := by decide +kernel
theorem d_L_law_320 : decode code 320 = .ok (.aload_n 2, 1) := by decide +kernel
theorem d_L_law_321 : decode code 321 = .ok (.aload_n 0, 1) := by decide +kernel
theorem d_L_law_322 : decode code 322 = .ok (.iload_n 3, 1) := by decide +kernel
theorem d_L_law_323 : decode code 323 = .ok (.iconst 1, 1) := by decide +kernel
theorem d_L_law_324 : decode code 324 = .ok (.iadd, 1) := by decide +kernel
theorem d_L_law_325 : decode code 325 = .ok (.iaload, 1) := by decide +kernel
theorem d_L_law_326 : decode code 326 = .ok (.ifCond .eq 7, 3) := by decide +kernel
theorem d_L_law_329 : decode code 329 = .ok (.iconst 1, 1) := by decide +kernel
theorem d_L_law_330 : decode code 330 = .ok (.goto 4, 3) := by decide +kernel
theorem d_L_law_333 : decode code 333 = .ok (.iconst 0, 1) := by decide +kernel
theorem d_L_law_334 : decode code 334 = .ok (.invokevirtual 33, 3) := by decide +kernel
theorem d_L_law_337 : decode code 337 = .ok (.if_icmp .eq 407, 3) := by decide +kernel
theorem d_L_law_340 : decode code 340 = .ok (.iconst 0, 1) := by decide +kernel
theorem d_L_law_341 : decode code 341 = .ok (.ireturn, 1) := by decide +kernel
theorem d_L_law_342 : decode code 342 = .ok (.aload_n 1, 1) := by decide +kernel
theorem d_L_law_343 : decode code 343 = .ok (.aload_n 0, 1) := by decide +kernel
theorem d_L_law_344 : decode code 344 = .ok (.iload_n 3, 1) := by decide +kernel
theorem d_L_law_345 : decode code 345 = .ok (.iconst 1, 1) := by decide +kernel
theorem d_L_law_346 : decode code 346 = .ok (.iadd, 1) := by decide +kernel
theorem d_L_law_347 : decode code 347 = .ok (.iaload, 1) := by decide +kernel
theorem d_L_law_348 : decode code 348 = .ok (.aload_n 0, 1) := by decide +kernel
theorem d_L_law_349 : decode code 349 = .ok (.iload_n 3, 1) := by decide +kernel
theorem d_L_law_350 : decode code 350 = .ok (.iconst 2, 1) := by decide +kernel
theorem d_L_law_351 : decode code 351 = .ok (.iadd, 1) := by decide +kernel
theorem d_L_law_352 : decode code 352 = .ok (.iaload, 1) := by decide +kernel
theorem d_L_law_353 : decode code 353 = .ok (.invokevirtual 34, 3) := by decide +kernel
theorem d_L_law_356 : decode code 356 = .ok (.aload_n 2, 1) := by decide +kernel
theorem d_L_law_357 : decode code 357 = .ok (.aload_n 0, 1) := by decide +kernel
theorem d_L_law_358 : decode code 358 = .ok (.iload_n 3, 1) := by decide +kernel
theorem d_L_law_359 : decode code 359 = .ok (.iconst 1, 1) := by decide +kernel
theorem d_L_law_360 : decode code 360 = .ok (.iadd, 1) := by decide +kernel
theorem d_L_law_361 : decode code 361 = .ok (.iaload, 1) := by decide +kernel
theorem d_L_law_362 : decode code 362 = .ok (.aload_n 0, 1) := by decide +kernel
theorem d_L_law_363 : decode code 363 = .ok (.iload_n 3, 1) := by decide +kernel
theorem d_L_law_364 : decode code 364 = .ok (.iconst 2, 1) := by decide +kernel
theorem d_L_law_365 : decode code 365 = .ok (.iadd, 1) := by decide +kernel
theorem d_L_law_366 : decode code 366 = .ok (.iaload, 1) := by decide +kernel
theorem d_L_law_367 : decode code 367 = .ok (.invokevirtual 38, 3) := by decide +kernel
theorem d_L_law_370 : decode code 370 = .ok (.if_icmp .eq 374, 3) := by decide +kernel
theorem d_L_law_373 : decode code 373 = .ok (.iconst 0, 1) := by decide +kernel
theorem d_L_law_374 : decode code 374 = .ok (.ireturn, 1) := by decide +kernel
theorem d_L_law_375 : decode code 375 = .ok (.aload_n 1, 1) := by decide +kernel
theorem d_L_law_376 : decode code 376 = .ok (.aload_n 0, 1) := by decide +kernel
theorem d_L_law_377 : decode code 377 = .ok (.iload_n 3, 1) := by decide +kernel
theorem d_L_law_378 : decode code 378 = .ok (.iconst 1, 1) := by decide +kernel
theorem d_L_law_379 : decode code 379 = .ok (.iadd, 1) := by decide +kernel
theorem d_L_law_380 : decode code 380 = .ok (.iaload, 1) := by decide +kernel
theorem d_L_law_381 : decode code 381 = .ok (.aload_n 0, 1) := by decide +kernel
theorem d_L_law_382 : decode code 382 = .ok (.iload_n 3, 1) := by decide +kernel
theorem d_L_law_383 : decode code 383 = .ok (.iconst 2, 1) := by decide +kernel
theorem d_L_law_384 : decode code 384 = .ok (.iadd, 1) := by decide +kernel
theorem d_L_law_385 : decode code 385 = .ok (.iaload, 1) := by decide +kernel
theorem d_L_law_386 : decode code 386 = .ok (.invokevirtual 39, 3) := by decide +kernel
theorem d_L_law_389 : decode code 389 = .ok (.aload_n 2, 1) := by decide +kernel
theorem d_L_law_390 : decode code 390 = .ok (.aload_n 0, 1) := by decide +kernel
theorem d_L_law_391 : decode code 391 = .ok (.iload_n 3, 1) := by decide +kernel
theorem d_L_law_392 : decode code 392 = .ok (.iconst 1, 1) := by decide +kernel
theorem d_L_law_393 : decode code 393 = .ok (.iadd, 1) := by decide +kernel
theorem d_L_law_394 : decode code 394 = .ok (.iaload, 1) := by decide +kernel
theorem d_L_law_395 : decode code 395 = .ok (.aload_n 0, 1) := by decide +kernel
theorem d_L_law_396 : decode code 396 = .ok (.iload_n 3, 1) := by decide +kernel
theorem d_L_law_397 : decode code 397 = .ok (.iconst 2, 1) := by decide +kernel
theorem d_L_law_398 : decode code 398 = .ok (.iadd, 1) := by decide +kernel
theorem d_L_law_399 : decode code 399 = .ok (.iaload, 1) := by decide +kernel
theorem d_L_law_400 : decode code 400 = .ok (.invokevirtual 42, 3) := by decide +kernel
theorem d_L_law_403 : decode code 403 = .ok (.if_icmp .eq 341, 3) := by decide +kernel
theorem d_L_law_406 : decode code 406 = .ok (.iconst 0, 1) := by decide +kernel
theorem d_L_law_407 : decode code 407 = .ok (.ireturn, 1) := by decide +kernel
theorem d_L_law_408 : decode code 408 = .ok (.aload_n 1, 1) := by decide +kernel
theorem d_L_law_409 : decode code 409 = .ok (.aload_n 0, 1) := by decide +kernel
theorem d_L_law_410 : decode code 410 = .ok (.iload_n 3, 1) := by decide +kernel
theorem d_L_law_411 : decode code 411 = .ok (.iconst 1, 1) := by decide +kernel
theorem d_L_law_412 : decode code 412 = .ok (.iadd, 1) := by decide +kernel
theorem d_L_law_413 : decode code 413 = .ok (.iaload, 1) := by decide +kernel
theorem d_L_law_414 : decode code 414 = .ok (.aload_n 0, 1) := by decide +kernel
theorem d_L_law_415 : decode code 415 = .ok (.iload_n 3, 1) := by decide +kernel
theorem d_L_law_416 : decode code 416 = .ok (.iconst 2, 1) := by decide +kernel
theorem d_L_law_417 : decode code 417 = .ok (.iadd, 1) := by decide +kernel
theorem d_L_law_418 : decode code 418 = .ok (.iaload, 1) := by decide +kernel
theorem d_L_law_419 : decode code 419 = .ok (.invokevirtual 43, 3) := by decide +kernel
theorem d_L_law_422 : decode code 422 = .ok (.aload_n 2, 1) := by decide +kernel
theorem d_L_law_423 : decode code 423 = .ok (.aload_n 0, 1) := by decide +kernel
theorem d_L_law_424 : decode code 424 = .ok (.iload_n 3, 1) := by decide +kernel
theorem d_L_law_425 : decode code 425 = .ok (.iconst 1, 1) := by decide +kernel
theorem d_L_law_426 : decode code 426 = .ok (.iadd, 1) := by decide +kernel
theorem d_L_law_427 : decode code 427 = .ok (.iaload, 1) := by decide +kernel
theorem d_L_law_428 : decode code 428 = .ok (.aload_n 0, 1) := by decide +kernel
theorem d_L_law_429 : decode code 429 = .ok (.iload_n 3, 1) := by decide +kernel
theorem d_L_law_430 : decode code 430 = .ok (.iconst 2, 1) := by decide +kernel
theorem d_L_law_431 : decode code 431 = .ok (.iadd, 1) := by decide +kernel
theorem d_L_law_432 : decode code 432 = .ok (.iaload, 1) := by decide +kernel
theorem d_L_law_433 : decode code 433 = .ok (.invokevirtual 46, 3) := by decide +kernel
theorem d_L_law_436 : decode code 436 = .ok (.if_icmp .eq 308, 3) := by decide +kernel
theorem d_L_law_439 : decode code 439 = .ok (.iconst 0, 1) := by decide +kernel
theorem d_L_law_440 : decode code 440 = .ok (.ireturn, 1) := by decide +kernel
theorem d_L_law_441 : decode code 441 = .ok (.aload_n 1, 1) := by decide +kernel
theorem d_L_law_442 : decode code 442 = .ok (.aload_n 0, 1) := by decide +kernel
theorem d_L_law_443 : decode code 443 = .ok (.iload_n 3, 1) := by decide +kernel
theorem d_L_law_444 : decode code 444 = .ok (.iconst 1, 1) := by decide +kernel
theorem d_L_law_445 : decode code 445 = .ok (.iadd, 1) := by decide +kernel
theorem d_L_law_446 : decode code 446 = .ok (.iaload, 1) := by decide +kernel
theorem d_L_law_447 : decode code 447 = .ok (.invokevirtual 47, 3) := by decide +kernel
theorem d_L_law_450 : decode code 450 = .ok (.aload_n 2, 1) := by decide +kernel
theorem d_L_law_451 : decode code 451 = .ok (.aload_n 0, 1) := by decide +kernel
theorem d_L_law_452 : decode code 452 = .ok (.iload_n 3, 1) := by decide +kernel
theorem d_L_law_453 : decode code 453 = .ok (.iconst 1, 1) := by decide +kernel
theorem d_L_law_454 : decode code 454 = .ok (.iadd, 1) := by decide +kernel
theorem d_L_law_455 : decode code 455 = .ok (.iaload, 1) := by decide +kernel
theorem d_L_law_456 : decode code 456 = .ok (.invokevirtual 51, 3) := by decide +kernel
theorem d_L_law_459 : decode code 459 = .ok (.lcmp, 1) := by decide +kernel
theorem d_L_law_460 : decode code 460 = .ok (.ifCond .eq 284, 3) := by decide +kernel
theorem d_L_law_463 : decode code 463 = .ok (.iconst 0, 1) := by decide +kernel
theorem d_L_law_464 : decode code 464 = .ok (.ireturn, 1) := by decide +kernel
theorem d_L_law_465 : decode code 465 = .ok (.aload_n 1, 1) := by decide +kernel
theorem d_L_law_466 : decode code 466 = .ok (.aload_n 0, 1) := by decide +kernel
theorem d_L_law_467 : decode code 467 = .ok (.iload_n 3, 1) := by decide +kernel
theorem d_L_law_468 : decode code 468 = .ok (.iconst 1, 1) := by decide +kernel
theorem d_L_law_469 : decode code 469 = .ok (.iadd, 1) := by decide +kernel
theorem d_L_law_470 : decode code 470 = .ok (.iaload, 1) := by decide +kernel
theorem d_L_law_471 : decode code 471 = .ok (.aload_n 0, 1) := by decide +kernel
theorem d_L_law_472 : decode code 472 = .ok (.iload_n 3, 1) := by decide +kernel
theorem d_L_law_473 : decode code 473 = .ok (.iconst 2, 1) := by decide +kernel
theorem d_L_law_474 : decode code 474 = .ok (.iadd, 1) := by decide +kernel
theorem d_L_law_475 : decode code 475 = .ok (.iaload, 1) := by decide +kernel
theorem d_L_law_476 : decode code 476 = .ok (.invokevirtual 52, 3) := by decide +kernel
theorem d_L_law_479 : decode code 479 = .ok (.aload_n 2, 1) := by decide +kernel
theorem d_L_law_480 : decode code 480 = .ok (.aload_n 0, 1) := by decide +kernel
theorem d_L_law_481 : decode code 481 = .ok (.iload_n 3, 1) := by decide +kernel
theorem d_L_law_482 : decode code 482 = .ok (.iconst 1, 1) := by decide +kernel
theorem d_L_law_483 : decode code 483 = .ok (.iadd, 1) := by decide +kernel
theorem d_L_law_484 : decode code 484 = .ok (.iaload, 1) := by decide +kernel
theorem d_L_law_485 : decode code 485 = .ok (.aload_n 0, 1) := by decide +kernel
theorem d_L_law_486 : decode code 486 = .ok (.iload_n 3, 1) := by decide +kernel
theorem d_L_law_487 : decode code 487 = .ok (.iconst 2, 1) := by decide +kernel
theorem d_L_law_488 : decode code 488 = .ok (.iadd, 1) := by decide +kernel
theorem d_L_law_489 : decode code 489 = .ok (.iaload, 1) := by decide +kernel
theorem d_L_law_490 : decode code 490 = .ok (.invokevirtual 55, 3) := by decide +kernel
theorem d_L_law_493 : decode code 493 = .ok (.if_icmp .eq 251, 3) := by decide +kernel
theorem d_L_law_496 : decode code 496 = .ok (.iconst 0, 1) := by decide +kernel
theorem d_L_law_497 : decode code 497 = .ok (.ireturn, 1) := by decide +kernel
theorem d_L_law_498 : decode code 498 = .ok (.aload_n 1, 1) := by decide +kernel
theorem d_L_law_499 : decode code 499 = .ok (.invokevirtual 56, 3) := by decide +kernel
theorem d_L_law_502 : decode code 502 = .ok (.aload_n 2, 1) := by decide +kernel
theorem d_L_law_503 : decode code 503 = .ok (.invokevirtual 60, 3) := by decide +kernel
theorem d_L_law_506 : decode code 506 = .ok (.if_icmp .eq 238, 3) := by decide +kernel
theorem d_L_law_509 : decode code 509 = .ok (.iconst 0, 1) := by decide +kernel
theorem d_L_law_510 : decode code 510 = .ok (.ireturn, 1) := by decide +kernel
theorem d_L_law_511 : decode code 511 = .ok (.aload_n 1, 1) := by decide +kernel
theorem d_L_law_512 : decode code 512 = .ok (.aload_n 0, 1) := by decide +kernel
theorem d_L_law_513 : decode code 513 = .ok (.iload_n 3, 1) := by decide +kernel
theorem d_L_law_514 : decode code 514 = .ok (.iconst 1, 1) := by decide +kernel
theorem d_L_law_515 : decode code 515 = .ok (.iadd, 1) := by decide +kernel
theorem d_L_law_516 : decode code 516 = .ok (.iaload, 1) := by decide +kernel
theorem d_L_law_517 : decode code 517 = .ok (.aload_n 0, 1) := by decide +kernel
theorem d_L_law_518 : decode code 518 = .ok (.iload_n 3, 1) := by decide +kernel
theorem d_L_law_519 : decode code 519 = .ok (.iconst 2, 1) := by decide +kernel
theorem d_L_law_520 : decode code 520 = .ok (.iadd, 1) := by decide +kernel
theorem d_L_law_521 : decode code 521 = .ok (.iaload, 1) := by decide +kernel
theorem d_L_law_522 : decode code 522 = .ok (.invokevirtual 61, 3) := by decide +kernel
theorem d_L_law_525 : decode code 525 = .ok (.aload_n 2, 1) := by decide +kernel
theorem d_L_law_526 : decode code 526 = .ok (.aload_n 0, 1) := by decide +kernel
theorem d_L_law_527 : decode code 527 = .ok (.iload_n 3, 1) := by decide +kernel
theorem d_L_law_528 : decode code 528 = .ok (.iconst 1, 1) := by decide +kernel
theorem d_L_law_529 : decode code 529 = .ok (.iadd, 1) := by decide +kernel
theorem d_L_law_530 : decode code 530 = .ok (.iaload, 1) := by decide +kernel
theorem d_L_law_531 : decode code 531 = .ok (.aload_n 0, 1) := by decide +kernel
theorem d_L_law_532 : decode code 532 = .ok (.iload_n 3, 1) := by decide +kernel
theorem d_L_law_533 : decode code 533 = .ok (.iconst 2, 1) := by decide +kernel
theorem d_L_law_534 : decode code 534 = .ok (.iadd, 1) := by decide +kernel
theorem d_L_law_535 : decode code 535 = .ok (.iaload, 1) := by decide +kernel
theorem d_L_law_536 : decode code 536 = .ok (.invokevirtual 64, 3) := by decide +kernel
theorem d_L_law_539 : decode code 539 = .ok (.if_icmp .eq 205, 3) := by decide +kernel
theorem d_L_law_542 : decode code 542 = .ok (.iconst 0, 1) := by decide +kernel
theorem d_L_law_543 : decode code 543 = .ok (.ireturn, 1) := by decide +kernel
theorem d_L_law_544 : decode code 544 = .ok (.aload_n 1, 1) := by decide +kernel
theorem d_L_law_545 : decode code 545 = .ok (.aload_n 0, 1) := by decide +kernel
theorem d_L_law_546 : decode code 546 = .ok (.iload_n 3, 1) := by decide +kernel
theorem d_L_law_547 : decode code 547 = .ok (.iconst 1, 1) := by decide +kernel
theorem d_L_law_548 : decode code 548 = .ok (.iadd, 1) := by decide +kernel
theorem d_L_law_549 : decode code 549 = .ok (.iaload, 1) := by decide +kernel
theorem d_L_law_550 : decode code 550 = .ok (.aload_n 0, 1) := by decide +kernel
theorem d_L_law_551 : decode code 551 = .ok (.iload_n 3, 1) := by decide +kernel
theorem d_L_law_552 : decode code 552 = .ok (.iconst 2, 1) := by decide +kernel
theorem d_L_law_553 : decode code 553 = .ok (.iadd, 1) := by decide +kernel
theorem d_L_law_554 : decode code 554 = .ok (.iaload, 1) := by decide +kernel
theorem d_L_law_555 : decode code 555 = .ok (.invokevirtual 65, 3) := by decide +kernel
theorem d_L_law_558 : decode code 558 = .ok (.aload_n 2, 1) := by decide +kernel
theorem d_L_law_559 : decode code 559 = .ok (.aload_n 0, 1) := by decide +kernel
theorem d_L_law_560 : decode code 560 = .ok (.iload_n 3, 1) := by decide +kernel
theorem d_L_law_561 : decode code 561 = .ok (.iconst 1, 1) := by decide +kernel
theorem d_L_law_562 : decode code 562 = .ok (.iadd, 1) := by decide +kernel
theorem d_L_law_563 : decode code 563 = .ok (.iaload, 1) := by decide +kernel
theorem d_L_law_564 : decode code 564 = .ok (.aload_n 0, 1) := by decide +kernel
theorem d_L_law_565 : decode code 565 = .ok (.iload_n 3, 1) := by decide +kernel
theorem d_L_law_566 : decode code 566 = .ok (.iconst 2, 1) := by decide +kernel
theorem d_L_law_567 : decode code 567 = .ok (.iadd, 1) := by decide +kernel
theorem d_L_law_568 : decode code 568 = .ok (.iaload, 1) := by decide +kernel
theorem d_L_law_569 : decode code 569 = .ok (.invokevirtual 68, 3) := by decide +kernel
theorem d_L_law_572 : decode code 572 = .ok (.if_icmp .eq 172, 3) := by decide +kernel
theorem d_L_law_575 : decode code 575 = .ok (.iconst 0, 1) := by decide +kernel
theorem d_L_law_576 : decode code 576 = .ok (.ireturn, 1) := by decide +kernel
theorem d_L_law_577 : decode code 577 = .ok (.aload_n 1, 1) := by decide +kernel
theorem d_L_law_578 : decode code 578 = .ok (.invokevirtual 69, 3) := by decide +kernel
theorem d_L_law_581 : decode code 581 = .ok (.aload_n 2, 1) := by decide +kernel
theorem d_L_law_582 : decode code 582 = .ok (.invokevirtual 72, 3) := by decide +kernel
theorem d_L_law_585 : decode code 585 = .ok (.if_icmp .eq 159, 3) := by decide +kernel
theorem d_L_law_588 : decode code 588 = .ok (.iconst 0, 1) := by decide +kernel
theorem d_L_law_589 : decode code 589 = .ok (.ireturn, 1) := by decide +kernel
theorem d_L_law_590 : decode code 590 = .ok (.aload_n 1, 1) := by decide +kernel
theorem d_L_law_591 : decode code 591 = .ok (.aload_n 0, 1) := by decide +kernel
theorem d_L_law_592 : decode code 592 = .ok (.iload_n 3, 1) := by decide +kernel
theorem d_L_law_593 : decode code 593 = .ok (.iconst 1, 1) := by decide +kernel
theorem d_L_law_594 : decode code 594 = .ok (.iadd, 1) := by decide +kernel
theorem d_L_law_595 : decode code 595 = .ok (.iaload, 1) := by decide +kernel
theorem d_L_law_596 : decode code 596 = .ok (.aload_n 0, 1) := by decide +kernel
theorem d_L_law_597 : decode code 597 = .ok (.iload_n 3, 1) := by decide +kernel
theorem d_L_law_598 : decode code 598 = .ok (.iconst 2, 1) := by decide +kernel
theorem d_L_law_599 : decode code 599 = .ok (.iadd, 1) := by decide +kernel
theorem d_L_law_600 : decode code 600 = .ok (.iaload, 1) := by decide +kernel
theorem d_L_law_601 : decode code 601 = .ok (.invokevirtual 73, 3) := by decide +kernel
theorem d_L_law_604 : decode code 604 = .ok (.aload_n 2, 1) := by decide +kernel
theorem d_L_law_605 : decode code 605 = .ok (.aload_n 0, 1) := by decide +kernel
theorem d_L_law_606 : decode code 606 = .ok (.iload_n 3, 1) := by decide +kernel
theorem d_L_law_607 : decode code 607 = .ok (.iconst 1, 1) := by decide +kernel
theorem d_L_law_608 : decode code 608 = .ok (.iadd, 1) := by decide +kernel
theorem d_L_law_609 : decode code 609 = .ok (.iaload, 1) := by decide +kernel
theorem d_L_law_610 : decode code 610 = .ok (.aload_n 0, 1) := by decide +kernel
theorem d_L_law_611 : decode code 611 = .ok (.iload_n 3, 1) := by decide +kernel
theorem d_L_law_612 : decode code 612 = .ok (.iconst 2, 1) := by decide +kernel
theorem d_L_law_613 : decode code 613 = .ok (.iadd, 1) := by decide +kernel
theorem d_L_law_614 : decode code 614 = .ok (.iaload, 1) := by decide +kernel
theorem d_L_law_615 : decode code 615 = .ok (.invokevirtual 77, 3) := by decide +kernel
theorem d_L_law_618 : decode code 618 = .ok (.if_icmp .eq 126, 3) := by decide +kernel
theorem d_L_law_621 : decode code 621 = .ok (.iconst 0, 1) := by decide +kernel
theorem d_L_law_622 : decode code 622 = .ok (.ireturn, 1) := by decide +kernel
theorem d_L_law_623 : decode code 623 = .ok (.aload_n 1, 1) := by decide +kernel
theorem d_L_law_624 : decode code 624 = .ok (.invokevirtual 78, 3) := by decide +kernel
theorem d_L_law_627 : decode code 627 = .ok (.aload_n 2, 1) := by decide +kernel
theorem d_L_law_628 : decode code 628 = .ok (.invokevirtual 81, 3) := by decide +kernel
theorem d_L_law_631 : decode code 631 = .ok (.if_icmp .eq 113, 3) := by decide +kernel
theorem d_L_law_634 : decode code 634 = .ok (.iconst 0, 1) := by decide +kernel
theorem d_L_law_635 : decode code 635 = .ok (.ireturn, 1) := by decide +kernel
theorem d_L_law_636 : decode code 636 = .ok (.aload_n 1, 1) := by decide +kernel
theorem d_L_law_637 : decode code 637 = .ok (.invokevirtual 82, 3) := by decide +kernel
theorem d_L_law_640 : decode code 640 = .ok (.aload_n 2, 1) := by decide +kernel
theorem d_L_law_641 : decode code 641 = .ok (.invokevirtual 85, 3) := by decide +kernel
theorem d_L_law_644 : decode code 644 = .ok (.if_icmp .eq 100, 3) := by decide +kernel
theorem d_L_law_647 : decode code 647 = .ok (.iconst 0, 1) := by decide +kernel
theorem d_L_law_648 : decode code 648 = .ok (.ireturn, 1) := by decide +kernel
theorem d_L_law_649 : decode code 649 = .ok (.aload_n 1, 1) := by decide +kernel
theorem d_L_law_650 : decode code 650 = .ok (.aload_n 0, 1) := by decide +kernel
theorem d_L_law_651 : decode code 651 = .ok (.iload_n 3, 1) := by decide +kernel
theorem d_L_law_652 : decode code 652 = .ok (.iconst 1, 1) := by decide +kernel
theorem d_L_law_653 : decode code 653 = .ok (.iadd, 1) := by decide +kernel
theorem d_L_law_654 : decode code 654 = .ok (.iaload, 1) := by decide +kernel
theorem d_L_law_655 : decode code 655 = .ok (.aload_n 0, 1) := by decide +kernel
theorem d_L_law_656 : decode code 656 = .ok (.iload_n 3, 1) := by decide +kernel
theorem d_L_law_657 : decode code 657 = .ok (.iconst 2, 1) := by decide +kernel
theorem d_L_law_658 : decode code 658 = .ok (.iadd, 1) := by decide +kernel
theorem d_L_law_659 : decode code 659 = .ok (.iaload, 1) := by decide +kernel
theorem d_L_law_660 : decode code 660 = .ok (.ifCond .eq 7, 3) := by decide +kernel
theorem d_L_law_663 : decode code 663 = .ok (.iconst 1, 1) := by decide +kernel
theorem d_L_law_664 : decode code 664 = .ok (.goto 4, 3) := by decide +kernel
theorem d_L_law_667 : decode code 667 = .ok (.iconst 0, 1) := by decide +kernel
theorem d_L_law_668 : decode code 668 = .ok (.aload_n 0, 1) := by decide +kernel
theorem d_L_law_669 : decode code 669 = .ok (.iload_n 3, 1) := by decide +kernel
theorem d_L_law_670 : decode code 670 = .ok (.iconst 3, 1) := by decide +kernel
theorem d_L_law_671 : decode code 671 = .ok (.iadd, 1) := by decide +kernel
theorem d_L_law_672 : decode code 672 = .ok (.iaload, 1) := by decide +kernel
theorem d_L_law_673 : decode code 673 = .ok (.invokevirtual 86, 3) := by decide +kernel
theorem d_L_law_676 : decode code 676 = .ok (.aload_n 2, 1) := by decide +kernel
theorem d_L_law_677 : decode code 677 = .ok (.aload_n 0, 1) := by decide +kernel
theorem d_L_law_678 : decode code 678 = .ok (.iload_n 3, 1) := by decide +kernel
theorem d_L_law_679 : decode code 679 = .ok (.iconst 1, 1) := by decide +kernel
theorem d_L_law_680 : decode code 680 = .ok (.iadd, 1) := by decide +kernel
theorem d_L_law_681 : decode code 681 = .ok (.iaload, 1) := by decide +kernel
theorem d_L_law_682 : decode code 682 = .ok (.aload_n 0, 1) := by decide +kernel
theorem d_L_law_683 : decode code 683 = .ok (.iload_n 3, 1) := by decide +kernel
theorem d_L_law_684 : decode code 684 = .ok (.iconst 2, 1) := by decide +kernel
theorem d_L_law_685 : decode code 685 = .ok (.iadd, 1) := by decide +kernel
theorem d_L_law_686 : decode code 686 = .ok (.iaload, 1) := by decide +kernel
theorem d_L_law_687 : decode code 687 = .ok (.ifCond .eq 7, 3) := by decide +kernel
theorem d_L_law_690 : decode code 690 = .ok (.iconst 1, 1) := by decide +kernel
theorem d_L_law_691 : decode code 691 = .ok (.goto 4, 3) := by decide +kernel
theorem d_L_law_694 : decode code 694 = .ok (.iconst 0, 1) := by decide +kernel
theorem d_L_law_695 : decode code 695 = .ok (.aload_n 0, 1) := by decide +kernel
theorem d_L_law_696 : decode code 696 = .ok (.iload_n 3, 1) := by decide +kernel
theorem d_L_law_697 : decode code 697 = .ok (.iconst 3, 1) := by decide +kernel
theorem d_L_law_698 : decode code 698 = .ok (.iadd, 1) := by decide +kernel
theorem d_L_law_699 : decode code 699 = .ok (.iaload, 1) := by decide +kernel
theorem d_L_law_700 : decode code 700 = .ok (.invokevirtual 90, 3) := by decide +kernel
theorem d_L_law_703 : decode code 703 = .ok (.if_icmp .eq 41, 3) := by decide +kernel
theorem d_L_law_706 : decode code 706 = .ok (.iconst 0, 1) := by decide +kernel
theorem d_L_law_707 : decode code 707 = .ok (.ireturn, 1) := by decide +kernel
theorem d_L_law_708 : decode code 708 = .ok (.aload_n 1, 1) := by decide +kernel
theorem d_L_law_709 : decode code 709 = .ok (.aload_n 0, 1) := by decide +kernel
theorem d_L_law_710 : decode code 710 = .ok (.iload_n 3, 1) := by decide +kernel
theorem d_L_law_711 : decode code 711 = .ok (.iconst 1, 1) := by decide +kernel
theorem d_L_law_712 : decode code 712 = .ok (.iadd, 1) := by decide +kernel
theorem d_L_law_713 : decode code 713 = .ok (.iaload, 1) := by decide +kernel
theorem d_L_law_714 : decode code 714 = .ok (.invokevirtual 91, 3) := by decide +kernel
theorem d_L_law_717 : decode code 717 = .ok (.aload_n 2, 1) := by decide +kernel
theorem d_L_law_718 : decode code 718 = .ok (.aload_n 0, 1) := by decide +kernel
theorem d_L_law_719 : decode code 719 = .ok (.iload_n 3, 1) := by decide +kernel
theorem d_L_law_720 : decode code 720 = .ok (.iconst 1, 1) := by decide +kernel
theorem d_L_law_721 : decode code 721 = .ok (.iadd, 1) := by decide +kernel
theorem d_L_law_722 : decode code 722 = .ok (.iaload, 1) := by decide +kernel
theorem d_L_law_723 : decode code 723 = .ok (.invokevirtual 95, 3) := by decide +kernel
theorem d_L_law_726 : decode code 726 = .ok (.if_icmp .eq 18, 3) := by decide +kernel
theorem d_L_law_729 : decode code 729 = .ok (.iconst 0, 1) := by decide +kernel
theorem d_L_law_730 : decode code 730 = .ok (.ireturn, 1) := by decide +kernel
theorem d_L_law_731 : decode code 731 = .ok (.aload_n 1, 1) := by decide +kernel
theorem d_L_law_732 : decode code 732 = .ok (.invokevirtual 96, 3) := by decide +kernel
theorem d_L_law_735 : decode code 735 = .ok (.aload_n 2, 1) := by decide +kernel
theorem d_L_law_736 : decode code 736 = .ok (.invokevirtual 99, 3) := by decide +kernel
theorem d_L_law_739 : decode code 739 = .ok (.if_icmp .eq 5, 3) := by decide +kernel
theorem d_L_law_742 : decode code 742 = .ok (.iconst 0, 1) := by decide +kernel
theorem d_L_law_743 : decode code 743 = .ok (.ireturn, 1) := by decide +kernel
theorem d_L_law_744 : decode code 744 = .ok (.iinc 3 4, 3) := by decide +kernel
theorem d_L_law_747 : decode code 747 = .ok (.goto (-729), 3) := by decide +kernel
theorem d_L_law_750 : decode code 750 = .ok (.iconst 1, 1) := by decide +kernel
theorem d_L_law_751 : decode code 751 = .ok (.ireturn, 1) := by decide +kernel
def m_L_law_744 (G : Nat → Nat) (r18 : Nat → Nat → Nat → Int32 → hp_H → Option (Int32 × hp_H)) (a0 : Nat) (a1 : Nat) (a2 : Nat) (a3 : Int32) (h : hp_H) : Option (Int32 × hp_H) := hp_nm (a3 + 4) fun x1 => r18 a0 a1 a2 x1 h
set_option maxRecDepth 100000 in
set_option maxHeartbeats 4000000 in
theorem j_L_law_744 {Z : hp_Z} (r18 : Nat → Nat → Nat → Int32 → hp_H → Option (Int32 × hp_H)) (hr18 : ∀ (a0 : Nat) (a1 : Nat) (a2 : Nat) (a3 : Int32) (h : hp_H), hp_J Y_L_law Z hp_rI h 18 [(0, .ref a0), (1, .ref a1), (2, .ref a2), (3, .int a3)] [] (r18 a0 a1 a2 a3  h)) (a0 : Nat) (a1 : Nat) (a2 : Nat) (a3 : Int32) (h : hp_H) : hp_J Y_L_law Z hp_rI h 744 [(0, .ref a0), (1, .ref a1), (2, .ref a2), (3, .int a3)] [] (m_L_law_744 (hp_G Z) r18 a0 a1 a2 a3 h) := by
  unfold m_L_law_744
  refine hp_iinc (x0 := 3) (d := 4) (fun x1 => [(3, .int x1), (0, .ref a0), (1, .ref a1), (2, .ref a2)]) d_L_law_744 rfl (by decide) (by decide) (fun _ => rfl) fun x1 => ?_
  refine hp_goto (tgt := 18) d_L_law_747 (by decide) ?_
  refine hp_sub [1, 2, 3, 0] rfl ?_
  exact hr18 _ _ _ _ _
def m_L_law_334 (G : Nat → Nat) (r18 : Nat → Nat → Nat → Int32 → hp_H → Option (Int32 × hp_H)) (a0 : Nat) (a1 : Nat) (a2 : Nat) (a3 : Int32) (s0 : Int32) (s1 : Nat) (s2 : Int32) (h : hp_H) : Option (Int32 × hp_H) := (hp_vck h s1 8 (m_M_truth G s1 s0 h)).bind fun q1 => if s2 = q1.1 then (m_L_law_744 G r18 a0 a1 a2 a3 q1.2) else (hp_z (0 : Int32) q1.2)
set_option maxRecDepth 100000 in
set_option maxHeartbeats 4000000 in
theorem j_L_law_334 {Z : hp_Z} (r18 : Nat → Nat → Nat → Int32 → hp_H → Option (Int32 × hp_H)) (hr18 : ∀ (a0 : Nat) (a1 : Nat) (a2 : Nat) (a3 : Int32) (h : hp_H), hp_J Y_L_law Z hp_rI h 18 [(0, .ref a0), (1, .ref a1), (2, .ref a2), (3, .int a3)] [] (r18 a0 a1 a2 a3  h)) (a0 : Nat) (a1 : Nat) (a2 : Nat) (a3 : Int32) (s0 : Int32) (s1 : Nat) (s2 : Int32) (h : hp_H) : hp_J Y_L_law Z hp_rI h 334 [(0, .ref a0), (1, .ref a1), (2, .ref a2), (3, .int a3)] [.int s0, .ref s1, .int s2] (m_L_law_334 (hp_G Z) r18 a0 a1 a2 a3 s0 s1 s2 h) := by
  unfold m_L_law_334
  refine hp_callI (hp_crV (ci := 8) (t_M_truth _ _ _ _) cw_L_33 rfl ⟨w_1003, w_1004⟩ (by decide) rfl rfl (Nat.le_of_ble_eq_true rfl) d_L_law_334) fun q1 => ?_
  refine hp_icmp_eq (tgt := 744) d_L_law_337 (by decide) ?_ ?_
  · exact j_L_law_744 _ hr18 _ _ _ _ _
  · refine hp_iconst (v := 0) d_L_law_340 (by decide) ?_
    exact hp_zret d_L_law_341 rfl
def m_L_law_317 (G : Nat → Nat) (r18 : Nat → Nat → Nat → Int32 → hp_H → Option (Int32 × hp_H)) (a0 : Nat) (a1 : Nat) (a2 : Nat) (a3 : Int32) (s0 : Int32) (s1 : Nat) (h : hp_H) : Option (Int32 × hp_H) := (hp_vck h s1 0 (m_D_truth G s1 s0 h)).bind fun q1 => (hp_aI q1.2 .int a0 (a3 + (1 : Int32))).bind fun x2 => if x2 = 0 then (m_L_law_334 G r18 a0 a1 a2 a3 (0 : Int32) a2 q1.1 q1.2) else (m_L_law_334 G r18 a0 a1 a2 a3 (1 : Int32) a2 q1.1 q1.2)
set_option maxRecDepth 100000 in
set_option maxHeartbeats 4000000 in
theorem j_L_law_317 {Z : hp_Z} (r18 : Nat → Nat → Nat → Int32 → hp_H → Option (Int32 × hp_H)) (hr18 : ∀ (a0 : Nat) (a1 : Nat) (a2 : Nat) (a3 : Int32) (h : hp_H), hp_J Y_L_law Z hp_rI h 18 [(0, .ref a0), (1, .ref a1), (2, .ref a2), (3, .int a3)] [] (r18 a0 a1 a2 a3  h)) (a0 : Nat) (a1 : Nat) (a2 : Nat) (a3 : Int32) (s0 : Int32) (s1 : Nat) (h : hp_H) : hp_J Y_L_law Z hp_rI h 317 [(0, .ref a0), (1, .ref a1), (2, .ref a2), (3, .int a3)] [.int s0, .ref s1] (m_L_law_317 (hp_G Z) r18 a0 a1 a2 a3 s0 s1 h) := by
  unfold m_L_law_317
  refine hp_callI (hp_crV (ci := 0) (t_D_truth _ _ _ _) cw_L_29 rfl ⟨w_387, w_388⟩ (by decide) rfl rfl (Nat.le_of_ble_eq_true rfl) d_L_law_317) fun q1 => ?_
  refine hp_aload_n (x0 := 2) d_L_law_320 rfl rfl ?_
  refine hp_aload_n (x0 := 0) d_L_law_321 rfl rfl ?_
  refine hp_iload_n (x0 := 3) d_L_law_322 rfl rfl ?_
  refine hp_iconst (v := 1) d_L_law_323 (by decide) ?_
  refine hp_iadd d_L_law_324 ?_
  refine hp_iald d_L_law_325 fun x2 => ?_
  refine hp_if_eq (tgt := 333) d_L_law_326 (by decide) ?_ ?_
  · refine hp_iconst (v := 0) d_L_law_333 (by decide) ?_
    exact j_L_law_334 _ hr18 _ _ _ _ _ _ _ _
  · refine hp_iconst (v := 1) d_L_law_329 (by decide) ?_
    refine hp_goto (tgt := 334) d_L_law_330 (by decide) ?_
    exact j_L_law_334 _ hr18 _ _ _ _ _ _ _ _
def m_L_law_695 (G : Nat → Nat) (r18 : Nat → Nat → Nat → Int32 → hp_H → Option (Int32 × hp_H)) (a0 : Nat) (a1 : Nat) (a2 : Nat) (a3 : Int32) (s0 : Int32) (s1 : Int32) (s2 : Nat) (s3 : Int32) (h : hp_H) : Option (Int32 × hp_H) := (hp_aI h .int a0 (a3 + (3 : Int32))).bind fun x1 => (hp_vck h s2 8 (m_M_gather G s2 s1 s0 x1 h)).bind fun q2 => if s3 = q2.1 then (m_L_law_744 G r18 a0 a1 a2 a3 q2.2) else (hp_z (0 : Int32) q2.2)
set_option maxRecDepth 100000 in
set_option maxHeartbeats 4000000 in
theorem j_L_law_695 {Z : hp_Z} (r18 : Nat → Nat → Nat → Int32 → hp_H → Option (Int32 × hp_H)) (hr18 : ∀ (a0 : Nat) (a1 : Nat) (a2 : Nat) (a3 : Int32) (h : hp_H), hp_J Y_L_law Z hp_rI h 18 [(0, .ref a0), (1, .ref a1), (2, .ref a2), (3, .int a3)] [] (r18 a0 a1 a2 a3  h)) (a0 : Nat) (a1 : Nat) (a2 : Nat) (a3 : Int32) (s0 : Int32) (s1 : Int32) (s2 : Nat) (s3 : Int32) (h : hp_H) : hp_J Y_L_law Z hp_rI h 695 [(0, .ref a0), (1, .ref a1), (2, .ref a2), (3, .int a3)] [.int s0, .int s1, .ref s2, .int s3] (m_L_law_695 (hp_G Z) r18 a0 a1 a2 a3 s0 s1 s2 s3 h) := by
  unfold m_L_law_695
  refine hp_aload_n (x0 := 0) d_L_law_695 rfl rfl ?_
  refine hp_iload_n (x0 := 3) d_L_law_696 rfl rfl ?_
  refine hp_iconst (v := 3) d_L_law_697 (by decide) ?_
  refine hp_iadd d_L_law_698 ?_
  refine hp_iald d_L_law_699 fun x1 => ?_
  refine hp_callI (hp_crV (ci := 8) (t_M_gather _ _ _ _ _ _) cw_L_90 rfl ⟨w_1245, w_1246⟩ (by decide) rfl rfl (Nat.le_of_ble_eq_true rfl) d_L_law_700) fun q2 => ?_
  refine hp_icmp_eq (tgt := 744) d_L_law_703 (by decide) ?_ ?_
  · exact j_L_law_744 _ hr18 _ _ _ _ _
  · refine hp_iconst (v := 0) d_L_law_706 (by decide) ?_
    exact hp_zret d_L_law_707 rfl
def m_L_law_668 (G : Nat → Nat) (r18 : Nat → Nat → Nat → Int32 → hp_H → Option (Int32 × hp_H)) (a0 : Nat) (a1 : Nat) (a2 : Nat) (a3 : Int32) (s0 : Int32) (s1 : Int32) (s2 : Nat) (h : hp_H) : Option (Int32 × hp_H) := (hp_aI h .int a0 (a3 + (3 : Int32))).bind fun x1 => (hp_vck h s2 0 (m_D_gather G s2 s1 s0 x1 h)).bind fun q2 => (hp_aI q2.2 .int a0 (a3 + (1 : Int32))).bind fun x3 => (hp_aI q2.2 .int a0 (a3 + (2 : Int32))).bind fun x4 => if x4 = 0 then (m_L_law_695 G r18 a0 a1 a2 a3 (0 : Int32) x3 a2 q2.1 q2.2) else (m_L_law_695 G r18 a0 a1 a2 a3 (1 : Int32) x3 a2 q2.1 q2.2)
set_option maxRecDepth 100000 in
set_option maxHeartbeats 4000000 in
theorem j_L_law_668 {Z : hp_Z} (r18 : Nat → Nat → Nat → Int32 → hp_H → Option (Int32 × hp_H)) (hr18 : ∀ (a0 : Nat) (a1 : Nat) (a2 : Nat) (a3 : Int32) (h : hp_H), hp_J Y_L_law Z hp_rI h 18 [(0, .ref a0), (1, .ref a1), (2, .ref a2), (3, .int a3)] [] (r18 a0 a1 a2 a3  h)) (a0 : Nat) (a1 : Nat) (a2 : Nat) (a3 : Int32) (s0 : Int32) (s1 : Int32) (s2 : Nat) (h : hp_H) : hp_J Y_L_law Z hp_rI h 668 [(0, .ref a0), (1, .ref a1), (2, .ref a2), (3, .int a3)] [.int s0, .int s1, .ref s2] (m_L_law_668 (hp_G Z) r18 a0 a1 a2 a3 s0 s1 s2 h) := by
  unfold m_L_law_668
  refine hp_aload_n (x0 := 0) d_L_law_668 rfl rfl ?_
  refine hp_iload_n (x0 := 3) d_L_law_669 rfl rfl ?_
  refine hp_iconst (v := 3) d_L_law_670 (by decide) ?_
  refine hp_iadd d_L_law_671 ?_
  refine hp_iald d_L_law_672 fun x1 => ?_
  refine hp_callI (hp_crV (ci := 0) (t_D_gather _ _ _ _ _ _) cw_L_86 rfl ⟨w_782, w_783⟩ (by decide) rfl rfl (Nat.le_of_ble_eq_true rfl) d_L_law_673) fun q2 => ?_
  refine hp_aload_n (x0 := 2) d_L_law_676 rfl rfl ?_
  refine hp_aload_n (x0 := 0) d_L_law_677 rfl rfl ?_
  refine hp_iload_n (x0 := 3) d_L_law_678 rfl rfl ?_
  refine hp_iconst (v := 1) d_L_law_679 (by decide) ?_
  refine hp_iadd d_L_law_680 ?_
  refine hp_iald d_L_law_681 fun x3 => ?_
  refine hp_aload_n (x0 := 0) d_L_law_682 rfl rfl ?_
  refine hp_iload_n (x0 := 3) d_L_law_683 rfl rfl ?_
  refine hp_iconst (v := 2) d_L_law_684 (by decide) ?_
  refine hp_iadd d_L_law_685 ?_
  refine hp_iald d_L_law_686 fun x4 => ?_
  refine hp_if_eq (tgt := 694) d_L_law_687 (by decide) ?_ ?_
  · refine hp_iconst (v := 0) d_L_law_694 (by decide) ?_
    exact j_L_law_695 _ hr18 _ _ _ _ _ _ _ _ _
  · refine hp_iconst (v := 1) d_L_law_690 (by decide) ?_
    refine hp_goto (tgt := 695) d_L_law_691 (by decide) ?_
    exact j_L_law_695 _ hr18 _ _ _ _ _ _ _ _ _
def m_L_law_18 (G : Nat → Nat) : Nat → Nat → Nat → Nat → Int32 → hp_H → Option (Int32 × hp_H)
  | 0, _, _, _, _, _ => none
  | n + 1, a0, a1, a2, a3, h => (hp_len h a0).bind fun x1 => if (x1 - (4 : Int32)) < a3 then (hp_z (1 : Int32) h) else ((hp_aI h .int a0 a3).bind fun x2 => if (x2 &&& (31 : Int32)) = 0 then ((hp_aI h .int a0 (a3 + (1 : Int32))).bind fun x3 => (hp_aI h .int a0 (a3 + (2 : Int32))).bind fun x4 => (hp_aI h .int a0 (a3 + (3 : Int32))).bind fun x5 => (hp_vck h a1 0 (m_D_type G a1 ((x3.toInt64 <<< ((32 : Int32).toInt64 &&& 63)) ||| (x4.toInt64 &&& (4294967295 : Int64))) x5 h)).bind fun q6 => (hp_aI q6.2 .int a0 (a3 + (1 : Int32))).bind fun x7 => (hp_aI q6.2 .int a0 (a3 + (2 : Int32))).bind fun x8 => (hp_aI q6.2 .int a0 (a3 + (3 : Int32))).bind fun x9 => (hp_vck q6.2 a2 8 (m_M_type G a2 ((x7.toInt64 <<< ((32 : Int32).toInt64 &&& 63)) ||| (x8.toInt64 &&& (4294967295 : Int64))) x9 q6.2)).bind fun q10 => if q6.1 = q10.1 then (m_L_law_744 G (m_L_law_18 G  n) a0 a1 a2 a3 q10.2) else (hp_z (0 : Int32) q10.2)) else (if (x2 &&& (31 : Int32)) = 1 then ((hp_aI h .int a0 (a3 + (1 : Int32))).bind fun x11 => (hp_aI h .int a0 (a3 + (2 : Int32))).bind fun x12 => (hp_vck h a1 0 (m_D_whole G a1 ((x11.toInt64 <<< ((32 : Int32).toInt64 &&& 63)) ||| (x12.toInt64 &&& (4294967295 : Int64))) h)).bind fun q13 => (hp_aI q13.2 .int a0 (a3 + (1 : Int32))).bind fun x14 => (hp_aI q13.2 .int a0 (a3 + (2 : Int32))).bind fun x15 => (hp_vck q13.2 a2 8 (m_M_whole G a2 ((x14.toInt64 <<< ((32 : Int32).toInt64 &&& 63)) ||| (x15.toInt64 &&& (4294967295 : Int64))) q13.2)).bind fun q16 => if q13.1 = q16.1 then (m_L_law_744 G (m_L_law_18 G  n) a0 a1 a2 a3 q16.2) else (hp_z (0 : Int32) q16.2)) else (if (x2 &&& (31 : Int32)) = 2 then ((hp_aI h .int a0 (a3 + (1 : Int32))).bind fun x17 => (hp_aI h .int a0 (a3 + (2 : Int32))).bind fun x18 => (hp_aI h .int a0 (a3 + (3 : Int32))).bind fun x19 => (hp_vck h a1 0 (m_D_decimal G a1 ((x17.toInt64 <<< ((32 : Int32).toInt64 &&& 63)) ||| (x18.toInt64 &&& (4294967295 : Int64))) x19 h)).bind fun q20 => (hp_aI q20.2 .int a0 (a3 + (1 : Int32))).bind fun x21 => (hp_aI q20.2 .int a0 (a3 + (2 : Int32))).bind fun x22 => (hp_aI q20.2 .int a0 (a3 + (3 : Int32))).bind fun x23 => (hp_vck q20.2 a2 8 (m_M_decimal G a2 ((x21.toInt64 <<< ((32 : Int32).toInt64 &&& 63)) ||| (x22.toInt64 &&& (4294967295 : Int64))) x23 q20.2)).bind fun q24 => if q20.1 = q24.1 then (m_L_law_744 G (m_L_law_18 G  n) a0 a1 a2 a3 q24.2) else (hp_z (0 : Int32) q24.2)) else (if (x2 &&& (31 : Int32)) = 3 then ((hp_aI h .int a0 (a3 + (1 : Int32))).bind fun x25 => if x25 = 0 then (m_L_law_317 G (m_L_law_18 G  n) a0 a1 a2 a3 (0 : Int32) a1 h) else (m_L_law_317 G (m_L_law_18 G  n) a0 a1 a2 a3 (1 : Int32) a1 h)) else (if (x2 &&& (31 : Int32)) = 4 then ((hp_aI h .int a0 (a3 + (1 : Int32))).bind fun x26 => (hp_aI h .int a0 (a3 + (2 : Int32))).bind fun x27 => (hp_vck h a1 0 (m_D_named G a1 x26 x27 h)).bind fun q28 => (hp_aI q28.2 .int a0 (a3 + (1 : Int32))).bind fun x29 => (hp_aI q28.2 .int a0 (a3 + (2 : Int32))).bind fun x30 => (hp_vck q28.2 a2 8 (m_M_named G a2 x29 x30 q28.2)).bind fun q31 => if q28.1 = q31.1 then (m_L_law_744 G (m_L_law_18 G  n) a0 a1 a2 a3 q31.2) else (hp_z (0 : Int32) q31.2)) else (if (x2 &&& (31 : Int32)) = 5 then ((hp_aI h .int a0 (a3 + (1 : Int32))).bind fun x32 => (hp_aI h .int a0 (a3 + (2 : Int32))).bind fun x33 => (hp_vck h a1 0 (m_D_text G a1 x32 x33 h)).bind fun q34 => (hp_aI q34.2 .int a0 (a3 + (1 : Int32))).bind fun x35 => (hp_aI q34.2 .int a0 (a3 + (2 : Int32))).bind fun x36 => (hp_vck q34.2 a2 8 (m_M_text G a2 x35 x36 q34.2)).bind fun q37 => if q34.1 = q37.1 then (m_L_law_744 G (m_L_law_18 G  n) a0 a1 a2 a3 q37.2) else (hp_z (0 : Int32) q37.2)) else (if (x2 &&& (31 : Int32)) = 6 then ((hp_aI h .int a0 (a3 + (1 : Int32))).bind fun x38 => (hp_aI h .int a0 (a3 + (2 : Int32))).bind fun x39 => (hp_vck h a1 0 (m_D_told G a1 x38 x39 h)).bind fun q40 => (hp_aI q40.2 .int a0 (a3 + (1 : Int32))).bind fun x41 => (hp_aI q40.2 .int a0 (a3 + (2 : Int32))).bind fun x42 => (hp_vck q40.2 a2 8 (m_M_told G a2 x41 x42 q40.2)).bind fun q43 => if q40.1 = q43.1 then (m_L_law_744 G (m_L_law_18 G  n) a0 a1 a2 a3 q43.2) else (hp_z (0 : Int32) q43.2)) else (if (x2 &&& (31 : Int32)) = 7 then ((hp_aI h .int a0 (a3 + (1 : Int32))).bind fun x44 => (hp_vck h a1 0 (m_D_amount G a1 x44 h)).bind fun q45 => (hp_aI q45.2 .int a0 (a3 + (1 : Int32))).bind fun x46 => (hp_vck q45.2 a2 8 (m_M_amount G a2 x46 q45.2)).bind fun q47 => if (lg_cmp q45.1 q47.1) = 0 then (m_L_law_744 G (m_L_law_18 G  n) a0 a1 a2 a3 q47.2) else (hp_z (0 : Int32) q47.2)) else (if (x2 &&& (31 : Int32)) = 8 then ((hp_aI h .int a0 (a3 + (1 : Int32))).bind fun x48 => (hp_aI h .int a0 (a3 + (2 : Int32))).bind fun x49 => (hp_vck h a1 0 (m_D_byteOf G a1 x48 x49 h)).bind fun q50 => (hp_aI q50.2 .int a0 (a3 + (1 : Int32))).bind fun x51 => (hp_aI q50.2 .int a0 (a3 + (2 : Int32))).bind fun x52 => (hp_vck q50.2 a2 8 (m_M_byteOf G a2 x51 x52 q50.2)).bind fun q53 => if q50.1 = q53.1 then (m_L_law_744 G (m_L_law_18 G  n) a0 a1 a2 a3 q53.2) else (hp_z (0 : Int32) q53.2)) else (if (x2 &&& (31 : Int32)) = 9 then ((hp_vck h a1 0 (m_D_values G a1 h)).bind fun q54 => (hp_vck q54.2 a2 8 (m_M_values G a2 q54.2)).bind fun q55 => if q54.1 = q55.1 then (m_L_law_744 G (m_L_law_18 G  n) a0 a1 a2 a3 q55.2) else (hp_z (0 : Int32) q55.2)) else (if (x2 &&& (31 : Int32)) = 10 then ((hp_aI h .int a0 (a3 + (1 : Int32))).bind fun x56 => (hp_aI h .int a0 (a3 + (2 : Int32))).bind fun x57 => (hp_vck h a1 0 (m_D_order G a1 x56 x57 h)).bind fun q58 => (hp_aI q58.2 .int a0 (a3 + (1 : Int32))).bind fun x59 => (hp_aI q58.2 .int a0 (a3 + (2 : Int32))).bind fun x60 => (hp_vck q58.2 a2 8 (m_M_order G a2 x59 x60 q58.2)).bind fun q61 => if q58.1 = q61.1 then (m_L_law_744 G (m_L_law_18 G  n) a0 a1 a2 a3 q61.2) else (hp_z (0 : Int32) q61.2)) else (if (x2 &&& (31 : Int32)) = 11 then ((hp_aI h .int a0 (a3 + (1 : Int32))).bind fun x62 => (hp_aI h .int a0 (a3 + (2 : Int32))).bind fun x63 => (hp_vck h a1 0 (m_D_word G a1 x62 x63 h)).bind fun q64 => (hp_aI q64.2 .int a0 (a3 + (1 : Int32))).bind fun x65 => (hp_aI q64.2 .int a0 (a3 + (2 : Int32))).bind fun x66 => (hp_vck q64.2 a2 8 (m_M_word G a2 x65 x66 q64.2)).bind fun q67 => if q64.1 = q67.1 then (m_L_law_744 G (m_L_law_18 G  n) a0 a1 a2 a3 q67.2) else (hp_z (0 : Int32) q67.2)) else (if (x2 &&& (31 : Int32)) = 12 then ((hp_vck h a1 0 (m_D_begin G a1 h)).bind fun q68 => (hp_vck q68.2 a2 8 (m_M_begin G a2 q68.2)).bind fun q69 => if q68.1 = q69.1 then (m_L_law_744 G (m_L_law_18 G  n) a0 a1 a2 a3 q69.2) else (hp_z (0 : Int32) q69.2)) else (if (x2 &&& (31 : Int32)) = 13 then ((hp_aI h .int a0 (a3 + (1 : Int32))).bind fun x70 => (hp_aI h .int a0 (a3 + (2 : Int32))).bind fun x71 => (hp_vck h a1 0 (m_D_bind G a1 x70 x71 h)).bind fun q72 => (hp_aI q72.2 .int a0 (a3 + (1 : Int32))).bind fun x73 => (hp_aI q72.2 .int a0 (a3 + (2 : Int32))).bind fun x74 => (hp_vck q72.2 a2 8 (m_M_bind G a2 x73 x74 q72.2)).bind fun q75 => if q72.1 = q75.1 then (m_L_law_744 G (m_L_law_18 G  n) a0 a1 a2 a3 q75.2) else (hp_z (0 : Int32) q75.2)) else (if (x2 &&& (31 : Int32)) = 14 then ((hp_vck h a1 0 (m_D_run G a1 h)).bind fun q76 => (hp_vck q76.2 a2 8 (m_M_run G a2 q76.2)).bind fun q77 => if q76.1 = q77.1 then (m_L_law_744 G (m_L_law_18 G  n) a0 a1 a2 a3 q77.2) else (hp_z (0 : Int32) q77.2)) else (if (x2 &&& (31 : Int32)) = 15 then ((hp_vck h a1 0 (m_D_test G a1 h)).bind fun q78 => (hp_vck q78.2 a2 8 (m_M_test G a2 q78.2)).bind fun q79 => if q78.1 = q79.1 then (m_L_law_744 G (m_L_law_18 G  n) a0 a1 a2 a3 q79.2) else (hp_z (0 : Int32) q79.2)) else (if (x2 &&& (31 : Int32)) = 16 then ((hp_aI h .int a0 (a3 + (1 : Int32))).bind fun x80 => (hp_aI h .int a0 (a3 + (2 : Int32))).bind fun x81 => if x81 = 0 then (m_L_law_668 G (m_L_law_18 G  n) a0 a1 a2 a3 (0 : Int32) x80 a1 h) else (m_L_law_668 G (m_L_law_18 G  n) a0 a1 a2 a3 (1 : Int32) x80 a1 h)) else (if (x2 &&& (31 : Int32)) = 17 then ((hp_aI h .int a0 (a3 + (1 : Int32))).bind fun x82 => (hp_vck h a1 0 (m_D_add G a1 x82 h)).bind fun q83 => (hp_aI q83.2 .int a0 (a3 + (1 : Int32))).bind fun x84 => (hp_vck q83.2 a2 8 (m_M_add G a2 x84 q83.2)).bind fun q85 => if q83.1 = q85.1 then (m_L_law_744 G (m_L_law_18 G  n) a0 a1 a2 a3 q85.2) else (hp_z (0 : Int32) q85.2)) else (if (x2 &&& (31 : Int32)) = 18 then ((hp_vck h a1 0 (m_D_together G a1 h)).bind fun q86 => (hp_vck q86.2 a2 8 (m_M_together G a2 q86.2)).bind fun q87 => if q86.1 = q87.1 then (m_L_law_744 G (m_L_law_18 G  n) a0 a1 a2 a3 q87.2) else (hp_z (0 : Int32) q87.2)) else (m_L_law_744 G (m_L_law_18 G  n) a0 a1 a2 a3 h))))))))))))))))))))
set_option maxRecDepth 100000 in
set_option maxHeartbeats 4000000 in
theorem j_L_law_18 {Z : hp_Z} : ∀ (n : Nat) (a0 : Nat) (a1 : Nat) (a2 : Nat) (a3 : Int32) (h : hp_H), hp_J Y_L_law Z hp_rI h 18 [(0, .ref a0), (1, .ref a1), (2, .ref a2), (3, .int a3)] [] (m_L_law_18 (hp_G Z)  n a0 a1 a2 a3 h) := by
  intro n
  induction n with
  | zero => intro a0 a1 a2 a3 h; exact hp_fail
  | succ n ih =>
    intro a0 a1 a2 a3 h
    rw [m_L_law_18]
    refine hp_iload_n (x0 := 3) d_L_law_18 rfl rfl ?_
    refine hp_aload_n (x0 := 0) d_L_law_19 rfl rfl ?_
    refine hp_alen d_L_law_20 fun x1 => ?_
    refine hp_iconst (v := 4) d_L_law_21 (by decide) ?_
    refine hp_isub d_L_law_22 ?_
    refine hp_icmp_gt (tgt := 750) d_L_law_23 (by decide) ?_ ?_
    · refine hp_iconst (v := 1) d_L_law_750 (by decide) ?_
      exact hp_zret d_L_law_751 rfl
    · refine hp_aload_n (x0 := 0) d_L_law_26 rfl rfl ?_
      refine hp_iload_n (x0 := 3) d_L_law_27 rfl rfl ?_
      refine hp_iald d_L_law_28 fun x2 => ?_
      refine hp_bipush (v := 31) d_L_law_29 (by decide) ?_
      refine hp_iand d_L_law_31 ?_
      refine hp_ite (fun c0 => ?_) (fun c0 => ?_)
      · refine hp_tabI (tgt := 124) (kv := 0) d_L_law_32 c0 (by decide) (by decide) rfl (by decide) ?_
        refine hp_aload_n (x0 := 1) d_L_law_124 rfl rfl ?_
        refine hp_aload_n (x0 := 0) d_L_law_125 rfl rfl ?_
        refine hp_iload_n (x0 := 3) d_L_law_126 rfl rfl ?_
        refine hp_iconst (v := 1) d_L_law_127 (by decide) ?_
        refine hp_iadd d_L_law_128 ?_
        refine hp_iald d_L_law_129 fun x3 => ?_
        refine hp_i2l d_L_law_130 ?_
        refine hp_bipush (v := 32) d_L_law_131 (by decide) ?_
        refine hp_lshl d_L_law_133 ?_
        refine hp_aload_n (x0 := 0) d_L_law_134 rfl rfl ?_
        refine hp_iload_n (x0 := 3) d_L_law_135 rfl rfl ?_
        refine hp_iconst (v := 2) d_L_law_136 (by decide) ?_
        refine hp_iadd d_L_law_137 ?_
        refine hp_iald d_L_law_138 fun x4 => ?_
        refine hp_i2l d_L_law_139 ?_
        refine hp_ldc2 (v := 4294967295) d_L_law_140 w_1276 ?_
        refine hp_land d_L_law_143 ?_
        refine hp_lor d_L_law_144 ?_
        refine hp_aload_n (x0 := 0) d_L_law_145 rfl rfl ?_
        refine hp_iload_n (x0 := 3) d_L_law_146 rfl rfl ?_
        refine hp_iconst (v := 3) d_L_law_147 (by decide) ?_
        refine hp_iadd d_L_law_148 ?_
        refine hp_iald d_L_law_149 fun x5 => ?_
        refine hp_callI (hp_crV (ci := 0) (t_D_type _ _ _ _ _) cw_L_15 rfl ⟨w_265, w_266⟩ (by decide) rfl rfl (Nat.le_of_ble_eq_true rfl) d_L_law_150) fun q6 => ?_
        refine hp_aload_n (x0 := 2) d_L_law_153 rfl rfl ?_
        refine hp_aload_n (x0 := 0) d_L_law_154 rfl rfl ?_
        refine hp_iload_n (x0 := 3) d_L_law_155 rfl rfl ?_
        refine hp_iconst (v := 1) d_L_law_156 (by decide) ?_
        refine hp_iadd d_L_law_157 ?_
        refine hp_iald d_L_law_158 fun x7 => ?_
        refine hp_i2l d_L_law_159 ?_
        refine hp_bipush (v := 32) d_L_law_160 (by decide) ?_
        refine hp_lshl d_L_law_162 ?_
        refine hp_aload_n (x0 := 0) d_L_law_163 rfl rfl ?_
        refine hp_iload_n (x0 := 3) d_L_law_164 rfl rfl ?_
        refine hp_iconst (v := 2) d_L_law_165 (by decide) ?_
        refine hp_iadd d_L_law_166 ?_
        refine hp_iald d_L_law_167 fun x8 => ?_
        refine hp_i2l d_L_law_168 ?_
        refine hp_ldc2 (v := 4294967295) d_L_law_169 w_1276 ?_
        refine hp_land d_L_law_172 ?_
        refine hp_lor d_L_law_173 ?_
        refine hp_aload_n (x0 := 0) d_L_law_174 rfl rfl ?_
        refine hp_iload_n (x0 := 3) d_L_law_175 rfl rfl ?_
        refine hp_iconst (v := 3) d_L_law_176 (by decide) ?_
        refine hp_iadd d_L_law_177 ?_
        refine hp_iald d_L_law_178 fun x9 => ?_
        refine hp_callI (hp_crV (ci := 8) (t_M_type _ _ _ _ _) cw_L_19 rfl ⟨w_958, w_959⟩ (by decide) rfl rfl (Nat.le_of_ble_eq_true rfl) d_L_law_179) fun q10 => ?_
        refine hp_icmp_eq (tgt := 744) d_L_law_182 (by decide) ?_ ?_
        · exact j_L_law_744 _ ih _ _ _ _ _
        · refine hp_iconst (v := 0) d_L_law_185 (by decide) ?_
          exact hp_zret d_L_law_186 rfl
      · skip
        refine hp_ite (fun c1 => ?_) (fun c1 => ?_)
        · refine hp_tabI (tgt := 187) (kv := 1) d_L_law_32 c1 (by decide) (by decide) rfl (by decide) ?_
          refine hp_aload_n (x0 := 1) d_L_law_187 rfl rfl ?_
          refine hp_aload_n (x0 := 0) d_L_law_188 rfl rfl ?_
          refine hp_iload_n (x0 := 3) d_L_law_189 rfl rfl ?_
          refine hp_iconst (v := 1) d_L_law_190 (by decide) ?_
          refine hp_iadd d_L_law_191 ?_
          refine hp_iald d_L_law_192 fun x11 => ?_
          refine hp_i2l d_L_law_193 ?_
          refine hp_bipush (v := 32) d_L_law_194 (by decide) ?_
          refine hp_lshl d_L_law_196 ?_
          refine hp_aload_n (x0 := 0) d_L_law_197 rfl rfl ?_
          refine hp_iload_n (x0 := 3) d_L_law_198 rfl rfl ?_
          refine hp_iconst (v := 2) d_L_law_199 (by decide) ?_
          refine hp_iadd d_L_law_200 ?_
          refine hp_iald d_L_law_201 fun x12 => ?_
          refine hp_i2l d_L_law_202 ?_
          refine hp_ldc2 (v := 4294967295) d_L_law_203 w_1276 ?_
          refine hp_land d_L_law_206 ?_
          refine hp_lor d_L_law_207 ?_
          refine hp_callI (hp_crV (ci := 0) (t_D_whole _ _ _ _) cw_L_20 rfl ⟨w_273, w_274⟩ (by decide) rfl rfl (Nat.le_of_ble_eq_true rfl) d_L_law_208) fun q13 => ?_
          refine hp_aload_n (x0 := 2) d_L_law_211 rfl rfl ?_
          refine hp_aload_n (x0 := 0) d_L_law_212 rfl rfl ?_
          refine hp_iload_n (x0 := 3) d_L_law_213 rfl rfl ?_
          refine hp_iconst (v := 1) d_L_law_214 (by decide) ?_
          refine hp_iadd d_L_law_215 ?_
          refine hp_iald d_L_law_216 fun x14 => ?_
          refine hp_i2l d_L_law_217 ?_
          refine hp_bipush (v := 32) d_L_law_218 (by decide) ?_
          refine hp_lshl d_L_law_220 ?_
          refine hp_aload_n (x0 := 0) d_L_law_221 rfl rfl ?_
          refine hp_iload_n (x0 := 3) d_L_law_222 rfl rfl ?_
          refine hp_iconst (v := 2) d_L_law_223 (by decide) ?_
          refine hp_iadd d_L_law_224 ?_
          refine hp_iald d_L_law_225 fun x15 => ?_
          refine hp_i2l d_L_law_226 ?_
          refine hp_ldc2 (v := 4294967295) d_L_law_227 w_1276 ?_
          refine hp_land d_L_law_230 ?_
          refine hp_lor d_L_law_231 ?_
          refine hp_callI (hp_crV (ci := 8) (t_M_whole _ _ _ _) cw_L_24 rfl ⟨w_963, w_964⟩ (by decide) rfl rfl (Nat.le_of_ble_eq_true rfl) d_L_law_232) fun q16 => ?_
          refine hp_icmp_eq (tgt := 744) d_L_law_235 (by decide) ?_ ?_
          · exact j_L_law_744 _ ih _ _ _ _ _
          · refine hp_iconst (v := 0) d_L_law_238 (by decide) ?_
            exact hp_zret d_L_law_239 rfl
        · skip
          refine hp_ite (fun c2 => ?_) (fun c2 => ?_)
          · refine hp_tabI (tgt := 240) (kv := 2) d_L_law_32 c2 (by decide) (by decide) rfl (by decide) ?_
            refine hp_aload_n (x0 := 1) d_L_law_240 rfl rfl ?_
            refine hp_aload_n (x0 := 0) d_L_law_241 rfl rfl ?_
            refine hp_iload_n (x0 := 3) d_L_law_242 rfl rfl ?_
            refine hp_iconst (v := 1) d_L_law_243 (by decide) ?_
            refine hp_iadd d_L_law_244 ?_
            refine hp_iald d_L_law_245 fun x17 => ?_
            refine hp_i2l d_L_law_246 ?_
            refine hp_bipush (v := 32) d_L_law_247 (by decide) ?_
            refine hp_lshl d_L_law_249 ?_
            refine hp_aload_n (x0 := 0) d_L_law_250 rfl rfl ?_
            refine hp_iload_n (x0 := 3) d_L_law_251 rfl rfl ?_
            refine hp_iconst (v := 2) d_L_law_252 (by decide) ?_
            refine hp_iadd d_L_law_253 ?_
            refine hp_iald d_L_law_254 fun x18 => ?_
            refine hp_i2l d_L_law_255 ?_
            refine hp_ldc2 (v := 4294967295) d_L_law_256 w_1276 ?_
            refine hp_land d_L_law_259 ?_
            refine hp_lor d_L_law_260 ?_
            refine hp_aload_n (x0 := 0) d_L_law_261 rfl rfl ?_
            refine hp_iload_n (x0 := 3) d_L_law_262 rfl rfl ?_
            refine hp_iconst (v := 3) d_L_law_263 (by decide) ?_
            refine hp_iadd d_L_law_264 ?_
            refine hp_iald d_L_law_265 fun x19 => ?_
            refine hp_callI (hp_crV (ci := 0) (t_D_decimal _ _ _ _ _) cw_L_25 rfl ⟨w_382, w_383⟩ (by decide) rfl rfl (Nat.le_of_ble_eq_true rfl) d_L_law_266) fun q20 => ?_
            refine hp_aload_n (x0 := 2) d_L_law_269 rfl rfl ?_
            refine hp_aload_n (x0 := 0) d_L_law_270 rfl rfl ?_
            refine hp_iload_n (x0 := 3) d_L_law_271 rfl rfl ?_
            refine hp_iconst (v := 1) d_L_law_272 (by decide) ?_
            refine hp_iadd d_L_law_273 ?_
            refine hp_iald d_L_law_274 fun x21 => ?_
            refine hp_i2l d_L_law_275 ?_
            refine hp_bipush (v := 32) d_L_law_276 (by decide) ?_
            refine hp_lshl d_L_law_278 ?_
            refine hp_aload_n (x0 := 0) d_L_law_279 rfl rfl ?_
            refine hp_iload_n (x0 := 3) d_L_law_280 rfl rfl ?_
            refine hp_iconst (v := 2) d_L_law_281 (by decide) ?_
            refine hp_iadd d_L_law_282 ?_
            refine hp_iald d_L_law_283 fun x22 => ?_
            refine hp_i2l d_L_law_284 ?_
            refine hp_ldc2 (v := 4294967295) d_L_law_285 w_1276 ?_
            refine hp_land d_L_law_288 ?_
            refine hp_lor d_L_law_289 ?_
            refine hp_aload_n (x0 := 0) d_L_law_290 rfl rfl ?_
            refine hp_iload_n (x0 := 3) d_L_law_291 rfl rfl ?_
            refine hp_iconst (v := 3) d_L_law_292 (by decide) ?_
            refine hp_iadd d_L_law_293 ?_
            refine hp_iald d_L_law_294 fun x23 => ?_
            refine hp_callI (hp_crV (ci := 8) (t_M_decimal _ _ _ _ _) cw_L_28 rfl ⟨w_999, w_1000⟩ (by decide) rfl rfl (Nat.le_of_ble_eq_true rfl) d_L_law_295) fun q24 => ?_
            refine hp_icmp_eq (tgt := 744) d_L_law_298 (by decide) ?_ ?_
            · exact j_L_law_744 _ ih _ _ _ _ _
            · refine hp_iconst (v := 0) d_L_law_301 (by decide) ?_
              exact hp_zret d_L_law_302 rfl
          · skip
            refine hp_ite (fun c3 => ?_) (fun c3 => ?_)
            · refine hp_tabI (tgt := 303) (kv := 3) d_L_law_32 c3 (by decide) (by decide) rfl (by decide) ?_
              refine hp_aload_n (x0 := 1) d_L_law_303 rfl rfl ?_
              refine hp_aload_n (x0 := 0) d_L_law_304 rfl rfl ?_
              refine hp_iload_n (x0 := 3) d_L_law_305 rfl rfl ?_
              refine hp_iconst (v := 1) d_L_law_306 (by decide) ?_
              refine hp_iadd d_L_law_307 ?_
              refine hp_iald d_L_law_308 fun x25 => ?_
              refine hp_if_eq (tgt := 316) d_L_law_309 (by decide) ?_ ?_
              · refine hp_iconst (v := 0) d_L_law_316 (by decide) ?_
                exact j_L_law_317 _ ih _ _ _ _ _ _ _
              · refine hp_iconst (v := 1) d_L_law_312 (by decide) ?_
                refine hp_goto (tgt := 317) d_L_law_313 (by decide) ?_
                exact j_L_law_317 _ ih _ _ _ _ _ _ _
            · skip
              refine hp_ite (fun c4 => ?_) (fun c4 => ?_)
              · refine hp_tabI (tgt := 342) (kv := 4) d_L_law_32 c4 (by decide) (by decide) rfl (by decide) ?_
                refine hp_aload_n (x0 := 1) d_L_law_342 rfl rfl ?_
                refine hp_aload_n (x0 := 0) d_L_law_343 rfl rfl ?_
                refine hp_iload_n (x0 := 3) d_L_law_344 rfl rfl ?_
                refine hp_iconst (v := 1) d_L_law_345 (by decide) ?_
                refine hp_iadd d_L_law_346 ?_
                refine hp_iald d_L_law_347 fun x26 => ?_
                refine hp_aload_n (x0 := 0) d_L_law_348 rfl rfl ?_
                refine hp_iload_n (x0 := 3) d_L_law_349 rfl rfl ?_
                refine hp_iconst (v := 2) d_L_law_350 (by decide) ?_
                refine hp_iadd d_L_law_351 ?_
                refine hp_iald d_L_law_352 fun x27 => ?_
                refine hp_callI (hp_crV (ci := 0) (t_D_named _ _ _ _ _) cw_L_34 rfl ⟨w_395, w_396⟩ (by decide) rfl rfl (Nat.le_of_ble_eq_true rfl) d_L_law_353) fun q28 => ?_
                refine hp_aload_n (x0 := 2) d_L_law_356 rfl rfl ?_
                refine hp_aload_n (x0 := 0) d_L_law_357 rfl rfl ?_
                refine hp_iload_n (x0 := 3) d_L_law_358 rfl rfl ?_
                refine hp_iconst (v := 1) d_L_law_359 (by decide) ?_
                refine hp_iadd d_L_law_360 ?_
                refine hp_iald d_L_law_361 fun x29 => ?_
                refine hp_aload_n (x0 := 0) d_L_law_362 rfl rfl ?_
                refine hp_iload_n (x0 := 3) d_L_law_363 rfl rfl ?_
                refine hp_iconst (v := 2) d_L_law_364 (by decide) ?_
                refine hp_iadd d_L_law_365 ?_
                refine hp_iald d_L_law_366 fun x30 => ?_
                refine hp_callI (hp_crV (ci := 8) (t_M_named _ _ _ _ _) cw_L_38 rfl ⟨w_1007, w_1008⟩ (by decide) rfl rfl (Nat.le_of_ble_eq_true rfl) d_L_law_367) fun q31 => ?_
                refine hp_icmp_eq (tgt := 744) d_L_law_370 (by decide) ?_ ?_
                · exact j_L_law_744 _ ih _ _ _ _ _
                · refine hp_iconst (v := 0) d_L_law_373 (by decide) ?_
                  exact hp_zret d_L_law_374 rfl
              · skip
                refine hp_ite (fun c5 => ?_) (fun c5 => ?_)
                · refine hp_tabI (tgt := 375) (kv := 5) d_L_law_32 c5 (by decide) (by decide) rfl (by decide) ?_
                  refine hp_aload_n (x0 := 1) d_L_law_375 rfl rfl ?_
                  refine hp_aload_n (x0 := 0) d_L_law_376 rfl rfl ?_
                  refine hp_iload_n (x0 := 3) d_L_law_377 rfl rfl ?_
                  refine hp_iconst (v := 1) d_L_law_378 (by decide) ?_
                  refine hp_iadd d_L_law_379 ?_
                  refine hp_iald d_L_law_380 fun x32 => ?_
                  refine hp_aload_n (x0 := 0) d_L_law_381 rfl rfl ?_
                  refine hp_iload_n (x0 := 3) d_L_law_382 rfl rfl ?_
                  refine hp_iconst (v := 2) d_L_law_383 (by decide) ?_
                  refine hp_iadd d_L_law_384 ?_
                  refine hp_iald d_L_law_385 fun x33 => ?_
                  refine hp_callI (hp_crV (ci := 0) (t_D_text _ _ _ _ _) cw_L_39 rfl ⟨w_403, w_404⟩ (by decide) rfl rfl (Nat.le_of_ble_eq_true rfl) d_L_law_386) fun q34 => ?_
                  refine hp_aload_n (x0 := 2) d_L_law_389 rfl rfl ?_
                  refine hp_aload_n (x0 := 0) d_L_law_390 rfl rfl ?_
                  refine hp_iload_n (x0 := 3) d_L_law_391 rfl rfl ?_
                  refine hp_iconst (v := 1) d_L_law_392 (by decide) ?_
                  refine hp_iadd d_L_law_393 ?_
                  refine hp_iald d_L_law_394 fun x35 => ?_
                  refine hp_aload_n (x0 := 0) d_L_law_395 rfl rfl ?_
                  refine hp_iload_n (x0 := 3) d_L_law_396 rfl rfl ?_
                  refine hp_iconst (v := 2) d_L_law_397 (by decide) ?_
                  refine hp_iadd d_L_law_398 ?_
                  refine hp_iald d_L_law_399 fun x36 => ?_
                  refine hp_callI (hp_crV (ci := 8) (t_M_text _ _ _ _ _) cw_L_42 rfl ⟨w_1011, w_1012⟩ (by decide) rfl rfl (Nat.le_of_ble_eq_true rfl) d_L_law_400) fun q37 => ?_
                  refine hp_icmp_eq (tgt := 744) d_L_law_403 (by decide) ?_ ?_
                  · exact j_L_law_744 _ ih _ _ _ _ _
                  · refine hp_iconst (v := 0) d_L_law_406 (by decide) ?_
                    exact hp_zret d_L_law_407 rfl
                · skip
                  refine hp_ite (fun c6 => ?_) (fun c6 => ?_)
                  · refine hp_tabI (tgt := 408) (kv := 6) d_L_law_32 c6 (by decide) (by decide) rfl (by decide) ?_
                    refine hp_aload_n (x0 := 1) d_L_law_408 rfl rfl ?_
                    refine hp_aload_n (x0 := 0) d_L_law_409 rfl rfl ?_
                    refine hp_iload_n (x0 := 3) d_L_law_410 rfl rfl ?_
                    refine hp_iconst (v := 1) d_L_law_411 (by decide) ?_
                    refine hp_iadd d_L_law_412 ?_
                    refine hp_iald d_L_law_413 fun x38 => ?_
                    refine hp_aload_n (x0 := 0) d_L_law_414 rfl rfl ?_
                    refine hp_iload_n (x0 := 3) d_L_law_415 rfl rfl ?_
                    refine hp_iconst (v := 2) d_L_law_416 (by decide) ?_
                    refine hp_iadd d_L_law_417 ?_
                    refine hp_iald d_L_law_418 fun x39 => ?_
                    refine hp_callI (hp_crV (ci := 0) (t_D_told _ _ _ _ _) cw_L_43 rfl ⟨w_422, w_423⟩ (by decide) rfl rfl (Nat.le_of_ble_eq_true rfl) d_L_law_419) fun q40 => ?_
                    refine hp_aload_n (x0 := 2) d_L_law_422 rfl rfl ?_
                    refine hp_aload_n (x0 := 0) d_L_law_423 rfl rfl ?_
                    refine hp_iload_n (x0 := 3) d_L_law_424 rfl rfl ?_
                    refine hp_iconst (v := 1) d_L_law_425 (by decide) ?_
                    refine hp_iadd d_L_law_426 ?_
                    refine hp_iald d_L_law_427 fun x41 => ?_
                    refine hp_aload_n (x0 := 0) d_L_law_428 rfl rfl ?_
                    refine hp_iload_n (x0 := 3) d_L_law_429 rfl rfl ?_
                    refine hp_iconst (v := 2) d_L_law_430 (by decide) ?_
                    refine hp_iadd d_L_law_431 ?_
                    refine hp_iald d_L_law_432 fun x42 => ?_
                    refine hp_callI (hp_crV (ci := 8) (t_M_told _ _ _ _ _) cw_L_46 rfl ⟨w_1019, w_1020⟩ (by decide) rfl rfl (Nat.le_of_ble_eq_true rfl) d_L_law_433) fun q43 => ?_
                    refine hp_icmp_eq (tgt := 744) d_L_law_436 (by decide) ?_ ?_
                    · exact j_L_law_744 _ ih _ _ _ _ _
                    · refine hp_iconst (v := 0) d_L_law_439 (by decide) ?_
                      exact hp_zret d_L_law_440 rfl
                  · skip
                    refine hp_ite (fun c7 => ?_) (fun c7 => ?_)
                    · refine hp_tabI (tgt := 441) (kv := 7) d_L_law_32 c7 (by decide) (by decide) rfl (by decide) ?_
                      refine hp_aload_n (x0 := 1) d_L_law_441 rfl rfl ?_
                      refine hp_aload_n (x0 := 0) d_L_law_442 rfl rfl ?_
                      refine hp_iload_n (x0 := 3) d_L_law_443 rfl rfl ?_
                      refine hp_iconst (v := 1) d_L_law_444 (by decide) ?_
                      refine hp_iadd d_L_law_445 ?_
                      refine hp_iald d_L_law_446 fun x44 => ?_
                      refine hp_callL (hp_crV (ci := 0) (t_D_amount _ _ _ _) cw_L_47 rfl ⟨w_430, w_431⟩ (by decide) rfl rfl (Nat.le_of_ble_eq_true rfl) d_L_law_447) fun q45 => ?_
                      refine hp_aload_n (x0 := 2) d_L_law_450 rfl rfl ?_
                      refine hp_aload_n (x0 := 0) d_L_law_451 rfl rfl ?_
                      refine hp_iload_n (x0 := 3) d_L_law_452 rfl rfl ?_
                      refine hp_iconst (v := 1) d_L_law_453 (by decide) ?_
                      refine hp_iadd d_L_law_454 ?_
                      refine hp_iald d_L_law_455 fun x46 => ?_
                      refine hp_callL (hp_crV (ci := 8) (t_M_amount _ _ _ _) cw_L_51 rfl ⟨w_1027, w_1028⟩ (by decide) rfl rfl (Nat.le_of_ble_eq_true rfl) d_L_law_456) fun q47 => ?_
                      refine hp_lcmp d_L_law_459 ?_
                      refine hp_if_eq (tgt := 744) d_L_law_460 (by decide) ?_ ?_
                      · exact j_L_law_744 _ ih _ _ _ _ _
                      · refine hp_iconst (v := 0) d_L_law_463 (by decide) ?_
                        exact hp_zret d_L_law_464 rfl
                    · skip
                      refine hp_ite (fun c8 => ?_) (fun c8 => ?_)
                      · refine hp_tabI (tgt := 465) (kv := 8) d_L_law_32 c8 (by decide) (by decide) rfl (by decide) ?_
                        refine hp_aload_n (x0 := 1) d_L_law_465 rfl rfl ?_
                        refine hp_aload_n (x0 := 0) d_L_law_466 rfl rfl ?_
                        refine hp_iload_n (x0 := 3) d_L_law_467 rfl rfl ?_
                        refine hp_iconst (v := 1) d_L_law_468 (by decide) ?_
                        refine hp_iadd d_L_law_469 ?_
                        refine hp_iald d_L_law_470 fun x48 => ?_
                        refine hp_aload_n (x0 := 0) d_L_law_471 rfl rfl ?_
                        refine hp_iload_n (x0 := 3) d_L_law_472 rfl rfl ?_
                        refine hp_iconst (v := 2) d_L_law_473 (by decide) ?_
                        refine hp_iadd d_L_law_474 ?_
                        refine hp_iald d_L_law_475 fun x49 => ?_
                        refine hp_callI (hp_crV (ci := 0) (t_D_byteOf _ _ _ _ _) cw_L_52 rfl ⟨w_434, w_435⟩ (by decide) rfl rfl (Nat.le_of_ble_eq_true rfl) d_L_law_476) fun q50 => ?_
                        refine hp_aload_n (x0 := 2) d_L_law_479 rfl rfl ?_
                        refine hp_aload_n (x0 := 0) d_L_law_480 rfl rfl ?_
                        refine hp_iload_n (x0 := 3) d_L_law_481 rfl rfl ?_
                        refine hp_iconst (v := 1) d_L_law_482 (by decide) ?_
                        refine hp_iadd d_L_law_483 ?_
                        refine hp_iald d_L_law_484 fun x51 => ?_
                        refine hp_aload_n (x0 := 0) d_L_law_485 rfl rfl ?_
                        refine hp_iload_n (x0 := 3) d_L_law_486 rfl rfl ?_
                        refine hp_iconst (v := 2) d_L_law_487 (by decide) ?_
                        refine hp_iadd d_L_law_488 ?_
                        refine hp_iald d_L_law_489 fun x52 => ?_
                        refine hp_callI (hp_crV (ci := 8) (t_M_byteOf _ _ _ _ _) cw_L_55 rfl ⟨w_1031, w_1032⟩ (by decide) rfl rfl (Nat.le_of_ble_eq_true rfl) d_L_law_490) fun q53 => ?_
                        refine hp_icmp_eq (tgt := 744) d_L_law_493 (by decide) ?_ ?_
                        · exact j_L_law_744 _ ih _ _ _ _ _
                        · refine hp_iconst (v := 0) d_L_law_496 (by decide) ?_
                          exact hp_zret d_L_law_497 rfl
                      · skip
                        refine hp_ite (fun c9 => ?_) (fun c9 => ?_)
                        · refine hp_tabI (tgt := 498) (kv := 9) d_L_law_32 c9 (by decide) (by decide) rfl (by decide) ?_
                          refine hp_aload_n (x0 := 1) d_L_law_498 rfl rfl ?_
                          refine hp_callI (hp_crV (ci := 0) (t_D_values _ _ _) cw_L_56 rfl ⟨w_438, w_439⟩ (by decide) rfl rfl (Nat.le_of_ble_eq_true rfl) d_L_law_499) fun q54 => ?_
                          refine hp_aload_n (x0 := 2) d_L_law_502 rfl rfl ?_
                          refine hp_callI (hp_crV (ci := 8) (t_M_values _ _ _) cw_L_60 rfl ⟨w_1035, w_1036⟩ (by decide) rfl rfl (Nat.le_of_ble_eq_true rfl) d_L_law_503) fun q55 => ?_
                          refine hp_icmp_eq (tgt := 744) d_L_law_506 (by decide) ?_ ?_
                          · exact j_L_law_744 _ ih _ _ _ _ _
                          · refine hp_iconst (v := 0) d_L_law_509 (by decide) ?_
                            exact hp_zret d_L_law_510 rfl
                        · skip
                          refine hp_ite (fun c10 => ?_) (fun c10 => ?_)
                          · refine hp_tabI (tgt := 511) (kv := 10) d_L_law_32 c10 (by decide) (by decide) rfl (by decide) ?_
                            refine hp_aload_n (x0 := 1) d_L_law_511 rfl rfl ?_
                            refine hp_aload_n (x0 := 0) d_L_law_512 rfl rfl ?_
                            refine hp_iload_n (x0 := 3) d_L_law_513 rfl rfl ?_
                            refine hp_iconst (v := 1) d_L_law_514 (by decide) ?_
                            refine hp_iadd d_L_law_515 ?_
                            refine hp_iald d_L_law_516 fun x56 => ?_
                            refine hp_aload_n (x0 := 0) d_L_law_517 rfl rfl ?_
                            refine hp_iload_n (x0 := 3) d_L_law_518 rfl rfl ?_
                            refine hp_iconst (v := 2) d_L_law_519 (by decide) ?_
                            refine hp_iadd d_L_law_520 ?_
                            refine hp_iald d_L_law_521 fun x57 => ?_
                            refine hp_callI (hp_crV (ci := 0) (t_D_order _ _ _ _ _) cw_L_61 rfl ⟨w_446, w_447⟩ (by decide) rfl rfl (Nat.le_of_ble_eq_true rfl) d_L_law_522) fun q58 => ?_
                            refine hp_aload_n (x0 := 2) d_L_law_525 rfl rfl ?_
                            refine hp_aload_n (x0 := 0) d_L_law_526 rfl rfl ?_
                            refine hp_iload_n (x0 := 3) d_L_law_527 rfl rfl ?_
                            refine hp_iconst (v := 1) d_L_law_528 (by decide) ?_
                            refine hp_iadd d_L_law_529 ?_
                            refine hp_iald d_L_law_530 fun x59 => ?_
                            refine hp_aload_n (x0 := 0) d_L_law_531 rfl rfl ?_
                            refine hp_iload_n (x0 := 3) d_L_law_532 rfl rfl ?_
                            refine hp_iconst (v := 2) d_L_law_533 (by decide) ?_
                            refine hp_iadd d_L_law_534 ?_
                            refine hp_iald d_L_law_535 fun x60 => ?_
                            refine hp_callI (hp_crV (ci := 8) (t_M_order _ _ _ _ _) cw_L_64 rfl ⟨w_1039, w_1040⟩ (by decide) rfl rfl (Nat.le_of_ble_eq_true rfl) d_L_law_536) fun q61 => ?_
                            refine hp_icmp_eq (tgt := 744) d_L_law_539 (by decide) ?_ ?_
                            · exact j_L_law_744 _ ih _ _ _ _ _
                            · refine hp_iconst (v := 0) d_L_law_542 (by decide) ?_
                              exact hp_zret d_L_law_543 rfl
                          · skip
                            refine hp_ite (fun c11 => ?_) (fun c11 => ?_)
                            · refine hp_tabI (tgt := 544) (kv := 11) d_L_law_32 c11 (by decide) (by decide) rfl (by decide) ?_
                              refine hp_aload_n (x0 := 1) d_L_law_544 rfl rfl ?_
                              refine hp_aload_n (x0 := 0) d_L_law_545 rfl rfl ?_
                              refine hp_iload_n (x0 := 3) d_L_law_546 rfl rfl ?_
                              refine hp_iconst (v := 1) d_L_law_547 (by decide) ?_
                              refine hp_iadd d_L_law_548 ?_
                              refine hp_iald d_L_law_549 fun x62 => ?_
                              refine hp_aload_n (x0 := 0) d_L_law_550 rfl rfl ?_
                              refine hp_iload_n (x0 := 3) d_L_law_551 rfl rfl ?_
                              refine hp_iconst (v := 2) d_L_law_552 (by decide) ?_
                              refine hp_iadd d_L_law_553 ?_
                              refine hp_iald d_L_law_554 fun x63 => ?_
                              refine hp_callI (hp_crV (ci := 0) (t_D_word _ _ _ _ _) cw_L_65 rfl ⟨w_487, w_488⟩ (by decide) rfl rfl (Nat.le_of_ble_eq_true rfl) d_L_law_555) fun q64 => ?_
                              refine hp_aload_n (x0 := 2) d_L_law_558 rfl rfl ?_
                              refine hp_aload_n (x0 := 0) d_L_law_559 rfl rfl ?_
                              refine hp_iload_n (x0 := 3) d_L_law_560 rfl rfl ?_
                              refine hp_iconst (v := 1) d_L_law_561 (by decide) ?_
                              refine hp_iadd d_L_law_562 ?_
                              refine hp_iald d_L_law_563 fun x65 => ?_
                              refine hp_aload_n (x0 := 0) d_L_law_564 rfl rfl ?_
                              refine hp_iload_n (x0 := 3) d_L_law_565 rfl rfl ?_
                              refine hp_iconst (v := 2) d_L_law_566 (by decide) ?_
                              refine hp_iadd d_L_law_567 ?_
                              refine hp_iald d_L_law_568 fun x66 => ?_
                              refine hp_callI (hp_crV (ci := 8) (t_M_word _ _ _ _ _) cw_L_68 rfl ⟨w_1070, w_1071⟩ (by decide) rfl rfl (Nat.le_of_ble_eq_true rfl) d_L_law_569) fun q67 => ?_
                              refine hp_icmp_eq (tgt := 744) d_L_law_572 (by decide) ?_ ?_
                              · exact j_L_law_744 _ ih _ _ _ _ _
                              · refine hp_iconst (v := 0) d_L_law_575 (by decide) ?_
                                exact hp_zret d_L_law_576 rfl
                            · skip
                              refine hp_ite (fun c12 => ?_) (fun c12 => ?_)
                              · refine hp_tabI (tgt := 577) (kv := 12) d_L_law_32 c12 (by decide) (by decide) rfl (by decide) ?_
                                refine hp_aload_n (x0 := 1) d_L_law_577 rfl rfl ?_
                                refine hp_callI (hp_crV (ci := 0) (t_D_begin _ _ _) cw_L_69 rfl ⟨w_498, w_499⟩ (by decide) rfl rfl (Nat.le_of_ble_eq_true rfl) d_L_law_578) fun q68 => ?_
                                refine hp_aload_n (x0 := 2) d_L_law_581 rfl rfl ?_
                                refine hp_callI (hp_crV (ci := 8) (t_M_begin _ _ _) cw_L_72 rfl ⟨w_1074, w_1075⟩ (by decide) rfl rfl (Nat.le_of_ble_eq_true rfl) d_L_law_582) fun q69 => ?_
                                refine hp_icmp_eq (tgt := 744) d_L_law_585 (by decide) ?_ ?_
                                · exact j_L_law_744 _ ih _ _ _ _ _
                                · refine hp_iconst (v := 0) d_L_law_588 (by decide) ?_
                                  exact hp_zret d_L_law_589 rfl
                              · skip
                                refine hp_ite (fun c13 => ?_) (fun c13 => ?_)
                                · refine hp_tabI (tgt := 590) (kv := 13) d_L_law_32 c13 (by decide) (by decide) rfl (by decide) ?_
                                  refine hp_aload_n (x0 := 1) d_L_law_590 rfl rfl ?_
                                  refine hp_aload_n (x0 := 0) d_L_law_591 rfl rfl ?_
                                  refine hp_iload_n (x0 := 3) d_L_law_592 rfl rfl ?_
                                  refine hp_iconst (v := 1) d_L_law_593 (by decide) ?_
                                  refine hp_iadd d_L_law_594 ?_
                                  refine hp_iald d_L_law_595 fun x70 => ?_
                                  refine hp_aload_n (x0 := 0) d_L_law_596 rfl rfl ?_
                                  refine hp_iload_n (x0 := 3) d_L_law_597 rfl rfl ?_
                                  refine hp_iconst (v := 2) d_L_law_598 (by decide) ?_
                                  refine hp_iadd d_L_law_599 ?_
                                  refine hp_iald d_L_law_600 fun x71 => ?_
                                  refine hp_callI (hp_crV (ci := 0) (t_D_bind _ _ _ _ _) cw_L_73 rfl ⟨w_506, w_507⟩ (by decide) rfl rfl (Nat.le_of_ble_eq_true rfl) d_L_law_601) fun q72 => ?_
                                  refine hp_aload_n (x0 := 2) d_L_law_604 rfl rfl ?_
                                  refine hp_aload_n (x0 := 0) d_L_law_605 rfl rfl ?_
                                  refine hp_iload_n (x0 := 3) d_L_law_606 rfl rfl ?_
                                  refine hp_iconst (v := 1) d_L_law_607 (by decide) ?_
                                  refine hp_iadd d_L_law_608 ?_
                                  refine hp_iald d_L_law_609 fun x73 => ?_
                                  refine hp_aload_n (x0 := 0) d_L_law_610 rfl rfl ?_
                                  refine hp_iload_n (x0 := 3) d_L_law_611 rfl rfl ?_
                                  refine hp_iconst (v := 2) d_L_law_612 (by decide) ?_
                                  refine hp_iadd d_L_law_613 ?_
                                  refine hp_iald d_L_law_614 fun x74 => ?_
                                  refine hp_callI (hp_crV (ci := 8) (t_M_bind _ _ _ _ _) cw_L_77 rfl ⟨w_1078, w_1079⟩ (by decide) rfl rfl (Nat.le_of_ble_eq_true rfl) d_L_law_615) fun q75 => ?_
                                  refine hp_icmp_eq (tgt := 744) d_L_law_618 (by decide) ?_ ?_
                                  · exact j_L_law_744 _ ih _ _ _ _ _
                                  · refine hp_iconst (v := 0) d_L_law_621 (by decide) ?_
                                    exact hp_zret d_L_law_622 rfl
                                · skip
                                  refine hp_ite (fun c14 => ?_) (fun c14 => ?_)
                                  · refine hp_tabI (tgt := 623) (kv := 14) d_L_law_32 c14 (by decide) (by decide) rfl (by decide) ?_
                                    refine hp_aload_n (x0 := 1) d_L_law_623 rfl rfl ?_
                                    refine hp_callI (hp_crV (ci := 0) (t_D_run _ _ _) cw_L_78 rfl ⟨w_515, w_516⟩ (by decide) rfl rfl (Nat.le_of_ble_eq_true rfl) d_L_law_624) fun q76 => ?_
                                    refine hp_aload_n (x0 := 2) d_L_law_627 rfl rfl ?_
                                    refine hp_callI (hp_crV (ci := 8) (t_M_run _ _ _) cw_L_81 rfl ⟨w_1082, w_1083⟩ (by decide) rfl rfl (Nat.le_of_ble_eq_true rfl) d_L_law_628) fun q77 => ?_
                                    refine hp_icmp_eq (tgt := 744) d_L_law_631 (by decide) ?_ ?_
                                    · exact j_L_law_744 _ ih _ _ _ _ _
                                    · refine hp_iconst (v := 0) d_L_law_634 (by decide) ?_
                                      exact hp_zret d_L_law_635 rfl
                                  · skip
                                    refine hp_ite (fun c15 => ?_) (fun c15 => ?_)
                                    · refine hp_tabI (tgt := 636) (kv := 15) d_L_law_32 c15 (by decide) (by decide) rfl (by decide) ?_
                                      refine hp_aload_n (x0 := 1) d_L_law_636 rfl rfl ?_
                                      refine hp_callI (hp_crV (ci := 0) (t_D_test _ _ _) cw_L_82 rfl ⟨w_777, w_778⟩ (by decide) rfl rfl (Nat.le_of_ble_eq_true rfl) d_L_law_637) fun q78 => ?_
                                      refine hp_aload_n (x0 := 2) d_L_law_640 rfl rfl ?_
                                      refine hp_callI (hp_crV (ci := 8) (t_M_test _ _ _) cw_L_85 rfl ⟨w_1240, w_1241⟩ (by decide) rfl rfl (Nat.le_of_ble_eq_true rfl) d_L_law_641) fun q79 => ?_
                                      refine hp_icmp_eq (tgt := 744) d_L_law_644 (by decide) ?_ ?_
                                      · exact j_L_law_744 _ ih _ _ _ _ _
                                      · refine hp_iconst (v := 0) d_L_law_647 (by decide) ?_
                                        exact hp_zret d_L_law_648 rfl
                                    · skip
                                      refine hp_ite (fun c16 => ?_) (fun c16 => ?_)
                                      · refine hp_tabI (tgt := 649) (kv := 16) d_L_law_32 c16 (by decide) (by decide) rfl (by decide) ?_
                                        refine hp_aload_n (x0 := 1) d_L_law_649 rfl rfl ?_
                                        refine hp_aload_n (x0 := 0) d_L_law_650 rfl rfl ?_
                                        refine hp_iload_n (x0 := 3) d_L_law_651 rfl rfl ?_
                                        refine hp_iconst (v := 1) d_L_law_652 (by decide) ?_
                                        refine hp_iadd d_L_law_653 ?_
                                        refine hp_iald d_L_law_654 fun x80 => ?_
                                        refine hp_aload_n (x0 := 0) d_L_law_655 rfl rfl ?_
                                        refine hp_iload_n (x0 := 3) d_L_law_656 rfl rfl ?_
                                        refine hp_iconst (v := 2) d_L_law_657 (by decide) ?_
                                        refine hp_iadd d_L_law_658 ?_
                                        refine hp_iald d_L_law_659 fun x81 => ?_
                                        refine hp_if_eq (tgt := 667) d_L_law_660 (by decide) ?_ ?_
                                        · refine hp_iconst (v := 0) d_L_law_667 (by decide) ?_
                                          exact j_L_law_668 _ ih _ _ _ _ _ _ _ _
                                        · refine hp_iconst (v := 1) d_L_law_663 (by decide) ?_
                                          refine hp_goto (tgt := 668) d_L_law_664 (by decide) ?_
                                          exact j_L_law_668 _ ih _ _ _ _ _ _ _ _
                                      · skip
                                        refine hp_ite (fun c17 => ?_) (fun c17 => ?_)
                                        · refine hp_tabI (tgt := 708) (kv := 17) d_L_law_32 c17 (by decide) (by decide) rfl (by decide) ?_
                                          refine hp_aload_n (x0 := 1) d_L_law_708 rfl rfl ?_
                                          refine hp_aload_n (x0 := 0) d_L_law_709 rfl rfl ?_
                                          refine hp_iload_n (x0 := 3) d_L_law_710 rfl rfl ?_
                                          refine hp_iconst (v := 1) d_L_law_711 (by decide) ?_
                                          refine hp_iadd d_L_law_712 ?_
                                          refine hp_iald d_L_law_713 fun x82 => ?_
                                          refine hp_callI (hp_crV (ci := 0) (t_D_add _ _ _ _) cw_L_91 rfl ⟨w_791, w_792⟩ (by decide) rfl rfl (Nat.le_of_ble_eq_true rfl) d_L_law_714) fun q83 => ?_
                                          refine hp_aload_n (x0 := 2) d_L_law_717 rfl rfl ?_
                                          refine hp_aload_n (x0 := 0) d_L_law_718 rfl rfl ?_
                                          refine hp_iload_n (x0 := 3) d_L_law_719 rfl rfl ?_
                                          refine hp_iconst (v := 1) d_L_law_720 (by decide) ?_
                                          refine hp_iadd d_L_law_721 ?_
                                          refine hp_iald d_L_law_722 fun x84 => ?_
                                          refine hp_callI (hp_crV (ci := 8) (t_M_add _ _ _ _) cw_L_95 rfl ⟨w_1249, w_1250⟩ (by decide) rfl rfl (Nat.le_of_ble_eq_true rfl) d_L_law_723) fun q85 => ?_
                                          refine hp_icmp_eq (tgt := 744) d_L_law_726 (by decide) ?_ ?_
                                          · exact j_L_law_744 _ ih _ _ _ _ _
                                          · refine hp_iconst (v := 0) d_L_law_729 (by decide) ?_
                                            exact hp_zret d_L_law_730 rfl
                                        · skip
                                          refine hp_ite (fun c18 => ?_) (fun c18 => ?_)
                                          · refine hp_tabI (tgt := 731) (kv := 18) d_L_law_32 c18 (by decide) (by decide) rfl (by decide) ?_
                                            refine hp_aload_n (x0 := 1) d_L_law_731 rfl rfl ?_
                                            refine hp_callI (hp_crV (ci := 0) (t_D_together _ _ _) cw_L_96 rfl ⟨w_804, w_805⟩ (by decide) rfl rfl (Nat.le_of_ble_eq_true rfl) d_L_law_732) fun q86 => ?_
                                            refine hp_aload_n (x0 := 2) d_L_law_735 rfl rfl ?_
                                            refine hp_callI (hp_crV (ci := 8) (t_M_together _ _ _) cw_L_99 rfl ⟨w_1253, w_1254⟩ (by decide) rfl rfl (Nat.le_of_ble_eq_true rfl) d_L_law_736) fun q87 => ?_
                                            refine hp_icmp_eq (tgt := 744) d_L_law_739 (by decide) ?_ ?_
                                            · exact j_L_law_744 _ ih _ _ _ _ _
                                            · refine hp_iconst (v := 0) d_L_law_742 (by decide) ?_
                                              exact hp_zret d_L_law_743 rfl
                                          · skip
                                            refine hp_tabD (tgt := 744) d_L_law_32 (by have e0 := lv_neT c0 (a := 0) (by decide); have e1 := lv_neT c1 (a := 1) (by decide); have e2 := lv_neT c2 (a := 2) (by decide); have e3 := lv_neT c3 (a := 3) (by decide); have e4 := lv_neT c4 (a := 4) (by decide); have e5 := lv_neT c5 (a := 5) (by decide); have e6 := lv_neT c6 (a := 6) (by decide); have e7 := lv_neT c7 (a := 7) (by decide); have e8 := lv_neT c8 (a := 8) (by decide); have e9 := lv_neT c9 (a := 9) (by decide); have e10 := lv_neT c10 (a := 10) (by decide); have e11 := lv_neT c11 (a := 11) (by decide); have e12 := lv_neT c12 (a := 12) (by decide); have e13 := lv_neT c13 (a := 13) (by decide); have e14 := lv_neT c14 (a := 14) (by decide); have e15 := lv_neT c15 (a := 15) (by decide); have e16 := lv_neT c16 (a := 16) (by decide); have e17 := lv_neT c17 (a := 17) (by decide); have e18 := lv_neT c18 (a := 18) (by decide); omega) (by decide) ?_
                                            exact j_L_law_744 _ ih _ _ _ _ _
def m_L_law (G : Nat → Nat) (a0 : Nat) (h : hp_H) : Option (Int32 × hp_H) := hp_nwK h 0 4 [.null, .null, .null, .null] fun o1 h2 => (m_D_init G o1 h2).bind fun q3 => hp_nm o1 fun x4 => hp_nwK q3.2 8 34 [.int 0, .null, .null, .null, .null, .null, .null, .null, .null, .int 0, .int 0, .int 0, .int 0, .int 0, .null, .null, .int 0, .null, .null, .null, .null, .null, .int 0, .null, .null, .null, .int 0, .int 0, .int 0, .int 0, .null, .int 0, .int 0, .null] fun o5 h6 => (m_M_init G o5 h6).bind fun q7 => hp_nm o5 fun x8 => hp_nm (0 : Int32) fun x9 => m_L_law_18 G hp_fu a0 x4 x8 x9 q7.2
set_option maxRecDepth 100000 in
set_option maxHeartbeats 4000000 in
theorem j_L_law_0 {Z : hp_Z} (a0 : Nat) (h : hp_H) : hp_J Y_L_law Z hp_rI h 0 [(0, .ref a0)] [] (m_L_law (hp_G Z)  a0 h) := by
  unfold m_L_law
  refine hp_newO nw_L_7 d_L_law_0 fun o1 h2 => ?_
  refine hp_dup d_L_law_3 rfl ?_
  refine hp_callU (hp_crI (t_D_init _ _ _) cw_L_9 ⟨rfl, w_26⟩ rfl (by decide) rfl rfl (Nat.le_of_ble_eq_true rfl) d_L_law_4) fun q3 => ?_
  refine hp_astore_n (fun x4 => [(1, .ref x4), (0, .ref a0)]) d_L_law_7 rfl (by decide) (fun _ => rfl) fun x4 => ?_
  refine hp_newO nw_L_10 d_L_law_8 fun o5 h6 => ?_
  refine hp_dup d_L_law_11 rfl ?_
  refine hp_callU (hp_crI (t_M_init _ _ _) cw_L_12 ⟨rfl, w_849⟩ rfl (by decide) rfl rfl (Nat.le_of_ble_eq_true rfl) d_L_law_12) fun q7 => ?_
  refine hp_astore_n (fun x8 => [(2, .ref x8), (1, .ref x4), (0, .ref a0)]) d_L_law_15 rfl (by decide) (fun _ => rfl) fun x8 => ?_
  refine hp_iconst (v := 0) d_L_law_16 (by decide) ?_
  refine hp_istore_n (fun x9 => [(3, .int x9), (2, .ref x8), (1, .ref x4), (0, .ref a0)]) d_L_law_17 rfl (by decide) (fun _ => rfl) fun x9 => ?_
  refine hp_sub [3, 2, 1, 0] rfl ?_
  exact j_L_law_18  hp_fu _ _ _ _ _
theorem t_L_law (l : Launch) (E : hp_E) (a0 : Nat) : hp_M l E y_L_law Y_L_law hp_rI [.ref a0] (m_L_law E.2.2.1 a0) := hp_M.of (plainFor_of_name (by decide)) ⟨rfl, rfl⟩ (Nat.le_of_ble_eq_true rfl) (fun Z h hE => by subst hE; exact j_L_law_0 _ h)
