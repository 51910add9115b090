-- M_cased
theorem d_M_cased_0 : decode prog_9_method_57_code 0 = .ok (.aload_n 0, 1) := by decide +kernel
theorem d_M_cased_1 : decode prog_9_method_57_code 1 = .ok (.iload_n 1, 1) := by decide +kernel
theorem d_M_cased_2 : decode prog_9_method_57_code 2 = .ok (.invokevirtual 217, 3) := by decide +kernel
theorem d_M_cased_5 : decode prog_9_method_57_code 5 = .ok (.ifCond .ne 6, 3) := by decide +kernel
theorem d_M_cased_8 : decode prog_9_method_57_code 8 = .ok (.bipush (-4), 2) := by decide +kernel
theorem d_M_cased_10 : decode prog_9_method_57_code 10 = .ok (.ireturn, 1) := by decide +kernel
theorem d_M_cased_11 : decode prog_9_method_57_code 11 = .ok (.iload_n 2, 1) := by decide +kernel
theorem d_M_cased_12 : decode prog_9_method_57_code 12 = .ok (.bipush 27, 2) := by decide +kernel
theorem d_M_cased_14 : decode prog_9_method_57_code 14 = .ok (.if_icmp .ne 8, 3) := by decide +kernel
theorem d_M_cased_17 : decode prog_9_method_57_code 17 = .ok (.bipush 97, 2) := by decide +kernel
theorem d_M_cased_19 : decode prog_9_method_57_code 19 = .ok (.goto 5, 3) := by decide +kernel
theorem d_M_cased_22 : decode prog_9_method_57_code 22 = .ok (.bipush 65, 2) := by decide +kernel
theorem d_M_cased_24 : decode prog_9_method_57_code 24 = .ok (.istore_n 3, 1) := by decide +kernel
theorem d_M_cased_25 : decode prog_9_method_57_code 25 = .ok (.aload_n 0, 1) := by decide +kernel
theorem d_M_cased_26 : decode prog_9_method_57_code 26 = .ok (.aload_n 0, 1) := by decide +kernel
theorem d_M_cased_27 : decode prog_9_method_57_code 27 = .ok (.getfield 7, 3) := by decide +kernel
theorem d_M_cased_30 : decode prog_9_method_57_code 30 = .ok (.iload_n 1, 1) := by decide +kernel
theorem d_M_cased_31 : decode prog_9_method_57_code 31 = .ok (.iaload, 1) := by decide +kernel
theorem d_M_cased_32 : decode prog_9_method_57_code 32 = .ok (.aload_n 0, 1) := by decide +kernel
theorem d_M_cased_33 : decode prog_9_method_57_code 33 = .ok (.getfield 13, 3) := by decide +kernel
theorem d_M_cased_36 : decode prog_9_method_57_code 36 = .ok (.iload_n 1, 1) := by decide +kernel
theorem d_M_cased_37 : decode prog_9_method_57_code 37 = .ok (.iaload, 1) := by decide +kernel
theorem d_M_cased_38 : decode prog_9_method_57_code 38 = .ok (.invokevirtual 103, 3) := by decide +kernel
theorem d_M_cased_41 : decode prog_9_method_57_code 41 = .ok (.iconst 0, 1) := by decide +kernel
theorem d_M_cased_42 : decode prog_9_method_57_code 42 = .ok (.istore 4, 2) := by decide +kernel
theorem d_M_cased_44 : decode prog_9_method_57_code 44 = .ok (.iload 4, 2) := by decide +kernel
theorem d_M_cased_46 : decode prog_9_method_57_code 46 = .ok (.aload_n 0, 1) := by decide +kernel
theorem d_M_cased_47 : decode prog_9_method_57_code 47 = .ok (.getfield 26, 3) := by decide +kernel
theorem d_M_cased_50 : decode prog_9_method_57_code 50 = .ok (.iload_n 1, 1) := by decide +kernel
theorem d_M_cased_51 : decode prog_9_method_57_code 51 = .ok (.iaload, 1) := by decide +kernel
theorem d_M_cased_52 : decode prog_9_method_57_code 52 = .ok (.if_icmp .ge 52, 3) := by decide +kernel
theorem d_M_cased_55 : decode prog_9_method_57_code 55 = .ok (.aload_n 0, 1) := by decide +kernel
theorem d_M_cased_56 : decode prog_9_method_57_code 56 = .ok (.getfield 30, 3) := by decide +kernel
theorem d_M_cased_59 : decode prog_9_method_57_code 59 = .ok (.bipush 64, 2) := by decide +kernel
theorem d_M_cased_61 : decode prog_9_method_57_code 61 = .ok (.iload_n 1, 1) := by decide +kernel
theorem d_M_cased_62 : decode prog_9_method_57_code 62 = .ok (.imul, 1) := by decide +kernel
theorem d_M_cased_63 : decode prog_9_method_57_code 63 = .ok (.iload 4, 2) := by decide +kernel
theorem d_M_cased_65 : decode prog_9_method_57_code 65 = .ok (.iadd, 1) := by decide +kernel
theorem d_M_cased_66 : decode prog_9_method_57_code 66 = .ok (.iaload, 1) := by decide +kernel
theorem d_M_cased_67 : decode prog_9_method_57_code 67 = .ok (.istore 5, 2) := by decide +kernel
theorem d_M_cased_69 : decode prog_9_method_57_code 69 = .ok (.aload_n 0, 1) := by decide +kernel
theorem d_M_cased_70 : decode prog_9_method_57_code 70 = .ok (.iload 5, 2) := by decide +kernel
theorem d_M_cased_72 : decode prog_9_method_57_code 72 = .ok (.iload_n 3, 1) := by decide +kernel
theorem d_M_cased_73 : decode prog_9_method_57_code 73 = .ok (.if_icmp .lt 20, 3) := by decide +kernel
theorem d_M_cased_76 : decode prog_9_method_57_code 76 = .ok (.iload 5, 2) := by decide +kernel
theorem d_M_cased_78 : decode prog_9_method_57_code 78 = .ok (.iload_n 3, 1) := by decide +kernel
theorem d_M_cased_79 : decode prog_9_method_57_code 79 = .ok (.bipush 26, 2) := by decide +kernel
theorem d_M_cased_81 : decode prog_9_method_57_code 81 = .ok (.iadd, 1) := by decide +kernel
theorem d_M_cased_82 : decode prog_9_method_57_code 82 = .ok (.if_icmp .ge 11, 3) := by decide +kernel
theorem d_M_cased_85 : decode prog_9_method_57_code 85 = .ok (.iload 5, 2) := by decide +kernel
theorem d_M_cased_87 : decode prog_9_method_57_code 87 = .ok (.bipush 32, 2) := by decide +kernel
theorem d_M_cased_89 : decode prog_9_method_57_code 89 = .ok (.ixor, 1) := by decide +kernel
theorem d_M_cased_90 : decode prog_9_method_57_code 90 = .ok (.goto 5, 3) := by decide +kernel
theorem d_M_cased_93 : decode prog_9_method_57_code 93 = .ok (.iload 5, 2) := by decide +kernel
theorem d_M_cased_95 : decode prog_9_method_57_code 95 = .ok (.invokevirtual 157, 3) := by decide +kernel
theorem d_M_cased_98 : decode prog_9_method_57_code 98 = .ok (.iinc 4 1, 3) := by decide +kernel
theorem d_M_cased_101 : decode prog_9_method_57_code 101 = .ok (.goto (-57), 3) := by decide +kernel
theorem d_M_cased_104 : decode prog_9_method_57_code 104 = .ok (.aload_n 0, 1) := by decide +kernel
theorem d_M_cased_105 : decode prog_9_method_57_code 105 = .ok (.invokevirtual 111, 3) := by decide +kernel
theorem d_M_cased_108 : decode prog_9_method_57_code 108 = .ok (.ireturn, 1) := by decide +kernel
def m_M_cased_95 (G : Nat → Nat) (r44 : Nat → Int32 → Int32 → Int32 → hp_H → Option (Int32 × hp_H)) (a0 : Nat) (a1 : Int32) (a3 : Int32) (a4 : Int32) (s0 : Int32) (s1 : Nat) (h : hp_H) : Option (Int32 × hp_H) := (hp_vck h s1 8 (m_M_letter G s1 s0 h)).bind fun q1 => hp_nm (a4 + 1) fun x2 => r44 a0 a1 a3 x2 q1.2
set_option maxRecDepth 100000 in
set_option maxHeartbeats 4000000 in
theorem j_M_cased_95 {Z : hp_Z} (r44 : Nat → Int32 → Int32 → Int32 → hp_H → Option (Int32 × hp_H)) (hr44 : ∀ (a0 : Nat) (a1 : Int32) (a3 : Int32) (a4 : Int32) (h : hp_H), hp_J Y_M_cased Z hp_rI h 44 [(0, .ref a0), (1, .int a1), (3, .int a3), (4, .int a4)] [] (r44 a0 a1 a3 a4  h)) (a0 : Nat) (a1 : Int32) (a3 : Int32) (a4 : Int32) (s0 : Int32) (s1 : Nat) (h : hp_H) : hp_J Y_M_cased Z hp_rI h 95 [(0, .ref a0), (1, .int a1), (3, .int a3), (4, .int a4)] [.int s0, .ref s1] (m_M_cased_95 (hp_G Z) r44 a0 a1 a3 a4 s0 s1 h) := by
  unfold m_M_cased_95
  refine hp_callU (hp_crV (ci := 8) (t_M_letter _ _ _ _) cw_M_157 rfl ⟨w_1016, ws_43⟩ (by decide) rfl rfl (Nat.le_of_ble_eq_true rfl) d_M_cased_95) fun q1 => ?_
  refine hp_iinc (x0 := 3) (d := 1) (fun x2 => [(4, .int x2), (0, .ref a0), (1, .int a1), (3, .int a3)]) d_M_cased_98 rfl (by decide) (by decide) (fun _ => rfl) fun x2 => ?_
  refine hp_goto (tgt := 44) d_M_cased_101 (by decide) ?_
  refine hp_sub [1, 2, 3, 0] rfl ?_
  exact hr44 _ _ _ _ _
def m_M_cased_93 (G : Nat → Nat) (r44 : Nat → Int32 → Int32 → Int32 → hp_H → Option (Int32 × hp_H)) (a0 : Nat) (a1 : Int32) (a3 : Int32) (a4 : Int32) (a5 : Int32) (s0 : Nat) (h : hp_H) : Option (Int32 × hp_H) := m_M_cased_95 G r44 a0 a1 a3 a4 a5 s0 h
set_option maxRecDepth 100000 in
set_option maxHeartbeats 4000000 in
theorem j_M_cased_93 {Z : hp_Z} (r44 : Nat → Int32 → Int32 → Int32 → hp_H → Option (Int32 × hp_H)) (hr44 : ∀ (a0 : Nat) (a1 : Int32) (a3 : Int32) (a4 : Int32) (h : hp_H), hp_J Y_M_cased Z hp_rI h 44 [(0, .ref a0), (1, .int a1), (3, .int a3), (4, .int a4)] [] (r44 a0 a1 a3 a4  h)) (a0 : Nat) (a1 : Int32) (a3 : Int32) (a4 : Int32) (a5 : Int32) (s0 : Nat) (h : hp_H) : hp_J Y_M_cased Z hp_rI h 93 [(0, .ref a0), (1, .int a1), (3, .int a3), (4, .int a4), (5, .int a5)] [.ref s0] (m_M_cased_93 (hp_G Z) r44 a0 a1 a3 a4 a5 s0 h) := by
  unfold m_M_cased_93
  refine hp_iload (x0 := 4) d_M_cased_93 rfl ?_
  refine hp_sub [0, 1, 2, 3] rfl ?_
  exact j_M_cased_95 _ hr44 _ _ _ _ _ _ _
def m_M_cased_44 (G : Nat → Nat) : Nat → Nat → Int32 → Int32 → Int32 → hp_H → Option (Int32 × hp_H)
  | 0, _, _, _, _, _ => none
  | n + 1, a0, a1, a3, a4, h => (hp_gR h a0 8 6).bind fun x1 => (hp_aI h .int x1 a1).bind fun x2 => if x2 ≤ a4 then ((hp_vck h a0 8 (m_M_keep G a0 h)).bind fun q3 => some (q3.1, q3.2)) else ((hp_gR h a0 8 7).bind fun x4 => (hp_aI h .int x4 (((64 : Int32) * a1) + a4)).bind fun x5 => hp_nm x5 fun x6 => if x6 < a3 then (m_M_cased_93 G (m_M_cased_44 G  n) a0 a1 a3 a4 x6 a0 h) else (if (a3 + (26 : Int32)) ≤ x6 then (m_M_cased_93 G (m_M_cased_44 G  n) a0 a1 a3 a4 x6 a0 h) else (m_M_cased_95 G (m_M_cased_44 G  n) a0 a1 a3 a4 (x6 ^^^ (32 : Int32)) a0 h)))
set_option maxRecDepth 100000 in
set_option maxHeartbeats 4000000 in
theorem j_M_cased_44 {Z : hp_Z} : ∀ (n : Nat) (a0 : Nat) (a1 : Int32) (a3 : Int32) (a4 : Int32) (h : hp_H), hp_J Y_M_cased Z hp_rI h 44 [(0, .ref a0), (1, .int a1), (3, .int a3), (4, .int a4)] [] (m_M_cased_44 (hp_G Z)  n a0 a1 a3 a4 h) := by
  intro n
  induction n with
  | zero => intro a0 a1 a3 a4 h; exact hp_fail
  | succ n ih =>
    intro a0 a1 a3 a4 h
    rw [m_M_cased_44]
    refine hp_iload (x0 := 3) d_M_cased_44 rfl ?_
    refine hp_aload_n (x0 := 0) d_M_cased_46 rfl rfl ?_
    refine hp_getR fl_M_26 d_M_cased_47 fun x1 => ?_
    refine hp_iload_n (x0 := 1) d_M_cased_50 rfl rfl ?_
    refine hp_iald d_M_cased_51 fun x2 => ?_
    refine hp_icmp_ge (tgt := 104) d_M_cased_52 (by decide) ?_ ?_
    · refine hp_aload_n (x0 := 0) d_M_cased_104 rfl rfl ?_
      refine hp_callI (hp_crV (ci := 8) (t_M_keep _ _ _) cw_M_111 rfl ⟨w_992, ws_41⟩ (by decide) rfl rfl (Nat.le_of_ble_eq_true rfl) d_M_cased_105) fun q3 => ?_
      exact hp_iret d_M_cased_108 rfl
    · refine hp_aload_n (x0 := 0) d_M_cased_55 rfl rfl ?_
      refine hp_getR fl_M_30 d_M_cased_56 fun x4 => ?_
      refine hp_bipush (v := 64) d_M_cased_59 (by decide) ?_
      refine hp_iload_n (x0 := 1) d_M_cased_61 rfl rfl ?_
      refine hp_imul d_M_cased_62 ?_
      refine hp_iload (x0 := 3) d_M_cased_63 rfl ?_
      refine hp_iadd d_M_cased_65 ?_
      refine hp_iald d_M_cased_66 fun x5 => ?_
      refine hp_istore (fun x6 => [(5, .int x6), (0, .ref a0), (1, .int a1), (3, .int a3), (4, .int a4)]) d_M_cased_67 (by decide) (fun _ => rfl) fun x6 => ?_
      refine hp_aload_n (x0 := 1) d_M_cased_69 rfl rfl ?_
      refine hp_iload (x0 := 0) d_M_cased_70 rfl ?_
      refine hp_iload_n (x0 := 3) d_M_cased_72 rfl rfl ?_
      refine hp_icmp_lt (tgt := 93) d_M_cased_73 (by decide) ?_ ?_
      · refine hp_sub [1, 2, 3, 4, 0] rfl ?_
        exact j_M_cased_93 _ ih _ _ _ _ _ _ _
      · refine hp_iload (x0 := 0) d_M_cased_76 rfl ?_
        refine hp_iload_n (x0 := 3) d_M_cased_78 rfl rfl ?_
        refine hp_bipush (v := 26) d_M_cased_79 (by decide) ?_
        refine hp_iadd d_M_cased_81 ?_
        refine hp_icmp_ge (tgt := 93) d_M_cased_82 (by decide) ?_ ?_
        · refine hp_sub [1, 2, 3, 4, 0] rfl ?_
          exact j_M_cased_93 _ ih _ _ _ _ _ _ _
        · refine hp_iload (x0 := 0) d_M_cased_85 rfl ?_
          refine hp_bipush (v := 32) d_M_cased_87 (by decide) ?_
          refine hp_ixor d_M_cased_89 ?_
          refine hp_goto (tgt := 95) d_M_cased_90 (by decide) ?_
          refine hp_sub [1, 2, 3, 4] rfl ?_
          exact j_M_cased_95 _ ih _ _ _ _ _ _ _
def m_M_cased_24 (G : Nat → Nat) (a0 : Nat) (a1 : Int32) (s0 : Int32) (h : hp_H) : Option (Int32 × hp_H) := hp_nm s0 fun x1 => (hp_gR h a0 8 1).bind fun x2 => (hp_aI h .int x2 a1).bind fun x3 => (hp_gR h a0 8 2).bind fun x4 => (hp_aI h .int x4 a1).bind fun x5 => (hp_vck h a0 8 (m_M_start G a0 x3 x5 h)).bind fun q6 => hp_nm (0 : Int32) fun x7 => m_M_cased_44 G hp_fu a0 a1 x1 x7 q6.2
set_option maxRecDepth 100000 in
set_option maxHeartbeats 4000000 in
theorem j_M_cased_24 {Z : hp_Z} (a0 : Nat) (a1 : Int32) (s0 : Int32) (h : hp_H) : hp_J Y_M_cased Z hp_rI h 24 [(0, .ref a0), (1, .int a1)] [.int s0] (m_M_cased_24 (hp_G Z)  a0 a1 s0 h) := by
  unfold m_M_cased_24
  refine hp_istore_n (fun x1 => [(3, .int x1), (0, .ref a0), (1, .int a1)]) d_M_cased_24 rfl (by decide) (fun _ => rfl) fun x1 => ?_
  refine hp_aload_n (x0 := 1) d_M_cased_25 rfl rfl ?_
  refine hp_aload_n (x0 := 1) d_M_cased_26 rfl rfl ?_
  refine hp_getR fl_M_7 d_M_cased_27 fun x2 => ?_
  refine hp_iload_n (x0 := 2) d_M_cased_30 rfl rfl ?_
  refine hp_iald d_M_cased_31 fun x3 => ?_
  refine hp_aload_n (x0 := 1) d_M_cased_32 rfl rfl ?_
  refine hp_getR fl_M_13 d_M_cased_33 fun x4 => ?_
  refine hp_iload_n (x0 := 2) d_M_cased_36 rfl rfl ?_
  refine hp_iald d_M_cased_37 fun x5 => ?_
  refine hp_callU (hp_crV (ci := 8) (t_M_start _ _ _ _ _) cw_M_103 rfl ⟨w_985, ws_40⟩ (by decide) rfl rfl (Nat.le_of_ble_eq_true rfl) d_M_cased_38) fun q6 => ?_
  refine hp_iconst (v := 0) d_M_cased_41 (by decide) ?_
  refine hp_istore (fun x7 => [(4, .int x7), (3, .int x1), (0, .ref a0), (1, .int a1)]) d_M_cased_42 (by decide) (fun _ => rfl) fun x7 => ?_
  refine hp_sub [2, 3, 1, 0] rfl ?_
  exact j_M_cased_44  hp_fu _ _ _ _ _
def m_M_cased (G : Nat → Nat) (a0 : Nat) (a1 : Int32) (a2 : Int32) (h : hp_H) : Option (Int32 × hp_H) := (hp_vck h a0 8 (m_M_isPlain G a0 a1 h)).bind fun q1 => if q1.1 = 0 then (some ((-4 : Int32), q1.2)) else (if a2 = (27 : Int32) then (m_M_cased_24 G a0 a1 (97 : Int32) q1.2) else (m_M_cased_24 G a0 a1 (65 : Int32) q1.2))
set_option maxRecDepth 100000 in
set_option maxHeartbeats 4000000 in
theorem j_M_cased_0 {Z : hp_Z} (a0 : Nat) (a1 : Int32) (a2 : Int32) (h : hp_H) : hp_J Y_M_cased Z hp_rI h 0 [(0, .ref a0), (1, .int a1), (2, .int a2)] [] (m_M_cased (hp_G Z)  a0 a1 a2 h) := by
  unfold m_M_cased
  refine hp_aload_n (x0 := 0) d_M_cased_0 rfl rfl ?_
  refine hp_iload_n (x0 := 1) d_M_cased_1 rfl rfl ?_
  refine hp_callI (hp_crV (ci := 8) (t_M_isPlain _ _ _ _) cw_M_217 rfl ⟨w_1135, ws_62⟩ (by decide) rfl rfl (Nat.le_of_ble_eq_true rfl) d_M_cased_2) fun q1 => ?_
  refine hp_if_ne (tgt := 11) d_M_cased_5 (by decide) ?_ ?_
  · refine hp_bipush (v := -4) d_M_cased_8 (by decide) ?_
    exact hp_iret d_M_cased_10 rfl
  · refine hp_iload_n (x0 := 2) d_M_cased_11 rfl rfl ?_
    refine hp_bipush (v := 27) d_M_cased_12 (by decide) ?_
    refine hp_icmp_ne (tgt := 22) d_M_cased_14 (by decide) ?_ ?_
    · refine hp_bipush (v := 97) d_M_cased_17 (by decide) ?_
      refine hp_goto (tgt := 24) d_M_cased_19 (by decide) ?_
      refine hp_sub [0, 1] rfl ?_
      exact j_M_cased_24  _ _ _ _
    · refine hp_bipush (v := 65) d_M_cased_22 (by decide) ?_
      refine hp_sub [0, 1] rfl ?_
      exact j_M_cased_24  _ _ _ _
theorem t_M_cased (l : Launch) (E : hp_E) (a0 : Nat) (a1 : Int32) (a2 : Int32) : hp_M l E y_M_cased Y_M_cased hp_rI [.ref a0, .int a1, .int a2] (m_M_cased E.2.2.1 a0 a1 a2) := hp_M.of (plainFor_of_name (by decide)) ⟨rfl, rfl⟩ (Nat.le_of_ble_eq_true rfl) (fun Z h hE => by subst hE; exact j_M_cased_0 _ _ _ h)
-- M_digitsOf
theorem d_M_digitsOf_0 : decode prog_9_method_49_code 0 = .ok (.iconst 1, 1) := by decide +kernel
theorem d_M_digitsOf_1 : decode prog_9_method_49_code 1 = .ok (.istore_n 2, 1) := by decide +kernel
theorem d_M_digitsOf_2 : decode prog_9_method_49_code 2 = .ok (.iload_n 1, 1) := by decide +kernel
theorem d_M_digitsOf_3 : decode prog_9_method_49_code 3 = .ok (.iload_n 2, 1) := by decide +kernel
theorem d_M_digitsOf_4 : decode prog_9_method_49_code 4 = .ok (.idiv, 1) := by decide +kernel
theorem d_M_digitsOf_5 : decode prog_9_method_49_code 5 = .ok (.bipush 9, 2) := by decide +kernel
theorem d_M_digitsOf_7 : decode prog_9_method_49_code 7 = .ok (.if_icmp .le 11, 3) := by decide +kernel
theorem d_M_digitsOf_10 : decode prog_9_method_49_code 10 = .ok (.iload_n 2, 1) := by decide +kernel
theorem d_M_digitsOf_11 : decode prog_9_method_49_code 11 = .ok (.bipush 10, 2) := by decide +kernel
theorem d_M_digitsOf_13 : decode prog_9_method_49_code 13 = .ok (.imul, 1) := by decide +kernel
theorem d_M_digitsOf_14 : decode prog_9_method_49_code 14 = .ok (.istore_n 2, 1) := by decide +kernel
theorem d_M_digitsOf_15 : decode prog_9_method_49_code 15 = .ok (.goto (-13), 3) := by decide +kernel
theorem d_M_digitsOf_18 : decode prog_9_method_49_code 18 = .ok (.iload_n 2, 1) := by decide +kernel
theorem d_M_digitsOf_19 : decode prog_9_method_49_code 19 = .ok (.istore_n 3, 1) := by decide +kernel
theorem d_M_digitsOf_20 : decode prog_9_method_49_code 20 = .ok (.iload_n 3, 1) := by decide +kernel
theorem d_M_digitsOf_21 : decode prog_9_method_49_code 21 = .ok (.ifCond .le 24, 3) := by decide +kernel
theorem d_M_digitsOf_24 : decode prog_9_method_49_code 24 = .ok (.aload_n 0, 1) := by decide +kernel
theorem d_M_digitsOf_25 : decode prog_9_method_49_code 25 = .ok (.bipush 48, 2) := by decide +kernel
theorem d_M_digitsOf_27 : decode prog_9_method_49_code 27 = .ok (.iload_n 1, 1) := by decide +kernel
theorem d_M_digitsOf_28 : decode prog_9_method_49_code 28 = .ok (.iload_n 3, 1) := by decide +kernel
theorem d_M_digitsOf_29 : decode prog_9_method_49_code 29 = .ok (.idiv, 1) := by decide +kernel
theorem d_M_digitsOf_30 : decode prog_9_method_49_code 30 = .ok (.bipush 10, 2) := by decide +kernel
theorem d_M_digitsOf_32 : decode prog_9_method_49_code 32 = .ok (.irem, 1) := by decide +kernel
theorem d_M_digitsOf_33 : decode prog_9_method_49_code 33 = .ok (.iadd, 1) := by decide +kernel
theorem d_M_digitsOf_34 : decode prog_9_method_49_code 34 = .ok (.invokevirtual 157, 3) := by decide +kernel
theorem d_M_digitsOf_37 : decode prog_9_method_49_code 37 = .ok (.iload_n 3, 1) := by decide +kernel
theorem d_M_digitsOf_38 : decode prog_9_method_49_code 38 = .ok (.bipush 10, 2) := by decide +kernel
theorem d_M_digitsOf_40 : decode prog_9_method_49_code 40 = .ok (.idiv, 1) := by decide +kernel
theorem d_M_digitsOf_41 : decode prog_9_method_49_code 41 = .ok (.istore_n 3, 1) := by decide +kernel
theorem d_M_digitsOf_42 : decode prog_9_method_49_code 42 = .ok (.goto (-22), 3) := by decide +kernel
theorem d_M_digitsOf_45 : decode prog_9_method_49_code 45 = .ok (.return_, 1) := by decide +kernel
def m_M_digitsOf_20 (G : Nat → Nat) : Nat → Nat → Int32 → Int32 → hp_H → Option (Unit × hp_H)
  | 0, _, _, _, _ => none
  | n + 1, a0, a1, a3, h => if a3 ≤ 0 then (some ((), h)) else ((hp_dI a1 a3).bind fun x1 => (hp_mI x1 (10 : Int32)).bind fun x2 => (hp_vck h a0 8 (m_M_letter G a0 ((48 : Int32) + x2) h)).bind fun q3 => (hp_dI a3 (10 : Int32)).bind fun x4 => hp_nm x4 fun x5 => (m_M_digitsOf_20 G  n) a0 a1 x5 q3.2)
set_option maxRecDepth 100000 in
set_option maxHeartbeats 4000000 in
theorem j_M_digitsOf_20 {Z : hp_Z} : ∀ (n : Nat) (a0 : Nat) (a1 : Int32) (a3 : Int32) (h : hp_H), hp_J Y_M_digitsOf Z hp_rV h 20 [(0, .ref a0), (1, .int a1), (3, .int a3)] [] (m_M_digitsOf_20 (hp_G Z)  n a0 a1 a3 h) := by
  intro n
  induction n with
  | zero => intro a0 a1 a3 h; exact hp_fail
  | succ n ih =>
    intro a0 a1 a3 h
    rw [m_M_digitsOf_20]
    refine hp_iload_n (x0 := 2) d_M_digitsOf_20 rfl rfl ?_
    refine hp_if_le (tgt := 45) d_M_digitsOf_21 (by decide) ?_ ?_
    · exact hp_vret d_M_digitsOf_45 rfl
    · refine hp_aload_n (x0 := 0) d_M_digitsOf_24 rfl rfl ?_
      refine hp_bipush (v := 48) d_M_digitsOf_25 (by decide) ?_
      refine hp_iload_n (x0 := 1) d_M_digitsOf_27 rfl rfl ?_
      refine hp_iload_n (x0 := 2) d_M_digitsOf_28 rfl rfl ?_
      refine hp_idiv d_M_digitsOf_29 fun x1 => ?_
      refine hp_bipush (v := 10) d_M_digitsOf_30 (by decide) ?_
      refine hp_irem d_M_digitsOf_32 fun x2 => ?_
      refine hp_iadd d_M_digitsOf_33 ?_
      refine hp_callU (hp_crV (ci := 8) (t_M_letter _ _ _ _) cw_M_157 rfl ⟨w_1016, ws_43⟩ (by decide) rfl rfl (Nat.le_of_ble_eq_true rfl) d_M_digitsOf_34) fun q3 => ?_
      refine hp_iload_n (x0 := 2) d_M_digitsOf_37 rfl rfl ?_
      refine hp_bipush (v := 10) d_M_digitsOf_38 (by decide) ?_
      refine hp_idiv d_M_digitsOf_40 fun x4 => ?_
      refine hp_istore_n (fun x5 => [(3, .int x5), (0, .ref a0), (1, .int a1)]) d_M_digitsOf_41 rfl (by decide) (fun _ => rfl) fun x5 => ?_
      refine hp_goto (tgt := 20) d_M_digitsOf_42 (by decide) ?_
      refine hp_sub [1, 2, 0] rfl ?_
      exact ih _ _ _ _
def m_M_digitsOf_2 (G : Nat → Nat) : Nat → Nat → Int32 → Int32 → hp_H → Option (Unit × hp_H)
  | 0, _, _, _, _ => none
  | n + 1, a0, a1, a2, h => (hp_dI a1 a2).bind fun x1 => if x1 ≤ (9 : Int32) then (hp_nm a2 fun x2 => m_M_digitsOf_20 G hp_fu a0 a1 x2 h) else (hp_nm (a2 * (10 : Int32)) fun x3 => (m_M_digitsOf_2 G  n) a0 a1 x3 h)
set_option maxRecDepth 100000 in
set_option maxHeartbeats 4000000 in
theorem j_M_digitsOf_2 {Z : hp_Z} : ∀ (n : Nat) (a0 : Nat) (a1 : Int32) (a2 : Int32) (h : hp_H), hp_J Y_M_digitsOf Z hp_rV h 2 [(0, .ref a0), (1, .int a1), (2, .int a2)] [] (m_M_digitsOf_2 (hp_G Z)  n a0 a1 a2 h) := by
  intro n
  induction n with
  | zero => intro a0 a1 a2 h; exact hp_fail
  | succ n ih =>
    intro a0 a1 a2 h
    rw [m_M_digitsOf_2]
    refine hp_iload_n (x0 := 1) d_M_digitsOf_2 rfl rfl ?_
    refine hp_iload_n (x0 := 2) d_M_digitsOf_3 rfl rfl ?_
    refine hp_idiv d_M_digitsOf_4 fun x1 => ?_
    refine hp_bipush (v := 9) d_M_digitsOf_5 (by decide) ?_
    refine hp_icmp_le (tgt := 18) d_M_digitsOf_7 (by decide) ?_ ?_
    · refine hp_iload_n (x0 := 2) d_M_digitsOf_18 rfl rfl ?_
      refine hp_istore_n (fun x2 => [(3, .int x2), (0, .ref a0), (1, .int a1), (2, .int a2)]) d_M_digitsOf_19 rfl (by decide) (fun _ => rfl) fun x2 => ?_
      refine hp_sub [1, 2, 0] rfl ?_
      exact j_M_digitsOf_20  hp_fu _ _ _ _
    · refine hp_iload_n (x0 := 2) d_M_digitsOf_10 rfl rfl ?_
      refine hp_bipush (v := 10) d_M_digitsOf_11 (by decide) ?_
      refine hp_imul d_M_digitsOf_13 ?_
      refine hp_istore_n (fun x3 => [(2, .int x3), (0, .ref a0), (1, .int a1)]) d_M_digitsOf_14 rfl (by decide) (fun _ => rfl) fun x3 => ?_
      refine hp_goto (tgt := 2) d_M_digitsOf_15 (by decide) ?_
      refine hp_sub [1, 2, 0] rfl ?_
      exact ih _ _ _ _
def m_M_digitsOf (G : Nat → Nat) (a0 : Nat) (a1 : Int32) (h : hp_H) : Option (Unit × hp_H) := hp_nm (1 : Int32) fun x1 => m_M_digitsOf_2 G hp_fu a0 a1 x1 h
set_option maxRecDepth 100000 in
set_option maxHeartbeats 4000000 in
theorem j_M_digitsOf_0 {Z : hp_Z} (a0 : Nat) (a1 : Int32) (h : hp_H) : hp_J Y_M_digitsOf Z hp_rV h 0 [(0, .ref a0), (1, .int a1)] [] (m_M_digitsOf (hp_G Z)  a0 a1 h) := by
  unfold m_M_digitsOf
  refine hp_iconst (v := 1) d_M_digitsOf_0 (by decide) ?_
  refine hp_istore_n (fun x1 => [(2, .int x1), (0, .ref a0), (1, .int a1)]) d_M_digitsOf_1 rfl (by decide) (fun _ => rfl) fun x1 => ?_
  refine hp_sub [1, 2, 0] rfl ?_
  exact j_M_digitsOf_2  hp_fu _ _ _ _
theorem t_M_digitsOf (l : Launch) (E : hp_E) (a0 : Nat) (a1 : Int32) : hp_M l E y_M_digitsOf Y_M_digitsOf hp_rV [.ref a0, .int a1] (m_M_digitsOf E.2.2.1 a0 a1) := hp_M.of (plainFor_of_name (by decide)) ⟨rfl, rfl⟩ (Nat.le_of_ble_eq_true rfl) (fun Z h hE => by subst hE; exact j_M_digitsOf_0 _ _ h)
-- M_not
theorem d_M_not_0 : decode prog_9_method_43_code 0 = .ok (.iload_n 0, 1) := by decide +kernel
theorem d_M_not_1 : decode prog_9_method_43_code 1 = .ok (.ifCond .ge 8, 3) := by decide +kernel
theorem d_M_not_4 : decode prog_9_method_43_code 4 = .ok (.bipush (-4), 2) := by decide +kernel
theorem d_M_not_6 : decode prog_9_method_43_code 6 = .ok (.goto 6, 3) := by decide +kernel
theorem d_M_not_9 : decode prog_9_method_43_code 9 = .ok (.iconst 1, 1) := by decide +kernel
theorem d_M_not_10 : decode prog_9_method_43_code 10 = .ok (.iload_n 0, 1) := by decide +kernel
theorem d_M_not_11 : decode prog_9_method_43_code 11 = .ok (.isub, 1) := by decide +kernel
theorem d_M_not_12 : decode prog_9_method_43_code 12 = .ok (.ireturn, 1) := by decide +kernel
def m_M_not_12 (G : Nat → Nat) (s0 : Int32) (h : hp_H) : Option (Int32 × hp_H) := some (s0, h)
set_option maxRecDepth 100000 in
set_option maxHeartbeats 4000000 in
theorem j_M_not_12 {Z : hp_Z} (s0 : Int32) (h : hp_H) : hp_J Y_M_not Z hp_rI h 12 [] [.int s0] (m_M_not_12 (hp_G Z)  s0 h) := by
  unfold m_M_not_12
  exact hp_iret d_M_not_12 rfl
def m_M_not (G : Nat → Nat) (a0 : Int32) (h : hp_H) : Option (Int32 × hp_H) := if 0 ≤ a0 then (m_M_not_12 G ((1 : Int32) - a0) h) else (m_M_not_12 G (-4 : Int32) h)
set_option maxRecDepth 100000 in
set_option maxHeartbeats 4000000 in
theorem j_M_not_0 {Z : hp_Z} (a0 : Int32) (h : hp_H) : hp_J Y_M_not Z hp_rI h 0 [(0, .int a0)] [] (m_M_not (hp_G Z)  a0 h) := by
  unfold m_M_not
  refine hp_iload_n (x0 := 0) d_M_not_0 rfl rfl ?_
  refine hp_if_ge (tgt := 9) d_M_not_1 (by decide) ?_ ?_
  · refine hp_iconst (v := 1) d_M_not_9 (by decide) ?_
    refine hp_iload_n (x0 := 0) d_M_not_10 rfl rfl ?_
    refine hp_isub d_M_not_11 ?_
    refine hp_sub [] rfl ?_
    exact j_M_not_12  _ _
  · refine hp_bipush (v := -4) d_M_not_4 (by decide) ?_
    refine hp_goto (tgt := 12) d_M_not_6 (by decide) ?_
    refine hp_sub [] rfl ?_
    exact j_M_not_12  _ _
theorem t_M_not (l : Launch) (E : hp_E) (a0 : Int32) : hp_M l E y_M_not Y_M_not hp_rI [.int a0] (m_M_not E.2.2.1 a0) := hp_M.of (plainFor_of_name (by decide)) ⟨rfl, rfl⟩ (Nat.le_of_ble_eq_true rfl) (fun Z h hE => by subst hE; exact j_M_not_0 _ h)
-- M_letterAll
theorem d_M_letterAll_0 : decode prog_9_method_46_code 0 = .ok (.iload_n 2, 1) := by decide +kernel
theorem d_M_letterAll_1 : decode prog_9_method_46_code 1 = .ok (.istore 4, 2) := by decide +kernel
theorem d_M_letterAll_3 : decode prog_9_method_46_code 3 = .ok (.iload 4, 2) := by decide +kernel
theorem d_M_letterAll_5 : decode prog_9_method_46_code 5 = .ok (.iload_n 3, 1) := by decide +kernel
theorem d_M_letterAll_6 : decode prog_9_method_46_code 6 = .ok (.if_icmp .ge 25, 3) := by decide +kernel
theorem d_M_letterAll_9 : decode prog_9_method_46_code 9 = .ok (.aload_n 0, 1) := by decide +kernel
theorem d_M_letterAll_10 : decode prog_9_method_46_code 10 = .ok (.aload_n 0, 1) := by decide +kernel
theorem d_M_letterAll_11 : decode prog_9_method_46_code 11 = .ok (.getfield 30, 3) := by decide +kernel
theorem d_M_letterAll_14 : decode prog_9_method_46_code 14 = .ok (.bipush 64, 2) := by decide +kernel
theorem d_M_letterAll_16 : decode prog_9_method_46_code 16 = .ok (.iload_n 1, 1) := by decide +kernel
theorem d_M_letterAll_17 : decode prog_9_method_46_code 17 = .ok (.imul, 1) := by decide +kernel
theorem d_M_letterAll_18 : decode prog_9_method_46_code 18 = .ok (.iload 4, 2) := by decide +kernel
theorem d_M_letterAll_20 : decode prog_9_method_46_code 20 = .ok (.iadd, 1) := by decide +kernel
theorem d_M_letterAll_21 : decode prog_9_method_46_code 21 = .ok (.iaload, 1) := by decide +kernel
theorem d_M_letterAll_22 : decode prog_9_method_46_code 22 = .ok (.invokevirtual 157, 3) := by decide +kernel
theorem d_M_letterAll_25 : decode prog_9_method_46_code 25 = .ok (.iinc 4 1, 3) := by decide +kernel
theorem d_M_letterAll_28 : decode prog_9_method_46_code 28 = .ok (.goto (-25), 3) := by decide +kernel
theorem d_M_letterAll_31 : decode prog_9_method_46_code 31 = .ok (.return_, 1) := by decide +kernel
def m_M_letterAll_3 (G : Nat → Nat) : Nat → Nat → Int32 → Int32 → Int32 → hp_H → Option (Unit × hp_H)
  | 0, _, _, _, _, _ => none
  | n + 1, a0, a1, a3, a4, h => if a3 ≤ a4 then (some ((), h)) else ((hp_gR h a0 8 7).bind fun x1 => (hp_aI h .int x1 (((64 : Int32) * a1) + a4)).bind fun x2 => (hp_vck h a0 8 (m_M_letter G a0 x2 h)).bind fun q3 => hp_nm (a4 + 1) fun x4 => (m_M_letterAll_3 G  n) a0 a1 a3 x4 q3.2)
set_option maxRecDepth 100000 in
set_option maxHeartbeats 4000000 in
theorem j_M_letterAll_3 {Z : hp_Z} : ∀ (n : Nat) (a0 : Nat) (a1 : Int32) (a3 : Int32) (a4 : Int32) (h : hp_H), hp_J Y_M_letterAll Z hp_rV h 3 [(0, .ref a0), (1, .int a1), (3, .int a3), (4, .int a4)] [] (m_M_letterAll_3 (hp_G Z)  n a0 a1 a3 a4 h) := by
  intro n
  induction n with
  | zero => intro a0 a1 a3 a4 h; exact hp_fail
  | succ n ih =>
    intro a0 a1 a3 a4 h
    rw [m_M_letterAll_3]
    refine hp_iload (x0 := 3) d_M_letterAll_3 rfl ?_
    refine hp_iload_n (x0 := 2) d_M_letterAll_5 rfl rfl ?_
    refine hp_icmp_ge (tgt := 31) d_M_letterAll_6 (by decide) ?_ ?_
    · exact hp_vret d_M_letterAll_31 rfl
    · refine hp_aload_n (x0 := 0) d_M_letterAll_9 rfl rfl ?_
      refine hp_aload_n (x0 := 0) d_M_letterAll_10 rfl rfl ?_
      refine hp_getR fl_M_30 d_M_letterAll_11 fun x1 => ?_
      refine hp_bipush (v := 64) d_M_letterAll_14 (by decide) ?_
      refine hp_iload_n (x0 := 1) d_M_letterAll_16 rfl rfl ?_
      refine hp_imul d_M_letterAll_17 ?_
      refine hp_iload (x0 := 3) d_M_letterAll_18 rfl ?_
      refine hp_iadd d_M_letterAll_20 ?_
      refine hp_iald d_M_letterAll_21 fun x2 => ?_
      refine hp_callU (hp_crV (ci := 8) (t_M_letter _ _ _ _) cw_M_157 rfl ⟨w_1016, ws_43⟩ (by decide) rfl rfl (Nat.le_of_ble_eq_true rfl) d_M_letterAll_22) fun q3 => ?_
      refine hp_iinc (x0 := 3) (d := 1) (fun x4 => [(4, .int x4), (0, .ref a0), (1, .int a1), (3, .int a3)]) d_M_letterAll_25 rfl (by decide) (by decide) (fun _ => rfl) fun x4 => ?_
      refine hp_goto (tgt := 3) d_M_letterAll_28 (by decide) ?_
      refine hp_sub [1, 2, 3, 0] rfl ?_
      exact ih _ _ _ _ _
def m_M_letterAll (G : Nat → Nat) (a0 : Nat) (a1 : Int32) (a2 : Int32) (a3 : Int32) (h : hp_H) : Option (Unit × hp_H) := hp_nm a2 fun x1 => m_M_letterAll_3 G hp_fu a0 a1 a3 x1 h
set_option maxRecDepth 100000 in
set_option maxHeartbeats 4000000 in
theorem j_M_letterAll_0 {Z : hp_Z} (a0 : Nat) (a1 : Int32) (a2 : Int32) (a3 : Int32) (h : hp_H) : hp_J Y_M_letterAll Z hp_rV h 0 [(0, .ref a0), (1, .int a1), (2, .int a2), (3, .int a3)] [] (m_M_letterAll (hp_G Z)  a0 a1 a2 a3 h) := by
  unfold m_M_letterAll
  refine hp_iload_n (x0 := 2) d_M_letterAll_0 rfl rfl ?_
  refine hp_istore (fun x1 => [(4, .int x1), (0, .ref a0), (1, .int a1), (2, .int a2), (3, .int a3)]) d_M_letterAll_1 (by decide) (fun _ => rfl) fun x1 => ?_
  refine hp_sub [1, 2, 4, 0] rfl ?_
  exact j_M_letterAll_3  hp_fu _ _ _ _ _
theorem t_M_letterAll (l : Launch) (E : hp_E) (a0 : Nat) (a1 : Int32) (a2 : Int32) (a3 : Int32) : hp_M l E y_M_letterAll Y_M_letterAll hp_rV [.ref a0, .int a1, .int a2, .int a3] (m_M_letterAll E.2.2.1 a0 a1 a2 a3) := hp_M.of (plainFor_of_name (by decide)) ⟨rfl, rfl⟩ (Nat.le_of_ble_eq_true rfl) (fun Z h hE => by subst hE; exact j_M_letterAll_0 _ _ _ _ h)
-- M_spell
theorem d_M_spell_0 : decode prog_9_method_48_code 0 = .ok (.iconst 0, 1) := by decide +kernel
theorem d_M_spell_1 : decode prog_9_method_48_code 1 = .ok (.istore_n 2, 1) := by decide +kernel
theorem d_M_spell_2 : decode prog_9_method_48_code 2 = .ok (.iload_n 2, 1) := by decide +kernel
theorem d_M_spell_3 : decode prog_9_method_48_code 3 = .ok (.aload_n 1, 1) := by decide +kernel
theorem d_M_spell_4 : decode prog_9_method_48_code 4 = .ok (.invokevirtual 206, 3) := by decide +kernel
theorem d_M_spell_7 : decode prog_9_method_48_code 7 = .ok (.if_icmp .ge 18, 3) := by decide +kernel
theorem d_M_spell_10 : decode prog_9_method_48_code 10 = .ok (.aload_n 0, 1) := by decide +kernel
theorem d_M_spell_11 : decode prog_9_method_48_code 11 = .ok (.aload_n 1, 1) := by decide +kernel
theorem d_M_spell_12 : decode prog_9_method_48_code 12 = .ok (.iload_n 2, 1) := by decide +kernel
theorem d_M_spell_13 : decode prog_9_method_48_code 13 = .ok (.invokevirtual 211, 3) := by decide +kernel
theorem d_M_spell_16 : decode prog_9_method_48_code 16 = .ok (.invokevirtual 157, 3) := by decide +kernel
theorem d_M_spell_19 : decode prog_9_method_48_code 19 = .ok (.iinc 2 1, 3) := by decide +kernel
theorem d_M_spell_22 : decode prog_9_method_48_code 22 = .ok (.goto (-20), 3) := by decide +kernel
theorem d_M_spell_25 : decode prog_9_method_48_code 25 = .ok (.return_, 1) := by decide +kernel
def m_M_spell_2 (G : Nat → Nat) : Nat → Nat → Nat → Int32 → hp_H → Option (Unit × hp_H)
  | 0, _, _, _, _ => none
  | n + 1, a0, a1, a2, h => (hp_sck G a1 (m_ST_length G a1 h)).bind fun q1 => if q1.1 ≤ a2 then (some ((), q1.2)) else ((hp_sck G a1 (m_ST_charAt G a1 a2 q1.2)).bind fun q2 => (hp_vck q2.2 a0 8 (m_M_letter G a0 q2.1 q2.2)).bind fun q3 => hp_nm (a2 + 1) fun x4 => (m_M_spell_2 G  n) a0 a1 x4 q3.2)
set_option maxRecDepth 100000 in
set_option maxHeartbeats 4000000 in
theorem j_M_spell_2 {Z : hp_Z} : ∀ (n : Nat) (a0 : Nat) (a1 : Nat) (a2 : Int32) (h : hp_H), hp_J Y_M_spell Z hp_rV h 2 [(0, .ref a0), (1, .ref a1), (2, .int a2)] [] (m_M_spell_2 (hp_G Z)  n a0 a1 a2 h) := by
  intro n
  induction n with
  | zero => intro a0 a1 a2 h; exact hp_fail
  | succ n ih =>
    intro a0 a1 a2 h
    rw [m_M_spell_2]
    refine hp_iload_n (x0 := 2) d_M_spell_2 rfl rfl ?_
    refine hp_aload_n (x0 := 1) d_M_spell_3 rfl rfl ?_
    refine hp_callI (hp_crVS (t_ST_length _ _ _) cw_M_206 ⟨w_719, w_720⟩ (by decide) rfl rfl (Nat.le_of_ble_eq_true rfl) d_M_spell_4) fun q1 => ?_
    refine hp_icmp_ge (tgt := 25) d_M_spell_7 (by decide) ?_ ?_
    · exact hp_vret d_M_spell_25 rfl
    · refine hp_aload_n (x0 := 0) d_M_spell_10 rfl rfl ?_
      refine hp_aload_n (x0 := 1) d_M_spell_11 rfl rfl ?_
      refine hp_iload_n (x0 := 2) d_M_spell_12 rfl rfl ?_
      refine hp_callI (hp_crVS (t_ST_charAt _ _ _ _) cw_M_211 ⟨w_729, w_730⟩ (by decide) rfl rfl (Nat.le_of_ble_eq_true rfl) d_M_spell_13) fun q2 => ?_
      refine hp_callU (hp_crV (ci := 8) (t_M_letter _ _ _ _) cw_M_157 rfl ⟨w_1016, ws_43⟩ (by decide) rfl rfl (Nat.le_of_ble_eq_true rfl) d_M_spell_16) fun q3 => ?_
      refine hp_iinc (x0 := 2) (d := 1) (fun x4 => [(2, .int x4), (0, .ref a0), (1, .ref a1)]) d_M_spell_19 rfl (by decide) (by decide) (fun _ => rfl) fun x4 => ?_
      refine hp_goto (tgt := 2) d_M_spell_22 (by decide) ?_
      refine hp_sub [1, 2, 0] rfl ?_
      exact ih _ _ _ _
def m_M_spell (G : Nat → Nat) (a0 : Nat) (a1 : Nat) (h : hp_H) : Option (Unit × hp_H) := hp_nm (0 : Int32) fun x1 => m_M_spell_2 G hp_fu a0 a1 x1 h
set_option maxRecDepth 100000 in
set_option maxHeartbeats 4000000 in
theorem j_M_spell_0 {Z : hp_Z} (a0 : Nat) (a1 : Nat) (h : hp_H) : hp_J Y_M_spell Z hp_rV h 0 [(0, .ref a0), (1, .ref a1)] [] (m_M_spell (hp_G Z)  a0 a1 h) := by
  unfold m_M_spell
  refine hp_iconst (v := 0) d_M_spell_0 (by decide) ?_
  refine hp_istore_n (fun x1 => [(2, .int x1), (0, .ref a0), (1, .ref a1)]) d_M_spell_1 rfl (by decide) (fun _ => rfl) fun x1 => ?_
  refine hp_sub [1, 2, 0] rfl ?_
  exact j_M_spell_2  hp_fu _ _ _ _
theorem t_M_spell (l : Launch) (E : hp_E) (a0 : Nat) (a1 : Nat) : hp_M l E y_M_spell Y_M_spell hp_rV [.ref a0, .ref a1] (m_M_spell E.2.2.1 a0 a1) := hp_M.of (plainFor_of_name (by decide)) ⟨rfl, rfl⟩ (Nat.le_of_ble_eq_true rfl) (fun Z h hE => by subst hE; exact j_M_spell_0 _ _ h)
-- M_stringOfNumber
theorem d_M_stringOfNumber_0 : decode prog_9_method_50_code 0 = .ok (.aload_n 0, 1) := by decide +kernel
theorem d_M_stringOfNumber_1 : decode prog_9_method_50_code 1 = .ok (.getfield 16, 3) := by decide +kernel
theorem d_M_stringOfNumber_4 : decode prog_9_method_50_code 4 = .ok (.iload_n 1, 1) := by decide +kernel
theorem d_M_stringOfNumber_5 : decode prog_9_method_50_code 5 = .ok (.iaload, 1) := by decide +kernel
theorem d_M_stringOfNumber_6 : decode prog_9_method_50_code 6 = .ok (.ifCond .ge 9, 3) := by decide +kernel
theorem d_M_stringOfNumber_9 : decode prog_9_method_50_code 9 = .ok (.aload_n 0, 1) := by decide +kernel
theorem d_M_stringOfNumber_10 : decode prog_9_method_50_code 10 = .ok (.bipush 45, 2) := by decide +kernel
theorem d_M_stringOfNumber_12 : decode prog_9_method_50_code 12 = .ok (.invokevirtual 157, 3) := by decide +kernel
theorem d_M_stringOfNumber_15 : decode prog_9_method_50_code 15 = .ok (.bipush 17, 2) := by decide +kernel
theorem d_M_stringOfNumber_17 : decode prog_9_method_50_code 17 = .ok (.istore_n 2, 1) := by decide +kernel
theorem d_M_stringOfNumber_18 : decode prog_9_method_50_code 18 = .ok (.iload_n 2, 1) := by decide +kernel
theorem d_M_stringOfNumber_19 : decode prog_9_method_50_code 19 = .ok (.aload_n 0, 1) := by decide +kernel
theorem d_M_stringOfNumber_20 : decode prog_9_method_50_code 20 = .ok (.getfield 19, 3) := by decide +kernel
theorem d_M_stringOfNumber_23 : decode prog_9_method_50_code 23 = .ok (.iload_n 1, 1) := by decide +kernel
theorem d_M_stringOfNumber_24 : decode prog_9_method_50_code 24 = .ok (.iaload, 1) := by decide +kernel
theorem d_M_stringOfNumber_25 : decode prog_9_method_50_code 25 = .ok (.if_icmp .le 23, 3) := by decide +kernel
theorem d_M_stringOfNumber_28 : decode prog_9_method_50_code 28 = .ok (.aload_n 0, 1) := by decide +kernel
theorem d_M_stringOfNumber_29 : decode prog_9_method_50_code 29 = .ok (.getfield 23, 3) := by decide +kernel
theorem d_M_stringOfNumber_32 : decode prog_9_method_50_code 32 = .ok (.bipush 18, 2) := by decide +kernel
theorem d_M_stringOfNumber_34 : decode prog_9_method_50_code 34 = .ok (.iload_n 1, 1) := by decide +kernel
theorem d_M_stringOfNumber_35 : decode prog_9_method_50_code 35 = .ok (.imul, 1) := by decide +kernel
theorem d_M_stringOfNumber_36 : decode prog_9_method_50_code 36 = .ok (.iload_n 2, 1) := by decide +kernel
theorem d_M_stringOfNumber_37 : decode prog_9_method_50_code 37 = .ok (.iadd, 1) := by decide +kernel
theorem d_M_stringOfNumber_38 : decode prog_9_method_50_code 38 = .ok (.iaload, 1) := by decide +kernel
theorem d_M_stringOfNumber_39 : decode prog_9_method_50_code 39 = .ok (.ifCond .ne 9, 3) := by decide +kernel
theorem d_M_stringOfNumber_42 : decode prog_9_method_50_code 42 = .ok (.iinc 2 (-1), 3) := by decide +kernel
theorem d_M_stringOfNumber_45 : decode prog_9_method_50_code 45 = .ok (.goto (-27), 3) := by decide +kernel
theorem d_M_stringOfNumber_48 : decode prog_9_method_50_code 48 = .ok (.iload_n 2, 1) := by decide +kernel
theorem d_M_stringOfNumber_49 : decode prog_9_method_50_code 49 = .ok (.istore_n 3, 1) := by decide +kernel
theorem d_M_stringOfNumber_50 : decode prog_9_method_50_code 50 = .ok (.iload_n 3, 1) := by decide +kernel
theorem d_M_stringOfNumber_51 : decode prog_9_method_50_code 51 = .ok (.ifCond .lt 47, 3) := by decide +kernel
theorem d_M_stringOfNumber_54 : decode prog_9_method_50_code 54 = .ok (.aload_n 0, 1) := by decide +kernel
theorem d_M_stringOfNumber_55 : decode prog_9_method_50_code 55 = .ok (.bipush 48, 2) := by decide +kernel
theorem d_M_stringOfNumber_57 : decode prog_9_method_50_code 57 = .ok (.aload_n 0, 1) := by decide +kernel
theorem d_M_stringOfNumber_58 : decode prog_9_method_50_code 58 = .ok (.getfield 23, 3) := by decide +kernel
theorem d_M_stringOfNumber_61 : decode prog_9_method_50_code 61 = .ok (.bipush 18, 2) := by decide +kernel
theorem d_M_stringOfNumber_63 : decode prog_9_method_50_code 63 = .ok (.iload_n 1, 1) := by decide +kernel
theorem d_M_stringOfNumber_64 : decode prog_9_method_50_code 64 = .ok (.imul, 1) := by decide +kernel
theorem d_M_stringOfNumber_65 : decode prog_9_method_50_code 65 = .ok (.iload_n 3, 1) := by decide +kernel
theorem d_M_stringOfNumber_66 : decode prog_9_method_50_code 66 = .ok (.iadd, 1) := by decide +kernel
theorem d_M_stringOfNumber_67 : decode prog_9_method_50_code 67 = .ok (.iaload, 1) := by decide +kernel
theorem d_M_stringOfNumber_68 : decode prog_9_method_50_code 68 = .ok (.iadd, 1) := by decide +kernel
theorem d_M_stringOfNumber_69 : decode prog_9_method_50_code 69 = .ok (.invokevirtual 157, 3) := by decide +kernel
theorem d_M_stringOfNumber_72 : decode prog_9_method_50_code 72 = .ok (.iload_n 3, 1) := by decide +kernel
theorem d_M_stringOfNumber_73 : decode prog_9_method_50_code 73 = .ok (.aload_n 0, 1) := by decide +kernel
theorem d_M_stringOfNumber_74 : decode prog_9_method_50_code 74 = .ok (.getfield 19, 3) := by decide +kernel
theorem d_M_stringOfNumber_77 : decode prog_9_method_50_code 77 = .ok (.iload_n 1, 1) := by decide +kernel
theorem d_M_stringOfNumber_78 : decode prog_9_method_50_code 78 = .ok (.iaload, 1) := by decide +kernel
theorem d_M_stringOfNumber_79 : decode prog_9_method_50_code 79 = .ok (.if_icmp .ne 13, 3) := by decide +kernel
theorem d_M_stringOfNumber_82 : decode prog_9_method_50_code 82 = .ok (.iload_n 3, 1) := by decide +kernel
theorem d_M_stringOfNumber_83 : decode prog_9_method_50_code 83 = .ok (.ifCond .le 9, 3) := by decide +kernel
theorem d_M_stringOfNumber_86 : decode prog_9_method_50_code 86 = .ok (.aload_n 0, 1) := by decide +kernel
theorem d_M_stringOfNumber_87 : decode prog_9_method_50_code 87 = .ok (.bipush 46, 2) := by decide +kernel
theorem d_M_stringOfNumber_89 : decode prog_9_method_50_code 89 = .ok (.invokevirtual 157, 3) := by decide +kernel
theorem d_M_stringOfNumber_92 : decode prog_9_method_50_code 92 = .ok (.iinc 3 (-1), 3) := by decide +kernel
theorem d_M_stringOfNumber_95 : decode prog_9_method_50_code 95 = .ok (.goto (-45), 3) := by decide +kernel
theorem d_M_stringOfNumber_98 : decode prog_9_method_50_code 98 = .ok (.aload_n 0, 1) := by decide +kernel
theorem d_M_stringOfNumber_99 : decode prog_9_method_50_code 99 = .ok (.getfield 7, 3) := by decide +kernel
theorem d_M_stringOfNumber_102 : decode prog_9_method_50_code 102 = .ok (.iload_n 1, 1) := by decide +kernel
theorem d_M_stringOfNumber_103 : decode prog_9_method_50_code 103 = .ok (.iaload, 1) := by decide +kernel
theorem d_M_stringOfNumber_104 : decode prog_9_method_50_code 104 = .ok (.iconst 4, 1) := by decide +kernel
theorem d_M_stringOfNumber_105 : decode prog_9_method_50_code 105 = .ok (.if_icmp .ne 18, 3) := by decide +kernel
theorem d_M_stringOfNumber_108 : decode prog_9_method_50_code 108 = .ok (.aload_n 0, 1) := by decide +kernel
theorem d_M_stringOfNumber_109 : decode prog_9_method_50_code 109 = .ok (.getfield 19, 3) := by decide +kernel
theorem d_M_stringOfNumber_112 : decode prog_9_method_50_code 112 = .ok (.iload_n 1, 1) := by decide +kernel
theorem d_M_stringOfNumber_113 : decode prog_9_method_50_code 113 = .ok (.iaload, 1) := by decide +kernel
theorem d_M_stringOfNumber_114 : decode prog_9_method_50_code 114 = .ok (.ifCond .ne 9, 3) := by decide +kernel
theorem d_M_stringOfNumber_117 : decode prog_9_method_50_code 117 = .ok (.aload_n 0, 1) := by decide +kernel
theorem d_M_stringOfNumber_118 : decode prog_9_method_50_code 118 = .ok (.ldc 215, 2) := by decide +kernel
theorem d_M_stringOfNumber_120 : decode prog_9_method_50_code 120 = .ok (.invokevirtual 198, 3) := by decide +kernel
theorem d_M_stringOfNumber_123 : decode prog_9_method_50_code 123 = .ok (.return_, 1) := by decide +kernel
def m_M_stringOfNumber_92 (G : Nat → Nat) (r50 : Nat → Int32 → Int32 → hp_H → Option (Unit × hp_H)) (a0 : Nat) (a1 : Int32) (a3 : Int32) (h : hp_H) : Option (Unit × hp_H) := hp_nm (a3 + (-1)) fun x1 => r50 a0 a1 x1 h
set_option maxRecDepth 100000 in
set_option maxHeartbeats 4000000 in
theorem j_M_stringOfNumber_92 {Z : hp_Z} (r50 : Nat → Int32 → Int32 → hp_H → Option (Unit × hp_H)) (hr50 : ∀ (a0 : Nat) (a1 : Int32) (a3 : Int32) (h : hp_H), hp_J Y_M_stringOfNumber Z hp_rV h 50 [(0, .ref a0), (1, .int a1), (3, .int a3)] [] (r50 a0 a1 a3  h)) (a0 : Nat) (a1 : Int32) (a3 : Int32) (h : hp_H) : hp_J Y_M_stringOfNumber Z hp_rV h 92 [(0, .ref a0), (1, .int a1), (3, .int a3)] [] (m_M_stringOfNumber_92 (hp_G Z) r50 a0 a1 a3 h) := by
  unfold m_M_stringOfNumber_92
  refine hp_iinc (x0 := 2) (d := -1) (fun x1 => [(3, .int x1), (0, .ref a0), (1, .int a1)]) d_M_stringOfNumber_92 rfl (by decide) (by decide) (fun _ => rfl) fun x1 => ?_
  refine hp_goto (tgt := 50) d_M_stringOfNumber_95 (by decide) ?_
  refine hp_sub [1, 2, 0] rfl ?_
  exact hr50 _ _ _ _
def m_M_stringOfNumber_123 (G : Nat → Nat) (h : hp_H) : Option (Unit × hp_H) := some ((), h)
set_option maxRecDepth 100000 in
set_option maxHeartbeats 4000000 in
theorem j_M_stringOfNumber_123 {Z : hp_Z} (h : hp_H) : hp_J Y_M_stringOfNumber Z hp_rV h 123 [] [] (m_M_stringOfNumber_123 (hp_G Z)   h) := by
  unfold m_M_stringOfNumber_123
  exact hp_vret d_M_stringOfNumber_123 rfl
def m_M_stringOfNumber_50 (G : Nat → Nat) : Nat → Nat → Int32 → Int32 → hp_H → Option (Unit × hp_H)
  | 0, _, _, _, _ => none
  | n + 1, a0, a1, a3, h => if a3 < 0 then ((hp_gR h a0 8 1).bind fun x1 => (hp_aI h .int x1 a1).bind fun x2 => if x2 = (4 : Int32) then ((hp_gR h a0 8 4).bind fun x3 => (hp_aI h .int x3 a1).bind fun x4 => if x4 = 0 then ((hp_vck h a0 8 (m_M_spell G a0 (G 7) h)).bind fun q5 => m_M_stringOfNumber_123 G q5.2) else (m_M_stringOfNumber_123 G h)) else (m_M_stringOfNumber_123 G h)) else ((hp_gR h a0 8 5).bind fun x6 => (hp_aI h .int x6 (((18 : Int32) * a1) + a3)).bind fun x7 => (hp_vck h a0 8 (m_M_letter G a0 ((48 : Int32) + x7) h)).bind fun q8 => (hp_gR q8.2 a0 8 4).bind fun x9 => (hp_aI q8.2 .int x9 a1).bind fun x10 => if a3 = x10 then (if a3 ≤ 0 then (m_M_stringOfNumber_92 G (m_M_stringOfNumber_50 G  n) a0 a1 a3 q8.2) else ((hp_vck q8.2 a0 8 (m_M_letter G a0 (46 : Int32) q8.2)).bind fun q11 => m_M_stringOfNumber_92 G (m_M_stringOfNumber_50 G  n) a0 a1 a3 q11.2)) else (m_M_stringOfNumber_92 G (m_M_stringOfNumber_50 G  n) a0 a1 a3 q8.2))
set_option maxRecDepth 100000 in
set_option maxHeartbeats 4000000 in
theorem j_M_stringOfNumber_50 {Z : hp_Z} : ∀ (n : Nat) (a0 : Nat) (a1 : Int32) (a3 : Int32) (h : hp_H), hp_J Y_M_stringOfNumber Z hp_rV h 50 [(0, .ref a0), (1, .int a1), (3, .int a3)] [] (m_M_stringOfNumber_50 (hp_G Z)  n a0 a1 a3 h) := by
  intro n
  induction n with
  | zero => intro a0 a1 a3 h; exact hp_fail
  | succ n ih =>
    intro a0 a1 a3 h
    rw [m_M_stringOfNumber_50]
    refine hp_iload_n (x0 := 2) d_M_stringOfNumber_50 rfl rfl ?_
    refine hp_if_lt (tgt := 98) d_M_stringOfNumber_51 (by decide) ?_ ?_
    · refine hp_aload_n (x0 := 0) d_M_stringOfNumber_98 rfl rfl ?_
      refine hp_getR fl_M_7 d_M_stringOfNumber_99 fun x1 => ?_
      refine hp_iload_n (x0 := 1) d_M_stringOfNumber_102 rfl rfl ?_
      refine hp_iald d_M_stringOfNumber_103 fun x2 => ?_
      refine hp_iconst (v := 4) d_M_stringOfNumber_104 (by decide) ?_
      refine hp_icmp_ne (tgt := 123) d_M_stringOfNumber_105 (by decide) ?_ ?_
      · refine hp_aload_n (x0 := 0) d_M_stringOfNumber_108 rfl rfl ?_
        refine hp_getR fl_M_19 d_M_stringOfNumber_109 fun x3 => ?_
        refine hp_iload_n (x0 := 1) d_M_stringOfNumber_112 rfl rfl ?_
        refine hp_iald d_M_stringOfNumber_113 fun x4 => ?_
        refine hp_if_ne (tgt := 123) d_M_stringOfNumber_114 (by decide) ?_ ?_
        · refine hp_aload_n (x0 := 0) d_M_stringOfNumber_117 rfl rfl ?_
          refine hp_ldcS (k := 7) (tx := ".0") (by decide) d_M_stringOfNumber_118 ?_
          refine hp_callU (hp_crV (ci := 8) (t_M_spell _ _ _ _) cw_M_198 rfl ⟨w_1233, ws_83⟩ (by decide) rfl rfl (Nat.le_of_ble_eq_true rfl) d_M_stringOfNumber_120) fun q5 => ?_
          refine hp_sub [] rfl ?_
          exact j_M_stringOfNumber_123   _
        · refine hp_sub [] rfl ?_
          exact j_M_stringOfNumber_123   _
      · refine hp_sub [] rfl ?_
        exact j_M_stringOfNumber_123   _
    · refine hp_aload_n (x0 := 0) d_M_stringOfNumber_54 rfl rfl ?_
      refine hp_bipush (v := 48) d_M_stringOfNumber_55 (by decide) ?_
      refine hp_aload_n (x0 := 0) d_M_stringOfNumber_57 rfl rfl ?_
      refine hp_getR fl_M_23 d_M_stringOfNumber_58 fun x6 => ?_
      refine hp_bipush (v := 18) d_M_stringOfNumber_61 (by decide) ?_
      refine hp_iload_n (x0 := 1) d_M_stringOfNumber_63 rfl rfl ?_
      refine hp_imul d_M_stringOfNumber_64 ?_
      refine hp_iload_n (x0 := 2) d_M_stringOfNumber_65 rfl rfl ?_
      refine hp_iadd d_M_stringOfNumber_66 ?_
      refine hp_iald d_M_stringOfNumber_67 fun x7 => ?_
      refine hp_iadd d_M_stringOfNumber_68 ?_
      refine hp_callU (hp_crV (ci := 8) (t_M_letter _ _ _ _) cw_M_157 rfl ⟨w_1016, ws_43⟩ (by decide) rfl rfl (Nat.le_of_ble_eq_true rfl) d_M_stringOfNumber_69) fun q8 => ?_
      refine hp_iload_n (x0 := 2) d_M_stringOfNumber_72 rfl rfl ?_
      refine hp_aload_n (x0 := 0) d_M_stringOfNumber_73 rfl rfl ?_
      refine hp_getR fl_M_19 d_M_stringOfNumber_74 fun x9 => ?_
      refine hp_iload_n (x0 := 1) d_M_stringOfNumber_77 rfl rfl ?_
      refine hp_iald d_M_stringOfNumber_78 fun x10 => ?_
      refine hp_icmp_ne (tgt := 92) d_M_stringOfNumber_79 (by decide) ?_ ?_
      · refine hp_iload_n (x0 := 2) d_M_stringOfNumber_82 rfl rfl ?_
        refine hp_if_le (tgt := 92) d_M_stringOfNumber_83 (by decide) ?_ ?_
        · exact j_M_stringOfNumber_92 _ ih _ _ _ _
        · refine hp_aload_n (x0 := 0) d_M_stringOfNumber_86 rfl rfl ?_
          refine hp_bipush (v := 46) d_M_stringOfNumber_87 (by decide) ?_
          refine hp_callU (hp_crV (ci := 8) (t_M_letter _ _ _ _) cw_M_157 rfl ⟨w_1016, ws_43⟩ (by decide) rfl rfl (Nat.le_of_ble_eq_true rfl) d_M_stringOfNumber_89) fun q11 => ?_
          exact j_M_stringOfNumber_92 _ ih _ _ _ _
      · exact j_M_stringOfNumber_92 _ ih _ _ _ _
def m_M_stringOfNumber_48 (G : Nat → Nat) (a0 : Nat) (a1 : Int32) (a2 : Int32) (h : hp_H) : Option (Unit × hp_H) := hp_nm a2 fun x1 => m_M_stringOfNumber_50 G hp_fu a0 a1 x1 h
set_option maxRecDepth 100000 in
set_option maxHeartbeats 4000000 in
theorem j_M_stringOfNumber_48 {Z : hp_Z} (a0 : Nat) (a1 : Int32) (a2 : Int32) (h : hp_H) : hp_J Y_M_stringOfNumber Z hp_rV h 48 [(0, .ref a0), (1, .int a1), (2, .int a2)] [] (m_M_stringOfNumber_48 (hp_G Z)  a0 a1 a2 h) := by
  unfold m_M_stringOfNumber_48
  refine hp_iload_n (x0 := 2) d_M_stringOfNumber_48 rfl rfl ?_
  refine hp_istore_n (fun x1 => [(3, .int x1), (0, .ref a0), (1, .int a1), (2, .int a2)]) d_M_stringOfNumber_49 rfl (by decide) (fun _ => rfl) fun x1 => ?_
  refine hp_sub [1, 2, 0] rfl ?_
  exact j_M_stringOfNumber_50  hp_fu _ _ _ _
def m_M_stringOfNumber_18 (G : Nat → Nat) : Nat → Nat → Int32 → Int32 → hp_H → Option (Unit × hp_H)
  | 0, _, _, _, _ => none
  | n + 1, a0, a1, a2, h => (hp_gR h a0 8 4).bind fun x1 => (hp_aI h .int x1 a1).bind fun x2 => if a2 ≤ x2 then (m_M_stringOfNumber_48 G a0 a1 a2 h) else ((hp_gR h a0 8 5).bind fun x3 => (hp_aI h .int x3 (((18 : Int32) * a1) + a2)).bind fun x4 => if x4 = 0 then (hp_nm (a2 + (-1)) fun x5 => (m_M_stringOfNumber_18 G  n) a0 a1 x5 h) else (m_M_stringOfNumber_48 G a0 a1 a2 h))
set_option maxRecDepth 100000 in
set_option maxHeartbeats 4000000 in
theorem j_M_stringOfNumber_18 {Z : hp_Z} : ∀ (n : Nat) (a0 : Nat) (a1 : Int32) (a2 : Int32) (h : hp_H), hp_J Y_M_stringOfNumber Z hp_rV h 18 [(0, .ref a0), (1, .int a1), (2, .int a2)] [] (m_M_stringOfNumber_18 (hp_G Z)  n a0 a1 a2 h) := by
  intro n
  induction n with
  | zero => intro a0 a1 a2 h; exact hp_fail
  | succ n ih =>
    intro a0 a1 a2 h
    rw [m_M_stringOfNumber_18]
    refine hp_iload_n (x0 := 2) d_M_stringOfNumber_18 rfl rfl ?_
    refine hp_aload_n (x0 := 0) d_M_stringOfNumber_19 rfl rfl ?_
    refine hp_getR fl_M_19 d_M_stringOfNumber_20 fun x1 => ?_
    refine hp_iload_n (x0 := 1) d_M_stringOfNumber_23 rfl rfl ?_
    refine hp_iald d_M_stringOfNumber_24 fun x2 => ?_
    refine hp_icmp_le (tgt := 48) d_M_stringOfNumber_25 (by decide) ?_ ?_
    · exact j_M_stringOfNumber_48  _ _ _ _
    · refine hp_aload_n (x0 := 0) d_M_stringOfNumber_28 rfl rfl ?_
      refine hp_getR fl_M_23 d_M_stringOfNumber_29 fun x3 => ?_
      refine hp_bipush (v := 18) d_M_stringOfNumber_32 (by decide) ?_
      refine hp_iload_n (x0 := 1) d_M_stringOfNumber_34 rfl rfl ?_
      refine hp_imul d_M_stringOfNumber_35 ?_
      refine hp_iload_n (x0 := 2) d_M_stringOfNumber_36 rfl rfl ?_
      refine hp_iadd d_M_stringOfNumber_37 ?_
      refine hp_iald d_M_stringOfNumber_38 fun x4 => ?_
      refine hp_if_ne (tgt := 48) d_M_stringOfNumber_39 (by decide) ?_ ?_
      · refine hp_iinc (x0 := 2) (d := -1) (fun x5 => [(2, .int x5), (0, .ref a0), (1, .int a1)]) d_M_stringOfNumber_42 rfl (by decide) (by decide) (fun _ => rfl) fun x5 => ?_
        refine hp_goto (tgt := 18) d_M_stringOfNumber_45 (by decide) ?_
        refine hp_sub [1, 2, 0] rfl ?_
        exact ih _ _ _ _
      · exact j_M_stringOfNumber_48  _ _ _ _
def m_M_stringOfNumber_15 (G : Nat → Nat) (a0 : Nat) (a1 : Int32) (h : hp_H) : Option (Unit × hp_H) := hp_nm (17 : Int32) fun x1 => m_M_stringOfNumber_18 G hp_fu a0 a1 x1 h
set_option maxRecDepth 100000 in
set_option maxHeartbeats 4000000 in
theorem j_M_stringOfNumber_15 {Z : hp_Z} (a0 : Nat) (a1 : Int32) (h : hp_H) : hp_J Y_M_stringOfNumber Z hp_rV h 15 [(0, .ref a0), (1, .int a1)] [] (m_M_stringOfNumber_15 (hp_G Z)  a0 a1 h) := by
  unfold m_M_stringOfNumber_15
  refine hp_bipush (v := 17) d_M_stringOfNumber_15 (by decide) ?_
  refine hp_istore_n (fun x1 => [(2, .int x1), (0, .ref a0), (1, .int a1)]) d_M_stringOfNumber_17 rfl (by decide) (fun _ => rfl) fun x1 => ?_
  refine hp_sub [1, 2, 0] rfl ?_
  exact j_M_stringOfNumber_18  hp_fu _ _ _ _
def m_M_stringOfNumber (G : Nat → Nat) (a0 : Nat) (a1 : Int32) (h : hp_H) : Option (Unit × hp_H) := (hp_gR h a0 8 3).bind fun x1 => (hp_aI h .int x1 a1).bind fun x2 => if 0 ≤ x2 then (m_M_stringOfNumber_15 G a0 a1 h) else ((hp_vck h a0 8 (m_M_letter G a0 (45 : Int32) h)).bind fun q3 => m_M_stringOfNumber_15 G a0 a1 q3.2)
set_option maxRecDepth 100000 in
set_option maxHeartbeats 4000000 in
theorem j_M_stringOfNumber_0 {Z : hp_Z} (a0 : Nat) (a1 : Int32) (h : hp_H) : hp_J Y_M_stringOfNumber Z hp_rV h 0 [(0, .ref a0), (1, .int a1)] [] (m_M_stringOfNumber (hp_G Z)  a0 a1 h) := by
  unfold m_M_stringOfNumber
  refine hp_aload_n (x0 := 0) d_M_stringOfNumber_0 rfl rfl ?_
  refine hp_getR fl_M_16 d_M_stringOfNumber_1 fun x1 => ?_
  refine hp_iload_n (x0 := 1) d_M_stringOfNumber_4 rfl rfl ?_
  refine hp_iald d_M_stringOfNumber_5 fun x2 => ?_
  refine hp_if_ge (tgt := 15) d_M_stringOfNumber_6 (by decide) ?_ ?_
  · exact j_M_stringOfNumber_15  _ _ _
  · refine hp_aload_n (x0 := 0) d_M_stringOfNumber_9 rfl rfl ?_
    refine hp_bipush (v := 45) d_M_stringOfNumber_10 (by decide) ?_
    refine hp_callU (hp_crV (ci := 8) (t_M_letter _ _ _ _) cw_M_157 rfl ⟨w_1016, ws_43⟩ (by decide) rfl rfl (Nat.le_of_ble_eq_true rfl) d_M_stringOfNumber_12) fun q3 => ?_
    exact j_M_stringOfNumber_15  _ _ _
theorem t_M_stringOfNumber (l : Launch) (E : hp_E) (a0 : Nat) (a1 : Int32) : hp_M l E y_M_stringOfNumber Y_M_stringOfNumber hp_rV [.ref a0, .int a1] (m_M_stringOfNumber E.2.2.1 a0 a1) := hp_M.of (plainFor_of_name (by decide)) ⟨rfl, rfl⟩ (Nat.le_of_ble_eq_true rfl) (fun Z h hE => by subst hE; exact j_M_stringOfNumber_0 _ _ h)
-- M_string
theorem d_M_string_0 : decode prog_9_method_47_code 0 = .ok (.aload_n 0, 1) := by decide +kernel
theorem d_M_string_1 : decode prog_9_method_47_code 1 = .ok (.getfield 7, 3) := by decide +kernel
theorem d_M_string_4 : decode prog_9_method_47_code 4 = .ok (.iload_n 1, 1) := by decide +kernel
theorem d_M_string_5 : decode prog_9_method_47_code 5 = .ok (.iaload, 1) := by decide +kernel
theorem d_M_string_6 : decode prog_9_method_47_code 6 = .ok (.tableswitch 90 1 8 #[46, 48, 60, 60, 90, 90, 90, 67], 46) := by decide +kernel
theorem d_M_string_52 : decode prog_9_method_47_code 52 = .ok (.iconst 0, 1) := by decide +kernel
theorem d_M_string_53 : decode prog_9_method_47_code 53 = .ok (.ireturn, 1) := by decide +kernel
theorem d_M_string_54 : decode prog_9_method_47_code 54 = .ok (.aload_n 0, 1) := by decide +kernel
theorem d_M_string_55 : decode prog_9_method_47_code 55 = .ok (.aload_n 0, 1) := by decide +kernel
theorem d_M_string_56 : decode prog_9_method_47_code 56 = .ok (.getfield 13, 3) := by decide +kernel
theorem d_M_string_59 : decode prog_9_method_47_code 59 = .ok (.iload_n 1, 1) := by decide +kernel
theorem d_M_string_60 : decode prog_9_method_47_code 60 = .ok (.iaload, 1) := by decide +kernel
theorem d_M_string_61 : decode prog_9_method_47_code 61 = .ok (.invokevirtual 188, 3) := by decide +kernel
theorem d_M_string_64 : decode prog_9_method_47_code 64 = .ok (.iconst 1, 1) := by decide +kernel
theorem d_M_string_65 : decode prog_9_method_47_code 65 = .ok (.ireturn, 1) := by decide +kernel
theorem d_M_string_66 : decode prog_9_method_47_code 66 = .ok (.aload_n 0, 1) := by decide +kernel
theorem d_M_string_67 : decode prog_9_method_47_code 67 = .ok (.iload_n 1, 1) := by decide +kernel
theorem d_M_string_68 : decode prog_9_method_47_code 68 = .ok (.invokevirtual 191, 3) := by decide +kernel
theorem d_M_string_71 : decode prog_9_method_47_code 71 = .ok (.iconst 1, 1) := by decide +kernel
theorem d_M_string_72 : decode prog_9_method_47_code 72 = .ok (.ireturn, 1) := by decide +kernel
theorem d_M_string_73 : decode prog_9_method_47_code 73 = .ok (.aload_n 0, 1) := by decide +kernel
theorem d_M_string_74 : decode prog_9_method_47_code 74 = .ok (.aload_n 0, 1) := by decide +kernel
theorem d_M_string_75 : decode prog_9_method_47_code 75 = .ok (.getfield 13, 3) := by decide +kernel
theorem d_M_string_78 : decode prog_9_method_47_code 78 = .ok (.iload_n 1, 1) := by decide +kernel
theorem d_M_string_79 : decode prog_9_method_47_code 79 = .ok (.iaload, 1) := by decide +kernel
theorem d_M_string_80 : decode prog_9_method_47_code 80 = .ok (.iconst 1, 1) := by decide +kernel
theorem d_M_string_81 : decode prog_9_method_47_code 81 = .ok (.if_icmp .ne 8, 3) := by decide +kernel
theorem d_M_string_84 : decode prog_9_method_47_code 84 = .ok (.ldc 194, 2) := by decide +kernel
theorem d_M_string_86 : decode prog_9_method_47_code 86 = .ok (.goto 5, 3) := by decide +kernel
theorem d_M_string_89 : decode prog_9_method_47_code 89 = .ok (.ldc 196, 2) := by decide +kernel
theorem d_M_string_91 : decode prog_9_method_47_code 91 = .ok (.invokevirtual 198, 3) := by decide +kernel
theorem d_M_string_94 : decode prog_9_method_47_code 94 = .ok (.iconst 1, 1) := by decide +kernel
theorem d_M_string_95 : decode prog_9_method_47_code 95 = .ok (.ireturn, 1) := by decide +kernel
theorem d_M_string_96 : decode prog_9_method_47_code 96 = .ok (.aload_n 0, 1) := by decide +kernel
theorem d_M_string_97 : decode prog_9_method_47_code 97 = .ok (.iload_n 1, 1) := by decide +kernel
theorem d_M_string_98 : decode prog_9_method_47_code 98 = .ok (.iconst 0, 1) := by decide +kernel
theorem d_M_string_99 : decode prog_9_method_47_code 99 = .ok (.aload_n 0, 1) := by decide +kernel
theorem d_M_string_100 : decode prog_9_method_47_code 100 = .ok (.getfield 26, 3) := by decide +kernel
theorem d_M_string_103 : decode prog_9_method_47_code 103 = .ok (.iload_n 1, 1) := by decide +kernel
theorem d_M_string_104 : decode prog_9_method_47_code 104 = .ok (.iaload, 1) := by decide +kernel
theorem d_M_string_105 : decode prog_9_method_47_code 105 = .ok (.invokevirtual 202, 3) := by decide +kernel
theorem d_M_string_108 : decode prog_9_method_47_code 108 = .ok (.iconst 1, 1) := by decide +kernel
theorem d_M_string_109 : decode prog_9_method_47_code 109 = .ok (.ireturn, 1) := by decide +kernel
def m_M_string_91 (G : Nat → Nat) (s0 : Nat) (s1 : Nat) (h : hp_H) : Option (Int32 × hp_H) := (hp_vck h s1 8 (m_M_spell G s1 s0 h)).bind fun q1 => hp_z (1 : Int32) q1.2
set_option maxRecDepth 100000 in
set_option maxHeartbeats 4000000 in
theorem j_M_string_91 {Z : hp_Z} (s0 : Nat) (s1 : Nat) (h : hp_H) : hp_J Y_M_string Z hp_rI h 91 [] [.ref s0, .ref s1] (m_M_string_91 (hp_G Z)  s0 s1 h) := by
  unfold m_M_string_91
  refine hp_callU (hp_crV (ci := 8) (t_M_spell _ _ _ _) cw_M_198 rfl ⟨w_1233, ws_83⟩ (by decide) rfl rfl (Nat.le_of_ble_eq_true rfl) d_M_string_91) fun q1 => ?_
  refine hp_iconst (v := 1) d_M_string_94 (by decide) ?_
  exact hp_zret d_M_string_95 rfl
def m_M_string (G : Nat → Nat) (a0 : Nat) (a1 : Int32) (h : hp_H) : Option (Int32 × hp_H) := (hp_gR h a0 8 1).bind fun x1 => (hp_aI h .int x1 a1).bind fun x2 => if x2 = 1 then (hp_z (0 : Int32) h) else (if x2 = 2 then ((hp_gR h a0 8 2).bind fun x3 => (hp_aI h .int x3 a1).bind fun x4 => (hp_vck h a0 8 (m_M_digitsOf G a0 x4 h)).bind fun q5 => hp_z (1 : Int32) q5.2) else (if x2 = 3 then ((hp_vck h a0 8 (m_M_stringOfNumber G a0 a1 h)).bind fun q6 => hp_z (1 : Int32) q6.2) else (if x2 = 4 then ((hp_vck h a0 8 (m_M_stringOfNumber G a0 a1 h)).bind fun q7 => hp_z (1 : Int32) q7.2) else (if x2 = 5 then ((hp_gR h a0 8 6).bind fun x8 => (hp_aI h .int x8 a1).bind fun x9 => (hp_vck h a0 8 (m_M_letterAll G a0 a1 (0 : Int32) x9 h)).bind fun q10 => hp_z (1 : Int32) q10.2) else (if x2 = 6 then ((hp_gR h a0 8 6).bind fun x11 => (hp_aI h .int x11 a1).bind fun x12 => (hp_vck h a0 8 (m_M_letterAll G a0 a1 (0 : Int32) x12 h)).bind fun q13 => hp_z (1 : Int32) q13.2) else (if x2 = 7 then ((hp_gR h a0 8 6).bind fun x14 => (hp_aI h .int x14 a1).bind fun x15 => (hp_vck h a0 8 (m_M_letterAll G a0 a1 (0 : Int32) x15 h)).bind fun q16 => hp_z (1 : Int32) q16.2) else (if x2 = 8 then ((hp_gR h a0 8 2).bind fun x17 => (hp_aI h .int x17 a1).bind fun x18 => if x18 = (1 : Int32) then (m_M_string_91 G (G 5) a0 h) else (m_M_string_91 G (G 6) a0 h)) else ((hp_gR h a0 8 6).bind fun x19 => (hp_aI h .int x19 a1).bind fun x20 => (hp_vck h a0 8 (m_M_letterAll G a0 a1 (0 : Int32) x20 h)).bind fun q21 => hp_z (1 : Int32) q21.2))))))))
set_option maxRecDepth 100000 in
set_option maxHeartbeats 4000000 in
theorem j_M_string_0 {Z : hp_Z} (a0 : Nat) (a1 : Int32) (h : hp_H) : hp_J Y_M_string Z hp_rI h 0 [(0, .ref a0), (1, .int a1)] [] (m_M_string (hp_G Z)  a0 a1 h) := by
  unfold m_M_string
  refine hp_aload_n (x0 := 0) d_M_string_0 rfl rfl ?_
  refine hp_getR fl_M_7 d_M_string_1 fun x1 => ?_
  refine hp_iload_n (x0 := 1) d_M_string_4 rfl rfl ?_
  refine hp_iald d_M_string_5 fun x2 => ?_
  refine hp_ite (fun c0 => ?_) (fun c0 => ?_)
  · refine hp_tabI (tgt := 52) (kv := 1) d_M_string_6 c0 (by decide) (by decide) rfl (by decide) ?_
    refine hp_iconst (v := 0) d_M_string_52 (by decide) ?_
    exact hp_zret d_M_string_53 rfl
  · skip
    refine hp_ite (fun c1 => ?_) (fun c1 => ?_)
    · refine hp_tabI (tgt := 54) (kv := 2) d_M_string_6 c1 (by decide) (by decide) rfl (by decide) ?_
      refine hp_aload_n (x0 := 0) d_M_string_54 rfl rfl ?_
      refine hp_aload_n (x0 := 0) d_M_string_55 rfl rfl ?_
      refine hp_getR fl_M_13 d_M_string_56 fun x3 => ?_
      refine hp_iload_n (x0 := 1) d_M_string_59 rfl rfl ?_
      refine hp_iald d_M_string_60 fun x4 => ?_
      refine hp_callU (hp_crV (ci := 8) (t_M_digitsOf _ _ _ _) cw_M_188 rfl ⟨w_1224, ws_81⟩ (by decide) rfl rfl (Nat.le_of_ble_eq_true rfl) d_M_string_61) fun q5 => ?_
      refine hp_iconst (v := 1) d_M_string_64 (by decide) ?_
      exact hp_zret d_M_string_65 rfl
    · skip
      refine hp_ite (fun c2 => ?_) (fun c2 => ?_)
      · refine hp_tabI (tgt := 66) (kv := 3) d_M_string_6 c2 (by decide) (by decide) rfl (by decide) ?_
        refine hp_aload_n (x0 := 0) d_M_string_66 rfl rfl ?_
        refine hp_iload_n (x0 := 1) d_M_string_67 rfl rfl ?_
        refine hp_callU (hp_crV (ci := 8) (t_M_stringOfNumber _ _ _ _) cw_M_191 rfl ⟨w_1228, ws_82⟩ (by decide) rfl rfl (Nat.le_of_ble_eq_true rfl) d_M_string_68) fun q6 => ?_
        refine hp_iconst (v := 1) d_M_string_71 (by decide) ?_
        exact hp_zret d_M_string_72 rfl
      · skip
        refine hp_ite (fun c3 => ?_) (fun c3 => ?_)
        · refine hp_tabI (tgt := 66) (kv := 4) d_M_string_6 c3 (by decide) (by decide) rfl (by decide) ?_
          refine hp_aload_n (x0 := 0) d_M_string_66 rfl rfl ?_
          refine hp_iload_n (x0 := 1) d_M_string_67 rfl rfl ?_
          refine hp_callU (hp_crV (ci := 8) (t_M_stringOfNumber _ _ _ _) cw_M_191 rfl ⟨w_1228, ws_82⟩ (by decide) rfl rfl (Nat.le_of_ble_eq_true rfl) d_M_string_68) fun q7 => ?_
          refine hp_iconst (v := 1) d_M_string_71 (by decide) ?_
          exact hp_zret d_M_string_72 rfl
        · skip
          refine hp_ite (fun c4 => ?_) (fun c4 => ?_)
          · refine hp_tabI (tgt := 96) (kv := 5) d_M_string_6 c4 (by decide) (by decide) rfl (by decide) ?_
            refine hp_aload_n (x0 := 0) d_M_string_96 rfl rfl ?_
            refine hp_iload_n (x0 := 1) d_M_string_97 rfl rfl ?_
            refine hp_iconst (v := 0) d_M_string_98 (by decide) ?_
            refine hp_aload_n (x0 := 0) d_M_string_99 rfl rfl ?_
            refine hp_getR fl_M_26 d_M_string_100 fun x8 => ?_
            refine hp_iload_n (x0 := 1) d_M_string_103 rfl rfl ?_
            refine hp_iald d_M_string_104 fun x9 => ?_
            refine hp_callU (hp_crV (ci := 8) (t_M_letterAll _ _ _ _ _ _) cw_M_202 rfl ⟨w_1139, ws_63⟩ (by decide) rfl rfl (Nat.le_of_ble_eq_true rfl) d_M_string_105) fun q10 => ?_
            refine hp_iconst (v := 1) d_M_string_108 (by decide) ?_
            exact hp_zret d_M_string_109 rfl
          · skip
            refine hp_ite (fun c5 => ?_) (fun c5 => ?_)
            · refine hp_tabI (tgt := 96) (kv := 6) d_M_string_6 c5 (by decide) (by decide) rfl (by decide) ?_
              refine hp_aload_n (x0 := 0) d_M_string_96 rfl rfl ?_
              refine hp_iload_n (x0 := 1) d_M_string_97 rfl rfl ?_
              refine hp_iconst (v := 0) d_M_string_98 (by decide) ?_
              refine hp_aload_n (x0 := 0) d_M_string_99 rfl rfl ?_
              refine hp_getR fl_M_26 d_M_string_100 fun x11 => ?_
              refine hp_iload_n (x0 := 1) d_M_string_103 rfl rfl ?_
              refine hp_iald d_M_string_104 fun x12 => ?_
              refine hp_callU (hp_crV (ci := 8) (t_M_letterAll _ _ _ _ _ _) cw_M_202 rfl ⟨w_1139, ws_63⟩ (by decide) rfl rfl (Nat.le_of_ble_eq_true rfl) d_M_string_105) fun q13 => ?_
              refine hp_iconst (v := 1) d_M_string_108 (by decide) ?_
              exact hp_zret d_M_string_109 rfl
            · skip
              refine hp_ite (fun c6 => ?_) (fun c6 => ?_)
              · refine hp_tabI (tgt := 96) (kv := 7) d_M_string_6 c6 (by decide) (by decide) rfl (by decide) ?_
                refine hp_aload_n (x0 := 0) d_M_string_96 rfl rfl ?_
                refine hp_iload_n (x0 := 1) d_M_string_97 rfl rfl ?_
                refine hp_iconst (v := 0) d_M_string_98 (by decide) ?_
                refine hp_aload_n (x0 := 0) d_M_string_99 rfl rfl ?_
                refine hp_getR fl_M_26 d_M_string_100 fun x14 => ?_
                refine hp_iload_n (x0 := 1) d_M_string_103 rfl rfl ?_
                refine hp_iald d_M_string_104 fun x15 => ?_
                refine hp_callU (hp_crV (ci := 8) (t_M_letterAll _ _ _ _ _ _) cw_M_202 rfl ⟨w_1139, ws_63⟩ (by decide) rfl rfl (Nat.le_of_ble_eq_true rfl) d_M_string_105) fun q16 => ?_
                refine hp_iconst (v := 1) d_M_string_108 (by decide) ?_
                exact hp_zret d_M_string_109 rfl
              · skip
                refine hp_ite (fun c7 => ?_) (fun c7 => ?_)
                · refine hp_tabI (tgt := 73) (kv := 8) d_M_string_6 c7 (by decide) (by decide) rfl (by decide) ?_
                  refine hp_aload_n (x0 := 0) d_M_string_73 rfl rfl ?_
                  refine hp_aload_n (x0 := 0) d_M_string_74 rfl rfl ?_
                  refine hp_getR fl_M_13 d_M_string_75 fun x17 => ?_
                  refine hp_iload_n (x0 := 1) d_M_string_78 rfl rfl ?_
                  refine hp_iald d_M_string_79 fun x18 => ?_
                  refine hp_iconst (v := 1) d_M_string_80 (by decide) ?_
                  refine hp_icmp_ne (tgt := 89) d_M_string_81 (by decide) ?_ ?_
                  · refine hp_ldcS (k := 5) (tx := "true") (by decide) d_M_string_84 ?_
                    refine hp_goto (tgt := 91) d_M_string_86 (by decide) ?_
                    refine hp_sub [] rfl ?_
                    exact j_M_string_91  _ _ _
                  · refine hp_ldcS (k := 6) (tx := "false") (by decide) d_M_string_89 ?_
                    refine hp_sub [] rfl ?_
                    exact j_M_string_91  _ _ _
                · skip
                  refine hp_tabD (tgt := 96) d_M_string_6 (by have e0 := lv_neT c0 (a := 1) (by decide); have e1 := lv_neT c1 (a := 2) (by decide); have e2 := lv_neT c2 (a := 3) (by decide); have e3 := lv_neT c3 (a := 4) (by decide); have e4 := lv_neT c4 (a := 5) (by decide); have e5 := lv_neT c5 (a := 6) (by decide); have e6 := lv_neT c6 (a := 7) (by decide); have e7 := lv_neT c7 (a := 8) (by decide); omega) (by decide) ?_
                  refine hp_aload_n (x0 := 0) d_M_string_96 rfl rfl ?_
                  refine hp_iload_n (x0 := 1) d_M_string_97 rfl rfl ?_
                  refine hp_iconst (v := 0) d_M_string_98 (by decide) ?_
                  refine hp_aload_n (x0 := 0) d_M_string_99 rfl rfl ?_
                  refine hp_getR fl_M_26 d_M_string_100 fun x19 => ?_
                  refine hp_iload_n (x0 := 1) d_M_string_103 rfl rfl ?_
                  refine hp_iald d_M_string_104 fun x20 => ?_
                  refine hp_callU (hp_crV (ci := 8) (t_M_letterAll _ _ _ _ _ _) cw_M_202 rfl ⟨w_1139, ws_63⟩ (by decide) rfl rfl (Nat.le_of_ble_eq_true rfl) d_M_string_105) fun q21 => ?_
                  refine hp_iconst (v := 1) d_M_string_108 (by decide) ?_
                  exact hp_zret d_M_string_109 rfl
theorem t_M_string (l : Launch) (E : hp_E) (a0 : Nat) (a1 : Int32) : hp_M l E y_M_string Y_M_string hp_rI [.ref a0, .int a1] (m_M_string E.2.2.1 a0 a1) := hp_M.of (plainFor_of_name (by decide)) ⟨rfl, rfl⟩ (Nat.le_of_ble_eq_true rfl) (fun Z h hE => by subst hE; exact j_M_string_0 _ _ h)
-- M_turned
theorem d_M_turned_0 : decode prog_9_method_20_code 0 = .ok (.aload_n 0, 1) := by decide +kernel
theorem d_M_turned_1 : decode prog_9_method_20_code 1 = .ok (.iload_n 1, 1) := by decide +kernel
theorem d_M_turned_2 : decode prog_9_method_20_code 2 = .ok (.aload_n 0, 1) := by decide +kernel
theorem d_M_turned_3 : decode prog_9_method_20_code 3 = .ok (.getfield 42, 3) := by decide +kernel
theorem d_M_turned_6 : decode prog_9_method_20_code 6 = .ok (.invokevirtual 115, 3) := by decide +kernel
theorem d_M_turned_9 : decode prog_9_method_20_code 9 = .ok (.aload_n 0, 1) := by decide +kernel
theorem d_M_turned_10 : decode prog_9_method_20_code 10 = .ok (.aload_n 0, 1) := by decide +kernel
theorem d_M_turned_11 : decode prog_9_method_20_code 11 = .ok (.getfield 42, 3) := by decide +kernel
theorem d_M_turned_14 : decode prog_9_method_20_code 14 = .ok (.iload_n 2, 1) := by decide +kernel
theorem d_M_turned_15 : decode prog_9_method_20_code 15 = .ok (.ifCond .eq 13, 3) := by decide +kernel
theorem d_M_turned_18 : decode prog_9_method_20_code 18 = .ok (.aload_n 0, 1) := by decide +kernel
theorem d_M_turned_19 : decode prog_9_method_20_code 19 = .ok (.getfield 16, 3) := by decide +kernel
theorem d_M_turned_22 : decode prog_9_method_20_code 22 = .ok (.iload_n 1, 1) := by decide +kernel
theorem d_M_turned_23 : decode prog_9_method_20_code 23 = .ok (.iaload, 1) := by decide +kernel
theorem d_M_turned_24 : decode prog_9_method_20_code 24 = .ok (.ineg, 1) := by decide +kernel
theorem d_M_turned_25 : decode prog_9_method_20_code 25 = .ok (.goto 9, 3) := by decide +kernel
theorem d_M_turned_28 : decode prog_9_method_20_code 28 = .ok (.aload_n 0, 1) := by decide +kernel
theorem d_M_turned_29 : decode prog_9_method_20_code 29 = .ok (.getfield 16, 3) := by decide +kernel
theorem d_M_turned_32 : decode prog_9_method_20_code 32 = .ok (.iload_n 1, 1) := by decide +kernel
theorem d_M_turned_33 : decode prog_9_method_20_code 33 = .ok (.iaload, 1) := by decide +kernel
theorem d_M_turned_34 : decode prog_9_method_20_code 34 = .ok (.aload_n 0, 1) := by decide +kernel
theorem d_M_turned_35 : decode prog_9_method_20_code 35 = .ok (.getfield 7, 3) := by decide +kernel
theorem d_M_turned_38 : decode prog_9_method_20_code 38 = .ok (.iload_n 1, 1) := by decide +kernel
theorem d_M_turned_39 : decode prog_9_method_20_code 39 = .ok (.iaload, 1) := by decide +kernel
theorem d_M_turned_40 : decode prog_9_method_20_code 40 = .ok (.iconst 3, 1) := by decide +kernel
theorem d_M_turned_41 : decode prog_9_method_20_code 41 = .ok (.if_icmp .ne 7, 3) := by decide +kernel
theorem d_M_turned_44 : decode prog_9_method_20_code 44 = .ok (.iconst 1, 1) := by decide +kernel
theorem d_M_turned_45 : decode prog_9_method_20_code 45 = .ok (.goto 4, 3) := by decide +kernel
theorem d_M_turned_48 : decode prog_9_method_20_code 48 = .ok (.iconst 0, 1) := by decide +kernel
theorem d_M_turned_49 : decode prog_9_method_20_code 49 = .ok (.invokevirtual 127, 3) := by decide +kernel
theorem d_M_turned_52 : decode prog_9_method_20_code 52 = .ok (.ireturn, 1) := by decide +kernel
def m_M_turned_49 (G : Nat → Nat) (s0 : Int32) (s1 : Int32) (s2 : Nat) (s3 : Nat) (h : hp_H) : Option (Int32 × hp_H) := (hp_vck h s3 8 (m_M_number G s3 s2 s1 s0 h)).bind fun q1 => some (q1.1, q1.2)
set_option maxRecDepth 100000 in
set_option maxHeartbeats 4000000 in
theorem j_M_turned_49 {Z : hp_Z} (s0 : Int32) (s1 : Int32) (s2 : Nat) (s3 : Nat) (h : hp_H) : hp_J Y_M_turned Z hp_rI h 49 [] [.int s0, .int s1, .ref s2, .ref s3] (m_M_turned_49 (hp_G Z)  s0 s1 s2 s3 h) := by
  unfold m_M_turned_49
  refine hp_callI (hp_crV (ci := 8) (t_M_number _ _ _ _ _ _) cw_M_127 rfl ⟨w_981, ws_39⟩ (by decide) rfl rfl (Nat.le_of_ble_eq_true rfl) d_M_turned_49) fun q1 => ?_
  exact hp_iret d_M_turned_52 rfl
def m_M_turned_34 (G : Nat → Nat) (a0 : Nat) (a1 : Int32) (s0 : Int32) (s1 : Nat) (s2 : Nat) (h : hp_H) : Option (Int32 × hp_H) := (hp_gR h a0 8 1).bind fun x1 => (hp_aI h .int x1 a1).bind fun x2 => if x2 = (3 : Int32) then (m_M_turned_49 G (1 : Int32) s0 s1 s2 h) else (m_M_turned_49 G (0 : Int32) s0 s1 s2 h)
set_option maxRecDepth 100000 in
set_option maxHeartbeats 4000000 in
theorem j_M_turned_34 {Z : hp_Z} (a0 : Nat) (a1 : Int32) (s0 : Int32) (s1 : Nat) (s2 : Nat) (h : hp_H) : hp_J Y_M_turned Z hp_rI h 34 [(0, .ref a0), (1, .int a1)] [.int s0, .ref s1, .ref s2] (m_M_turned_34 (hp_G Z)  a0 a1 s0 s1 s2 h) := by
  unfold m_M_turned_34
  refine hp_aload_n (x0 := 0) d_M_turned_34 rfl rfl ?_
  refine hp_getR fl_M_7 d_M_turned_35 fun x1 => ?_
  refine hp_iload_n (x0 := 1) d_M_turned_38 rfl rfl ?_
  refine hp_iald d_M_turned_39 fun x2 => ?_
  refine hp_iconst (v := 3) d_M_turned_40 (by decide) ?_
  refine hp_icmp_ne (tgt := 48) d_M_turned_41 (by decide) ?_ ?_
  · refine hp_iconst (v := 1) d_M_turned_44 (by decide) ?_
    refine hp_goto (tgt := 49) d_M_turned_45 (by decide) ?_
    refine hp_sub [] rfl ?_
    exact j_M_turned_49  _ _ _ _ _
  · refine hp_iconst (v := 0) d_M_turned_48 (by decide) ?_
    refine hp_sub [] rfl ?_
    exact j_M_turned_49  _ _ _ _ _
def m_M_turned (G : Nat → Nat) (a0 : Nat) (a1 : Int32) (a2 : Int32) (h : hp_H) : Option (Int32 × hp_H) := (hp_gR h a0 8 17).bind fun x1 => (hp_vck h a0 8 (m_M_lay G a0 a1 x1 h)).bind fun q2 => (hp_gR q2.2 a0 8 17).bind fun x3 => if a2 = 0 then ((hp_gR q2.2 a0 8 3).bind fun x4 => (hp_aI q2.2 .int x4 a1).bind fun x5 => m_M_turned_34 G a0 a1 x5 x3 a0 q2.2) else ((hp_gR q2.2 a0 8 3).bind fun x6 => (hp_aI q2.2 .int x6 a1).bind fun x7 => m_M_turned_34 G a0 a1 (-x7) x3 a0 q2.2)
set_option maxRecDepth 100000 in
set_option maxHeartbeats 4000000 in
theorem j_M_turned_0 {Z : hp_Z} (a0 : Nat) (a1 : Int32) (a2 : Int32) (h : hp_H) : hp_J Y_M_turned Z hp_rI h 0 [(0, .ref a0), (1, .int a1), (2, .int a2)] [] (m_M_turned (hp_G Z)  a0 a1 a2 h) := by
  unfold m_M_turned
  refine hp_aload_n (x0 := 0) d_M_turned_0 rfl rfl ?_
  refine hp_iload_n (x0 := 1) d_M_turned_1 rfl rfl ?_
  refine hp_aload_n (x0 := 0) d_M_turned_2 rfl rfl ?_
  refine hp_getR fl_M_42 d_M_turned_3 fun x1 => ?_
  refine hp_callU (hp_crV (ci := 8) (t_M_lay _ _ _ _ _) cw_M_115 rfl ⟨w_1060, ws_49⟩ (by decide) rfl rfl (Nat.le_of_ble_eq_true rfl) d_M_turned_6) fun q2 => ?_
  refine hp_aload_n (x0 := 0) d_M_turned_9 rfl rfl ?_
  refine hp_aload_n (x0 := 0) d_M_turned_10 rfl rfl ?_
  refine hp_getR fl_M_42 d_M_turned_11 fun x3 => ?_
  refine hp_iload_n (x0 := 2) d_M_turned_14 rfl rfl ?_
  refine hp_if_eq (tgt := 28) d_M_turned_15 (by decide) ?_ ?_
  · refine hp_aload_n (x0 := 0) d_M_turned_28 rfl rfl ?_
    refine hp_getR fl_M_16 d_M_turned_29 fun x4 => ?_
    refine hp_iload_n (x0 := 1) d_M_turned_32 rfl rfl ?_
    refine hp_iald d_M_turned_33 fun x5 => ?_
    refine hp_sub [0, 1] rfl ?_
    exact j_M_turned_34  _ _ _ _ _ _
  · refine hp_aload_n (x0 := 0) d_M_turned_18 rfl rfl ?_
    refine hp_getR fl_M_16 d_M_turned_19 fun x6 => ?_
    refine hp_iload_n (x0 := 1) d_M_turned_22 rfl rfl ?_
    refine hp_iald d_M_turned_23 fun x7 => ?_
    refine hp_ineg d_M_turned_24 ?_
    refine hp_goto (tgt := 34) d_M_turned_25 (by decide) ?_
    refine hp_sub [0, 1] rfl ?_
    exact j_M_turned_34  _ _ _ _ _ _
theorem t_M_turned (l : Launch) (E : hp_E) (a0 : Nat) (a1 : Int32) (a2 : Int32) : hp_M l E y_M_turned Y_M_turned hp_rI [.ref a0, .int a1, .int a2] (m_M_turned E.2.2.1 a0 a1 a2) := hp_M.of (plainFor_of_name (by decide)) ⟨rfl, rfl⟩ (Nat.le_of_ble_eq_true rfl) (fun Z h hE => by subst hE; exact j_M_turned_0 _ _ _ h)
-- M_raise
theorem d_M_raise_0 : decode prog_9_method_11_code 0 = .ok (.iload_n 1, 1) := by decide +kernel
theorem d_M_raise_1 : decode prog_9_method_11_code 1 = .ok (.istore_n 2, 1) := by decide +kernel
theorem d_M_raise_2 : decode prog_9_method_11_code 2 = .ok (.aload_n 0, 1) := by decide +kernel
theorem d_M_raise_3 : decode prog_9_method_11_code 3 = .ok (.iload_n 2, 1) := by decide +kernel
theorem d_M_raise_4 : decode prog_9_method_11_code 4 = .ok (.iaload, 1) := by decide +kernel
theorem d_M_raise_5 : decode prog_9_method_11_code 5 = .ok (.bipush 9, 2) := by decide +kernel
theorem d_M_raise_7 : decode prog_9_method_11_code 7 = .ok (.if_icmp .ne 13, 3) := by decide +kernel
theorem d_M_raise_10 : decode prog_9_method_11_code 10 = .ok (.aload_n 0, 1) := by decide +kernel
theorem d_M_raise_11 : decode prog_9_method_11_code 11 = .ok (.iload_n 2, 1) := by decide +kernel
theorem d_M_raise_12 : decode prog_9_method_11_code 12 = .ok (.iconst 0, 1) := by decide +kernel
theorem d_M_raise_13 : decode prog_9_method_11_code 13 = .ok (.iastore, 1) := by decide +kernel
theorem d_M_raise_14 : decode prog_9_method_11_code 14 = .ok (.iinc 2 1, 3) := by decide +kernel
theorem d_M_raise_17 : decode prog_9_method_11_code 17 = .ok (.goto (-15), 3) := by decide +kernel
theorem d_M_raise_20 : decode prog_9_method_11_code 20 = .ok (.aload_n 0, 1) := by decide +kernel
theorem d_M_raise_21 : decode prog_9_method_11_code 21 = .ok (.iload_n 2, 1) := by decide +kernel
theorem d_M_raise_22 : decode prog_9_method_11_code 22 = .ok (.dup2, 1) := by decide +kernel
theorem d_M_raise_23 : decode prog_9_method_11_code 23 = .ok (.iaload, 1) := by decide +kernel
theorem d_M_raise_24 : decode prog_9_method_11_code 24 = .ok (.iconst 1, 1) := by decide +kernel
theorem d_M_raise_25 : decode prog_9_method_11_code 25 = .ok (.iadd, 1) := by decide +kernel
theorem d_M_raise_26 : decode prog_9_method_11_code 26 = .ok (.iastore, 1) := by decide +kernel
theorem d_M_raise_27 : decode prog_9_method_11_code 27 = .ok (.return_, 1) := by decide +kernel
def m_M_raise_2 (G : Nat → Nat) : Nat → Nat → Int32 → hp_H → Option (Unit × hp_H)
  | 0, _, _, _ => none
  | n + 1, a0, a2, h => (hp_aI h .int a0 a2).bind fun x1 => if x1 = (9 : Int32) then ((hp_sI h .int a0 a2 (0 : Int32)).bind fun h4 => hp_nm (a2 + 1) fun x5 => (m_M_raise_2 G  n) a0 x5 h4) else ((hp_aI h .int a0 a2).bind fun x2 => (hp_sI h .int a0 a2 (x2 + (1 : Int32))).bind fun h3 => some ((), h3))
set_option maxRecDepth 100000 in
set_option maxHeartbeats 4000000 in
theorem j_M_raise_2 {Z : hp_Z} : ∀ (n : Nat) (a0 : Nat) (a2 : Int32) (h : hp_H), hp_J Y_M_raise Z hp_rV h 2 [(0, .ref a0), (2, .int a2)] [] (m_M_raise_2 (hp_G Z)  n a0 a2 h) := by
  intro n
  induction n with
  | zero => intro a0 a2 h; exact hp_fail
  | succ n ih =>
    intro a0 a2 h
    rw [m_M_raise_2]
    refine hp_aload_n (x0 := 0) d_M_raise_2 rfl rfl ?_
    refine hp_iload_n (x0 := 1) d_M_raise_3 rfl rfl ?_
    refine hp_iald d_M_raise_4 fun x1 => ?_
    refine hp_bipush (v := 9) d_M_raise_5 (by decide) ?_
    refine hp_icmp_ne (tgt := 20) d_M_raise_7 (by decide) ?_ ?_
    · refine hp_aload_n (x0 := 0) d_M_raise_10 rfl rfl ?_
      refine hp_iload_n (x0 := 1) d_M_raise_11 rfl rfl ?_
      refine hp_iconst (v := 0) d_M_raise_12 (by decide) ?_
      refine hp_iast d_M_raise_13 fun h4 => ?_
      refine hp_iinc (x0 := 1) (d := 1) (fun x5 => [(2, .int x5), (0, .ref a0)]) d_M_raise_14 rfl (by decide) (by decide) (fun _ => rfl) fun x5 => ?_
      refine hp_goto (tgt := 2) d_M_raise_17 (by decide) ?_
      refine hp_sub [1, 0] rfl ?_
      exact ih _ _ _
    · refine hp_aload_n (x0 := 0) d_M_raise_20 rfl rfl ?_
      refine hp_iload_n (x0 := 1) d_M_raise_21 rfl rfl ?_
      refine hp_dup2_11 d_M_raise_22 rfl rfl ?_
      refine hp_iald d_M_raise_23 fun x2 => ?_
      refine hp_iconst (v := 1) d_M_raise_24 (by decide) ?_
      refine hp_iadd d_M_raise_25 ?_
      refine hp_iast d_M_raise_26 fun h3 => ?_
      exact hp_vret d_M_raise_27 rfl
def m_M_raise (G : Nat → Nat) (a0 : Nat) (a1 : Int32) (h : hp_H) : Option (Unit × hp_H) := hp_nm a1 fun x1 => m_M_raise_2 G hp_fu a0 x1 h
set_option maxRecDepth 100000 in
set_option maxHeartbeats 4000000 in
theorem j_M_raise_0 {Z : hp_Z} (a0 : Nat) (a1 : Int32) (h : hp_H) : hp_J Y_M_raise Z hp_rV h 0 [(0, .ref a0), (1, .int a1)] [] (m_M_raise (hp_G Z)  a0 a1 h) := by
  unfold m_M_raise
  refine hp_iload_n (x0 := 1) d_M_raise_0 rfl rfl ?_
  refine hp_istore_n (fun x1 => [(2, .int x1), (0, .ref a0), (1, .int a1)]) d_M_raise_1 rfl (by decide) (fun _ => rfl) fun x1 => ?_
  refine hp_sub [1, 0] rfl ?_
  exact j_M_raise_2  hp_fu _ _ _
theorem t_M_raise (l : Launch) (E : hp_E) (a0 : Nat) (a1 : Int32) : hp_M l E y_M_raise Y_M_raise hp_rV [.ref a0, .int a1] (m_M_raise E.2.2.1 a0 a1) := hp_M.of (plainFor_of_name (by decide)) ⟨rfl, rfl⟩ (Nat.le_of_ble_eq_true rfl) (fun Z h hE => by subst hE; exact j_M_raise_0 _ _ h)
-- M_wholeOf
theorem d_M_wholeOf_0 : decode prog_9_method_19_code 0 = .ok (.aload_n 0, 1) := by decide +kernel
theorem d_M_wholeOf_1 : decode prog_9_method_19_code 1 = .ok (.iload_n 1, 1) := by decide +kernel
theorem d_M_wholeOf_2 : decode prog_9_method_19_code 2 = .ok (.aload_n 0, 1) := by decide +kernel
theorem d_M_wholeOf_3 : decode prog_9_method_19_code 3 = .ok (.getfield 42, 3) := by decide +kernel
theorem d_M_wholeOf_6 : decode prog_9_method_19_code 6 = .ok (.invokevirtual 115, 3) := by decide +kernel
theorem d_M_wholeOf_9 : decode prog_9_method_19_code 9 = .ok (.iconst 0, 1) := by decide +kernel
theorem d_M_wholeOf_10 : decode prog_9_method_19_code 10 = .ok (.istore_n 3, 1) := by decide +kernel
theorem d_M_wholeOf_11 : decode prog_9_method_19_code 11 = .ok (.iconst 0, 1) := by decide +kernel
theorem d_M_wholeOf_12 : decode prog_9_method_19_code 12 = .ok (.istore 4, 2) := by decide +kernel
theorem d_M_wholeOf_14 : decode prog_9_method_19_code 14 = .ok (.iload 4, 2) := by decide +kernel
theorem d_M_wholeOf_16 : decode prog_9_method_19_code 16 = .ok (.bipush 18, 2) := by decide +kernel
theorem d_M_wholeOf_18 : decode prog_9_method_19_code 18 = .ok (.if_icmp .ge 29, 3) := by decide +kernel
theorem d_M_wholeOf_21 : decode prog_9_method_19_code 21 = .ok (.iload_n 3, 1) := by decide +kernel
theorem d_M_wholeOf_22 : decode prog_9_method_19_code 22 = .ok (.ifCond .ne 13, 3) := by decide +kernel
theorem d_M_wholeOf_25 : decode prog_9_method_19_code 25 = .ok (.aload_n 0, 1) := by decide +kernel
theorem d_M_wholeOf_26 : decode prog_9_method_19_code 26 = .ok (.getfield 42, 3) := by decide +kernel
theorem d_M_wholeOf_29 : decode prog_9_method_19_code 29 = .ok (.iload 4, 2) := by decide +kernel
theorem d_M_wholeOf_31 : decode prog_9_method_19_code 31 = .ok (.iaload, 1) := by decide +kernel
theorem d_M_wholeOf_32 : decode prog_9_method_19_code 32 = .ok (.ifCond .eq 7, 3) := by decide +kernel
theorem d_M_wholeOf_35 : decode prog_9_method_19_code 35 = .ok (.iconst 1, 1) := by decide +kernel
theorem d_M_wholeOf_36 : decode prog_9_method_19_code 36 = .ok (.goto 4, 3) := by decide +kernel
theorem d_M_wholeOf_39 : decode prog_9_method_19_code 39 = .ok (.iconst 0, 1) := by decide +kernel
theorem d_M_wholeOf_40 : decode prog_9_method_19_code 40 = .ok (.istore_n 3, 1) := by decide +kernel
theorem d_M_wholeOf_41 : decode prog_9_method_19_code 41 = .ok (.iinc 4 1, 3) := by decide +kernel
theorem d_M_wholeOf_44 : decode prog_9_method_19_code 44 = .ok (.goto (-30), 3) := by decide +kernel
theorem d_M_wholeOf_47 : decode prog_9_method_19_code 47 = .ok (.aload_n 0, 1) := by decide +kernel
theorem d_M_wholeOf_48 : decode prog_9_method_19_code 48 = .ok (.getfield 42, 3) := by decide +kernel
theorem d_M_wholeOf_51 : decode prog_9_method_19_code 51 = .ok (.bipush 17, 2) := by decide +kernel
theorem d_M_wholeOf_53 : decode prog_9_method_19_code 53 = .ok (.iaload, 1) := by decide +kernel
theorem d_M_wholeOf_54 : decode prog_9_method_19_code 54 = .ok (.iconst 5, 1) := by decide +kernel
theorem d_M_wholeOf_55 : decode prog_9_method_19_code 55 = .ok (.isub, 1) := by decide +kernel
theorem d_M_wholeOf_56 : decode prog_9_method_19_code 56 = .ok (.istore 4, 2) := by decide +kernel
theorem d_M_wholeOf_58 : decode prog_9_method_19_code 58 = .ok (.iload 4, 2) := by decide +kernel
theorem d_M_wholeOf_60 : decode prog_9_method_19_code 60 = .ok (.ifCond .ne 7, 3) := by decide +kernel
theorem d_M_wholeOf_63 : decode prog_9_method_19_code 63 = .ok (.iconst 1, 1) := by decide +kernel
theorem d_M_wholeOf_64 : decode prog_9_method_19_code 64 = .ok (.goto 4, 3) := by decide +kernel
theorem d_M_wholeOf_67 : decode prog_9_method_19_code 67 = .ok (.iconst 0, 1) := by decide +kernel
theorem d_M_wholeOf_68 : decode prog_9_method_19_code 68 = .ok (.istore 5, 2) := by decide +kernel
theorem d_M_wholeOf_70 : decode prog_9_method_19_code 70 = .ok (.iconst 0, 1) := by decide +kernel
theorem d_M_wholeOf_71 : decode prog_9_method_19_code 71 = .ok (.istore 6, 2) := by decide +kernel
theorem d_M_wholeOf_73 : decode prog_9_method_19_code 73 = .ok (.iload 6, 2) := by decide +kernel
theorem d_M_wholeOf_75 : decode prog_9_method_19_code 75 = .ok (.bipush 18, 2) := by decide +kernel
theorem d_M_wholeOf_77 : decode prog_9_method_19_code 77 = .ok (.if_icmp .ge 46, 3) := by decide +kernel
theorem d_M_wholeOf_80 : decode prog_9_method_19_code 80 = .ok (.iload 6, 2) := by decide +kernel
theorem d_M_wholeOf_82 : decode prog_9_method_19_code 82 = .ok (.bipush 17, 2) := by decide +kernel
theorem d_M_wholeOf_84 : decode prog_9_method_19_code 84 = .ok (.if_icmp .ge 25, 3) := by decide +kernel
theorem d_M_wholeOf_87 : decode prog_9_method_19_code 87 = .ok (.iload 5, 2) := by decide +kernel
theorem d_M_wholeOf_89 : decode prog_9_method_19_code 89 = .ok (.ifCond .eq 17, 3) := by decide +kernel
theorem d_M_wholeOf_92 : decode prog_9_method_19_code 92 = .ok (.aload_n 0, 1) := by decide +kernel
theorem d_M_wholeOf_93 : decode prog_9_method_19_code 93 = .ok (.getfield 42, 3) := by decide +kernel
theorem d_M_wholeOf_96 : decode prog_9_method_19_code 96 = .ok (.iload 6, 2) := by decide +kernel
theorem d_M_wholeOf_98 : decode prog_9_method_19_code 98 = .ok (.iaload, 1) := by decide +kernel
theorem d_M_wholeOf_99 : decode prog_9_method_19_code 99 = .ok (.ifCond .ne 7, 3) := by decide +kernel
theorem d_M_wholeOf_102 : decode prog_9_method_19_code 102 = .ok (.iconst 1, 1) := by decide +kernel
theorem d_M_wholeOf_103 : decode prog_9_method_19_code 103 = .ok (.goto 4, 3) := by decide +kernel
theorem d_M_wholeOf_106 : decode prog_9_method_19_code 106 = .ok (.iconst 0, 1) := by decide +kernel
theorem d_M_wholeOf_107 : decode prog_9_method_19_code 107 = .ok (.istore 5, 2) := by decide +kernel
theorem d_M_wholeOf_109 : decode prog_9_method_19_code 109 = .ok (.aload_n 0, 1) := by decide +kernel
theorem d_M_wholeOf_110 : decode prog_9_method_19_code 110 = .ok (.getfield 42, 3) := by decide +kernel
theorem d_M_wholeOf_113 : decode prog_9_method_19_code 113 = .ok (.iload 6, 2) := by decide +kernel
theorem d_M_wholeOf_115 : decode prog_9_method_19_code 115 = .ok (.iconst 0, 1) := by decide +kernel
theorem d_M_wholeOf_116 : decode prog_9_method_19_code 116 = .ok (.iastore, 1) := by decide +kernel
theorem d_M_wholeOf_117 : decode prog_9_method_19_code 117 = .ok (.iinc 6 1, 3) := by decide +kernel
theorem d_M_wholeOf_120 : decode prog_9_method_19_code 120 = .ok (.goto (-47), 3) := by decide +kernel
theorem d_M_wholeOf_123 : decode prog_9_method_19_code 123 = .ok (.iload_n 2, 1) := by decide +kernel
theorem d_M_wholeOf_124 : decode prog_9_method_19_code 124 = .ok (.bipush 21, 2) := by decide +kernel
theorem d_M_wholeOf_126 : decode prog_9_method_19_code 126 = .ok (.if_icmp .ne 35, 3) := by decide +kernel
theorem d_M_wholeOf_129 : decode prog_9_method_19_code 129 = .ok (.iload 4, 2) := by decide +kernel
theorem d_M_wholeOf_131 : decode prog_9_method_19_code 131 = .ok (.ifCond .gt 22, 3) := by decide +kernel
theorem d_M_wholeOf_134 : decode prog_9_method_19_code 134 = .ok (.iload 4, 2) := by decide +kernel
theorem d_M_wholeOf_136 : decode prog_9_method_19_code 136 = .ok (.ifCond .ne 21, 3) := by decide +kernel
theorem d_M_wholeOf_139 : decode prog_9_method_19_code 139 = .ok (.aload_n 0, 1) := by decide +kernel
theorem d_M_wholeOf_140 : decode prog_9_method_19_code 140 = .ok (.getfield 16, 3) := by decide +kernel
theorem d_M_wholeOf_143 : decode prog_9_method_19_code 143 = .ok (.iload_n 1, 1) := by decide +kernel
theorem d_M_wholeOf_144 : decode prog_9_method_19_code 144 = .ok (.iaload, 1) := by decide +kernel
theorem d_M_wholeOf_145 : decode prog_9_method_19_code 145 = .ok (.ifCond .gt 8, 3) := by decide +kernel
theorem d_M_wholeOf_148 : decode prog_9_method_19_code 148 = .ok (.iload 5, 2) := by decide +kernel
theorem d_M_wholeOf_150 : decode prog_9_method_19_code 150 = .ok (.ifCond .ne 7, 3) := by decide +kernel
theorem d_M_wholeOf_153 : decode prog_9_method_19_code 153 = .ok (.iconst 1, 1) := by decide +kernel
theorem d_M_wholeOf_154 : decode prog_9_method_19_code 154 = .ok (.goto 44, 3) := by decide +kernel
theorem d_M_wholeOf_157 : decode prog_9_method_19_code 157 = .ok (.iconst 0, 1) := by decide +kernel
theorem d_M_wholeOf_158 : decode prog_9_method_19_code 158 = .ok (.goto 40, 3) := by decide +kernel
theorem d_M_wholeOf_161 : decode prog_9_method_19_code 161 = .ok (.iload_n 3, 1) := by decide +kernel
theorem d_M_wholeOf_162 : decode prog_9_method_19_code 162 = .ok (.ifCond .eq 35, 3) := by decide +kernel
theorem d_M_wholeOf_165 : decode prog_9_method_19_code 165 = .ok (.iload_n 2, 1) := by decide +kernel
theorem d_M_wholeOf_166 : decode prog_9_method_19_code 166 = .ok (.bipush 19, 2) := by decide +kernel
theorem d_M_wholeOf_168 : decode prog_9_method_19_code 168 = .ok (.if_icmp .ne 7, 3) := by decide +kernel
theorem d_M_wholeOf_171 : decode prog_9_method_19_code 171 = .ok (.iconst 1, 1) := by decide +kernel
theorem d_M_wholeOf_172 : decode prog_9_method_19_code 172 = .ok (.goto 4, 3) := by decide +kernel
theorem d_M_wholeOf_175 : decode prog_9_method_19_code 175 = .ok (.iconst 0, 1) := by decide +kernel
theorem d_M_wholeOf_176 : decode prog_9_method_19_code 176 = .ok (.aload_n 0, 1) := by decide +kernel
theorem d_M_wholeOf_177 : decode prog_9_method_19_code 177 = .ok (.getfield 16, 3) := by decide +kernel
theorem d_M_wholeOf_180 : decode prog_9_method_19_code 180 = .ok (.iload_n 1, 1) := by decide +kernel
theorem d_M_wholeOf_181 : decode prog_9_method_19_code 181 = .ok (.iaload, 1) := by decide +kernel
theorem d_M_wholeOf_182 : decode prog_9_method_19_code 182 = .ok (.ifCond .le 7, 3) := by decide +kernel
theorem d_M_wholeOf_185 : decode prog_9_method_19_code 185 = .ok (.iconst 1, 1) := by decide +kernel
theorem d_M_wholeOf_186 : decode prog_9_method_19_code 186 = .ok (.goto 4, 3) := by decide +kernel
theorem d_M_wholeOf_189 : decode prog_9_method_19_code 189 = .ok (.iconst 0, 1) := by decide +kernel
theorem d_M_wholeOf_190 : decode prog_9_method_19_code 190 = .ok (.if_icmp .ne 7, 3) := by decide +kernel
theorem d_M_wholeOf_193 : decode prog_9_method_19_code 193 = .ok (.iconst 1, 1) := by decide +kernel
theorem d_M_wholeOf_194 : decode prog_9_method_19_code 194 = .ok (.goto 4, 3) := by decide +kernel
theorem d_M_wholeOf_197 : decode prog_9_method_19_code 197 = .ok (.iconst 0, 1) := by decide +kernel
theorem d_M_wholeOf_198 : decode prog_9_method_19_code 198 = .ok (.istore 6, 2) := by decide +kernel
theorem d_M_wholeOf_200 : decode prog_9_method_19_code 200 = .ok (.iload 6, 2) := by decide +kernel
theorem d_M_wholeOf_202 : decode prog_9_method_19_code 202 = .ok (.ifCond .eq 12, 3) := by decide +kernel
theorem d_M_wholeOf_205 : decode prog_9_method_19_code 205 = .ok (.aload_n 0, 1) := by decide +kernel
theorem d_M_wholeOf_206 : decode prog_9_method_19_code 206 = .ok (.getfield 42, 3) := by decide +kernel
theorem d_M_wholeOf_209 : decode prog_9_method_19_code 209 = .ok (.bipush 18, 2) := by decide +kernel
theorem d_M_wholeOf_211 : decode prog_9_method_19_code 211 = .ok (.invokestatic 99, 3) := by decide +kernel
theorem d_M_wholeOf_214 : decode prog_9_method_19_code 214 = .ok (.aload_n 0, 1) := by decide +kernel
theorem d_M_wholeOf_215 : decode prog_9_method_19_code 215 = .ok (.aload_n 0, 1) := by decide +kernel
theorem d_M_wholeOf_216 : decode prog_9_method_19_code 216 = .ok (.getfield 42, 3) := by decide +kernel
theorem d_M_wholeOf_219 : decode prog_9_method_19_code 219 = .ok (.aload_n 0, 1) := by decide +kernel
theorem d_M_wholeOf_220 : decode prog_9_method_19_code 220 = .ok (.getfield 16, 3) := by decide +kernel
theorem d_M_wholeOf_223 : decode prog_9_method_19_code 223 = .ok (.iload_n 1, 1) := by decide +kernel
theorem d_M_wholeOf_224 : decode prog_9_method_19_code 224 = .ok (.iaload, 1) := by decide +kernel
theorem d_M_wholeOf_225 : decode prog_9_method_19_code 225 = .ok (.aload_n 0, 1) := by decide +kernel
theorem d_M_wholeOf_226 : decode prog_9_method_19_code 226 = .ok (.getfield 7, 3) := by decide +kernel
theorem d_M_wholeOf_229 : decode prog_9_method_19_code 229 = .ok (.iload_n 1, 1) := by decide +kernel
theorem d_M_wholeOf_230 : decode prog_9_method_19_code 230 = .ok (.iaload, 1) := by decide +kernel
theorem d_M_wholeOf_231 : decode prog_9_method_19_code 231 = .ok (.iconst 3, 1) := by decide +kernel
theorem d_M_wholeOf_232 : decode prog_9_method_19_code 232 = .ok (.if_icmp .ne 7, 3) := by decide +kernel
theorem d_M_wholeOf_235 : decode prog_9_method_19_code 235 = .ok (.iconst 1, 1) := by decide +kernel
theorem d_M_wholeOf_236 : decode prog_9_method_19_code 236 = .ok (.goto 4, 3) := by decide +kernel
theorem d_M_wholeOf_239 : decode prog_9_method_19_code 239 = .ok (.iconst 0, 1) := by decide +kernel
theorem d_M_wholeOf_240 : decode prog_9_method_19_code 240 = .ok (.invokevirtual 127, 3) := by decide +kernel
theorem d_M_wholeOf_243 : decode prog_9_method_19_code 243 = .ok (.ireturn, 1) := by decide +kernel
def m_M_wholeOf_40 (G : Nat → Nat) (r14 : Nat → Int32 → Int32 → Int32 → Int32 → hp_H → Option (Int32 × hp_H)) (a0 : Nat) (a1 : Int32) (a2 : Int32) (a4 : Int32) (s0 : Int32) (h : hp_H) : Option (Int32 × hp_H) := hp_nm s0 fun x1 => hp_nm (a4 + 1) fun x2 => r14 a0 a1 a2 x1 x2 h
set_option maxRecDepth 100000 in
set_option maxHeartbeats 4000000 in
theorem j_M_wholeOf_40 {Z : hp_Z} (r14 : Nat → Int32 → Int32 → Int32 → Int32 → hp_H → Option (Int32 × hp_H)) (hr14 : ∀ (a0 : Nat) (a1 : Int32) (a2 : Int32) (a3 : Int32) (a4 : Int32) (h : hp_H), hp_J Y_M_wholeOf Z hp_rI h 14 [(0, .ref a0), (1, .int a1), (2, .int a2), (3, .int a3), (4, .int a4)] [] (r14 a0 a1 a2 a3 a4  h)) (a0 : Nat) (a1 : Int32) (a2 : Int32) (a4 : Int32) (s0 : Int32) (h : hp_H) : hp_J Y_M_wholeOf Z hp_rI h 40 [(0, .ref a0), (1, .int a1), (2, .int a2), (4, .int a4)] [.int s0] (m_M_wholeOf_40 (hp_G Z) r14 a0 a1 a2 a4 s0 h) := by
  unfold m_M_wholeOf_40
  refine hp_istore_n (fun x1 => [(3, .int x1), (0, .ref a0), (1, .int a1), (2, .int a2), (4, .int a4)]) d_M_wholeOf_40 rfl (by decide) (fun _ => rfl) fun x1 => ?_
  refine hp_iinc (x0 := 4) (d := 1) (fun x2 => [(4, .int x2), (3, .int x1), (0, .ref a0), (1, .int a1), (2, .int a2)]) d_M_wholeOf_41 rfl (by decide) (by decide) (fun _ => rfl) fun x2 => ?_
  refine hp_goto (tgt := 14) d_M_wholeOf_44 (by decide) ?_
  refine hp_sub [2, 3, 4, 1, 0] rfl ?_
  exact hr14 _ _ _ _ _ _
def m_M_wholeOf_35 (G : Nat → Nat) (r14 : Nat → Int32 → Int32 → Int32 → Int32 → hp_H → Option (Int32 × hp_H)) (a0 : Nat) (a1 : Int32) (a2 : Int32) (a4 : Int32) (h : hp_H) : Option (Int32 × hp_H) := m_M_wholeOf_40 G r14 a0 a1 a2 a4 (1 : Int32) h
set_option maxRecDepth 100000 in
set_option maxHeartbeats 4000000 in
theorem j_M_wholeOf_35 {Z : hp_Z} (r14 : Nat → Int32 → Int32 → Int32 → Int32 → hp_H → Option (Int32 × hp_H)) (hr14 : ∀ (a0 : Nat) (a1 : Int32) (a2 : Int32) (a3 : Int32) (a4 : Int32) (h : hp_H), hp_J Y_M_wholeOf Z hp_rI h 14 [(0, .ref a0), (1, .int a1), (2, .int a2), (3, .int a3), (4, .int a4)] [] (r14 a0 a1 a2 a3 a4  h)) (a0 : Nat) (a1 : Int32) (a2 : Int32) (a4 : Int32) (h : hp_H) : hp_J Y_M_wholeOf Z hp_rI h 35 [(0, .ref a0), (1, .int a1), (2, .int a2), (4, .int a4)] [] (m_M_wholeOf_35 (hp_G Z) r14 a0 a1 a2 a4 h) := by
  unfold m_M_wholeOf_35
  refine hp_iconst (v := 1) d_M_wholeOf_35 (by decide) ?_
  refine hp_goto (tgt := 40) d_M_wholeOf_36 (by decide) ?_
  exact j_M_wholeOf_40 _ hr14 _ _ _ _ _ _
def m_M_wholeOf_109 (G : Nat → Nat) (r73 : Nat → Int32 → Int32 → Int32 → Int32 → Int32 → Int32 → hp_H → Option (Int32 × hp_H)) (a0 : Nat) (a1 : Int32) (a2 : Int32) (a3 : Int32) (a4 : Int32) (a5 : Int32) (a6 : Int32) (h : hp_H) : Option (Int32 × hp_H) := (hp_gR h a0 8 17).bind fun x1 => (hp_sI h .int x1 a6 (0 : Int32)).bind fun h2 => hp_nm (a6 + 1) fun x3 => r73 a0 a1 a2 a3 a4 a5 x3 h2
set_option maxRecDepth 100000 in
set_option maxHeartbeats 4000000 in
theorem j_M_wholeOf_109 {Z : hp_Z} (r73 : Nat → Int32 → Int32 → Int32 → Int32 → Int32 → Int32 → hp_H → Option (Int32 × hp_H)) (hr73 : ∀ (a0 : Nat) (a1 : Int32) (a2 : Int32) (a3 : Int32) (a4 : Int32) (a5 : Int32) (a6 : Int32) (h : hp_H), hp_J Y_M_wholeOf Z hp_rI h 73 [(0, .ref a0), (1, .int a1), (2, .int a2), (3, .int a3), (4, .int a4), (5, .int a5), (6, .int a6)] [] (r73 a0 a1 a2 a3 a4 a5 a6  h)) (a0 : Nat) (a1 : Int32) (a2 : Int32) (a3 : Int32) (a4 : Int32) (a5 : Int32) (a6 : Int32) (h : hp_H) : hp_J Y_M_wholeOf Z hp_rI h 109 [(0, .ref a0), (1, .int a1), (2, .int a2), (3, .int a3), (4, .int a4), (5, .int a5), (6, .int a6)] [] (m_M_wholeOf_109 (hp_G Z) r73 a0 a1 a2 a3 a4 a5 a6 h) := by
  unfold m_M_wholeOf_109
  refine hp_aload_n (x0 := 0) d_M_wholeOf_109 rfl rfl ?_
  refine hp_getR fl_M_42 d_M_wholeOf_110 fun x1 => ?_
  refine hp_iload (x0 := 6) d_M_wholeOf_113 rfl ?_
  refine hp_iconst (v := 0) d_M_wholeOf_115 (by decide) ?_
  refine hp_iast d_M_wholeOf_116 fun h2 => ?_
  refine hp_iinc (x0 := 6) (d := 1) (fun x3 => [(6, .int x3), (0, .ref a0), (1, .int a1), (2, .int a2), (3, .int a3), (4, .int a4), (5, .int a5)]) d_M_wholeOf_117 rfl (by decide) (by decide) (fun _ => rfl) fun x3 => ?_
  refine hp_goto (tgt := 73) d_M_wholeOf_120 (by decide) ?_
  refine hp_sub [1, 2, 3, 4, 5, 6, 0] rfl ?_
  exact hr73 _ _ _ _ _ _ _ _
def m_M_wholeOf_107 (G : Nat → Nat) (r73 : Nat → Int32 → Int32 → Int32 → Int32 → Int32 → Int32 → hp_H → Option (Int32 × hp_H)) (a0 : Nat) (a1 : Int32) (a2 : Int32) (a3 : Int32) (a4 : Int32) (a6 : Int32) (s0 : Int32) (h : hp_H) : Option (Int32 × hp_H) := hp_nm s0 fun x1 => m_M_wholeOf_109 G r73 a0 a1 a2 a3 a4 x1 a6 h
set_option maxRecDepth 100000 in
set_option maxHeartbeats 4000000 in
theorem j_M_wholeOf_107 {Z : hp_Z} (r73 : Nat → Int32 → Int32 → Int32 → Int32 → Int32 → Int32 → hp_H → Option (Int32 × hp_H)) (hr73 : ∀ (a0 : Nat) (a1 : Int32) (a2 : Int32) (a3 : Int32) (a4 : Int32) (a5 : Int32) (a6 : Int32) (h : hp_H), hp_J Y_M_wholeOf Z hp_rI h 73 [(0, .ref a0), (1, .int a1), (2, .int a2), (3, .int a3), (4, .int a4), (5, .int a5), (6, .int a6)] [] (r73 a0 a1 a2 a3 a4 a5 a6  h)) (a0 : Nat) (a1 : Int32) (a2 : Int32) (a3 : Int32) (a4 : Int32) (a6 : Int32) (s0 : Int32) (h : hp_H) : hp_J Y_M_wholeOf Z hp_rI h 107 [(0, .ref a0), (1, .int a1), (2, .int a2), (3, .int a3), (4, .int a4), (6, .int a6)] [.int s0] (m_M_wholeOf_107 (hp_G Z) r73 a0 a1 a2 a3 a4 a6 s0 h) := by
  unfold m_M_wholeOf_107
  refine hp_istore (fun x1 => [(5, .int x1), (0, .ref a0), (1, .int a1), (2, .int a2), (3, .int a3), (4, .int a4), (6, .int a6)]) d_M_wholeOf_107 (by decide) (fun _ => rfl) fun x1 => ?_
  refine hp_sub [1, 2, 3, 4, 5, 0, 6] rfl ?_
  exact j_M_wholeOf_109 _ hr73 _ _ _ _ _ _ _ _
def m_M_wholeOf_106 (G : Nat → Nat) (r73 : Nat → Int32 → Int32 → Int32 → Int32 → Int32 → Int32 → hp_H → Option (Int32 × hp_H)) (a0 : Nat) (a1 : Int32) (a2 : Int32) (a3 : Int32) (a4 : Int32) (a6 : Int32) (h : hp_H) : Option (Int32 × hp_H) := m_M_wholeOf_107 G r73 a0 a1 a2 a3 a4 a6 (0 : Int32) h
set_option maxRecDepth 100000 in
set_option maxHeartbeats 4000000 in
theorem j_M_wholeOf_106 {Z : hp_Z} (r73 : Nat → Int32 → Int32 → Int32 → Int32 → Int32 → Int32 → hp_H → Option (Int32 × hp_H)) (hr73 : ∀ (a0 : Nat) (a1 : Int32) (a2 : Int32) (a3 : Int32) (a4 : Int32) (a5 : Int32) (a6 : Int32) (h : hp_H), hp_J Y_M_wholeOf Z hp_rI h 73 [(0, .ref a0), (1, .int a1), (2, .int a2), (3, .int a3), (4, .int a4), (5, .int a5), (6, .int a6)] [] (r73 a0 a1 a2 a3 a4 a5 a6  h)) (a0 : Nat) (a1 : Int32) (a2 : Int32) (a3 : Int32) (a4 : Int32) (a6 : Int32) (h : hp_H) : hp_J Y_M_wholeOf Z hp_rI h 106 [(0, .ref a0), (1, .int a1), (2, .int a2), (3, .int a3), (4, .int a4), (6, .int a6)] [] (m_M_wholeOf_106 (hp_G Z) r73 a0 a1 a2 a3 a4 a6 h) := by
  unfold m_M_wholeOf_106
  refine hp_iconst (v := 0) d_M_wholeOf_106 (by decide) ?_
  exact j_M_wholeOf_107 _ hr73 _ _ _ _ _ _ _ _
def m_M_wholeOf_240 (G : Nat → Nat) (s0 : Int32) (s1 : Int32) (s2 : Nat) (s3 : Nat) (h : hp_H) : Option (Int32 × hp_H) := (hp_vck h s3 8 (m_M_number G s3 s2 s1 s0 h)).bind fun q1 => some (q1.1, q1.2)
set_option maxRecDepth 100000 in
set_option maxHeartbeats 4000000 in
theorem j_M_wholeOf_240 {Z : hp_Z} (s0 : Int32) (s1 : Int32) (s2 : Nat) (s3 : Nat) (h : hp_H) : hp_J Y_M_wholeOf Z hp_rI h 240 [] [.int s0, .int s1, .ref s2, .ref s3] (m_M_wholeOf_240 (hp_G Z)  s0 s1 s2 s3 h) := by
  unfold m_M_wholeOf_240
  refine hp_callI (hp_crV (ci := 8) (t_M_number _ _ _ _ _ _) cw_M_127 rfl ⟨w_981, ws_39⟩ (by decide) rfl rfl (Nat.le_of_ble_eq_true rfl) d_M_wholeOf_240) fun q1 => ?_
  exact hp_iret d_M_wholeOf_243 rfl
def m_M_wholeOf_214 (G : Nat → Nat) (a0 : Nat) (a1 : Int32) (h : hp_H) : Option (Int32 × hp_H) := (hp_gR h a0 8 17).bind fun x1 => (hp_gR h a0 8 3).bind fun x2 => (hp_aI h .int x2 a1).bind fun x3 => (hp_gR h a0 8 1).bind fun x4 => (hp_aI h .int x4 a1).bind fun x5 => if x5 = (3 : Int32) then (m_M_wholeOf_240 G (1 : Int32) x3 x1 a0 h) else (m_M_wholeOf_240 G (0 : Int32) x3 x1 a0 h)
set_option maxRecDepth 100000 in
set_option maxHeartbeats 4000000 in
theorem j_M_wholeOf_214 {Z : hp_Z} (a0 : Nat) (a1 : Int32) (h : hp_H) : hp_J Y_M_wholeOf Z hp_rI h 214 [(0, .ref a0), (1, .int a1)] [] (m_M_wholeOf_214 (hp_G Z)  a0 a1 h) := by
  unfold m_M_wholeOf_214
  refine hp_aload_n (x0 := 0) d_M_wholeOf_214 rfl rfl ?_
  refine hp_aload_n (x0 := 0) d_M_wholeOf_215 rfl rfl ?_
  refine hp_getR fl_M_42 d_M_wholeOf_216 fun x1 => ?_
  refine hp_aload_n (x0 := 0) d_M_wholeOf_219 rfl rfl ?_
  refine hp_getR fl_M_16 d_M_wholeOf_220 fun x2 => ?_
  refine hp_iload_n (x0 := 1) d_M_wholeOf_223 rfl rfl ?_
  refine hp_iald d_M_wholeOf_224 fun x3 => ?_
  refine hp_aload_n (x0 := 0) d_M_wholeOf_225 rfl rfl ?_
  refine hp_getR fl_M_7 d_M_wholeOf_226 fun x4 => ?_
  refine hp_iload_n (x0 := 1) d_M_wholeOf_229 rfl rfl ?_
  refine hp_iald d_M_wholeOf_230 fun x5 => ?_
  refine hp_iconst (v := 3) d_M_wholeOf_231 (by decide) ?_
  refine hp_icmp_ne (tgt := 239) d_M_wholeOf_232 (by decide) ?_ ?_
  · refine hp_iconst (v := 1) d_M_wholeOf_235 (by decide) ?_
    refine hp_goto (tgt := 240) d_M_wholeOf_236 (by decide) ?_
    refine hp_sub [] rfl ?_
    exact j_M_wholeOf_240  _ _ _ _ _
  · refine hp_iconst (v := 0) d_M_wholeOf_239 (by decide) ?_
    refine hp_sub [] rfl ?_
    exact j_M_wholeOf_240  _ _ _ _ _
def m_M_wholeOf_198 (G : Nat → Nat) (a0 : Nat) (a1 : Int32) (s0 : Int32) (h : hp_H) : Option (Int32 × hp_H) := hp_nm s0 fun x1 => if x1 = 0 then (m_M_wholeOf_214 G a0 a1 h) else ((hp_gR h a0 8 17).bind fun x2 => (m_M_raise G x2 (18 : Int32) h).bind fun q3 => m_M_wholeOf_214 G a0 a1 q3.2)
set_option maxRecDepth 100000 in
set_option maxHeartbeats 4000000 in
theorem j_M_wholeOf_198 {Z : hp_Z} (a0 : Nat) (a1 : Int32) (s0 : Int32) (h : hp_H) : hp_J Y_M_wholeOf Z hp_rI h 198 [(0, .ref a0), (1, .int a1)] [.int s0] (m_M_wholeOf_198 (hp_G Z)  a0 a1 s0 h) := by
  unfold m_M_wholeOf_198
  refine hp_istore (fun x1 => [(6, .int x1), (0, .ref a0), (1, .int a1)]) d_M_wholeOf_198 (by decide) (fun _ => rfl) fun x1 => ?_
  refine hp_iload (x0 := 0) d_M_wholeOf_200 rfl ?_
  refine hp_if_eq (tgt := 214) d_M_wholeOf_202 (by decide) ?_ ?_
  · refine hp_sub [1, 2] rfl ?_
    exact j_M_wholeOf_214  _ _ _
  · refine hp_aload_n (x0 := 1) d_M_wholeOf_205 rfl rfl ?_
    refine hp_getR fl_M_42 d_M_wholeOf_206 fun x2 => ?_
    refine hp_bipush (v := 18) d_M_wholeOf_209 (by decide) ?_
    refine hp_callU (hp_crS (t_M_raise _ _ _ _) cw_M_99 w_1196 (by decide) rfl rfl (Nat.le_of_ble_eq_true rfl) d_M_wholeOf_211) fun q3 => ?_
    refine hp_sub [1, 2] rfl ?_
    exact j_M_wholeOf_214  _ _ _
def m_M_wholeOf_153 (G : Nat → Nat) (a0 : Nat) (a1 : Int32) (h : hp_H) : Option (Int32 × hp_H) := m_M_wholeOf_198 G a0 a1 (1 : Int32) h
set_option maxRecDepth 100000 in
set_option maxHeartbeats 4000000 in
theorem j_M_wholeOf_153 {Z : hp_Z} (a0 : Nat) (a1 : Int32) (h : hp_H) : hp_J Y_M_wholeOf Z hp_rI h 153 [(0, .ref a0), (1, .int a1)] [] (m_M_wholeOf_153 (hp_G Z)  a0 a1 h) := by
  unfold m_M_wholeOf_153
  refine hp_iconst (v := 1) d_M_wholeOf_153 (by decide) ?_
  refine hp_goto (tgt := 198) d_M_wholeOf_154 (by decide) ?_
  exact j_M_wholeOf_198  _ _ _ _
def m_M_wholeOf_157 (G : Nat → Nat) (a0 : Nat) (a1 : Int32) (h : hp_H) : Option (Int32 × hp_H) := m_M_wholeOf_198 G a0 a1 (0 : Int32) h
set_option maxRecDepth 100000 in
set_option maxHeartbeats 4000000 in
theorem j_M_wholeOf_157 {Z : hp_Z} (a0 : Nat) (a1 : Int32) (h : hp_H) : hp_J Y_M_wholeOf Z hp_rI h 157 [(0, .ref a0), (1, .int a1)] [] (m_M_wholeOf_157 (hp_G Z)  a0 a1 h) := by
  unfold m_M_wholeOf_157
  refine hp_iconst (v := 0) d_M_wholeOf_157 (by decide) ?_
  refine hp_goto (tgt := 198) d_M_wholeOf_158 (by decide) ?_
  exact j_M_wholeOf_198  _ _ _ _
def m_M_wholeOf_197 (G : Nat → Nat) (a0 : Nat) (a1 : Int32) (h : hp_H) : Option (Int32 × hp_H) := m_M_wholeOf_198 G a0 a1 (0 : Int32) h
set_option maxRecDepth 100000 in
set_option maxHeartbeats 4000000 in
theorem j_M_wholeOf_197 {Z : hp_Z} (a0 : Nat) (a1 : Int32) (h : hp_H) : hp_J Y_M_wholeOf Z hp_rI h 197 [(0, .ref a0), (1, .int a1)] [] (m_M_wholeOf_197 (hp_G Z)  a0 a1 h) := by
  unfold m_M_wholeOf_197
  refine hp_iconst (v := 0) d_M_wholeOf_197 (by decide) ?_
  exact j_M_wholeOf_198  _ _ _ _
def m_M_wholeOf_190 (G : Nat → Nat) (a0 : Nat) (a1 : Int32) (s0 : Int32) (s1 : Int32) (h : hp_H) : Option (Int32 × hp_H) := if s1 = s0 then (m_M_wholeOf_198 G a0 a1 (1 : Int32) h) else (m_M_wholeOf_197 G a0 a1 h)
set_option maxRecDepth 100000 in
set_option maxHeartbeats 4000000 in
theorem j_M_wholeOf_190 {Z : hp_Z} (a0 : Nat) (a1 : Int32) (s0 : Int32) (s1 : Int32) (h : hp_H) : hp_J Y_M_wholeOf Z hp_rI h 190 [(0, .ref a0), (1, .int a1)] [.int s0, .int s1] (m_M_wholeOf_190 (hp_G Z)  a0 a1 s0 s1 h) := by
  unfold m_M_wholeOf_190
  refine hp_icmp_ne (tgt := 197) d_M_wholeOf_190 (by decide) ?_ ?_
  · refine hp_iconst (v := 1) d_M_wholeOf_193 (by decide) ?_
    refine hp_goto (tgt := 198) d_M_wholeOf_194 (by decide) ?_
    exact j_M_wholeOf_198  _ _ _ _
  · exact j_M_wholeOf_197  _ _ _
def m_M_wholeOf_176 (G : Nat → Nat) (a0 : Nat) (a1 : Int32) (s0 : Int32) (h : hp_H) : Option (Int32 × hp_H) := (hp_gR h a0 8 3).bind fun x1 => (hp_aI h .int x1 a1).bind fun x2 => if x2 ≤ 0 then (m_M_wholeOf_190 G a0 a1 (0 : Int32) s0 h) else (m_M_wholeOf_190 G a0 a1 (1 : Int32) s0 h)
set_option maxRecDepth 100000 in
set_option maxHeartbeats 4000000 in
theorem j_M_wholeOf_176 {Z : hp_Z} (a0 : Nat) (a1 : Int32) (s0 : Int32) (h : hp_H) : hp_J Y_M_wholeOf Z hp_rI h 176 [(0, .ref a0), (1, .int a1)] [.int s0] (m_M_wholeOf_176 (hp_G Z)  a0 a1 s0 h) := by
  unfold m_M_wholeOf_176
  refine hp_aload_n (x0 := 0) d_M_wholeOf_176 rfl rfl ?_
  refine hp_getR fl_M_16 d_M_wholeOf_177 fun x1 => ?_
  refine hp_iload_n (x0 := 1) d_M_wholeOf_180 rfl rfl ?_
  refine hp_iald d_M_wholeOf_181 fun x2 => ?_
  refine hp_if_le (tgt := 189) d_M_wholeOf_182 (by decide) ?_ ?_
  · refine hp_iconst (v := 0) d_M_wholeOf_189 (by decide) ?_
    exact j_M_wholeOf_190  _ _ _ _ _
  · refine hp_iconst (v := 1) d_M_wholeOf_185 (by decide) ?_
    refine hp_goto (tgt := 190) d_M_wholeOf_186 (by decide) ?_
    exact j_M_wholeOf_190  _ _ _ _ _
def m_M_wholeOf_73 (G : Nat → Nat) : Nat → Nat → Int32 → Int32 → Int32 → Int32 → Int32 → Int32 → hp_H → Option (Int32 × hp_H)
  | 0, _, _, _, _, _, _, _, _ => none
  | n + 1, a0, a1, a2, a3, a4, a5, a6, h => if (18 : Int32) ≤ a6 then (if a2 = (21 : Int32) then (if 0 < a4 then (m_M_wholeOf_153 G a0 a1 h) else (if a4 = 0 then ((hp_gR h a0 8 3).bind fun x1 => (hp_aI h .int x1 a1).bind fun x2 => if 0 < x2 then (m_M_wholeOf_153 G a0 a1 h) else (if a5 = 0 then (m_M_wholeOf_153 G a0 a1 h) else (m_M_wholeOf_157 G a0 a1 h))) else (m_M_wholeOf_157 G a0 a1 h))) else (if a3 = 0 then (m_M_wholeOf_197 G a0 a1 h) else (if a2 = (19 : Int32) then (m_M_wholeOf_176 G a0 a1 (1 : Int32) h) else (m_M_wholeOf_176 G a0 a1 (0 : Int32) h)))) else (if (17 : Int32) ≤ a6 then (m_M_wholeOf_109 G (m_M_wholeOf_73 G  n) a0 a1 a2 a3 a4 a5 a6 h) else (if a5 = 0 then (m_M_wholeOf_106 G (m_M_wholeOf_73 G  n) a0 a1 a2 a3 a4 a6 h) else ((hp_gR h a0 8 17).bind fun x3 => (hp_aI h .int x3 a6).bind fun x4 => if x4 = 0 then (m_M_wholeOf_107 G (m_M_wholeOf_73 G  n) a0 a1 a2 a3 a4 a6 (1 : Int32) h) else (m_M_wholeOf_106 G (m_M_wholeOf_73 G  n) a0 a1 a2 a3 a4 a6 h))))
set_option maxRecDepth 100000 in
set_option maxHeartbeats 4000000 in
theorem j_M_wholeOf_73 {Z : hp_Z} : ∀ (n : Nat) (a0 : Nat) (a1 : Int32) (a2 : Int32) (a3 : Int32) (a4 : Int32) (a5 : Int32) (a6 : Int32) (h : hp_H), hp_J Y_M_wholeOf Z hp_rI h 73 [(0, .ref a0), (1, .int a1), (2, .int a2), (3, .int a3), (4, .int a4), (5, .int a5), (6, .int a6)] [] (m_M_wholeOf_73 (hp_G Z)  n a0 a1 a2 a3 a4 a5 a6 h) := by
  intro n
  induction n with
  | zero => intro a0 a1 a2 a3 a4 a5 a6 h; exact hp_fail
  | succ n ih =>
    intro a0 a1 a2 a3 a4 a5 a6 h
    rw [m_M_wholeOf_73]
    refine hp_iload (x0 := 6) d_M_wholeOf_73 rfl ?_
    refine hp_bipush (v := 18) d_M_wholeOf_75 (by decide) ?_
    refine hp_icmp_ge (tgt := 123) d_M_wholeOf_77 (by decide) ?_ ?_
    · refine hp_iload_n (x0 := 2) d_M_wholeOf_123 rfl rfl ?_
      refine hp_bipush (v := 21) d_M_wholeOf_124 (by decide) ?_
      refine hp_icmp_ne (tgt := 161) d_M_wholeOf_126 (by decide) ?_ ?_
      · refine hp_iload (x0 := 4) d_M_wholeOf_129 rfl ?_
        refine hp_if_gt (tgt := 153) d_M_wholeOf_131 (by decide) ?_ ?_
        · refine hp_sub [0, 1] rfl ?_
          exact j_M_wholeOf_153  _ _ _
        · refine hp_iload (x0 := 4) d_M_wholeOf_134 rfl ?_
          refine hp_if_ne (tgt := 157) d_M_wholeOf_136 (by decide) ?_ ?_
          · refine hp_aload_n (x0 := 0) d_M_wholeOf_139 rfl rfl ?_
            refine hp_getR fl_M_16 d_M_wholeOf_140 fun x1 => ?_
            refine hp_iload_n (x0 := 1) d_M_wholeOf_143 rfl rfl ?_
            refine hp_iald d_M_wholeOf_144 fun x2 => ?_
            refine hp_if_gt (tgt := 153) d_M_wholeOf_145 (by decide) ?_ ?_
            · refine hp_sub [0, 1] rfl ?_
              exact j_M_wholeOf_153  _ _ _
            · refine hp_iload (x0 := 5) d_M_wholeOf_148 rfl ?_
              refine hp_if_ne (tgt := 157) d_M_wholeOf_150 (by decide) ?_ ?_
              · refine hp_sub [0, 1] rfl ?_
                exact j_M_wholeOf_153  _ _ _
              · refine hp_sub [0, 1] rfl ?_
                exact j_M_wholeOf_157  _ _ _
          · refine hp_sub [0, 1] rfl ?_
            exact j_M_wholeOf_157  _ _ _
      · refine hp_iload_n (x0 := 3) d_M_wholeOf_161 rfl rfl ?_
        refine hp_if_eq (tgt := 197) d_M_wholeOf_162 (by decide) ?_ ?_
        · refine hp_sub [0, 1] rfl ?_
          exact j_M_wholeOf_197  _ _ _
        · refine hp_iload_n (x0 := 2) d_M_wholeOf_165 rfl rfl ?_
          refine hp_bipush (v := 19) d_M_wholeOf_166 (by decide) ?_
          refine hp_icmp_ne (tgt := 175) d_M_wholeOf_168 (by decide) ?_ ?_
          · refine hp_iconst (v := 1) d_M_wholeOf_171 (by decide) ?_
            refine hp_goto (tgt := 176) d_M_wholeOf_172 (by decide) ?_
            refine hp_sub [0, 1] rfl ?_
            exact j_M_wholeOf_176  _ _ _ _
          · refine hp_iconst (v := 0) d_M_wholeOf_175 (by decide) ?_
            refine hp_sub [0, 1] rfl ?_
            exact j_M_wholeOf_176  _ _ _ _
    · refine hp_iload (x0 := 6) d_M_wholeOf_80 rfl ?_
      refine hp_bipush (v := 17) d_M_wholeOf_82 (by decide) ?_
      refine hp_icmp_ge (tgt := 109) d_M_wholeOf_84 (by decide) ?_ ?_
      · exact j_M_wholeOf_109 _ ih _ _ _ _ _ _ _ _
      · refine hp_iload (x0 := 5) d_M_wholeOf_87 rfl ?_
        refine hp_if_eq (tgt := 106) d_M_wholeOf_89 (by decide) ?_ ?_
        · refine hp_sub [0, 1, 2, 3, 4, 6] rfl ?_
          exact j_M_wholeOf_106 _ ih _ _ _ _ _ _ _
        · refine hp_aload_n (x0 := 0) d_M_wholeOf_92 rfl rfl ?_
          refine hp_getR fl_M_42 d_M_wholeOf_93 fun x3 => ?_
          refine hp_iload (x0 := 6) d_M_wholeOf_96 rfl ?_
          refine hp_iald d_M_wholeOf_98 fun x4 => ?_
          refine hp_if_ne (tgt := 106) d_M_wholeOf_99 (by decide) ?_ ?_
          · refine hp_iconst (v := 1) d_M_wholeOf_102 (by decide) ?_
            refine hp_goto (tgt := 107) d_M_wholeOf_103 (by decide) ?_
            refine hp_sub [0, 1, 2, 3, 4, 6] rfl ?_
            exact j_M_wholeOf_107 _ ih _ _ _ _ _ _ _ _
          · refine hp_sub [0, 1, 2, 3, 4, 6] rfl ?_
            exact j_M_wholeOf_106 _ ih _ _ _ _ _ _ _
def m_M_wholeOf_68 (G : Nat → Nat) (a0 : Nat) (a1 : Int32) (a2 : Int32) (a3 : Int32) (a4 : Int32) (s0 : Int32) (h : hp_H) : Option (Int32 × hp_H) := hp_nm s0 fun x1 => hp_nm (0 : Int32) fun x2 => m_M_wholeOf_73 G hp_fu a0 a1 a2 a3 a4 x1 x2 h
set_option maxRecDepth 100000 in
set_option maxHeartbeats 4000000 in
theorem j_M_wholeOf_68 {Z : hp_Z} (a0 : Nat) (a1 : Int32) (a2 : Int32) (a3 : Int32) (a4 : Int32) (s0 : Int32) (h : hp_H) : hp_J Y_M_wholeOf Z hp_rI h 68 [(0, .ref a0), (1, .int a1), (2, .int a2), (3, .int a3), (4, .int a4)] [.int s0] (m_M_wholeOf_68 (hp_G Z)  a0 a1 a2 a3 a4 s0 h) := by
  unfold m_M_wholeOf_68
  refine hp_istore (fun x1 => [(5, .int x1), (0, .ref a0), (1, .int a1), (2, .int a2), (3, .int a3), (4, .int a4)]) d_M_wholeOf_68 (by decide) (fun _ => rfl) fun x1 => ?_
  refine hp_iconst (v := 0) d_M_wholeOf_70 (by decide) ?_
  refine hp_istore (fun x2 => [(6, .int x2), (5, .int x1), (0, .ref a0), (1, .int a1), (2, .int a2), (3, .int a3), (4, .int a4)]) d_M_wholeOf_71 (by decide) (fun _ => rfl) fun x2 => ?_
  refine hp_sub [2, 3, 4, 5, 6, 1, 0] rfl ?_
  exact j_M_wholeOf_73  hp_fu _ _ _ _ _ _ _ _
def m_M_wholeOf_14 (G : Nat → Nat) : Nat → Nat → Int32 → Int32 → Int32 → Int32 → hp_H → Option (Int32 × hp_H)
  | 0, _, _, _, _, _, _ => none
  | n + 1, a0, a1, a2, a3, a4, h => if (18 : Int32) ≤ a4 then ((hp_gR h a0 8 17).bind fun x1 => (hp_aI h .int x1 (17 : Int32)).bind fun x2 => hp_nm (x2 - (5 : Int32)) fun x3 => if x3 = 0 then (m_M_wholeOf_68 G a0 a1 a2 a3 x3 (1 : Int32) h) else (m_M_wholeOf_68 G a0 a1 a2 a3 x3 (0 : Int32) h)) else (if a3 = 0 then ((hp_gR h a0 8 17).bind fun x4 => (hp_aI h .int x4 a4).bind fun x5 => if x5 = 0 then (m_M_wholeOf_40 G (m_M_wholeOf_14 G  n) a0 a1 a2 a4 (0 : Int32) h) else (m_M_wholeOf_35 G (m_M_wholeOf_14 G  n) a0 a1 a2 a4 h)) else (m_M_wholeOf_35 G (m_M_wholeOf_14 G  n) a0 a1 a2 a4 h))
set_option maxRecDepth 100000 in
set_option maxHeartbeats 4000000 in
theorem j_M_wholeOf_14 {Z : hp_Z} : ∀ (n : Nat) (a0 : Nat) (a1 : Int32) (a2 : Int32) (a3 : Int32) (a4 : Int32) (h : hp_H), hp_J Y_M_wholeOf Z hp_rI h 14 [(0, .ref a0), (1, .int a1), (2, .int a2), (3, .int a3), (4, .int a4)] [] (m_M_wholeOf_14 (hp_G Z)  n a0 a1 a2 a3 a4 h) := by
  intro n
  induction n with
  | zero => intro a0 a1 a2 a3 a4 h; exact hp_fail
  | succ n ih =>
    intro a0 a1 a2 a3 a4 h
    rw [m_M_wholeOf_14]
    refine hp_iload (x0 := 4) d_M_wholeOf_14 rfl ?_
    refine hp_bipush (v := 18) d_M_wholeOf_16 (by decide) ?_
    refine hp_icmp_ge (tgt := 47) d_M_wholeOf_18 (by decide) ?_ ?_
    · refine hp_aload_n (x0 := 0) d_M_wholeOf_47 rfl rfl ?_
      refine hp_getR fl_M_42 d_M_wholeOf_48 fun x1 => ?_
      refine hp_bipush (v := 17) d_M_wholeOf_51 (by decide) ?_
      refine hp_iald d_M_wholeOf_53 fun x2 => ?_
      refine hp_iconst (v := 5) d_M_wholeOf_54 (by decide) ?_
      refine hp_isub d_M_wholeOf_55 ?_
      refine hp_istore (fun x3 => [(4, .int x3), (0, .ref a0), (1, .int a1), (2, .int a2), (3, .int a3)]) d_M_wholeOf_56 (by decide) (fun _ => rfl) fun x3 => ?_
      refine hp_iload (x0 := 0) d_M_wholeOf_58 rfl ?_
      refine hp_if_ne (tgt := 67) d_M_wholeOf_60 (by decide) ?_ ?_
      · refine hp_iconst (v := 1) d_M_wholeOf_63 (by decide) ?_
        refine hp_goto (tgt := 68) d_M_wholeOf_64 (by decide) ?_
        refine hp_sub [1, 2, 3, 4, 0] rfl ?_
        exact j_M_wholeOf_68  _ _ _ _ _ _ _
      · refine hp_iconst (v := 0) d_M_wholeOf_67 (by decide) ?_
        refine hp_sub [1, 2, 3, 4, 0] rfl ?_
        exact j_M_wholeOf_68  _ _ _ _ _ _ _
    · refine hp_iload_n (x0 := 3) d_M_wholeOf_21 rfl rfl ?_
      refine hp_if_ne (tgt := 35) d_M_wholeOf_22 (by decide) ?_ ?_
      · refine hp_aload_n (x0 := 0) d_M_wholeOf_25 rfl rfl ?_
        refine hp_getR fl_M_42 d_M_wholeOf_26 fun x4 => ?_
        refine hp_iload (x0 := 4) d_M_wholeOf_29 rfl ?_
        refine hp_iald d_M_wholeOf_31 fun x5 => ?_
        refine hp_if_eq (tgt := 39) d_M_wholeOf_32 (by decide) ?_ ?_
        · refine hp_iconst (v := 0) d_M_wholeOf_39 (by decide) ?_
          refine hp_sub [0, 1, 2, 4] rfl ?_
          exact j_M_wholeOf_40 _ ih _ _ _ _ _ _
        · refine hp_sub [0, 1, 2, 4] rfl ?_
          exact j_M_wholeOf_35 _ ih _ _ _ _ _
      · refine hp_sub [0, 1, 2, 4] rfl ?_
        exact j_M_wholeOf_35 _ ih _ _ _ _ _
def m_M_wholeOf (G : Nat → Nat) (a0 : Nat) (a1 : Int32) (a2 : Int32) (h : hp_H) : Option (Int32 × hp_H) := (hp_gR h a0 8 17).bind fun x1 => (hp_vck h a0 8 (m_M_lay G a0 a1 x1 h)).bind fun q2 => hp_nm (0 : Int32) fun x3 => hp_nm (0 : Int32) fun x4 => m_M_wholeOf_14 G hp_fu a0 a1 a2 x3 x4 q2.2
set_option maxRecDepth 100000 in
set_option maxHeartbeats 4000000 in
theorem j_M_wholeOf_0 {Z : hp_Z} (a0 : Nat) (a1 : Int32) (a2 : Int32) (h : hp_H) : hp_J Y_M_wholeOf Z hp_rI h 0 [(0, .ref a0), (1, .int a1), (2, .int a2)] [] (m_M_wholeOf (hp_G Z)  a0 a1 a2 h) := by
  unfold m_M_wholeOf
  refine hp_aload_n (x0 := 0) d_M_wholeOf_0 rfl rfl ?_
  refine hp_iload_n (x0 := 1) d_M_wholeOf_1 rfl rfl ?_
  refine hp_aload_n (x0 := 0) d_M_wholeOf_2 rfl rfl ?_
  refine hp_getR fl_M_42 d_M_wholeOf_3 fun x1 => ?_
  refine hp_callU (hp_crV (ci := 8) (t_M_lay _ _ _ _ _) cw_M_115 rfl ⟨w_1060, ws_49⟩ (by decide) rfl rfl (Nat.le_of_ble_eq_true rfl) d_M_wholeOf_6) fun q2 => ?_
  refine hp_iconst (v := 0) d_M_wholeOf_9 (by decide) ?_
  refine hp_istore_n (fun x3 => [(3, .int x3), (0, .ref a0), (1, .int a1), (2, .int a2)]) d_M_wholeOf_10 rfl (by decide) (fun _ => rfl) fun x3 => ?_
  refine hp_iconst (v := 0) d_M_wholeOf_11 (by decide) ?_
  refine hp_istore (fun x4 => [(4, .int x4), (3, .int x3), (0, .ref a0), (1, .int a1), (2, .int a2)]) d_M_wholeOf_12 (by decide) (fun _ => rfl) fun x4 => ?_
  refine hp_sub [2, 3, 4, 1, 0] rfl ?_
  exact j_M_wholeOf_14  hp_fu _ _ _ _ _ _
theorem t_M_wholeOf (l : Launch) (E : hp_E) (a0 : Nat) (a1 : Int32) (a2 : Int32) : hp_M l E y_M_wholeOf Y_M_wholeOf hp_rI [.ref a0, .int a1, .int a2] (m_M_wholeOf E.2.2.1 a0 a1 a2) := hp_M.of (plainFor_of_name (by decide)) ⟨rfl, rfl⟩ (Nat.le_of_ble_eq_true rfl) (fun Z h hE => by subst hE; exact j_M_wholeOf_0 _ _ _ h)
-- M_one
theorem d_M_one_0 : decode prog_9_method_69_code 0 = .ok (.iload_n 1, 1) := by decide +kernel
theorem d_M_one_1 : decode prog_9_method_69_code 1 = .ok (.tableswitch 531 3 40 #[167, 531, 531, 531, 531, 531, 531, 531, 531, 531, 531, 531, 531, 531, 180, 200, 233, 233, 233, 531, 531, 531, 253, 531, 280, 280, 531, 531, 531, 531, 531, 531, 287, 311, 358, 471, 491, 511], 167) := by decide +kernel
theorem d_M_one_168 : decode prog_9_method_69_code 168 = .ok (.aload_n 0, 1) := by decide +kernel
theorem d_M_one_169 : decode prog_9_method_69_code 169 = .ok (.aload_n 0, 1) := by decide +kernel
theorem d_M_one_170 : decode prog_9_method_69_code 170 = .ok (.iload_n 2, 1) := by decide +kernel
theorem d_M_one_171 : decode prog_9_method_69_code 171 = .ok (.invokevirtual 244, 3) := by decide +kernel
theorem d_M_one_174 : decode prog_9_method_69_code 174 = .ok (.invokestatic 262, 3) := by decide +kernel
theorem d_M_one_177 : decode prog_9_method_69_code 177 = .ok (.invokevirtual 247, 3) := by decide +kernel
theorem d_M_one_180 : decode prog_9_method_69_code 180 = .ok (.ireturn, 1) := by decide +kernel
theorem d_M_one_181 : decode prog_9_method_69_code 181 = .ok (.aload_n 0, 1) := by decide +kernel
theorem d_M_one_182 : decode prog_9_method_69_code 182 = .ok (.iload_n 2, 1) := by decide +kernel
theorem d_M_one_183 : decode prog_9_method_69_code 183 = .ok (.invokevirtual 168, 3) := by decide +kernel
theorem d_M_one_186 : decode prog_9_method_69_code 186 = .ok (.ifCond .eq 12, 3) := by decide +kernel
theorem d_M_one_189 : decode prog_9_method_69_code 189 = .ok (.aload_n 0, 1) := by decide +kernel
theorem d_M_one_190 : decode prog_9_method_69_code 190 = .ok (.iload_n 2, 1) := by decide +kernel
theorem d_M_one_191 : decode prog_9_method_69_code 191 = .ok (.iconst 1, 1) := by decide +kernel
theorem d_M_one_192 : decode prog_9_method_69_code 192 = .ok (.invokevirtual 280, 3) := by decide +kernel
theorem d_M_one_195 : decode prog_9_method_69_code 195 = .ok (.goto 5, 3) := by decide +kernel
theorem d_M_one_198 : decode prog_9_method_69_code 198 = .ok (.bipush (-4), 2) := by decide +kernel
theorem d_M_one_200 : decode prog_9_method_69_code 200 = .ok (.ireturn, 1) := by decide +kernel
theorem d_M_one_201 : decode prog_9_method_69_code 201 = .ok (.aload_n 0, 1) := by decide +kernel
theorem d_M_one_202 : decode prog_9_method_69_code 202 = .ok (.iload_n 2, 1) := by decide +kernel
theorem d_M_one_203 : decode prog_9_method_69_code 203 = .ok (.invokevirtual 168, 3) := by decide +kernel
theorem d_M_one_206 : decode prog_9_method_69_code 206 = .ok (.ifCond .eq 25, 3) := by decide +kernel
theorem d_M_one_209 : decode prog_9_method_69_code 209 = .ok (.aload_n 0, 1) := by decide +kernel
theorem d_M_one_210 : decode prog_9_method_69_code 210 = .ok (.iload_n 2, 1) := by decide +kernel
theorem d_M_one_211 : decode prog_9_method_69_code 211 = .ok (.aload_n 0, 1) := by decide +kernel
theorem d_M_one_212 : decode prog_9_method_69_code 212 = .ok (.getfield 16, 3) := by decide +kernel
theorem d_M_one_215 : decode prog_9_method_69_code 215 = .ok (.iload_n 2, 1) := by decide +kernel
theorem d_M_one_216 : decode prog_9_method_69_code 216 = .ok (.iaload, 1) := by decide +kernel
theorem d_M_one_217 : decode prog_9_method_69_code 217 = .ok (.ifCond .ge 7, 3) := by decide +kernel
theorem d_M_one_220 : decode prog_9_method_69_code 220 = .ok (.iconst 1, 1) := by decide +kernel
theorem d_M_one_221 : decode prog_9_method_69_code 221 = .ok (.goto 4, 3) := by decide +kernel
theorem d_M_one_224 : decode prog_9_method_69_code 224 = .ok (.iconst 0, 1) := by decide +kernel
theorem d_M_one_225 : decode prog_9_method_69_code 225 = .ok (.invokevirtual 280, 3) := by decide +kernel
theorem d_M_one_228 : decode prog_9_method_69_code 228 = .ok (.goto 5, 3) := by decide +kernel
theorem d_M_one_231 : decode prog_9_method_69_code 231 = .ok (.bipush (-4), 2) := by decide +kernel
theorem d_M_one_233 : decode prog_9_method_69_code 233 = .ok (.ireturn, 1) := by decide +kernel
theorem d_M_one_234 : decode prog_9_method_69_code 234 = .ok (.aload_n 0, 1) := by decide +kernel
theorem d_M_one_235 : decode prog_9_method_69_code 235 = .ok (.iload_n 2, 1) := by decide +kernel
theorem d_M_one_236 : decode prog_9_method_69_code 236 = .ok (.invokevirtual 168, 3) := by decide +kernel
theorem d_M_one_239 : decode prog_9_method_69_code 239 = .ok (.ifCond .eq 12, 3) := by decide +kernel
theorem d_M_one_242 : decode prog_9_method_69_code 242 = .ok (.aload_n 0, 1) := by decide +kernel
theorem d_M_one_243 : decode prog_9_method_69_code 243 = .ok (.iload_n 2, 1) := by decide +kernel
theorem d_M_one_244 : decode prog_9_method_69_code 244 = .ok (.iload_n 1, 1) := by decide +kernel
theorem d_M_one_245 : decode prog_9_method_69_code 245 = .ok (.invokevirtual 284, 3) := by decide +kernel
theorem d_M_one_248 : decode prog_9_method_69_code 248 = .ok (.goto 5, 3) := by decide +kernel
theorem d_M_one_251 : decode prog_9_method_69_code 251 = .ok (.bipush (-4), 2) := by decide +kernel
theorem d_M_one_253 : decode prog_9_method_69_code 253 = .ok (.ireturn, 1) := by decide +kernel
theorem d_M_one_254 : decode prog_9_method_69_code 254 = .ok (.aload_n 0, 1) := by decide +kernel
theorem d_M_one_255 : decode prog_9_method_69_code 255 = .ok (.iload_n 2, 1) := by decide +kernel
theorem d_M_one_256 : decode prog_9_method_69_code 256 = .ok (.invokevirtual 217, 3) := by decide +kernel
theorem d_M_one_259 : decode prog_9_method_69_code 259 = .ok (.ifCond .eq 19, 3) := by decide +kernel
theorem d_M_one_262 : decode prog_9_method_69_code 262 = .ok (.aload_n 0, 1) := by decide +kernel
theorem d_M_one_263 : decode prog_9_method_69_code 263 = .ok (.aload_n 0, 1) := by decide +kernel
theorem d_M_one_264 : decode prog_9_method_69_code 264 = .ok (.getfield 26, 3) := by decide +kernel
theorem d_M_one_267 : decode prog_9_method_69_code 267 = .ok (.iload_n 2, 1) := by decide +kernel
theorem d_M_one_268 : decode prog_9_method_69_code 268 = .ok (.iaload, 1) := by decide +kernel
theorem d_M_one_269 : decode prog_9_method_69_code 269 = .ok (.i2l, 1) := by decide +kernel
theorem d_M_one_270 : decode prog_9_method_69_code 270 = .ok (.iconst 0, 1) := by decide +kernel
theorem d_M_one_271 : decode prog_9_method_69_code 271 = .ok (.iconst 1, 1) := by decide +kernel
theorem d_M_one_272 : decode prog_9_method_69_code 272 = .ok (.invokevirtual 153, 3) := by decide +kernel
theorem d_M_one_275 : decode prog_9_method_69_code 275 = .ok (.goto 5, 3) := by decide +kernel
theorem d_M_one_278 : decode prog_9_method_69_code 278 = .ok (.bipush (-4), 2) := by decide +kernel
theorem d_M_one_280 : decode prog_9_method_69_code 280 = .ok (.ireturn, 1) := by decide +kernel
theorem d_M_one_281 : decode prog_9_method_69_code 281 = .ok (.aload_n 0, 1) := by decide +kernel
theorem d_M_one_282 : decode prog_9_method_69_code 282 = .ok (.iload_n 2, 1) := by decide +kernel
theorem d_M_one_283 : decode prog_9_method_69_code 283 = .ok (.iload_n 1, 1) := by decide +kernel
theorem d_M_one_284 : decode prog_9_method_69_code 284 = .ok (.invokevirtual 287, 3) := by decide +kernel
theorem d_M_one_287 : decode prog_9_method_69_code 287 = .ok (.ireturn, 1) := by decide +kernel
theorem d_M_one_288 : decode prog_9_method_69_code 288 = .ok (.aload_n 0, 1) := by decide +kernel
theorem d_M_one_289 : decode prog_9_method_69_code 289 = .ok (.iconst 5, 1) := by decide +kernel
theorem d_M_one_290 : decode prog_9_method_69_code 290 = .ok (.iconst 0, 1) := by decide +kernel
theorem d_M_one_291 : decode prog_9_method_69_code 291 = .ok (.invokevirtual 103, 3) := by decide +kernel
theorem d_M_one_294 : decode prog_9_method_69_code 294 = .ok (.aload_n 0, 1) := by decide +kernel
theorem d_M_one_295 : decode prog_9_method_69_code 295 = .ok (.iload_n 2, 1) := by decide +kernel
theorem d_M_one_296 : decode prog_9_method_69_code 296 = .ok (.invokevirtual 290, 3) := by decide +kernel
theorem d_M_one_299 : decode prog_9_method_69_code 299 = .ok (.ifCond .eq 10, 3) := by decide +kernel
theorem d_M_one_302 : decode prog_9_method_69_code 302 = .ok (.aload_n 0, 1) := by decide +kernel
theorem d_M_one_303 : decode prog_9_method_69_code 303 = .ok (.invokevirtual 111, 3) := by decide +kernel
theorem d_M_one_306 : decode prog_9_method_69_code 306 = .ok (.goto 5, 3) := by decide +kernel
theorem d_M_one_309 : decode prog_9_method_69_code 309 = .ok (.bipush (-4), 2) := by decide +kernel
theorem d_M_one_311 : decode prog_9_method_69_code 311 = .ok (.ireturn, 1) := by decide +kernel
theorem d_M_one_312 : decode prog_9_method_69_code 312 = .ok (.aload_n 0, 1) := by decide +kernel
theorem d_M_one_313 : decode prog_9_method_69_code 313 = .ok (.iconst 5, 1) := by decide +kernel
theorem d_M_one_314 : decode prog_9_method_69_code 314 = .ok (.iconst 0, 1) := by decide +kernel
theorem d_M_one_315 : decode prog_9_method_69_code 315 = .ok (.invokevirtual 103, 3) := by decide +kernel
theorem d_M_one_318 : decode prog_9_method_69_code 318 = .ok (.aload_n 0, 1) := by decide +kernel
theorem d_M_one_319 : decode prog_9_method_69_code 319 = .ok (.getfield 7, 3) := by decide +kernel
theorem d_M_one_322 : decode prog_9_method_69_code 322 = .ok (.iload_n 2, 1) := by decide +kernel
theorem d_M_one_323 : decode prog_9_method_69_code 323 = .ok (.iaload, 1) := by decide +kernel
theorem d_M_one_324 : decode prog_9_method_69_code 324 = .ok (.bipush 6, 2) := by decide +kernel
theorem d_M_one_326 : decode prog_9_method_69_code 326 = .ok (.if_icmp .ne 13, 3) := by decide +kernel
theorem d_M_one_329 : decode prog_9_method_69_code 329 = .ok (.aload_n 0, 1) := by decide +kernel
theorem d_M_one_330 : decode prog_9_method_69_code 330 = .ok (.aload_n 0, 1) := by decide +kernel
theorem d_M_one_331 : decode prog_9_method_69_code 331 = .ok (.getfield 13, 3) := by decide +kernel
theorem d_M_one_334 : decode prog_9_method_69_code 334 = .ok (.iload_n 2, 1) := by decide +kernel
theorem d_M_one_335 : decode prog_9_method_69_code 335 = .ok (.iaload, 1) := by decide +kernel
theorem d_M_one_336 : decode prog_9_method_69_code 336 = .ok (.invokevirtual 188, 3) := by decide +kernel
theorem d_M_one_339 : decode prog_9_method_69_code 339 = .ok (.aload_n 0, 1) := by decide +kernel
theorem d_M_one_340 : decode prog_9_method_69_code 340 = .ok (.getfield 7, 3) := by decide +kernel
theorem d_M_one_343 : decode prog_9_method_69_code 343 = .ok (.iload_n 2, 1) := by decide +kernel
theorem d_M_one_344 : decode prog_9_method_69_code 344 = .ok (.iaload, 1) := by decide +kernel
theorem d_M_one_345 : decode prog_9_method_69_code 345 = .ok (.iconst 2, 1) := by decide +kernel
theorem d_M_one_346 : decode prog_9_method_69_code 346 = .ok (.if_icmp .le 10, 3) := by decide +kernel
theorem d_M_one_349 : decode prog_9_method_69_code 349 = .ok (.aload_n 0, 1) := by decide +kernel
theorem d_M_one_350 : decode prog_9_method_69_code 350 = .ok (.invokevirtual 111, 3) := by decide +kernel
theorem d_M_one_353 : decode prog_9_method_69_code 353 = .ok (.goto 5, 3) := by decide +kernel
theorem d_M_one_356 : decode prog_9_method_69_code 356 = .ok (.bipush (-4), 2) := by decide +kernel
theorem d_M_one_358 : decode prog_9_method_69_code 358 = .ok (.ireturn, 1) := by decide +kernel
theorem d_M_one_359 : decode prog_9_method_69_code 359 = .ok (.aload_n 0, 1) := by decide +kernel
theorem d_M_one_360 : decode prog_9_method_69_code 360 = .ok (.iconst 2, 1) := by decide +kernel
theorem d_M_one_361 : decode prog_9_method_69_code 361 = .ok (.aload_n 0, 1) := by decide +kernel
theorem d_M_one_362 : decode prog_9_method_69_code 362 = .ok (.getfield 7, 3) := by decide +kernel
theorem d_M_one_365 : decode prog_9_method_69_code 365 = .ok (.iload_n 2, 1) := by decide +kernel
theorem d_M_one_366 : decode prog_9_method_69_code 366 = .ok (.iaload, 1) := by decide +kernel
theorem d_M_one_367 : decode prog_9_method_69_code 367 = .ok (.bipush 7, 2) := by decide +kernel
theorem d_M_one_369 : decode prog_9_method_69_code 369 = .ok (.if_icmp .ne 12, 3) := by decide +kernel
theorem d_M_one_372 : decode prog_9_method_69_code 372 = .ok (.aload_n 0, 1) := by decide +kernel
theorem d_M_one_373 : decode prog_9_method_69_code 373 = .ok (.getfield 13, 3) := by decide +kernel
theorem d_M_one_376 : decode prog_9_method_69_code 376 = .ok (.iload_n 2, 1) := by decide +kernel
theorem d_M_one_377 : decode prog_9_method_69_code 377 = .ok (.iaload, 1) := by decide +kernel
theorem d_M_one_378 : decode prog_9_method_69_code 378 = .ok (.goto 71, 3) := by decide +kernel
theorem d_M_one_381 : decode prog_9_method_69_code 381 = .ok (.aload_n 0, 1) := by decide +kernel
theorem d_M_one_382 : decode prog_9_method_69_code 382 = .ok (.getfield 7, 3) := by decide +kernel
theorem d_M_one_385 : decode prog_9_method_69_code 385 = .ok (.iload_n 2, 1) := by decide +kernel
theorem d_M_one_386 : decode prog_9_method_69_code 386 = .ok (.iaload, 1) := by decide +kernel
theorem d_M_one_387 : decode prog_9_method_69_code 387 = .ok (.iconst 5, 1) := by decide +kernel
theorem d_M_one_388 : decode prog_9_method_69_code 388 = .ok (.if_icmp .ne 9, 3) := by decide +kernel
theorem d_M_one_391 : decode prog_9_method_69_code 391 = .ok (.sipush 1000, 3) := by decide +kernel
theorem d_M_one_394 : decode prog_9_method_69_code 394 = .ok (.goto 55, 3) := by decide +kernel
theorem d_M_one_397 : decode prog_9_method_69_code 397 = .ok (.aload_n 0, 1) := by decide +kernel
theorem d_M_one_398 : decode prog_9_method_69_code 398 = .ok (.getfield 7, 3) := by decide +kernel
theorem d_M_one_401 : decode prog_9_method_69_code 401 = .ok (.iload_n 2, 1) := by decide +kernel
theorem d_M_one_402 : decode prog_9_method_69_code 402 = .ok (.iaload, 1) := by decide +kernel
theorem d_M_one_403 : decode prog_9_method_69_code 403 = .ok (.bipush 6, 2) := by decide +kernel
theorem d_M_one_405 : decode prog_9_method_69_code 405 = .ok (.if_icmp .ne 9, 3) := by decide +kernel
theorem d_M_one_408 : decode prog_9_method_69_code 408 = .ok (.sipush 1001, 3) := by decide +kernel
theorem d_M_one_411 : decode prog_9_method_69_code 411 = .ok (.goto 38, 3) := by decide +kernel
theorem d_M_one_414 : decode prog_9_method_69_code 414 = .ok (.aload_n 0, 1) := by decide +kernel
theorem d_M_one_415 : decode prog_9_method_69_code 415 = .ok (.getfield 7, 3) := by decide +kernel
theorem d_M_one_418 : decode prog_9_method_69_code 418 = .ok (.iload_n 2, 1) := by decide +kernel
theorem d_M_one_419 : decode prog_9_method_69_code 419 = .ok (.iaload, 1) := by decide +kernel
theorem d_M_one_420 : decode prog_9_method_69_code 420 = .ok (.iconst 3, 1) := by decide +kernel
theorem d_M_one_421 : decode prog_9_method_69_code 421 = .ok (.if_icmp .ne 9, 3) := by decide +kernel
theorem d_M_one_424 : decode prog_9_method_69_code 424 = .ok (.sipush 1002, 3) := by decide +kernel
theorem d_M_one_427 : decode prog_9_method_69_code 427 = .ok (.goto 22, 3) := by decide +kernel
theorem d_M_one_430 : decode prog_9_method_69_code 430 = .ok (.aload_n 0, 1) := by decide +kernel
theorem d_M_one_431 : decode prog_9_method_69_code 431 = .ok (.getfield 7, 3) := by decide +kernel
theorem d_M_one_434 : decode prog_9_method_69_code 434 = .ok (.iload_n 2, 1) := by decide +kernel
theorem d_M_one_435 : decode prog_9_method_69_code 435 = .ok (.iaload, 1) := by decide +kernel
theorem d_M_one_436 : decode prog_9_method_69_code 436 = .ok (.iconst 4, 1) := by decide +kernel
theorem d_M_one_437 : decode prog_9_method_69_code 437 = .ok (.if_icmp .ne 9, 3) := by decide +kernel
theorem d_M_one_440 : decode prog_9_method_69_code 440 = .ok (.sipush 1003, 3) := by decide +kernel
theorem d_M_one_443 : decode prog_9_method_69_code 443 = .ok (.goto 6, 3) := by decide +kernel
theorem d_M_one_446 : decode prog_9_method_69_code 446 = .ok (.sipush 1004, 3) := by decide +kernel
theorem d_M_one_449 : decode prog_9_method_69_code 449 = .ok (.invokevirtual 103, 3) := by decide +kernel
theorem d_M_one_452 : decode prog_9_method_69_code 452 = .ok (.aload_n 0, 1) := by decide +kernel
theorem d_M_one_453 : decode prog_9_method_69_code 453 = .ok (.getfield 7, 3) := by decide +kernel
theorem d_M_one_456 : decode prog_9_method_69_code 456 = .ok (.iload_n 2, 1) := by decide +kernel
theorem d_M_one_457 : decode prog_9_method_69_code 457 = .ok (.iaload, 1) := by decide +kernel
theorem d_M_one_458 : decode prog_9_method_69_code 458 = .ok (.iconst 2, 1) := by decide +kernel
theorem d_M_one_459 : decode prog_9_method_69_code 459 = .ok (.if_icmp .le 10, 3) := by decide +kernel
theorem d_M_one_462 : decode prog_9_method_69_code 462 = .ok (.aload_n 0, 1) := by decide +kernel
theorem d_M_one_463 : decode prog_9_method_69_code 463 = .ok (.invokevirtual 111, 3) := by decide +kernel
theorem d_M_one_466 : decode prog_9_method_69_code 466 = .ok (.goto 5, 3) := by decide +kernel
theorem d_M_one_469 : decode prog_9_method_69_code 469 = .ok (.bipush (-4), 2) := by decide +kernel
theorem d_M_one_471 : decode prog_9_method_69_code 471 = .ok (.ireturn, 1) := by decide +kernel
theorem d_M_one_472 : decode prog_9_method_69_code 472 = .ok (.aload_n 0, 1) := by decide +kernel
theorem d_M_one_473 : decode prog_9_method_69_code 473 = .ok (.aload_n 0, 1) := by decide +kernel
theorem d_M_one_474 : decode prog_9_method_69_code 474 = .ok (.getfield 7, 3) := by decide +kernel
theorem d_M_one_477 : decode prog_9_method_69_code 477 = .ok (.iload_n 2, 1) := by decide +kernel
theorem d_M_one_478 : decode prog_9_method_69_code 478 = .ok (.iaload, 1) := by decide +kernel
theorem d_M_one_479 : decode prog_9_method_69_code 479 = .ok (.iconst 2, 1) := by decide +kernel
theorem d_M_one_480 : decode prog_9_method_69_code 480 = .ok (.if_icmp .ne 7, 3) := by decide +kernel
theorem d_M_one_483 : decode prog_9_method_69_code 483 = .ok (.iconst 1, 1) := by decide +kernel
theorem d_M_one_484 : decode prog_9_method_69_code 484 = .ok (.goto 4, 3) := by decide +kernel
theorem d_M_one_487 : decode prog_9_method_69_code 487 = .ok (.iconst 0, 1) := by decide +kernel
theorem d_M_one_488 : decode prog_9_method_69_code 488 = .ok (.invokevirtual 185, 3) := by decide +kernel
theorem d_M_one_491 : decode prog_9_method_69_code 491 = .ok (.ireturn, 1) := by decide +kernel
theorem d_M_one_492 : decode prog_9_method_69_code 492 = .ok (.aload_n 0, 1) := by decide +kernel
theorem d_M_one_493 : decode prog_9_method_69_code 493 = .ok (.aload_n 0, 1) := by decide +kernel
theorem d_M_one_494 : decode prog_9_method_69_code 494 = .ok (.getfield 7, 3) := by decide +kernel
theorem d_M_one_497 : decode prog_9_method_69_code 497 = .ok (.iload_n 2, 1) := by decide +kernel
theorem d_M_one_498 : decode prog_9_method_69_code 498 = .ok (.iaload, 1) := by decide +kernel
theorem d_M_one_499 : decode prog_9_method_69_code 499 = .ok (.iconst 1, 1) := by decide +kernel
theorem d_M_one_500 : decode prog_9_method_69_code 500 = .ok (.if_icmp .ne 7, 3) := by decide +kernel
theorem d_M_one_503 : decode prog_9_method_69_code 503 = .ok (.iconst 1, 1) := by decide +kernel
theorem d_M_one_504 : decode prog_9_method_69_code 504 = .ok (.goto 4, 3) := by decide +kernel
theorem d_M_one_507 : decode prog_9_method_69_code 507 = .ok (.iconst 0, 1) := by decide +kernel
theorem d_M_one_508 : decode prog_9_method_69_code 508 = .ok (.invokevirtual 185, 3) := by decide +kernel
theorem d_M_one_511 : decode prog_9_method_69_code 511 = .ok (.ireturn, 1) := by decide +kernel
theorem d_M_one_512 : decode prog_9_method_69_code 512 = .ok (.aload_n 0, 1) := by decide +kernel
theorem d_M_one_513 : decode prog_9_method_69_code 513 = .ok (.aload_n 0, 1) := by decide +kernel
theorem d_M_one_514 : decode prog_9_method_69_code 514 = .ok (.getfield 7, 3) := by decide +kernel
theorem d_M_one_517 : decode prog_9_method_69_code 517 = .ok (.iload_n 2, 1) := by decide +kernel
theorem d_M_one_518 : decode prog_9_method_69_code 518 = .ok (.iaload, 1) := by decide +kernel
theorem d_M_one_519 : decode prog_9_method_69_code 519 = .ok (.iconst 2, 1) := by decide +kernel
theorem d_M_one_520 : decode prog_9_method_69_code 520 = .ok (.if_icmp .le 7, 3) := by decide +kernel
theorem d_M_one_523 : decode prog_9_method_69_code 523 = .ok (.iconst 1, 1) := by decide +kernel
theorem d_M_one_524 : decode prog_9_method_69_code 524 = .ok (.goto 4, 3) := by decide +kernel
theorem d_M_one_527 : decode prog_9_method_69_code 527 = .ok (.iconst 0, 1) := by decide +kernel
theorem d_M_one_528 : decode prog_9_method_69_code 528 = .ok (.invokevirtual 185, 3) := by decide +kernel
theorem d_M_one_531 : decode prog_9_method_69_code 531 = .ok (.ireturn, 1) := by decide +kernel
theorem d_M_one_532 : decode prog_9_method_69_code 532 = .ok (.aload_n 0, 1) := by decide +kernel
theorem d_M_one_533 : decode prog_9_method_69_code 533 = .ok (.aload_n 0, 1) := by decide +kernel
theorem d_M_one_534 : decode prog_9_method_69_code 534 = .ok (.iload_n 2, 1) := by decide +kernel
theorem d_M_one_535 : decode prog_9_method_69_code 535 = .ok (.invokevirtual 168, 3) := by decide +kernel
theorem d_M_one_538 : decode prog_9_method_69_code 538 = .ok (.invokevirtual 185, 3) := by decide +kernel
theorem d_M_one_541 : decode prog_9_method_69_code 541 = .ok (.ireturn, 1) := by decide +kernel
def m_M_one_200 (G : Nat → Nat) (s0 : Int32) (h : hp_H) : Option (Int32 × hp_H) := some (s0, h)
set_option maxRecDepth 100000 in
set_option maxHeartbeats 4000000 in
theorem j_M_one_200 {Z : hp_Z} (s0 : Int32) (h : hp_H) : hp_J Y_M_one Z hp_rI h 200 [] [.int s0] (m_M_one_200 (hp_G Z)  s0 h) := by
  unfold m_M_one_200
  exact hp_iret d_M_one_200 rfl
def m_M_one_233 (G : Nat → Nat) (s0 : Int32) (h : hp_H) : Option (Int32 × hp_H) := some (s0, h)
set_option maxRecDepth 100000 in
set_option maxHeartbeats 4000000 in
theorem j_M_one_233 {Z : hp_Z} (s0 : Int32) (h : hp_H) : hp_J Y_M_one Z hp_rI h 233 [] [.int s0] (m_M_one_233 (hp_G Z)  s0 h) := by
  unfold m_M_one_233
  exact hp_iret d_M_one_233 rfl
def m_M_one_225 (G : Nat → Nat) (s0 : Int32) (s1 : Int32) (s2 : Nat) (h : hp_H) : Option (Int32 × hp_H) := (hp_vck h s2 8 (m_M_turned G s2 s1 s0 h)).bind fun q1 => m_M_one_233 G q1.1 q1.2
set_option maxRecDepth 100000 in
set_option maxHeartbeats 4000000 in
theorem j_M_one_225 {Z : hp_Z} (s0 : Int32) (s1 : Int32) (s2 : Nat) (h : hp_H) : hp_J Y_M_one Z hp_rI h 225 [] [.int s0, .int s1, .ref s2] (m_M_one_225 (hp_G Z)  s0 s1 s2 h) := by
  unfold m_M_one_225
  refine hp_callI (hp_crV (ci := 8) (t_M_turned _ _ _ _ _) cw_M_280 rfl ⟨w_1208, ws_77⟩ (by decide) rfl rfl (Nat.le_of_ble_eq_true rfl) d_M_one_225) fun q1 => ?_
  refine hp_goto (tgt := 233) d_M_one_228 (by decide) ?_
  exact j_M_one_233  _ _
def m_M_one_253 (G : Nat → Nat) (s0 : Int32) (h : hp_H) : Option (Int32 × hp_H) := some (s0, h)
set_option maxRecDepth 100000 in
set_option maxHeartbeats 4000000 in
theorem j_M_one_253 {Z : hp_Z} (s0 : Int32) (h : hp_H) : hp_J Y_M_one Z hp_rI h 253 [] [.int s0] (m_M_one_253 (hp_G Z)  s0 h) := by
  unfold m_M_one_253
  exact hp_iret d_M_one_253 rfl
def m_M_one_280 (G : Nat → Nat) (s0 : Int32) (h : hp_H) : Option (Int32 × hp_H) := some (s0, h)
set_option maxRecDepth 100000 in
set_option maxHeartbeats 4000000 in
theorem j_M_one_280 {Z : hp_Z} (s0 : Int32) (h : hp_H) : hp_J Y_M_one Z hp_rI h 280 [] [.int s0] (m_M_one_280 (hp_G Z)  s0 h) := by
  unfold m_M_one_280
  exact hp_iret d_M_one_280 rfl
def m_M_one_311 (G : Nat → Nat) (s0 : Int32) (h : hp_H) : Option (Int32 × hp_H) := some (s0, h)
set_option maxRecDepth 100000 in
set_option maxHeartbeats 4000000 in
theorem j_M_one_311 {Z : hp_Z} (s0 : Int32) (h : hp_H) : hp_J Y_M_one Z hp_rI h 311 [] [.int s0] (m_M_one_311 (hp_G Z)  s0 h) := by
  unfold m_M_one_311
  exact hp_iret d_M_one_311 rfl
def m_M_one_358 (G : Nat → Nat) (s0 : Int32) (h : hp_H) : Option (Int32 × hp_H) := some (s0, h)
set_option maxRecDepth 100000 in
set_option maxHeartbeats 4000000 in
theorem j_M_one_358 {Z : hp_Z} (s0 : Int32) (h : hp_H) : hp_J Y_M_one Z hp_rI h 358 [] [.int s0] (m_M_one_358 (hp_G Z)  s0 h) := by
  unfold m_M_one_358
  exact hp_iret d_M_one_358 rfl
def m_M_one_339 (G : Nat → Nat) (a0 : Nat) (a2 : Int32) (h : hp_H) : Option (Int32 × hp_H) := (hp_gR h a0 8 1).bind fun x1 => (hp_aI h .int x1 a2).bind fun x2 => if x2 ≤ (2 : Int32) then (m_M_one_358 G (-4 : Int32) h) else ((hp_vck h a0 8 (m_M_keep G a0 h)).bind fun q3 => m_M_one_358 G q3.1 q3.2)
set_option maxRecDepth 100000 in
set_option maxHeartbeats 4000000 in
theorem j_M_one_339 {Z : hp_Z} (a0 : Nat) (a2 : Int32) (h : hp_H) : hp_J Y_M_one Z hp_rI h 339 [(0, .ref a0), (2, .int a2)] [] (m_M_one_339 (hp_G Z)  a0 a2 h) := by
  unfold m_M_one_339
  refine hp_aload_n (x0 := 0) d_M_one_339 rfl rfl ?_
  refine hp_getR fl_M_7 d_M_one_340 fun x1 => ?_
  refine hp_iload_n (x0 := 1) d_M_one_343 rfl rfl ?_
  refine hp_iald d_M_one_344 fun x2 => ?_
  refine hp_iconst (v := 2) d_M_one_345 (by decide) ?_
  refine hp_icmp_le (tgt := 356) d_M_one_346 (by decide) ?_ ?_
  · refine hp_bipush (v := -4) d_M_one_356 (by decide) ?_
    refine hp_sub [] rfl ?_
    exact j_M_one_358  _ _
  · refine hp_aload_n (x0 := 0) d_M_one_349 rfl rfl ?_
    refine hp_callI (hp_crV (ci := 8) (t_M_keep _ _ _) cw_M_111 rfl ⟨w_992, ws_41⟩ (by decide) rfl rfl (Nat.le_of_ble_eq_true rfl) d_M_one_350) fun q3 => ?_
    refine hp_goto (tgt := 358) d_M_one_353 (by decide) ?_
    refine hp_sub [] rfl ?_
    exact j_M_one_358  _ _
def m_M_one_471 (G : Nat → Nat) (s0 : Int32) (h : hp_H) : Option (Int32 × hp_H) := some (s0, h)
set_option maxRecDepth 100000 in
set_option maxHeartbeats 4000000 in
theorem j_M_one_471 {Z : hp_Z} (s0 : Int32) (h : hp_H) : hp_J Y_M_one Z hp_rI h 471 [] [.int s0] (m_M_one_471 (hp_G Z)  s0 h) := by
  unfold m_M_one_471
  exact hp_iret d_M_one_471 rfl
def m_M_one_449 (G : Nat → Nat) (a0 : Nat) (a2 : Int32) (s0 : Int32) (s1 : Int32) (s2 : Nat) (h : hp_H) : Option (Int32 × hp_H) := (hp_vck h s2 8 (m_M_start G s2 s1 s0 h)).bind fun q1 => (hp_gR q1.2 a0 8 1).bind fun x2 => (hp_aI q1.2 .int x2 a2).bind fun x3 => if x3 ≤ (2 : Int32) then (m_M_one_471 G (-4 : Int32) q1.2) else ((hp_vck q1.2 a0 8 (m_M_keep G a0 q1.2)).bind fun q4 => m_M_one_471 G q4.1 q4.2)
set_option maxRecDepth 100000 in
set_option maxHeartbeats 4000000 in
theorem j_M_one_449 {Z : hp_Z} (a0 : Nat) (a2 : Int32) (s0 : Int32) (s1 : Int32) (s2 : Nat) (h : hp_H) : hp_J Y_M_one Z hp_rI h 449 [(0, .ref a0), (2, .int a2)] [.int s0, .int s1, .ref s2] (m_M_one_449 (hp_G Z)  a0 a2 s0 s1 s2 h) := by
  unfold m_M_one_449
  refine hp_callU (hp_crV (ci := 8) (t_M_start _ _ _ _ _) cw_M_103 rfl ⟨w_985, ws_40⟩ (by decide) rfl rfl (Nat.le_of_ble_eq_true rfl) d_M_one_449) fun q1 => ?_
  refine hp_aload_n (x0 := 0) d_M_one_452 rfl rfl ?_
  refine hp_getR fl_M_7 d_M_one_453 fun x2 => ?_
  refine hp_iload_n (x0 := 1) d_M_one_456 rfl rfl ?_
  refine hp_iald d_M_one_457 fun x3 => ?_
  refine hp_iconst (v := 2) d_M_one_458 (by decide) ?_
  refine hp_icmp_le (tgt := 469) d_M_one_459 (by decide) ?_ ?_
  · refine hp_bipush (v := -4) d_M_one_469 (by decide) ?_
    refine hp_sub [] rfl ?_
    exact j_M_one_471  _ _
  · refine hp_aload_n (x0 := 0) d_M_one_462 rfl rfl ?_
    refine hp_callI (hp_crV (ci := 8) (t_M_keep _ _ _) cw_M_111 rfl ⟨w_992, ws_41⟩ (by decide) rfl rfl (Nat.le_of_ble_eq_true rfl) d_M_one_463) fun q4 => ?_
    refine hp_goto (tgt := 471) d_M_one_466 (by decide) ?_
    refine hp_sub [] rfl ?_
    exact j_M_one_471  _ _
def m_M_one_488 (G : Nat → Nat) (s0 : Int32) (s1 : Nat) (h : hp_H) : Option (Int32 × hp_H) := (hp_vck h s1 8 (m_M_truth G s1 s0 h)).bind fun q1 => some (q1.1, q1.2)
set_option maxRecDepth 100000 in
set_option maxHeartbeats 4000000 in
theorem j_M_one_488 {Z : hp_Z} (s0 : Int32) (s1 : Nat) (h : hp_H) : hp_J Y_M_one Z hp_rI h 488 [] [.int s0, .ref s1] (m_M_one_488 (hp_G Z)  s0 s1 h) := by
  unfold m_M_one_488
  refine hp_callI (hp_crV (ci := 8) (t_M_truth _ _ _ _) cw_M_185 rfl ⟨w_1003, w_1004⟩ (by decide) rfl rfl (Nat.le_of_ble_eq_true rfl) d_M_one_488) fun q1 => ?_
  exact hp_iret d_M_one_491 rfl
def m_M_one_508 (G : Nat → Nat) (s0 : Int32) (s1 : Nat) (h : hp_H) : Option (Int32 × hp_H) := (hp_vck h s1 8 (m_M_truth G s1 s0 h)).bind fun q1 => some (q1.1, q1.2)
set_option maxRecDepth 100000 in
set_option maxHeartbeats 4000000 in
theorem j_M_one_508 {Z : hp_Z} (s0 : Int32) (s1 : Nat) (h : hp_H) : hp_J Y_M_one Z hp_rI h 508 [] [.int s0, .ref s1] (m_M_one_508 (hp_G Z)  s0 s1 h) := by
  unfold m_M_one_508
  refine hp_callI (hp_crV (ci := 8) (t_M_truth _ _ _ _) cw_M_185 rfl ⟨w_1003, w_1004⟩ (by decide) rfl rfl (Nat.le_of_ble_eq_true rfl) d_M_one_508) fun q1 => ?_
  exact hp_iret d_M_one_511 rfl
def m_M_one_528 (G : Nat → Nat) (s0 : Int32) (s1 : Nat) (h : hp_H) : Option (Int32 × hp_H) := (hp_vck h s1 8 (m_M_truth G s1 s0 h)).bind fun q1 => some (q1.1, q1.2)
set_option maxRecDepth 100000 in
set_option maxHeartbeats 4000000 in
theorem j_M_one_528 {Z : hp_Z} (s0 : Int32) (s1 : Nat) (h : hp_H) : hp_J Y_M_one Z hp_rI h 528 [] [.int s0, .ref s1] (m_M_one_528 (hp_G Z)  s0 s1 h) := by
  unfold m_M_one_528
  refine hp_callI (hp_crV (ci := 8) (t_M_truth _ _ _ _) cw_M_185 rfl ⟨w_1003, w_1004⟩ (by decide) rfl rfl (Nat.le_of_ble_eq_true rfl) d_M_one_528) fun q1 => ?_
  exact hp_iret d_M_one_531 rfl
def m_M_one (G : Nat → Nat) (a0 : Nat) (a1 : Int32) (a2 : Int32) (h : hp_H) : Option (Int32 × hp_H) := if a1 = 3 then ((hp_vck h a0 8 (m_M_truthOf G a0 a2 h)).bind fun q1 => (m_M_not G q1.1 q1.2).bind fun q2 => (hp_vck q2.2 a0 8 (m_M_given G a0 q2.1 q2.2)).bind fun q3 => some (q3.1, q3.2)) else (if a1 = 4 then ((hp_vck h a0 8 (m_M_isNumber G a0 a2 h)).bind fun q4 => (hp_vck q4.2 a0 8 (m_M_truth G a0 q4.1 q4.2)).bind fun q5 => some (q5.1, q5.2)) else (if a1 = 5 then ((hp_vck h a0 8 (m_M_isNumber G a0 a2 h)).bind fun q6 => (hp_vck q6.2 a0 8 (m_M_truth G a0 q6.1 q6.2)).bind fun q7 => some (q7.1, q7.2)) else (if a1 = 6 then ((hp_vck h a0 8 (m_M_isNumber G a0 a2 h)).bind fun q8 => (hp_vck q8.2 a0 8 (m_M_truth G a0 q8.1 q8.2)).bind fun q9 => some (q9.1, q9.2)) else (if a1 = 7 then ((hp_vck h a0 8 (m_M_isNumber G a0 a2 h)).bind fun q10 => (hp_vck q10.2 a0 8 (m_M_truth G a0 q10.1 q10.2)).bind fun q11 => some (q11.1, q11.2)) else (if a1 = 8 then ((hp_vck h a0 8 (m_M_isNumber G a0 a2 h)).bind fun q12 => (hp_vck q12.2 a0 8 (m_M_truth G a0 q12.1 q12.2)).bind fun q13 => some (q13.1, q13.2)) else (if a1 = 9 then ((hp_vck h a0 8 (m_M_isNumber G a0 a2 h)).bind fun q14 => (hp_vck q14.2 a0 8 (m_M_truth G a0 q14.1 q14.2)).bind fun q15 => some (q15.1, q15.2)) else (if a1 = 10 then ((hp_vck h a0 8 (m_M_isNumber G a0 a2 h)).bind fun q16 => (hp_vck q16.2 a0 8 (m_M_truth G a0 q16.1 q16.2)).bind fun q17 => some (q17.1, q17.2)) else (if a1 = 11 then ((hp_vck h a0 8 (m_M_isNumber G a0 a2 h)).bind fun q18 => (hp_vck q18.2 a0 8 (m_M_truth G a0 q18.1 q18.2)).bind fun q19 => some (q19.1, q19.2)) else (if a1 = 12 then ((hp_vck h a0 8 (m_M_isNumber G a0 a2 h)).bind fun q20 => (hp_vck q20.2 a0 8 (m_M_truth G a0 q20.1 q20.2)).bind fun q21 => some (q21.1, q21.2)) else (if a1 = 13 then ((hp_vck h a0 8 (m_M_isNumber G a0 a2 h)).bind fun q22 => (hp_vck q22.2 a0 8 (m_M_truth G a0 q22.1 q22.2)).bind fun q23 => some (q23.1, q23.2)) else (if a1 = 14 then ((hp_vck h a0 8 (m_M_isNumber G a0 a2 h)).bind fun q24 => (hp_vck q24.2 a0 8 (m_M_truth G a0 q24.1 q24.2)).bind fun q25 => some (q25.1, q25.2)) else (if a1 = 15 then ((hp_vck h a0 8 (m_M_isNumber G a0 a2 h)).bind fun q26 => (hp_vck q26.2 a0 8 (m_M_truth G a0 q26.1 q26.2)).bind fun q27 => some (q27.1, q27.2)) else (if a1 = 16 then ((hp_vck h a0 8 (m_M_isNumber G a0 a2 h)).bind fun q28 => (hp_vck q28.2 a0 8 (m_M_truth G a0 q28.1 q28.2)).bind fun q29 => some (q29.1, q29.2)) else (if a1 = 17 then ((hp_vck h a0 8 (m_M_isNumber G a0 a2 h)).bind fun q30 => if q30.1 = 0 then (m_M_one_200 G (-4 : Int32) q30.2) else ((hp_vck q30.2 a0 8 (m_M_turned G a0 a2 (1 : Int32) q30.2)).bind fun q31 => m_M_one_200 G q31.1 q31.2)) else (if a1 = 18 then ((hp_vck h a0 8 (m_M_isNumber G a0 a2 h)).bind fun q32 => if q32.1 = 0 then (m_M_one_233 G (-4 : Int32) q32.2) else ((hp_gR q32.2 a0 8 3).bind fun x33 => (hp_aI q32.2 .int x33 a2).bind fun x34 => if 0 ≤ x34 then (m_M_one_225 G (0 : Int32) a2 a0 q32.2) else (m_M_one_225 G (1 : Int32) a2 a0 q32.2))) else (if a1 = 19 then ((hp_vck h a0 8 (m_M_isNumber G a0 a2 h)).bind fun q35 => if q35.1 = 0 then (m_M_one_253 G (-4 : Int32) q35.2) else ((hp_vck q35.2 a0 8 (m_M_wholeOf G a0 a2 a1 q35.2)).bind fun q36 => m_M_one_253 G q36.1 q36.2)) else (if a1 = 20 then ((hp_vck h a0 8 (m_M_isNumber G a0 a2 h)).bind fun q37 => if q37.1 = 0 then (m_M_one_253 G (-4 : Int32) q37.2) else ((hp_vck q37.2 a0 8 (m_M_wholeOf G a0 a2 a1 q37.2)).bind fun q38 => m_M_one_253 G q38.1 q38.2)) else (if a1 = 21 then ((hp_vck h a0 8 (m_M_isNumber G a0 a2 h)).bind fun q39 => if q39.1 = 0 then (m_M_one_253 G (-4 : Int32) q39.2) else ((hp_vck q39.2 a0 8 (m_M_wholeOf G a0 a2 a1 q39.2)).bind fun q40 => m_M_one_253 G q40.1 q40.2)) else (if a1 = 22 then ((hp_vck h a0 8 (m_M_isNumber G a0 a2 h)).bind fun q41 => (hp_vck q41.2 a0 8 (m_M_truth G a0 q41.1 q41.2)).bind fun q42 => some (q42.1, q42.2)) else (if a1 = 23 then ((hp_vck h a0 8 (m_M_isNumber G a0 a2 h)).bind fun q43 => (hp_vck q43.2 a0 8 (m_M_truth G a0 q43.1 q43.2)).bind fun q44 => some (q44.1, q44.2)) else (if a1 = 24 then ((hp_vck h a0 8 (m_M_isNumber G a0 a2 h)).bind fun q45 => (hp_vck q45.2 a0 8 (m_M_truth G a0 q45.1 q45.2)).bind fun q46 => some (q46.1, q46.2)) else (if a1 = 25 then ((hp_vck h a0 8 (m_M_isPlain G a0 a2 h)).bind fun q47 => if q47.1 = 0 then (m_M_one_280 G (-4 : Int32) q47.2) else ((hp_gR q47.2 a0 8 6).bind fun x48 => (hp_aI q47.2 .int x48 a2).bind fun x49 => (hp_vck q47.2 a0 8 (m_M_numbered G a0 x49.toInt64 (0 : Int32) (1 : Int32) q47.2)).bind fun q50 => m_M_one_280 G q50.1 q50.2)) else (if a1 = 26 then ((hp_vck h a0 8 (m_M_isNumber G a0 a2 h)).bind fun q51 => (hp_vck q51.2 a0 8 (m_M_truth G a0 q51.1 q51.2)).bind fun q52 => some (q52.1, q52.2)) else (if a1 = 27 then ((hp_vck h a0 8 (m_M_cased G a0 a2 a1 h)).bind fun q53 => some (q53.1, q53.2)) else (if a1 = 28 then ((hp_vck h a0 8 (m_M_cased G a0 a2 a1 h)).bind fun q54 => some (q54.1, q54.2)) else (if a1 = 29 then ((hp_vck h a0 8 (m_M_isNumber G a0 a2 h)).bind fun q55 => (hp_vck q55.2 a0 8 (m_M_truth G a0 q55.1 q55.2)).bind fun q56 => some (q56.1, q56.2)) else (if a1 = 30 then ((hp_vck h a0 8 (m_M_isNumber G a0 a2 h)).bind fun q57 => (hp_vck q57.2 a0 8 (m_M_truth G a0 q57.1 q57.2)).bind fun q58 => some (q58.1, q58.2)) else (if a1 = 31 then ((hp_vck h a0 8 (m_M_isNumber G a0 a2 h)).bind fun q59 => (hp_vck q59.2 a0 8 (m_M_truth G a0 q59.1 q59.2)).bind fun q60 => some (q60.1, q60.2)) else (if a1 = 32 then ((hp_vck h a0 8 (m_M_isNumber G a0 a2 h)).bind fun q61 => (hp_vck q61.2 a0 8 (m_M_truth G a0 q61.1 q61.2)).bind fun q62 => some (q62.1, q62.2)) else (if a1 = 33 then ((hp_vck h a0 8 (m_M_isNumber G a0 a2 h)).bind fun q63 => (hp_vck q63.2 a0 8 (m_M_truth G a0 q63.1 q63.2)).bind fun q64 => some (q64.1, q64.2)) else (if a1 = 34 then ((hp_vck h a0 8 (m_M_isNumber G a0 a2 h)).bind fun q65 => (hp_vck q65.2 a0 8 (m_M_truth G a0 q65.1 q65.2)).bind fun q66 => some (q66.1, q66.2)) else (if a1 = 35 then ((hp_vck h a0 8 (m_M_start G a0 (5 : Int32) (0 : Int32) h)).bind fun q67 => (hp_vck q67.2 a0 8 (m_M_string G a0 a2 q67.2)).bind fun q68 => if q68.1 = 0 then (m_M_one_311 G (-4 : Int32) q68.2) else ((hp_vck q68.2 a0 8 (m_M_keep G a0 q68.2)).bind fun q69 => m_M_one_311 G q69.1 q69.2)) else (if a1 = 36 then ((hp_vck h a0 8 (m_M_start G a0 (5 : Int32) (0 : Int32) h)).bind fun q70 => (hp_gR q70.2 a0 8 1).bind fun x71 => (hp_aI q70.2 .int x71 a2).bind fun x72 => if x72 = (6 : Int32) then ((hp_gR q70.2 a0 8 2).bind fun x73 => (hp_aI q70.2 .int x73 a2).bind fun x74 => (hp_vck q70.2 a0 8 (m_M_digitsOf G a0 x74 q70.2)).bind fun q75 => m_M_one_339 G a0 a2 q75.2) else (m_M_one_339 G a0 a2 q70.2)) else (if a1 = 37 then ((hp_gR h a0 8 1).bind fun x76 => (hp_aI h .int x76 a2).bind fun x77 => if x77 = (7 : Int32) then ((hp_gR h a0 8 2).bind fun x86 => (hp_aI h .int x86 a2).bind fun x87 => m_M_one_449 G a0 a2 x87 (2 : Int32) a0 h) else ((hp_gR h a0 8 1).bind fun x78 => (hp_aI h .int x78 a2).bind fun x79 => if x79 = (5 : Int32) then (m_M_one_449 G a0 a2 (1000 : Int32) (2 : Int32) a0 h) else ((hp_gR h a0 8 1).bind fun x80 => (hp_aI h .int x80 a2).bind fun x81 => if x81 = (6 : Int32) then (m_M_one_449 G a0 a2 (1001 : Int32) (2 : Int32) a0 h) else ((hp_gR h a0 8 1).bind fun x82 => (hp_aI h .int x82 a2).bind fun x83 => if x83 = (3 : Int32) then (m_M_one_449 G a0 a2 (1002 : Int32) (2 : Int32) a0 h) else ((hp_gR h a0 8 1).bind fun x84 => (hp_aI h .int x84 a2).bind fun x85 => if x85 = (4 : Int32) then (m_M_one_449 G a0 a2 (1003 : Int32) (2 : Int32) a0 h) else (m_M_one_449 G a0 a2 (1004 : Int32) (2 : Int32) a0 h)))))) else (if a1 = 38 then ((hp_gR h a0 8 1).bind fun x88 => (hp_aI h .int x88 a2).bind fun x89 => if x89 = (2 : Int32) then (m_M_one_488 G (1 : Int32) a0 h) else (m_M_one_488 G (0 : Int32) a0 h)) else (if a1 = 39 then ((hp_gR h a0 8 1).bind fun x90 => (hp_aI h .int x90 a2).bind fun x91 => if x91 = (1 : Int32) then (m_M_one_508 G (1 : Int32) a0 h) else (m_M_one_508 G (0 : Int32) a0 h)) else (if a1 = 40 then ((hp_gR h a0 8 1).bind fun x92 => (hp_aI h .int x92 a2).bind fun x93 => if x93 ≤ (2 : Int32) then (m_M_one_528 G (0 : Int32) a0 h) else (m_M_one_528 G (1 : Int32) a0 h)) else ((hp_vck h a0 8 (m_M_isNumber G a0 a2 h)).bind fun q94 => (hp_vck q94.2 a0 8 (m_M_truth G a0 q94.1 q94.2)).bind fun q95 => some (q95.1, q95.2)))))))))))))))))))))))))))))))))))))))
set_option maxRecDepth 100000 in
set_option maxHeartbeats 4000000 in
theorem j_M_one_0 {Z : hp_Z} (a0 : Nat) (a1 : Int32) (a2 : Int32) (h : hp_H) : hp_J Y_M_one Z hp_rI h 0 [(0, .ref a0), (1, .int a1), (2, .int a2)] [] (m_M_one (hp_G Z)  a0 a1 a2 h) := by
  unfold m_M_one
  refine hp_iload_n (x0 := 1) d_M_one_0 rfl rfl ?_
  refine hp_ite (fun c0 => ?_) (fun c0 => ?_)
  · refine hp_tabI (tgt := 168) (kv := 3) d_M_one_1 c0 (by decide) (by decide) rfl (by decide) ?_
    refine hp_aload_n (x0 := 0) d_M_one_168 rfl rfl ?_
    refine hp_aload_n (x0 := 0) d_M_one_169 rfl rfl ?_
    refine hp_iload_n (x0 := 2) d_M_one_170 rfl rfl ?_
    refine hp_callI (hp_crV (ci := 8) (t_M_truthOf _ _ _ _) cw_M_244 rfl ⟨w_1112, ws_57⟩ (by decide) rfl rfl (Nat.le_of_ble_eq_true rfl) d_M_one_171) fun q1 => ?_
    refine hp_callI (hp_crS (t_M_not _ _ _) cw_M_262 w_1151 (by decide) rfl rfl (Nat.le_of_ble_eq_true rfl) d_M_one_174) fun q2 => ?_
    refine hp_callI (hp_crV (ci := 8) (t_M_given _ _ _ _) cw_M_247 rfl ⟨w_1119, ws_58⟩ (by decide) rfl rfl (Nat.le_of_ble_eq_true rfl) d_M_one_177) fun q3 => ?_
    exact hp_iret d_M_one_180 rfl
  · skip
    refine hp_ite (fun c1 => ?_) (fun c1 => ?_)
    · refine hp_tabI (tgt := 532) (kv := 4) d_M_one_1 c1 (by decide) (by decide) rfl (by decide) ?_
      refine hp_aload_n (x0 := 0) d_M_one_532 rfl rfl ?_
      refine hp_aload_n (x0 := 0) d_M_one_533 rfl rfl ?_
      refine hp_iload_n (x0 := 2) d_M_one_534 rfl rfl ?_
      refine hp_callI (hp_crV (ci := 8) (t_M_isNumber _ _ _ _) cw_M_168 rfl ⟨w_1052, ws_47⟩ (by decide) rfl rfl (Nat.le_of_ble_eq_true rfl) d_M_one_535) fun q4 => ?_
      refine hp_callI (hp_crV (ci := 8) (t_M_truth _ _ _ _) cw_M_185 rfl ⟨w_1003, w_1004⟩ (by decide) rfl rfl (Nat.le_of_ble_eq_true rfl) d_M_one_538) fun q5 => ?_
      exact hp_iret d_M_one_541 rfl
    · skip
      refine hp_ite (fun c2 => ?_) (fun c2 => ?_)
      · refine hp_tabI (tgt := 532) (kv := 5) d_M_one_1 c2 (by decide) (by decide) rfl (by decide) ?_
        refine hp_aload_n (x0 := 0) d_M_one_532 rfl rfl ?_
        refine hp_aload_n (x0 := 0) d_M_one_533 rfl rfl ?_
        refine hp_iload_n (x0 := 2) d_M_one_534 rfl rfl ?_
        refine hp_callI (hp_crV (ci := 8) (t_M_isNumber _ _ _ _) cw_M_168 rfl ⟨w_1052, ws_47⟩ (by decide) rfl rfl (Nat.le_of_ble_eq_true rfl) d_M_one_535) fun q6 => ?_
        refine hp_callI (hp_crV (ci := 8) (t_M_truth _ _ _ _) cw_M_185 rfl ⟨w_1003, w_1004⟩ (by decide) rfl rfl (Nat.le_of_ble_eq_true rfl) d_M_one_538) fun q7 => ?_
        exact hp_iret d_M_one_541 rfl
      · skip
        refine hp_ite (fun c3 => ?_) (fun c3 => ?_)
        · refine hp_tabI (tgt := 532) (kv := 6) d_M_one_1 c3 (by decide) (by decide) rfl (by decide) ?_
          refine hp_aload_n (x0 := 0) d_M_one_532 rfl rfl ?_
          refine hp_aload_n (x0 := 0) d_M_one_533 rfl rfl ?_
          refine hp_iload_n (x0 := 2) d_M_one_534 rfl rfl ?_
          refine hp_callI (hp_crV (ci := 8) (t_M_isNumber _ _ _ _) cw_M_168 rfl ⟨w_1052, ws_47⟩ (by decide) rfl rfl (Nat.le_of_ble_eq_true rfl) d_M_one_535) fun q8 => ?_
          refine hp_callI (hp_crV (ci := 8) (t_M_truth _ _ _ _) cw_M_185 rfl ⟨w_1003, w_1004⟩ (by decide) rfl rfl (Nat.le_of_ble_eq_true rfl) d_M_one_538) fun q9 => ?_
          exact hp_iret d_M_one_541 rfl
        · skip
          refine hp_ite (fun c4 => ?_) (fun c4 => ?_)
          · refine hp_tabI (tgt := 532) (kv := 7) d_M_one_1 c4 (by decide) (by decide) rfl (by decide) ?_
            refine hp_aload_n (x0 := 0) d_M_one_532 rfl rfl ?_
            refine hp_aload_n (x0 := 0) d_M_one_533 rfl rfl ?_
            refine hp_iload_n (x0 := 2) d_M_one_534 rfl rfl ?_
            refine hp_callI (hp_crV (ci := 8) (t_M_isNumber _ _ _ _) cw_M_168 rfl ⟨w_1052, ws_47⟩ (by decide) rfl rfl (Nat.le_of_ble_eq_true rfl) d_M_one_535) fun q10 => ?_
            refine hp_callI (hp_crV (ci := 8) (t_M_truth _ _ _ _) cw_M_185 rfl ⟨w_1003, w_1004⟩ (by decide) rfl rfl (Nat.le_of_ble_eq_true rfl) d_M_one_538) fun q11 => ?_
            exact hp_iret d_M_one_541 rfl
          · skip
            refine hp_ite (fun c5 => ?_) (fun c5 => ?_)
            · refine hp_tabI (tgt := 532) (kv := 8) d_M_one_1 c5 (by decide) (by decide) rfl (by decide) ?_
              refine hp_aload_n (x0 := 0) d_M_one_532 rfl rfl ?_
              refine hp_aload_n (x0 := 0) d_M_one_533 rfl rfl ?_
              refine hp_iload_n (x0 := 2) d_M_one_534 rfl rfl ?_
              refine hp_callI (hp_crV (ci := 8) (t_M_isNumber _ _ _ _) cw_M_168 rfl ⟨w_1052, ws_47⟩ (by decide) rfl rfl (Nat.le_of_ble_eq_true rfl) d_M_one_535) fun q12 => ?_
              refine hp_callI (hp_crV (ci := 8) (t_M_truth _ _ _ _) cw_M_185 rfl ⟨w_1003, w_1004⟩ (by decide) rfl rfl (Nat.le_of_ble_eq_true rfl) d_M_one_538) fun q13 => ?_
              exact hp_iret d_M_one_541 rfl
            · skip
              refine hp_ite (fun c6 => ?_) (fun c6 => ?_)
              · refine hp_tabI (tgt := 532) (kv := 9) d_M_one_1 c6 (by decide) (by decide) rfl (by decide) ?_
                refine hp_aload_n (x0 := 0) d_M_one_532 rfl rfl ?_
                refine hp_aload_n (x0 := 0) d_M_one_533 rfl rfl ?_
                refine hp_iload_n (x0 := 2) d_M_one_534 rfl rfl ?_
                refine hp_callI (hp_crV (ci := 8) (t_M_isNumber _ _ _ _) cw_M_168 rfl ⟨w_1052, ws_47⟩ (by decide) rfl rfl (Nat.le_of_ble_eq_true rfl) d_M_one_535) fun q14 => ?_
                refine hp_callI (hp_crV (ci := 8) (t_M_truth _ _ _ _) cw_M_185 rfl ⟨w_1003, w_1004⟩ (by decide) rfl rfl (Nat.le_of_ble_eq_true rfl) d_M_one_538) fun q15 => ?_
                exact hp_iret d_M_one_541 rfl
              · skip
                refine hp_ite (fun c7 => ?_) (fun c7 => ?_)
                · refine hp_tabI (tgt := 532) (kv := 10) d_M_one_1 c7 (by decide) (by decide) rfl (by decide) ?_
                  refine hp_aload_n (x0 := 0) d_M_one_532 rfl rfl ?_
                  refine hp_aload_n (x0 := 0) d_M_one_533 rfl rfl ?_
                  refine hp_iload_n (x0 := 2) d_M_one_534 rfl rfl ?_
                  refine hp_callI (hp_crV (ci := 8) (t_M_isNumber _ _ _ _) cw_M_168 rfl ⟨w_1052, ws_47⟩ (by decide) rfl rfl (Nat.le_of_ble_eq_true rfl) d_M_one_535) fun q16 => ?_
                  refine hp_callI (hp_crV (ci := 8) (t_M_truth _ _ _ _) cw_M_185 rfl ⟨w_1003, w_1004⟩ (by decide) rfl rfl (Nat.le_of_ble_eq_true rfl) d_M_one_538) fun q17 => ?_
                  exact hp_iret d_M_one_541 rfl
                · skip
                  refine hp_ite (fun c8 => ?_) (fun c8 => ?_)
                  · refine hp_tabI (tgt := 532) (kv := 11) d_M_one_1 c8 (by decide) (by decide) rfl (by decide) ?_
                    refine hp_aload_n (x0 := 0) d_M_one_532 rfl rfl ?_
                    refine hp_aload_n (x0 := 0) d_M_one_533 rfl rfl ?_
                    refine hp_iload_n (x0 := 2) d_M_one_534 rfl rfl ?_
                    refine hp_callI (hp_crV (ci := 8) (t_M_isNumber _ _ _ _) cw_M_168 rfl ⟨w_1052, ws_47⟩ (by decide) rfl rfl (Nat.le_of_ble_eq_true rfl) d_M_one_535) fun q18 => ?_
                    refine hp_callI (hp_crV (ci := 8) (t_M_truth _ _ _ _) cw_M_185 rfl ⟨w_1003, w_1004⟩ (by decide) rfl rfl (Nat.le_of_ble_eq_true rfl) d_M_one_538) fun q19 => ?_
                    exact hp_iret d_M_one_541 rfl
                  · skip
                    refine hp_ite (fun c9 => ?_) (fun c9 => ?_)
                    · refine hp_tabI (tgt := 532) (kv := 12) d_M_one_1 c9 (by decide) (by decide) rfl (by decide) ?_
                      refine hp_aload_n (x0 := 0) d_M_one_532 rfl rfl ?_
                      refine hp_aload_n (x0 := 0) d_M_one_533 rfl rfl ?_
                      refine hp_iload_n (x0 := 2) d_M_one_534 rfl rfl ?_
                      refine hp_callI (hp_crV (ci := 8) (t_M_isNumber _ _ _ _) cw_M_168 rfl ⟨w_1052, ws_47⟩ (by decide) rfl rfl (Nat.le_of_ble_eq_true rfl) d_M_one_535) fun q20 => ?_
                      refine hp_callI (hp_crV (ci := 8) (t_M_truth _ _ _ _) cw_M_185 rfl ⟨w_1003, w_1004⟩ (by decide) rfl rfl (Nat.le_of_ble_eq_true rfl) d_M_one_538) fun q21 => ?_
                      exact hp_iret d_M_one_541 rfl
                    · skip
                      refine hp_ite (fun c10 => ?_) (fun c10 => ?_)
                      · refine hp_tabI (tgt := 532) (kv := 13) d_M_one_1 c10 (by decide) (by decide) rfl (by decide) ?_
                        refine hp_aload_n (x0 := 0) d_M_one_532 rfl rfl ?_
                        refine hp_aload_n (x0 := 0) d_M_one_533 rfl rfl ?_
                        refine hp_iload_n (x0 := 2) d_M_one_534 rfl rfl ?_
                        refine hp_callI (hp_crV (ci := 8) (t_M_isNumber _ _ _ _) cw_M_168 rfl ⟨w_1052, ws_47⟩ (by decide) rfl rfl (Nat.le_of_ble_eq_true rfl) d_M_one_535) fun q22 => ?_
                        refine hp_callI (hp_crV (ci := 8) (t_M_truth _ _ _ _) cw_M_185 rfl ⟨w_1003, w_1004⟩ (by decide) rfl rfl (Nat.le_of_ble_eq_true rfl) d_M_one_538) fun q23 => ?_
                        exact hp_iret d_M_one_541 rfl
                      · skip
                        refine hp_ite (fun c11 => ?_) (fun c11 => ?_)
                        · refine hp_tabI (tgt := 532) (kv := 14) d_M_one_1 c11 (by decide) (by decide) rfl (by decide) ?_
                          refine hp_aload_n (x0 := 0) d_M_one_532 rfl rfl ?_
                          refine hp_aload_n (x0 := 0) d_M_one_533 rfl rfl ?_
                          refine hp_iload_n (x0 := 2) d_M_one_534 rfl rfl ?_
                          refine hp_callI (hp_crV (ci := 8) (t_M_isNumber _ _ _ _) cw_M_168 rfl ⟨w_1052, ws_47⟩ (by decide) rfl rfl (Nat.le_of_ble_eq_true rfl) d_M_one_535) fun q24 => ?_
                          refine hp_callI (hp_crV (ci := 8) (t_M_truth _ _ _ _) cw_M_185 rfl ⟨w_1003, w_1004⟩ (by decide) rfl rfl (Nat.le_of_ble_eq_true rfl) d_M_one_538) fun q25 => ?_
                          exact hp_iret d_M_one_541 rfl
                        · skip
                          refine hp_ite (fun c12 => ?_) (fun c12 => ?_)
                          · refine hp_tabI (tgt := 532) (kv := 15) d_M_one_1 c12 (by decide) (by decide) rfl (by decide) ?_
                            refine hp_aload_n (x0 := 0) d_M_one_532 rfl rfl ?_
                            refine hp_aload_n (x0 := 0) d_M_one_533 rfl rfl ?_
                            refine hp_iload_n (x0 := 2) d_M_one_534 rfl rfl ?_
                            refine hp_callI (hp_crV (ci := 8) (t_M_isNumber _ _ _ _) cw_M_168 rfl ⟨w_1052, ws_47⟩ (by decide) rfl rfl (Nat.le_of_ble_eq_true rfl) d_M_one_535) fun q26 => ?_
                            refine hp_callI (hp_crV (ci := 8) (t_M_truth _ _ _ _) cw_M_185 rfl ⟨w_1003, w_1004⟩ (by decide) rfl rfl (Nat.le_of_ble_eq_true rfl) d_M_one_538) fun q27 => ?_
                            exact hp_iret d_M_one_541 rfl
                          · skip
                            refine hp_ite (fun c13 => ?_) (fun c13 => ?_)
                            · refine hp_tabI (tgt := 532) (kv := 16) d_M_one_1 c13 (by decide) (by decide) rfl (by decide) ?_
                              refine hp_aload_n (x0 := 0) d_M_one_532 rfl rfl ?_
                              refine hp_aload_n (x0 := 0) d_M_one_533 rfl rfl ?_
                              refine hp_iload_n (x0 := 2) d_M_one_534 rfl rfl ?_
                              refine hp_callI (hp_crV (ci := 8) (t_M_isNumber _ _ _ _) cw_M_168 rfl ⟨w_1052, ws_47⟩ (by decide) rfl rfl (Nat.le_of_ble_eq_true rfl) d_M_one_535) fun q28 => ?_
                              refine hp_callI (hp_crV (ci := 8) (t_M_truth _ _ _ _) cw_M_185 rfl ⟨w_1003, w_1004⟩ (by decide) rfl rfl (Nat.le_of_ble_eq_true rfl) d_M_one_538) fun q29 => ?_
                              exact hp_iret d_M_one_541 rfl
                            · skip
                              refine hp_ite (fun c14 => ?_) (fun c14 => ?_)
                              · refine hp_tabI (tgt := 181) (kv := 17) d_M_one_1 c14 (by decide) (by decide) rfl (by decide) ?_
                                refine hp_aload_n (x0 := 0) d_M_one_181 rfl rfl ?_
                                refine hp_iload_n (x0 := 2) d_M_one_182 rfl rfl ?_
                                refine hp_callI (hp_crV (ci := 8) (t_M_isNumber _ _ _ _) cw_M_168 rfl ⟨w_1052, ws_47⟩ (by decide) rfl rfl (Nat.le_of_ble_eq_true rfl) d_M_one_183) fun q30 => ?_
                                refine hp_if_eq (tgt := 198) d_M_one_186 (by decide) ?_ ?_
                                · refine hp_bipush (v := -4) d_M_one_198 (by decide) ?_
                                  refine hp_sub [] rfl ?_
                                  exact j_M_one_200  _ _
                                · refine hp_aload_n (x0 := 0) d_M_one_189 rfl rfl ?_
                                  refine hp_iload_n (x0 := 2) d_M_one_190 rfl rfl ?_
                                  refine hp_iconst (v := 1) d_M_one_191 (by decide) ?_
                                  refine hp_callI (hp_crV (ci := 8) (t_M_turned _ _ _ _ _) cw_M_280 rfl ⟨w_1208, ws_77⟩ (by decide) rfl rfl (Nat.le_of_ble_eq_true rfl) d_M_one_192) fun q31 => ?_
                                  refine hp_goto (tgt := 200) d_M_one_195 (by decide) ?_
                                  refine hp_sub [] rfl ?_
                                  exact j_M_one_200  _ _
                              · skip
                                refine hp_ite (fun c15 => ?_) (fun c15 => ?_)
                                · refine hp_tabI (tgt := 201) (kv := 18) d_M_one_1 c15 (by decide) (by decide) rfl (by decide) ?_
                                  refine hp_aload_n (x0 := 0) d_M_one_201 rfl rfl ?_
                                  refine hp_iload_n (x0 := 2) d_M_one_202 rfl rfl ?_
                                  refine hp_callI (hp_crV (ci := 8) (t_M_isNumber _ _ _ _) cw_M_168 rfl ⟨w_1052, ws_47⟩ (by decide) rfl rfl (Nat.le_of_ble_eq_true rfl) d_M_one_203) fun q32 => ?_
                                  refine hp_if_eq (tgt := 231) d_M_one_206 (by decide) ?_ ?_
                                  · refine hp_bipush (v := -4) d_M_one_231 (by decide) ?_
                                    refine hp_sub [] rfl ?_
                                    exact j_M_one_233  _ _
                                  · refine hp_aload_n (x0 := 0) d_M_one_209 rfl rfl ?_
                                    refine hp_iload_n (x0 := 2) d_M_one_210 rfl rfl ?_
                                    refine hp_aload_n (x0 := 0) d_M_one_211 rfl rfl ?_
                                    refine hp_getR fl_M_16 d_M_one_212 fun x33 => ?_
                                    refine hp_iload_n (x0 := 2) d_M_one_215 rfl rfl ?_
                                    refine hp_iald d_M_one_216 fun x34 => ?_
                                    refine hp_if_ge (tgt := 224) d_M_one_217 (by decide) ?_ ?_
                                    · refine hp_iconst (v := 0) d_M_one_224 (by decide) ?_
                                      refine hp_sub [] rfl ?_
                                      exact j_M_one_225  _ _ _ _
                                    · refine hp_iconst (v := 1) d_M_one_220 (by decide) ?_
                                      refine hp_goto (tgt := 225) d_M_one_221 (by decide) ?_
                                      refine hp_sub [] rfl ?_
                                      exact j_M_one_225  _ _ _ _
                                · skip
                                  refine hp_ite (fun c16 => ?_) (fun c16 => ?_)
                                  · refine hp_tabI (tgt := 234) (kv := 19) d_M_one_1 c16 (by decide) (by decide) rfl (by decide) ?_
                                    refine hp_aload_n (x0 := 0) d_M_one_234 rfl rfl ?_
                                    refine hp_iload_n (x0 := 2) d_M_one_235 rfl rfl ?_
                                    refine hp_callI (hp_crV (ci := 8) (t_M_isNumber _ _ _ _) cw_M_168 rfl ⟨w_1052, ws_47⟩ (by decide) rfl rfl (Nat.le_of_ble_eq_true rfl) d_M_one_236) fun q35 => ?_
                                    refine hp_if_eq (tgt := 251) d_M_one_239 (by decide) ?_ ?_
                                    · refine hp_bipush (v := -4) d_M_one_251 (by decide) ?_
                                      refine hp_sub [] rfl ?_
                                      exact j_M_one_253  _ _
                                    · refine hp_aload_n (x0 := 0) d_M_one_242 rfl rfl ?_
                                      refine hp_iload_n (x0 := 2) d_M_one_243 rfl rfl ?_
                                      refine hp_iload_n (x0 := 1) d_M_one_244 rfl rfl ?_
                                      refine hp_callI (hp_crV (ci := 8) (t_M_wholeOf _ _ _ _ _) cw_M_284 rfl ⟨w_1212, ws_78⟩ (by decide) rfl rfl (Nat.le_of_ble_eq_true rfl) d_M_one_245) fun q36 => ?_
                                      refine hp_goto (tgt := 253) d_M_one_248 (by decide) ?_
                                      refine hp_sub [] rfl ?_
                                      exact j_M_one_253  _ _
                                  · skip
                                    refine hp_ite (fun c17 => ?_) (fun c17 => ?_)
                                    · refine hp_tabI (tgt := 234) (kv := 20) d_M_one_1 c17 (by decide) (by decide) rfl (by decide) ?_
                                      refine hp_aload_n (x0 := 0) d_M_one_234 rfl rfl ?_
                                      refine hp_iload_n (x0 := 2) d_M_one_235 rfl rfl ?_
                                      refine hp_callI (hp_crV (ci := 8) (t_M_isNumber _ _ _ _) cw_M_168 rfl ⟨w_1052, ws_47⟩ (by decide) rfl rfl (Nat.le_of_ble_eq_true rfl) d_M_one_236) fun q37 => ?_
                                      refine hp_if_eq (tgt := 251) d_M_one_239 (by decide) ?_ ?_
                                      · refine hp_bipush (v := -4) d_M_one_251 (by decide) ?_
                                        refine hp_sub [] rfl ?_
                                        exact j_M_one_253  _ _
                                      · refine hp_aload_n (x0 := 0) d_M_one_242 rfl rfl ?_
                                        refine hp_iload_n (x0 := 2) d_M_one_243 rfl rfl ?_
                                        refine hp_iload_n (x0 := 1) d_M_one_244 rfl rfl ?_
                                        refine hp_callI (hp_crV (ci := 8) (t_M_wholeOf _ _ _ _ _) cw_M_284 rfl ⟨w_1212, ws_78⟩ (by decide) rfl rfl (Nat.le_of_ble_eq_true rfl) d_M_one_245) fun q38 => ?_
                                        refine hp_goto (tgt := 253) d_M_one_248 (by decide) ?_
                                        refine hp_sub [] rfl ?_
                                        exact j_M_one_253  _ _
                                    · skip
                                      refine hp_ite (fun c18 => ?_) (fun c18 => ?_)
                                      · refine hp_tabI (tgt := 234) (kv := 21) d_M_one_1 c18 (by decide) (by decide) rfl (by decide) ?_
                                        refine hp_aload_n (x0 := 0) d_M_one_234 rfl rfl ?_
                                        refine hp_iload_n (x0 := 2) d_M_one_235 rfl rfl ?_
                                        refine hp_callI (hp_crV (ci := 8) (t_M_isNumber _ _ _ _) cw_M_168 rfl ⟨w_1052, ws_47⟩ (by decide) rfl rfl (Nat.le_of_ble_eq_true rfl) d_M_one_236) fun q39 => ?_
                                        refine hp_if_eq (tgt := 251) d_M_one_239 (by decide) ?_ ?_
                                        · refine hp_bipush (v := -4) d_M_one_251 (by decide) ?_
                                          refine hp_sub [] rfl ?_
                                          exact j_M_one_253  _ _
                                        · refine hp_aload_n (x0 := 0) d_M_one_242 rfl rfl ?_
                                          refine hp_iload_n (x0 := 2) d_M_one_243 rfl rfl ?_
                                          refine hp_iload_n (x0 := 1) d_M_one_244 rfl rfl ?_
                                          refine hp_callI (hp_crV (ci := 8) (t_M_wholeOf _ _ _ _ _) cw_M_284 rfl ⟨w_1212, ws_78⟩ (by decide) rfl rfl (Nat.le_of_ble_eq_true rfl) d_M_one_245) fun q40 => ?_
                                          refine hp_goto (tgt := 253) d_M_one_248 (by decide) ?_
                                          refine hp_sub [] rfl ?_
                                          exact j_M_one_253  _ _
                                      · skip
                                        refine hp_ite (fun c19 => ?_) (fun c19 => ?_)
                                        · refine hp_tabI (tgt := 532) (kv := 22) d_M_one_1 c19 (by decide) (by decide) rfl (by decide) ?_
                                          refine hp_aload_n (x0 := 0) d_M_one_532 rfl rfl ?_
                                          refine hp_aload_n (x0 := 0) d_M_one_533 rfl rfl ?_
                                          refine hp_iload_n (x0 := 2) d_M_one_534 rfl rfl ?_
                                          refine hp_callI (hp_crV (ci := 8) (t_M_isNumber _ _ _ _) cw_M_168 rfl ⟨w_1052, ws_47⟩ (by decide) rfl rfl (Nat.le_of_ble_eq_true rfl) d_M_one_535) fun q41 => ?_
                                          refine hp_callI (hp_crV (ci := 8) (t_M_truth _ _ _ _) cw_M_185 rfl ⟨w_1003, w_1004⟩ (by decide) rfl rfl (Nat.le_of_ble_eq_true rfl) d_M_one_538) fun q42 => ?_
                                          exact hp_iret d_M_one_541 rfl
                                        · skip
                                          refine hp_ite (fun c20 => ?_) (fun c20 => ?_)
                                          · refine hp_tabI (tgt := 532) (kv := 23) d_M_one_1 c20 (by decide) (by decide) rfl (by decide) ?_
                                            refine hp_aload_n (x0 := 0) d_M_one_532 rfl rfl ?_
                                            refine hp_aload_n (x0 := 0) d_M_one_533 rfl rfl ?_
                                            refine hp_iload_n (x0 := 2) d_M_one_534 rfl rfl ?_
                                            refine hp_callI (hp_crV (ci := 8) (t_M_isNumber _ _ _ _) cw_M_168 rfl ⟨w_1052, ws_47⟩ (by decide) rfl rfl (Nat.le_of_ble_eq_true rfl) d_M_one_535) fun q43 => ?_
                                            refine hp_callI (hp_crV (ci := 8) (t_M_truth _ _ _ _) cw_M_185 rfl ⟨w_1003, w_1004⟩ (by decide) rfl rfl (Nat.le_of_ble_eq_true rfl) d_M_one_538) fun q44 => ?_
                                            exact hp_iret d_M_one_541 rfl
                                          · skip
                                            refine hp_ite (fun c21 => ?_) (fun c21 => ?_)
                                            · refine hp_tabI (tgt := 532) (kv := 24) d_M_one_1 c21 (by decide) (by decide) rfl (by decide) ?_
                                              refine hp_aload_n (x0 := 0) d_M_one_532 rfl rfl ?_
                                              refine hp_aload_n (x0 := 0) d_M_one_533 rfl rfl ?_
                                              refine hp_iload_n (x0 := 2) d_M_one_534 rfl rfl ?_
                                              refine hp_callI (hp_crV (ci := 8) (t_M_isNumber _ _ _ _) cw_M_168 rfl ⟨w_1052, ws_47⟩ (by decide) rfl rfl (Nat.le_of_ble_eq_true rfl) d_M_one_535) fun q45 => ?_
                                              refine hp_callI (hp_crV (ci := 8) (t_M_truth _ _ _ _) cw_M_185 rfl ⟨w_1003, w_1004⟩ (by decide) rfl rfl (Nat.le_of_ble_eq_true rfl) d_M_one_538) fun q46 => ?_
                                              exact hp_iret d_M_one_541 rfl
                                            · skip
                                              refine hp_ite (fun c22 => ?_) (fun c22 => ?_)
                                              · refine hp_tabI (tgt := 254) (kv := 25) d_M_one_1 c22 (by decide) (by decide) rfl (by decide) ?_
                                                refine hp_aload_n (x0 := 0) d_M_one_254 rfl rfl ?_
                                                refine hp_iload_n (x0 := 2) d_M_one_255 rfl rfl ?_
                                                refine hp_callI (hp_crV (ci := 8) (t_M_isPlain _ _ _ _) cw_M_217 rfl ⟨w_1135, ws_62⟩ (by decide) rfl rfl (Nat.le_of_ble_eq_true rfl) d_M_one_256) fun q47 => ?_
                                                refine hp_if_eq (tgt := 278) d_M_one_259 (by decide) ?_ ?_
                                                · refine hp_bipush (v := -4) d_M_one_278 (by decide) ?_
                                                  refine hp_sub [] rfl ?_
                                                  exact j_M_one_280  _ _
                                                · refine hp_aload_n (x0 := 0) d_M_one_262 rfl rfl ?_
                                                  refine hp_aload_n (x0 := 0) d_M_one_263 rfl rfl ?_
                                                  refine hp_getR fl_M_26 d_M_one_264 fun x48 => ?_
                                                  refine hp_iload_n (x0 := 2) d_M_one_267 rfl rfl ?_
                                                  refine hp_iald d_M_one_268 fun x49 => ?_
                                                  refine hp_i2l d_M_one_269 ?_
                                                  refine hp_iconst (v := 0) d_M_one_270 (by decide) ?_
                                                  refine hp_iconst (v := 1) d_M_one_271 (by decide) ?_
                                                  refine hp_callI (hp_crV (ci := 8) (t_M_numbered _ _ _ _ _ _) cw_M_153 rfl ⟨w_973, ws_38⟩ (by decide) rfl rfl (Nat.le_of_ble_eq_true rfl) d_M_one_272) fun q50 => ?_
                                                  refine hp_goto (tgt := 280) d_M_one_275 (by decide) ?_
                                                  refine hp_sub [] rfl ?_
                                                  exact j_M_one_280  _ _
                                              · skip
                                                refine hp_ite (fun c23 => ?_) (fun c23 => ?_)
                                                · refine hp_tabI (tgt := 532) (kv := 26) d_M_one_1 c23 (by decide) (by decide) rfl (by decide) ?_
                                                  refine hp_aload_n (x0 := 0) d_M_one_532 rfl rfl ?_
                                                  refine hp_aload_n (x0 := 0) d_M_one_533 rfl rfl ?_
                                                  refine hp_iload_n (x0 := 2) d_M_one_534 rfl rfl ?_
                                                  refine hp_callI (hp_crV (ci := 8) (t_M_isNumber _ _ _ _) cw_M_168 rfl ⟨w_1052, ws_47⟩ (by decide) rfl rfl (Nat.le_of_ble_eq_true rfl) d_M_one_535) fun q51 => ?_
                                                  refine hp_callI (hp_crV (ci := 8) (t_M_truth _ _ _ _) cw_M_185 rfl ⟨w_1003, w_1004⟩ (by decide) rfl rfl (Nat.le_of_ble_eq_true rfl) d_M_one_538) fun q52 => ?_
                                                  exact hp_iret d_M_one_541 rfl
                                                · skip
                                                  refine hp_ite (fun c24 => ?_) (fun c24 => ?_)
                                                  · refine hp_tabI (tgt := 281) (kv := 27) d_M_one_1 c24 (by decide) (by decide) rfl (by decide) ?_
                                                    refine hp_aload_n (x0 := 0) d_M_one_281 rfl rfl ?_
                                                    refine hp_iload_n (x0 := 2) d_M_one_282 rfl rfl ?_
                                                    refine hp_iload_n (x0 := 1) d_M_one_283 rfl rfl ?_
                                                    refine hp_callI (hp_crV (ci := 8) (t_M_cased _ _ _ _ _) cw_M_287 rfl ⟨w_1216, ws_79⟩ (by decide) rfl rfl (Nat.le_of_ble_eq_true rfl) d_M_one_284) fun q53 => ?_
                                                    exact hp_iret d_M_one_287 rfl
                                                  · skip
                                                    refine hp_ite (fun c25 => ?_) (fun c25 => ?_)
                                                    · refine hp_tabI (tgt := 281) (kv := 28) d_M_one_1 c25 (by decide) (by decide) rfl (by decide) ?_
                                                      refine hp_aload_n (x0 := 0) d_M_one_281 rfl rfl ?_
                                                      refine hp_iload_n (x0 := 2) d_M_one_282 rfl rfl ?_
                                                      refine hp_iload_n (x0 := 1) d_M_one_283 rfl rfl ?_
                                                      refine hp_callI (hp_crV (ci := 8) (t_M_cased _ _ _ _ _) cw_M_287 rfl ⟨w_1216, ws_79⟩ (by decide) rfl rfl (Nat.le_of_ble_eq_true rfl) d_M_one_284) fun q54 => ?_
                                                      exact hp_iret d_M_one_287 rfl
                                                    · skip
                                                      refine hp_ite (fun c26 => ?_) (fun c26 => ?_)
                                                      · refine hp_tabI (tgt := 532) (kv := 29) d_M_one_1 c26 (by decide) (by decide) rfl (by decide) ?_
                                                        refine hp_aload_n (x0 := 0) d_M_one_532 rfl rfl ?_
                                                        refine hp_aload_n (x0 := 0) d_M_one_533 rfl rfl ?_
                                                        refine hp_iload_n (x0 := 2) d_M_one_534 rfl rfl ?_
                                                        refine hp_callI (hp_crV (ci := 8) (t_M_isNumber _ _ _ _) cw_M_168 rfl ⟨w_1052, ws_47⟩ (by decide) rfl rfl (Nat.le_of_ble_eq_true rfl) d_M_one_535) fun q55 => ?_
                                                        refine hp_callI (hp_crV (ci := 8) (t_M_truth _ _ _ _) cw_M_185 rfl ⟨w_1003, w_1004⟩ (by decide) rfl rfl (Nat.le_of_ble_eq_true rfl) d_M_one_538) fun q56 => ?_
                                                        exact hp_iret d_M_one_541 rfl
                                                      · skip
                                                        refine hp_ite (fun c27 => ?_) (fun c27 => ?_)
                                                        · refine hp_tabI (tgt := 532) (kv := 30) d_M_one_1 c27 (by decide) (by decide) rfl (by decide) ?_
                                                          refine hp_aload_n (x0 := 0) d_M_one_532 rfl rfl ?_
                                                          refine hp_aload_n (x0 := 0) d_M_one_533 rfl rfl ?_
                                                          refine hp_iload_n (x0 := 2) d_M_one_534 rfl rfl ?_
                                                          refine hp_callI (hp_crV (ci := 8) (t_M_isNumber _ _ _ _) cw_M_168 rfl ⟨w_1052, ws_47⟩ (by decide) rfl rfl (Nat.le_of_ble_eq_true rfl) d_M_one_535) fun q57 => ?_
                                                          refine hp_callI (hp_crV (ci := 8) (t_M_truth _ _ _ _) cw_M_185 rfl ⟨w_1003, w_1004⟩ (by decide) rfl rfl (Nat.le_of_ble_eq_true rfl) d_M_one_538) fun q58 => ?_
                                                          exact hp_iret d_M_one_541 rfl
                                                        · skip
                                                          refine hp_ite (fun c28 => ?_) (fun c28 => ?_)
                                                          · refine hp_tabI (tgt := 532) (kv := 31) d_M_one_1 c28 (by decide) (by decide) rfl (by decide) ?_
                                                            refine hp_aload_n (x0 := 0) d_M_one_532 rfl rfl ?_
                                                            refine hp_aload_n (x0 := 0) d_M_one_533 rfl rfl ?_
                                                            refine hp_iload_n (x0 := 2) d_M_one_534 rfl rfl ?_
                                                            refine hp_callI (hp_crV (ci := 8) (t_M_isNumber _ _ _ _) cw_M_168 rfl ⟨w_1052, ws_47⟩ (by decide) rfl rfl (Nat.le_of_ble_eq_true rfl) d_M_one_535) fun q59 => ?_
                                                            refine hp_callI (hp_crV (ci := 8) (t_M_truth _ _ _ _) cw_M_185 rfl ⟨w_1003, w_1004⟩ (by decide) rfl rfl (Nat.le_of_ble_eq_true rfl) d_M_one_538) fun q60 => ?_
                                                            exact hp_iret d_M_one_541 rfl
                                                          · skip
                                                            refine hp_ite (fun c29 => ?_) (fun c29 => ?_)
                                                            · refine hp_tabI (tgt := 532) (kv := 32) d_M_one_1 c29 (by decide) (by decide) rfl (by decide) ?_
                                                              refine hp_aload_n (x0 := 0) d_M_one_532 rfl rfl ?_
                                                              refine hp_aload_n (x0 := 0) d_M_one_533 rfl rfl ?_
                                                              refine hp_iload_n (x0 := 2) d_M_one_534 rfl rfl ?_
                                                              refine hp_callI (hp_crV (ci := 8) (t_M_isNumber _ _ _ _) cw_M_168 rfl ⟨w_1052, ws_47⟩ (by decide) rfl rfl (Nat.le_of_ble_eq_true rfl) d_M_one_535) fun q61 => ?_
                                                              refine hp_callI (hp_crV (ci := 8) (t_M_truth _ _ _ _) cw_M_185 rfl ⟨w_1003, w_1004⟩ (by decide) rfl rfl (Nat.le_of_ble_eq_true rfl) d_M_one_538) fun q62 => ?_
                                                              exact hp_iret d_M_one_541 rfl
                                                            · skip
                                                              refine hp_ite (fun c30 => ?_) (fun c30 => ?_)
                                                              · refine hp_tabI (tgt := 532) (kv := 33) d_M_one_1 c30 (by decide) (by decide) rfl (by decide) ?_
                                                                refine hp_aload_n (x0 := 0) d_M_one_532 rfl rfl ?_
                                                                refine hp_aload_n (x0 := 0) d_M_one_533 rfl rfl ?_
                                                                refine hp_iload_n (x0 := 2) d_M_one_534 rfl rfl ?_
                                                                refine hp_callI (hp_crV (ci := 8) (t_M_isNumber _ _ _ _) cw_M_168 rfl ⟨w_1052, ws_47⟩ (by decide) rfl rfl (Nat.le_of_ble_eq_true rfl) d_M_one_535) fun q63 => ?_
                                                                refine hp_callI (hp_crV (ci := 8) (t_M_truth _ _ _ _) cw_M_185 rfl ⟨w_1003, w_1004⟩ (by decide) rfl rfl (Nat.le_of_ble_eq_true rfl) d_M_one_538) fun q64 => ?_
                                                                exact hp_iret d_M_one_541 rfl
                                                              · skip
                                                                refine hp_ite (fun c31 => ?_) (fun c31 => ?_)
                                                                · refine hp_tabI (tgt := 532) (kv := 34) d_M_one_1 c31 (by decide) (by decide) rfl (by decide) ?_
                                                                  refine hp_aload_n (x0 := 0) d_M_one_532 rfl rfl ?_
                                                                  refine hp_aload_n (x0 := 0) d_M_one_533 rfl rfl ?_
                                                                  refine hp_iload_n (x0 := 2) d_M_one_534 rfl rfl ?_
                                                                  refine hp_callI (hp_crV (ci := 8) (t_M_isNumber _ _ _ _) cw_M_168 rfl ⟨w_1052, ws_47⟩ (by decide) rfl rfl (Nat.le_of_ble_eq_true rfl) d_M_one_535) fun q65 => ?_
                                                                  refine hp_callI (hp_crV (ci := 8) (t_M_truth _ _ _ _) cw_M_185 rfl ⟨w_1003, w_1004⟩ (by decide) rfl rfl (Nat.le_of_ble_eq_true rfl) d_M_one_538) fun q66 => ?_
                                                                  exact hp_iret d_M_one_541 rfl
                                                                · skip
                                                                  refine hp_ite (fun c32 => ?_) (fun c32 => ?_)
                                                                  · refine hp_tabI (tgt := 288) (kv := 35) d_M_one_1 c32 (by decide) (by decide) rfl (by decide) ?_
                                                                    refine hp_aload_n (x0 := 0) d_M_one_288 rfl rfl ?_
                                                                    refine hp_iconst (v := 5) d_M_one_289 (by decide) ?_
                                                                    refine hp_iconst (v := 0) d_M_one_290 (by decide) ?_
                                                                    refine hp_callU (hp_crV (ci := 8) (t_M_start _ _ _ _ _) cw_M_103 rfl ⟨w_985, ws_40⟩ (by decide) rfl rfl (Nat.le_of_ble_eq_true rfl) d_M_one_291) fun q67 => ?_
                                                                    refine hp_aload_n (x0 := 0) d_M_one_294 rfl rfl ?_
                                                                    refine hp_iload_n (x0 := 2) d_M_one_295 rfl rfl ?_
                                                                    refine hp_callI (hp_crV (ci := 8) (t_M_string _ _ _ _) cw_M_290 rfl ⟨w_1220, ws_80⟩ (by decide) rfl rfl (Nat.le_of_ble_eq_true rfl) d_M_one_296) fun q68 => ?_
                                                                    refine hp_if_eq (tgt := 309) d_M_one_299 (by decide) ?_ ?_
                                                                    · refine hp_bipush (v := -4) d_M_one_309 (by decide) ?_
                                                                      refine hp_sub [] rfl ?_
                                                                      exact j_M_one_311  _ _
                                                                    · refine hp_aload_n (x0 := 0) d_M_one_302 rfl rfl ?_
                                                                      refine hp_callI (hp_crV (ci := 8) (t_M_keep _ _ _) cw_M_111 rfl ⟨w_992, ws_41⟩ (by decide) rfl rfl (Nat.le_of_ble_eq_true rfl) d_M_one_303) fun q69 => ?_
                                                                      refine hp_goto (tgt := 311) d_M_one_306 (by decide) ?_
                                                                      refine hp_sub [] rfl ?_
                                                                      exact j_M_one_311  _ _
                                                                  · skip
                                                                    refine hp_ite (fun c33 => ?_) (fun c33 => ?_)
                                                                    · refine hp_tabI (tgt := 312) (kv := 36) d_M_one_1 c33 (by decide) (by decide) rfl (by decide) ?_
                                                                      refine hp_aload_n (x0 := 0) d_M_one_312 rfl rfl ?_
                                                                      refine hp_iconst (v := 5) d_M_one_313 (by decide) ?_
                                                                      refine hp_iconst (v := 0) d_M_one_314 (by decide) ?_
                                                                      refine hp_callU (hp_crV (ci := 8) (t_M_start _ _ _ _ _) cw_M_103 rfl ⟨w_985, ws_40⟩ (by decide) rfl rfl (Nat.le_of_ble_eq_true rfl) d_M_one_315) fun q70 => ?_
                                                                      refine hp_aload_n (x0 := 0) d_M_one_318 rfl rfl ?_
                                                                      refine hp_getR fl_M_7 d_M_one_319 fun x71 => ?_
                                                                      refine hp_iload_n (x0 := 2) d_M_one_322 rfl rfl ?_
                                                                      refine hp_iald d_M_one_323 fun x72 => ?_
                                                                      refine hp_bipush (v := 6) d_M_one_324 (by decide) ?_
                                                                      refine hp_icmp_ne (tgt := 339) d_M_one_326 (by decide) ?_ ?_
                                                                      · refine hp_aload_n (x0 := 0) d_M_one_329 rfl rfl ?_
                                                                        refine hp_aload_n (x0 := 0) d_M_one_330 rfl rfl ?_
                                                                        refine hp_getR fl_M_13 d_M_one_331 fun x73 => ?_
                                                                        refine hp_iload_n (x0 := 2) d_M_one_334 rfl rfl ?_
                                                                        refine hp_iald d_M_one_335 fun x74 => ?_
                                                                        refine hp_callU (hp_crV (ci := 8) (t_M_digitsOf _ _ _ _) cw_M_188 rfl ⟨w_1224, ws_81⟩ (by decide) rfl rfl (Nat.le_of_ble_eq_true rfl) d_M_one_336) fun q75 => ?_
                                                                        refine hp_sub [0, 2] rfl ?_
                                                                        exact j_M_one_339  _ _ _
                                                                      · refine hp_sub [0, 2] rfl ?_
                                                                        exact j_M_one_339  _ _ _
                                                                    · skip
                                                                      refine hp_ite (fun c34 => ?_) (fun c34 => ?_)
                                                                      · refine hp_tabI (tgt := 359) (kv := 37) d_M_one_1 c34 (by decide) (by decide) rfl (by decide) ?_
                                                                        refine hp_aload_n (x0 := 0) d_M_one_359 rfl rfl ?_
                                                                        refine hp_iconst (v := 2) d_M_one_360 (by decide) ?_
                                                                        refine hp_aload_n (x0 := 0) d_M_one_361 rfl rfl ?_
                                                                        refine hp_getR fl_M_7 d_M_one_362 fun x76 => ?_
                                                                        refine hp_iload_n (x0 := 2) d_M_one_365 rfl rfl ?_
                                                                        refine hp_iald d_M_one_366 fun x77 => ?_
                                                                        refine hp_bipush (v := 7) d_M_one_367 (by decide) ?_
                                                                        refine hp_icmp_ne (tgt := 381) d_M_one_369 (by decide) ?_ ?_
                                                                        · refine hp_aload_n (x0 := 0) d_M_one_372 rfl rfl ?_
                                                                          refine hp_getR fl_M_13 d_M_one_373 fun x86 => ?_
                                                                          refine hp_iload_n (x0 := 2) d_M_one_376 rfl rfl ?_
                                                                          refine hp_iald d_M_one_377 fun x87 => ?_
                                                                          refine hp_goto (tgt := 449) d_M_one_378 (by decide) ?_
                                                                          refine hp_sub [0, 2] rfl ?_
                                                                          exact j_M_one_449  _ _ _ _ _ _
                                                                        · refine hp_aload_n (x0 := 0) d_M_one_381 rfl rfl ?_
                                                                          refine hp_getR fl_M_7 d_M_one_382 fun x78 => ?_
                                                                          refine hp_iload_n (x0 := 2) d_M_one_385 rfl rfl ?_
                                                                          refine hp_iald d_M_one_386 fun x79 => ?_
                                                                          refine hp_iconst (v := 5) d_M_one_387 (by decide) ?_
                                                                          refine hp_icmp_ne (tgt := 397) d_M_one_388 (by decide) ?_ ?_
                                                                          · refine hp_sipush (v := 1000) d_M_one_391 (by decide) ?_
                                                                            refine hp_goto (tgt := 449) d_M_one_394 (by decide) ?_
                                                                            refine hp_sub [0, 2] rfl ?_
                                                                            exact j_M_one_449  _ _ _ _ _ _
                                                                          · refine hp_aload_n (x0 := 0) d_M_one_397 rfl rfl ?_
                                                                            refine hp_getR fl_M_7 d_M_one_398 fun x80 => ?_
                                                                            refine hp_iload_n (x0 := 2) d_M_one_401 rfl rfl ?_
                                                                            refine hp_iald d_M_one_402 fun x81 => ?_
                                                                            refine hp_bipush (v := 6) d_M_one_403 (by decide) ?_
                                                                            refine hp_icmp_ne (tgt := 414) d_M_one_405 (by decide) ?_ ?_
                                                                            · refine hp_sipush (v := 1001) d_M_one_408 (by decide) ?_
                                                                              refine hp_goto (tgt := 449) d_M_one_411 (by decide) ?_
                                                                              refine hp_sub [0, 2] rfl ?_
                                                                              exact j_M_one_449  _ _ _ _ _ _
                                                                            · refine hp_aload_n (x0 := 0) d_M_one_414 rfl rfl ?_
                                                                              refine hp_getR fl_M_7 d_M_one_415 fun x82 => ?_
                                                                              refine hp_iload_n (x0 := 2) d_M_one_418 rfl rfl ?_
                                                                              refine hp_iald d_M_one_419 fun x83 => ?_
                                                                              refine hp_iconst (v := 3) d_M_one_420 (by decide) ?_
                                                                              refine hp_icmp_ne (tgt := 430) d_M_one_421 (by decide) ?_ ?_
                                                                              · refine hp_sipush (v := 1002) d_M_one_424 (by decide) ?_
                                                                                refine hp_goto (tgt := 449) d_M_one_427 (by decide) ?_
                                                                                refine hp_sub [0, 2] rfl ?_
                                                                                exact j_M_one_449  _ _ _ _ _ _
                                                                              · refine hp_aload_n (x0 := 0) d_M_one_430 rfl rfl ?_
                                                                                refine hp_getR fl_M_7 d_M_one_431 fun x84 => ?_
                                                                                refine hp_iload_n (x0 := 2) d_M_one_434 rfl rfl ?_
                                                                                refine hp_iald d_M_one_435 fun x85 => ?_
                                                                                refine hp_iconst (v := 4) d_M_one_436 (by decide) ?_
                                                                                refine hp_icmp_ne (tgt := 446) d_M_one_437 (by decide) ?_ ?_
                                                                                · refine hp_sipush (v := 1003) d_M_one_440 (by decide) ?_
                                                                                  refine hp_goto (tgt := 449) d_M_one_443 (by decide) ?_
                                                                                  refine hp_sub [0, 2] rfl ?_
                                                                                  exact j_M_one_449  _ _ _ _ _ _
                                                                                · refine hp_sipush (v := 1004) d_M_one_446 (by decide) ?_
                                                                                  refine hp_sub [0, 2] rfl ?_
                                                                                  exact j_M_one_449  _ _ _ _ _ _
                                                                      · skip
                                                                        refine hp_ite (fun c35 => ?_) (fun c35 => ?_)
                                                                        · refine hp_tabI (tgt := 472) (kv := 38) d_M_one_1 c35 (by decide) (by decide) rfl (by decide) ?_
                                                                          refine hp_aload_n (x0 := 0) d_M_one_472 rfl rfl ?_
                                                                          refine hp_aload_n (x0 := 0) d_M_one_473 rfl rfl ?_
                                                                          refine hp_getR fl_M_7 d_M_one_474 fun x88 => ?_
                                                                          refine hp_iload_n (x0 := 2) d_M_one_477 rfl rfl ?_
                                                                          refine hp_iald d_M_one_478 fun x89 => ?_
                                                                          refine hp_iconst (v := 2) d_M_one_479 (by decide) ?_
                                                                          refine hp_icmp_ne (tgt := 487) d_M_one_480 (by decide) ?_ ?_
                                                                          · refine hp_iconst (v := 1) d_M_one_483 (by decide) ?_
                                                                            refine hp_goto (tgt := 488) d_M_one_484 (by decide) ?_
                                                                            refine hp_sub [] rfl ?_
                                                                            exact j_M_one_488  _ _ _
                                                                          · refine hp_iconst (v := 0) d_M_one_487 (by decide) ?_
                                                                            refine hp_sub [] rfl ?_
                                                                            exact j_M_one_488  _ _ _
                                                                        · skip
                                                                          refine hp_ite (fun c36 => ?_) (fun c36 => ?_)
                                                                          · refine hp_tabI (tgt := 492) (kv := 39) d_M_one_1 c36 (by decide) (by decide) rfl (by decide) ?_
                                                                            refine hp_aload_n (x0 := 0) d_M_one_492 rfl rfl ?_
                                                                            refine hp_aload_n (x0 := 0) d_M_one_493 rfl rfl ?_
                                                                            refine hp_getR fl_M_7 d_M_one_494 fun x90 => ?_
                                                                            refine hp_iload_n (x0 := 2) d_M_one_497 rfl rfl ?_
                                                                            refine hp_iald d_M_one_498 fun x91 => ?_
                                                                            refine hp_iconst (v := 1) d_M_one_499 (by decide) ?_
                                                                            refine hp_icmp_ne (tgt := 507) d_M_one_500 (by decide) ?_ ?_
                                                                            · refine hp_iconst (v := 1) d_M_one_503 (by decide) ?_
                                                                              refine hp_goto (tgt := 508) d_M_one_504 (by decide) ?_
                                                                              refine hp_sub [] rfl ?_
                                                                              exact j_M_one_508  _ _ _
                                                                            · refine hp_iconst (v := 0) d_M_one_507 (by decide) ?_
                                                                              refine hp_sub [] rfl ?_
                                                                              exact j_M_one_508  _ _ _
                                                                          · skip
                                                                            refine hp_ite (fun c37 => ?_) (fun c37 => ?_)
                                                                            · refine hp_tabI (tgt := 512) (kv := 40) d_M_one_1 c37 (by decide) (by decide) rfl (by decide) ?_
                                                                              refine hp_aload_n (x0 := 0) d_M_one_512 rfl rfl ?_
                                                                              refine hp_aload_n (x0 := 0) d_M_one_513 rfl rfl ?_
                                                                              refine hp_getR fl_M_7 d_M_one_514 fun x92 => ?_
                                                                              refine hp_iload_n (x0 := 2) d_M_one_517 rfl rfl ?_
                                                                              refine hp_iald d_M_one_518 fun x93 => ?_
                                                                              refine hp_iconst (v := 2) d_M_one_519 (by decide) ?_
                                                                              refine hp_icmp_le (tgt := 527) d_M_one_520 (by decide) ?_ ?_
                                                                              · refine hp_iconst (v := 0) d_M_one_527 (by decide) ?_
                                                                                refine hp_sub [] rfl ?_
                                                                                exact j_M_one_528  _ _ _
                                                                              · refine hp_iconst (v := 1) d_M_one_523 (by decide) ?_
                                                                                refine hp_goto (tgt := 528) d_M_one_524 (by decide) ?_
                                                                                refine hp_sub [] rfl ?_
                                                                                exact j_M_one_528  _ _ _
                                                                            · skip
                                                                              refine hp_tabD (tgt := 532) d_M_one_1 (by have e0 := lv_neT c0 (a := 3) (by decide); have e1 := lv_neT c1 (a := 4) (by decide); have e2 := lv_neT c2 (a := 5) (by decide); have e3 := lv_neT c3 (a := 6) (by decide); have e4 := lv_neT c4 (a := 7) (by decide); have e5 := lv_neT c5 (a := 8) (by decide); have e6 := lv_neT c6 (a := 9) (by decide); have e7 := lv_neT c7 (a := 10) (by decide); have e8 := lv_neT c8 (a := 11) (by decide); have e9 := lv_neT c9 (a := 12) (by decide); have e10 := lv_neT c10 (a := 13) (by decide); have e11 := lv_neT c11 (a := 14) (by decide); have e12 := lv_neT c12 (a := 15) (by decide); have e13 := lv_neT c13 (a := 16) (by decide); have e14 := lv_neT c14 (a := 17) (by decide); have e15 := lv_neT c15 (a := 18) (by decide); have e16 := lv_neT c16 (a := 19) (by decide); have e17 := lv_neT c17 (a := 20) (by decide); have e18 := lv_neT c18 (a := 21) (by decide); have e19 := lv_neT c19 (a := 22) (by decide); have e20 := lv_neT c20 (a := 23) (by decide); have e21 := lv_neT c21 (a := 24) (by decide); have e22 := lv_neT c22 (a := 25) (by decide); have e23 := lv_neT c23 (a := 26) (by decide); have e24 := lv_neT c24 (a := 27) (by decide); have e25 := lv_neT c25 (a := 28) (by decide); have e26 := lv_neT c26 (a := 29) (by decide); have e27 := lv_neT c27 (a := 30) (by decide); have e28 := lv_neT c28 (a := 31) (by decide); have e29 := lv_neT c29 (a := 32) (by decide); have e30 := lv_neT c30 (a := 33) (by decide); have e31 := lv_neT c31 (a := 34) (by decide); have e32 := lv_neT c32 (a := 35) (by decide); have e33 := lv_neT c33 (a := 36) (by decide); have e34 := lv_neT c34 (a := 37) (by decide); have e35 := lv_neT c35 (a := 38) (by decide); have e36 := lv_neT c36 (a := 39) (by decide); have e37 := lv_neT c37 (a := 40) (by decide); omega) (by decide) ?_
                                                                              refine hp_aload_n (x0 := 0) d_M_one_532 rfl rfl ?_
                                                                              refine hp_aload_n (x0 := 0) d_M_one_533 rfl rfl ?_
                                                                              refine hp_iload_n (x0 := 2) d_M_one_534 rfl rfl ?_
                                                                              refine hp_callI (hp_crV (ci := 8) (t_M_isNumber _ _ _ _) cw_M_168 rfl ⟨w_1052, ws_47⟩ (by decide) rfl rfl (Nat.le_of_ble_eq_true rfl) d_M_one_535) fun q94 => ?_
                                                                              refine hp_callI (hp_crV (ci := 8) (t_M_truth _ _ _ _) cw_M_185 rfl ⟨w_1003, w_1004⟩ (by decide) rfl rfl (Nat.le_of_ble_eq_true rfl) d_M_one_538) fun q95 => ?_
                                                                              exact hp_iret d_M_one_541 rfl
theorem t_M_one (l : Launch) (E : hp_E) (a0 : Nat) (a1 : Int32) (a2 : Int32) : hp_M l E y_M_one Y_M_one hp_rI [.ref a0, .int a1, .int a2] (m_M_one E.2.2.1 a0 a1 a2) := hp_M.of (plainFor_of_name (by decide)) ⟨rfl, rfl⟩ (Nat.le_of_ble_eq_true rfl) (fun Z h hE => by subst hE; exact j_M_one_0 _ _ _ h)
