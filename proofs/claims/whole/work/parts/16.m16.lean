-- V_truthOf
theorem d_V_truthOf_0 : decode prog_7_method_4_code 0 = .ok (.aload_n 0, 1) := by decide +kernel
theorem d_V_truthOf_1 : decode prog_7_method_4_code 1 = .ok (.getfield 9, 3) := by decide +kernel
theorem d_V_truthOf_4 : decode prog_7_method_4_code 4 = .ok (.bipush 8, 2) := by decide +kernel
theorem d_V_truthOf_6 : decode prog_7_method_4_code 6 = .ok (.if_icmp .ne 8, 3) := by decide +kernel
theorem d_V_truthOf_9 : decode prog_7_method_4_code 9 = .ok (.aload_n 0, 1) := by decide +kernel
theorem d_V_truthOf_10 : decode prog_7_method_4_code 10 = .ok (.getfield 15, 3) := by decide +kernel
theorem d_V_truthOf_13 : decode prog_7_method_4_code 13 = .ok (.ireturn, 1) := by decide +kernel
theorem d_V_truthOf_14 : decode prog_7_method_4_code 14 = .ok (.aload_n 0, 1) := by decide +kernel
theorem d_V_truthOf_15 : decode prog_7_method_4_code 15 = .ok (.invokevirtual 32, 3) := by decide +kernel
theorem d_V_truthOf_18 : decode prog_7_method_4_code 18 = .ok (.ifCond .eq 18, 3) := by decide +kernel
theorem d_V_truthOf_21 : decode prog_7_method_4_code 21 = .ok (.aload_n 0, 1) := by decide +kernel
theorem d_V_truthOf_22 : decode prog_7_method_4_code 22 = .ok (.getfield 18, 3) := by decide +kernel
theorem d_V_truthOf_25 : decode prog_7_method_4_code 25 = .ok (.lconst 0, 1) := by decide +kernel
theorem d_V_truthOf_26 : decode prog_7_method_4_code 26 = .ok (.lcmp, 1) := by decide +kernel
theorem d_V_truthOf_27 : decode prog_7_method_4_code 27 = .ok (.ifCond .eq 7, 3) := by decide +kernel
theorem d_V_truthOf_30 : decode prog_7_method_4_code 30 = .ok (.iconst 1, 1) := by decide +kernel
theorem d_V_truthOf_31 : decode prog_7_method_4_code 31 = .ok (.goto 4, 3) := by decide +kernel
theorem d_V_truthOf_34 : decode prog_7_method_4_code 34 = .ok (.iconst 0, 1) := by decide +kernel
theorem d_V_truthOf_35 : decode prog_7_method_4_code 35 = .ok (.ireturn, 1) := by decide +kernel
theorem d_V_truthOf_36 : decode prog_7_method_4_code 36 = .ok (.aload_n 0, 1) := by decide +kernel
theorem d_V_truthOf_37 : decode prog_7_method_4_code 37 = .ok (.getfield 9, 3) := by decide +kernel
theorem d_V_truthOf_40 : decode prog_7_method_4_code 40 = .ok (.iconst 5, 1) := by decide +kernel
theorem d_V_truthOf_41 : decode prog_7_method_4_code 41 = .ok (.if_icmp .ne 17, 3) := by decide +kernel
theorem d_V_truthOf_44 : decode prog_7_method_4_code 44 = .ok (.aload_n 0, 1) := by decide +kernel
theorem d_V_truthOf_45 : decode prog_7_method_4_code 45 = .ok (.getfield 25, 3) := by decide +kernel
theorem d_V_truthOf_48 : decode prog_7_method_4_code 48 = .ok (.arraylength, 1) := by decide +kernel
theorem d_V_truthOf_49 : decode prog_7_method_4_code 49 = .ok (.ifCond .le 7, 3) := by decide +kernel
theorem d_V_truthOf_52 : decode prog_7_method_4_code 52 = .ok (.iconst 1, 1) := by decide +kernel
theorem d_V_truthOf_53 : decode prog_7_method_4_code 53 = .ok (.goto 4, 3) := by decide +kernel
theorem d_V_truthOf_56 : decode prog_7_method_4_code 56 = .ok (.iconst 0, 1) := by decide +kernel
theorem d_V_truthOf_57 : decode prog_7_method_4_code 57 = .ok (.ireturn, 1) := by decide +kernel
theorem d_V_truthOf_58 : decode prog_7_method_4_code 58 = .ok (.bipush (-4), 2) := by decide +kernel
theorem d_V_truthOf_60 : decode prog_7_method_4_code 60 = .ok (.ireturn, 1) := by decide +kernel
def m_V_truthOf_35 (G : Nat → Nat) (s0 : Int32) (h : hp_H) : Option (Int32 × hp_H) := some (s0, h)
set_option maxRecDepth 100000 in
set_option maxHeartbeats 4000000 in
theorem j_V_truthOf_35 {Z : hp_Z} (s0 : Int32) (h : hp_H) : hp_J Y_V_truthOf Z hp_rI h 35 [] [.int s0] (m_V_truthOf_35 (hp_G Z)  s0 h) := by
  unfold m_V_truthOf_35
  exact hp_iret d_V_truthOf_35 rfl
def m_V_truthOf_57 (G : Nat → Nat) (s0 : Int32) (h : hp_H) : Option (Int32 × hp_H) := some (s0, h)
set_option maxRecDepth 100000 in
set_option maxHeartbeats 4000000 in
theorem j_V_truthOf_57 {Z : hp_Z} (s0 : Int32) (h : hp_H) : hp_J Y_V_truthOf Z hp_rI h 57 [] [.int s0] (m_V_truthOf_57 (hp_G Z)  s0 h) := by
  unfold m_V_truthOf_57
  exact hp_iret d_V_truthOf_57 rfl
def m_V_truthOf (G : Nat → Nat) (a0 : Nat) (h : hp_H) : Option (Int32 × hp_H) := (hp_gI h a0 3 0).bind fun x1 => if x1 = (8 : Int32) then ((hp_gI h a0 3 1).bind fun x7 => some (x7, h)) else ((hp_vck h a0 3 (m_V_isNumber G a0 h)).bind fun q2 => if q2.1 = 0 then ((hp_gI q2.2 a0 3 0).bind fun x3 => if x3 = (5 : Int32) then ((hp_gR q2.2 a0 3 4).bind fun x4 => (hp_len q2.2 x4).bind fun x5 => if x5 ≤ 0 then (m_V_truthOf_57 G (0 : Int32) q2.2) else (m_V_truthOf_57 G (1 : Int32) q2.2)) else (some ((-4 : Int32), q2.2))) else ((hp_gL q2.2 a0 3 2).bind fun x6 => if (lg_cmp x6 (0 : Int64)) = 0 then (m_V_truthOf_35 G (0 : Int32) q2.2) else (m_V_truthOf_35 G (1 : Int32) q2.2)))
set_option maxRecDepth 100000 in
set_option maxHeartbeats 4000000 in
theorem j_V_truthOf_0 {Z : hp_Z} (a0 : Nat) (h : hp_H) : hp_J Y_V_truthOf Z hp_rI h 0 [(0, .ref a0)] [] (m_V_truthOf (hp_G Z)  a0 h) := by
  unfold m_V_truthOf
  refine hp_aload_n (x0 := 0) d_V_truthOf_0 rfl rfl ?_
  refine hp_getI fl_V_9 d_V_truthOf_1 fun x1 => ?_
  refine hp_bipush (v := 8) d_V_truthOf_4 (by decide) ?_
  refine hp_icmp_ne (tgt := 14) d_V_truthOf_6 (by decide) ?_ ?_
  · refine hp_aload_n (x0 := 0) d_V_truthOf_9 rfl rfl ?_
    refine hp_getI fl_V_15 d_V_truthOf_10 fun x7 => ?_
    exact hp_iret d_V_truthOf_13 rfl
  · refine hp_aload_n (x0 := 0) d_V_truthOf_14 rfl rfl ?_
    refine hp_callI (hp_crV (ci := 3) (t_V_isNumber _ _ _) cw_V_32 rfl ⟨w_454, w_455⟩ (by decide) rfl rfl (Nat.le_of_ble_eq_true rfl) d_V_truthOf_15) fun q2 => ?_
    refine hp_if_eq (tgt := 36) d_V_truthOf_18 (by decide) ?_ ?_
    · refine hp_aload_n (x0 := 0) d_V_truthOf_36 rfl rfl ?_
      refine hp_getI fl_V_9 d_V_truthOf_37 fun x3 => ?_
      refine hp_iconst (v := 5) d_V_truthOf_40 (by decide) ?_
      refine hp_icmp_ne (tgt := 58) d_V_truthOf_41 (by decide) ?_ ?_
      · refine hp_aload_n (x0 := 0) d_V_truthOf_44 rfl rfl ?_
        refine hp_getR fl_V_25 d_V_truthOf_45 fun x4 => ?_
        refine hp_alen d_V_truthOf_48 fun x5 => ?_
        refine hp_if_le (tgt := 56) d_V_truthOf_49 (by decide) ?_ ?_
        · refine hp_iconst (v := 0) d_V_truthOf_56 (by decide) ?_
          refine hp_sub [] rfl ?_
          exact j_V_truthOf_57  _ _
        · refine hp_iconst (v := 1) d_V_truthOf_52 (by decide) ?_
          refine hp_goto (tgt := 57) d_V_truthOf_53 (by decide) ?_
          refine hp_sub [] rfl ?_
          exact j_V_truthOf_57  _ _
      · refine hp_bipush (v := -4) d_V_truthOf_58 (by decide) ?_
        exact hp_iret d_V_truthOf_60 rfl
    · refine hp_aload_n (x0 := 0) d_V_truthOf_21 rfl rfl ?_
      refine hp_getL fl_V_18 d_V_truthOf_22 fun x6 => ?_
      refine hp_lconst (v := 0) d_V_truthOf_25 (by decide) ?_
      refine hp_lcmp d_V_truthOf_26 ?_
      refine hp_if_eq (tgt := 34) d_V_truthOf_27 (by decide) ?_ ?_
      · refine hp_iconst (v := 0) d_V_truthOf_34 (by decide) ?_
        refine hp_sub [] rfl ?_
        exact j_V_truthOf_35  _ _
      · refine hp_iconst (v := 1) d_V_truthOf_30 (by decide) ?_
        refine hp_goto (tgt := 35) d_V_truthOf_31 (by decide) ?_
        refine hp_sub [] rfl ?_
        exact j_V_truthOf_35  _ _
theorem t_V_truthOf (l : Launch) (E : hp_E) (a0 : Nat) : hp_M l E y_V_truthOf Y_V_truthOf hp_rI [.ref a0] (m_V_truthOf E.2.2.1 a0) := hp_M.of (plainFor_of_name (by decide)) ⟨rfl, rfl⟩ (Nat.le_of_ble_eq_true rfl) (fun Z h hE => by subst hE; exact j_V_truthOf_0 _ h)
-- E_performOnValues
theorem d_E_performOnValues_0 : decode prog_2_method_14_code 0 = .ok (.iload_n 1, 1) := by decide +kernel
theorem d_E_performOnValues_1 : decode prog_2_method_14_code 1 = .ok (.iconst 3, 1) := by decide +kernel
theorem d_E_performOnValues_2 : decode prog_2_method_14_code 2 = .ok (.if_icmp .ne 17, 3) := by decide +kernel
theorem d_E_performOnValues_5 : decode prog_2_method_14_code 5 = .ok (.aload_n 0, 1) := by decide +kernel
theorem d_E_performOnValues_6 : decode prog_2_method_14_code 6 = .ok (.aload_n 0, 1) := by decide +kernel
theorem d_E_performOnValues_7 : decode prog_2_method_14_code 7 = .ok (.iconst 0, 1) := by decide +kernel
theorem d_E_performOnValues_8 : decode prog_2_method_14_code 8 = .ok (.invokevirtual 90, 3) := by decide +kernel
theorem d_E_performOnValues_11 : decode prog_2_method_14_code 11 = .ok (.invokevirtual 117, 3) := by decide +kernel
theorem d_E_performOnValues_14 : decode prog_2_method_14_code 14 = .ok (.iconst 0, 1) := by decide +kernel
theorem d_E_performOnValues_15 : decode prog_2_method_14_code 15 = .ok (.invokevirtual 120, 3) := by decide +kernel
theorem d_E_performOnValues_18 : decode prog_2_method_14_code 18 = .ok (.ireturn, 1) := by decide +kernel
theorem d_E_performOnValues_19 : decode prog_2_method_14_code 19 = .ok (.iload_n 1, 1) := by decide +kernel
theorem d_E_performOnValues_20 : decode prog_2_method_14_code 20 = .ok (.bipush 6, 2) := by decide +kernel
theorem d_E_performOnValues_22 : decode prog_2_method_14_code 22 = .ok (.if_icmp .eq 9, 3) := by decide +kernel
theorem d_E_performOnValues_25 : decode prog_2_method_14_code 25 = .ok (.iload_n 1, 1) := by decide +kernel
theorem d_E_performOnValues_26 : decode prog_2_method_14_code 26 = .ok (.bipush 7, 2) := by decide +kernel
theorem d_E_performOnValues_28 : decode prog_2_method_14_code 28 = .ok (.if_icmp .ne 33, 3) := by decide +kernel
theorem d_E_performOnValues_31 : decode prog_2_method_14_code 31 = .ok (.aload_n 0, 1) := by decide +kernel
theorem d_E_performOnValues_32 : decode prog_2_method_14_code 32 = .ok (.aload_n 0, 1) := by decide +kernel
theorem d_E_performOnValues_33 : decode prog_2_method_14_code 33 = .ok (.aload_n 0, 1) := by decide +kernel
theorem d_E_performOnValues_34 : decode prog_2_method_14_code 34 = .ok (.iconst 0, 1) := by decide +kernel
theorem d_E_performOnValues_35 : decode prog_2_method_14_code 35 = .ok (.invokevirtual 82, 3) := by decide +kernel
theorem d_E_performOnValues_38 : decode prog_2_method_14_code 38 = .ok (.aload_n 0, 1) := by decide +kernel
theorem d_E_performOnValues_39 : decode prog_2_method_14_code 39 = .ok (.iconst 1, 1) := by decide +kernel
theorem d_E_performOnValues_40 : decode prog_2_method_14_code 40 = .ok (.invokevirtual 82, 3) := by decide +kernel
theorem d_E_performOnValues_43 : decode prog_2_method_14_code 43 = .ok (.invokevirtual 123, 3) := by decide +kernel
theorem d_E_performOnValues_46 : decode prog_2_method_14_code 46 = .ok (.iload_n 1, 1) := by decide +kernel
theorem d_E_performOnValues_47 : decode prog_2_method_14_code 47 = .ok (.bipush 6, 2) := by decide +kernel
theorem d_E_performOnValues_49 : decode prog_2_method_14_code 49 = .ok (.if_icmp .ne 7, 3) := by decide +kernel
theorem d_E_performOnValues_52 : decode prog_2_method_14_code 52 = .ok (.iconst 1, 1) := by decide +kernel
theorem d_E_performOnValues_53 : decode prog_2_method_14_code 53 = .ok (.goto 4, 3) := by decide +kernel
theorem d_E_performOnValues_56 : decode prog_2_method_14_code 56 = .ok (.iconst 0, 1) := by decide +kernel
theorem d_E_performOnValues_57 : decode prog_2_method_14_code 57 = .ok (.invokevirtual 120, 3) := by decide +kernel
theorem d_E_performOnValues_60 : decode prog_2_method_14_code 60 = .ok (.ireturn, 1) := by decide +kernel
theorem d_E_performOnValues_61 : decode prog_2_method_14_code 61 = .ok (.iload_n 1, 1) := by decide +kernel
theorem d_E_performOnValues_62 : decode prog_2_method_14_code 62 = .ok (.bipush 12, 2) := by decide +kernel
theorem d_E_performOnValues_64 : decode prog_2_method_14_code 64 = .ok (.if_icmp .ne 29, 3) := by decide +kernel
theorem d_E_performOnValues_67 : decode prog_2_method_14_code 67 = .ok (.aload_n 0, 1) := by decide +kernel
theorem d_E_performOnValues_68 : decode prog_2_method_14_code 68 = .ok (.getfield 38, 3) := by decide +kernel
theorem d_E_performOnValues_71 : decode prog_2_method_14_code 71 = .ok (.aload_n 0, 1) := by decide +kernel
theorem d_E_performOnValues_72 : decode prog_2_method_14_code 72 = .ok (.iconst 0, 1) := by decide +kernel
theorem d_E_performOnValues_73 : decode prog_2_method_14_code 73 = .ok (.invokevirtual 82, 3) := by decide +kernel
theorem d_E_performOnValues_76 : decode prog_2_method_14_code 76 = .ok (.aload_n 0, 1) := by decide +kernel
theorem d_E_performOnValues_77 : decode prog_2_method_14_code 77 = .ok (.iconst 1, 1) := by decide +kernel
theorem d_E_performOnValues_78 : decode prog_2_method_14_code 78 = .ok (.invokevirtual 82, 3) := by decide +kernel
theorem d_E_performOnValues_81 : decode prog_2_method_14_code 81 = .ok (.if_icmp .ne 7, 3) := by decide +kernel
theorem d_E_performOnValues_84 : decode prog_2_method_14_code 84 = .ok (.iconst 1, 1) := by decide +kernel
theorem d_E_performOnValues_85 : decode prog_2_method_14_code 85 = .ok (.goto 4, 3) := by decide +kernel
theorem d_E_performOnValues_88 : decode prog_2_method_14_code 88 = .ok (.iconst 0, 1) := by decide +kernel
theorem d_E_performOnValues_89 : decode prog_2_method_14_code 89 = .ok (.invokevirtual 101, 3) := by decide +kernel
theorem d_E_performOnValues_92 : decode prog_2_method_14_code 92 = .ok (.ireturn, 1) := by decide +kernel
theorem d_E_performOnValues_93 : decode prog_2_method_14_code 93 = .ok (.iload_n 1, 1) := by decide +kernel
theorem d_E_performOnValues_94 : decode prog_2_method_14_code 94 = .ok (.bipush 12, 2) := by decide +kernel
theorem d_E_performOnValues_96 : decode prog_2_method_14_code 96 = .ok (.if_icmp .ge 9, 3) := by decide +kernel
theorem d_E_performOnValues_99 : decode prog_2_method_14_code 99 = .ok (.aload_n 0, 1) := by decide +kernel
theorem d_E_performOnValues_100 : decode prog_2_method_14_code 100 = .ok (.iload_n 1, 1) := by decide +kernel
theorem d_E_performOnValues_101 : decode prog_2_method_14_code 101 = .ok (.invokevirtual 126, 3) := by decide +kernel
theorem d_E_performOnValues_104 : decode prog_2_method_14_code 104 = .ok (.ireturn, 1) := by decide +kernel
theorem d_E_performOnValues_105 : decode prog_2_method_14_code 105 = .ok (.iload_n 1, 1) := by decide +kernel
theorem d_E_performOnValues_106 : decode prog_2_method_14_code 106 = .ok (.bipush 16, 2) := by decide +kernel
theorem d_E_performOnValues_108 : decode prog_2_method_14_code 108 = .ok (.if_icmp .gt 9, 3) := by decide +kernel
theorem d_E_performOnValues_111 : decode prog_2_method_14_code 111 = .ok (.aload_n 0, 1) := by decide +kernel
theorem d_E_performOnValues_112 : decode prog_2_method_14_code 112 = .ok (.iload_n 1, 1) := by decide +kernel
theorem d_E_performOnValues_113 : decode prog_2_method_14_code 113 = .ok (.invokevirtual 129, 3) := by decide +kernel
theorem d_E_performOnValues_116 : decode prog_2_method_14_code 116 = .ok (.ireturn, 1) := by decide +kernel
theorem d_E_performOnValues_117 : decode prog_2_method_14_code 117 = .ok (.iload_n 1, 1) := by decide +kernel
theorem d_E_performOnValues_118 : decode prog_2_method_14_code 118 = .ok (.bipush 21, 2) := by decide +kernel
theorem d_E_performOnValues_120 : decode prog_2_method_14_code 120 = .ok (.if_icmp .gt 9, 3) := by decide +kernel
theorem d_E_performOnValues_123 : decode prog_2_method_14_code 123 = .ok (.aload_n 0, 1) := by decide +kernel
theorem d_E_performOnValues_124 : decode prog_2_method_14_code 124 = .ok (.iload_n 1, 1) := by decide +kernel
theorem d_E_performOnValues_125 : decode prog_2_method_14_code 125 = .ok (.invokevirtual 132, 3) := by decide +kernel
theorem d_E_performOnValues_128 : decode prog_2_method_14_code 128 = .ok (.ireturn, 1) := by decide +kernel
theorem d_E_performOnValues_129 : decode prog_2_method_14_code 129 = .ok (.iload_n 1, 1) := by decide +kernel
theorem d_E_performOnValues_130 : decode prog_2_method_14_code 130 = .ok (.bipush 29, 2) := by decide +kernel
theorem d_E_performOnValues_132 : decode prog_2_method_14_code 132 = .ok (.if_icmp .ne 9, 3) := by decide +kernel
theorem d_E_performOnValues_135 : decode prog_2_method_14_code 135 = .ok (.aload_n 0, 1) := by decide +kernel
theorem d_E_performOnValues_136 : decode prog_2_method_14_code 136 = .ok (.iload_n 2, 1) := by decide +kernel
theorem d_E_performOnValues_137 : decode prog_2_method_14_code 137 = .ok (.invokevirtual 135, 3) := by decide +kernel
theorem d_E_performOnValues_140 : decode prog_2_method_14_code 140 = .ok (.ireturn, 1) := by decide +kernel
theorem d_E_performOnValues_141 : decode prog_2_method_14_code 141 = .ok (.iload_n 1, 1) := by decide +kernel
theorem d_E_performOnValues_142 : decode prog_2_method_14_code 142 = .ok (.bipush 29, 2) := by decide +kernel
theorem d_E_performOnValues_144 : decode prog_2_method_14_code 144 = .ok (.if_icmp .ge 9, 3) := by decide +kernel
theorem d_E_performOnValues_147 : decode prog_2_method_14_code 147 = .ok (.aload_n 0, 1) := by decide +kernel
theorem d_E_performOnValues_148 : decode prog_2_method_14_code 148 = .ok (.iload_n 1, 1) := by decide +kernel
theorem d_E_performOnValues_149 : decode prog_2_method_14_code 149 = .ok (.invokevirtual 138, 3) := by decide +kernel
theorem d_E_performOnValues_152 : decode prog_2_method_14_code 152 = .ok (.ireturn, 1) := by decide +kernel
theorem d_E_performOnValues_153 : decode prog_2_method_14_code 153 = .ok (.iload_n 1, 1) := by decide +kernel
theorem d_E_performOnValues_154 : decode prog_2_method_14_code 154 = .ok (.bipush 34, 2) := by decide +kernel
theorem d_E_performOnValues_156 : decode prog_2_method_14_code 156 = .ok (.if_icmp .gt 11, 3) := by decide +kernel
theorem d_E_performOnValues_159 : decode prog_2_method_14_code 159 = .ok (.aload_n 0, 1) := by decide +kernel
theorem d_E_performOnValues_160 : decode prog_2_method_14_code 160 = .ok (.iload_n 1, 1) := by decide +kernel
theorem d_E_performOnValues_161 : decode prog_2_method_14_code 161 = .ok (.invokevirtual 141, 3) := by decide +kernel
theorem d_E_performOnValues_164 : decode prog_2_method_14_code 164 = .ok (.goto 8, 3) := by decide +kernel
theorem d_E_performOnValues_167 : decode prog_2_method_14_code 167 = .ok (.aload_n 0, 1) := by decide +kernel
theorem d_E_performOnValues_168 : decode prog_2_method_14_code 168 = .ok (.iload_n 1, 1) := by decide +kernel
theorem d_E_performOnValues_169 : decode prog_2_method_14_code 169 = .ok (.invokevirtual 144, 3) := by decide +kernel
theorem d_E_performOnValues_172 : decode prog_2_method_14_code 172 = .ok (.ireturn, 1) := by decide +kernel
def m_E_performOnValues_57 (G : Nat → Nat) (s0 : Int32) (s1 : Int32) (s2 : Nat) (h : hp_H) : Option (Int32 × hp_H) := (hp_vck h s2 5 (m_E_judged G s2 s1 s0 h)).bind fun q1 => some (q1.1, q1.2)
set_option maxRecDepth 100000 in
set_option maxHeartbeats 4000000 in
theorem j_E_performOnValues_57 {Z : hp_Z} (s0 : Int32) (s1 : Int32) (s2 : Nat) (h : hp_H) : hp_J Y_E_performOnValues Z hp_rI h 57 [] [.int s0, .int s1, .ref s2] (m_E_performOnValues_57 (hp_G Z)  s0 s1 s2 h) := by
  unfold m_E_performOnValues_57
  refine hp_callI (hp_crV (ci := 5) (t_E_judged _ _ _ _ _) cw_E_120 rfl ⟨w_588, ws_17⟩ (by decide) rfl rfl (Nat.le_of_ble_eq_true rfl) d_E_performOnValues_57) fun q1 => ?_
  exact hp_iret d_E_performOnValues_60 rfl
def m_E_performOnValues_31 (G : Nat → Nat) (a0 : Nat) (a1 : Int32) (h : hp_H) : Option (Int32 × hp_H) := (hp_vck h a0 5 (m_E_numberTaken G a0 (0 : Int32) h)).bind fun q1 => (hp_vck q1.2 a0 5 (m_E_numberTaken G a0 (1 : Int32) q1.2)).bind fun q2 => (hp_vck q2.2 a0 5 (m_E_equal G a0 q1.1 q2.1 q2.2)).bind fun q3 => if a1 = (6 : Int32) then (m_E_performOnValues_57 G (1 : Int32) q3.1 a0 q3.2) else (m_E_performOnValues_57 G (0 : Int32) q3.1 a0 q3.2)
set_option maxRecDepth 100000 in
set_option maxHeartbeats 4000000 in
theorem j_E_performOnValues_31 {Z : hp_Z} (a0 : Nat) (a1 : Int32) (h : hp_H) : hp_J Y_E_performOnValues Z hp_rI h 31 [(0, .ref a0), (1, .int a1)] [] (m_E_performOnValues_31 (hp_G Z)  a0 a1 h) := by
  unfold m_E_performOnValues_31
  refine hp_aload_n (x0 := 0) d_E_performOnValues_31 rfl rfl ?_
  refine hp_aload_n (x0 := 0) d_E_performOnValues_32 rfl rfl ?_
  refine hp_aload_n (x0 := 0) d_E_performOnValues_33 rfl rfl ?_
  refine hp_iconst (v := 0) d_E_performOnValues_34 (by decide) ?_
  refine hp_callI (hp_crV (ci := 5) (t_E_numberTaken _ _ _ _) cw_E_82 rfl ⟨w_554, ws_10⟩ (by decide) rfl rfl (Nat.le_of_ble_eq_true rfl) d_E_performOnValues_35) fun q1 => ?_
  refine hp_aload_n (x0 := 0) d_E_performOnValues_38 rfl rfl ?_
  refine hp_iconst (v := 1) d_E_performOnValues_39 (by decide) ?_
  refine hp_callI (hp_crV (ci := 5) (t_E_numberTaken _ _ _ _) cw_E_82 rfl ⟨w_554, ws_10⟩ (by decide) rfl rfl (Nat.le_of_ble_eq_true rfl) d_E_performOnValues_40) fun q2 => ?_
  refine hp_callI (hp_crV (ci := 5) (t_E_equal _ _ _ _ _) cw_E_123 rfl ⟨w_574, ws_14⟩ (by decide) rfl rfl (Nat.le_of_ble_eq_true rfl) d_E_performOnValues_43) fun q3 => ?_
  refine hp_iload_n (x0 := 1) d_E_performOnValues_46 rfl rfl ?_
  refine hp_bipush (v := 6) d_E_performOnValues_47 (by decide) ?_
  refine hp_icmp_ne (tgt := 56) d_E_performOnValues_49 (by decide) ?_ ?_
  · refine hp_iconst (v := 1) d_E_performOnValues_52 (by decide) ?_
    refine hp_goto (tgt := 57) d_E_performOnValues_53 (by decide) ?_
    refine hp_sub [] rfl ?_
    exact j_E_performOnValues_57  _ _ _ _
  · refine hp_iconst (v := 0) d_E_performOnValues_56 (by decide) ?_
    refine hp_sub [] rfl ?_
    exact j_E_performOnValues_57  _ _ _ _
def m_E_performOnValues_89 (G : Nat → Nat) (s0 : Int32) (s1 : Nat) (h : hp_H) : Option (Int32 × hp_H) := (hp_vck h s1 1 (m_S_keepTruth G s1 s0 h)).bind fun q1 => some (q1.1, q1.2)
set_option maxRecDepth 100000 in
set_option maxHeartbeats 4000000 in
theorem j_E_performOnValues_89 {Z : hp_Z} (s0 : Int32) (s1 : Nat) (h : hp_H) : hp_J Y_E_performOnValues Z hp_rI h 89 [] [.int s0, .ref s1] (m_E_performOnValues_89 (hp_G Z)  s0 s1 h) := by
  unfold m_E_performOnValues_89
  refine hp_callI (hp_crV (ci := 1) (t_S_keepTruth _ _ _ _) cw_E_101 rfl ⟨w_391, w_392⟩ (by decide) rfl rfl (Nat.le_of_ble_eq_true rfl) d_E_performOnValues_89) fun q1 => ?_
  exact hp_iret d_E_performOnValues_92 rfl
def m_E_performOnValues_172 (G : Nat → Nat) (s0 : Int32) (h : hp_H) : Option (Int32 × hp_H) := some (s0, h)
set_option maxRecDepth 100000 in
set_option maxHeartbeats 4000000 in
theorem j_E_performOnValues_172 {Z : hp_Z} (s0 : Int32) (h : hp_H) : hp_J Y_E_performOnValues Z hp_rI h 172 [] [.int s0] (m_E_performOnValues_172 (hp_G Z)  s0 h) := by
  unfold m_E_performOnValues_172
  exact hp_iret d_E_performOnValues_172 rfl
def m_E_performOnValues (G : Nat → Nat) (a0 : Nat) (a1 : Int32) (a2 : Int32) (h : hp_H) : Option (Int32 × hp_H) := if a1 = (3 : Int32) then ((hp_vck h a0 5 (m_E_taken G a0 (0 : Int32) h)).bind fun q11 => (hp_vck q11.2 q11.1 3 (m_V_truthOf G q11.1 q11.2)).bind fun q12 => (hp_vck q12.2 a0 5 (m_E_judged G a0 q12.1 (0 : Int32) q12.2)).bind fun q13 => some (q13.1, q13.2)) else (if a1 = (6 : Int32) then (m_E_performOnValues_31 G a0 a1 h) else (if a1 = (7 : Int32) then (m_E_performOnValues_31 G a0 a1 h) else (if a1 = (12 : Int32) then ((hp_gR h a0 5 0).bind fun x8 => (hp_vck h a0 5 (m_E_numberTaken G a0 (0 : Int32) h)).bind fun q9 => (hp_vck q9.2 a0 5 (m_E_numberTaken G a0 (1 : Int32) q9.2)).bind fun q10 => if q9.1 = q10.1 then (m_E_performOnValues_89 G (1 : Int32) x8 q10.2) else (m_E_performOnValues_89 G (0 : Int32) x8 q10.2)) else (if (12 : Int32) ≤ a1 then (if (16 : Int32) < a1 then (if (21 : Int32) < a1 then (if a1 = (29 : Int32) then ((hp_vck h a0 5 (m_E_chained G a0 a2 h)).bind fun q4 => some (q4.1, q4.2)) else (if (29 : Int32) ≤ a1 then (if (34 : Int32) < a1 then ((hp_vck h a0 5 (m_E_ofAny G a0 a1 h)).bind fun q1 => m_E_performOnValues_172 G q1.1 q1.2) else ((hp_vck h a0 5 (m_E_searched G a0 a1 h)).bind fun q2 => m_E_performOnValues_172 G q2.1 q2.2)) else ((hp_vck h a0 5 (m_E_ofText G a0 a1 h)).bind fun q3 => some (q3.1, q3.2)))) else ((hp_vck h a0 5 (m_E_ofNumber G a0 a1 h)).bind fun q5 => some (q5.1, q5.2))) else ((hp_vck h a0 5 (m_E_reckoned G a0 a1 h)).bind fun q6 => some (q6.1, q6.2))) else ((hp_vck h a0 5 (m_E_compared G a0 a1 h)).bind fun q7 => some (q7.1, q7.2))))))
set_option maxRecDepth 100000 in
set_option maxHeartbeats 4000000 in
theorem j_E_performOnValues_0 {Z : hp_Z} (a0 : Nat) (a1 : Int32) (a2 : Int32) (h : hp_H) : hp_J Y_E_performOnValues Z hp_rI h 0 [(0, .ref a0), (1, .int a1), (2, .int a2)] [] (m_E_performOnValues (hp_G Z)  a0 a1 a2 h) := by
  unfold m_E_performOnValues
  refine hp_iload_n (x0 := 1) d_E_performOnValues_0 rfl rfl ?_
  refine hp_iconst (v := 3) d_E_performOnValues_1 (by decide) ?_
  refine hp_icmp_ne (tgt := 19) d_E_performOnValues_2 (by decide) ?_ ?_
  · refine hp_aload_n (x0 := 0) d_E_performOnValues_5 rfl rfl ?_
    refine hp_aload_n (x0 := 0) d_E_performOnValues_6 rfl rfl ?_
    refine hp_iconst (v := 0) d_E_performOnValues_7 (by decide) ?_
    refine hp_callR (hp_crV (ci := 5) (t_E_taken _ _ _ _) cw_E_90 rfl ⟨w_550, ws_9⟩ (by decide) rfl rfl (Nat.le_of_ble_eq_true rfl) d_E_performOnValues_8) fun q11 => ?_
    refine hp_callI (hp_crV (ci := 3) (t_V_truthOf _ _ _) cw_E_117 rfl ⟨w_557, w_558⟩ (by decide) rfl rfl (Nat.le_of_ble_eq_true rfl) d_E_performOnValues_11) fun q12 => ?_
    refine hp_iconst (v := 0) d_E_performOnValues_14 (by decide) ?_
    refine hp_callI (hp_crV (ci := 5) (t_E_judged _ _ _ _ _) cw_E_120 rfl ⟨w_588, ws_17⟩ (by decide) rfl rfl (Nat.le_of_ble_eq_true rfl) d_E_performOnValues_15) fun q13 => ?_
    exact hp_iret d_E_performOnValues_18 rfl
  · refine hp_iload_n (x0 := 1) d_E_performOnValues_19 rfl rfl ?_
    refine hp_bipush (v := 6) d_E_performOnValues_20 (by decide) ?_
    refine hp_icmp_eq (tgt := 31) d_E_performOnValues_22 (by decide) ?_ ?_
    · refine hp_sub [0, 1] rfl ?_
      exact j_E_performOnValues_31  _ _ _
    · refine hp_iload_n (x0 := 1) d_E_performOnValues_25 rfl rfl ?_
      refine hp_bipush (v := 7) d_E_performOnValues_26 (by decide) ?_
      refine hp_icmp_ne (tgt := 61) d_E_performOnValues_28 (by decide) ?_ ?_
      · refine hp_sub [0, 1] rfl ?_
        exact j_E_performOnValues_31  _ _ _
      · refine hp_iload_n (x0 := 1) d_E_performOnValues_61 rfl rfl ?_
        refine hp_bipush (v := 12) d_E_performOnValues_62 (by decide) ?_
        refine hp_icmp_ne (tgt := 93) d_E_performOnValues_64 (by decide) ?_ ?_
        · refine hp_aload_n (x0 := 0) d_E_performOnValues_67 rfl rfl ?_
          refine hp_getR fl_E_38 d_E_performOnValues_68 fun x8 => ?_
          refine hp_aload_n (x0 := 0) d_E_performOnValues_71 rfl rfl ?_
          refine hp_iconst (v := 0) d_E_performOnValues_72 (by decide) ?_
          refine hp_callI (hp_crV (ci := 5) (t_E_numberTaken _ _ _ _) cw_E_82 rfl ⟨w_554, ws_10⟩ (by decide) rfl rfl (Nat.le_of_ble_eq_true rfl) d_E_performOnValues_73) fun q9 => ?_
          refine hp_aload_n (x0 := 0) d_E_performOnValues_76 rfl rfl ?_
          refine hp_iconst (v := 1) d_E_performOnValues_77 (by decide) ?_
          refine hp_callI (hp_crV (ci := 5) (t_E_numberTaken _ _ _ _) cw_E_82 rfl ⟨w_554, ws_10⟩ (by decide) rfl rfl (Nat.le_of_ble_eq_true rfl) d_E_performOnValues_78) fun q10 => ?_
          refine hp_icmp_ne (tgt := 88) d_E_performOnValues_81 (by decide) ?_ ?_
          · refine hp_iconst (v := 1) d_E_performOnValues_84 (by decide) ?_
            refine hp_goto (tgt := 89) d_E_performOnValues_85 (by decide) ?_
            refine hp_sub [] rfl ?_
            exact j_E_performOnValues_89  _ _ _
          · refine hp_iconst (v := 0) d_E_performOnValues_88 (by decide) ?_
            refine hp_sub [] rfl ?_
            exact j_E_performOnValues_89  _ _ _
        · refine hp_iload_n (x0 := 1) d_E_performOnValues_93 rfl rfl ?_
          refine hp_bipush (v := 12) d_E_performOnValues_94 (by decide) ?_
          refine hp_icmp_ge (tgt := 105) d_E_performOnValues_96 (by decide) ?_ ?_
          · refine hp_iload_n (x0 := 1) d_E_performOnValues_105 rfl rfl ?_
            refine hp_bipush (v := 16) d_E_performOnValues_106 (by decide) ?_
            refine hp_icmp_gt (tgt := 117) d_E_performOnValues_108 (by decide) ?_ ?_
            · refine hp_iload_n (x0 := 1) d_E_performOnValues_117 rfl rfl ?_
              refine hp_bipush (v := 21) d_E_performOnValues_118 (by decide) ?_
              refine hp_icmp_gt (tgt := 129) d_E_performOnValues_120 (by decide) ?_ ?_
              · refine hp_iload_n (x0 := 1) d_E_performOnValues_129 rfl rfl ?_
                refine hp_bipush (v := 29) d_E_performOnValues_130 (by decide) ?_
                refine hp_icmp_ne (tgt := 141) d_E_performOnValues_132 (by decide) ?_ ?_
                · refine hp_aload_n (x0 := 0) d_E_performOnValues_135 rfl rfl ?_
                  refine hp_iload_n (x0 := 2) d_E_performOnValues_136 rfl rfl ?_
                  refine hp_callI (hp_crV (ci := 5) (t_E_chained _ _ _ _) cw_E_135 rfl ⟨w_647, ws_22⟩ (by decide) rfl rfl (Nat.le_of_ble_eq_true rfl) d_E_performOnValues_137) fun q4 => ?_
                  exact hp_iret d_E_performOnValues_140 rfl
                · refine hp_iload_n (x0 := 1) d_E_performOnValues_141 rfl rfl ?_
                  refine hp_bipush (v := 29) d_E_performOnValues_142 (by decide) ?_
                  refine hp_icmp_ge (tgt := 153) d_E_performOnValues_144 (by decide) ?_ ?_
                  · refine hp_iload_n (x0 := 1) d_E_performOnValues_153 rfl rfl ?_
                    refine hp_bipush (v := 34) d_E_performOnValues_154 (by decide) ?_
                    refine hp_icmp_gt (tgt := 167) d_E_performOnValues_156 (by decide) ?_ ?_
                    · refine hp_aload_n (x0 := 0) d_E_performOnValues_167 rfl rfl ?_
                      refine hp_iload_n (x0 := 1) d_E_performOnValues_168 rfl rfl ?_
                      refine hp_callI (hp_crV (ci := 5) (t_E_ofAny _ _ _ _) cw_E_144 rfl ⟨w_696, ws_28⟩ (by decide) rfl rfl (Nat.le_of_ble_eq_true rfl) d_E_performOnValues_169) fun q1 => ?_
                      refine hp_sub [] rfl ?_
                      exact j_E_performOnValues_172  _ _
                    · refine hp_aload_n (x0 := 0) d_E_performOnValues_159 rfl rfl ?_
                      refine hp_iload_n (x0 := 1) d_E_performOnValues_160 rfl rfl ?_
                      refine hp_callI (hp_crV (ci := 5) (t_E_searched _ _ _ _) cw_E_141 rfl ⟨w_682, ws_26⟩ (by decide) rfl rfl (Nat.le_of_ble_eq_true rfl) d_E_performOnValues_161) fun q2 => ?_
                      refine hp_goto (tgt := 172) d_E_performOnValues_164 (by decide) ?_
                      refine hp_sub [] rfl ?_
                      exact j_E_performOnValues_172  _ _
                  · refine hp_aload_n (x0 := 0) d_E_performOnValues_147 rfl rfl ?_
                    refine hp_iload_n (x0 := 1) d_E_performOnValues_148 rfl rfl ?_
                    refine hp_callI (hp_crV (ci := 5) (t_E_ofText _ _ _ _) cw_E_138 rfl ⟨w_663, ws_23⟩ (by decide) rfl rfl (Nat.le_of_ble_eq_true rfl) d_E_performOnValues_149) fun q3 => ?_
                    exact hp_iret d_E_performOnValues_152 rfl
              · refine hp_aload_n (x0 := 0) d_E_performOnValues_123 rfl rfl ?_
                refine hp_iload_n (x0 := 1) d_E_performOnValues_124 rfl rfl ?_
                refine hp_callI (hp_crV (ci := 5) (t_E_ofNumber _ _ _ _) cw_E_132 rfl ⟨w_637, ws_21⟩ (by decide) rfl rfl (Nat.le_of_ble_eq_true rfl) d_E_performOnValues_125) fun q5 => ?_
                exact hp_iret d_E_performOnValues_128 rfl
            · refine hp_aload_n (x0 := 0) d_E_performOnValues_111 rfl rfl ?_
              refine hp_iload_n (x0 := 1) d_E_performOnValues_112 rfl rfl ?_
              refine hp_callI (hp_crV (ci := 5) (t_E_reckoned _ _ _ _) cw_E_129 rfl ⟨w_597, ws_19⟩ (by decide) rfl rfl (Nat.le_of_ble_eq_true rfl) d_E_performOnValues_113) fun q6 => ?_
              exact hp_iret d_E_performOnValues_116 rfl
          · refine hp_aload_n (x0 := 0) d_E_performOnValues_99 rfl rfl ?_
            refine hp_iload_n (x0 := 1) d_E_performOnValues_100 rfl rfl ?_
            refine hp_callI (hp_crV (ci := 5) (t_E_compared _ _ _ _) cw_E_126 rfl ⟨w_592, ws_18⟩ (by decide) rfl rfl (Nat.le_of_ble_eq_true rfl) d_E_performOnValues_101) fun q7 => ?_
            exact hp_iret d_E_performOnValues_104 rfl
theorem t_E_performOnValues (l : Launch) (E : hp_E) (a0 : Nat) (a1 : Int32) (a2 : Int32) : hp_M l E y_E_performOnValues Y_E_performOnValues hp_rI [.ref a0, .int a1, .int a2] (m_E_performOnValues E.2.2.1 a0 a1 a2) := hp_M.of (plainFor_of_name (by decide)) ⟨rfl, rfl⟩ (Nat.le_of_ble_eq_true rfl) (fun Z h hE => by subst hE; exact j_E_performOnValues_0 _ _ _ h)
-- E_among
theorem d_E_among_0 : decode prog_2_method_20_code 0 = .ok (.aload_n 0, 1) := by decide +kernel
theorem d_E_among_1 : decode prog_2_method_20_code 1 = .ok (.iconst 0, 1) := by decide +kernel
theorem d_E_among_2 : decode prog_2_method_20_code 2 = .ok (.invokevirtual 90, 3) := by decide +kernel
theorem d_E_among_5 : decode prog_2_method_20_code 5 = .ok (.getfield 93, 3) := by decide +kernel
theorem d_E_among_8 : decode prog_2_method_20_code 8 = .ok (.ifCond .ne 6, 3) := by decide +kernel
theorem d_E_among_11 : decode prog_2_method_20_code 11 = .ok (.bipush (-4), 2) := by decide +kernel
theorem d_E_among_13 : decode prog_2_method_20_code 13 = .ok (.ireturn, 1) := by decide +kernel
theorem d_E_among_14 : decode prog_2_method_20_code 14 = .ok (.iconst 0, 1) := by decide +kernel
theorem d_E_among_15 : decode prog_2_method_20_code 15 = .ok (.istore_n 2, 1) := by decide +kernel
theorem d_E_among_16 : decode prog_2_method_20_code 16 = .ok (.iconst 1, 1) := by decide +kernel
theorem d_E_among_17 : decode prog_2_method_20_code 17 = .ok (.istore_n 3, 1) := by decide +kernel
theorem d_E_among_18 : decode prog_2_method_20_code 18 = .ok (.iload_n 3, 1) := by decide +kernel
theorem d_E_among_19 : decode prog_2_method_20_code 19 = .ok (.iload_n 1, 1) := by decide +kernel
theorem d_E_among_20 : decode prog_2_method_20_code 20 = .ok (.if_icmp .gt 63, 3) := by decide +kernel
theorem d_E_among_23 : decode prog_2_method_20_code 23 = .ok (.iload_n 3, 1) := by decide +kernel
theorem d_E_among_24 : decode prog_2_method_20_code 24 = .ok (.bipush 20, 2) := by decide +kernel
theorem d_E_among_26 : decode prog_2_method_20_code 26 = .ok (.if_icmp .gt 57, 3) := by decide +kernel
theorem d_E_among_29 : decode prog_2_method_20_code 29 = .ok (.aload_n 0, 1) := by decide +kernel
theorem d_E_among_30 : decode prog_2_method_20_code 30 = .ok (.aload_n 0, 1) := by decide +kernel
theorem d_E_among_31 : decode prog_2_method_20_code 31 = .ok (.iconst 0, 1) := by decide +kernel
theorem d_E_among_32 : decode prog_2_method_20_code 32 = .ok (.invokevirtual 82, 3) := by decide +kernel
theorem d_E_among_35 : decode prog_2_method_20_code 35 = .ok (.aload_n 0, 1) := by decide +kernel
theorem d_E_among_36 : decode prog_2_method_20_code 36 = .ok (.iload_n 3, 1) := by decide +kernel
theorem d_E_among_37 : decode prog_2_method_20_code 37 = .ok (.invokevirtual 82, 3) := by decide +kernel
theorem d_E_among_40 : decode prog_2_method_20_code 40 = .ok (.invokevirtual 123, 3) := by decide +kernel
theorem d_E_among_43 : decode prog_2_method_20_code 43 = .ok (.istore 4, 2) := by decide +kernel
theorem d_E_among_45 : decode prog_2_method_20_code 45 = .ok (.iload 4, 2) := by decide +kernel
theorem d_E_among_47 : decode prog_2_method_20_code 47 = .ok (.iconst 1, 1) := by decide +kernel
theorem d_E_among_48 : decode prog_2_method_20_code 48 = .ok (.if_icmp .ne 12, 3) := by decide +kernel
theorem d_E_among_51 : decode prog_2_method_20_code 51 = .ok (.aload_n 0, 1) := by decide +kernel
theorem d_E_among_52 : decode prog_2_method_20_code 52 = .ok (.getfield 38, 3) := by decide +kernel
theorem d_E_among_55 : decode prog_2_method_20_code 55 = .ok (.iconst 1, 1) := by decide +kernel
theorem d_E_among_56 : decode prog_2_method_20_code 56 = .ok (.invokevirtual 101, 3) := by decide +kernel
theorem d_E_among_59 : decode prog_2_method_20_code 59 = .ok (.ireturn, 1) := by decide +kernel
theorem d_E_among_60 : decode prog_2_method_20_code 60 = .ok (.iload_n 2, 1) := by decide +kernel
theorem d_E_among_61 : decode prog_2_method_20_code 61 = .ok (.ifCond .ne 10, 3) := by decide +kernel
theorem d_E_among_64 : decode prog_2_method_20_code 64 = .ok (.iload 4, 2) := by decide +kernel
theorem d_E_among_66 : decode prog_2_method_20_code 66 = .ok (.bipush (-4), 2) := by decide +kernel
theorem d_E_among_68 : decode prog_2_method_20_code 68 = .ok (.if_icmp .ne 7, 3) := by decide +kernel
theorem d_E_among_71 : decode prog_2_method_20_code 71 = .ok (.iconst 1, 1) := by decide +kernel
theorem d_E_among_72 : decode prog_2_method_20_code 72 = .ok (.goto 4, 3) := by decide +kernel
theorem d_E_among_75 : decode prog_2_method_20_code 75 = .ok (.iconst 0, 1) := by decide +kernel
theorem d_E_among_76 : decode prog_2_method_20_code 76 = .ok (.istore_n 2, 1) := by decide +kernel
theorem d_E_among_77 : decode prog_2_method_20_code 77 = .ok (.iinc 3 1, 3) := by decide +kernel
theorem d_E_among_80 : decode prog_2_method_20_code 80 = .ok (.goto (-62), 3) := by decide +kernel
theorem d_E_among_83 : decode prog_2_method_20_code 83 = .ok (.iload_n 2, 1) := by decide +kernel
theorem d_E_among_84 : decode prog_2_method_20_code 84 = .ok (.ifCond .eq 8, 3) := by decide +kernel
theorem d_E_among_87 : decode prog_2_method_20_code 87 = .ok (.bipush (-4), 2) := by decide +kernel
theorem d_E_among_89 : decode prog_2_method_20_code 89 = .ok (.goto 11, 3) := by decide +kernel
theorem d_E_among_92 : decode prog_2_method_20_code 92 = .ok (.aload_n 0, 1) := by decide +kernel
theorem d_E_among_93 : decode prog_2_method_20_code 93 = .ok (.getfield 38, 3) := by decide +kernel
theorem d_E_among_96 : decode prog_2_method_20_code 96 = .ok (.iconst 0, 1) := by decide +kernel
theorem d_E_among_97 : decode prog_2_method_20_code 97 = .ok (.invokevirtual 101, 3) := by decide +kernel
theorem d_E_among_100 : decode prog_2_method_20_code 100 = .ok (.ireturn, 1) := by decide +kernel
def m_E_among_76 (G : Nat → Nat) (r18 : Nat → Int32 → Int32 → Int32 → hp_H → Option (Int32 × hp_H)) (a0 : Nat) (a1 : Int32) (a3 : Int32) (s0 : Int32) (h : hp_H) : Option (Int32 × hp_H) := hp_nm s0 fun x1 => hp_nm (a3 + 1) fun x2 => r18 a0 a1 x1 x2 h
set_option maxRecDepth 100000 in
set_option maxHeartbeats 4000000 in
theorem j_E_among_76 {Z : hp_Z} (r18 : Nat → Int32 → Int32 → Int32 → hp_H → Option (Int32 × hp_H)) (hr18 : ∀ (a0 : Nat) (a1 : Int32) (a2 : Int32) (a3 : Int32) (h : hp_H), hp_J Y_E_among Z hp_rI h 18 [(0, .ref a0), (1, .int a1), (2, .int a2), (3, .int a3)] [] (r18 a0 a1 a2 a3  h)) (a0 : Nat) (a1 : Int32) (a3 : Int32) (s0 : Int32) (h : hp_H) : hp_J Y_E_among Z hp_rI h 76 [(0, .ref a0), (1, .int a1), (3, .int a3)] [.int s0] (m_E_among_76 (hp_G Z) r18 a0 a1 a3 s0 h) := by
  unfold m_E_among_76
  refine hp_istore_n (fun x1 => [(2, .int x1), (0, .ref a0), (1, .int a1), (3, .int a3)]) d_E_among_76 rfl (by decide) (fun _ => rfl) fun x1 => ?_
  refine hp_iinc (x0 := 3) (d := 1) (fun x2 => [(3, .int x2), (2, .int x1), (0, .ref a0), (1, .int a1)]) d_E_among_77 rfl (by decide) (by decide) (fun _ => rfl) fun x2 => ?_
  refine hp_goto (tgt := 18) d_E_among_80 (by decide) ?_
  refine hp_sub [2, 3, 1, 0] rfl ?_
  exact hr18 _ _ _ _ _
def m_E_among_71 (G : Nat → Nat) (r18 : Nat → Int32 → Int32 → Int32 → hp_H → Option (Int32 × hp_H)) (a0 : Nat) (a1 : Int32) (a3 : Int32) (h : hp_H) : Option (Int32 × hp_H) := m_E_among_76 G r18 a0 a1 a3 (1 : Int32) h
set_option maxRecDepth 100000 in
set_option maxHeartbeats 4000000 in
theorem j_E_among_71 {Z : hp_Z} (r18 : Nat → Int32 → Int32 → Int32 → hp_H → Option (Int32 × hp_H)) (hr18 : ∀ (a0 : Nat) (a1 : Int32) (a2 : Int32) (a3 : Int32) (h : hp_H), hp_J Y_E_among Z hp_rI h 18 [(0, .ref a0), (1, .int a1), (2, .int a2), (3, .int a3)] [] (r18 a0 a1 a2 a3  h)) (a0 : Nat) (a1 : Int32) (a3 : Int32) (h : hp_H) : hp_J Y_E_among Z hp_rI h 71 [(0, .ref a0), (1, .int a1), (3, .int a3)] [] (m_E_among_71 (hp_G Z) r18 a0 a1 a3 h) := by
  unfold m_E_among_71
  refine hp_iconst (v := 1) d_E_among_71 (by decide) ?_
  refine hp_goto (tgt := 76) d_E_among_72 (by decide) ?_
  exact j_E_among_76 _ hr18 _ _ _ _ _
def m_E_among_100 (G : Nat → Nat) (s0 : Int32) (h : hp_H) : Option (Int32 × hp_H) := some (s0, h)
set_option maxRecDepth 100000 in
set_option maxHeartbeats 4000000 in
theorem j_E_among_100 {Z : hp_Z} (s0 : Int32) (h : hp_H) : hp_J Y_E_among Z hp_rI h 100 [] [.int s0] (m_E_among_100 (hp_G Z)  s0 h) := by
  unfold m_E_among_100
  exact hp_iret d_E_among_100 rfl
def m_E_among_83 (G : Nat → Nat) (a0 : Nat) (a2 : Int32) (h : hp_H) : Option (Int32 × hp_H) := if a2 = 0 then ((hp_gR h a0 5 0).bind fun x1 => (hp_vck h x1 1 (m_S_keepTruth G x1 (0 : Int32) h)).bind fun q2 => m_E_among_100 G q2.1 q2.2) else (m_E_among_100 G (-4 : Int32) h)
set_option maxRecDepth 100000 in
set_option maxHeartbeats 4000000 in
theorem j_E_among_83 {Z : hp_Z} (a0 : Nat) (a2 : Int32) (h : hp_H) : hp_J Y_E_among Z hp_rI h 83 [(0, .ref a0), (2, .int a2)] [] (m_E_among_83 (hp_G Z)  a0 a2 h) := by
  unfold m_E_among_83
  refine hp_iload_n (x0 := 1) d_E_among_83 rfl rfl ?_
  refine hp_if_eq (tgt := 92) d_E_among_84 (by decide) ?_ ?_
  · refine hp_aload_n (x0 := 0) d_E_among_92 rfl rfl ?_
    refine hp_getR fl_E_38 d_E_among_93 fun x1 => ?_
    refine hp_iconst (v := 0) d_E_among_96 (by decide) ?_
    refine hp_callI (hp_crV (ci := 1) (t_S_keepTruth _ _ _ _) cw_E_101 rfl ⟨w_391, w_392⟩ (by decide) rfl rfl (Nat.le_of_ble_eq_true rfl) d_E_among_97) fun q2 => ?_
    refine hp_sub [] rfl ?_
    exact j_E_among_100  _ _
  · refine hp_bipush (v := -4) d_E_among_87 (by decide) ?_
    refine hp_goto (tgt := 100) d_E_among_89 (by decide) ?_
    refine hp_sub [] rfl ?_
    exact j_E_among_100  _ _
def m_E_among_18 (G : Nat → Nat) : Nat → Nat → Int32 → Int32 → Int32 → hp_H → Option (Int32 × hp_H)
  | 0, _, _, _, _, _ => none
  | n + 1, a0, a1, a2, a3, h => if a1 < a3 then (m_E_among_83 G a0 a2 h) else (if (20 : Int32) < a3 then (m_E_among_83 G a0 a2 h) else ((hp_vck h a0 5 (m_E_numberTaken G a0 (0 : Int32) h)).bind fun q1 => (hp_vck q1.2 a0 5 (m_E_numberTaken G a0 a3 q1.2)).bind fun q2 => (hp_vck q2.2 a0 5 (m_E_equal G a0 q1.1 q2.1 q2.2)).bind fun q3 => hp_nm q3.1 fun x4 => if x4 = (1 : Int32) then ((hp_gR q3.2 a0 5 0).bind fun x5 => (hp_vck q3.2 x5 1 (m_S_keepTruth G x5 (1 : Int32) q3.2)).bind fun q6 => some (q6.1, q6.2)) else (if a2 = 0 then (if x4 = (-4 : Int32) then (m_E_among_71 G (m_E_among_18 G  n) a0 a1 a3 q3.2) else (m_E_among_76 G (m_E_among_18 G  n) a0 a1 a3 (0 : Int32) q3.2)) else (m_E_among_71 G (m_E_among_18 G  n) a0 a1 a3 q3.2))))
set_option maxRecDepth 100000 in
set_option maxHeartbeats 4000000 in
theorem j_E_among_18 {Z : hp_Z} : ∀ (n : Nat) (a0 : Nat) (a1 : Int32) (a2 : Int32) (a3 : Int32) (h : hp_H), hp_J Y_E_among Z hp_rI h 18 [(0, .ref a0), (1, .int a1), (2, .int a2), (3, .int a3)] [] (m_E_among_18 (hp_G Z)  n a0 a1 a2 a3 h) := by
  intro n
  induction n with
  | zero => intro a0 a1 a2 a3 h; exact hp_fail
  | succ n ih =>
    intro a0 a1 a2 a3 h
    rw [m_E_among_18]
    refine hp_iload_n (x0 := 3) d_E_among_18 rfl rfl ?_
    refine hp_iload_n (x0 := 1) d_E_among_19 rfl rfl ?_
    refine hp_icmp_gt (tgt := 83) d_E_among_20 (by decide) ?_ ?_
    · refine hp_sub [0, 2] rfl ?_
      exact j_E_among_83  _ _ _
    · refine hp_iload_n (x0 := 3) d_E_among_23 rfl rfl ?_
      refine hp_bipush (v := 20) d_E_among_24 (by decide) ?_
      refine hp_icmp_gt (tgt := 83) d_E_among_26 (by decide) ?_ ?_
      · refine hp_sub [0, 2] rfl ?_
        exact j_E_among_83  _ _ _
      · refine hp_aload_n (x0 := 0) d_E_among_29 rfl rfl ?_
        refine hp_aload_n (x0 := 0) d_E_among_30 rfl rfl ?_
        refine hp_iconst (v := 0) d_E_among_31 (by decide) ?_
        refine hp_callI (hp_crV (ci := 5) (t_E_numberTaken _ _ _ _) cw_E_82 rfl ⟨w_554, ws_10⟩ (by decide) rfl rfl (Nat.le_of_ble_eq_true rfl) d_E_among_32) fun q1 => ?_
        refine hp_aload_n (x0 := 0) d_E_among_35 rfl rfl ?_
        refine hp_iload_n (x0 := 3) d_E_among_36 rfl rfl ?_
        refine hp_callI (hp_crV (ci := 5) (t_E_numberTaken _ _ _ _) cw_E_82 rfl ⟨w_554, ws_10⟩ (by decide) rfl rfl (Nat.le_of_ble_eq_true rfl) d_E_among_37) fun q2 => ?_
        refine hp_callI (hp_crV (ci := 5) (t_E_equal _ _ _ _ _) cw_E_123 rfl ⟨w_574, ws_14⟩ (by decide) rfl rfl (Nat.le_of_ble_eq_true rfl) d_E_among_40) fun q3 => ?_
        refine hp_istore (fun x4 => [(4, .int x4), (0, .ref a0), (1, .int a1), (2, .int a2), (3, .int a3)]) d_E_among_43 (by decide) (fun _ => rfl) fun x4 => ?_
        refine hp_iload (x0 := 0) d_E_among_45 rfl ?_
        refine hp_iconst (v := 1) d_E_among_47 (by decide) ?_
        refine hp_icmp_ne (tgt := 60) d_E_among_48 (by decide) ?_ ?_
        · refine hp_aload_n (x0 := 1) d_E_among_51 rfl rfl ?_
          refine hp_getR fl_E_38 d_E_among_52 fun x5 => ?_
          refine hp_iconst (v := 1) d_E_among_55 (by decide) ?_
          refine hp_callI (hp_crV (ci := 1) (t_S_keepTruth _ _ _ _) cw_E_101 rfl ⟨w_391, w_392⟩ (by decide) rfl rfl (Nat.le_of_ble_eq_true rfl) d_E_among_56) fun q6 => ?_
          exact hp_iret d_E_among_59 rfl
        · refine hp_iload_n (x0 := 3) d_E_among_60 rfl rfl ?_
          refine hp_if_ne (tgt := 71) d_E_among_61 (by decide) ?_ ?_
          · refine hp_iload (x0 := 0) d_E_among_64 rfl ?_
            refine hp_bipush (v := -4) d_E_among_66 (by decide) ?_
            refine hp_icmp_ne (tgt := 75) d_E_among_68 (by decide) ?_ ?_
            · refine hp_sub [1, 2, 4] rfl ?_
              exact j_E_among_71 _ ih _ _ _ _
            · refine hp_iconst (v := 0) d_E_among_75 (by decide) ?_
              refine hp_sub [1, 2, 4] rfl ?_
              exact j_E_among_76 _ ih _ _ _ _ _
          · refine hp_sub [1, 2, 4] rfl ?_
            exact j_E_among_71 _ ih _ _ _ _
def m_E_among (G : Nat → Nat) (a0 : Nat) (a1 : Int32) (h : hp_H) : Option (Int32 × hp_H) := (hp_vck h a0 5 (m_E_taken G a0 (0 : Int32) h)).bind fun q1 => (hp_gI q1.2 q1.1 3 0).bind fun x2 => if x2 = 0 then (some ((-4 : Int32), q1.2)) else (hp_nm (0 : Int32) fun x3 => hp_nm (1 : Int32) fun x4 => m_E_among_18 G hp_fu a0 a1 x3 x4 q1.2)
set_option maxRecDepth 100000 in
set_option maxHeartbeats 4000000 in
theorem j_E_among_0 {Z : hp_Z} (a0 : Nat) (a1 : Int32) (h : hp_H) : hp_J Y_E_among Z hp_rI h 0 [(0, .ref a0), (1, .int a1)] [] (m_E_among (hp_G Z)  a0 a1 h) := by
  unfold m_E_among
  refine hp_aload_n (x0 := 0) d_E_among_0 rfl rfl ?_
  refine hp_iconst (v := 0) d_E_among_1 (by decide) ?_
  refine hp_callR (hp_crV (ci := 5) (t_E_taken _ _ _ _) cw_E_90 rfl ⟨w_550, ws_9⟩ (by decide) rfl rfl (Nat.le_of_ble_eq_true rfl) d_E_among_2) fun q1 => ?_
  refine hp_getI fl_E_93 d_E_among_5 fun x2 => ?_
  refine hp_if_ne (tgt := 14) d_E_among_8 (by decide) ?_ ?_
  · refine hp_bipush (v := -4) d_E_among_11 (by decide) ?_
    exact hp_iret d_E_among_13 rfl
  · refine hp_iconst (v := 0) d_E_among_14 (by decide) ?_
    refine hp_istore_n (fun x3 => [(2, .int x3), (0, .ref a0), (1, .int a1)]) d_E_among_15 rfl (by decide) (fun _ => rfl) fun x3 => ?_
    refine hp_iconst (v := 1) d_E_among_16 (by decide) ?_
    refine hp_istore_n (fun x4 => [(3, .int x4), (2, .int x3), (0, .ref a0), (1, .int a1)]) d_E_among_17 rfl (by decide) (fun _ => rfl) fun x4 => ?_
    refine hp_sub [2, 3, 1, 0] rfl ?_
    exact j_E_among_18  hp_fu _ _ _ _ _
theorem t_E_among (l : Launch) (E : hp_E) (a0 : Nat) (a1 : Int32) : hp_M l E y_E_among Y_E_among hp_rI [.ref a0, .int a1] (m_E_among E.2.2.1 a0 a1) := hp_M.of (plainFor_of_name (by decide)) ⟨rfl, rfl⟩ (Nat.le_of_ble_eq_true rfl) (fun Z h hE => by subst hE; exact j_E_among_0 _ _ h)
-- E_boundTo
theorem d_E_boundTo_0 : decode prog_2_method_15_code 0 = .ok (.iload_n 1, 1) := by decide +kernel
theorem d_E_boundTo_1 : decode prog_2_method_15_code 1 = .ok (.ifCond .lt 18, 3) := by decide +kernel
theorem d_E_boundTo_4 : decode prog_2_method_15_code 4 = .ok (.iload_n 1, 1) := by decide +kernel
theorem d_E_boundTo_5 : decode prog_2_method_15_code 5 = .ok (.bipush 10, 2) := by decide +kernel
theorem d_E_boundTo_7 : decode prog_2_method_15_code 7 = .ok (.if_icmp .ge 12, 3) := by decide +kernel
theorem d_E_boundTo_10 : decode prog_2_method_15_code 10 = .ok (.aload_n 0, 1) := by decide +kernel
theorem d_E_boundTo_11 : decode prog_2_method_15_code 11 = .ok (.getfield 18, 3) := by decide +kernel
theorem d_E_boundTo_14 : decode prog_2_method_15_code 14 = .ok (.iload_n 1, 1) := by decide +kernel
theorem d_E_boundTo_15 : decode prog_2_method_15_code 15 = .ok (.iaload, 1) := by decide +kernel
theorem d_E_boundTo_16 : decode prog_2_method_15_code 16 = .ok (.goto 4, 3) := by decide +kernel
theorem d_E_boundTo_19 : decode prog_2_method_15_code 19 = .ok (.iconst 0, 1) := by decide +kernel
theorem d_E_boundTo_20 : decode prog_2_method_15_code 20 = .ok (.ireturn, 1) := by decide +kernel
def m_E_boundTo_20 (G : Nat → Nat) (s0 : Int32) (h : hp_H) : Option (Int32 × hp_H) := some (s0, h)
set_option maxRecDepth 100000 in
set_option maxHeartbeats 4000000 in
theorem j_E_boundTo_20 {Z : hp_Z} (s0 : Int32) (h : hp_H) : hp_J Y_E_boundTo Z hp_rI h 20 [] [.int s0] (m_E_boundTo_20 (hp_G Z)  s0 h) := by
  unfold m_E_boundTo_20
  exact hp_iret d_E_boundTo_20 rfl
def m_E_boundTo_19 (G : Nat → Nat) (h : hp_H) : Option (Int32 × hp_H) := m_E_boundTo_20 G (0 : Int32) h
set_option maxRecDepth 100000 in
set_option maxHeartbeats 4000000 in
theorem j_E_boundTo_19 {Z : hp_Z} (h : hp_H) : hp_J Y_E_boundTo Z hp_rI h 19 [] [] (m_E_boundTo_19 (hp_G Z)   h) := by
  unfold m_E_boundTo_19
  refine hp_iconst (v := 0) d_E_boundTo_19 (by decide) ?_
  exact j_E_boundTo_20  _ _
def m_E_boundTo (G : Nat → Nat) (a0 : Nat) (a1 : Int32) (h : hp_H) : Option (Int32 × hp_H) := if a1 < 0 then (m_E_boundTo_19 G h) else (if (10 : Int32) ≤ a1 then (m_E_boundTo_19 G h) else ((hp_gR h a0 5 3).bind fun x1 => (hp_aI h .int x1 a1).bind fun x2 => m_E_boundTo_20 G x2 h))
set_option maxRecDepth 100000 in
set_option maxHeartbeats 4000000 in
theorem j_E_boundTo_0 {Z : hp_Z} (a0 : Nat) (a1 : Int32) (h : hp_H) : hp_J Y_E_boundTo Z hp_rI h 0 [(0, .ref a0), (1, .int a1)] [] (m_E_boundTo (hp_G Z)  a0 a1 h) := by
  unfold m_E_boundTo
  refine hp_iload_n (x0 := 1) d_E_boundTo_0 rfl rfl ?_
  refine hp_if_lt (tgt := 19) d_E_boundTo_1 (by decide) ?_ ?_
  · refine hp_sub [] rfl ?_
    exact j_E_boundTo_19   _
  · refine hp_iload_n (x0 := 1) d_E_boundTo_4 rfl rfl ?_
    refine hp_bipush (v := 10) d_E_boundTo_5 (by decide) ?_
    refine hp_icmp_ge (tgt := 19) d_E_boundTo_7 (by decide) ?_ ?_
    · refine hp_sub [] rfl ?_
      exact j_E_boundTo_19   _
    · refine hp_aload_n (x0 := 0) d_E_boundTo_10 rfl rfl ?_
      refine hp_getR fl_E_18 d_E_boundTo_11 fun x1 => ?_
      refine hp_iload_n (x0 := 1) d_E_boundTo_14 rfl rfl ?_
      refine hp_iald d_E_boundTo_15 fun x2 => ?_
      refine hp_goto (tgt := 20) d_E_boundTo_16 (by decide) ?_
      refine hp_sub [] rfl ?_
      exact j_E_boundTo_20  _ _
theorem t_E_boundTo (l : Launch) (E : hp_E) (a0 : Nat) (a1 : Int32) : hp_M l E y_E_boundTo Y_E_boundTo hp_rI [.ref a0, .int a1] (m_E_boundTo E.2.2.1 a0 a1) := hp_M.of (plainFor_of_name (by decide)) ⟨rfl, rfl⟩ (Nat.le_of_ble_eq_true rfl) (fun Z h hE => by subst hE; exact j_E_boundTo_0 _ _ h)
-- E_chosen
theorem d_E_chosen_0 : decode prog_2_method_18_code 0 = .ok (.aload_n 0, 1) := by decide +kernel
theorem d_E_chosen_1 : decode prog_2_method_18_code 1 = .ok (.iconst 0, 1) := by decide +kernel
theorem d_E_chosen_2 : decode prog_2_method_18_code 2 = .ok (.invokevirtual 90, 3) := by decide +kernel
theorem d_E_chosen_5 : decode prog_2_method_18_code 5 = .ok (.invokevirtual 117, 3) := by decide +kernel
theorem d_E_chosen_8 : decode prog_2_method_18_code 8 = .ok (.istore_n 1, 1) := by decide +kernel
theorem d_E_chosen_9 : decode prog_2_method_18_code 9 = .ok (.iload_n 1, 1) := by decide +kernel
theorem d_E_chosen_10 : decode prog_2_method_18_code 10 = .ok (.bipush (-4), 2) := by decide +kernel
theorem d_E_chosen_12 : decode prog_2_method_18_code 12 = .ok (.if_icmp .ne 6, 3) := by decide +kernel
theorem d_E_chosen_15 : decode prog_2_method_18_code 15 = .ok (.bipush (-4), 2) := by decide +kernel
theorem d_E_chosen_17 : decode prog_2_method_18_code 17 = .ok (.ireturn, 1) := by decide +kernel
theorem d_E_chosen_18 : decode prog_2_method_18_code 18 = .ok (.aload_n 0, 1) := by decide +kernel
theorem d_E_chosen_19 : decode prog_2_method_18_code 19 = .ok (.iload_n 1, 1) := by decide +kernel
theorem d_E_chosen_20 : decode prog_2_method_18_code 20 = .ok (.iconst 1, 1) := by decide +kernel
theorem d_E_chosen_21 : decode prog_2_method_18_code 21 = .ok (.if_icmp .ne 7, 3) := by decide +kernel
theorem d_E_chosen_24 : decode prog_2_method_18_code 24 = .ok (.iconst 1, 1) := by decide +kernel
theorem d_E_chosen_25 : decode prog_2_method_18_code 25 = .ok (.goto 4, 3) := by decide +kernel
theorem d_E_chosen_28 : decode prog_2_method_18_code 28 = .ok (.iconst 2, 1) := by decide +kernel
theorem d_E_chosen_29 : decode prog_2_method_18_code 29 = .ok (.invokevirtual 82, 3) := by decide +kernel
theorem d_E_chosen_32 : decode prog_2_method_18_code 32 = .ok (.ireturn, 1) := by decide +kernel
def m_E_chosen_29 (G : Nat → Nat) (s0 : Int32) (s1 : Nat) (h : hp_H) : Option (Int32 × hp_H) := (hp_vck h s1 5 (m_E_numberTaken G s1 s0 h)).bind fun q1 => some (q1.1, q1.2)
set_option maxRecDepth 100000 in
set_option maxHeartbeats 4000000 in
theorem j_E_chosen_29 {Z : hp_Z} (s0 : Int32) (s1 : Nat) (h : hp_H) : hp_J Y_E_chosen Z hp_rI h 29 [] [.int s0, .ref s1] (m_E_chosen_29 (hp_G Z)  s0 s1 h) := by
  unfold m_E_chosen_29
  refine hp_callI (hp_crV (ci := 5) (t_E_numberTaken _ _ _ _) cw_E_82 rfl ⟨w_554, ws_10⟩ (by decide) rfl rfl (Nat.le_of_ble_eq_true rfl) d_E_chosen_29) fun q1 => ?_
  exact hp_iret d_E_chosen_32 rfl
def m_E_chosen (G : Nat → Nat) (a0 : Nat) (h : hp_H) : Option (Int32 × hp_H) := (hp_vck h a0 5 (m_E_taken G a0 (0 : Int32) h)).bind fun q1 => (hp_vck q1.2 q1.1 3 (m_V_truthOf G q1.1 q1.2)).bind fun q2 => hp_nm q2.1 fun x3 => if x3 = (-4 : Int32) then (some ((-4 : Int32), q2.2)) else (if x3 = (1 : Int32) then (m_E_chosen_29 G (1 : Int32) a0 q2.2) else (m_E_chosen_29 G (2 : Int32) a0 q2.2))
set_option maxRecDepth 100000 in
set_option maxHeartbeats 4000000 in
theorem j_E_chosen_0 {Z : hp_Z} (a0 : Nat) (h : hp_H) : hp_J Y_E_chosen Z hp_rI h 0 [(0, .ref a0)] [] (m_E_chosen (hp_G Z)  a0 h) := by
  unfold m_E_chosen
  refine hp_aload_n (x0 := 0) d_E_chosen_0 rfl rfl ?_
  refine hp_iconst (v := 0) d_E_chosen_1 (by decide) ?_
  refine hp_callR (hp_crV (ci := 5) (t_E_taken _ _ _ _) cw_E_90 rfl ⟨w_550, ws_9⟩ (by decide) rfl rfl (Nat.le_of_ble_eq_true rfl) d_E_chosen_2) fun q1 => ?_
  refine hp_callI (hp_crV (ci := 3) (t_V_truthOf _ _ _) cw_E_117 rfl ⟨w_557, w_558⟩ (by decide) rfl rfl (Nat.le_of_ble_eq_true rfl) d_E_chosen_5) fun q2 => ?_
  refine hp_istore_n (fun x3 => [(1, .int x3), (0, .ref a0)]) d_E_chosen_8 rfl (by decide) (fun _ => rfl) fun x3 => ?_
  refine hp_iload_n (x0 := 0) d_E_chosen_9 rfl rfl ?_
  refine hp_bipush (v := -4) d_E_chosen_10 (by decide) ?_
  refine hp_icmp_ne (tgt := 18) d_E_chosen_12 (by decide) ?_ ?_
  · refine hp_bipush (v := -4) d_E_chosen_15 (by decide) ?_
    exact hp_iret d_E_chosen_17 rfl
  · refine hp_aload_n (x0 := 1) d_E_chosen_18 rfl rfl ?_
    refine hp_iload_n (x0 := 0) d_E_chosen_19 rfl rfl ?_
    refine hp_iconst (v := 1) d_E_chosen_20 (by decide) ?_
    refine hp_icmp_ne (tgt := 28) d_E_chosen_21 (by decide) ?_ ?_
    · refine hp_iconst (v := 1) d_E_chosen_24 (by decide) ?_
      refine hp_goto (tgt := 29) d_E_chosen_25 (by decide) ?_
      refine hp_sub [] rfl ?_
      exact j_E_chosen_29  _ _ _
    · refine hp_iconst (v := 2) d_E_chosen_28 (by decide) ?_
      refine hp_sub [] rfl ?_
      exact j_E_chosen_29  _ _ _
theorem t_E_chosen (l : Launch) (E : hp_E) (a0 : Nat) : hp_M l E y_E_chosen Y_E_chosen hp_rI [.ref a0] (m_E_chosen E.2.2.1 a0) := hp_M.of (plainFor_of_name (by decide)) ⟨rfl, rfl⟩ (Nat.le_of_ble_eq_true rfl) (fun Z h hE => by subst hE; exact j_E_chosen_0 _ h)
-- E_decidedBy
theorem d_E_decidedBy_0 : decode prog_2_method_17_code 0 = .ok (.aload_n 0, 1) := by decide +kernel
theorem d_E_decidedBy_1 : decode prog_2_method_17_code 1 = .ok (.iconst 0, 1) := by decide +kernel
theorem d_E_decidedBy_2 : decode prog_2_method_17_code 2 = .ok (.invokevirtual 90, 3) := by decide +kernel
theorem d_E_decidedBy_5 : decode prog_2_method_17_code 5 = .ok (.invokevirtual 117, 3) := by decide +kernel
theorem d_E_decidedBy_8 : decode prog_2_method_17_code 8 = .ok (.istore_n 2, 1) := by decide +kernel
theorem d_E_decidedBy_9 : decode prog_2_method_17_code 9 = .ok (.aload_n 0, 1) := by decide +kernel
theorem d_E_decidedBy_10 : decode prog_2_method_17_code 10 = .ok (.iconst 1, 1) := by decide +kernel
theorem d_E_decidedBy_11 : decode prog_2_method_17_code 11 = .ok (.invokevirtual 90, 3) := by decide +kernel
theorem d_E_decidedBy_14 : decode prog_2_method_17_code 14 = .ok (.invokevirtual 117, 3) := by decide +kernel
theorem d_E_decidedBy_17 : decode prog_2_method_17_code 17 = .ok (.istore_n 3, 1) := by decide +kernel
theorem d_E_decidedBy_18 : decode prog_2_method_17_code 18 = .ok (.iload_n 2, 1) := by decide +kernel
theorem d_E_decidedBy_19 : decode prog_2_method_17_code 19 = .ok (.iload_n 1, 1) := by decide +kernel
theorem d_E_decidedBy_20 : decode prog_2_method_17_code 20 = .ok (.if_icmp .eq 8, 3) := by decide +kernel
theorem d_E_decidedBy_23 : decode prog_2_method_17_code 23 = .ok (.iload_n 3, 1) := by decide +kernel
theorem d_E_decidedBy_24 : decode prog_2_method_17_code 24 = .ok (.iload_n 1, 1) := by decide +kernel
theorem d_E_decidedBy_25 : decode prog_2_method_17_code 25 = .ok (.if_icmp .ne 21, 3) := by decide +kernel
theorem d_E_decidedBy_28 : decode prog_2_method_17_code 28 = .ok (.aload_n 0, 1) := by decide +kernel
theorem d_E_decidedBy_29 : decode prog_2_method_17_code 29 = .ok (.getfield 38, 3) := by decide +kernel
theorem d_E_decidedBy_32 : decode prog_2_method_17_code 32 = .ok (.iload_n 1, 1) := by decide +kernel
theorem d_E_decidedBy_33 : decode prog_2_method_17_code 33 = .ok (.iconst 1, 1) := by decide +kernel
theorem d_E_decidedBy_34 : decode prog_2_method_17_code 34 = .ok (.if_icmp .ne 7, 3) := by decide +kernel
theorem d_E_decidedBy_37 : decode prog_2_method_17_code 37 = .ok (.iconst 1, 1) := by decide +kernel
theorem d_E_decidedBy_38 : decode prog_2_method_17_code 38 = .ok (.goto 4, 3) := by decide +kernel
theorem d_E_decidedBy_41 : decode prog_2_method_17_code 41 = .ok (.iconst 0, 1) := by decide +kernel
theorem d_E_decidedBy_42 : decode prog_2_method_17_code 42 = .ok (.invokevirtual 101, 3) := by decide +kernel
theorem d_E_decidedBy_45 : decode prog_2_method_17_code 45 = .ok (.ireturn, 1) := by decide +kernel
theorem d_E_decidedBy_46 : decode prog_2_method_17_code 46 = .ok (.iload_n 2, 1) := by decide +kernel
theorem d_E_decidedBy_47 : decode prog_2_method_17_code 47 = .ok (.bipush (-4), 2) := by decide +kernel
theorem d_E_decidedBy_49 : decode prog_2_method_17_code 49 = .ok (.if_icmp .eq 9, 3) := by decide +kernel
theorem d_E_decidedBy_52 : decode prog_2_method_17_code 52 = .ok (.iload_n 3, 1) := by decide +kernel
theorem d_E_decidedBy_53 : decode prog_2_method_17_code 53 = .ok (.bipush (-4), 2) := by decide +kernel
theorem d_E_decidedBy_55 : decode prog_2_method_17_code 55 = .ok (.if_icmp .ne 8, 3) := by decide +kernel
theorem d_E_decidedBy_58 : decode prog_2_method_17_code 58 = .ok (.bipush (-4), 2) := by decide +kernel
theorem d_E_decidedBy_60 : decode prog_2_method_17_code 60 = .ok (.goto 19, 3) := by decide +kernel
theorem d_E_decidedBy_63 : decode prog_2_method_17_code 63 = .ok (.aload_n 0, 1) := by decide +kernel
theorem d_E_decidedBy_64 : decode prog_2_method_17_code 64 = .ok (.getfield 38, 3) := by decide +kernel
theorem d_E_decidedBy_67 : decode prog_2_method_17_code 67 = .ok (.iload_n 1, 1) := by decide +kernel
theorem d_E_decidedBy_68 : decode prog_2_method_17_code 68 = .ok (.ifCond .ne 7, 3) := by decide +kernel
theorem d_E_decidedBy_71 : decode prog_2_method_17_code 71 = .ok (.iconst 1, 1) := by decide +kernel
theorem d_E_decidedBy_72 : decode prog_2_method_17_code 72 = .ok (.goto 4, 3) := by decide +kernel
theorem d_E_decidedBy_75 : decode prog_2_method_17_code 75 = .ok (.iconst 0, 1) := by decide +kernel
theorem d_E_decidedBy_76 : decode prog_2_method_17_code 76 = .ok (.invokevirtual 101, 3) := by decide +kernel
theorem d_E_decidedBy_79 : decode prog_2_method_17_code 79 = .ok (.ireturn, 1) := by decide +kernel
def m_E_decidedBy_42 (G : Nat → Nat) (s0 : Int32) (s1 : Nat) (h : hp_H) : Option (Int32 × hp_H) := (hp_vck h s1 1 (m_S_keepTruth G s1 s0 h)).bind fun q1 => some (q1.1, q1.2)
set_option maxRecDepth 100000 in
set_option maxHeartbeats 4000000 in
theorem j_E_decidedBy_42 {Z : hp_Z} (s0 : Int32) (s1 : Nat) (h : hp_H) : hp_J Y_E_decidedBy Z hp_rI h 42 [] [.int s0, .ref s1] (m_E_decidedBy_42 (hp_G Z)  s0 s1 h) := by
  unfold m_E_decidedBy_42
  refine hp_callI (hp_crV (ci := 1) (t_S_keepTruth _ _ _ _) cw_E_101 rfl ⟨w_391, w_392⟩ (by decide) rfl rfl (Nat.le_of_ble_eq_true rfl) d_E_decidedBy_42) fun q1 => ?_
  exact hp_iret d_E_decidedBy_45 rfl
def m_E_decidedBy_28 (G : Nat → Nat) (a0 : Nat) (a1 : Int32) (h : hp_H) : Option (Int32 × hp_H) := (hp_gR h a0 5 0).bind fun x1 => if a1 = (1 : Int32) then (m_E_decidedBy_42 G (1 : Int32) x1 h) else (m_E_decidedBy_42 G (0 : Int32) x1 h)
set_option maxRecDepth 100000 in
set_option maxHeartbeats 4000000 in
theorem j_E_decidedBy_28 {Z : hp_Z} (a0 : Nat) (a1 : Int32) (h : hp_H) : hp_J Y_E_decidedBy Z hp_rI h 28 [(0, .ref a0), (1, .int a1)] [] (m_E_decidedBy_28 (hp_G Z)  a0 a1 h) := by
  unfold m_E_decidedBy_28
  refine hp_aload_n (x0 := 0) d_E_decidedBy_28 rfl rfl ?_
  refine hp_getR fl_E_38 d_E_decidedBy_29 fun x1 => ?_
  refine hp_iload_n (x0 := 1) d_E_decidedBy_32 rfl rfl ?_
  refine hp_iconst (v := 1) d_E_decidedBy_33 (by decide) ?_
  refine hp_icmp_ne (tgt := 41) d_E_decidedBy_34 (by decide) ?_ ?_
  · refine hp_iconst (v := 1) d_E_decidedBy_37 (by decide) ?_
    refine hp_goto (tgt := 42) d_E_decidedBy_38 (by decide) ?_
    refine hp_sub [] rfl ?_
    exact j_E_decidedBy_42  _ _ _
  · refine hp_iconst (v := 0) d_E_decidedBy_41 (by decide) ?_
    refine hp_sub [] rfl ?_
    exact j_E_decidedBy_42  _ _ _
def m_E_decidedBy_79 (G : Nat → Nat) (s0 : Int32) (h : hp_H) : Option (Int32 × hp_H) := some (s0, h)
set_option maxRecDepth 100000 in
set_option maxHeartbeats 4000000 in
theorem j_E_decidedBy_79 {Z : hp_Z} (s0 : Int32) (h : hp_H) : hp_J Y_E_decidedBy Z hp_rI h 79 [] [.int s0] (m_E_decidedBy_79 (hp_G Z)  s0 h) := by
  unfold m_E_decidedBy_79
  exact hp_iret d_E_decidedBy_79 rfl
def m_E_decidedBy_58 (G : Nat → Nat) (h : hp_H) : Option (Int32 × hp_H) := m_E_decidedBy_79 G (-4 : Int32) h
set_option maxRecDepth 100000 in
set_option maxHeartbeats 4000000 in
theorem j_E_decidedBy_58 {Z : hp_Z} (h : hp_H) : hp_J Y_E_decidedBy Z hp_rI h 58 [] [] (m_E_decidedBy_58 (hp_G Z)   h) := by
  unfold m_E_decidedBy_58
  refine hp_bipush (v := -4) d_E_decidedBy_58 (by decide) ?_
  refine hp_goto (tgt := 79) d_E_decidedBy_60 (by decide) ?_
  exact j_E_decidedBy_79  _ _
def m_E_decidedBy_76 (G : Nat → Nat) (s0 : Int32) (s1 : Nat) (h : hp_H) : Option (Int32 × hp_H) := (hp_vck h s1 1 (m_S_keepTruth G s1 s0 h)).bind fun q1 => m_E_decidedBy_79 G q1.1 q1.2
set_option maxRecDepth 100000 in
set_option maxHeartbeats 4000000 in
theorem j_E_decidedBy_76 {Z : hp_Z} (s0 : Int32) (s1 : Nat) (h : hp_H) : hp_J Y_E_decidedBy Z hp_rI h 76 [] [.int s0, .ref s1] (m_E_decidedBy_76 (hp_G Z)  s0 s1 h) := by
  unfold m_E_decidedBy_76
  refine hp_callI (hp_crV (ci := 1) (t_S_keepTruth _ _ _ _) cw_E_101 rfl ⟨w_391, w_392⟩ (by decide) rfl rfl (Nat.le_of_ble_eq_true rfl) d_E_decidedBy_76) fun q1 => ?_
  exact j_E_decidedBy_79  _ _
def m_E_decidedBy (G : Nat → Nat) (a0 : Nat) (a1 : Int32) (h : hp_H) : Option (Int32 × hp_H) := (hp_vck h a0 5 (m_E_taken G a0 (0 : Int32) h)).bind fun q1 => (hp_vck q1.2 q1.1 3 (m_V_truthOf G q1.1 q1.2)).bind fun q2 => hp_nm q2.1 fun x3 => (hp_vck q2.2 a0 5 (m_E_taken G a0 (1 : Int32) q2.2)).bind fun q4 => (hp_vck q4.2 q4.1 3 (m_V_truthOf G q4.1 q4.2)).bind fun q5 => hp_nm q5.1 fun x6 => if x3 = a1 then (m_E_decidedBy_28 G a0 a1 q5.2) else (if x6 = a1 then (m_E_decidedBy_28 G a0 a1 q5.2) else (if x3 = (-4 : Int32) then (m_E_decidedBy_58 G q5.2) else (if x6 = (-4 : Int32) then (m_E_decidedBy_58 G q5.2) else ((hp_gR q5.2 a0 5 0).bind fun x7 => if a1 = 0 then (m_E_decidedBy_76 G (1 : Int32) x7 q5.2) else (m_E_decidedBy_76 G (0 : Int32) x7 q5.2)))))
set_option maxRecDepth 100000 in
set_option maxHeartbeats 4000000 in
theorem j_E_decidedBy_0 {Z : hp_Z} (a0 : Nat) (a1 : Int32) (h : hp_H) : hp_J Y_E_decidedBy Z hp_rI h 0 [(0, .ref a0), (1, .int a1)] [] (m_E_decidedBy (hp_G Z)  a0 a1 h) := by
  unfold m_E_decidedBy
  refine hp_aload_n (x0 := 0) d_E_decidedBy_0 rfl rfl ?_
  refine hp_iconst (v := 0) d_E_decidedBy_1 (by decide) ?_
  refine hp_callR (hp_crV (ci := 5) (t_E_taken _ _ _ _) cw_E_90 rfl ⟨w_550, ws_9⟩ (by decide) rfl rfl (Nat.le_of_ble_eq_true rfl) d_E_decidedBy_2) fun q1 => ?_
  refine hp_callI (hp_crV (ci := 3) (t_V_truthOf _ _ _) cw_E_117 rfl ⟨w_557, w_558⟩ (by decide) rfl rfl (Nat.le_of_ble_eq_true rfl) d_E_decidedBy_5) fun q2 => ?_
  refine hp_istore_n (fun x3 => [(2, .int x3), (0, .ref a0), (1, .int a1)]) d_E_decidedBy_8 rfl (by decide) (fun _ => rfl) fun x3 => ?_
  refine hp_aload_n (x0 := 1) d_E_decidedBy_9 rfl rfl ?_
  refine hp_iconst (v := 1) d_E_decidedBy_10 (by decide) ?_
  refine hp_callR (hp_crV (ci := 5) (t_E_taken _ _ _ _) cw_E_90 rfl ⟨w_550, ws_9⟩ (by decide) rfl rfl (Nat.le_of_ble_eq_true rfl) d_E_decidedBy_11) fun q4 => ?_
  refine hp_callI (hp_crV (ci := 3) (t_V_truthOf _ _ _) cw_E_117 rfl ⟨w_557, w_558⟩ (by decide) rfl rfl (Nat.le_of_ble_eq_true rfl) d_E_decidedBy_14) fun q5 => ?_
  refine hp_istore_n (fun x6 => [(3, .int x6), (2, .int x3), (0, .ref a0), (1, .int a1)]) d_E_decidedBy_17 rfl (by decide) (fun _ => rfl) fun x6 => ?_
  refine hp_iload_n (x0 := 1) d_E_decidedBy_18 rfl rfl ?_
  refine hp_iload_n (x0 := 3) d_E_decidedBy_19 rfl rfl ?_
  refine hp_icmp_eq (tgt := 28) d_E_decidedBy_20 (by decide) ?_ ?_
  · refine hp_sub [2, 3] rfl ?_
    exact j_E_decidedBy_28  _ _ _
  · refine hp_iload_n (x0 := 0) d_E_decidedBy_23 rfl rfl ?_
    refine hp_iload_n (x0 := 3) d_E_decidedBy_24 rfl rfl ?_
    refine hp_icmp_ne (tgt := 46) d_E_decidedBy_25 (by decide) ?_ ?_
    · refine hp_sub [2, 3] rfl ?_
      exact j_E_decidedBy_28  _ _ _
    · refine hp_iload_n (x0 := 1) d_E_decidedBy_46 rfl rfl ?_
      refine hp_bipush (v := -4) d_E_decidedBy_47 (by decide) ?_
      refine hp_icmp_eq (tgt := 58) d_E_decidedBy_49 (by decide) ?_ ?_
      · refine hp_sub [] rfl ?_
        exact j_E_decidedBy_58   _
      · refine hp_iload_n (x0 := 0) d_E_decidedBy_52 rfl rfl ?_
        refine hp_bipush (v := -4) d_E_decidedBy_53 (by decide) ?_
        refine hp_icmp_ne (tgt := 63) d_E_decidedBy_55 (by decide) ?_ ?_
        · refine hp_sub [] rfl ?_
          exact j_E_decidedBy_58   _
        · refine hp_aload_n (x0 := 2) d_E_decidedBy_63 rfl rfl ?_
          refine hp_getR fl_E_38 d_E_decidedBy_64 fun x7 => ?_
          refine hp_iload_n (x0 := 3) d_E_decidedBy_67 rfl rfl ?_
          refine hp_if_ne (tgt := 75) d_E_decidedBy_68 (by decide) ?_ ?_
          · refine hp_iconst (v := 1) d_E_decidedBy_71 (by decide) ?_
            refine hp_goto (tgt := 76) d_E_decidedBy_72 (by decide) ?_
            refine hp_sub [] rfl ?_
            exact j_E_decidedBy_76  _ _ _
          · refine hp_iconst (v := 0) d_E_decidedBy_75 (by decide) ?_
            refine hp_sub [] rfl ?_
            exact j_E_decidedBy_76  _ _ _
theorem t_E_decidedBy (l : Launch) (E : hp_E) (a0 : Nat) (a1 : Int32) : hp_M l E y_E_decidedBy Y_E_decidedBy hp_rI [.ref a0, .int a1] (m_E_decidedBy E.2.2.1 a0 a1) := hp_M.of (plainFor_of_name (by decide)) ⟨rfl, rfl⟩ (Nat.le_of_ble_eq_true rfl) (fun Z h hE => by subst hE; exact j_E_decidedBy_0 _ _ h)
-- E_firstGood
theorem d_E_firstGood_0 : decode prog_2_method_19_code 0 = .ok (.iconst 0, 1) := by decide +kernel
theorem d_E_firstGood_1 : decode prog_2_method_19_code 1 = .ok (.istore_n 2, 1) := by decide +kernel
theorem d_E_firstGood_2 : decode prog_2_method_19_code 2 = .ok (.iload_n 2, 1) := by decide +kernel
theorem d_E_firstGood_3 : decode prog_2_method_19_code 3 = .ok (.iload_n 1, 1) := by decide +kernel
theorem d_E_firstGood_4 : decode prog_2_method_19_code 4 = .ok (.if_icmp .ge 32, 3) := by decide +kernel
theorem d_E_firstGood_7 : decode prog_2_method_19_code 7 = .ok (.iload_n 2, 1) := by decide +kernel
theorem d_E_firstGood_8 : decode prog_2_method_19_code 8 = .ok (.bipush 20, 2) := by decide +kernel
theorem d_E_firstGood_10 : decode prog_2_method_19_code 10 = .ok (.if_icmp .ge 26, 3) := by decide +kernel
theorem d_E_firstGood_13 : decode prog_2_method_19_code 13 = .ok (.aload_n 0, 1) := by decide +kernel
theorem d_E_firstGood_14 : decode prog_2_method_19_code 14 = .ok (.iload_n 2, 1) := by decide +kernel
theorem d_E_firstGood_15 : decode prog_2_method_19_code 15 = .ok (.invokevirtual 90, 3) := by decide +kernel
theorem d_E_firstGood_18 : decode prog_2_method_19_code 18 = .ok (.getfield 93, 3) := by decide +kernel
theorem d_E_firstGood_21 : decode prog_2_method_19_code 21 = .ok (.ifCond .eq 9, 3) := by decide +kernel
theorem d_E_firstGood_24 : decode prog_2_method_19_code 24 = .ok (.aload_n 0, 1) := by decide +kernel
theorem d_E_firstGood_25 : decode prog_2_method_19_code 25 = .ok (.iload_n 2, 1) := by decide +kernel
theorem d_E_firstGood_26 : decode prog_2_method_19_code 26 = .ok (.invokevirtual 82, 3) := by decide +kernel
theorem d_E_firstGood_29 : decode prog_2_method_19_code 29 = .ok (.ireturn, 1) := by decide +kernel
theorem d_E_firstGood_30 : decode prog_2_method_19_code 30 = .ok (.iinc 2 1, 3) := by decide +kernel
theorem d_E_firstGood_33 : decode prog_2_method_19_code 33 = .ok (.goto (-31), 3) := by decide +kernel
theorem d_E_firstGood_36 : decode prog_2_method_19_code 36 = .ok (.bipush (-4), 2) := by decide +kernel
theorem d_E_firstGood_38 : decode prog_2_method_19_code 38 = .ok (.ireturn, 1) := by decide +kernel
def m_E_firstGood_36 (G : Nat → Nat) (h : hp_H) : Option (Int32 × hp_H) := some ((-4 : Int32), h)
set_option maxRecDepth 100000 in
set_option maxHeartbeats 4000000 in
theorem j_E_firstGood_36 {Z : hp_Z} (h : hp_H) : hp_J Y_E_firstGood Z hp_rI h 36 [] [] (m_E_firstGood_36 (hp_G Z)   h) := by
  unfold m_E_firstGood_36
  refine hp_bipush (v := -4) d_E_firstGood_36 (by decide) ?_
  exact hp_iret d_E_firstGood_38 rfl
def m_E_firstGood_2 (G : Nat → Nat) : Nat → Nat → Int32 → Int32 → hp_H → Option (Int32 × hp_H)
  | 0, _, _, _, _ => none
  | n + 1, a0, a1, a2, h => if a1 ≤ a2 then (m_E_firstGood_36 G h) else (if (20 : Int32) ≤ a2 then (m_E_firstGood_36 G h) else ((hp_vck h a0 5 (m_E_taken G a0 a2 h)).bind fun q1 => (hp_gI q1.2 q1.1 3 0).bind fun x2 => if x2 = 0 then (hp_nm (a2 + 1) fun x3 => (m_E_firstGood_2 G  n) a0 a1 x3 q1.2) else ((hp_vck q1.2 a0 5 (m_E_numberTaken G a0 a2 q1.2)).bind fun q4 => some (q4.1, q4.2))))
set_option maxRecDepth 100000 in
set_option maxHeartbeats 4000000 in
theorem j_E_firstGood_2 {Z : hp_Z} : ∀ (n : Nat) (a0 : Nat) (a1 : Int32) (a2 : Int32) (h : hp_H), hp_J Y_E_firstGood Z hp_rI h 2 [(0, .ref a0), (1, .int a1), (2, .int a2)] [] (m_E_firstGood_2 (hp_G Z)  n a0 a1 a2 h) := by
  intro n
  induction n with
  | zero => intro a0 a1 a2 h; exact hp_fail
  | succ n ih =>
    intro a0 a1 a2 h
    rw [m_E_firstGood_2]
    refine hp_iload_n (x0 := 2) d_E_firstGood_2 rfl rfl ?_
    refine hp_iload_n (x0 := 1) d_E_firstGood_3 rfl rfl ?_
    refine hp_icmp_ge (tgt := 36) d_E_firstGood_4 (by decide) ?_ ?_
    · refine hp_sub [] rfl ?_
      exact j_E_firstGood_36   _
    · refine hp_iload_n (x0 := 2) d_E_firstGood_7 rfl rfl ?_
      refine hp_bipush (v := 20) d_E_firstGood_8 (by decide) ?_
      refine hp_icmp_ge (tgt := 36) d_E_firstGood_10 (by decide) ?_ ?_
      · refine hp_sub [] rfl ?_
        exact j_E_firstGood_36   _
      · refine hp_aload_n (x0 := 0) d_E_firstGood_13 rfl rfl ?_
        refine hp_iload_n (x0 := 2) d_E_firstGood_14 rfl rfl ?_
        refine hp_callR (hp_crV (ci := 5) (t_E_taken _ _ _ _) cw_E_90 rfl ⟨w_550, ws_9⟩ (by decide) rfl rfl (Nat.le_of_ble_eq_true rfl) d_E_firstGood_15) fun q1 => ?_
        refine hp_getI fl_E_93 d_E_firstGood_18 fun x2 => ?_
        refine hp_if_eq (tgt := 30) d_E_firstGood_21 (by decide) ?_ ?_
        · refine hp_iinc (x0 := 2) (d := 1) (fun x3 => [(2, .int x3), (0, .ref a0), (1, .int a1)]) d_E_firstGood_30 rfl (by decide) (by decide) (fun _ => rfl) fun x3 => ?_
          refine hp_goto (tgt := 2) d_E_firstGood_33 (by decide) ?_
          refine hp_sub [1, 2, 0] rfl ?_
          exact ih _ _ _ _
        · refine hp_aload_n (x0 := 0) d_E_firstGood_24 rfl rfl ?_
          refine hp_iload_n (x0 := 2) d_E_firstGood_25 rfl rfl ?_
          refine hp_callI (hp_crV (ci := 5) (t_E_numberTaken _ _ _ _) cw_E_82 rfl ⟨w_554, ws_10⟩ (by decide) rfl rfl (Nat.le_of_ble_eq_true rfl) d_E_firstGood_26) fun q4 => ?_
          exact hp_iret d_E_firstGood_29 rfl
def m_E_firstGood (G : Nat → Nat) (a0 : Nat) (a1 : Int32) (h : hp_H) : Option (Int32 × hp_H) := hp_nm (0 : Int32) fun x1 => m_E_firstGood_2 G hp_fu a0 a1 x1 h
set_option maxRecDepth 100000 in
set_option maxHeartbeats 4000000 in
theorem j_E_firstGood_0 {Z : hp_Z} (a0 : Nat) (a1 : Int32) (h : hp_H) : hp_J Y_E_firstGood Z hp_rI h 0 [(0, .ref a0), (1, .int a1)] [] (m_E_firstGood (hp_G Z)  a0 a1 h) := by
  unfold m_E_firstGood
  refine hp_iconst (v := 0) d_E_firstGood_0 (by decide) ?_
  refine hp_istore_n (fun x1 => [(2, .int x1), (0, .ref a0), (1, .int a1)]) d_E_firstGood_1 rfl (by decide) (fun _ => rfl) fun x1 => ?_
  refine hp_sub [1, 2, 0] rfl ?_
  exact j_E_firstGood_2  hp_fu _ _ _ _
theorem t_E_firstGood (l : Launch) (E : hp_E) (a0 : Nat) (a1 : Int32) : hp_M l E y_E_firstGood Y_E_firstGood hp_rI [.ref a0, .int a1] (m_E_firstGood E.2.2.1 a0 a1) := hp_M.of (plainFor_of_name (by decide)) ⟨rfl, rfl⟩ (Nat.le_of_ble_eq_true rfl) (fun Z h hE => by subst hE; exact j_E_firstGood_0 _ _ h)
-- E_performWithErrors
theorem d_E_performWithErrors_0 : decode prog_2_method_13_code 0 = .ok (.iload_n 1, 1) := by decide +kernel
theorem d_E_performWithErrors_1 : decode prog_2_method_13_code 1 = .ok (.tableswitch 195 0 23 #[111, 132, 151, 195, 172, 178, 195, 195, 195, 195, 195, 195, 195, 195, 195, 195, 195, 195, 195, 195, 195, 195, 184, 189], 111) := by decide +kernel
theorem d_E_performWithErrors_112 : decode prog_2_method_13_code 112 = .ok (.aload_n 0, 1) := by decide +kernel
theorem d_E_performWithErrors_113 : decode prog_2_method_13_code 113 = .ok (.getfield 38, 3) := by decide +kernel
theorem d_E_performWithErrors_116 : decode prog_2_method_13_code 116 = .ok (.iload_n 2, 1) := by decide +kernel
theorem d_E_performWithErrors_117 : decode prog_2_method_13_code 117 = .ok (.invokevirtual 86, 3) := by decide +kernel
theorem d_E_performWithErrors_120 : decode prog_2_method_13_code 120 = .ok (.getfield 93, 3) := by decide +kernel
theorem d_E_performWithErrors_123 : decode prog_2_method_13_code 123 = .ok (.ifCond .eq 7, 3) := by decide +kernel
theorem d_E_performWithErrors_126 : decode prog_2_method_13_code 126 = .ok (.iload_n 2, 1) := by decide +kernel
theorem d_E_performWithErrors_127 : decode prog_2_method_13_code 127 = .ok (.goto 5, 3) := by decide +kernel
theorem d_E_performWithErrors_130 : decode prog_2_method_13_code 130 = .ok (.bipush (-4), 2) := by decide +kernel
theorem d_E_performWithErrors_132 : decode prog_2_method_13_code 132 = .ok (.ireturn, 1) := by decide +kernel
theorem d_E_performWithErrors_133 : decode prog_2_method_13_code 133 = .ok (.aload_n 0, 1) := by decide +kernel
theorem d_E_performWithErrors_134 : decode prog_2_method_13_code 134 = .ok (.iload_n 2, 1) := by decide +kernel
theorem d_E_performWithErrors_135 : decode prog_2_method_13_code 135 = .ok (.invokevirtual 98, 3) := by decide +kernel
theorem d_E_performWithErrors_138 : decode prog_2_method_13_code 138 = .ok (.ifCond .le 11, 3) := by decide +kernel
theorem d_E_performWithErrors_141 : decode prog_2_method_13_code 141 = .ok (.aload_n 0, 1) := by decide +kernel
theorem d_E_performWithErrors_142 : decode prog_2_method_13_code 142 = .ok (.iload_n 2, 1) := by decide +kernel
theorem d_E_performWithErrors_143 : decode prog_2_method_13_code 143 = .ok (.invokevirtual 98, 3) := by decide +kernel
theorem d_E_performWithErrors_146 : decode prog_2_method_13_code 146 = .ok (.goto 5, 3) := by decide +kernel
theorem d_E_performWithErrors_149 : decode prog_2_method_13_code 149 = .ok (.bipush (-4), 2) := by decide +kernel
theorem d_E_performWithErrors_151 : decode prog_2_method_13_code 151 = .ok (.ireturn, 1) := by decide +kernel
theorem d_E_performWithErrors_152 : decode prog_2_method_13_code 152 = .ok (.aload_n 0, 1) := by decide +kernel
theorem d_E_performWithErrors_153 : decode prog_2_method_13_code 153 = .ok (.getfield 38, 3) := by decide +kernel
theorem d_E_performWithErrors_156 : decode prog_2_method_13_code 156 = .ok (.aload_n 0, 1) := by decide +kernel
theorem d_E_performWithErrors_157 : decode prog_2_method_13_code 157 = .ok (.iload_n 2, 1) := by decide +kernel
theorem d_E_performWithErrors_158 : decode prog_2_method_13_code 158 = .ok (.invokevirtual 98, 3) := by decide +kernel
theorem d_E_performWithErrors_161 : decode prog_2_method_13_code 161 = .ok (.ifCond .le 7, 3) := by decide +kernel
theorem d_E_performWithErrors_164 : decode prog_2_method_13_code 164 = .ok (.iconst 1, 1) := by decide +kernel
theorem d_E_performWithErrors_165 : decode prog_2_method_13_code 165 = .ok (.goto 4, 3) := by decide +kernel
theorem d_E_performWithErrors_168 : decode prog_2_method_13_code 168 = .ok (.iconst 0, 1) := by decide +kernel
theorem d_E_performWithErrors_169 : decode prog_2_method_13_code 169 = .ok (.invokevirtual 101, 3) := by decide +kernel
theorem d_E_performWithErrors_172 : decode prog_2_method_13_code 172 = .ok (.ireturn, 1) := by decide +kernel
theorem d_E_performWithErrors_173 : decode prog_2_method_13_code 173 = .ok (.aload_n 0, 1) := by decide +kernel
theorem d_E_performWithErrors_174 : decode prog_2_method_13_code 174 = .ok (.iconst 0, 1) := by decide +kernel
theorem d_E_performWithErrors_175 : decode prog_2_method_13_code 175 = .ok (.invokevirtual 105, 3) := by decide +kernel
theorem d_E_performWithErrors_178 : decode prog_2_method_13_code 178 = .ok (.ireturn, 1) := by decide +kernel
theorem d_E_performWithErrors_179 : decode prog_2_method_13_code 179 = .ok (.aload_n 0, 1) := by decide +kernel
theorem d_E_performWithErrors_180 : decode prog_2_method_13_code 180 = .ok (.iconst 1, 1) := by decide +kernel
theorem d_E_performWithErrors_181 : decode prog_2_method_13_code 181 = .ok (.invokevirtual 105, 3) := by decide +kernel
theorem d_E_performWithErrors_184 : decode prog_2_method_13_code 184 = .ok (.ireturn, 1) := by decide +kernel
theorem d_E_performWithErrors_185 : decode prog_2_method_13_code 185 = .ok (.aload_n 0, 1) := by decide +kernel
theorem d_E_performWithErrors_186 : decode prog_2_method_13_code 186 = .ok (.invokevirtual 108, 3) := by decide +kernel
theorem d_E_performWithErrors_189 : decode prog_2_method_13_code 189 = .ok (.ireturn, 1) := by decide +kernel
theorem d_E_performWithErrors_190 : decode prog_2_method_13_code 190 = .ok (.aload_n 0, 1) := by decide +kernel
theorem d_E_performWithErrors_191 : decode prog_2_method_13_code 191 = .ok (.iload_n 2, 1) := by decide +kernel
theorem d_E_performWithErrors_192 : decode prog_2_method_13_code 192 = .ok (.invokevirtual 111, 3) := by decide +kernel
theorem d_E_performWithErrors_195 : decode prog_2_method_13_code 195 = .ok (.ireturn, 1) := by decide +kernel
theorem d_E_performWithErrors_196 : decode prog_2_method_13_code 196 = .ok (.aload_n 0, 1) := by decide +kernel
theorem d_E_performWithErrors_197 : decode prog_2_method_13_code 197 = .ok (.iload_n 2, 1) := by decide +kernel
theorem d_E_performWithErrors_198 : decode prog_2_method_13_code 198 = .ok (.invokevirtual 114, 3) := by decide +kernel
theorem d_E_performWithErrors_201 : decode prog_2_method_13_code 201 = .ok (.ireturn, 1) := by decide +kernel
def m_E_performWithErrors_132 (G : Nat → Nat) (s0 : Int32) (h : hp_H) : Option (Int32 × hp_H) := some (s0, h)
set_option maxRecDepth 100000 in
set_option maxHeartbeats 4000000 in
theorem j_E_performWithErrors_132 {Z : hp_Z} (s0 : Int32) (h : hp_H) : hp_J Y_E_performWithErrors Z hp_rI h 132 [] [.int s0] (m_E_performWithErrors_132 (hp_G Z)  s0 h) := by
  unfold m_E_performWithErrors_132
  exact hp_iret d_E_performWithErrors_132 rfl
def m_E_performWithErrors_151 (G : Nat → Nat) (s0 : Int32) (h : hp_H) : Option (Int32 × hp_H) := some (s0, h)
set_option maxRecDepth 100000 in
set_option maxHeartbeats 4000000 in
theorem j_E_performWithErrors_151 {Z : hp_Z} (s0 : Int32) (h : hp_H) : hp_J Y_E_performWithErrors Z hp_rI h 151 [] [.int s0] (m_E_performWithErrors_151 (hp_G Z)  s0 h) := by
  unfold m_E_performWithErrors_151
  exact hp_iret d_E_performWithErrors_151 rfl
def m_E_performWithErrors_169 (G : Nat → Nat) (s0 : Int32) (s1 : Nat) (h : hp_H) : Option (Int32 × hp_H) := (hp_vck h s1 1 (m_S_keepTruth G s1 s0 h)).bind fun q1 => some (q1.1, q1.2)
set_option maxRecDepth 100000 in
set_option maxHeartbeats 4000000 in
theorem j_E_performWithErrors_169 {Z : hp_Z} (s0 : Int32) (s1 : Nat) (h : hp_H) : hp_J Y_E_performWithErrors Z hp_rI h 169 [] [.int s0, .ref s1] (m_E_performWithErrors_169 (hp_G Z)  s0 s1 h) := by
  unfold m_E_performWithErrors_169
  refine hp_callI (hp_crV (ci := 1) (t_S_keepTruth _ _ _ _) cw_E_101 rfl ⟨w_391, w_392⟩ (by decide) rfl rfl (Nat.le_of_ble_eq_true rfl) d_E_performWithErrors_169) fun q1 => ?_
  exact hp_iret d_E_performWithErrors_172 rfl
def m_E_performWithErrors (G : Nat → Nat) (a0 : Nat) (a1 : Int32) (a2 : Int32) (h : hp_H) : Option (Int32 × hp_H) := if a1 = 0 then ((hp_gR h a0 5 0).bind fun x1 => (hp_vck h x1 1 (m_S_at G x1 a2 h)).bind fun q2 => (hp_gI q2.2 q2.1 3 0).bind fun x3 => if x3 = 0 then (m_E_performWithErrors_132 G (-4 : Int32) q2.2) else (m_E_performWithErrors_132 G a2 q2.2)) else (if a1 = 1 then ((hp_vck h a0 5 (m_E_boundTo G a0 a2 h)).bind fun q4 => if q4.1 ≤ 0 then (m_E_performWithErrors_151 G (-4 : Int32) q4.2) else ((hp_vck q4.2 a0 5 (m_E_boundTo G a0 a2 q4.2)).bind fun q5 => m_E_performWithErrors_151 G q5.1 q5.2)) else (if a1 = 2 then ((hp_gR h a0 5 0).bind fun x6 => (hp_vck h a0 5 (m_E_boundTo G a0 a2 h)).bind fun q7 => if q7.1 ≤ 0 then (m_E_performWithErrors_169 G (0 : Int32) x6 q7.2) else (m_E_performWithErrors_169 G (1 : Int32) x6 q7.2)) else (if a1 = 3 then ((hp_vck h a0 5 (m_E_among G a0 a2 h)).bind fun q8 => some (q8.1, q8.2)) else (if a1 = 4 then ((hp_vck h a0 5 (m_E_decidedBy G a0 (0 : Int32) h)).bind fun q9 => some (q9.1, q9.2)) else (if a1 = 5 then ((hp_vck h a0 5 (m_E_decidedBy G a0 (1 : Int32) h)).bind fun q10 => some (q10.1, q10.2)) else (if a1 = 6 then ((hp_vck h a0 5 (m_E_among G a0 a2 h)).bind fun q11 => some (q11.1, q11.2)) else (if a1 = 7 then ((hp_vck h a0 5 (m_E_among G a0 a2 h)).bind fun q12 => some (q12.1, q12.2)) else (if a1 = 8 then ((hp_vck h a0 5 (m_E_among G a0 a2 h)).bind fun q13 => some (q13.1, q13.2)) else (if a1 = 9 then ((hp_vck h a0 5 (m_E_among G a0 a2 h)).bind fun q14 => some (q14.1, q14.2)) else (if a1 = 10 then ((hp_vck h a0 5 (m_E_among G a0 a2 h)).bind fun q15 => some (q15.1, q15.2)) else (if a1 = 11 then ((hp_vck h a0 5 (m_E_among G a0 a2 h)).bind fun q16 => some (q16.1, q16.2)) else (if a1 = 12 then ((hp_vck h a0 5 (m_E_among G a0 a2 h)).bind fun q17 => some (q17.1, q17.2)) else (if a1 = 13 then ((hp_vck h a0 5 (m_E_among G a0 a2 h)).bind fun q18 => some (q18.1, q18.2)) else (if a1 = 14 then ((hp_vck h a0 5 (m_E_among G a0 a2 h)).bind fun q19 => some (q19.1, q19.2)) else (if a1 = 15 then ((hp_vck h a0 5 (m_E_among G a0 a2 h)).bind fun q20 => some (q20.1, q20.2)) else (if a1 = 16 then ((hp_vck h a0 5 (m_E_among G a0 a2 h)).bind fun q21 => some (q21.1, q21.2)) else (if a1 = 17 then ((hp_vck h a0 5 (m_E_among G a0 a2 h)).bind fun q22 => some (q22.1, q22.2)) else (if a1 = 18 then ((hp_vck h a0 5 (m_E_among G a0 a2 h)).bind fun q23 => some (q23.1, q23.2)) else (if a1 = 19 then ((hp_vck h a0 5 (m_E_among G a0 a2 h)).bind fun q24 => some (q24.1, q24.2)) else (if a1 = 20 then ((hp_vck h a0 5 (m_E_among G a0 a2 h)).bind fun q25 => some (q25.1, q25.2)) else (if a1 = 21 then ((hp_vck h a0 5 (m_E_among G a0 a2 h)).bind fun q26 => some (q26.1, q26.2)) else (if a1 = 22 then ((hp_vck h a0 5 (m_E_chosen G a0 h)).bind fun q27 => some (q27.1, q27.2)) else (if a1 = 23 then ((hp_vck h a0 5 (m_E_firstGood G a0 a2 h)).bind fun q28 => some (q28.1, q28.2)) else ((hp_vck h a0 5 (m_E_among G a0 a2 h)).bind fun q29 => some (q29.1, q29.2)))))))))))))))))))))))))
set_option maxRecDepth 100000 in
set_option maxHeartbeats 4000000 in
theorem j_E_performWithErrors_0 {Z : hp_Z} (a0 : Nat) (a1 : Int32) (a2 : Int32) (h : hp_H) : hp_J Y_E_performWithErrors Z hp_rI h 0 [(0, .ref a0), (1, .int a1), (2, .int a2)] [] (m_E_performWithErrors (hp_G Z)  a0 a1 a2 h) := by
  unfold m_E_performWithErrors
  refine hp_iload_n (x0 := 1) d_E_performWithErrors_0 rfl rfl ?_
  refine hp_ite (fun c0 => ?_) (fun c0 => ?_)
  · refine hp_tabI (tgt := 112) (kv := 0) d_E_performWithErrors_1 c0 (by decide) (by decide) rfl (by decide) ?_
    refine hp_aload_n (x0 := 0) d_E_performWithErrors_112 rfl rfl ?_
    refine hp_getR fl_E_38 d_E_performWithErrors_113 fun x1 => ?_
    refine hp_iload_n (x0 := 2) d_E_performWithErrors_116 rfl rfl ?_
    refine hp_callR (hp_crV (ci := 1) (t_S_at _ _ _ _) cw_E_86 rfl ⟨w_426, w_427⟩ (by decide) rfl rfl (Nat.le_of_ble_eq_true rfl) d_E_performWithErrors_117) fun q2 => ?_
    refine hp_getI fl_E_93 d_E_performWithErrors_120 fun x3 => ?_
    refine hp_if_eq (tgt := 130) d_E_performWithErrors_123 (by decide) ?_ ?_
    · refine hp_bipush (v := -4) d_E_performWithErrors_130 (by decide) ?_
      refine hp_sub [] rfl ?_
      exact j_E_performWithErrors_132  _ _
    · refine hp_iload_n (x0 := 2) d_E_performWithErrors_126 rfl rfl ?_
      refine hp_goto (tgt := 132) d_E_performWithErrors_127 (by decide) ?_
      refine hp_sub [] rfl ?_
      exact j_E_performWithErrors_132  _ _
  · skip
    refine hp_ite (fun c1 => ?_) (fun c1 => ?_)
    · refine hp_tabI (tgt := 133) (kv := 1) d_E_performWithErrors_1 c1 (by decide) (by decide) rfl (by decide) ?_
      refine hp_aload_n (x0 := 0) d_E_performWithErrors_133 rfl rfl ?_
      refine hp_iload_n (x0 := 2) d_E_performWithErrors_134 rfl rfl ?_
      refine hp_callI (hp_crV (ci := 5) (t_E_boundTo _ _ _ _) cw_E_98 rfl ⟨w_541, ws_7⟩ (by decide) rfl rfl (Nat.le_of_ble_eq_true rfl) d_E_performWithErrors_135) fun q4 => ?_
      refine hp_if_le (tgt := 149) d_E_performWithErrors_138 (by decide) ?_ ?_
      · refine hp_bipush (v := -4) d_E_performWithErrors_149 (by decide) ?_
        refine hp_sub [] rfl ?_
        exact j_E_performWithErrors_151  _ _
      · refine hp_aload_n (x0 := 0) d_E_performWithErrors_141 rfl rfl ?_
        refine hp_iload_n (x0 := 2) d_E_performWithErrors_142 rfl rfl ?_
        refine hp_callI (hp_crV (ci := 5) (t_E_boundTo _ _ _ _) cw_E_98 rfl ⟨w_541, ws_7⟩ (by decide) rfl rfl (Nat.le_of_ble_eq_true rfl) d_E_performWithErrors_143) fun q5 => ?_
        refine hp_goto (tgt := 151) d_E_performWithErrors_146 (by decide) ?_
        refine hp_sub [] rfl ?_
        exact j_E_performWithErrors_151  _ _
    · skip
      refine hp_ite (fun c2 => ?_) (fun c2 => ?_)
      · refine hp_tabI (tgt := 152) (kv := 2) d_E_performWithErrors_1 c2 (by decide) (by decide) rfl (by decide) ?_
        refine hp_aload_n (x0 := 0) d_E_performWithErrors_152 rfl rfl ?_
        refine hp_getR fl_E_38 d_E_performWithErrors_153 fun x6 => ?_
        refine hp_aload_n (x0 := 0) d_E_performWithErrors_156 rfl rfl ?_
        refine hp_iload_n (x0 := 2) d_E_performWithErrors_157 rfl rfl ?_
        refine hp_callI (hp_crV (ci := 5) (t_E_boundTo _ _ _ _) cw_E_98 rfl ⟨w_541, ws_7⟩ (by decide) rfl rfl (Nat.le_of_ble_eq_true rfl) d_E_performWithErrors_158) fun q7 => ?_
        refine hp_if_le (tgt := 168) d_E_performWithErrors_161 (by decide) ?_ ?_
        · refine hp_iconst (v := 0) d_E_performWithErrors_168 (by decide) ?_
          refine hp_sub [] rfl ?_
          exact j_E_performWithErrors_169  _ _ _
        · refine hp_iconst (v := 1) d_E_performWithErrors_164 (by decide) ?_
          refine hp_goto (tgt := 169) d_E_performWithErrors_165 (by decide) ?_
          refine hp_sub [] rfl ?_
          exact j_E_performWithErrors_169  _ _ _
      · skip
        refine hp_ite (fun c3 => ?_) (fun c3 => ?_)
        · refine hp_tabI (tgt := 196) (kv := 3) d_E_performWithErrors_1 c3 (by decide) (by decide) rfl (by decide) ?_
          refine hp_aload_n (x0 := 0) d_E_performWithErrors_196 rfl rfl ?_
          refine hp_iload_n (x0 := 2) d_E_performWithErrors_197 rfl rfl ?_
          refine hp_callI (hp_crV (ci := 5) (t_E_among _ _ _ _) cw_E_114 rfl ⟨w_570, ws_13⟩ (by decide) rfl rfl (Nat.le_of_ble_eq_true rfl) d_E_performWithErrors_198) fun q8 => ?_
          exact hp_iret d_E_performWithErrors_201 rfl
        · skip
          refine hp_ite (fun c4 => ?_) (fun c4 => ?_)
          · refine hp_tabI (tgt := 173) (kv := 4) d_E_performWithErrors_1 c4 (by decide) (by decide) rfl (by decide) ?_
            refine hp_aload_n (x0 := 0) d_E_performWithErrors_173 rfl rfl ?_
            refine hp_iconst (v := 0) d_E_performWithErrors_174 (by decide) ?_
            refine hp_callI (hp_crV (ci := 5) (t_E_decidedBy _ _ _ _) cw_E_105 rfl ⟨w_546, ws_8⟩ (by decide) rfl rfl (Nat.le_of_ble_eq_true rfl) d_E_performWithErrors_175) fun q9 => ?_
            exact hp_iret d_E_performWithErrors_178 rfl
          · skip
            refine hp_ite (fun c5 => ?_) (fun c5 => ?_)
            · refine hp_tabI (tgt := 179) (kv := 5) d_E_performWithErrors_1 c5 (by decide) (by decide) rfl (by decide) ?_
              refine hp_aload_n (x0 := 0) d_E_performWithErrors_179 rfl rfl ?_
              refine hp_iconst (v := 1) d_E_performWithErrors_180 (by decide) ?_
              refine hp_callI (hp_crV (ci := 5) (t_E_decidedBy _ _ _ _) cw_E_105 rfl ⟨w_546, ws_8⟩ (by decide) rfl rfl (Nat.le_of_ble_eq_true rfl) d_E_performWithErrors_181) fun q10 => ?_
              exact hp_iret d_E_performWithErrors_184 rfl
            · skip
              refine hp_ite (fun c6 => ?_) (fun c6 => ?_)
              · refine hp_tabI (tgt := 196) (kv := 6) d_E_performWithErrors_1 c6 (by decide) (by decide) rfl (by decide) ?_
                refine hp_aload_n (x0 := 0) d_E_performWithErrors_196 rfl rfl ?_
                refine hp_iload_n (x0 := 2) d_E_performWithErrors_197 rfl rfl ?_
                refine hp_callI (hp_crV (ci := 5) (t_E_among _ _ _ _) cw_E_114 rfl ⟨w_570, ws_13⟩ (by decide) rfl rfl (Nat.le_of_ble_eq_true rfl) d_E_performWithErrors_198) fun q11 => ?_
                exact hp_iret d_E_performWithErrors_201 rfl
              · skip
                refine hp_ite (fun c7 => ?_) (fun c7 => ?_)
                · refine hp_tabI (tgt := 196) (kv := 7) d_E_performWithErrors_1 c7 (by decide) (by decide) rfl (by decide) ?_
                  refine hp_aload_n (x0 := 0) d_E_performWithErrors_196 rfl rfl ?_
                  refine hp_iload_n (x0 := 2) d_E_performWithErrors_197 rfl rfl ?_
                  refine hp_callI (hp_crV (ci := 5) (t_E_among _ _ _ _) cw_E_114 rfl ⟨w_570, ws_13⟩ (by decide) rfl rfl (Nat.le_of_ble_eq_true rfl) d_E_performWithErrors_198) fun q12 => ?_
                  exact hp_iret d_E_performWithErrors_201 rfl
                · skip
                  refine hp_ite (fun c8 => ?_) (fun c8 => ?_)
                  · refine hp_tabI (tgt := 196) (kv := 8) d_E_performWithErrors_1 c8 (by decide) (by decide) rfl (by decide) ?_
                    refine hp_aload_n (x0 := 0) d_E_performWithErrors_196 rfl rfl ?_
                    refine hp_iload_n (x0 := 2) d_E_performWithErrors_197 rfl rfl ?_
                    refine hp_callI (hp_crV (ci := 5) (t_E_among _ _ _ _) cw_E_114 rfl ⟨w_570, ws_13⟩ (by decide) rfl rfl (Nat.le_of_ble_eq_true rfl) d_E_performWithErrors_198) fun q13 => ?_
                    exact hp_iret d_E_performWithErrors_201 rfl
                  · skip
                    refine hp_ite (fun c9 => ?_) (fun c9 => ?_)
                    · refine hp_tabI (tgt := 196) (kv := 9) d_E_performWithErrors_1 c9 (by decide) (by decide) rfl (by decide) ?_
                      refine hp_aload_n (x0 := 0) d_E_performWithErrors_196 rfl rfl ?_
                      refine hp_iload_n (x0 := 2) d_E_performWithErrors_197 rfl rfl ?_
                      refine hp_callI (hp_crV (ci := 5) (t_E_among _ _ _ _) cw_E_114 rfl ⟨w_570, ws_13⟩ (by decide) rfl rfl (Nat.le_of_ble_eq_true rfl) d_E_performWithErrors_198) fun q14 => ?_
                      exact hp_iret d_E_performWithErrors_201 rfl
                    · skip
                      refine hp_ite (fun c10 => ?_) (fun c10 => ?_)
                      · refine hp_tabI (tgt := 196) (kv := 10) d_E_performWithErrors_1 c10 (by decide) (by decide) rfl (by decide) ?_
                        refine hp_aload_n (x0 := 0) d_E_performWithErrors_196 rfl rfl ?_
                        refine hp_iload_n (x0 := 2) d_E_performWithErrors_197 rfl rfl ?_
                        refine hp_callI (hp_crV (ci := 5) (t_E_among _ _ _ _) cw_E_114 rfl ⟨w_570, ws_13⟩ (by decide) rfl rfl (Nat.le_of_ble_eq_true rfl) d_E_performWithErrors_198) fun q15 => ?_
                        exact hp_iret d_E_performWithErrors_201 rfl
                      · skip
                        refine hp_ite (fun c11 => ?_) (fun c11 => ?_)
                        · refine hp_tabI (tgt := 196) (kv := 11) d_E_performWithErrors_1 c11 (by decide) (by decide) rfl (by decide) ?_
                          refine hp_aload_n (x0 := 0) d_E_performWithErrors_196 rfl rfl ?_
                          refine hp_iload_n (x0 := 2) d_E_performWithErrors_197 rfl rfl ?_
                          refine hp_callI (hp_crV (ci := 5) (t_E_among _ _ _ _) cw_E_114 rfl ⟨w_570, ws_13⟩ (by decide) rfl rfl (Nat.le_of_ble_eq_true rfl) d_E_performWithErrors_198) fun q16 => ?_
                          exact hp_iret d_E_performWithErrors_201 rfl
                        · skip
                          refine hp_ite (fun c12 => ?_) (fun c12 => ?_)
                          · refine hp_tabI (tgt := 196) (kv := 12) d_E_performWithErrors_1 c12 (by decide) (by decide) rfl (by decide) ?_
                            refine hp_aload_n (x0 := 0) d_E_performWithErrors_196 rfl rfl ?_
                            refine hp_iload_n (x0 := 2) d_E_performWithErrors_197 rfl rfl ?_
                            refine hp_callI (hp_crV (ci := 5) (t_E_among _ _ _ _) cw_E_114 rfl ⟨w_570, ws_13⟩ (by decide) rfl rfl (Nat.le_of_ble_eq_true rfl) d_E_performWithErrors_198) fun q17 => ?_
                            exact hp_iret d_E_performWithErrors_201 rfl
                          · skip
                            refine hp_ite (fun c13 => ?_) (fun c13 => ?_)
                            · refine hp_tabI (tgt := 196) (kv := 13) d_E_performWithErrors_1 c13 (by decide) (by decide) rfl (by decide) ?_
                              refine hp_aload_n (x0 := 0) d_E_performWithErrors_196 rfl rfl ?_
                              refine hp_iload_n (x0 := 2) d_E_performWithErrors_197 rfl rfl ?_
                              refine hp_callI (hp_crV (ci := 5) (t_E_among _ _ _ _) cw_E_114 rfl ⟨w_570, ws_13⟩ (by decide) rfl rfl (Nat.le_of_ble_eq_true rfl) d_E_performWithErrors_198) fun q18 => ?_
                              exact hp_iret d_E_performWithErrors_201 rfl
                            · skip
                              refine hp_ite (fun c14 => ?_) (fun c14 => ?_)
                              · refine hp_tabI (tgt := 196) (kv := 14) d_E_performWithErrors_1 c14 (by decide) (by decide) rfl (by decide) ?_
                                refine hp_aload_n (x0 := 0) d_E_performWithErrors_196 rfl rfl ?_
                                refine hp_iload_n (x0 := 2) d_E_performWithErrors_197 rfl rfl ?_
                                refine hp_callI (hp_crV (ci := 5) (t_E_among _ _ _ _) cw_E_114 rfl ⟨w_570, ws_13⟩ (by decide) rfl rfl (Nat.le_of_ble_eq_true rfl) d_E_performWithErrors_198) fun q19 => ?_
                                exact hp_iret d_E_performWithErrors_201 rfl
                              · skip
                                refine hp_ite (fun c15 => ?_) (fun c15 => ?_)
                                · refine hp_tabI (tgt := 196) (kv := 15) d_E_performWithErrors_1 c15 (by decide) (by decide) rfl (by decide) ?_
                                  refine hp_aload_n (x0 := 0) d_E_performWithErrors_196 rfl rfl ?_
                                  refine hp_iload_n (x0 := 2) d_E_performWithErrors_197 rfl rfl ?_
                                  refine hp_callI (hp_crV (ci := 5) (t_E_among _ _ _ _) cw_E_114 rfl ⟨w_570, ws_13⟩ (by decide) rfl rfl (Nat.le_of_ble_eq_true rfl) d_E_performWithErrors_198) fun q20 => ?_
                                  exact hp_iret d_E_performWithErrors_201 rfl
                                · skip
                                  refine hp_ite (fun c16 => ?_) (fun c16 => ?_)
                                  · refine hp_tabI (tgt := 196) (kv := 16) d_E_performWithErrors_1 c16 (by decide) (by decide) rfl (by decide) ?_
                                    refine hp_aload_n (x0 := 0) d_E_performWithErrors_196 rfl rfl ?_
                                    refine hp_iload_n (x0 := 2) d_E_performWithErrors_197 rfl rfl ?_
                                    refine hp_callI (hp_crV (ci := 5) (t_E_among _ _ _ _) cw_E_114 rfl ⟨w_570, ws_13⟩ (by decide) rfl rfl (Nat.le_of_ble_eq_true rfl) d_E_performWithErrors_198) fun q21 => ?_
                                    exact hp_iret d_E_performWithErrors_201 rfl
                                  · skip
                                    refine hp_ite (fun c17 => ?_) (fun c17 => ?_)
                                    · refine hp_tabI (tgt := 196) (kv := 17) d_E_performWithErrors_1 c17 (by decide) (by decide) rfl (by decide) ?_
                                      refine hp_aload_n (x0 := 0) d_E_performWithErrors_196 rfl rfl ?_
                                      refine hp_iload_n (x0 := 2) d_E_performWithErrors_197 rfl rfl ?_
                                      refine hp_callI (hp_crV (ci := 5) (t_E_among _ _ _ _) cw_E_114 rfl ⟨w_570, ws_13⟩ (by decide) rfl rfl (Nat.le_of_ble_eq_true rfl) d_E_performWithErrors_198) fun q22 => ?_
                                      exact hp_iret d_E_performWithErrors_201 rfl
                                    · skip
                                      refine hp_ite (fun c18 => ?_) (fun c18 => ?_)
                                      · refine hp_tabI (tgt := 196) (kv := 18) d_E_performWithErrors_1 c18 (by decide) (by decide) rfl (by decide) ?_
                                        refine hp_aload_n (x0 := 0) d_E_performWithErrors_196 rfl rfl ?_
                                        refine hp_iload_n (x0 := 2) d_E_performWithErrors_197 rfl rfl ?_
                                        refine hp_callI (hp_crV (ci := 5) (t_E_among _ _ _ _) cw_E_114 rfl ⟨w_570, ws_13⟩ (by decide) rfl rfl (Nat.le_of_ble_eq_true rfl) d_E_performWithErrors_198) fun q23 => ?_
                                        exact hp_iret d_E_performWithErrors_201 rfl
                                      · skip
                                        refine hp_ite (fun c19 => ?_) (fun c19 => ?_)
                                        · refine hp_tabI (tgt := 196) (kv := 19) d_E_performWithErrors_1 c19 (by decide) (by decide) rfl (by decide) ?_
                                          refine hp_aload_n (x0 := 0) d_E_performWithErrors_196 rfl rfl ?_
                                          refine hp_iload_n (x0 := 2) d_E_performWithErrors_197 rfl rfl ?_
                                          refine hp_callI (hp_crV (ci := 5) (t_E_among _ _ _ _) cw_E_114 rfl ⟨w_570, ws_13⟩ (by decide) rfl rfl (Nat.le_of_ble_eq_true rfl) d_E_performWithErrors_198) fun q24 => ?_
                                          exact hp_iret d_E_performWithErrors_201 rfl
                                        · skip
                                          refine hp_ite (fun c20 => ?_) (fun c20 => ?_)
                                          · refine hp_tabI (tgt := 196) (kv := 20) d_E_performWithErrors_1 c20 (by decide) (by decide) rfl (by decide) ?_
                                            refine hp_aload_n (x0 := 0) d_E_performWithErrors_196 rfl rfl ?_
                                            refine hp_iload_n (x0 := 2) d_E_performWithErrors_197 rfl rfl ?_
                                            refine hp_callI (hp_crV (ci := 5) (t_E_among _ _ _ _) cw_E_114 rfl ⟨w_570, ws_13⟩ (by decide) rfl rfl (Nat.le_of_ble_eq_true rfl) d_E_performWithErrors_198) fun q25 => ?_
                                            exact hp_iret d_E_performWithErrors_201 rfl
                                          · skip
                                            refine hp_ite (fun c21 => ?_) (fun c21 => ?_)
                                            · refine hp_tabI (tgt := 196) (kv := 21) d_E_performWithErrors_1 c21 (by decide) (by decide) rfl (by decide) ?_
                                              refine hp_aload_n (x0 := 0) d_E_performWithErrors_196 rfl rfl ?_
                                              refine hp_iload_n (x0 := 2) d_E_performWithErrors_197 rfl rfl ?_
                                              refine hp_callI (hp_crV (ci := 5) (t_E_among _ _ _ _) cw_E_114 rfl ⟨w_570, ws_13⟩ (by decide) rfl rfl (Nat.le_of_ble_eq_true rfl) d_E_performWithErrors_198) fun q26 => ?_
                                              exact hp_iret d_E_performWithErrors_201 rfl
                                            · skip
                                              refine hp_ite (fun c22 => ?_) (fun c22 => ?_)
                                              · refine hp_tabI (tgt := 185) (kv := 22) d_E_performWithErrors_1 c22 (by decide) (by decide) rfl (by decide) ?_
                                                refine hp_aload_n (x0 := 0) d_E_performWithErrors_185 rfl rfl ?_
                                                refine hp_callI (hp_crV (ci := 5) (t_E_chosen _ _ _) cw_E_108 rfl ⟨w_562, ws_11⟩ (by decide) rfl rfl (Nat.le_of_ble_eq_true rfl) d_E_performWithErrors_186) fun q27 => ?_
                                                exact hp_iret d_E_performWithErrors_189 rfl
                                              · skip
                                                refine hp_ite (fun c23 => ?_) (fun c23 => ?_)
                                                · refine hp_tabI (tgt := 190) (kv := 23) d_E_performWithErrors_1 c23 (by decide) (by decide) rfl (by decide) ?_
                                                  refine hp_aload_n (x0 := 0) d_E_performWithErrors_190 rfl rfl ?_
                                                  refine hp_iload_n (x0 := 2) d_E_performWithErrors_191 rfl rfl ?_
                                                  refine hp_callI (hp_crV (ci := 5) (t_E_firstGood _ _ _ _) cw_E_111 rfl ⟨w_566, ws_12⟩ (by decide) rfl rfl (Nat.le_of_ble_eq_true rfl) d_E_performWithErrors_192) fun q28 => ?_
                                                  exact hp_iret d_E_performWithErrors_195 rfl
                                                · skip
                                                  refine hp_tabD (tgt := 196) d_E_performWithErrors_1 (by have e0 := lv_neT c0 (a := 0) (by decide); have e1 := lv_neT c1 (a := 1) (by decide); have e2 := lv_neT c2 (a := 2) (by decide); have e3 := lv_neT c3 (a := 3) (by decide); have e4 := lv_neT c4 (a := 4) (by decide); have e5 := lv_neT c5 (a := 5) (by decide); have e6 := lv_neT c6 (a := 6) (by decide); have e7 := lv_neT c7 (a := 7) (by decide); have e8 := lv_neT c8 (a := 8) (by decide); have e9 := lv_neT c9 (a := 9) (by decide); have e10 := lv_neT c10 (a := 10) (by decide); have e11 := lv_neT c11 (a := 11) (by decide); have e12 := lv_neT c12 (a := 12) (by decide); have e13 := lv_neT c13 (a := 13) (by decide); have e14 := lv_neT c14 (a := 14) (by decide); have e15 := lv_neT c15 (a := 15) (by decide); have e16 := lv_neT c16 (a := 16) (by decide); have e17 := lv_neT c17 (a := 17) (by decide); have e18 := lv_neT c18 (a := 18) (by decide); have e19 := lv_neT c19 (a := 19) (by decide); have e20 := lv_neT c20 (a := 20) (by decide); have e21 := lv_neT c21 (a := 21) (by decide); have e22 := lv_neT c22 (a := 22) (by decide); have e23 := lv_neT c23 (a := 23) (by decide); omega) (by decide) ?_
                                                  refine hp_aload_n (x0 := 0) d_E_performWithErrors_196 rfl rfl ?_
                                                  refine hp_iload_n (x0 := 2) d_E_performWithErrors_197 rfl rfl ?_
                                                  refine hp_callI (hp_crV (ci := 5) (t_E_among _ _ _ _) cw_E_114 rfl ⟨w_570, ws_13⟩ (by decide) rfl rfl (Nat.le_of_ble_eq_true rfl) d_E_performWithErrors_198) fun q29 => ?_
                                                  exact hp_iret d_E_performWithErrors_201 rfl
theorem t_E_performWithErrors (l : Launch) (E : hp_E) (a0 : Nat) (a1 : Int32) (a2 : Int32) : hp_M l E y_E_performWithErrors Y_E_performWithErrors hp_rI [.ref a0, .int a1, .int a2] (m_E_performWithErrors E.2.2.1 a0 a1 a2) := hp_M.of (plainFor_of_name (by decide)) ⟨rfl, rfl⟩ (Nat.le_of_ble_eq_true rfl) (fun Z h hE => by subst hE; exact j_E_performWithErrors_0 _ _ _ h)
-- E_evaluate
theorem d_E_evaluate_0 : decode prog_2_method_5_code 0 = .ok (.aload_n 0, 1) := by decide +kernel
theorem d_E_evaluate_1 : decode prog_2_method_5_code 1 = .ok (.invokevirtual 56, 3) := by decide +kernel
theorem d_E_evaluate_4 : decode prog_2_method_5_code 4 = .ok (.ifCond .ne 5, 3) := by decide +kernel
theorem d_E_evaluate_7 : decode prog_2_method_5_code 7 = .ok (.iconst (-1), 1) := by decide +kernel
theorem d_E_evaluate_8 : decode prog_2_method_5_code 8 = .ok (.ireturn, 1) := by decide +kernel
theorem d_E_evaluate_9 : decode prog_2_method_5_code 9 = .ok (.aload_n 0, 1) := by decide +kernel
theorem d_E_evaluate_10 : decode prog_2_method_5_code 10 = .ok (.iconst 0, 1) := by decide +kernel
theorem d_E_evaluate_11 : decode prog_2_method_5_code 11 = .ok (.putfield 60, 3) := by decide +kernel
theorem d_E_evaluate_14 : decode prog_2_method_5_code 14 = .ok (.iconst 0, 1) := by decide +kernel
theorem d_E_evaluate_15 : decode prog_2_method_5_code 15 = .ok (.istore_n 1, 1) := by decide +kernel
theorem d_E_evaluate_16 : decode prog_2_method_5_code 16 = .ok (.iload_n 1, 1) := by decide +kernel
theorem d_E_evaluate_17 : decode prog_2_method_5_code 17 = .ok (.aload_n 0, 1) := by decide +kernel
theorem d_E_evaluate_18 : decode prog_2_method_5_code 18 = .ok (.getfield 46, 3) := by decide +kernel
theorem d_E_evaluate_21 : decode prog_2_method_5_code 21 = .ok (.if_icmp .ge 147, 3) := by decide +kernel
theorem d_E_evaluate_24 : decode prog_2_method_5_code 24 = .ok (.iload_n 1, 1) := by decide +kernel
theorem d_E_evaluate_25 : decode prog_2_method_5_code 25 = .ok (.bipush 100, 2) := by decide +kernel
theorem d_E_evaluate_27 : decode prog_2_method_5_code 27 = .ok (.if_icmp .ge 141, 3) := by decide +kernel
theorem d_E_evaluate_30 : decode prog_2_method_5_code 30 = .ok (.aload_n 0, 1) := by decide +kernel
theorem d_E_evaluate_31 : decode prog_2_method_5_code 31 = .ok (.getfield 9, 3) := by decide +kernel
theorem d_E_evaluate_34 : decode prog_2_method_5_code 34 = .ok (.iload_n 1, 1) := by decide +kernel
theorem d_E_evaluate_35 : decode prog_2_method_5_code 35 = .ok (.iaload, 1) := by decide +kernel
theorem d_E_evaluate_36 : decode prog_2_method_5_code 36 = .ok (.aload_n 0, 1) := by decide +kernel
theorem d_E_evaluate_37 : decode prog_2_method_5_code 37 = .ok (.getfield 15, 3) := by decide +kernel
theorem d_E_evaluate_40 : decode prog_2_method_5_code 40 = .ok (.iload_n 1, 1) := by decide +kernel
theorem d_E_evaluate_41 : decode prog_2_method_5_code 41 = .ok (.iaload, 1) := by decide +kernel
theorem d_E_evaluate_42 : decode prog_2_method_5_code 42 = .ok (.invokestatic 63, 3) := by decide +kernel
theorem d_E_evaluate_45 : decode prog_2_method_5_code 45 = .ok (.istore_n 2, 1) := by decide +kernel
theorem d_E_evaluate_46 : decode prog_2_method_5_code 46 = .ok (.aload_n 0, 1) := by decide +kernel
theorem d_E_evaluate_47 : decode prog_2_method_5_code 47 = .ok (.dup, 1) := by decide +kernel
theorem d_E_evaluate_48 : decode prog_2_method_5_code 48 = .ok (.getfield 60, 3) := by decide +kernel
theorem d_E_evaluate_51 : decode prog_2_method_5_code 51 = .ok (.iload_n 2, 1) := by decide +kernel
theorem d_E_evaluate_52 : decode prog_2_method_5_code 52 = .ok (.isub, 1) := by decide +kernel
theorem d_E_evaluate_53 : decode prog_2_method_5_code 53 = .ok (.putfield 60, 3) := by decide +kernel
theorem d_E_evaluate_56 : decode prog_2_method_5_code 56 = .ok (.aload_n 0, 1) := by decide +kernel
theorem d_E_evaluate_57 : decode prog_2_method_5_code 57 = .ok (.getfield 9, 3) := by decide +kernel
theorem d_E_evaluate_60 : decode prog_2_method_5_code 60 = .ok (.iload_n 1, 1) := by decide +kernel
theorem d_E_evaluate_61 : decode prog_2_method_5_code 61 = .ok (.iaload, 1) := by decide +kernel
theorem d_E_evaluate_62 : decode prog_2_method_5_code 62 = .ok (.invokestatic 67, 3) := by decide +kernel
theorem d_E_evaluate_65 : decode prog_2_method_5_code 65 = .ok (.ifCond .eq 22, 3) := by decide +kernel
theorem d_E_evaluate_68 : decode prog_2_method_5_code 68 = .ok (.aload_n 0, 1) := by decide +kernel
theorem d_E_evaluate_69 : decode prog_2_method_5_code 69 = .ok (.aload_n 0, 1) := by decide +kernel
theorem d_E_evaluate_70 : decode prog_2_method_5_code 70 = .ok (.getfield 9, 3) := by decide +kernel
theorem d_E_evaluate_73 : decode prog_2_method_5_code 73 = .ok (.iload_n 1, 1) := by decide +kernel
theorem d_E_evaluate_74 : decode prog_2_method_5_code 74 = .ok (.iaload, 1) := by decide +kernel
theorem d_E_evaluate_75 : decode prog_2_method_5_code 75 = .ok (.aload_n 0, 1) := by decide +kernel
theorem d_E_evaluate_76 : decode prog_2_method_5_code 76 = .ok (.getfield 15, 3) := by decide +kernel
theorem d_E_evaluate_79 : decode prog_2_method_5_code 79 = .ok (.iload_n 1, 1) := by decide +kernel
theorem d_E_evaluate_80 : decode prog_2_method_5_code 80 = .ok (.iaload, 1) := by decide +kernel
theorem d_E_evaluate_81 : decode prog_2_method_5_code 81 = .ok (.invokevirtual 70, 3) := by decide +kernel
theorem d_E_evaluate_84 : decode prog_2_method_5_code 84 = .ok (.goto 32, 3) := by decide +kernel
theorem d_E_evaluate_87 : decode prog_2_method_5_code 87 = .ok (.aload_n 0, 1) := by decide +kernel
theorem d_E_evaluate_88 : decode prog_2_method_5_code 88 = .ok (.iload_n 2, 1) := by decide +kernel
theorem d_E_evaluate_89 : decode prog_2_method_5_code 89 = .ok (.invokevirtual 73, 3) := by decide +kernel
theorem d_E_evaluate_92 : decode prog_2_method_5_code 92 = .ok (.ifCond .eq 8, 3) := by decide +kernel
theorem d_E_evaluate_95 : decode prog_2_method_5_code 95 = .ok (.bipush (-4), 2) := by decide +kernel
theorem d_E_evaluate_97 : decode prog_2_method_5_code 97 = .ok (.goto 19, 3) := by decide +kernel
theorem d_E_evaluate_100 : decode prog_2_method_5_code 100 = .ok (.aload_n 0, 1) := by decide +kernel
theorem d_E_evaluate_101 : decode prog_2_method_5_code 101 = .ok (.aload_n 0, 1) := by decide +kernel
theorem d_E_evaluate_102 : decode prog_2_method_5_code 102 = .ok (.getfield 9, 3) := by decide +kernel
theorem d_E_evaluate_105 : decode prog_2_method_5_code 105 = .ok (.iload_n 1, 1) := by decide +kernel
theorem d_E_evaluate_106 : decode prog_2_method_5_code 106 = .ok (.iaload, 1) := by decide +kernel
theorem d_E_evaluate_107 : decode prog_2_method_5_code 107 = .ok (.aload_n 0, 1) := by decide +kernel
theorem d_E_evaluate_108 : decode prog_2_method_5_code 108 = .ok (.getfield 15, 3) := by decide +kernel
theorem d_E_evaluate_111 : decode prog_2_method_5_code 111 = .ok (.iload_n 1, 1) := by decide +kernel
theorem d_E_evaluate_112 : decode prog_2_method_5_code 112 = .ok (.iaload, 1) := by decide +kernel
theorem d_E_evaluate_113 : decode prog_2_method_5_code 113 = .ok (.invokevirtual 76, 3) := by decide +kernel
theorem d_E_evaluate_116 : decode prog_2_method_5_code 116 = .ok (.istore_n 3, 1) := by decide +kernel
theorem d_E_evaluate_117 : decode prog_2_method_5_code 117 = .ok (.iload_n 3, 1) := by decide +kernel
theorem d_E_evaluate_118 : decode prog_2_method_5_code 118 = .ok (.bipush (-3), 2) := by decide +kernel
theorem d_E_evaluate_120 : decode prog_2_method_5_code 120 = .ok (.if_icmp .ne 6, 3) := by decide +kernel
theorem d_E_evaluate_123 : decode prog_2_method_5_code 123 = .ok (.bipush (-3), 2) := by decide +kernel
theorem d_E_evaluate_125 : decode prog_2_method_5_code 125 = .ok (.ireturn, 1) := by decide +kernel
theorem d_E_evaluate_126 : decode prog_2_method_5_code 126 = .ok (.aload_n 0, 1) := by decide +kernel
theorem d_E_evaluate_127 : decode prog_2_method_5_code 127 = .ok (.getfield 60, 3) := by decide +kernel
theorem d_E_evaluate_130 : decode prog_2_method_5_code 130 = .ok (.ifCond .lt 22, 3) := by decide +kernel
theorem d_E_evaluate_133 : decode prog_2_method_5_code 133 = .ok (.aload_n 0, 1) := by decide +kernel
theorem d_E_evaluate_134 : decode prog_2_method_5_code 134 = .ok (.getfield 60, 3) := by decide +kernel
theorem d_E_evaluate_137 : decode prog_2_method_5_code 137 = .ok (.bipush 100, 2) := by decide +kernel
theorem d_E_evaluate_139 : decode prog_2_method_5_code 139 = .ok (.if_icmp .ge 13, 3) := by decide +kernel
theorem d_E_evaluate_142 : decode prog_2_method_5_code 142 = .ok (.aload_n 0, 1) := by decide +kernel
theorem d_E_evaluate_143 : decode prog_2_method_5_code 143 = .ok (.getfield 21, 3) := by decide +kernel
theorem d_E_evaluate_146 : decode prog_2_method_5_code 146 = .ok (.aload_n 0, 1) := by decide +kernel
theorem d_E_evaluate_147 : decode prog_2_method_5_code 147 = .ok (.getfield 60, 3) := by decide +kernel
theorem d_E_evaluate_150 : decode prog_2_method_5_code 150 = .ok (.iload_n 3, 1) := by decide +kernel
theorem d_E_evaluate_151 : decode prog_2_method_5_code 151 = .ok (.iastore, 1) := by decide +kernel
theorem d_E_evaluate_152 : decode prog_2_method_5_code 152 = .ok (.aload_n 0, 1) := by decide +kernel
theorem d_E_evaluate_153 : decode prog_2_method_5_code 153 = .ok (.dup, 1) := by decide +kernel
theorem d_E_evaluate_154 : decode prog_2_method_5_code 154 = .ok (.getfield 60, 3) := by decide +kernel
theorem d_E_evaluate_157 : decode prog_2_method_5_code 157 = .ok (.iconst 1, 1) := by decide +kernel
theorem d_E_evaluate_158 : decode prog_2_method_5_code 158 = .ok (.iadd, 1) := by decide +kernel
theorem d_E_evaluate_159 : decode prog_2_method_5_code 159 = .ok (.putfield 60, 3) := by decide +kernel
theorem d_E_evaluate_162 : decode prog_2_method_5_code 162 = .ok (.iinc 1 1, 3) := by decide +kernel
theorem d_E_evaluate_165 : decode prog_2_method_5_code 165 = .ok (.goto (-149), 3) := by decide +kernel
theorem d_E_evaluate_168 : decode prog_2_method_5_code 168 = .ok (.aload_n 0, 1) := by decide +kernel
theorem d_E_evaluate_169 : decode prog_2_method_5_code 169 = .ok (.getfield 21, 3) := by decide +kernel
theorem d_E_evaluate_172 : decode prog_2_method_5_code 172 = .ok (.iconst 0, 1) := by decide +kernel
theorem d_E_evaluate_173 : decode prog_2_method_5_code 173 = .ok (.iaload, 1) := by decide +kernel
theorem d_E_evaluate_174 : decode prog_2_method_5_code 174 = .ok (.ireturn, 1) := by decide +kernel
def m_E_evaluate_152 (G : Nat → Nat) (r16 : Nat → Int32 → hp_H → Option (Int32 × hp_H)) (a0 : Nat) (a1 : Int32) (h : hp_H) : Option (Int32 × hp_H) := (hp_gI h a0 5 8).bind fun x1 => (hp_p h a0 5 8 (.int (x1 + (1 : Int32)))).bind fun h2 => hp_nm (a1 + 1) fun x3 => r16 a0 x3 h2
set_option maxRecDepth 100000 in
set_option maxHeartbeats 4000000 in
theorem j_E_evaluate_152 {Z : hp_Z} (r16 : Nat → Int32 → hp_H → Option (Int32 × hp_H)) (hr16 : ∀ (a0 : Nat) (a1 : Int32) (h : hp_H), hp_J Y_E_evaluate Z hp_rI h 16 [(0, .ref a0), (1, .int a1)] [] (r16 a0 a1  h)) (a0 : Nat) (a1 : Int32) (h : hp_H) : hp_J Y_E_evaluate Z hp_rI h 152 [(0, .ref a0), (1, .int a1)] [] (m_E_evaluate_152 (hp_G Z) r16 a0 a1 h) := by
  unfold m_E_evaluate_152
  refine hp_aload_n (x0 := 0) d_E_evaluate_152 rfl rfl ?_
  refine hp_dup d_E_evaluate_153 rfl ?_
  refine hp_getI fl_E_60 d_E_evaluate_154 fun x1 => ?_
  refine hp_iconst (v := 1) d_E_evaluate_157 (by decide) ?_
  refine hp_iadd d_E_evaluate_158 ?_
  refine hp_put fl_E_60 (fun q => by cases q) rfl rfl d_E_evaluate_159 fun h2 => ?_
  refine hp_iinc (x0 := 1) (d := 1) (fun x3 => [(1, .int x3), (0, .ref a0)]) d_E_evaluate_162 rfl (by decide) (by decide) (fun _ => rfl) fun x3 => ?_
  refine hp_goto (tgt := 16) d_E_evaluate_165 (by decide) ?_
  refine hp_sub [1, 0] rfl ?_
  exact hr16 _ _ _
def m_E_evaluate_116 (G : Nat → Nat) (r16 : Nat → Int32 → hp_H → Option (Int32 × hp_H)) (a0 : Nat) (a1 : Int32) (s0 : Int32) (h : hp_H) : Option (Int32 × hp_H) := hp_nm s0 fun x1 => if x1 = (-3 : Int32) then (some ((-3 : Int32), h)) else ((hp_gI h a0 5 8).bind fun x2 => if x2 < 0 then (m_E_evaluate_152 G r16 a0 a1 h) else ((hp_gI h a0 5 8).bind fun x3 => if (100 : Int32) ≤ x3 then (m_E_evaluate_152 G r16 a0 a1 h) else ((hp_gR h a0 5 4).bind fun x4 => (hp_gI h a0 5 8).bind fun x5 => (hp_sI h .int x4 x5 x1).bind fun h6 => m_E_evaluate_152 G r16 a0 a1 h6)))
set_option maxRecDepth 100000 in
set_option maxHeartbeats 4000000 in
theorem j_E_evaluate_116 {Z : hp_Z} (r16 : Nat → Int32 → hp_H → Option (Int32 × hp_H)) (hr16 : ∀ (a0 : Nat) (a1 : Int32) (h : hp_H), hp_J Y_E_evaluate Z hp_rI h 16 [(0, .ref a0), (1, .int a1)] [] (r16 a0 a1  h)) (a0 : Nat) (a1 : Int32) (s0 : Int32) (h : hp_H) : hp_J Y_E_evaluate Z hp_rI h 116 [(0, .ref a0), (1, .int a1)] [.int s0] (m_E_evaluate_116 (hp_G Z) r16 a0 a1 s0 h) := by
  unfold m_E_evaluate_116
  refine hp_istore_n (fun x1 => [(3, .int x1), (0, .ref a0), (1, .int a1)]) d_E_evaluate_116 rfl (by decide) (fun _ => rfl) fun x1 => ?_
  refine hp_iload_n (x0 := 0) d_E_evaluate_117 rfl rfl ?_
  refine hp_bipush (v := -3) d_E_evaluate_118 (by decide) ?_
  refine hp_icmp_ne (tgt := 126) d_E_evaluate_120 (by decide) ?_ ?_
  · refine hp_bipush (v := -3) d_E_evaluate_123 (by decide) ?_
    exact hp_iret d_E_evaluate_125 rfl
  · refine hp_aload_n (x0 := 1) d_E_evaluate_126 rfl rfl ?_
    refine hp_getI fl_E_60 d_E_evaluate_127 fun x2 => ?_
    refine hp_if_lt (tgt := 152) d_E_evaluate_130 (by decide) ?_ ?_
    · refine hp_sub [1, 2] rfl ?_
      exact j_E_evaluate_152 _ hr16 _ _ _
    · refine hp_aload_n (x0 := 1) d_E_evaluate_133 rfl rfl ?_
      refine hp_getI fl_E_60 d_E_evaluate_134 fun x3 => ?_
      refine hp_bipush (v := 100) d_E_evaluate_137 (by decide) ?_
      refine hp_icmp_ge (tgt := 152) d_E_evaluate_139 (by decide) ?_ ?_
      · refine hp_sub [1, 2] rfl ?_
        exact j_E_evaluate_152 _ hr16 _ _ _
      · refine hp_aload_n (x0 := 1) d_E_evaluate_142 rfl rfl ?_
        refine hp_getR fl_E_21 d_E_evaluate_143 fun x4 => ?_
        refine hp_aload_n (x0 := 1) d_E_evaluate_146 rfl rfl ?_
        refine hp_getI fl_E_60 d_E_evaluate_147 fun x5 => ?_
        refine hp_iload_n (x0 := 0) d_E_evaluate_150 rfl rfl ?_
        refine hp_iast d_E_evaluate_151 fun h6 => ?_
        refine hp_sub [1, 2] rfl ?_
        exact j_E_evaluate_152 _ hr16 _ _ _
def m_E_evaluate_168 (G : Nat → Nat) (a0 : Nat) (h : hp_H) : Option (Int32 × hp_H) := (hp_gR h a0 5 4).bind fun x1 => (hp_aI h .int x1 (0 : Int32)).bind fun x2 => some (x2, h)
set_option maxRecDepth 100000 in
set_option maxHeartbeats 4000000 in
theorem j_E_evaluate_168 {Z : hp_Z} (a0 : Nat) (h : hp_H) : hp_J Y_E_evaluate Z hp_rI h 168 [(0, .ref a0)] [] (m_E_evaluate_168 (hp_G Z)  a0 h) := by
  unfold m_E_evaluate_168
  refine hp_aload_n (x0 := 0) d_E_evaluate_168 rfl rfl ?_
  refine hp_getR fl_E_21 d_E_evaluate_169 fun x1 => ?_
  refine hp_iconst (v := 0) d_E_evaluate_172 (by decide) ?_
  refine hp_iald d_E_evaluate_173 fun x2 => ?_
  exact hp_iret d_E_evaluate_174 rfl
def m_E_evaluate_16 (G : Nat → Nat) : Nat → Nat → Int32 → hp_H → Option (Int32 × hp_H)
  | 0, _, _, _ => none
  | n + 1, a0, a1, h => (hp_gI h a0 5 7).bind fun x1 => if x1 ≤ a1 then (m_E_evaluate_168 G a0 h) else (if (100 : Int32) ≤ a1 then (m_E_evaluate_168 G a0 h) else ((hp_gR h a0 5 1).bind fun x2 => (hp_aI h .int x2 a1).bind fun x3 => (hp_gR h a0 5 2).bind fun x4 => (hp_aI h .int x4 a1).bind fun x5 => (m_E_takenBy G x3 x5 h).bind fun q6 => hp_nm q6.1 fun x7 => (hp_gI q6.2 a0 5 8).bind fun x8 => (hp_p q6.2 a0 5 8 (.int (x8 - x7))).bind fun h9 => (hp_gR h9 a0 5 1).bind fun x10 => (hp_aI h9 .int x10 a1).bind fun x11 => (m_E_bearsErrors G x11 h9).bind fun q12 => if q12.1 = 0 then ((hp_vck q12.2 a0 5 (m_E_hasTakenError G a0 x7 q12.2)).bind fun q13 => if q13.1 = 0 then ((hp_gR q13.2 a0 5 1).bind fun x14 => (hp_aI q13.2 .int x14 a1).bind fun x15 => (hp_gR q13.2 a0 5 2).bind fun x16 => (hp_aI q13.2 .int x16 a1).bind fun x17 => (hp_vck q13.2 a0 5 (m_E_performOnValues G a0 x15 x17 q13.2)).bind fun q18 => m_E_evaluate_116 G (m_E_evaluate_16 G  n) a0 a1 q18.1 q18.2) else (m_E_evaluate_116 G (m_E_evaluate_16 G  n) a0 a1 (-4 : Int32) q13.2)) else ((hp_gR q12.2 a0 5 1).bind fun x19 => (hp_aI q12.2 .int x19 a1).bind fun x20 => (hp_gR q12.2 a0 5 2).bind fun x21 => (hp_aI q12.2 .int x21 a1).bind fun x22 => (hp_vck q12.2 a0 5 (m_E_performWithErrors G a0 x20 x22 q12.2)).bind fun q23 => m_E_evaluate_116 G (m_E_evaluate_16 G  n) a0 a1 q23.1 q23.2)))
set_option maxRecDepth 100000 in
set_option maxHeartbeats 4000000 in
theorem j_E_evaluate_16 {Z : hp_Z} : ∀ (n : Nat) (a0 : Nat) (a1 : Int32) (h : hp_H), hp_J Y_E_evaluate Z hp_rI h 16 [(0, .ref a0), (1, .int a1)] [] (m_E_evaluate_16 (hp_G Z)  n a0 a1 h) := by
  intro n
  induction n with
  | zero => intro a0 a1 h; exact hp_fail
  | succ n ih =>
    intro a0 a1 h
    rw [m_E_evaluate_16]
    refine hp_iload_n (x0 := 1) d_E_evaluate_16 rfl rfl ?_
    refine hp_aload_n (x0 := 0) d_E_evaluate_17 rfl rfl ?_
    refine hp_getI fl_E_46 d_E_evaluate_18 fun x1 => ?_
    refine hp_icmp_ge (tgt := 168) d_E_evaluate_21 (by decide) ?_ ?_
    · refine hp_sub [0] rfl ?_
      exact j_E_evaluate_168  _ _
    · refine hp_iload_n (x0 := 1) d_E_evaluate_24 rfl rfl ?_
      refine hp_bipush (v := 100) d_E_evaluate_25 (by decide) ?_
      refine hp_icmp_ge (tgt := 168) d_E_evaluate_27 (by decide) ?_ ?_
      · refine hp_sub [0] rfl ?_
        exact j_E_evaluate_168  _ _
      · refine hp_aload_n (x0 := 0) d_E_evaluate_30 rfl rfl ?_
        refine hp_getR fl_E_9 d_E_evaluate_31 fun x2 => ?_
        refine hp_iload_n (x0 := 1) d_E_evaluate_34 rfl rfl ?_
        refine hp_iald d_E_evaluate_35 fun x3 => ?_
        refine hp_aload_n (x0 := 0) d_E_evaluate_36 rfl rfl ?_
        refine hp_getR fl_E_15 d_E_evaluate_37 fun x4 => ?_
        refine hp_iload_n (x0 := 1) d_E_evaluate_40 rfl rfl ?_
        refine hp_iald d_E_evaluate_41 fun x5 => ?_
        refine hp_callI (hp_crS (t_E_takenBy _ _ _ _) cw_E_63 w_527 (by decide) rfl rfl (Nat.le_of_ble_eq_true rfl) d_E_evaluate_42) fun q6 => ?_
        refine hp_istore_n (fun x7 => [(2, .int x7), (0, .ref a0), (1, .int a1)]) d_E_evaluate_45 rfl (by decide) (fun _ => rfl) fun x7 => ?_
        refine hp_aload_n (x0 := 1) d_E_evaluate_46 rfl rfl ?_
        refine hp_dup d_E_evaluate_47 rfl ?_
        refine hp_getI fl_E_60 d_E_evaluate_48 fun x8 => ?_
        refine hp_iload_n (x0 := 0) d_E_evaluate_51 rfl rfl ?_
        refine hp_isub d_E_evaluate_52 ?_
        refine hp_put fl_E_60 (fun q => by cases q) rfl rfl d_E_evaluate_53 fun h9 => ?_
        refine hp_aload_n (x0 := 1) d_E_evaluate_56 rfl rfl ?_
        refine hp_getR fl_E_9 d_E_evaluate_57 fun x10 => ?_
        refine hp_iload_n (x0 := 2) d_E_evaluate_60 rfl rfl ?_
        refine hp_iald d_E_evaluate_61 fun x11 => ?_
        refine hp_callI (hp_crS (t_E_bearsErrors _ _ _) cw_E_67 w_532 (by decide) rfl rfl (Nat.le_of_ble_eq_true rfl) d_E_evaluate_62) fun q12 => ?_
        refine hp_if_eq (tgt := 87) d_E_evaluate_65 (by decide) ?_ ?_
        · refine hp_aload_n (x0 := 1) d_E_evaluate_87 rfl rfl ?_
          refine hp_iload_n (x0 := 0) d_E_evaluate_88 rfl rfl ?_
          refine hp_callI (hp_crV (ci := 5) (t_E_hasTakenError _ _ _ _) cw_E_73 rfl ⟨w_580, ws_15⟩ (by decide) rfl rfl (Nat.le_of_ble_eq_true rfl) d_E_evaluate_89) fun q13 => ?_
          refine hp_if_eq (tgt := 100) d_E_evaluate_92 (by decide) ?_ ?_
          · refine hp_aload_n (x0 := 1) d_E_evaluate_100 rfl rfl ?_
            refine hp_aload_n (x0 := 1) d_E_evaluate_101 rfl rfl ?_
            refine hp_getR fl_E_9 d_E_evaluate_102 fun x14 => ?_
            refine hp_iload_n (x0 := 2) d_E_evaluate_105 rfl rfl ?_
            refine hp_iald d_E_evaluate_106 fun x15 => ?_
            refine hp_aload_n (x0 := 1) d_E_evaluate_107 rfl rfl ?_
            refine hp_getR fl_E_15 d_E_evaluate_108 fun x16 => ?_
            refine hp_iload_n (x0 := 2) d_E_evaluate_111 rfl rfl ?_
            refine hp_iald d_E_evaluate_112 fun x17 => ?_
            refine hp_callI (hp_crV (ci := 5) (t_E_performOnValues _ _ _ _ _) cw_E_76 rfl ⟨w_584, ws_16⟩ (by decide) rfl rfl (Nat.le_of_ble_eq_true rfl) d_E_evaluate_113) fun q18 => ?_
            refine hp_sub [1, 2] rfl ?_
            exact j_E_evaluate_116 _ ih _ _ _ _
          · refine hp_bipush (v := -4) d_E_evaluate_95 (by decide) ?_
            refine hp_goto (tgt := 116) d_E_evaluate_97 (by decide) ?_
            refine hp_sub [1, 2] rfl ?_
            exact j_E_evaluate_116 _ ih _ _ _ _
        · refine hp_aload_n (x0 := 1) d_E_evaluate_68 rfl rfl ?_
          refine hp_aload_n (x0 := 1) d_E_evaluate_69 rfl rfl ?_
          refine hp_getR fl_E_9 d_E_evaluate_70 fun x19 => ?_
          refine hp_iload_n (x0 := 2) d_E_evaluate_73 rfl rfl ?_
          refine hp_iald d_E_evaluate_74 fun x20 => ?_
          refine hp_aload_n (x0 := 1) d_E_evaluate_75 rfl rfl ?_
          refine hp_getR fl_E_15 d_E_evaluate_76 fun x21 => ?_
          refine hp_iload_n (x0 := 2) d_E_evaluate_79 rfl rfl ?_
          refine hp_iald d_E_evaluate_80 fun x22 => ?_
          refine hp_callI (hp_crV (ci := 5) (t_E_performWithErrors _ _ _ _ _) cw_E_70 rfl ⟨w_536, ws_6⟩ (by decide) rfl rfl (Nat.le_of_ble_eq_true rfl) d_E_evaluate_81) fun q23 => ?_
          refine hp_goto (tgt := 116) d_E_evaluate_84 (by decide) ?_
          refine hp_sub [1, 2] rfl ?_
          exact j_E_evaluate_116 _ ih _ _ _ _
def m_E_evaluate (G : Nat → Nat) (a0 : Nat) (h : hp_H) : Option (Int32 × hp_H) := (hp_vck h a0 5 (m_E_isRight G a0 h)).bind fun q1 => if q1.1 = 0 then (some ((-1 : Int32), q1.2)) else ((hp_p q1.2 a0 5 8 (.int (0 : Int32))).bind fun h2 => hp_nm (0 : Int32) fun x3 => m_E_evaluate_16 G hp_fu a0 x3 h2)
set_option maxRecDepth 100000 in
set_option maxHeartbeats 4000000 in
theorem j_E_evaluate_0 {Z : hp_Z} (a0 : Nat) (h : hp_H) : hp_J Y_E_evaluate Z hp_rI h 0 [(0, .ref a0)] [] (m_E_evaluate (hp_G Z)  a0 h) := by
  unfold m_E_evaluate
  refine hp_aload_n (x0 := 0) d_E_evaluate_0 rfl rfl ?_
  refine hp_callI (hp_crV (ci := 5) (t_E_isRight _ _ _) cw_E_56 rfl ⟨w_524, ws_5⟩ (by decide) rfl rfl (Nat.le_of_ble_eq_true rfl) d_E_evaluate_1) fun q1 => ?_
  refine hp_if_ne (tgt := 9) d_E_evaluate_4 (by decide) ?_ ?_
  · refine hp_iconst (v := -1) d_E_evaluate_7 (by decide) ?_
    exact hp_iret d_E_evaluate_8 rfl
  · refine hp_aload_n (x0 := 0) d_E_evaluate_9 rfl rfl ?_
    refine hp_iconst (v := 0) d_E_evaluate_10 (by decide) ?_
    refine hp_put fl_E_60 (fun q => by cases q) rfl rfl d_E_evaluate_11 fun h2 => ?_
    refine hp_iconst (v := 0) d_E_evaluate_14 (by decide) ?_
    refine hp_istore_n (fun x3 => [(1, .int x3), (0, .ref a0)]) d_E_evaluate_15 rfl (by decide) (fun _ => rfl) fun x3 => ?_
    refine hp_sub [1, 0] rfl ?_
    exact j_E_evaluate_16  hp_fu _ _ _
theorem t_E_evaluate (l : Launch) (E : hp_E) (a0 : Nat) : hp_M l E y_E_evaluate Y_E_evaluate hp_rI [.ref a0] (m_E_evaluate E.2.2.1 a0) := hp_M.of (plainFor_of_name (by decide)) ⟨rfl, rfl⟩ (Nat.le_of_ble_eq_true rfl) (fun Z h hE => by subst hE; exact j_E_evaluate_0 _ h)
-- D_run
theorem d_D_run_0 : decode prog_1_method_16_code 0 = .ok (.aload_n 0, 1) := by decide +kernel
theorem d_D_run_1 : decode prog_1_method_16_code 1 = .ok (.getfield 28, 3) := by decide +kernel
theorem d_D_run_4 : decode prog_1_method_16_code 4 = .ok (.invokevirtual 120, 3) := by decide +kernel
theorem d_D_run_7 : decode prog_1_method_16_code 7 = .ok (.ireturn, 1) := by decide +kernel
def m_D_run (G : Nat → Nat) (a0 : Nat) (h : hp_H) : Option (Int32 × hp_H) := (hp_gR h a0 0 2).bind fun x1 => (hp_vck h x1 5 (m_E_evaluate G x1 h)).bind fun q2 => some (q2.1, q2.2)
set_option maxRecDepth 100000 in
set_option maxHeartbeats 4000000 in
theorem j_D_run_0 {Z : hp_Z} (a0 : Nat) (h : hp_H) : hp_J Y_D_run Z hp_rI h 0 [(0, .ref a0)] [] (m_D_run (hp_G Z)  a0 h) := by
  unfold m_D_run
  refine hp_aload_n (x0 := 0) d_D_run_0 rfl rfl ?_
  refine hp_getR fl_D_28 d_D_run_1 fun x1 => ?_
  refine hp_callI (hp_crV (ci := 5) (t_E_evaluate _ _ _) cw_D_120 rfl ⟨w_519, w_520⟩ (by decide) rfl rfl (Nat.le_of_ble_eq_true rfl) d_D_run_4) fun q2 => ?_
  exact hp_iret d_D_run_7 rfl
theorem t_D_run (l : Launch) (E : hp_E) (a0 : Nat) : hp_M l E y_D_run Y_D_run hp_rI [.ref a0] (m_D_run E.2.2.1 a0) := hp_M.of (plainFor_of_name (by decide)) ⟨rfl, rfl⟩ (Nat.le_of_ble_eq_true rfl) (fun Z h hE => by subst hE; exact j_D_run_0 _ h)
-- SU_charAt
theorem d_SU_charAt_0 : decode prog_18_method_83_code 0 = .ok (.iload_n 1, 1) := by decide +kernel
theorem d_SU_charAt_1 : decode prog_18_method_83_code 1 = .ok (.aload_n 0, 1) := by decide +kernel
theorem d_SU_charAt_2 : decode prog_18_method_83_code 2 = .ok (.invokestatic 67, 3) := by decide +kernel
theorem d_SU_charAt_5 : decode prog_18_method_83_code 5 = .ok (.aload_n 0, 1) := by decide +kernel
theorem d_SU_charAt_6 : decode prog_18_method_83_code 6 = .ok (.iload_n 1, 1) := by decide +kernel
theorem d_SU_charAt_7 : decode prog_18_method_83_code 7 = .ok (.invokestatic 71, 3) := by decide +kernel
theorem d_SU_charAt_10 : decode prog_18_method_83_code 10 = .ok (.ireturn, 1) := by decide +kernel
def m_SU_charAt (G : Nat → Nat) (a0 : Nat) (a1 : Int32) (h : hp_H) : Option (Int32 × hp_H) := none
set_option maxRecDepth 100000 in
set_option maxHeartbeats 4000000 in
theorem j_SU_charAt_0 {Z : hp_Z} (a0 : Nat) (a1 : Int32) (h : hp_H) : hp_J Y_SU_charAt Z hp_rI h 0 [(0, .ref a0), (1, .int a1)] [] (m_SU_charAt (hp_G Z)  a0 a1 h) := by
  unfold m_SU_charAt
  exact hp_fail
theorem t_SU_charAt (l : Launch) (E : hp_E) (a0 : Nat) (a1 : Int32) : hp_M l E y_SU_charAt Y_SU_charAt hp_rI [.ref a0, .int a1] (m_SU_charAt E.2.2.1 a0 a1) := hp_M.of (by decide +kernel) ⟨rfl, rfl⟩ (Nat.le_of_ble_eq_true rfl) (fun Z h hE => by subst hE; exact j_SU_charAt_0 _ _ h)
-- SU_checkIndex
theorem d_SU_checkIndex_0 : decode prog_18_method_91_code 0 = .ok (.iload_n 0, 1) := by decide +kernel
theorem d_SU_checkIndex_1 : decode prog_18_method_91_code 1 = .ok (.aload_n 1, 1) := by decide +kernel
theorem d_SU_checkIndex_2 : decode prog_18_method_91_code 2 = .ok (.invokestatic 48, 3) := by decide +kernel
theorem d_SU_checkIndex_5 : decode prog_18_method_91_code 5 = .ok (.invokestatic 414, 3) := by decide +kernel
theorem d_SU_checkIndex_8 : decode prog_18_method_91_code 8 = .ok (.return_, 1) := by decide +kernel
def m_SU_checkIndex (G : Nat → Nat) (a0 : Int32) (a1 : Nat) (h : hp_H) : Option (Unit × hp_H) := none
set_option maxRecDepth 100000 in
set_option maxHeartbeats 4000000 in
theorem j_SU_checkIndex_0 {Z : hp_Z} (a0 : Int32) (a1 : Nat) (h : hp_H) : hp_J Y_SU_checkIndex Z hp_rV h 0 [(0, .int a0), (1, .ref a1)] [] (m_SU_checkIndex (hp_G Z)  a0 a1 h) := by
  unfold m_SU_checkIndex
  exact hp_fail
theorem t_SU_checkIndex (l : Launch) (E : hp_E) (a0 : Int32) (a1 : Nat) : hp_M l E y_SU_checkIndex Y_SU_checkIndex hp_rV [.int a0, .ref a1] (m_SU_checkIndex E.2.2.1 a0 a1) := hp_M.of (by decide +kernel) ⟨rfl, rfl⟩ (Nat.le_of_ble_eq_true rfl) (fun Z h hE => by subst hE; exact j_SU_checkIndex_0 _ _ h)
-- SU_length
theorem d_SU_length_0 : decode prog_18_method_6_code 0 = .ok (.aload_n 0, 1) := by decide +kernel
theorem d_SU_length_1 : decode prog_18_method_6_code 1 = .ok (.arraylength, 1) := by decide +kernel
theorem d_SU_length_2 : decode prog_18_method_6_code 2 = .ok (.iconst 1, 1) := by decide +kernel
theorem d_SU_length_3 : decode prog_18_method_6_code 3 = .ok (.ishr, 1) := by decide +kernel
theorem d_SU_length_4 : decode prog_18_method_6_code 4 = .ok (.ireturn, 1) := by decide +kernel
def m_SU_length (G : Nat → Nat) (a0 : Nat) (h : hp_H) : Option (Int32 × hp_H) := none
set_option maxRecDepth 100000 in
set_option maxHeartbeats 4000000 in
theorem j_SU_length_0 {Z : hp_Z} (a0 : Nat) (h : hp_H) : hp_J Y_SU_length Z hp_rI h 0 [(0, .ref a0)] [] (m_SU_length (hp_G Z)  a0 h) := by
  unfold m_SU_length
  exact hp_fail
theorem t_SU_length (l : Launch) (E : hp_E) (a0 : Nat) : hp_M l E y_SU_length Y_SU_length hp_rI [.ref a0] (m_SU_length E.2.2.1 a0) := hp_M.of (by decide +kernel) ⟨rfl, rfl⟩ (Nat.le_of_ble_eq_true rfl) (fun Z h hE => by subst hE; exact j_SU_length_0 _ h)
-- SU_getChar
theorem d_SU_getChar_0 : decode prog_18_method_5_code 0 = .ok (.getstatic 44, 3) := by decide +kernel
theorem d_SU_getChar_3 : decode prog_18_method_5_code 3 = .ok (.ifCond .ne 25, 3) := by decide +kernel
theorem d_SU_getChar_6 : decode prog_18_method_5_code 6 = .ok (.iload_n 1, 1) := by decide +kernel
theorem d_SU_getChar_7 : decode prog_18_method_5_code 7 = .ok (.ifCond .lt 11, 3) := by decide +kernel
theorem d_SU_getChar_10 : decode prog_18_method_5_code 10 = .ok (.iload_n 1, 1) := by decide +kernel
theorem d_SU_getChar_11 : decode prog_18_method_5_code 11 = .ok (.aload_n 0, 1) := by decide +kernel
theorem d_SU_getChar_12 : decode prog_18_method_5_code 12 = .ok (.invokestatic 48, 3) := by decide +kernel
theorem d_SU_getChar_15 : decode prog_18_method_5_code 15 = .ok (.if_icmp .lt 13, 3) := by decide +kernel
theorem d_SU_getChar_18 : decode prog_18_method_5_code 18 = .ok (.new 52, 3) := by decide +kernel
theorem d_SU_getChar_21 : decode prog_18_method_5_code 21 = .ok (.dup, 1) := by decide +kernel
theorem d_SU_getChar_22 : decode prog_18_method_5_code 22 = .ok (.ldc 54, 2) := by decide +kernel
theorem d_SU_getChar_24 : decode prog_18_method_5_code 24 = .ok (.invokespecial 56, 3) := by decide +kernel
theorem d_SU_getChar_27 : decode prog_18_method_5_code 27 = .ok (.athrow, 1) := by decide +kernel
theorem d_SU_getChar_28 : decode prog_18_method_5_code 28 = .ok (.iload_n 1, 1) := by decide +kernel
theorem d_SU_getChar_29 : decode prog_18_method_5_code 29 = .ok (.iconst 1, 1) := by decide +kernel
theorem d_SU_getChar_30 : decode prog_18_method_5_code 30 = .ok (.ishl, 1) := by decide +kernel
theorem d_SU_getChar_31 : decode prog_18_method_5_code 31 = .ok (.istore_n 1, 1) := by decide +kernel
theorem d_SU_getChar_32 : decode prog_18_method_5_code 32 = .ok (.aload_n 0, 1) := by decide +kernel
theorem d_SU_getChar_33 : decode prog_18_method_5_code 33 = .ok (.iload_n 1, 1) := by decide +kernel
theorem d_SU_getChar_34 : decode prog_18_method_5_code 34 = .ok (.iinc 1 1, 3) := by decide +kernel
theorem d_SU_getChar_37 : decode prog_18_method_5_code 37 = .ok (.baload, 1) := by decide +kernel
theorem d_SU_getChar_38 : decode prog_18_method_5_code 38 = .ok (.sipush 255, 3) := by decide +kernel
theorem d_SU_getChar_41 : decode prog_18_method_5_code 41 = .ok (.iand, 1) := by decide +kernel
theorem d_SU_getChar_42 : decode prog_18_method_5_code 42 = .ok (.getstatic 59, 3) := by decide +kernel
theorem d_SU_getChar_45 : decode prog_18_method_5_code 45 = .ok (.ishl, 1) := by decide +kernel
theorem d_SU_getChar_46 : decode prog_18_method_5_code 46 = .ok (.aload_n 0, 1) := by decide +kernel
theorem d_SU_getChar_47 : decode prog_18_method_5_code 47 = .ok (.iload_n 1, 1) := by decide +kernel
theorem d_SU_getChar_48 : decode prog_18_method_5_code 48 = .ok (.baload, 1) := by decide +kernel
theorem d_SU_getChar_49 : decode prog_18_method_5_code 49 = .ok (.sipush 255, 3) := by decide +kernel
theorem d_SU_getChar_52 : decode prog_18_method_5_code 52 = .ok (.iand, 1) := by decide +kernel
theorem d_SU_getChar_53 : decode prog_18_method_5_code 53 = .ok (.getstatic 63, 3) := by decide +kernel
theorem d_SU_getChar_56 : decode prog_18_method_5_code 56 = .ok (.ishl, 1) := by decide +kernel
theorem d_SU_getChar_57 : decode prog_18_method_5_code 57 = .ok (.ior, 1) := by decide +kernel
theorem d_SU_getChar_58 : decode prog_18_method_5_code 58 = .ok (.i2c, 1) := by decide +kernel
theorem d_SU_getChar_59 : decode prog_18_method_5_code 59 = .ok (.ireturn, 1) := by decide +kernel
def m_SU_getChar (G : Nat → Nat) (a0 : Nat) (a1 : Int32) (h : hp_H) : Option (Int32 × hp_H) := none
set_option maxRecDepth 100000 in
set_option maxHeartbeats 4000000 in
theorem j_SU_getChar_0 {Z : hp_Z} (a0 : Nat) (a1 : Int32) (h : hp_H) : hp_J Y_SU_getChar Z hp_rI h 0 [(0, .ref a0), (1, .int a1)] [] (m_SU_getChar (hp_G Z)  a0 a1 h) := by
  unfold m_SU_getChar
  exact hp_fail
theorem t_SU_getChar (l : Launch) (E : hp_E) (a0 : Nat) (a1 : Int32) : hp_M l E y_SU_getChar Y_SU_getChar hp_rI [.ref a0, .int a1] (m_SU_getChar E.2.2.1 a0 a1) := hp_M.of (by decide +kernel) ⟨rfl, rfl⟩ (Nat.le_of_ble_eq_true rfl) (fun Z h hE => by subst hE; exact j_SU_getChar_0 _ _ h)
