-- E_ofAny
theorem d_E_ofAny_0 : decode prog_2_method_33_code 0 = .ok (.aload_n 0, 1) := by decide +kernel
theorem d_E_ofAny_1 : decode prog_2_method_33_code 1 = .ok (.iconst 0, 1) := by decide +kernel
theorem d_E_ofAny_2 : decode prog_2_method_33_code 2 = .ok (.invokevirtual 90, 3) := by decide +kernel
theorem d_E_ofAny_5 : decode prog_2_method_33_code 5 = .ok (.astore_n 2, 1) := by decide +kernel
theorem d_E_ofAny_6 : decode prog_2_method_33_code 6 = .ok (.iload_n 1, 1) := by decide +kernel
theorem d_E_ofAny_7 : decode prog_2_method_33_code 7 = .ok (.tableswitch 149 35 40 #[37, 74, 80, 86, 107, 128], 37) := by decide +kernel
theorem d_E_ofAny_44 : decode prog_2_method_33_code 44 = .ok (.aload_n 0, 1) := by decide +kernel
theorem d_E_ofAny_45 : decode prog_2_method_33_code 45 = .ok (.getfield 27, 3) := by decide +kernel
theorem d_E_ofAny_48 : decode prog_2_method_33_code 48 = .ok (.invokevirtual 205, 3) := by decide +kernel
theorem d_E_ofAny_51 : decode prog_2_method_33_code 51 = .ok (.aload_n 0, 1) := by decide +kernel
theorem d_E_ofAny_52 : decode prog_2_method_33_code 52 = .ok (.getfield 27, 3) := by decide +kernel
theorem d_E_ofAny_55 : decode prog_2_method_33_code 55 = .ok (.aload_n 2, 1) := by decide +kernel
theorem d_E_ofAny_56 : decode prog_2_method_33_code 56 = .ok (.invokevirtual 255, 3) := by decide +kernel
theorem d_E_ofAny_59 : decode prog_2_method_33_code 59 = .ok (.ifCond .eq 19, 3) := by decide +kernel
theorem d_E_ofAny_62 : decode prog_2_method_33_code 62 = .ok (.aload_n 0, 1) := by decide +kernel
theorem d_E_ofAny_63 : decode prog_2_method_33_code 63 = .ok (.getfield 38, 3) := by decide +kernel
theorem d_E_ofAny_66 : decode prog_2_method_33_code 66 = .ok (.iconst 5, 1) := by decide +kernel
theorem d_E_ofAny_67 : decode prog_2_method_33_code 67 = .ok (.iconst 0, 1) := by decide +kernel
theorem d_E_ofAny_68 : decode prog_2_method_33_code 68 = .ok (.aload_n 0, 1) := by decide +kernel
theorem d_E_ofAny_69 : decode prog_2_method_33_code 69 = .ok (.getfield 27, 3) := by decide +kernel
theorem d_E_ofAny_72 : decode prog_2_method_33_code 72 = .ok (.invokevirtual 222, 3) := by decide +kernel
theorem d_E_ofAny_75 : decode prog_2_method_33_code 75 = .ok (.goto 5, 3) := by decide +kernel
theorem d_E_ofAny_78 : decode prog_2_method_33_code 78 = .ok (.bipush (-4), 2) := by decide +kernel
theorem d_E_ofAny_80 : decode prog_2_method_33_code 80 = .ok (.ireturn, 1) := by decide +kernel
theorem d_E_ofAny_81 : decode prog_2_method_33_code 81 = .ok (.aload_n 0, 1) := by decide +kernel
theorem d_E_ofAny_82 : decode prog_2_method_33_code 82 = .ok (.aload_n 2, 1) := by decide +kernel
theorem d_E_ofAny_83 : decode prog_2_method_33_code 83 = .ok (.invokevirtual 259, 3) := by decide +kernel
theorem d_E_ofAny_86 : decode prog_2_method_33_code 86 = .ok (.ireturn, 1) := by decide +kernel
theorem d_E_ofAny_87 : decode prog_2_method_33_code 87 = .ok (.aload_n 0, 1) := by decide +kernel
theorem d_E_ofAny_88 : decode prog_2_method_33_code 88 = .ok (.aload_n 2, 1) := by decide +kernel
theorem d_E_ofAny_89 : decode prog_2_method_33_code 89 = .ok (.invokevirtual 262, 3) := by decide +kernel
theorem d_E_ofAny_92 : decode prog_2_method_33_code 92 = .ok (.ireturn, 1) := by decide +kernel
theorem d_E_ofAny_93 : decode prog_2_method_33_code 93 = .ok (.aload_n 0, 1) := by decide +kernel
theorem d_E_ofAny_94 : decode prog_2_method_33_code 94 = .ok (.getfield 38, 3) := by decide +kernel
theorem d_E_ofAny_97 : decode prog_2_method_33_code 97 = .ok (.aload_n 2, 1) := by decide +kernel
theorem d_E_ofAny_98 : decode prog_2_method_33_code 98 = .ok (.getfield 93, 3) := by decide +kernel
theorem d_E_ofAny_101 : decode prog_2_method_33_code 101 = .ok (.iconst 2, 1) := by decide +kernel
theorem d_E_ofAny_102 : decode prog_2_method_33_code 102 = .ok (.if_icmp .ne 7, 3) := by decide +kernel
theorem d_E_ofAny_105 : decode prog_2_method_33_code 105 = .ok (.iconst 1, 1) := by decide +kernel
theorem d_E_ofAny_106 : decode prog_2_method_33_code 106 = .ok (.goto 4, 3) := by decide +kernel
theorem d_E_ofAny_109 : decode prog_2_method_33_code 109 = .ok (.iconst 0, 1) := by decide +kernel
theorem d_E_ofAny_110 : decode prog_2_method_33_code 110 = .ok (.invokevirtual 101, 3) := by decide +kernel
theorem d_E_ofAny_113 : decode prog_2_method_33_code 113 = .ok (.ireturn, 1) := by decide +kernel
theorem d_E_ofAny_114 : decode prog_2_method_33_code 114 = .ok (.aload_n 0, 1) := by decide +kernel
theorem d_E_ofAny_115 : decode prog_2_method_33_code 115 = .ok (.getfield 38, 3) := by decide +kernel
theorem d_E_ofAny_118 : decode prog_2_method_33_code 118 = .ok (.aload_n 2, 1) := by decide +kernel
theorem d_E_ofAny_119 : decode prog_2_method_33_code 119 = .ok (.getfield 93, 3) := by decide +kernel
theorem d_E_ofAny_122 : decode prog_2_method_33_code 122 = .ok (.iconst 1, 1) := by decide +kernel
theorem d_E_ofAny_123 : decode prog_2_method_33_code 123 = .ok (.if_icmp .ne 7, 3) := by decide +kernel
theorem d_E_ofAny_126 : decode prog_2_method_33_code 126 = .ok (.iconst 1, 1) := by decide +kernel
theorem d_E_ofAny_127 : decode prog_2_method_33_code 127 = .ok (.goto 4, 3) := by decide +kernel
theorem d_E_ofAny_130 : decode prog_2_method_33_code 130 = .ok (.iconst 0, 1) := by decide +kernel
theorem d_E_ofAny_131 : decode prog_2_method_33_code 131 = .ok (.invokevirtual 101, 3) := by decide +kernel
theorem d_E_ofAny_134 : decode prog_2_method_33_code 134 = .ok (.ireturn, 1) := by decide +kernel
theorem d_E_ofAny_135 : decode prog_2_method_33_code 135 = .ok (.aload_n 0, 1) := by decide +kernel
theorem d_E_ofAny_136 : decode prog_2_method_33_code 136 = .ok (.getfield 38, 3) := by decide +kernel
theorem d_E_ofAny_139 : decode prog_2_method_33_code 139 = .ok (.aload_n 2, 1) := by decide +kernel
theorem d_E_ofAny_140 : decode prog_2_method_33_code 140 = .ok (.getfield 93, 3) := by decide +kernel
theorem d_E_ofAny_143 : decode prog_2_method_33_code 143 = .ok (.iconst 3, 1) := by decide +kernel
theorem d_E_ofAny_144 : decode prog_2_method_33_code 144 = .ok (.if_icmp .lt 7, 3) := by decide +kernel
theorem d_E_ofAny_147 : decode prog_2_method_33_code 147 = .ok (.iconst 1, 1) := by decide +kernel
theorem d_E_ofAny_148 : decode prog_2_method_33_code 148 = .ok (.goto 4, 3) := by decide +kernel
theorem d_E_ofAny_151 : decode prog_2_method_33_code 151 = .ok (.iconst 0, 1) := by decide +kernel
theorem d_E_ofAny_152 : decode prog_2_method_33_code 152 = .ok (.invokevirtual 101, 3) := by decide +kernel
theorem d_E_ofAny_155 : decode prog_2_method_33_code 155 = .ok (.ireturn, 1) := by decide +kernel
theorem d_E_ofAny_156 : decode prog_2_method_33_code 156 = .ok (.aload_n 0, 1) := by decide +kernel
theorem d_E_ofAny_157 : decode prog_2_method_33_code 157 = .ok (.getfield 38, 3) := by decide +kernel
theorem d_E_ofAny_160 : decode prog_2_method_33_code 160 = .ok (.aload_n 2, 1) := by decide +kernel
theorem d_E_ofAny_161 : decode prog_2_method_33_code 161 = .ok (.invokevirtual 147, 3) := by decide +kernel
theorem d_E_ofAny_164 : decode prog_2_method_33_code 164 = .ok (.invokevirtual 101, 3) := by decide +kernel
theorem d_E_ofAny_167 : decode prog_2_method_33_code 167 = .ok (.ireturn, 1) := by decide +kernel
def m_E_ofAny_80 (G : Nat → Nat) (s0 : Int32) (h : hp_H) : Option (Int32 × hp_H) := some (s0, h)
set_option maxRecDepth 100000 in
set_option maxHeartbeats 4000000 in
theorem j_E_ofAny_80 {Z : hp_Z} (s0 : Int32) (h : hp_H) : hp_J Y_E_ofAny Z hp_rI h 80 [] [.int s0] (m_E_ofAny_80 (hp_G Z)  s0 h) := by
  unfold m_E_ofAny_80
  exact hp_iret d_E_ofAny_80 rfl
def m_E_ofAny_110 (G : Nat → Nat) (s0 : Int32) (s1 : Nat) (h : hp_H) : Option (Int32 × hp_H) := (hp_vck h s1 1 (m_S_keepTruth G s1 s0 h)).bind fun q1 => some (q1.1, q1.2)
set_option maxRecDepth 100000 in
set_option maxHeartbeats 4000000 in
theorem j_E_ofAny_110 {Z : hp_Z} (s0 : Int32) (s1 : Nat) (h : hp_H) : hp_J Y_E_ofAny Z hp_rI h 110 [] [.int s0, .ref s1] (m_E_ofAny_110 (hp_G Z)  s0 s1 h) := by
  unfold m_E_ofAny_110
  refine hp_callI (hp_crV (ci := 1) (t_S_keepTruth _ _ _ _) cw_E_101 rfl ⟨w_391, w_392⟩ (by decide) rfl rfl (Nat.le_of_ble_eq_true rfl) d_E_ofAny_110) fun q1 => ?_
  exact hp_iret d_E_ofAny_113 rfl
def m_E_ofAny_131 (G : Nat → Nat) (s0 : Int32) (s1 : Nat) (h : hp_H) : Option (Int32 × hp_H) := (hp_vck h s1 1 (m_S_keepTruth G s1 s0 h)).bind fun q1 => some (q1.1, q1.2)
set_option maxRecDepth 100000 in
set_option maxHeartbeats 4000000 in
theorem j_E_ofAny_131 {Z : hp_Z} (s0 : Int32) (s1 : Nat) (h : hp_H) : hp_J Y_E_ofAny Z hp_rI h 131 [] [.int s0, .ref s1] (m_E_ofAny_131 (hp_G Z)  s0 s1 h) := by
  unfold m_E_ofAny_131
  refine hp_callI (hp_crV (ci := 1) (t_S_keepTruth _ _ _ _) cw_E_101 rfl ⟨w_391, w_392⟩ (by decide) rfl rfl (Nat.le_of_ble_eq_true rfl) d_E_ofAny_131) fun q1 => ?_
  exact hp_iret d_E_ofAny_134 rfl
def m_E_ofAny_152 (G : Nat → Nat) (s0 : Int32) (s1 : Nat) (h : hp_H) : Option (Int32 × hp_H) := (hp_vck h s1 1 (m_S_keepTruth G s1 s0 h)).bind fun q1 => some (q1.1, q1.2)
set_option maxRecDepth 100000 in
set_option maxHeartbeats 4000000 in
theorem j_E_ofAny_152 {Z : hp_Z} (s0 : Int32) (s1 : Nat) (h : hp_H) : hp_J Y_E_ofAny Z hp_rI h 152 [] [.int s0, .ref s1] (m_E_ofAny_152 (hp_G Z)  s0 s1 h) := by
  unfold m_E_ofAny_152
  refine hp_callI (hp_crV (ci := 1) (t_S_keepTruth _ _ _ _) cw_E_101 rfl ⟨w_391, w_392⟩ (by decide) rfl rfl (Nat.le_of_ble_eq_true rfl) d_E_ofAny_152) fun q1 => ?_
  exact hp_iret d_E_ofAny_155 rfl
def m_E_ofAny (G : Nat → Nat) (a0 : Nat) (a1 : Int32) (h : hp_H) : Option (Int32 × hp_H) := (hp_vck h a0 5 (m_E_taken G a0 (0 : Int32) h)).bind fun q1 => hp_nm q1.1 fun x2 => if a1 = 35 then ((hp_gR q1.2 a0 5 5).bind fun x3 => (hp_vck q1.2 x3 4 (m_R_clear G x3 q1.2)).bind fun q4 => (hp_gR q4.2 a0 5 5).bind fun x5 => (hp_vck q4.2 x5 4 (m_R_putString G x5 x2 q4.2)).bind fun q6 => if q6.1 = 0 then (m_E_ofAny_80 G (-4 : Int32) q6.2) else ((hp_gR q6.2 a0 5 0).bind fun x7 => (hp_gR q6.2 a0 5 5).bind fun x8 => (hp_vck q6.2 x7 1 (m_S_keepRow G x7 (5 : Int32) (0 : Int32) x8 q6.2)).bind fun q9 => m_E_ofAny_80 G q9.1 q9.2)) else (if a1 = 36 then ((hp_vck q1.2 a0 5 (m_E_tagText G a0 x2 q1.2)).bind fun q10 => some (q10.1, q10.2)) else (if a1 = 37 then ((hp_vck q1.2 a0 5 (m_E_typeName G a0 x2 q1.2)).bind fun q11 => some (q11.1, q11.2)) else (if a1 = 38 then ((hp_gR q1.2 a0 5 0).bind fun x12 => (hp_gI q1.2 x2 3 0).bind fun x13 => if x13 = (2 : Int32) then (m_E_ofAny_110 G (1 : Int32) x12 q1.2) else (m_E_ofAny_110 G (0 : Int32) x12 q1.2)) else (if a1 = 39 then ((hp_gR q1.2 a0 5 0).bind fun x14 => (hp_gI q1.2 x2 3 0).bind fun x15 => if x15 = (1 : Int32) then (m_E_ofAny_131 G (1 : Int32) x14 q1.2) else (m_E_ofAny_131 G (0 : Int32) x14 q1.2)) else (if a1 = 40 then ((hp_gR q1.2 a0 5 0).bind fun x16 => (hp_gI q1.2 x2 3 0).bind fun x17 => if x17 < (3 : Int32) then (m_E_ofAny_152 G (0 : Int32) x16 q1.2) else (m_E_ofAny_152 G (1 : Int32) x16 q1.2)) else ((hp_gR q1.2 a0 5 0).bind fun x18 => (hp_vck q1.2 x2 3 (m_V_isNumber G x2 q1.2)).bind fun q19 => (hp_vck q19.2 x18 1 (m_S_keepTruth G x18 q19.1 q19.2)).bind fun q20 => some (q20.1, q20.2)))))))
set_option maxRecDepth 100000 in
set_option maxHeartbeats 4000000 in
theorem j_E_ofAny_0 {Z : hp_Z} (a0 : Nat) (a1 : Int32) (h : hp_H) : hp_J Y_E_ofAny Z hp_rI h 0 [(0, .ref a0), (1, .int a1)] [] (m_E_ofAny (hp_G Z)  a0 a1 h) := by
  unfold m_E_ofAny
  refine hp_aload_n (x0 := 0) d_E_ofAny_0 rfl rfl ?_
  refine hp_iconst (v := 0) d_E_ofAny_1 (by decide) ?_
  refine hp_callR (hp_crV (ci := 5) (t_E_taken _ _ _ _) cw_E_90 rfl ⟨w_550, ws_9⟩ (by decide) rfl rfl (Nat.le_of_ble_eq_true rfl) d_E_ofAny_2) fun q1 => ?_
  refine hp_astore_n (fun x2 => [(2, .ref x2), (0, .ref a0), (1, .int a1)]) d_E_ofAny_5 rfl (by decide) (fun _ => rfl) fun x2 => ?_
  refine hp_iload_n (x0 := 2) d_E_ofAny_6 rfl rfl ?_
  refine hp_ite (fun c0 => ?_) (fun c0 => ?_)
  · refine hp_tabI (tgt := 44) (kv := 35) d_E_ofAny_7 c0 (by decide) (by decide) rfl (by decide) ?_
    refine hp_aload_n (x0 := 1) d_E_ofAny_44 rfl rfl ?_
    refine hp_getR fl_E_27 d_E_ofAny_45 fun x3 => ?_
    refine hp_callU (hp_crV (ci := 4) (t_R_clear _ _ _) cw_E_205 rfl ⟨w_418, w_419⟩ (by decide) rfl rfl (Nat.le_of_ble_eq_true rfl) d_E_ofAny_48) fun q4 => ?_
    refine hp_aload_n (x0 := 1) d_E_ofAny_51 rfl rfl ?_
    refine hp_getR fl_E_27 d_E_ofAny_52 fun x5 => ?_
    refine hp_aload_n (x0 := 0) d_E_ofAny_55 rfl rfl ?_
    refine hp_callI (hp_crV (ci := 4) (t_R_putString _ _ _ _) cw_E_255 rfl ⟨w_699, w_700⟩ (by decide) rfl rfl (Nat.le_of_ble_eq_true rfl) d_E_ofAny_56) fun q6 => ?_
    refine hp_if_eq (tgt := 78) d_E_ofAny_59 (by decide) ?_ ?_
    · refine hp_bipush (v := -4) d_E_ofAny_78 (by decide) ?_
      refine hp_sub [] rfl ?_
      exact j_E_ofAny_80  _ _
    · refine hp_aload_n (x0 := 1) d_E_ofAny_62 rfl rfl ?_
      refine hp_getR fl_E_38 d_E_ofAny_63 fun x7 => ?_
      refine hp_iconst (v := 5) d_E_ofAny_66 (by decide) ?_
      refine hp_iconst (v := 0) d_E_ofAny_67 (by decide) ?_
      refine hp_aload_n (x0 := 1) d_E_ofAny_68 rfl rfl ?_
      refine hp_getR fl_E_27 d_E_ofAny_69 fun x8 => ?_
      refine hp_callI (hp_crV (ci := 1) (t_S_keepRow _ _ _ _ _ _) cw_E_222 rfl ⟨w_414, w_415⟩ (by decide) rfl rfl (Nat.le_of_ble_eq_true rfl) d_E_ofAny_72) fun q9 => ?_
      refine hp_goto (tgt := 80) d_E_ofAny_75 (by decide) ?_
      refine hp_sub [] rfl ?_
      exact j_E_ofAny_80  _ _
  · skip
    refine hp_ite (fun c1 => ?_) (fun c1 => ?_)
    · refine hp_tabI (tgt := 81) (kv := 36) d_E_ofAny_7 c1 (by decide) (by decide) rfl (by decide) ?_
      refine hp_aload_n (x0 := 1) d_E_ofAny_81 rfl rfl ?_
      refine hp_aload_n (x0 := 0) d_E_ofAny_82 rfl rfl ?_
      refine hp_callI (hp_crV (ci := 5) (t_E_tagText _ _ _ _) cw_E_259 rfl ⟨w_766, ws_29⟩ (by decide) rfl rfl (Nat.le_of_ble_eq_true rfl) d_E_ofAny_83) fun q10 => ?_
      exact hp_iret d_E_ofAny_86 rfl
    · skip
      refine hp_ite (fun c2 => ?_) (fun c2 => ?_)
      · refine hp_tabI (tgt := 87) (kv := 37) d_E_ofAny_7 c2 (by decide) (by decide) rfl (by decide) ?_
        refine hp_aload_n (x0 := 1) d_E_ofAny_87 rfl rfl ?_
        refine hp_aload_n (x0 := 0) d_E_ofAny_88 rfl rfl ?_
        refine hp_callI (hp_crV (ci := 5) (t_E_typeName _ _ _ _) cw_E_262 rfl ⟨w_771, ws_30⟩ (by decide) rfl rfl (Nat.le_of_ble_eq_true rfl) d_E_ofAny_89) fun q11 => ?_
        exact hp_iret d_E_ofAny_92 rfl
      · skip
        refine hp_ite (fun c3 => ?_) (fun c3 => ?_)
        · refine hp_tabI (tgt := 93) (kv := 38) d_E_ofAny_7 c3 (by decide) (by decide) rfl (by decide) ?_
          refine hp_aload_n (x0 := 1) d_E_ofAny_93 rfl rfl ?_
          refine hp_getR fl_E_38 d_E_ofAny_94 fun x12 => ?_
          refine hp_aload_n (x0 := 0) d_E_ofAny_97 rfl rfl ?_
          refine hp_getI fl_E_93 d_E_ofAny_98 fun x13 => ?_
          refine hp_iconst (v := 2) d_E_ofAny_101 (by decide) ?_
          refine hp_icmp_ne (tgt := 109) d_E_ofAny_102 (by decide) ?_ ?_
          · refine hp_iconst (v := 1) d_E_ofAny_105 (by decide) ?_
            refine hp_goto (tgt := 110) d_E_ofAny_106 (by decide) ?_
            refine hp_sub [] rfl ?_
            exact j_E_ofAny_110  _ _ _
          · refine hp_iconst (v := 0) d_E_ofAny_109 (by decide) ?_
            refine hp_sub [] rfl ?_
            exact j_E_ofAny_110  _ _ _
        · skip
          refine hp_ite (fun c4 => ?_) (fun c4 => ?_)
          · refine hp_tabI (tgt := 114) (kv := 39) d_E_ofAny_7 c4 (by decide) (by decide) rfl (by decide) ?_
            refine hp_aload_n (x0 := 1) d_E_ofAny_114 rfl rfl ?_
            refine hp_getR fl_E_38 d_E_ofAny_115 fun x14 => ?_
            refine hp_aload_n (x0 := 0) d_E_ofAny_118 rfl rfl ?_
            refine hp_getI fl_E_93 d_E_ofAny_119 fun x15 => ?_
            refine hp_iconst (v := 1) d_E_ofAny_122 (by decide) ?_
            refine hp_icmp_ne (tgt := 130) d_E_ofAny_123 (by decide) ?_ ?_
            · refine hp_iconst (v := 1) d_E_ofAny_126 (by decide) ?_
              refine hp_goto (tgt := 131) d_E_ofAny_127 (by decide) ?_
              refine hp_sub [] rfl ?_
              exact j_E_ofAny_131  _ _ _
            · refine hp_iconst (v := 0) d_E_ofAny_130 (by decide) ?_
              refine hp_sub [] rfl ?_
              exact j_E_ofAny_131  _ _ _
          · skip
            refine hp_ite (fun c5 => ?_) (fun c5 => ?_)
            · refine hp_tabI (tgt := 135) (kv := 40) d_E_ofAny_7 c5 (by decide) (by decide) rfl (by decide) ?_
              refine hp_aload_n (x0 := 1) d_E_ofAny_135 rfl rfl ?_
              refine hp_getR fl_E_38 d_E_ofAny_136 fun x16 => ?_
              refine hp_aload_n (x0 := 0) d_E_ofAny_139 rfl rfl ?_
              refine hp_getI fl_E_93 d_E_ofAny_140 fun x17 => ?_
              refine hp_iconst (v := 3) d_E_ofAny_143 (by decide) ?_
              refine hp_icmp_lt (tgt := 151) d_E_ofAny_144 (by decide) ?_ ?_
              · refine hp_iconst (v := 0) d_E_ofAny_151 (by decide) ?_
                refine hp_sub [] rfl ?_
                exact j_E_ofAny_152  _ _ _
              · refine hp_iconst (v := 1) d_E_ofAny_147 (by decide) ?_
                refine hp_goto (tgt := 152) d_E_ofAny_148 (by decide) ?_
                refine hp_sub [] rfl ?_
                exact j_E_ofAny_152  _ _ _
            · skip
              refine hp_tabD (tgt := 156) d_E_ofAny_7 (by have e0 := lv_neT c0 (a := 35) (by decide); have e1 := lv_neT c1 (a := 36) (by decide); have e2 := lv_neT c2 (a := 37) (by decide); have e3 := lv_neT c3 (a := 38) (by decide); have e4 := lv_neT c4 (a := 39) (by decide); have e5 := lv_neT c5 (a := 40) (by decide); omega) (by decide) ?_
              refine hp_aload_n (x0 := 1) d_E_ofAny_156 rfl rfl ?_
              refine hp_getR fl_E_38 d_E_ofAny_157 fun x18 => ?_
              refine hp_aload_n (x0 := 0) d_E_ofAny_160 rfl rfl ?_
              refine hp_callI (hp_crV (ci := 3) (t_V_isNumber _ _ _) cw_E_147 rfl ⟨w_454, w_455⟩ (by decide) rfl rfl (Nat.le_of_ble_eq_true rfl) d_E_ofAny_161) fun q19 => ?_
              refine hp_callI (hp_crV (ci := 1) (t_S_keepTruth _ _ _ _) cw_E_101 rfl ⟨w_391, w_392⟩ (by decide) rfl rfl (Nat.le_of_ble_eq_true rfl) d_E_ofAny_164) fun q20 => ?_
              exact hp_iret d_E_ofAny_167 rfl
theorem t_E_ofAny (l : Launch) (E : hp_E) (a0 : Nat) (a1 : Int32) : hp_M l E y_E_ofAny Y_E_ofAny hp_rI [.ref a0, .int a1] (m_E_ofAny E.2.2.1 a0 a1) := hp_M.of (plainFor_of_name (by decide)) ⟨rfl, rfl⟩ (Nat.le_of_ble_eq_true rfl) (fun Z h hE => by subst hE; exact j_E_ofAny_0 _ _ h)
-- E_ofNumber
theorem d_E_ofNumber_0 : decode prog_2_method_24_code 0 = .ok (.aload_n 0, 1) := by decide +kernel
theorem d_E_ofNumber_1 : decode prog_2_method_24_code 1 = .ok (.iconst 0, 1) := by decide +kernel
theorem d_E_ofNumber_2 : decode prog_2_method_24_code 2 = .ok (.invokevirtual 90, 3) := by decide +kernel
theorem d_E_ofNumber_5 : decode prog_2_method_24_code 5 = .ok (.astore_n 2, 1) := by decide +kernel
theorem d_E_ofNumber_6 : decode prog_2_method_24_code 6 = .ok (.aload_n 2, 1) := by decide +kernel
theorem d_E_ofNumber_7 : decode prog_2_method_24_code 7 = .ok (.invokevirtual 147, 3) := by decide +kernel
theorem d_E_ofNumber_10 : decode prog_2_method_24_code 10 = .ok (.ifCond .ne 6, 3) := by decide +kernel
theorem d_E_ofNumber_13 : decode prog_2_method_24_code 13 = .ok (.bipush (-4), 2) := by decide +kernel
theorem d_E_ofNumber_15 : decode prog_2_method_24_code 15 = .ok (.ireturn, 1) := by decide +kernel
theorem d_E_ofNumber_16 : decode prog_2_method_24_code 16 = .ok (.aload_n 2, 1) := by decide +kernel
theorem d_E_ofNumber_17 : decode prog_2_method_24_code 17 = .ok (.getfield 161, 3) := by decide +kernel
theorem d_E_ofNumber_20 : decode prog_2_method_24_code 20 = .ok (.invokestatic 182, 3) := by decide +kernel
theorem d_E_ofNumber_23 : decode prog_2_method_24_code 23 = .ok (.lstore_n 3, 1) := by decide +kernel
theorem d_E_ofNumber_24 : decode prog_2_method_24_code 24 = .ok (.aload_n 2, 1) := by decide +kernel
theorem d_E_ofNumber_25 : decode prog_2_method_24_code 25 = .ok (.getfield 157, 3) := by decide +kernel
theorem d_E_ofNumber_28 : decode prog_2_method_24_code 28 = .ok (.lload_n 3, 1) := by decide +kernel
theorem d_E_ofNumber_29 : decode prog_2_method_24_code 29 = .ok (.invokestatic 186, 3) := by decide +kernel
theorem d_E_ofNumber_32 : decode prog_2_method_24_code 32 = .ok (.lstore 5, 2) := by decide +kernel
theorem d_E_ofNumber_34 : decode prog_2_method_24_code 34 = .ok (.aload_n 2, 1) := by decide +kernel
theorem d_E_ofNumber_35 : decode prog_2_method_24_code 35 = .ok (.getfield 157, 3) := by decide +kernel
theorem d_E_ofNumber_38 : decode prog_2_method_24_code 38 = .ok (.lload_n 3, 1) := by decide +kernel
theorem d_E_ofNumber_39 : decode prog_2_method_24_code 39 = .ok (.invokestatic 192, 3) := by decide +kernel
theorem d_E_ofNumber_42 : decode prog_2_method_24_code 42 = .ok (.lstore 7, 2) := by decide +kernel
theorem d_E_ofNumber_44 : decode prog_2_method_24_code 44 = .ok (.iload_n 1, 1) := by decide +kernel
theorem d_E_ofNumber_45 : decode prog_2_method_24_code 45 = .ok (.tableswitch 119 17 20 #[31, 52, 75, 104], 31) := by decide +kernel
theorem d_E_ofNumber_76 : decode prog_2_method_24_code 76 = .ok (.aload_n 0, 1) := by decide +kernel
theorem d_E_ofNumber_77 : decode prog_2_method_24_code 77 = .ok (.getfield 38, 3) := by decide +kernel
theorem d_E_ofNumber_80 : decode prog_2_method_24_code 80 = .ok (.aload_n 2, 1) := by decide +kernel
theorem d_E_ofNumber_81 : decode prog_2_method_24_code 81 = .ok (.getfield 93, 3) := by decide +kernel
theorem d_E_ofNumber_84 : decode prog_2_method_24_code 84 = .ok (.aload_n 2, 1) := by decide +kernel
theorem d_E_ofNumber_85 : decode prog_2_method_24_code 85 = .ok (.getfield 157, 3) := by decide +kernel
theorem d_E_ofNumber_88 : decode prog_2_method_24_code 88 = .ok (.lneg, 1) := by decide +kernel
theorem d_E_ofNumber_89 : decode prog_2_method_24_code 89 = .ok (.aload_n 2, 1) := by decide +kernel
theorem d_E_ofNumber_90 : decode prog_2_method_24_code 90 = .ok (.getfield 161, 3) := by decide +kernel
theorem d_E_ofNumber_93 : decode prog_2_method_24_code 93 = .ok (.invokevirtual 195, 3) := by decide +kernel
theorem d_E_ofNumber_96 : decode prog_2_method_24_code 96 = .ok (.ireturn, 1) := by decide +kernel
theorem d_E_ofNumber_97 : decode prog_2_method_24_code 97 = .ok (.aload_n 0, 1) := by decide +kernel
theorem d_E_ofNumber_98 : decode prog_2_method_24_code 98 = .ok (.getfield 38, 3) := by decide +kernel
theorem d_E_ofNumber_101 : decode prog_2_method_24_code 101 = .ok (.aload_n 2, 1) := by decide +kernel
theorem d_E_ofNumber_102 : decode prog_2_method_24_code 102 = .ok (.getfield 93, 3) := by decide +kernel
theorem d_E_ofNumber_105 : decode prog_2_method_24_code 105 = .ok (.aload_n 2, 1) := by decide +kernel
theorem d_E_ofNumber_106 : decode prog_2_method_24_code 106 = .ok (.getfield 157, 3) := by decide +kernel
theorem d_E_ofNumber_109 : decode prog_2_method_24_code 109 = .ok (.invokestatic 199, 3) := by decide +kernel
theorem d_E_ofNumber_112 : decode prog_2_method_24_code 112 = .ok (.aload_n 2, 1) := by decide +kernel
theorem d_E_ofNumber_113 : decode prog_2_method_24_code 113 = .ok (.getfield 161, 3) := by decide +kernel
theorem d_E_ofNumber_116 : decode prog_2_method_24_code 116 = .ok (.invokevirtual 195, 3) := by decide +kernel
theorem d_E_ofNumber_119 : decode prog_2_method_24_code 119 = .ok (.ireturn, 1) := by decide +kernel
theorem d_E_ofNumber_120 : decode prog_2_method_24_code 120 = .ok (.aload_n 0, 1) := by decide +kernel
theorem d_E_ofNumber_121 : decode prog_2_method_24_code 121 = .ok (.getfield 38, 3) := by decide +kernel
theorem d_E_ofNumber_124 : decode prog_2_method_24_code 124 = .ok (.aload_n 2, 1) := by decide +kernel
theorem d_E_ofNumber_125 : decode prog_2_method_24_code 125 = .ok (.getfield 93, 3) := by decide +kernel
theorem d_E_ofNumber_128 : decode prog_2_method_24_code 128 = .ok (.lload 7, 2) := by decide +kernel
theorem d_E_ofNumber_130 : decode prog_2_method_24_code 130 = .ok (.lconst 0, 1) := by decide +kernel
theorem d_E_ofNumber_131 : decode prog_2_method_24_code 131 = .ok (.lcmp, 1) := by decide +kernel
theorem d_E_ofNumber_132 : decode prog_2_method_24_code 132 = .ok (.ifCond .le 10, 3) := by decide +kernel
theorem d_E_ofNumber_135 : decode prog_2_method_24_code 135 = .ok (.lload 5, 2) := by decide +kernel
theorem d_E_ofNumber_137 : decode prog_2_method_24_code 137 = .ok (.lconst 1, 1) := by decide +kernel
theorem d_E_ofNumber_138 : decode prog_2_method_24_code 138 = .ok (.ladd, 1) := by decide +kernel
theorem d_E_ofNumber_139 : decode prog_2_method_24_code 139 = .ok (.goto 5, 3) := by decide +kernel
theorem d_E_ofNumber_142 : decode prog_2_method_24_code 142 = .ok (.lload 5, 2) := by decide +kernel
theorem d_E_ofNumber_144 : decode prog_2_method_24_code 144 = .ok (.iconst 0, 1) := by decide +kernel
theorem d_E_ofNumber_145 : decode prog_2_method_24_code 145 = .ok (.invokevirtual 195, 3) := by decide +kernel
theorem d_E_ofNumber_148 : decode prog_2_method_24_code 148 = .ok (.ireturn, 1) := by decide +kernel
theorem d_E_ofNumber_149 : decode prog_2_method_24_code 149 = .ok (.aload_n 0, 1) := by decide +kernel
theorem d_E_ofNumber_150 : decode prog_2_method_24_code 150 = .ok (.getfield 38, 3) := by decide +kernel
theorem d_E_ofNumber_153 : decode prog_2_method_24_code 153 = .ok (.aload_n 2, 1) := by decide +kernel
theorem d_E_ofNumber_154 : decode prog_2_method_24_code 154 = .ok (.getfield 93, 3) := by decide +kernel
theorem d_E_ofNumber_157 : decode prog_2_method_24_code 157 = .ok (.lload 5, 2) := by decide +kernel
theorem d_E_ofNumber_159 : decode prog_2_method_24_code 159 = .ok (.iconst 0, 1) := by decide +kernel
theorem d_E_ofNumber_160 : decode prog_2_method_24_code 160 = .ok (.invokevirtual 195, 3) := by decide +kernel
theorem d_E_ofNumber_163 : decode prog_2_method_24_code 163 = .ok (.ireturn, 1) := by decide +kernel
theorem d_E_ofNumber_164 : decode prog_2_method_24_code 164 = .ok (.aload_n 0, 1) := by decide +kernel
theorem d_E_ofNumber_165 : decode prog_2_method_24_code 165 = .ok (.getfield 38, 3) := by decide +kernel
theorem d_E_ofNumber_168 : decode prog_2_method_24_code 168 = .ok (.aload_n 2, 1) := by decide +kernel
theorem d_E_ofNumber_169 : decode prog_2_method_24_code 169 = .ok (.getfield 93, 3) := by decide +kernel
theorem d_E_ofNumber_172 : decode prog_2_method_24_code 172 = .ok (.lload 7, 2) := by decide +kernel
theorem d_E_ofNumber_174 : decode prog_2_method_24_code 174 = .ok (.ldc2_w 203, 3) := by decide +kernel
theorem d_E_ofNumber_177 : decode prog_2_method_24_code 177 = .ok (.lmul, 1) := by decide +kernel
theorem d_E_ofNumber_178 : decode prog_2_method_24_code 178 = .ok (.lload_n 3, 1) := by decide +kernel
theorem d_E_ofNumber_179 : decode prog_2_method_24_code 179 = .ok (.lcmp, 1) := by decide +kernel
theorem d_E_ofNumber_180 : decode prog_2_method_24_code 180 = .ok (.ifCond .lt 10, 3) := by decide +kernel
theorem d_E_ofNumber_183 : decode prog_2_method_24_code 183 = .ok (.lload 5, 2) := by decide +kernel
theorem d_E_ofNumber_185 : decode prog_2_method_24_code 185 = .ok (.lconst 1, 1) := by decide +kernel
theorem d_E_ofNumber_186 : decode prog_2_method_24_code 186 = .ok (.ladd, 1) := by decide +kernel
theorem d_E_ofNumber_187 : decode prog_2_method_24_code 187 = .ok (.goto 5, 3) := by decide +kernel
theorem d_E_ofNumber_190 : decode prog_2_method_24_code 190 = .ok (.lload 5, 2) := by decide +kernel
theorem d_E_ofNumber_192 : decode prog_2_method_24_code 192 = .ok (.iconst 0, 1) := by decide +kernel
theorem d_E_ofNumber_193 : decode prog_2_method_24_code 193 = .ok (.invokevirtual 195, 3) := by decide +kernel
theorem d_E_ofNumber_196 : decode prog_2_method_24_code 196 = .ok (.ireturn, 1) := by decide +kernel
def m_E_ofNumber_144 (G : Nat → Nat) (s0 : Int64) (s1 : Int32) (s2 : Nat) (h : hp_H) : Option (Int32 × hp_H) := (hp_vck h s2 1 (m_S_keepNumber G s2 s1 s0 (0 : Int32) h)).bind fun q1 => some (q1.1, q1.2)
set_option maxRecDepth 100000 in
set_option maxHeartbeats 4000000 in
theorem j_E_ofNumber_144 {Z : hp_Z} (s0 : Int64) (s1 : Int32) (s2 : Nat) (h : hp_H) : hp_J Y_E_ofNumber Z hp_rI h 144 [] [.long s0, .int s1, .ref s2] (m_E_ofNumber_144 (hp_G Z)  s0 s1 s2 h) := by
  unfold m_E_ofNumber_144
  refine hp_iconst (v := 0) d_E_ofNumber_144 (by decide) ?_
  refine hp_callI (hp_crV (ci := 1) (t_S_keepNumber _ _ _ _ _ _) cw_E_195 rfl ⟨w_282, w_283⟩ (by decide) rfl rfl (Nat.le_of_ble_eq_true rfl) d_E_ofNumber_145) fun q1 => ?_
  exact hp_iret d_E_ofNumber_148 rfl
def m_E_ofNumber_192 (G : Nat → Nat) (s0 : Int64) (s1 : Int32) (s2 : Nat) (h : hp_H) : Option (Int32 × hp_H) := (hp_vck h s2 1 (m_S_keepNumber G s2 s1 s0 (0 : Int32) h)).bind fun q1 => some (q1.1, q1.2)
set_option maxRecDepth 100000 in
set_option maxHeartbeats 4000000 in
theorem j_E_ofNumber_192 {Z : hp_Z} (s0 : Int64) (s1 : Int32) (s2 : Nat) (h : hp_H) : hp_J Y_E_ofNumber Z hp_rI h 192 [] [.long s0, .int s1, .ref s2] (m_E_ofNumber_192 (hp_G Z)  s0 s1 s2 h) := by
  unfold m_E_ofNumber_192
  refine hp_iconst (v := 0) d_E_ofNumber_192 (by decide) ?_
  refine hp_callI (hp_crV (ci := 1) (t_S_keepNumber _ _ _ _ _ _) cw_E_195 rfl ⟨w_282, w_283⟩ (by decide) rfl rfl (Nat.le_of_ble_eq_true rfl) d_E_ofNumber_193) fun q1 => ?_
  exact hp_iret d_E_ofNumber_196 rfl
def m_E_ofNumber (G : Nat → Nat) (a0 : Nat) (a1 : Int32) (h : hp_H) : Option (Int32 × hp_H) := (hp_vck h a0 5 (m_E_taken G a0 (0 : Int32) h)).bind fun q1 => hp_nm q1.1 fun x2 => (hp_vck q1.2 x2 3 (m_V_isNumber G x2 q1.2)).bind fun q3 => if q3.1 = 0 then (some ((-4 : Int32), q3.2)) else ((hp_gI q3.2 x2 3 3).bind fun x4 => (m_D_power G x4 q3.2).bind fun q5 => hp_nm q5.1 fun x6 => (hp_gL q5.2 x2 3 2).bind fun x7 => (m_MA_floorDiv G x7 x6 q5.2).bind fun q8 => hp_nm q8.1 fun x9 => (hp_gL q8.2 x2 3 2).bind fun x10 => (m_MA_floorMod G x10 x6 q8.2).bind fun q11 => hp_nm q11.1 fun x12 => if a1 = 17 then ((hp_gR q11.2 a0 5 0).bind fun x13 => (hp_gI q11.2 x2 3 0).bind fun x14 => (hp_gL q11.2 x2 3 2).bind fun x15 => (hp_gI q11.2 x2 3 3).bind fun x16 => (hp_vck q11.2 x13 1 (m_S_keepNumber G x13 x14 (-x15) x16 q11.2)).bind fun q17 => some (q17.1, q17.2)) else (if a1 = 18 then ((hp_gR q11.2 a0 5 0).bind fun x18 => (hp_gI q11.2 x2 3 0).bind fun x19 => (hp_gL q11.2 x2 3 2).bind fun x20 => (m_MA_abs G x20 q11.2).bind fun q21 => (hp_gI q21.2 x2 3 3).bind fun x22 => (hp_vck q21.2 x18 1 (m_S_keepNumber G x18 x19 q21.1 x22 q21.2)).bind fun q23 => some (q23.1, q23.2)) else (if a1 = 19 then ((hp_gR q11.2 a0 5 0).bind fun x24 => (hp_gI q11.2 x2 3 0).bind fun x25 => if (lg_cmp x12 (0 : Int64)) ≤ 0 then (m_E_ofNumber_144 G x9 x25 x24 q11.2) else (m_E_ofNumber_144 G (x9 + (1 : Int64)) x25 x24 q11.2)) else (if a1 = 20 then ((hp_gR q11.2 a0 5 0).bind fun x26 => (hp_gI q11.2 x2 3 0).bind fun x27 => (hp_vck q11.2 x26 1 (m_S_keepNumber G x26 x27 x9 (0 : Int32) q11.2)).bind fun q28 => some (q28.1, q28.2)) else ((hp_gR q11.2 a0 5 0).bind fun x29 => (hp_gI q11.2 x2 3 0).bind fun x30 => if (lg_cmp (x12 * (2 : Int64)) x6) < 0 then (m_E_ofNumber_192 G x9 x30 x29 q11.2) else (m_E_ofNumber_192 G (x9 + (1 : Int64)) x30 x29 q11.2))))))
set_option maxRecDepth 100000 in
set_option maxHeartbeats 4000000 in
theorem j_E_ofNumber_0 {Z : hp_Z} (a0 : Nat) (a1 : Int32) (h : hp_H) : hp_J Y_E_ofNumber Z hp_rI h 0 [(0, .ref a0), (1, .int a1)] [] (m_E_ofNumber (hp_G Z)  a0 a1 h) := by
  unfold m_E_ofNumber
  refine hp_aload_n (x0 := 0) d_E_ofNumber_0 rfl rfl ?_
  refine hp_iconst (v := 0) d_E_ofNumber_1 (by decide) ?_
  refine hp_callR (hp_crV (ci := 5) (t_E_taken _ _ _ _) cw_E_90 rfl ⟨w_550, ws_9⟩ (by decide) rfl rfl (Nat.le_of_ble_eq_true rfl) d_E_ofNumber_2) fun q1 => ?_
  refine hp_astore_n (fun x2 => [(2, .ref x2), (0, .ref a0), (1, .int a1)]) d_E_ofNumber_5 rfl (by decide) (fun _ => rfl) fun x2 => ?_
  refine hp_aload_n (x0 := 0) d_E_ofNumber_6 rfl rfl ?_
  refine hp_callI (hp_crV (ci := 3) (t_V_isNumber _ _ _) cw_E_147 rfl ⟨w_454, w_455⟩ (by decide) rfl rfl (Nat.le_of_ble_eq_true rfl) d_E_ofNumber_7) fun q3 => ?_
  refine hp_if_ne (tgt := 16) d_E_ofNumber_10 (by decide) ?_ ?_
  · refine hp_bipush (v := -4) d_E_ofNumber_13 (by decide) ?_
    exact hp_iret d_E_ofNumber_15 rfl
  · refine hp_aload_n (x0 := 0) d_E_ofNumber_16 rfl rfl ?_
    refine hp_getI fl_E_161 d_E_ofNumber_17 fun x4 => ?_
    refine hp_callL (hp_crSN (t_D_power _ _ _) cw_E_182 w_462 (by decide) rfl rfl (Nat.le_of_ble_eq_true rfl) d_E_ofNumber_20) fun q5 => ?_
    refine hp_lstore_n (fun x6 => [(3, .long x6), (2, .ref x2), (0, .ref a0), (1, .int a1)]) d_E_ofNumber_23 rfl (by decide) (fun _ => rfl) fun x6 => ?_
    refine hp_aload_n (x0 := 1) d_E_ofNumber_24 rfl rfl ?_
    refine hp_getL fl_E_157 d_E_ofNumber_25 fun x7 => ?_
    refine hp_lload_n (x0 := 0) d_E_ofNumber_28 rfl rfl ?_
    refine hp_callL (hp_crS (t_MA_floorDiv _ _ _ _) cw_E_186 w_467 (by decide) rfl rfl (Nat.le_of_ble_eq_true rfl) d_E_ofNumber_29) fun q8 => ?_
    refine hp_lstore (fun x9 => [(5, .long x9), (3, .long x6), (2, .ref x2), (0, .ref a0), (1, .int a1)]) d_E_ofNumber_32 (by decide) (fun _ => rfl) fun x9 => ?_
    refine hp_aload_n (x0 := 2) d_E_ofNumber_34 rfl rfl ?_
    refine hp_getL fl_E_157 d_E_ofNumber_35 fun x10 => ?_
    refine hp_lload_n (x0 := 1) d_E_ofNumber_38 rfl rfl ?_
    refine hp_callL (hp_crS (t_MA_floorMod _ _ _ _) cw_E_192 w_477 (by decide) rfl rfl (Nat.le_of_ble_eq_true rfl) d_E_ofNumber_39) fun q11 => ?_
    refine hp_lstore (fun x12 => [(7, .long x12), (5, .long x9), (3, .long x6), (2, .ref x2), (0, .ref a0), (1, .int a1)]) d_E_ofNumber_42 (by decide) (fun _ => rfl) fun x12 => ?_
    refine hp_iload_n (x0 := 5) d_E_ofNumber_44 rfl rfl ?_
    refine hp_ite (fun c0 => ?_) (fun c0 => ?_)
    · refine hp_tabI (tgt := 76) (kv := 17) d_E_ofNumber_45 c0 (by decide) (by decide) rfl (by decide) ?_
      refine hp_aload_n (x0 := 4) d_E_ofNumber_76 rfl rfl ?_
      refine hp_getR fl_E_38 d_E_ofNumber_77 fun x13 => ?_
      refine hp_aload_n (x0 := 3) d_E_ofNumber_80 rfl rfl ?_
      refine hp_getI fl_E_93 d_E_ofNumber_81 fun x14 => ?_
      refine hp_aload_n (x0 := 3) d_E_ofNumber_84 rfl rfl ?_
      refine hp_getL fl_E_157 d_E_ofNumber_85 fun x15 => ?_
      refine hp_lneg d_E_ofNumber_88 ?_
      refine hp_aload_n (x0 := 3) d_E_ofNumber_89 rfl rfl ?_
      refine hp_getI fl_E_161 d_E_ofNumber_90 fun x16 => ?_
      refine hp_callI (hp_crV (ci := 1) (t_S_keepNumber _ _ _ _ _ _) cw_E_195 rfl ⟨w_282, w_283⟩ (by decide) rfl rfl (Nat.le_of_ble_eq_true rfl) d_E_ofNumber_93) fun q17 => ?_
      exact hp_iret d_E_ofNumber_96 rfl
    · skip
      refine hp_ite (fun c1 => ?_) (fun c1 => ?_)
      · refine hp_tabI (tgt := 97) (kv := 18) d_E_ofNumber_45 c1 (by decide) (by decide) rfl (by decide) ?_
        refine hp_aload_n (x0 := 4) d_E_ofNumber_97 rfl rfl ?_
        refine hp_getR fl_E_38 d_E_ofNumber_98 fun x18 => ?_
        refine hp_aload_n (x0 := 3) d_E_ofNumber_101 rfl rfl ?_
        refine hp_getI fl_E_93 d_E_ofNumber_102 fun x19 => ?_
        refine hp_aload_n (x0 := 3) d_E_ofNumber_105 rfl rfl ?_
        refine hp_getL fl_E_157 d_E_ofNumber_106 fun x20 => ?_
        refine hp_callL (hp_crS (t_MA_abs _ _ _) cw_E_199 w_622 (by decide) rfl rfl (Nat.le_of_ble_eq_true rfl) d_E_ofNumber_109) fun q21 => ?_
        refine hp_aload_n (x0 := 3) d_E_ofNumber_112 rfl rfl ?_
        refine hp_getI fl_E_161 d_E_ofNumber_113 fun x22 => ?_
        refine hp_callI (hp_crV (ci := 1) (t_S_keepNumber _ _ _ _ _ _) cw_E_195 rfl ⟨w_282, w_283⟩ (by decide) rfl rfl (Nat.le_of_ble_eq_true rfl) d_E_ofNumber_116) fun q23 => ?_
        exact hp_iret d_E_ofNumber_119 rfl
      · skip
        refine hp_ite (fun c2 => ?_) (fun c2 => ?_)
        · refine hp_tabI (tgt := 120) (kv := 19) d_E_ofNumber_45 c2 (by decide) (by decide) rfl (by decide) ?_
          refine hp_aload_n (x0 := 4) d_E_ofNumber_120 rfl rfl ?_
          refine hp_getR fl_E_38 d_E_ofNumber_121 fun x24 => ?_
          refine hp_aload_n (x0 := 3) d_E_ofNumber_124 rfl rfl ?_
          refine hp_getI fl_E_93 d_E_ofNumber_125 fun x25 => ?_
          refine hp_lload (x0 := 0) d_E_ofNumber_128 rfl ?_
          refine hp_lconst (v := 0) d_E_ofNumber_130 (by decide) ?_
          refine hp_lcmp d_E_ofNumber_131 ?_
          refine hp_if_le (tgt := 142) d_E_ofNumber_132 (by decide) ?_ ?_
          · refine hp_lload (x0 := 1) d_E_ofNumber_142 rfl ?_
            refine hp_sub [] rfl ?_
            exact j_E_ofNumber_144  _ _ _ _
          · refine hp_lload (x0 := 1) d_E_ofNumber_135 rfl ?_
            refine hp_lconst (v := 1) d_E_ofNumber_137 (by decide) ?_
            refine hp_ladd d_E_ofNumber_138 ?_
            refine hp_goto (tgt := 144) d_E_ofNumber_139 (by decide) ?_
            refine hp_sub [] rfl ?_
            exact j_E_ofNumber_144  _ _ _ _
        · skip
          refine hp_ite (fun c3 => ?_) (fun c3 => ?_)
          · refine hp_tabI (tgt := 149) (kv := 20) d_E_ofNumber_45 c3 (by decide) (by decide) rfl (by decide) ?_
            refine hp_aload_n (x0 := 4) d_E_ofNumber_149 rfl rfl ?_
            refine hp_getR fl_E_38 d_E_ofNumber_150 fun x26 => ?_
            refine hp_aload_n (x0 := 3) d_E_ofNumber_153 rfl rfl ?_
            refine hp_getI fl_E_93 d_E_ofNumber_154 fun x27 => ?_
            refine hp_lload (x0 := 1) d_E_ofNumber_157 rfl ?_
            refine hp_iconst (v := 0) d_E_ofNumber_159 (by decide) ?_
            refine hp_callI (hp_crV (ci := 1) (t_S_keepNumber _ _ _ _ _ _) cw_E_195 rfl ⟨w_282, w_283⟩ (by decide) rfl rfl (Nat.le_of_ble_eq_true rfl) d_E_ofNumber_160) fun q28 => ?_
            exact hp_iret d_E_ofNumber_163 rfl
          · skip
            refine hp_tabD (tgt := 164) d_E_ofNumber_45 (by have e0 := lv_neT c0 (a := 17) (by decide); have e1 := lv_neT c1 (a := 18) (by decide); have e2 := lv_neT c2 (a := 19) (by decide); have e3 := lv_neT c3 (a := 20) (by decide); omega) (by decide) ?_
            refine hp_aload_n (x0 := 4) d_E_ofNumber_164 rfl rfl ?_
            refine hp_getR fl_E_38 d_E_ofNumber_165 fun x29 => ?_
            refine hp_aload_n (x0 := 3) d_E_ofNumber_168 rfl rfl ?_
            refine hp_getI fl_E_93 d_E_ofNumber_169 fun x30 => ?_
            refine hp_lload (x0 := 0) d_E_ofNumber_172 rfl ?_
            refine hp_ldc2 (v := 2) d_E_ofNumber_174 w_644 ?_
            refine hp_lmul d_E_ofNumber_177 ?_
            refine hp_lload_n (x0 := 2) d_E_ofNumber_178 rfl rfl ?_
            refine hp_lcmp d_E_ofNumber_179 ?_
            refine hp_if_lt (tgt := 190) d_E_ofNumber_180 (by decide) ?_ ?_
            · refine hp_lload (x0 := 1) d_E_ofNumber_190 rfl ?_
              refine hp_sub [] rfl ?_
              exact j_E_ofNumber_192  _ _ _ _
            · refine hp_lload (x0 := 1) d_E_ofNumber_183 rfl ?_
              refine hp_lconst (v := 1) d_E_ofNumber_185 (by decide) ?_
              refine hp_ladd d_E_ofNumber_186 ?_
              refine hp_goto (tgt := 192) d_E_ofNumber_187 (by decide) ?_
              refine hp_sub [] rfl ?_
              exact j_E_ofNumber_192  _ _ _ _
theorem t_E_ofNumber (l : Launch) (E : hp_E) (a0 : Nat) (a1 : Int32) : hp_M l E y_E_ofNumber Y_E_ofNumber hp_rI [.ref a0, .int a1] (m_E_ofNumber E.2.2.1 a0 a1) := hp_M.of (plainFor_of_name (by decide)) ⟨rfl, rfl⟩ (Nat.le_of_ble_eq_true rfl) (fun Z h hE => by subst hE; exact j_E_ofNumber_0 _ _ h)
-- MA_max2
theorem d_MA_max2_0 : decode prog_15_method_66_code 0 = .ok (.lload_n 0, 1) := by decide +kernel
theorem d_MA_max2_1 : decode prog_15_method_66_code 1 = .ok (.lload_n 2, 1) := by decide +kernel
theorem d_MA_max2_2 : decode prog_15_method_66_code 2 = .ok (.lcmp, 1) := by decide +kernel
theorem d_MA_max2_3 : decode prog_15_method_66_code 3 = .ok (.ifCond .lt 7, 3) := by decide +kernel
theorem d_MA_max2_6 : decode prog_15_method_66_code 6 = .ok (.lload_n 0, 1) := by decide +kernel
theorem d_MA_max2_7 : decode prog_15_method_66_code 7 = .ok (.goto 4, 3) := by decide +kernel
theorem d_MA_max2_10 : decode prog_15_method_66_code 10 = .ok (.lload_n 2, 1) := by decide +kernel
theorem d_MA_max2_11 : decode prog_15_method_66_code 11 = .ok (.lreturn, 1) := by decide +kernel
def m_MA_max2_11 (G : Nat → Nat) (s0 : Int64) (h : hp_H) : Option (Int64 × hp_H) := some (s0, h)
set_option maxRecDepth 100000 in
set_option maxHeartbeats 4000000 in
theorem j_MA_max2_11 {Z : hp_Z} (s0 : Int64) (h : hp_H) : hp_J Y_MA_max2 Z hp_rL h 11 [] [.long s0] (m_MA_max2_11 (hp_G Z)  s0 h) := by
  unfold m_MA_max2_11
  exact hp_lret d_MA_max2_11 rfl
def m_MA_max2 (G : Nat → Nat) (a0 : Int64) (a2 : Int64) (h : hp_H) : Option (Int64 × hp_H) := if (lg_cmp a0 a2) < 0 then (m_MA_max2_11 G a2 h) else (m_MA_max2_11 G a0 h)
set_option maxRecDepth 100000 in
set_option maxHeartbeats 4000000 in
theorem j_MA_max2_0 {Z : hp_Z} (a0 : Int64) (a2 : Int64) (h : hp_H) : hp_J Y_MA_max2 Z hp_rL h 0 [(0, .long a0), (2, .long a2)] [] (m_MA_max2 (hp_G Z)  a0 a2 h) := by
  unfold m_MA_max2
  refine hp_lload_n (x0 := 0) d_MA_max2_0 rfl rfl ?_
  refine hp_lload_n (x0 := 1) d_MA_max2_1 rfl rfl ?_
  refine hp_lcmp d_MA_max2_2 ?_
  refine hp_if_lt (tgt := 10) d_MA_max2_3 (by decide) ?_ ?_
  · refine hp_lload_n (x0 := 1) d_MA_max2_10 rfl rfl ?_
    refine hp_sub [] rfl ?_
    exact j_MA_max2_11  _ _
  · refine hp_lload_n (x0 := 0) d_MA_max2_6 rfl rfl ?_
    refine hp_goto (tgt := 11) d_MA_max2_7 (by decide) ?_
    refine hp_sub [] rfl ?_
    exact j_MA_max2_11  _ _
theorem t_MA_max2 (l : Launch) (E : hp_E) (a0 : Int64) (a2 : Int64) : hp_M l E y_MA_max2 Y_MA_max2 hp_rL [.long a0, .long a2] (m_MA_max2 E.2.2.1 a0 a2) := hp_M.of (by decide +kernel) ⟨rfl, rfl⟩ (Nat.le_of_ble_eq_true rfl) (fun Z h hE => by subst hE; exact j_MA_max2_0 _ _ h)
-- MA_min2
theorem d_MA_min2_0 : decode prog_15_method_70_code 0 = .ok (.lload_n 0, 1) := by decide +kernel
theorem d_MA_min2_1 : decode prog_15_method_70_code 1 = .ok (.lload_n 2, 1) := by decide +kernel
theorem d_MA_min2_2 : decode prog_15_method_70_code 2 = .ok (.lcmp, 1) := by decide +kernel
theorem d_MA_min2_3 : decode prog_15_method_70_code 3 = .ok (.ifCond .gt 7, 3) := by decide +kernel
theorem d_MA_min2_6 : decode prog_15_method_70_code 6 = .ok (.lload_n 0, 1) := by decide +kernel
theorem d_MA_min2_7 : decode prog_15_method_70_code 7 = .ok (.goto 4, 3) := by decide +kernel
theorem d_MA_min2_10 : decode prog_15_method_70_code 10 = .ok (.lload_n 2, 1) := by decide +kernel
theorem d_MA_min2_11 : decode prog_15_method_70_code 11 = .ok (.lreturn, 1) := by decide +kernel
def m_MA_min2_11 (G : Nat → Nat) (s0 : Int64) (h : hp_H) : Option (Int64 × hp_H) := some (s0, h)
set_option maxRecDepth 100000 in
set_option maxHeartbeats 4000000 in
theorem j_MA_min2_11 {Z : hp_Z} (s0 : Int64) (h : hp_H) : hp_J Y_MA_min2 Z hp_rL h 11 [] [.long s0] (m_MA_min2_11 (hp_G Z)  s0 h) := by
  unfold m_MA_min2_11
  exact hp_lret d_MA_min2_11 rfl
def m_MA_min2 (G : Nat → Nat) (a0 : Int64) (a2 : Int64) (h : hp_H) : Option (Int64 × hp_H) := if 0 < (lg_cmp a0 a2) then (m_MA_min2_11 G a2 h) else (m_MA_min2_11 G a0 h)
set_option maxRecDepth 100000 in
set_option maxHeartbeats 4000000 in
theorem j_MA_min2_0 {Z : hp_Z} (a0 : Int64) (a2 : Int64) (h : hp_H) : hp_J Y_MA_min2 Z hp_rL h 0 [(0, .long a0), (2, .long a2)] [] (m_MA_min2 (hp_G Z)  a0 a2 h) := by
  unfold m_MA_min2
  refine hp_lload_n (x0 := 0) d_MA_min2_0 rfl rfl ?_
  refine hp_lload_n (x0 := 1) d_MA_min2_1 rfl rfl ?_
  refine hp_lcmp d_MA_min2_2 ?_
  refine hp_if_gt (tgt := 10) d_MA_min2_3 (by decide) ?_ ?_
  · refine hp_lload_n (x0 := 1) d_MA_min2_10 rfl rfl ?_
    refine hp_sub [] rfl ?_
    exact j_MA_min2_11  _ _
  · refine hp_lload_n (x0 := 0) d_MA_min2_6 rfl rfl ?_
    refine hp_goto (tgt := 11) d_MA_min2_7 (by decide) ?_
    refine hp_sub [] rfl ?_
    exact j_MA_min2_11  _ _
theorem t_MA_min2 (l : Launch) (E : hp_E) (a0 : Int64) (a2 : Int64) : hp_M l E y_MA_min2 Y_MA_min2 hp_rL [.long a0, .long a2] (m_MA_min2 E.2.2.1 a0 a2) := hp_M.of (by decide +kernel) ⟨rfl, rfl⟩ (Nat.le_of_ble_eq_true rfl) (fun Z h hE => by subst hE; exact j_MA_min2_0 _ _ h)
-- E_part
theorem d_E_part_0 : decode prog_2_method_27_code 0 = .ok (.aload_n 2, 1) := by decide +kernel
theorem d_E_part_1 : decode prog_2_method_27_code 1 = .ok (.getfield 93, 3) := by decide +kernel
theorem d_E_part_4 : decode prog_2_method_27_code 4 = .ok (.iconst 3, 1) := by decide +kernel
theorem d_E_part_5 : decode prog_2_method_27_code 5 = .ok (.if_icmp .ne 11, 3) := by decide +kernel
theorem d_E_part_8 : decode prog_2_method_27_code 8 = .ok (.aload_n 3, 1) := by decide +kernel
theorem d_E_part_9 : decode prog_2_method_27_code 9 = .ok (.getfield 93, 3) := by decide +kernel
theorem d_E_part_12 : decode prog_2_method_27_code 12 = .ok (.iconst 3, 1) := by decide +kernel
theorem d_E_part_13 : decode prog_2_method_27_code 13 = .ok (.if_icmp .eq 6, 3) := by decide +kernel
theorem d_E_part_16 : decode prog_2_method_27_code 16 = .ok (.bipush (-4), 2) := by decide +kernel
theorem d_E_part_18 : decode prog_2_method_27_code 18 = .ok (.ireturn, 1) := by decide +kernel
theorem d_E_part_19 : decode prog_2_method_27_code 19 = .ok (.aload_n 2, 1) := by decide +kernel
theorem d_E_part_20 : decode prog_2_method_27_code 20 = .ok (.getfield 157, 3) := by decide +kernel
theorem d_E_part_23 : decode prog_2_method_27_code 23 = .ok (.lconst 1, 1) := by decide +kernel
theorem d_E_part_24 : decode prog_2_method_27_code 24 = .ok (.invokestatic 234, 3) := by decide +kernel
theorem d_E_part_27 : decode prog_2_method_27_code 27 = .ok (.lconst 1, 1) := by decide +kernel
theorem d_E_part_28 : decode prog_2_method_27_code 28 = .ok (.lsub, 1) := by decide +kernel
theorem d_E_part_29 : decode prog_2_method_27_code 29 = .ok (.lstore 4, 2) := by decide +kernel
theorem d_E_part_31 : decode prog_2_method_27_code 31 = .ok (.aload_n 2, 1) := by decide +kernel
theorem d_E_part_32 : decode prog_2_method_27_code 32 = .ok (.getfield 157, 3) := by decide +kernel
theorem d_E_part_35 : decode prog_2_method_27_code 35 = .ok (.aload_n 3, 1) := by decide +kernel
theorem d_E_part_36 : decode prog_2_method_27_code 36 = .ok (.getfield 157, 3) := by decide +kernel
theorem d_E_part_39 : decode prog_2_method_27_code 39 = .ok (.ladd, 1) := by decide +kernel
theorem d_E_part_40 : decode prog_2_method_27_code 40 = .ok (.lconst 1, 1) := by decide +kernel
theorem d_E_part_41 : decode prog_2_method_27_code 41 = .ok (.lsub, 1) := by decide +kernel
theorem d_E_part_42 : decode prog_2_method_27_code 42 = .ok (.aload_n 1, 1) := by decide +kernel
theorem d_E_part_43 : decode prog_2_method_27_code 43 = .ok (.getfield 214, 3) := by decide +kernel
theorem d_E_part_46 : decode prog_2_method_27_code 46 = .ok (.arraylength, 1) := by decide +kernel
theorem d_E_part_47 : decode prog_2_method_27_code 47 = .ok (.i2l, 1) := by decide +kernel
theorem d_E_part_48 : decode prog_2_method_27_code 48 = .ok (.invokestatic 237, 3) := by decide +kernel
theorem d_E_part_51 : decode prog_2_method_27_code 51 = .ok (.lstore 6, 2) := by decide +kernel
theorem d_E_part_53 : decode prog_2_method_27_code 53 = .ok (.lload 4, 2) := by decide +kernel
theorem d_E_part_55 : decode prog_2_method_27_code 55 = .ok (.lload 6, 2) := by decide +kernel
theorem d_E_part_57 : decode prog_2_method_27_code 57 = .ok (.lcmp, 1) := by decide +kernel
theorem d_E_part_58 : decode prog_2_method_27_code 58 = .ok (.ifCond .ge 20, 3) := by decide +kernel
theorem d_E_part_61 : decode prog_2_method_27_code 61 = .ok (.aload_n 0, 1) := by decide +kernel
theorem d_E_part_62 : decode prog_2_method_27_code 62 = .ok (.getfield 27, 3) := by decide +kernel
theorem d_E_part_65 : decode prog_2_method_27_code 65 = .ok (.aload_n 1, 1) := by decide +kernel
theorem d_E_part_66 : decode prog_2_method_27_code 66 = .ok (.getfield 214, 3) := by decide +kernel
theorem d_E_part_69 : decode prog_2_method_27_code 69 = .ok (.lload 4, 2) := by decide +kernel
theorem d_E_part_71 : decode prog_2_method_27_code 71 = .ok (.l2i, 1) := by decide +kernel
theorem d_E_part_72 : decode prog_2_method_27_code 72 = .ok (.lload 6, 2) := by decide +kernel
theorem d_E_part_74 : decode prog_2_method_27_code 74 = .ok (.l2i, 1) := by decide +kernel
theorem d_E_part_75 : decode prog_2_method_27_code 75 = .ok (.invokevirtual 218, 3) := by decide +kernel
theorem d_E_part_78 : decode prog_2_method_27_code 78 = .ok (.aload_n 0, 1) := by decide +kernel
theorem d_E_part_79 : decode prog_2_method_27_code 79 = .ok (.getfield 38, 3) := by decide +kernel
theorem d_E_part_82 : decode prog_2_method_27_code 82 = .ok (.aload_n 1, 1) := by decide +kernel
theorem d_E_part_83 : decode prog_2_method_27_code 83 = .ok (.getfield 93, 3) := by decide +kernel
theorem d_E_part_86 : decode prog_2_method_27_code 86 = .ok (.aload_n 1, 1) := by decide +kernel
theorem d_E_part_87 : decode prog_2_method_27_code 87 = .ok (.getfield 208, 3) := by decide +kernel
theorem d_E_part_90 : decode prog_2_method_27_code 90 = .ok (.aload_n 0, 1) := by decide +kernel
theorem d_E_part_91 : decode prog_2_method_27_code 91 = .ok (.getfield 27, 3) := by decide +kernel
theorem d_E_part_94 : decode prog_2_method_27_code 94 = .ok (.invokevirtual 222, 3) := by decide +kernel
theorem d_E_part_97 : decode prog_2_method_27_code 97 = .ok (.ireturn, 1) := by decide +kernel
def m_E_part_16 (G : Nat → Nat) (h : hp_H) : Option (Int32 × hp_H) := some ((-4 : Int32), h)
set_option maxRecDepth 100000 in
set_option maxHeartbeats 4000000 in
theorem j_E_part_16 {Z : hp_Z} (h : hp_H) : hp_J Y_E_part Z hp_rI h 16 [] [] (m_E_part_16 (hp_G Z)   h) := by
  unfold m_E_part_16
  refine hp_bipush (v := -4) d_E_part_16 (by decide) ?_
  exact hp_iret d_E_part_18 rfl
def m_E_part_78 (G : Nat → Nat) (a0 : Nat) (a1 : Nat) (h : hp_H) : Option (Int32 × hp_H) := (hp_gR h a0 5 0).bind fun x1 => (hp_gI h a1 3 0).bind fun x2 => (hp_gI h a1 3 1).bind fun x3 => (hp_gR h a0 5 5).bind fun x4 => (hp_vck h x1 1 (m_S_keepRow G x1 x2 x3 x4 h)).bind fun q5 => some (q5.1, q5.2)
set_option maxRecDepth 100000 in
set_option maxHeartbeats 4000000 in
theorem j_E_part_78 {Z : hp_Z} (a0 : Nat) (a1 : Nat) (h : hp_H) : hp_J Y_E_part Z hp_rI h 78 [(0, .ref a0), (1, .ref a1)] [] (m_E_part_78 (hp_G Z)  a0 a1 h) := by
  unfold m_E_part_78
  refine hp_aload_n (x0 := 0) d_E_part_78 rfl rfl ?_
  refine hp_getR fl_E_38 d_E_part_79 fun x1 => ?_
  refine hp_aload_n (x0 := 1) d_E_part_82 rfl rfl ?_
  refine hp_getI fl_E_93 d_E_part_83 fun x2 => ?_
  refine hp_aload_n (x0 := 1) d_E_part_86 rfl rfl ?_
  refine hp_getI fl_E_208 d_E_part_87 fun x3 => ?_
  refine hp_aload_n (x0 := 0) d_E_part_90 rfl rfl ?_
  refine hp_getR fl_E_27 d_E_part_91 fun x4 => ?_
  refine hp_callI (hp_crV (ci := 1) (t_S_keepRow _ _ _ _ _ _) cw_E_222 rfl ⟨w_414, w_415⟩ (by decide) rfl rfl (Nat.le_of_ble_eq_true rfl) d_E_part_94) fun q5 => ?_
  exact hp_iret d_E_part_97 rfl
def m_E_part (G : Nat → Nat) (a0 : Nat) (a1 : Nat) (a2 : Nat) (a3 : Nat) (h : hp_H) : Option (Int32 × hp_H) := (hp_gI h a2 3 0).bind fun x1 => if x1 = (3 : Int32) then ((hp_gI h a3 3 0).bind fun x2 => if x2 = (3 : Int32) then ((hp_gL h a2 3 2).bind fun x3 => (m_MA_max2 G x3 (1 : Int64) h).bind fun q4 => hp_nm (q4.1 - (1 : Int64)) fun x5 => (hp_gL q4.2 a2 3 2).bind fun x6 => (hp_gL q4.2 a3 3 2).bind fun x7 => (hp_gR q4.2 a1 3 4).bind fun x8 => (hp_len q4.2 x8).bind fun x9 => (m_MA_min2 G ((x6 + x7) - (1 : Int64)) x9.toInt64 q4.2).bind fun q10 => hp_nm q10.1 fun x11 => if 0 ≤ (lg_cmp x5 x11) then (m_E_part_78 G a0 a1 q10.2) else ((hp_gR q10.2 a0 5 5).bind fun x12 => (hp_gR q10.2 a1 3 4).bind fun x13 => (hp_vck q10.2 x12 4 (m_R_putPart G x12 x13 x5.toInt32 x11.toInt32 q10.2)).bind fun q14 => m_E_part_78 G a0 a1 q14.2)) else (m_E_part_16 G h)) else (m_E_part_16 G h)
set_option maxRecDepth 100000 in
set_option maxHeartbeats 4000000 in
theorem j_E_part_0 {Z : hp_Z} (a0 : Nat) (a1 : Nat) (a2 : Nat) (a3 : Nat) (h : hp_H) : hp_J Y_E_part Z hp_rI h 0 [(0, .ref a0), (1, .ref a1), (2, .ref a2), (3, .ref a3)] [] (m_E_part (hp_G Z)  a0 a1 a2 a3 h) := by
  unfold m_E_part
  refine hp_aload_n (x0 := 2) d_E_part_0 rfl rfl ?_
  refine hp_getI fl_E_93 d_E_part_1 fun x1 => ?_
  refine hp_iconst (v := 3) d_E_part_4 (by decide) ?_
  refine hp_icmp_ne (tgt := 16) d_E_part_5 (by decide) ?_ ?_
  · refine hp_aload_n (x0 := 3) d_E_part_8 rfl rfl ?_
    refine hp_getI fl_E_93 d_E_part_9 fun x2 => ?_
    refine hp_iconst (v := 3) d_E_part_12 (by decide) ?_
    refine hp_icmp_eq (tgt := 19) d_E_part_13 (by decide) ?_ ?_
    · refine hp_aload_n (x0 := 2) d_E_part_19 rfl rfl ?_
      refine hp_getL fl_E_157 d_E_part_20 fun x3 => ?_
      refine hp_lconst (v := 1) d_E_part_23 (by decide) ?_
      refine hp_callL (hp_crS (t_MA_max2 _ _ _ _) cw_E_234 w_670 (by decide) rfl rfl (Nat.le_of_ble_eq_true rfl) d_E_part_24) fun q4 => ?_
      refine hp_lconst (v := 1) d_E_part_27 (by decide) ?_
      refine hp_lsub d_E_part_28 ?_
      refine hp_lstore (fun x5 => [(4, .long x5), (0, .ref a0), (1, .ref a1), (2, .ref a2), (3, .ref a3)]) d_E_part_29 (by decide) (fun _ => rfl) fun x5 => ?_
      refine hp_aload_n (x0 := 3) d_E_part_31 rfl rfl ?_
      refine hp_getL fl_E_157 d_E_part_32 fun x6 => ?_
      refine hp_aload_n (x0 := 4) d_E_part_35 rfl rfl ?_
      refine hp_getL fl_E_157 d_E_part_36 fun x7 => ?_
      refine hp_ladd d_E_part_39 ?_
      refine hp_lconst (v := 1) d_E_part_40 (by decide) ?_
      refine hp_lsub d_E_part_41 ?_
      refine hp_aload_n (x0 := 2) d_E_part_42 rfl rfl ?_
      refine hp_getR fl_E_214 d_E_part_43 fun x8 => ?_
      refine hp_alen d_E_part_46 fun x9 => ?_
      refine hp_i2l d_E_part_47 ?_
      refine hp_callL (hp_crS (t_MA_min2 _ _ _ _) cw_E_237 w_673 (by decide) rfl rfl (Nat.le_of_ble_eq_true rfl) d_E_part_48) fun q10 => ?_
      refine hp_lstore (fun x11 => [(6, .long x11), (4, .long x5), (0, .ref a0), (1, .ref a1), (2, .ref a2), (3, .ref a3)]) d_E_part_51 (by decide) (fun _ => rfl) fun x11 => ?_
      refine hp_lload (x0 := 1) d_E_part_53 rfl ?_
      refine hp_lload (x0 := 0) d_E_part_55 rfl ?_
      refine hp_lcmp d_E_part_57 ?_
      refine hp_if_ge (tgt := 78) d_E_part_58 (by decide) ?_ ?_
      · refine hp_sub [2, 3] rfl ?_
        exact j_E_part_78  _ _ _
      · refine hp_aload_n (x0 := 2) d_E_part_61 rfl rfl ?_
        refine hp_getR fl_E_27 d_E_part_62 fun x12 => ?_
        refine hp_aload_n (x0 := 3) d_E_part_65 rfl rfl ?_
        refine hp_getR fl_E_214 d_E_part_66 fun x13 => ?_
        refine hp_lload (x0 := 1) d_E_part_69 rfl ?_
        refine hp_l2i d_E_part_71 ?_
        refine hp_lload (x0 := 0) d_E_part_72 rfl ?_
        refine hp_l2i d_E_part_74 ?_
        refine hp_callU (hp_crV (ci := 4) (t_R_putPart _ _ _ _ _ _) cw_E_218 rfl ⟨w_655, w_656⟩ (by decide) rfl rfl (Nat.le_of_ble_eq_true rfl) d_E_part_75) fun q14 => ?_
        refine hp_sub [2, 3] rfl ?_
        exact j_E_part_78  _ _ _
    · refine hp_sub [] rfl ?_
      exact j_E_part_16   _
  · refine hp_sub [] rfl ?_
    exact j_E_part_16   _
theorem t_E_part (l : Launch) (E : hp_E) (a0 : Nat) (a1 : Nat) (a2 : Nat) (a3 : Nat) : hp_M l E y_E_part Y_E_part hp_rI [.ref a0, .ref a1, .ref a2, .ref a3] (m_E_part E.2.2.1 a0 a1 a2 a3) := hp_M.of (plainFor_of_name (by decide)) ⟨rfl, rfl⟩ (Nat.le_of_ble_eq_true rfl) (fun Z h hE => by subst hE; exact j_E_part_0 _ _ _ _ h)
-- E_turned
theorem d_E_turned_0 : decode prog_2_method_28_code 0 = .ok (.iconst 0, 1) := by decide +kernel
theorem d_E_turned_1 : decode prog_2_method_28_code 1 = .ok (.istore 5, 2) := by decide +kernel
theorem d_E_turned_3 : decode prog_2_method_28_code 3 = .ok (.iload 5, 2) := by decide +kernel
theorem d_E_turned_5 : decode prog_2_method_28_code 5 = .ok (.aload_n 1, 1) := by decide +kernel
theorem d_E_turned_6 : decode prog_2_method_28_code 6 = .ok (.getfield 214, 3) := by decide +kernel
theorem d_E_turned_9 : decode prog_2_method_28_code 9 = .ok (.arraylength, 1) := by decide +kernel
theorem d_E_turned_10 : decode prog_2_method_28_code 10 = .ok (.if_icmp .ge 47, 3) := by decide +kernel
theorem d_E_turned_13 : decode prog_2_method_28_code 13 = .ok (.aload_n 1, 1) := by decide +kernel
theorem d_E_turned_14 : decode prog_2_method_28_code 14 = .ok (.getfield 214, 3) := by decide +kernel
theorem d_E_turned_17 : decode prog_2_method_28_code 17 = .ok (.iload 5, 2) := by decide +kernel
theorem d_E_turned_19 : decode prog_2_method_28_code 19 = .ok (.baload, 1) := by decide +kernel
theorem d_E_turned_20 : decode prog_2_method_28_code 20 = .ok (.istore 6, 2) := by decide +kernel
theorem d_E_turned_22 : decode prog_2_method_28_code 22 = .ok (.aload_n 0, 1) := by decide +kernel
theorem d_E_turned_23 : decode prog_2_method_28_code 23 = .ok (.getfield 27, 3) := by decide +kernel
theorem d_E_turned_26 : decode prog_2_method_28_code 26 = .ok (.iload 6, 2) := by decide +kernel
theorem d_E_turned_28 : decode prog_2_method_28_code 28 = .ok (.iload_n 2, 1) := by decide +kernel
theorem d_E_turned_29 : decode prog_2_method_28_code 29 = .ok (.if_icmp .lt 17, 3) := by decide +kernel
theorem d_E_turned_32 : decode prog_2_method_28_code 32 = .ok (.iload 6, 2) := by decide +kernel
theorem d_E_turned_34 : decode prog_2_method_28_code 34 = .ok (.iload_n 3, 1) := by decide +kernel
theorem d_E_turned_35 : decode prog_2_method_28_code 35 = .ok (.if_icmp .gt 11, 3) := by decide +kernel
theorem d_E_turned_38 : decode prog_2_method_28_code 38 = .ok (.iload 6, 2) := by decide +kernel
theorem d_E_turned_40 : decode prog_2_method_28_code 40 = .ok (.iload 4, 2) := by decide +kernel
theorem d_E_turned_42 : decode prog_2_method_28_code 42 = .ok (.iadd, 1) := by decide +kernel
theorem d_E_turned_43 : decode prog_2_method_28_code 43 = .ok (.goto 5, 3) := by decide +kernel
theorem d_E_turned_46 : decode prog_2_method_28_code 46 = .ok (.iload 6, 2) := by decide +kernel
theorem d_E_turned_48 : decode prog_2_method_28_code 48 = .ok (.invokevirtual 240, 3) := by decide +kernel
theorem d_E_turned_51 : decode prog_2_method_28_code 51 = .ok (.iinc 5 1, 3) := by decide +kernel
theorem d_E_turned_54 : decode prog_2_method_28_code 54 = .ok (.goto (-51), 3) := by decide +kernel
theorem d_E_turned_57 : decode prog_2_method_28_code 57 = .ok (.aload_n 0, 1) := by decide +kernel
theorem d_E_turned_58 : decode prog_2_method_28_code 58 = .ok (.getfield 38, 3) := by decide +kernel
theorem d_E_turned_61 : decode prog_2_method_28_code 61 = .ok (.aload_n 1, 1) := by decide +kernel
theorem d_E_turned_62 : decode prog_2_method_28_code 62 = .ok (.getfield 93, 3) := by decide +kernel
theorem d_E_turned_65 : decode prog_2_method_28_code 65 = .ok (.aload_n 1, 1) := by decide +kernel
theorem d_E_turned_66 : decode prog_2_method_28_code 66 = .ok (.getfield 208, 3) := by decide +kernel
theorem d_E_turned_69 : decode prog_2_method_28_code 69 = .ok (.aload_n 0, 1) := by decide +kernel
theorem d_E_turned_70 : decode prog_2_method_28_code 70 = .ok (.getfield 27, 3) := by decide +kernel
theorem d_E_turned_73 : decode prog_2_method_28_code 73 = .ok (.invokevirtual 222, 3) := by decide +kernel
theorem d_E_turned_76 : decode prog_2_method_28_code 76 = .ok (.ireturn, 1) := by decide +kernel
def m_E_turned_48 (G : Nat → Nat) (r3 : Nat → Nat → Int32 → Int32 → Int32 → Int32 → hp_H → Option (Int32 × hp_H)) (a0 : Nat) (a1 : Nat) (a2 : Int32) (a3 : Int32) (a4 : Int32) (a5 : Int32) (s0 : Int32) (s1 : Nat) (h : hp_H) : Option (Int32 × hp_H) := (hp_vck h s1 4 (m_R_put G s1 s0 h)).bind fun q1 => hp_nm (a5 + 1) fun x2 => r3 a0 a1 a2 a3 a4 x2 q1.2
set_option maxRecDepth 100000 in
set_option maxHeartbeats 4000000 in
theorem j_E_turned_48 {Z : hp_Z} (r3 : Nat → Nat → Int32 → Int32 → Int32 → Int32 → hp_H → Option (Int32 × hp_H)) (hr3 : ∀ (a0 : Nat) (a1 : Nat) (a2 : Int32) (a3 : Int32) (a4 : Int32) (a5 : Int32) (h : hp_H), hp_J Y_E_turned Z hp_rI h 3 [(0, .ref a0), (1, .ref a1), (2, .int a2), (3, .int a3), (4, .int a4), (5, .int a5)] [] (r3 a0 a1 a2 a3 a4 a5  h)) (a0 : Nat) (a1 : Nat) (a2 : Int32) (a3 : Int32) (a4 : Int32) (a5 : Int32) (s0 : Int32) (s1 : Nat) (h : hp_H) : hp_J Y_E_turned Z hp_rI h 48 [(0, .ref a0), (1, .ref a1), (2, .int a2), (3, .int a3), (4, .int a4), (5, .int a5)] [.int s0, .ref s1] (m_E_turned_48 (hp_G Z) r3 a0 a1 a2 a3 a4 a5 s0 s1 h) := by
  unfold m_E_turned_48
  refine hp_callU (hp_crV (ci := 4) (t_R_put _ _ _ _) cw_E_240 rfl ⟨w_269, w_270⟩ (by decide) rfl rfl (Nat.le_of_ble_eq_true rfl) d_E_turned_48) fun q1 => ?_
  refine hp_iinc (x0 := 5) (d := 1) (fun x2 => [(5, .int x2), (0, .ref a0), (1, .ref a1), (2, .int a2), (3, .int a3), (4, .int a4)]) d_E_turned_51 rfl (by decide) (by decide) (fun _ => rfl) fun x2 => ?_
  refine hp_goto (tgt := 3) d_E_turned_54 (by decide) ?_
  refine hp_sub [1, 2, 3, 4, 5, 0] rfl ?_
  exact hr3 _ _ _ _ _ _ _
def m_E_turned_46 (G : Nat → Nat) (r3 : Nat → Nat → Int32 → Int32 → Int32 → Int32 → hp_H → Option (Int32 × hp_H)) (a0 : Nat) (a1 : Nat) (a2 : Int32) (a3 : Int32) (a4 : Int32) (a5 : Int32) (a6 : Int32) (s0 : Nat) (h : hp_H) : Option (Int32 × hp_H) := m_E_turned_48 G r3 a0 a1 a2 a3 a4 a5 a6 s0 h
set_option maxRecDepth 100000 in
set_option maxHeartbeats 4000000 in
theorem j_E_turned_46 {Z : hp_Z} (r3 : Nat → Nat → Int32 → Int32 → Int32 → Int32 → hp_H → Option (Int32 × hp_H)) (hr3 : ∀ (a0 : Nat) (a1 : Nat) (a2 : Int32) (a3 : Int32) (a4 : Int32) (a5 : Int32) (h : hp_H), hp_J Y_E_turned Z hp_rI h 3 [(0, .ref a0), (1, .ref a1), (2, .int a2), (3, .int a3), (4, .int a4), (5, .int a5)] [] (r3 a0 a1 a2 a3 a4 a5  h)) (a0 : Nat) (a1 : Nat) (a2 : Int32) (a3 : Int32) (a4 : Int32) (a5 : Int32) (a6 : Int32) (s0 : Nat) (h : hp_H) : hp_J Y_E_turned Z hp_rI h 46 [(0, .ref a0), (1, .ref a1), (2, .int a2), (3, .int a3), (4, .int a4), (5, .int a5), (6, .int a6)] [.ref s0] (m_E_turned_46 (hp_G Z) r3 a0 a1 a2 a3 a4 a5 a6 s0 h) := by
  unfold m_E_turned_46
  refine hp_iload (x0 := 6) d_E_turned_46 rfl ?_
  refine hp_sub [0, 1, 2, 3, 4, 5] rfl ?_
  exact j_E_turned_48 _ hr3 _ _ _ _ _ _ _ _ _
def m_E_turned_3 (G : Nat → Nat) : Nat → Nat → Nat → Int32 → Int32 → Int32 → Int32 → hp_H → Option (Int32 × hp_H)
  | 0, _, _, _, _, _, _, _ => none
  | n + 1, a0, a1, a2, a3, a4, a5, h => (hp_gR h a1 3 4).bind fun x1 => (hp_len h x1).bind fun x2 => if x2 ≤ a5 then ((hp_gR h a0 5 0).bind fun x3 => (hp_gI h a1 3 0).bind fun x4 => (hp_gI h a1 3 1).bind fun x5 => (hp_gR h a0 5 5).bind fun x6 => (hp_vck h x3 1 (m_S_keepRow G x3 x4 x5 x6 h)).bind fun q7 => some (q7.1, q7.2)) else ((hp_gR h a1 3 4).bind fun x8 => (hp_aI h .byte x8 a5).bind fun x9 => hp_nm x9 fun x10 => (hp_gR h a0 5 5).bind fun x11 => if x10 < a2 then (m_E_turned_46 G (m_E_turned_3 G  n) a0 a1 a2 a3 a4 a5 x10 x11 h) else (if a3 < x10 then (m_E_turned_46 G (m_E_turned_3 G  n) a0 a1 a2 a3 a4 a5 x10 x11 h) else (m_E_turned_48 G (m_E_turned_3 G  n) a0 a1 a2 a3 a4 a5 (x10 + a4) x11 h)))
set_option maxRecDepth 100000 in
set_option maxHeartbeats 4000000 in
theorem j_E_turned_3 {Z : hp_Z} : ∀ (n : Nat) (a0 : Nat) (a1 : Nat) (a2 : Int32) (a3 : Int32) (a4 : Int32) (a5 : Int32) (h : hp_H), hp_J Y_E_turned Z hp_rI h 3 [(0, .ref a0), (1, .ref a1), (2, .int a2), (3, .int a3), (4, .int a4), (5, .int a5)] [] (m_E_turned_3 (hp_G Z)  n a0 a1 a2 a3 a4 a5 h) := by
  intro n
  induction n with
  | zero => intro a0 a1 a2 a3 a4 a5 h; exact hp_fail
  | succ n ih =>
    intro a0 a1 a2 a3 a4 a5 h
    rw [m_E_turned_3]
    refine hp_iload (x0 := 5) d_E_turned_3 rfl ?_
    refine hp_aload_n (x0 := 1) d_E_turned_5 rfl rfl ?_
    refine hp_getR fl_E_214 d_E_turned_6 fun x1 => ?_
    refine hp_alen d_E_turned_9 fun x2 => ?_
    refine hp_icmp_ge (tgt := 57) d_E_turned_10 (by decide) ?_ ?_
    · refine hp_aload_n (x0 := 0) d_E_turned_57 rfl rfl ?_
      refine hp_getR fl_E_38 d_E_turned_58 fun x3 => ?_
      refine hp_aload_n (x0 := 1) d_E_turned_61 rfl rfl ?_
      refine hp_getI fl_E_93 d_E_turned_62 fun x4 => ?_
      refine hp_aload_n (x0 := 1) d_E_turned_65 rfl rfl ?_
      refine hp_getI fl_E_208 d_E_turned_66 fun x5 => ?_
      refine hp_aload_n (x0 := 0) d_E_turned_69 rfl rfl ?_
      refine hp_getR fl_E_27 d_E_turned_70 fun x6 => ?_
      refine hp_callI (hp_crV (ci := 1) (t_S_keepRow _ _ _ _ _ _) cw_E_222 rfl ⟨w_414, w_415⟩ (by decide) rfl rfl (Nat.le_of_ble_eq_true rfl) d_E_turned_73) fun q7 => ?_
      exact hp_iret d_E_turned_76 rfl
    · refine hp_aload_n (x0 := 1) d_E_turned_13 rfl rfl ?_
      refine hp_getR fl_E_214 d_E_turned_14 fun x8 => ?_
      refine hp_iload (x0 := 5) d_E_turned_17 rfl ?_
      refine hp_bald d_E_turned_19 fun x9 => ?_
      refine hp_istore (fun x10 => [(6, .int x10), (0, .ref a0), (1, .ref a1), (2, .int a2), (3, .int a3), (4, .int a4), (5, .int a5)]) d_E_turned_20 (by decide) (fun _ => rfl) fun x10 => ?_
      refine hp_aload_n (x0 := 1) d_E_turned_22 rfl rfl ?_
      refine hp_getR fl_E_27 d_E_turned_23 fun x11 => ?_
      refine hp_iload (x0 := 0) d_E_turned_26 rfl ?_
      refine hp_iload_n (x0 := 3) d_E_turned_28 rfl rfl ?_
      refine hp_icmp_lt (tgt := 46) d_E_turned_29 (by decide) ?_ ?_
      · refine hp_sub [1, 2, 3, 4, 5, 6, 0] rfl ?_
        exact j_E_turned_46 _ ih _ _ _ _ _ _ _ _ _
      · refine hp_iload (x0 := 0) d_E_turned_32 rfl ?_
        refine hp_iload_n (x0 := 4) d_E_turned_34 rfl rfl ?_
        refine hp_icmp_gt (tgt := 46) d_E_turned_35 (by decide) ?_ ?_
        · refine hp_sub [1, 2, 3, 4, 5, 6, 0] rfl ?_
          exact j_E_turned_46 _ ih _ _ _ _ _ _ _ _ _
        · refine hp_iload (x0 := 0) d_E_turned_38 rfl ?_
          refine hp_iload (x0 := 5) d_E_turned_40 rfl ?_
          refine hp_iadd d_E_turned_42 ?_
          refine hp_goto (tgt := 48) d_E_turned_43 (by decide) ?_
          refine hp_sub [1, 2, 3, 4, 5, 6] rfl ?_
          exact j_E_turned_48 _ ih _ _ _ _ _ _ _ _ _
def m_E_turned (G : Nat → Nat) (a0 : Nat) (a1 : Nat) (a2 : Int32) (a3 : Int32) (a4 : Int32) (h : hp_H) : Option (Int32 × hp_H) := hp_nm (0 : Int32) fun x1 => m_E_turned_3 G hp_fu a0 a1 a2 a3 a4 x1 h
set_option maxRecDepth 100000 in
set_option maxHeartbeats 4000000 in
theorem j_E_turned_0 {Z : hp_Z} (a0 : Nat) (a1 : Nat) (a2 : Int32) (a3 : Int32) (a4 : Int32) (h : hp_H) : hp_J Y_E_turned Z hp_rI h 0 [(0, .ref a0), (1, .ref a1), (2, .int a2), (3, .int a3), (4, .int a4)] [] (m_E_turned (hp_G Z)  a0 a1 a2 a3 a4 h) := by
  unfold m_E_turned
  refine hp_iconst (v := 0) d_E_turned_0 (by decide) ?_
  refine hp_istore (fun x1 => [(5, .int x1), (0, .ref a0), (1, .ref a1), (2, .int a2), (3, .int a3), (4, .int a4)]) d_E_turned_1 (by decide) (fun _ => rfl) fun x1 => ?_
  refine hp_sub [1, 2, 3, 4, 5, 0] rfl ?_
  exact j_E_turned_3  hp_fu _ _ _ _ _ _ _
theorem t_E_turned (l : Launch) (E : hp_E) (a0 : Nat) (a1 : Nat) (a2 : Int32) (a3 : Int32) (a4 : Int32) : hp_M l E y_E_turned Y_E_turned hp_rI [.ref a0, .ref a1, .int a2, .int a3, .int a4] (m_E_turned E.2.2.1 a0 a1 a2 a3 a4) := hp_M.of (plainFor_of_name (by decide)) ⟨rfl, rfl⟩ (Nat.le_of_ble_eq_true rfl) (fun Z h hE => by subst hE; exact j_E_turned_0 _ _ _ _ _ h)
-- E_ofText
theorem d_E_ofText_0 : decode prog_2_method_26_code 0 = .ok (.aload_n 0, 1) := by decide +kernel
theorem d_E_ofText_1 : decode prog_2_method_26_code 1 = .ok (.iconst 0, 1) := by decide +kernel
theorem d_E_ofText_2 : decode prog_2_method_26_code 2 = .ok (.invokevirtual 90, 3) := by decide +kernel
theorem d_E_ofText_5 : decode prog_2_method_26_code 5 = .ok (.astore_n 2, 1) := by decide +kernel
theorem d_E_ofText_6 : decode prog_2_method_26_code 6 = .ok (.aload_n 2, 1) := by decide +kernel
theorem d_E_ofText_7 : decode prog_2_method_26_code 7 = .ok (.invokevirtual 211, 3) := by decide +kernel
theorem d_E_ofText_10 : decode prog_2_method_26_code 10 = .ok (.ifCond .ne 6, 3) := by decide +kernel
theorem d_E_ofText_13 : decode prog_2_method_26_code 13 = .ok (.bipush (-4), 2) := by decide +kernel
theorem d_E_ofText_15 : decode prog_2_method_26_code 15 = .ok (.ireturn, 1) := by decide +kernel
theorem d_E_ofText_16 : decode prog_2_method_26_code 16 = .ok (.aload_n 0, 1) := by decide +kernel
theorem d_E_ofText_17 : decode prog_2_method_26_code 17 = .ok (.getfield 27, 3) := by decide +kernel
theorem d_E_ofText_20 : decode prog_2_method_26_code 20 = .ok (.invokevirtual 205, 3) := by decide +kernel
theorem d_E_ofText_23 : decode prog_2_method_26_code 23 = .ok (.iload_n 1, 1) := by decide +kernel
theorem d_E_ofText_24 : decode prog_2_method_26_code 24 = .ok (.tableswitch 72 25 27 #[28, 44, 60], 28) := by decide +kernel
theorem d_E_ofText_52 : decode prog_2_method_26_code 52 = .ok (.aload_n 0, 1) := by decide +kernel
theorem d_E_ofText_53 : decode prog_2_method_26_code 53 = .ok (.getfield 38, 3) := by decide +kernel
theorem d_E_ofText_56 : decode prog_2_method_26_code 56 = .ok (.iconst 3, 1) := by decide +kernel
theorem d_E_ofText_57 : decode prog_2_method_26_code 57 = .ok (.aload_n 2, 1) := by decide +kernel
theorem d_E_ofText_58 : decode prog_2_method_26_code 58 = .ok (.getfield 214, 3) := by decide +kernel
theorem d_E_ofText_61 : decode prog_2_method_26_code 61 = .ok (.arraylength, 1) := by decide +kernel
theorem d_E_ofText_62 : decode prog_2_method_26_code 62 = .ok (.i2l, 1) := by decide +kernel
theorem d_E_ofText_63 : decode prog_2_method_26_code 63 = .ok (.iconst 0, 1) := by decide +kernel
theorem d_E_ofText_64 : decode prog_2_method_26_code 64 = .ok (.invokevirtual 195, 3) := by decide +kernel
theorem d_E_ofText_67 : decode prog_2_method_26_code 67 = .ok (.ireturn, 1) := by decide +kernel
theorem d_E_ofText_68 : decode prog_2_method_26_code 68 = .ok (.aload_n 0, 1) := by decide +kernel
theorem d_E_ofText_69 : decode prog_2_method_26_code 69 = .ok (.aload_n 2, 1) := by decide +kernel
theorem d_E_ofText_70 : decode prog_2_method_26_code 70 = .ok (.aload_n 0, 1) := by decide +kernel
theorem d_E_ofText_71 : decode prog_2_method_26_code 71 = .ok (.iconst 1, 1) := by decide +kernel
theorem d_E_ofText_72 : decode prog_2_method_26_code 72 = .ok (.invokevirtual 90, 3) := by decide +kernel
theorem d_E_ofText_75 : decode prog_2_method_26_code 75 = .ok (.aload_n 0, 1) := by decide +kernel
theorem d_E_ofText_76 : decode prog_2_method_26_code 76 = .ok (.iconst 2, 1) := by decide +kernel
theorem d_E_ofText_77 : decode prog_2_method_26_code 77 = .ok (.invokevirtual 90, 3) := by decide +kernel
theorem d_E_ofText_80 : decode prog_2_method_26_code 80 = .ok (.invokevirtual 226, 3) := by decide +kernel
theorem d_E_ofText_83 : decode prog_2_method_26_code 83 = .ok (.ireturn, 1) := by decide +kernel
theorem d_E_ofText_84 : decode prog_2_method_26_code 84 = .ok (.aload_n 0, 1) := by decide +kernel
theorem d_E_ofText_85 : decode prog_2_method_26_code 85 = .ok (.aload_n 2, 1) := by decide +kernel
theorem d_E_ofText_86 : decode prog_2_method_26_code 86 = .ok (.bipush 97, 2) := by decide +kernel
theorem d_E_ofText_88 : decode prog_2_method_26_code 88 = .ok (.bipush 122, 2) := by decide +kernel
theorem d_E_ofText_90 : decode prog_2_method_26_code 90 = .ok (.bipush (-32), 2) := by decide +kernel
theorem d_E_ofText_92 : decode prog_2_method_26_code 92 = .ok (.invokevirtual 230, 3) := by decide +kernel
theorem d_E_ofText_95 : decode prog_2_method_26_code 95 = .ok (.ireturn, 1) := by decide +kernel
theorem d_E_ofText_96 : decode prog_2_method_26_code 96 = .ok (.aload_n 0, 1) := by decide +kernel
theorem d_E_ofText_97 : decode prog_2_method_26_code 97 = .ok (.aload_n 2, 1) := by decide +kernel
theorem d_E_ofText_98 : decode prog_2_method_26_code 98 = .ok (.bipush 65, 2) := by decide +kernel
theorem d_E_ofText_100 : decode prog_2_method_26_code 100 = .ok (.bipush 90, 2) := by decide +kernel
theorem d_E_ofText_102 : decode prog_2_method_26_code 102 = .ok (.bipush 32, 2) := by decide +kernel
theorem d_E_ofText_104 : decode prog_2_method_26_code 104 = .ok (.invokevirtual 230, 3) := by decide +kernel
theorem d_E_ofText_107 : decode prog_2_method_26_code 107 = .ok (.ireturn, 1) := by decide +kernel
def m_E_ofText (G : Nat → Nat) (a0 : Nat) (a1 : Int32) (h : hp_H) : Option (Int32 × hp_H) := (hp_vck h a0 5 (m_E_taken G a0 (0 : Int32) h)).bind fun q1 => hp_nm q1.1 fun x2 => (hp_vck q1.2 x2 3 (m_V_isPlainOrTagged G x2 q1.2)).bind fun q3 => if q3.1 = 0 then (some ((-4 : Int32), q3.2)) else ((hp_gR q3.2 a0 5 5).bind fun x4 => (hp_vck q3.2 x4 4 (m_R_clear G x4 q3.2)).bind fun q5 => if a1 = 25 then ((hp_gR q5.2 a0 5 0).bind fun x6 => (hp_gR q5.2 x2 3 4).bind fun x7 => (hp_len q5.2 x7).bind fun x8 => (hp_vck q5.2 x6 1 (m_S_keepNumber G x6 (3 : Int32) x8.toInt64 (0 : Int32) q5.2)).bind fun q9 => some (q9.1, q9.2)) else (if a1 = 26 then ((hp_vck q5.2 a0 5 (m_E_taken G a0 (1 : Int32) q5.2)).bind fun q10 => (hp_vck q10.2 a0 5 (m_E_taken G a0 (2 : Int32) q10.2)).bind fun q11 => (hp_vck q11.2 a0 5 (m_E_part G a0 x2 q10.1 q11.1 q11.2)).bind fun q12 => some (q12.1, q12.2)) else (if a1 = 27 then ((hp_vck q5.2 a0 5 (m_E_turned G a0 x2 (97 : Int32) (122 : Int32) (-32 : Int32) q5.2)).bind fun q13 => some (q13.1, q13.2)) else ((hp_vck q5.2 a0 5 (m_E_turned G a0 x2 (65 : Int32) (90 : Int32) (32 : Int32) q5.2)).bind fun q14 => some (q14.1, q14.2)))))
set_option maxRecDepth 100000 in
set_option maxHeartbeats 4000000 in
theorem j_E_ofText_0 {Z : hp_Z} (a0 : Nat) (a1 : Int32) (h : hp_H) : hp_J Y_E_ofText Z hp_rI h 0 [(0, .ref a0), (1, .int a1)] [] (m_E_ofText (hp_G Z)  a0 a1 h) := by
  unfold m_E_ofText
  refine hp_aload_n (x0 := 0) d_E_ofText_0 rfl rfl ?_
  refine hp_iconst (v := 0) d_E_ofText_1 (by decide) ?_
  refine hp_callR (hp_crV (ci := 5) (t_E_taken _ _ _ _) cw_E_90 rfl ⟨w_550, ws_9⟩ (by decide) rfl rfl (Nat.le_of_ble_eq_true rfl) d_E_ofText_2) fun q1 => ?_
  refine hp_astore_n (fun x2 => [(2, .ref x2), (0, .ref a0), (1, .int a1)]) d_E_ofText_5 rfl (by decide) (fun _ => rfl) fun x2 => ?_
  refine hp_aload_n (x0 := 0) d_E_ofText_6 rfl rfl ?_
  refine hp_callI (hp_crV (ci := 3) (t_V_isPlainOrTagged _ _ _) cw_E_211 rfl ⟨w_651, w_652⟩ (by decide) rfl rfl (Nat.le_of_ble_eq_true rfl) d_E_ofText_7) fun q3 => ?_
  refine hp_if_ne (tgt := 16) d_E_ofText_10 (by decide) ?_ ?_
  · refine hp_bipush (v := -4) d_E_ofText_13 (by decide) ?_
    exact hp_iret d_E_ofText_15 rfl
  · refine hp_aload_n (x0 := 1) d_E_ofText_16 rfl rfl ?_
    refine hp_getR fl_E_27 d_E_ofText_17 fun x4 => ?_
    refine hp_callU (hp_crV (ci := 4) (t_R_clear _ _ _) cw_E_205 rfl ⟨w_418, w_419⟩ (by decide) rfl rfl (Nat.le_of_ble_eq_true rfl) d_E_ofText_20) fun q5 => ?_
    refine hp_iload_n (x0 := 2) d_E_ofText_23 rfl rfl ?_
    refine hp_ite (fun c0 => ?_) (fun c0 => ?_)
    · refine hp_tabI (tgt := 52) (kv := 25) d_E_ofText_24 c0 (by decide) (by decide) rfl (by decide) ?_
      refine hp_aload_n (x0 := 1) d_E_ofText_52 rfl rfl ?_
      refine hp_getR fl_E_38 d_E_ofText_53 fun x6 => ?_
      refine hp_iconst (v := 3) d_E_ofText_56 (by decide) ?_
      refine hp_aload_n (x0 := 0) d_E_ofText_57 rfl rfl ?_
      refine hp_getR fl_E_214 d_E_ofText_58 fun x7 => ?_
      refine hp_alen d_E_ofText_61 fun x8 => ?_
      refine hp_i2l d_E_ofText_62 ?_
      refine hp_iconst (v := 0) d_E_ofText_63 (by decide) ?_
      refine hp_callI (hp_crV (ci := 1) (t_S_keepNumber _ _ _ _ _ _) cw_E_195 rfl ⟨w_282, w_283⟩ (by decide) rfl rfl (Nat.le_of_ble_eq_true rfl) d_E_ofText_64) fun q9 => ?_
      exact hp_iret d_E_ofText_67 rfl
    · skip
      refine hp_ite (fun c1 => ?_) (fun c1 => ?_)
      · refine hp_tabI (tgt := 68) (kv := 26) d_E_ofText_24 c1 (by decide) (by decide) rfl (by decide) ?_
        refine hp_aload_n (x0 := 1) d_E_ofText_68 rfl rfl ?_
        refine hp_aload_n (x0 := 0) d_E_ofText_69 rfl rfl ?_
        refine hp_aload_n (x0 := 1) d_E_ofText_70 rfl rfl ?_
        refine hp_iconst (v := 1) d_E_ofText_71 (by decide) ?_
        refine hp_callR (hp_crV (ci := 5) (t_E_taken _ _ _ _) cw_E_90 rfl ⟨w_550, ws_9⟩ (by decide) rfl rfl (Nat.le_of_ble_eq_true rfl) d_E_ofText_72) fun q10 => ?_
        refine hp_aload_n (x0 := 1) d_E_ofText_75 rfl rfl ?_
        refine hp_iconst (v := 2) d_E_ofText_76 (by decide) ?_
        refine hp_callR (hp_crV (ci := 5) (t_E_taken _ _ _ _) cw_E_90 rfl ⟨w_550, ws_9⟩ (by decide) rfl rfl (Nat.le_of_ble_eq_true rfl) d_E_ofText_77) fun q11 => ?_
        refine hp_callI (hp_crV (ci := 5) (t_E_part _ _ _ _ _ _) cw_E_226 rfl ⟨w_667, ws_24⟩ (by decide) rfl rfl (Nat.le_of_ble_eq_true rfl) d_E_ofText_80) fun q12 => ?_
        exact hp_iret d_E_ofText_83 rfl
      · skip
        refine hp_ite (fun c2 => ?_) (fun c2 => ?_)
        · refine hp_tabI (tgt := 84) (kv := 27) d_E_ofText_24 c2 (by decide) (by decide) rfl (by decide) ?_
          refine hp_aload_n (x0 := 1) d_E_ofText_84 rfl rfl ?_
          refine hp_aload_n (x0 := 0) d_E_ofText_85 rfl rfl ?_
          refine hp_bipush (v := 97) d_E_ofText_86 (by decide) ?_
          refine hp_bipush (v := 122) d_E_ofText_88 (by decide) ?_
          refine hp_bipush (v := -32) d_E_ofText_90 (by decide) ?_
          refine hp_callI (hp_crV (ci := 5) (t_E_turned _ _ _ _ _ _ _) cw_E_230 rfl ⟨w_677, ws_25⟩ (by decide) rfl rfl (Nat.le_of_ble_eq_true rfl) d_E_ofText_92) fun q13 => ?_
          exact hp_iret d_E_ofText_95 rfl
        · skip
          refine hp_tabD (tgt := 96) d_E_ofText_24 (by have e0 := lv_neT c0 (a := 25) (by decide); have e1 := lv_neT c1 (a := 26) (by decide); have e2 := lv_neT c2 (a := 27) (by decide); omega) (by decide) ?_
          refine hp_aload_n (x0 := 1) d_E_ofText_96 rfl rfl ?_
          refine hp_aload_n (x0 := 0) d_E_ofText_97 rfl rfl ?_
          refine hp_bipush (v := 65) d_E_ofText_98 (by decide) ?_
          refine hp_bipush (v := 90) d_E_ofText_100 (by decide) ?_
          refine hp_bipush (v := 32) d_E_ofText_102 (by decide) ?_
          refine hp_callI (hp_crV (ci := 5) (t_E_turned _ _ _ _ _ _ _) cw_E_230 rfl ⟨w_677, ws_25⟩ (by decide) rfl rfl (Nat.le_of_ble_eq_true rfl) d_E_ofText_104) fun q14 => ?_
          exact hp_iret d_E_ofText_107 rfl
theorem t_E_ofText (l : Launch) (E : hp_E) (a0 : Nat) (a1 : Int32) : hp_M l E y_E_ofText Y_E_ofText hp_rI [.ref a0, .int a1] (m_E_ofText E.2.2.1 a0 a1) := hp_M.of (plainFor_of_name (by decide)) ⟨rfl, rfl⟩ (Nat.le_of_ble_eq_true rfl) (fun Z h hE => by subst hE; exact j_E_ofText_0 _ _ h)
-- K_settle
theorem d_K_settle_0 : decode prog_4_method_6_code 0 = .ok (.bipush 9, 2) := by decide +kernel
theorem d_K_settle_2 : decode prog_4_method_6_code 2 = .ok (.istore 6, 2) := by decide +kernel
theorem d_K_settle_4 : decode prog_4_method_6_code 4 = .ok (.lload 4, 2) := by decide +kernel
theorem d_K_settle_6 : decode prog_4_method_6_code 6 = .ok (.lstore 7, 2) := by decide +kernel
theorem d_K_settle_8 : decode prog_4_method_6_code 8 = .ok (.iload 6, 2) := by decide +kernel
theorem d_K_settle_10 : decode prog_4_method_6_code 10 = .ok (.ifCond .le 28, 3) := by decide +kernel
theorem d_K_settle_13 : decode prog_4_method_6_code 13 = .ok (.lload 7, 2) := by decide +kernel
theorem d_K_settle_15 : decode prog_4_method_6_code 15 = .ok (.ldc2_w 54, 3) := by decide +kernel
theorem d_K_settle_18 : decode prog_4_method_6_code 18 = .ok (.lrem, 1) := by decide +kernel
theorem d_K_settle_19 : decode prog_4_method_6_code 19 = .ok (.lconst 0, 1) := by decide +kernel
theorem d_K_settle_20 : decode prog_4_method_6_code 20 = .ok (.lcmp, 1) := by decide +kernel
theorem d_K_settle_21 : decode prog_4_method_6_code 21 = .ok (.ifCond .ne 17, 3) := by decide +kernel
theorem d_K_settle_24 : decode prog_4_method_6_code 24 = .ok (.lload 7, 2) := by decide +kernel
theorem d_K_settle_26 : decode prog_4_method_6_code 26 = .ok (.ldc2_w 54, 3) := by decide +kernel
theorem d_K_settle_29 : decode prog_4_method_6_code 29 = .ok (.ldiv, 1) := by decide +kernel
theorem d_K_settle_30 : decode prog_4_method_6_code 30 = .ok (.lstore 7, 2) := by decide +kernel
theorem d_K_settle_32 : decode prog_4_method_6_code 32 = .ok (.iinc 6 (-1), 3) := by decide +kernel
theorem d_K_settle_35 : decode prog_4_method_6_code 35 = .ok (.goto (-27), 3) := by decide +kernel
theorem d_K_settle_38 : decode prog_4_method_6_code 38 = .ok (.lload_n 2, 1) := by decide +kernel
theorem d_K_settle_39 : decode prog_4_method_6_code 39 = .ok (.ldc2_w 56, 3) := by decide +kernel
theorem d_K_settle_42 : decode prog_4_method_6_code 42 = .ok (.lload 7, 2) := by decide +kernel
theorem d_K_settle_44 : decode prog_4_method_6_code 44 = .ok (.lsub, 1) := by decide +kernel
theorem d_K_settle_45 : decode prog_4_method_6_code 45 = .ok (.iload 6, 2) := by decide +kernel
theorem d_K_settle_47 : decode prog_4_method_6_code 47 = .ok (.invokestatic 26, 3) := by decide +kernel
theorem d_K_settle_50 : decode prog_4_method_6_code 50 = .ok (.ldiv, 1) := by decide +kernel
theorem d_K_settle_51 : decode prog_4_method_6_code 51 = .ok (.lcmp, 1) := by decide +kernel
theorem d_K_settle_52 : decode prog_4_method_6_code 52 = .ok (.ifCond .le 9, 3) := by decide +kernel
theorem d_K_settle_55 : decode prog_4_method_6_code 55 = .ok (.aload_n 0, 1) := by decide +kernel
theorem d_K_settle_56 : decode prog_4_method_6_code 56 = .ok (.iconst 0, 1) := by decide +kernel
theorem d_K_settle_57 : decode prog_4_method_6_code 57 = .ok (.putfield 9, 3) := by decide +kernel
theorem d_K_settle_60 : decode prog_4_method_6_code 60 = .ok (.return_, 1) := by decide +kernel
theorem d_K_settle_61 : decode prog_4_method_6_code 61 = .ok (.lload_n 2, 1) := by decide +kernel
theorem d_K_settle_62 : decode prog_4_method_6_code 62 = .ok (.iload 6, 2) := by decide +kernel
theorem d_K_settle_64 : decode prog_4_method_6_code 64 = .ok (.invokestatic 26, 3) := by decide +kernel
theorem d_K_settle_67 : decode prog_4_method_6_code 67 = .ok (.lmul, 1) := by decide +kernel
theorem d_K_settle_68 : decode prog_4_method_6_code 68 = .ok (.lload 7, 2) := by decide +kernel
theorem d_K_settle_70 : decode prog_4_method_6_code 70 = .ok (.ladd, 1) := by decide +kernel
theorem d_K_settle_71 : decode prog_4_method_6_code 71 = .ok (.lstore 9, 2) := by decide +kernel
theorem d_K_settle_73 : decode prog_4_method_6_code 73 = .ok (.aload_n 0, 1) := by decide +kernel
theorem d_K_settle_74 : decode prog_4_method_6_code 74 = .ok (.iload_n 1, 1) := by decide +kernel
theorem d_K_settle_75 : decode prog_4_method_6_code 75 = .ok (.ifCond .eq 9, 3) := by decide +kernel
theorem d_K_settle_78 : decode prog_4_method_6_code 78 = .ok (.lload 9, 2) := by decide +kernel
theorem d_K_settle_80 : decode prog_4_method_6_code 80 = .ok (.lneg, 1) := by decide +kernel
theorem d_K_settle_81 : decode prog_4_method_6_code 81 = .ok (.goto 5, 3) := by decide +kernel
theorem d_K_settle_84 : decode prog_4_method_6_code 84 = .ok (.lload 9, 2) := by decide +kernel
theorem d_K_settle_86 : decode prog_4_method_6_code 86 = .ok (.putfield 18, 3) := by decide +kernel
theorem d_K_settle_89 : decode prog_4_method_6_code 89 = .ok (.aload_n 0, 1) := by decide +kernel
theorem d_K_settle_90 : decode prog_4_method_6_code 90 = .ok (.iload 6, 2) := by decide +kernel
theorem d_K_settle_92 : decode prog_4_method_6_code 92 = .ok (.putfield 22, 3) := by decide +kernel
theorem d_K_settle_95 : decode prog_4_method_6_code 95 = .ok (.return_, 1) := by decide +kernel
def m_K_settle_86 (G : Nat → Nat) (a0 : Nat) (a6 : Int32) (s0 : Int64) (s1 : Nat) (h : hp_H) : Option (Unit × hp_H) := (hp_p h s1 6 2 (.long s0)).bind fun h1 => (hp_p h1 a0 6 3 (.int a6)).bind fun h2 => some ((), h2)
set_option maxRecDepth 100000 in
set_option maxHeartbeats 4000000 in
theorem j_K_settle_86 {Z : hp_Z} (a0 : Nat) (a6 : Int32) (s0 : Int64) (s1 : Nat) (h : hp_H) : hp_J Y_K_settle Z hp_rV h 86 [(0, .ref a0), (6, .int a6)] [.long s0, .ref s1] (m_K_settle_86 (hp_G Z)  a0 a6 s0 s1 h) := by
  unfold m_K_settle_86
  refine hp_put fl_K_18 (fun q => by cases q) rfl rfl d_K_settle_86 fun h1 => ?_
  refine hp_aload_n (x0 := 0) d_K_settle_89 rfl rfl ?_
  refine hp_iload (x0 := 1) d_K_settle_90 rfl ?_
  refine hp_put fl_K_22 (fun q => by cases q) rfl rfl d_K_settle_92 fun h2 => ?_
  exact hp_vret d_K_settle_95 rfl
def m_K_settle_38 (G : Nat → Nat) (a0 : Nat) (a1 : Int32) (a2 : Int64) (a6 : Int32) (a7 : Int64) (h : hp_H) : Option (Unit × hp_H) := (m_D_power G a6 h).bind fun q1 => (hp_dL ((999999999999999999 : Int64) - a7) q1.1).bind fun x2 => if (lg_cmp a2 x2) ≤ 0 then ((m_D_power G a6 q1.2).bind fun q3 => hp_nm ((a2 * q3.1) + a7) fun x4 => if a1 = 0 then (m_K_settle_86 G a0 a6 x4 a0 q3.2) else (m_K_settle_86 G a0 a6 (-x4) a0 q3.2)) else ((hp_pZ q1.2 a0 6 0 (0 : Int32)).bind fun h5 => some ((), h5))
set_option maxRecDepth 100000 in
set_option maxHeartbeats 4000000 in
theorem j_K_settle_38 {Z : hp_Z} (a0 : Nat) (a1 : Int32) (a2 : Int64) (a6 : Int32) (a7 : Int64) (h : hp_H) : hp_J Y_K_settle Z hp_rV h 38 [(0, .ref a0), (1, .int a1), (2, .long a2), (6, .int a6), (7, .long a7)] [] (m_K_settle_38 (hp_G Z)  a0 a1 a2 a6 a7 h) := by
  unfold m_K_settle_38
  refine hp_lload_n (x0 := 2) d_K_settle_38 rfl rfl ?_
  refine hp_ldc2 (v := 999999999999999999) d_K_settle_39 w_616 ?_
  refine hp_lload (x0 := 4) d_K_settle_42 rfl ?_
  refine hp_lsub d_K_settle_44 ?_
  refine hp_iload (x0 := 3) d_K_settle_45 rfl ?_
  refine hp_callL (hp_crSN (t_D_power _ _ _) cw_K_26 w_462 (by decide) rfl rfl (Nat.le_of_ble_eq_true rfl) d_K_settle_47) fun q1 => ?_
  refine hp_ldiv d_K_settle_50 fun x2 => ?_
  refine hp_lcmp d_K_settle_51 ?_
  refine hp_if_le (tgt := 61) d_K_settle_52 (by decide) ?_ ?_
  · refine hp_lload_n (x0 := 2) d_K_settle_61 rfl rfl ?_
    refine hp_iload (x0 := 3) d_K_settle_62 rfl ?_
    refine hp_callL (hp_crSN (t_D_power _ _ _) cw_K_26 w_462 (by decide) rfl rfl (Nat.le_of_ble_eq_true rfl) d_K_settle_64) fun q3 => ?_
    refine hp_lmul d_K_settle_67 ?_
    refine hp_lload (x0 := 4) d_K_settle_68 rfl ?_
    refine hp_ladd d_K_settle_70 ?_
    refine hp_lstore (fun x4 => [(9, .long x4), (0, .ref a0), (1, .int a1), (2, .long a2), (6, .int a6), (7, .long a7)]) d_K_settle_71 (by decide) (fun _ => rfl) fun x4 => ?_
    refine hp_aload_n (x0 := 1) d_K_settle_73 rfl rfl ?_
    refine hp_iload_n (x0 := 2) d_K_settle_74 rfl rfl ?_
    refine hp_if_eq (tgt := 84) d_K_settle_75 (by decide) ?_ ?_
    · refine hp_lload (x0 := 0) d_K_settle_84 rfl ?_
      refine hp_sub [1, 4] rfl ?_
      exact j_K_settle_86  _ _ _ _ _
    · refine hp_lload (x0 := 0) d_K_settle_78 rfl ?_
      refine hp_lneg d_K_settle_80 ?_
      refine hp_goto (tgt := 86) d_K_settle_81 (by decide) ?_
      refine hp_sub [1, 4] rfl ?_
      exact j_K_settle_86  _ _ _ _ _
  · refine hp_aload_n (x0 := 0) d_K_settle_55 rfl rfl ?_
    refine hp_iconst (v := 0) d_K_settle_56 (by decide) ?_
    refine hp_putZ fl_K_9 (fun q => by cases q) d_K_settle_57 fun h5 => ?_
    exact hp_vret d_K_settle_60 rfl
def m_K_settle_8 (G : Nat → Nat) : Nat → Nat → Int32 → Int64 → Int32 → Int64 → hp_H → Option (Unit × hp_H)
  | 0, _, _, _, _, _, _ => none
  | n + 1, a0, a1, a2, a6, a7, h => if a6 ≤ 0 then (m_K_settle_38 G a0 a1 a2 a6 a7 h) else ((hp_mL a7 (10 : Int64)).bind fun x1 => if (lg_cmp x1 (0 : Int64)) = 0 then ((hp_dL a7 (10 : Int64)).bind fun x2 => hp_nm x2 fun x3 => hp_nm (a6 + (-1)) fun x4 => (m_K_settle_8 G  n) a0 a1 a2 x4 x3 h) else (m_K_settle_38 G a0 a1 a2 a6 a7 h))
set_option maxRecDepth 100000 in
set_option maxHeartbeats 4000000 in
theorem j_K_settle_8 {Z : hp_Z} : ∀ (n : Nat) (a0 : Nat) (a1 : Int32) (a2 : Int64) (a6 : Int32) (a7 : Int64) (h : hp_H), hp_J Y_K_settle Z hp_rV h 8 [(0, .ref a0), (1, .int a1), (2, .long a2), (6, .int a6), (7, .long a7)] [] (m_K_settle_8 (hp_G Z)  n a0 a1 a2 a6 a7 h) := by
  intro n
  induction n with
  | zero => intro a0 a1 a2 a6 a7 h; exact hp_fail
  | succ n ih =>
    intro a0 a1 a2 a6 a7 h
    rw [m_K_settle_8]
    refine hp_iload (x0 := 3) d_K_settle_8 rfl ?_
    refine hp_if_le (tgt := 38) d_K_settle_10 (by decide) ?_ ?_
    · exact j_K_settle_38  _ _ _ _ _ _
    · refine hp_lload (x0 := 4) d_K_settle_13 rfl ?_
      refine hp_ldc2 (v := 10) d_K_settle_15 w_615 ?_
      refine hp_lrem d_K_settle_18 fun x1 => ?_
      refine hp_lconst (v := 0) d_K_settle_19 (by decide) ?_
      refine hp_lcmp d_K_settle_20 ?_
      refine hp_if_ne (tgt := 38) d_K_settle_21 (by decide) ?_ ?_
      · refine hp_lload (x0 := 4) d_K_settle_24 rfl ?_
        refine hp_ldc2 (v := 10) d_K_settle_26 w_615 ?_
        refine hp_ldiv d_K_settle_29 fun x2 => ?_
        refine hp_lstore (fun x3 => [(7, .long x3), (0, .ref a0), (1, .int a1), (2, .long a2), (6, .int a6)]) d_K_settle_30 (by decide) (fun _ => rfl) fun x3 => ?_
        refine hp_iinc (x0 := 4) (d := -1) (fun x4 => [(6, .int x4), (7, .long x3), (0, .ref a0), (1, .int a1), (2, .long a2)]) d_K_settle_32 rfl (by decide) (by decide) (fun _ => rfl) fun x4 => ?_
        refine hp_goto (tgt := 8) d_K_settle_35 (by decide) ?_
        refine hp_sub [2, 3, 4, 0, 1] rfl ?_
        exact ih _ _ _ _ _ _
      · exact j_K_settle_38  _ _ _ _ _ _
def m_K_settle (G : Nat → Nat) (a0 : Nat) (a1 : Int32) (a2 : Int64) (a4 : Int64) (h : hp_H) : Option (Unit × hp_H) := hp_nm (9 : Int32) fun x1 => hp_nm a4 fun x2 => m_K_settle_8 G hp_fu a0 a1 a2 x1 x2 h
set_option maxRecDepth 100000 in
set_option maxHeartbeats 4000000 in
theorem j_K_settle_0 {Z : hp_Z} (a0 : Nat) (a1 : Int32) (a2 : Int64) (a4 : Int64) (h : hp_H) : hp_J Y_K_settle Z hp_rV h 0 [(0, .ref a0), (1, .int a1), (2, .long a2), (4, .long a4)] [] (m_K_settle (hp_G Z)  a0 a1 a2 a4 h) := by
  unfold m_K_settle
  refine hp_bipush (v := 9) d_K_settle_0 (by decide) ?_
  refine hp_istore (fun x1 => [(6, .int x1), (0, .ref a0), (1, .int a1), (2, .long a2), (4, .long a4)]) d_K_settle_2 (by decide) (fun _ => rfl) fun x1 => ?_
  refine hp_lload (x0 := 4) d_K_settle_4 rfl ?_
  refine hp_lstore (fun x2 => [(7, .long x2), (6, .int x1), (0, .ref a0), (1, .int a1), (2, .long a2), (4, .long a4)]) d_K_settle_6 (by decide) (fun _ => rfl) fun x2 => ?_
  refine hp_sub [2, 3, 4, 1, 0] rfl ?_
  exact j_K_settle_8  hp_fu _ _ _ _ _ _
theorem t_K_settle (l : Launch) (E : hp_E) (a0 : Nat) (a1 : Int32) (a2 : Int64) (a4 : Int64) : hp_M l E y_K_settle Y_K_settle hp_rV [.ref a0, .int a1, .long a2, .long a4] (m_K_settle E.2.2.1 a0 a1 a2 a4) := hp_M.of (plainFor_of_name (by decide)) ⟨rfl, rfl⟩ (Nat.le_of_ble_eq_true rfl) (fun Z h hE => by subst hE; exact j_K_settle_0 _ _ _ _ h)
-- K_over
theorem d_K_over_0 : decode prog_4_method_5_code 0 = .ok (.aload_n 0, 1) := by decide +kernel
theorem d_K_over_1 : decode prog_4_method_5_code 1 = .ok (.iconst 0, 1) := by decide +kernel
theorem d_K_over_2 : decode prog_4_method_5_code 2 = .ok (.putfield 15, 3) := by decide +kernel
theorem d_K_over_5 : decode prog_4_method_5_code 5 = .ok (.lload_n 1, 1) := by decide +kernel
theorem d_K_over_6 : decode prog_4_method_5_code 6 = .ok (.lconst 0, 1) := by decide +kernel
theorem d_K_over_7 : decode prog_4_method_5_code 7 = .ok (.lcmp, 1) := by decide +kernel
theorem d_K_over_8 : decode prog_4_method_5_code 8 = .ok (.ifCond .ne 9, 3) := by decide +kernel
theorem d_K_over_11 : decode prog_4_method_5_code 11 = .ok (.aload_n 0, 1) := by decide +kernel
theorem d_K_over_12 : decode prog_4_method_5_code 12 = .ok (.iconst 0, 1) := by decide +kernel
theorem d_K_over_13 : decode prog_4_method_5_code 13 = .ok (.putfield 9, 3) := by decide +kernel
theorem d_K_over_16 : decode prog_4_method_5_code 16 = .ok (.return_, 1) := by decide +kernel
theorem d_K_over_17 : decode prog_4_method_5_code 17 = .ok (.lload_n 1, 1) := by decide +kernel
theorem d_K_over_18 : decode prog_4_method_5_code 18 = .ok (.invokestatic 46, 3) := by decide +kernel
theorem d_K_over_21 : decode prog_4_method_5_code 21 = .ok (.lstore 4, 2) := by decide +kernel
theorem d_K_over_23 : decode prog_4_method_5_code 23 = .ok (.aload_n 0, 1) := by decide +kernel
theorem d_K_over_24 : decode prog_4_method_5_code 24 = .ok (.getfield 18, 3) := by decide +kernel
theorem d_K_over_27 : decode prog_4_method_5_code 27 = .ok (.invokestatic 46, 3) := by decide +kernel
theorem d_K_over_30 : decode prog_4_method_5_code 30 = .ok (.lload 4, 2) := by decide +kernel
theorem d_K_over_32 : decode prog_4_method_5_code 32 = .ok (.lrem, 1) := by decide +kernel
theorem d_K_over_33 : decode prog_4_method_5_code 33 = .ok (.lstore 6, 2) := by decide +kernel
theorem d_K_over_35 : decode prog_4_method_5_code 35 = .ok (.aload_n 0, 1) := by decide +kernel
theorem d_K_over_36 : decode prog_4_method_5_code 36 = .ok (.getfield 18, 3) := by decide +kernel
theorem d_K_over_39 : decode prog_4_method_5_code 39 = .ok (.invokestatic 46, 3) := by decide +kernel
theorem d_K_over_42 : decode prog_4_method_5_code 42 = .ok (.lload 4, 2) := by decide +kernel
theorem d_K_over_44 : decode prog_4_method_5_code 44 = .ok (.ldiv, 1) := by decide +kernel
theorem d_K_over_45 : decode prog_4_method_5_code 45 = .ok (.lstore 8, 2) := by decide +kernel
theorem d_K_over_47 : decode prog_4_method_5_code 47 = .ok (.lload 8, 2) := by decide +kernel
theorem d_K_over_49 : decode prog_4_method_5_code 49 = .ok (.ldc2_w 40, 3) := by decide +kernel
theorem d_K_over_52 : decode prog_4_method_5_code 52 = .ok (.ldiv, 1) := by decide +kernel
theorem d_K_over_53 : decode prog_4_method_5_code 53 = .ok (.lstore 10, 2) := by decide +kernel
theorem d_K_over_55 : decode prog_4_method_5_code 55 = .ok (.lload 8, 2) := by decide +kernel
theorem d_K_over_57 : decode prog_4_method_5_code 57 = .ok (.ldc2_w 40, 3) := by decide +kernel
theorem d_K_over_60 : decode prog_4_method_5_code 60 = .ok (.lrem, 1) := by decide +kernel
theorem d_K_over_61 : decode prog_4_method_5_code 61 = .ok (.lstore 12, 2) := by decide +kernel
theorem d_K_over_63 : decode prog_4_method_5_code 63 = .ok (.bipush 9, 2) := by decide +kernel
theorem d_K_over_65 : decode prog_4_method_5_code 65 = .ok (.iload_n 3, 1) := by decide +kernel
theorem d_K_over_66 : decode prog_4_method_5_code 66 = .ok (.iadd, 1) := by decide +kernel
theorem d_K_over_67 : decode prog_4_method_5_code 67 = .ok (.aload_n 0, 1) := by decide +kernel
theorem d_K_over_68 : decode prog_4_method_5_code 68 = .ok (.getfield 22, 3) := by decide +kernel
theorem d_K_over_71 : decode prog_4_method_5_code 71 = .ok (.isub, 1) := by decide +kernel
theorem d_K_over_72 : decode prog_4_method_5_code 72 = .ok (.istore 14, 2) := by decide +kernel
theorem d_K_over_74 : decode prog_4_method_5_code 74 = .ok (.iconst 0, 1) := by decide +kernel
theorem d_K_over_75 : decode prog_4_method_5_code 75 = .ok (.istore 15, 2) := by decide +kernel
theorem d_K_over_77 : decode prog_4_method_5_code 77 = .ok (.iload 15, 2) := by decide +kernel
theorem d_K_over_79 : decode prog_4_method_5_code 79 = .ok (.iload 14, 2) := by decide +kernel
theorem d_K_over_81 : decode prog_4_method_5_code 81 = .ok (.if_icmp .ge 110, 3) := by decide +kernel
theorem d_K_over_84 : decode prog_4_method_5_code 84 = .ok (.lload 10, 2) := by decide +kernel
theorem d_K_over_86 : decode prog_4_method_5_code 86 = .ok (.ldc2_w 52, 3) := by decide +kernel
theorem d_K_over_89 : decode prog_4_method_5_code 89 = .ok (.lcmp, 1) := by decide +kernel
theorem d_K_over_90 : decode prog_4_method_5_code 90 = .ok (.ifCond .lt 9, 3) := by decide +kernel
theorem d_K_over_93 : decode prog_4_method_5_code 93 = .ok (.aload_n 0, 1) := by decide +kernel
theorem d_K_over_94 : decode prog_4_method_5_code 94 = .ok (.iconst 0, 1) := by decide +kernel
theorem d_K_over_95 : decode prog_4_method_5_code 95 = .ok (.putfield 9, 3) := by decide +kernel
theorem d_K_over_98 : decode prog_4_method_5_code 98 = .ok (.return_, 1) := by decide +kernel
theorem d_K_over_99 : decode prog_4_method_5_code 99 = .ok (.iconst 0, 1) := by decide +kernel
theorem d_K_over_100 : decode prog_4_method_5_code 100 = .ok (.istore 16, 2) := by decide +kernel
theorem d_K_over_102 : decode prog_4_method_5_code 102 = .ok (.lconst 0, 1) := by decide +kernel
theorem d_K_over_103 : decode prog_4_method_5_code 103 = .ok (.lstore 17, 2) := by decide +kernel
theorem d_K_over_105 : decode prog_4_method_5_code 105 = .ok (.iconst 0, 1) := by decide +kernel
theorem d_K_over_106 : decode prog_4_method_5_code 106 = .ok (.istore 19, 2) := by decide +kernel
theorem d_K_over_108 : decode prog_4_method_5_code 108 = .ok (.iload 19, 2) := by decide +kernel
theorem d_K_over_110 : decode prog_4_method_5_code 110 = .ok (.bipush 10, 2) := by decide +kernel
theorem d_K_over_112 : decode prog_4_method_5_code 112 = .ok (.if_icmp .ge 34, 3) := by decide +kernel
theorem d_K_over_115 : decode prog_4_method_5_code 115 = .ok (.lload 17, 2) := by decide +kernel
theorem d_K_over_117 : decode prog_4_method_5_code 117 = .ok (.lload 6, 2) := by decide +kernel
theorem d_K_over_119 : decode prog_4_method_5_code 119 = .ok (.ladd, 1) := by decide +kernel
theorem d_K_over_120 : decode prog_4_method_5_code 120 = .ok (.lstore 17, 2) := by decide +kernel
theorem d_K_over_122 : decode prog_4_method_5_code 122 = .ok (.lload 17, 2) := by decide +kernel
theorem d_K_over_124 : decode prog_4_method_5_code 124 = .ok (.lload 4, 2) := by decide +kernel
theorem d_K_over_126 : decode prog_4_method_5_code 126 = .ok (.lcmp, 1) := by decide +kernel
theorem d_K_over_127 : decode prog_4_method_5_code 127 = .ok (.ifCond .lt 13, 3) := by decide +kernel
theorem d_K_over_130 : decode prog_4_method_5_code 130 = .ok (.lload 17, 2) := by decide +kernel
theorem d_K_over_132 : decode prog_4_method_5_code 132 = .ok (.lload 4, 2) := by decide +kernel
theorem d_K_over_134 : decode prog_4_method_5_code 134 = .ok (.lsub, 1) := by decide +kernel
theorem d_K_over_135 : decode prog_4_method_5_code 135 = .ok (.lstore 17, 2) := by decide +kernel
theorem d_K_over_137 : decode prog_4_method_5_code 137 = .ok (.iinc 16 1, 3) := by decide +kernel
theorem d_K_over_140 : decode prog_4_method_5_code 140 = .ok (.iinc 19 1, 3) := by decide +kernel
theorem d_K_over_143 : decode prog_4_method_5_code 143 = .ok (.goto (-35), 3) := by decide +kernel
theorem d_K_over_146 : decode prog_4_method_5_code 146 = .ok (.lload 17, 2) := by decide +kernel
theorem d_K_over_148 : decode prog_4_method_5_code 148 = .ok (.lstore 6, 2) := by decide +kernel
theorem d_K_over_150 : decode prog_4_method_5_code 150 = .ok (.lload 12, 2) := by decide +kernel
theorem d_K_over_152 : decode prog_4_method_5_code 152 = .ok (.ldc2_w 54, 3) := by decide +kernel
theorem d_K_over_155 : decode prog_4_method_5_code 155 = .ok (.lmul, 1) := by decide +kernel
theorem d_K_over_156 : decode prog_4_method_5_code 156 = .ok (.iload 16, 2) := by decide +kernel
theorem d_K_over_158 : decode prog_4_method_5_code 158 = .ok (.i2l, 1) := by decide +kernel
theorem d_K_over_159 : decode prog_4_method_5_code 159 = .ok (.ladd, 1) := by decide +kernel
theorem d_K_over_160 : decode prog_4_method_5_code 160 = .ok (.lstore 12, 2) := by decide +kernel
theorem d_K_over_162 : decode prog_4_method_5_code 162 = .ok (.lload 10, 2) := by decide +kernel
theorem d_K_over_164 : decode prog_4_method_5_code 164 = .ok (.ldc2_w 54, 3) := by decide +kernel
theorem d_K_over_167 : decode prog_4_method_5_code 167 = .ok (.lmul, 1) := by decide +kernel
theorem d_K_over_168 : decode prog_4_method_5_code 168 = .ok (.lload 12, 2) := by decide +kernel
theorem d_K_over_170 : decode prog_4_method_5_code 170 = .ok (.ldc2_w 40, 3) := by decide +kernel
theorem d_K_over_173 : decode prog_4_method_5_code 173 = .ok (.ldiv, 1) := by decide +kernel
theorem d_K_over_174 : decode prog_4_method_5_code 174 = .ok (.ladd, 1) := by decide +kernel
theorem d_K_over_175 : decode prog_4_method_5_code 175 = .ok (.lstore 10, 2) := by decide +kernel
theorem d_K_over_177 : decode prog_4_method_5_code 177 = .ok (.lload 12, 2) := by decide +kernel
theorem d_K_over_179 : decode prog_4_method_5_code 179 = .ok (.ldc2_w 40, 3) := by decide +kernel
theorem d_K_over_182 : decode prog_4_method_5_code 182 = .ok (.lrem, 1) := by decide +kernel
theorem d_K_over_183 : decode prog_4_method_5_code 183 = .ok (.lstore 12, 2) := by decide +kernel
theorem d_K_over_185 : decode prog_4_method_5_code 185 = .ok (.iinc 15 1, 3) := by decide +kernel
theorem d_K_over_188 : decode prog_4_method_5_code 188 = .ok (.goto (-111), 3) := by decide +kernel
theorem d_K_over_191 : decode prog_4_method_5_code 191 = .ok (.lload 6, 2) := by decide +kernel
theorem d_K_over_193 : decode prog_4_method_5_code 193 = .ok (.lload 4, 2) := by decide +kernel
theorem d_K_over_195 : decode prog_4_method_5_code 195 = .ok (.lload 6, 2) := by decide +kernel
theorem d_K_over_197 : decode prog_4_method_5_code 197 = .ok (.lsub, 1) := by decide +kernel
theorem d_K_over_198 : decode prog_4_method_5_code 198 = .ok (.lcmp, 1) := by decide +kernel
theorem d_K_over_199 : decode prog_4_method_5_code 199 = .ok (.ifCond .lt 7, 3) := by decide +kernel
theorem d_K_over_202 : decode prog_4_method_5_code 202 = .ok (.iconst 1, 1) := by decide +kernel
theorem d_K_over_203 : decode prog_4_method_5_code 203 = .ok (.goto 4, 3) := by decide +kernel
theorem d_K_over_206 : decode prog_4_method_5_code 206 = .ok (.iconst 0, 1) := by decide +kernel
theorem d_K_over_207 : decode prog_4_method_5_code 207 = .ok (.istore 15, 2) := by decide +kernel
theorem d_K_over_209 : decode prog_4_method_5_code 209 = .ok (.aload_n 0, 1) := by decide +kernel
theorem d_K_over_210 : decode prog_4_method_5_code 210 = .ok (.aload_n 0, 1) := by decide +kernel
theorem d_K_over_211 : decode prog_4_method_5_code 211 = .ok (.getfield 18, 3) := by decide +kernel
theorem d_K_over_214 : decode prog_4_method_5_code 214 = .ok (.lconst 0, 1) := by decide +kernel
theorem d_K_over_215 : decode prog_4_method_5_code 215 = .ok (.lcmp, 1) := by decide +kernel
theorem d_K_over_216 : decode prog_4_method_5_code 216 = .ok (.ifCond .ge 7, 3) := by decide +kernel
theorem d_K_over_219 : decode prog_4_method_5_code 219 = .ok (.iconst 1, 1) := by decide +kernel
theorem d_K_over_220 : decode prog_4_method_5_code 220 = .ok (.goto 4, 3) := by decide +kernel
theorem d_K_over_223 : decode prog_4_method_5_code 223 = .ok (.iconst 0, 1) := by decide +kernel
theorem d_K_over_224 : decode prog_4_method_5_code 224 = .ok (.lload_n 1, 1) := by decide +kernel
theorem d_K_over_225 : decode prog_4_method_5_code 225 = .ok (.lconst 0, 1) := by decide +kernel
theorem d_K_over_226 : decode prog_4_method_5_code 226 = .ok (.lcmp, 1) := by decide +kernel
theorem d_K_over_227 : decode prog_4_method_5_code 227 = .ok (.ifCond .ge 7, 3) := by decide +kernel
theorem d_K_over_230 : decode prog_4_method_5_code 230 = .ok (.iconst 1, 1) := by decide +kernel
theorem d_K_over_231 : decode prog_4_method_5_code 231 = .ok (.goto 4, 3) := by decide +kernel
theorem d_K_over_234 : decode prog_4_method_5_code 234 = .ok (.iconst 0, 1) := by decide +kernel
theorem d_K_over_235 : decode prog_4_method_5_code 235 = .ok (.if_icmp .eq 7, 3) := by decide +kernel
theorem d_K_over_238 : decode prog_4_method_5_code 238 = .ok (.iconst 1, 1) := by decide +kernel
theorem d_K_over_239 : decode prog_4_method_5_code 239 = .ok (.goto 4, 3) := by decide +kernel
theorem d_K_over_242 : decode prog_4_method_5_code 242 = .ok (.iconst 0, 1) := by decide +kernel
theorem d_K_over_243 : decode prog_4_method_5_code 243 = .ok (.lload 10, 2) := by decide +kernel
theorem d_K_over_245 : decode prog_4_method_5_code 245 = .ok (.iload 15, 2) := by decide +kernel
theorem d_K_over_247 : decode prog_4_method_5_code 247 = .ok (.ifCond .eq 10, 3) := by decide +kernel
theorem d_K_over_250 : decode prog_4_method_5_code 250 = .ok (.lload 12, 2) := by decide +kernel
theorem d_K_over_252 : decode prog_4_method_5_code 252 = .ok (.lconst 1, 1) := by decide +kernel
theorem d_K_over_253 : decode prog_4_method_5_code 253 = .ok (.ladd, 1) := by decide +kernel
theorem d_K_over_254 : decode prog_4_method_5_code 254 = .ok (.goto 5, 3) := by decide +kernel
theorem d_K_over_257 : decode prog_4_method_5_code 257 = .ok (.lload 12, 2) := by decide +kernel
theorem d_K_over_259 : decode prog_4_method_5_code 259 = .ok (.invokevirtual 42, 3) := by decide +kernel
theorem d_K_over_262 : decode prog_4_method_5_code 262 = .ok (.return_, 1) := by decide +kernel
def m_K_over_140 (G : Nat → Nat) (r77 : Nat → Int64 → Int64 → Int64 → Int64 → Int64 → Int32 → Int32 → hp_H → Option (Unit × hp_H)) (r108 : Nat → Int64 → Int64 → Int64 → Int64 → Int64 → Int32 → Int32 → Int32 → Int64 → Int32 → hp_H → Option (Unit × hp_H)) (a0 : Nat) (a1 : Int64) (a4 : Int64) (a6 : Int64) (a10 : Int64) (a12 : Int64) (a14 : Int32) (a15 : Int32) (a16 : Int32) (a17 : Int64) (a19 : Int32) (h : hp_H) : Option (Unit × hp_H) := hp_nm (a19 + 1) fun x1 => r108 a0 a1 a4 a6 a10 a12 a14 a15 a16 a17 x1 h
set_option maxRecDepth 100000 in
set_option maxHeartbeats 4000000 in
theorem j_K_over_140 {Z : hp_Z} (r77 : Nat → Int64 → Int64 → Int64 → Int64 → Int64 → Int32 → Int32 → hp_H → Option (Unit × hp_H)) (hr77 : ∀ (a0 : Nat) (a1 : Int64) (a4 : Int64) (a6 : Int64) (a10 : Int64) (a12 : Int64) (a14 : Int32) (a15 : Int32) (h : hp_H), hp_J Y_K_over Z hp_rV h 77 [(0, .ref a0), (1, .long a1), (4, .long a4), (6, .long a6), (10, .long a10), (12, .long a12), (14, .int a14), (15, .int a15)] [] (r77 a0 a1 a4 a6 a10 a12 a14 a15  h)) (r108 : Nat → Int64 → Int64 → Int64 → Int64 → Int64 → Int32 → Int32 → Int32 → Int64 → Int32 → hp_H → Option (Unit × hp_H)) (hr108 : ∀ (a0 : Nat) (a1 : Int64) (a4 : Int64) (a6 : Int64) (a10 : Int64) (a12 : Int64) (a14 : Int32) (a15 : Int32) (a16 : Int32) (a17 : Int64) (a19 : Int32) (h : hp_H), hp_J Y_K_over Z hp_rV h 108 [(0, .ref a0), (1, .long a1), (4, .long a4), (6, .long a6), (10, .long a10), (12, .long a12), (14, .int a14), (15, .int a15), (16, .int a16), (17, .long a17), (19, .int a19)] [] (r108 a0 a1 a4 a6 a10 a12 a14 a15 a16 a17 a19  h)) (a0 : Nat) (a1 : Int64) (a4 : Int64) (a6 : Int64) (a10 : Int64) (a12 : Int64) (a14 : Int32) (a15 : Int32) (a16 : Int32) (a17 : Int64) (a19 : Int32) (h : hp_H) : hp_J Y_K_over Z hp_rV h 140 [(0, .ref a0), (1, .long a1), (4, .long a4), (6, .long a6), (10, .long a10), (12, .long a12), (14, .int a14), (15, .int a15), (16, .int a16), (17, .long a17), (19, .int a19)] [] (m_K_over_140 (hp_G Z) r77 r108 a0 a1 a4 a6 a10 a12 a14 a15 a16 a17 a19 h) := by
  unfold m_K_over_140
  refine hp_iinc (x0 := 10) (d := 1) (fun x1 => [(19, .int x1), (0, .ref a0), (1, .long a1), (4, .long a4), (6, .long a6), (10, .long a10), (12, .long a12), (14, .int a14), (15, .int a15), (16, .int a16), (17, .long a17)]) d_K_over_140 rfl (by decide) (by decide) (fun _ => rfl) fun x1 => ?_
  refine hp_goto (tgt := 108) d_K_over_143 (by decide) ?_
  refine hp_sub [1, 2, 3, 4, 5, 6, 7, 8, 9, 10, 0] rfl ?_
  exact hr108 _ _ _ _ _ _ _ _ _ _ _ _
def m_K_over_108 (G : Nat → Nat) (r77 : Nat → Int64 → Int64 → Int64 → Int64 → Int64 → Int32 → Int32 → hp_H → Option (Unit × hp_H)) : Nat → Nat → Int64 → Int64 → Int64 → Int64 → Int64 → Int32 → Int32 → Int32 → Int64 → Int32 → hp_H → Option (Unit × hp_H)
  | 0, _, _, _, _, _, _, _, _, _, _, _, _ => none
  | n + 1, a0, a1, a4, a6, a10, a12, a14, a15, a16, a17, a19, h => if (10 : Int32) ≤ a19 then (hp_nm a17 fun x1 => hp_nm ((a12 * (10 : Int64)) + a16.toInt64) fun x2 => (hp_dL x2 (1000000000 : Int64)).bind fun x3 => hp_nm ((a10 * (10 : Int64)) + x3) fun x4 => (hp_mL x2 (1000000000 : Int64)).bind fun x5 => hp_nm x5 fun x6 => hp_nm (a15 + 1) fun x7 => r77 a0 a1 a4 x1 x4 x6 a14 x7 h) else (hp_nm (a17 + a6) fun x8 => if (lg_cmp x8 a4) < 0 then (m_K_over_140 G r77 (m_K_over_108 G r77 n) a0 a1 a4 a6 a10 a12 a14 a15 a16 x8 a19 h) else (hp_nm (x8 - a4) fun x9 => hp_nm (a16 + 1) fun x10 => m_K_over_140 G r77 (m_K_over_108 G r77 n) a0 a1 a4 a6 a10 a12 a14 a15 x10 x9 a19 h))
set_option maxRecDepth 100000 in
set_option maxHeartbeats 4000000 in
theorem j_K_over_108 {Z : hp_Z} (r77 : Nat → Int64 → Int64 → Int64 → Int64 → Int64 → Int32 → Int32 → hp_H → Option (Unit × hp_H)) (hr77 : ∀ (a0 : Nat) (a1 : Int64) (a4 : Int64) (a6 : Int64) (a10 : Int64) (a12 : Int64) (a14 : Int32) (a15 : Int32) (h : hp_H), hp_J Y_K_over Z hp_rV h 77 [(0, .ref a0), (1, .long a1), (4, .long a4), (6, .long a6), (10, .long a10), (12, .long a12), (14, .int a14), (15, .int a15)] [] (r77 a0 a1 a4 a6 a10 a12 a14 a15  h)) : ∀ (n : Nat) (a0 : Nat) (a1 : Int64) (a4 : Int64) (a6 : Int64) (a10 : Int64) (a12 : Int64) (a14 : Int32) (a15 : Int32) (a16 : Int32) (a17 : Int64) (a19 : Int32) (h : hp_H), hp_J Y_K_over Z hp_rV h 108 [(0, .ref a0), (1, .long a1), (4, .long a4), (6, .long a6), (10, .long a10), (12, .long a12), (14, .int a14), (15, .int a15), (16, .int a16), (17, .long a17), (19, .int a19)] [] (m_K_over_108 (hp_G Z) r77 n a0 a1 a4 a6 a10 a12 a14 a15 a16 a17 a19 h) := by
  intro n
  induction n with
  | zero => intro a0 a1 a4 a6 a10 a12 a14 a15 a16 a17 a19 h; exact hp_fail
  | succ n ih =>
    intro a0 a1 a4 a6 a10 a12 a14 a15 a16 a17 a19 h
    rw [m_K_over_108]
    refine hp_iload (x0 := 10) d_K_over_108 rfl ?_
    refine hp_bipush (v := 10) d_K_over_110 (by decide) ?_
    refine hp_icmp_ge (tgt := 146) d_K_over_112 (by decide) ?_ ?_
    · refine hp_lload (x0 := 9) d_K_over_146 rfl ?_
      refine hp_lstore (fun x1 => [(6, .long x1), (0, .ref a0), (1, .long a1), (4, .long a4), (10, .long a10), (12, .long a12), (14, .int a14), (15, .int a15), (16, .int a16), (17, .long a17), (19, .int a19)]) d_K_over_148 (by decide) (fun _ => rfl) fun x1 => ?_
      refine hp_lload (x0 := 5) d_K_over_150 rfl ?_
      refine hp_ldc2 (v := 10) d_K_over_152 w_615 ?_
      refine hp_lmul d_K_over_155 ?_
      refine hp_iload (x0 := 8) d_K_over_156 rfl ?_
      refine hp_i2l d_K_over_158 ?_
      refine hp_ladd d_K_over_159 ?_
      refine hp_lstore (fun x2 => [(12, .long x2), (6, .long x1), (0, .ref a0), (1, .long a1), (4, .long a4), (10, .long a10), (14, .int a14), (15, .int a15), (16, .int a16), (17, .long a17), (19, .int a19)]) d_K_over_160 (by decide) (fun _ => rfl) fun x2 => ?_
      refine hp_lload (x0 := 5) d_K_over_162 rfl ?_
      refine hp_ldc2 (v := 10) d_K_over_164 w_615 ?_
      refine hp_lmul d_K_over_167 ?_
      refine hp_lload (x0 := 0) d_K_over_168 rfl ?_
      refine hp_ldc2 (v := 1000000000) d_K_over_170 w_610 ?_
      refine hp_ldiv d_K_over_173 fun x3 => ?_
      refine hp_ladd d_K_over_174 ?_
      refine hp_lstore (fun x4 => [(10, .long x4), (12, .long x2), (6, .long x1), (0, .ref a0), (1, .long a1), (4, .long a4), (14, .int a14), (15, .int a15), (16, .int a16), (17, .long a17), (19, .int a19)]) d_K_over_175 (by decide) (fun _ => rfl) fun x4 => ?_
      refine hp_lload (x0 := 1) d_K_over_177 rfl ?_
      refine hp_ldc2 (v := 1000000000) d_K_over_179 w_610 ?_
      refine hp_lrem d_K_over_182 fun x5 => ?_
      refine hp_lstore (fun x6 => [(12, .long x6), (10, .long x4), (6, .long x1), (0, .ref a0), (1, .long a1), (4, .long a4), (14, .int a14), (15, .int a15), (16, .int a16), (17, .long a17), (19, .int a19)]) d_K_over_183 (by decide) (fun _ => rfl) fun x6 => ?_
      refine hp_iinc (x0 := 7) (d := 1) (fun x7 => [(15, .int x7), (12, .long x6), (10, .long x4), (6, .long x1), (0, .ref a0), (1, .long a1), (4, .long a4), (14, .int a14), (16, .int a16), (17, .long a17), (19, .int a19)]) d_K_over_185 rfl (by decide) (by decide) (fun _ => rfl) fun x7 => ?_
      refine hp_goto (tgt := 77) d_K_over_188 (by decide) ?_
      refine hp_sub [4, 5, 6, 3, 2, 1, 7, 0] rfl ?_
      exact hr77 _ _ _ _ _ _ _ _ _
    · refine hp_lload (x0 := 9) d_K_over_115 rfl ?_
      refine hp_lload (x0 := 3) d_K_over_117 rfl ?_
      refine hp_ladd d_K_over_119 ?_
      refine hp_lstore (fun x8 => [(17, .long x8), (0, .ref a0), (1, .long a1), (4, .long a4), (6, .long a6), (10, .long a10), (12, .long a12), (14, .int a14), (15, .int a15), (16, .int a16), (19, .int a19)]) d_K_over_120 (by decide) (fun _ => rfl) fun x8 => ?_
      refine hp_lload (x0 := 0) d_K_over_122 rfl ?_
      refine hp_lload (x0 := 3) d_K_over_124 rfl ?_
      refine hp_lcmp d_K_over_126 ?_
      refine hp_if_lt (tgt := 140) d_K_over_127 (by decide) ?_ ?_
      · refine hp_sub [1, 2, 3, 4, 5, 6, 7, 8, 9, 0, 10] rfl ?_
        exact j_K_over_140 _ hr77 _ ih _ _ _ _ _ _ _ _ _ _ _ _
      · refine hp_lload (x0 := 0) d_K_over_130 rfl ?_
        refine hp_lload (x0 := 3) d_K_over_132 rfl ?_
        refine hp_lsub d_K_over_134 ?_
        refine hp_lstore (fun x9 => [(17, .long x9), (0, .ref a0), (1, .long a1), (4, .long a4), (6, .long a6), (10, .long a10), (12, .long a12), (14, .int a14), (15, .int a15), (16, .int a16), (19, .int a19)]) d_K_over_135 (by decide) (fun _ => rfl) fun x9 => ?_
        refine hp_iinc (x0 := 9) (d := 1) (fun x10 => [(16, .int x10), (17, .long x9), (0, .ref a0), (1, .long a1), (4, .long a4), (6, .long a6), (10, .long a10), (12, .long a12), (14, .int a14), (15, .int a15), (19, .int a19)]) d_K_over_137 rfl (by decide) (by decide) (fun _ => rfl) fun x10 => ?_
        refine hp_sub [2, 3, 4, 5, 6, 7, 8, 9, 0, 1, 10] rfl ?_
        exact j_K_over_140 _ hr77 _ ih _ _ _ _ _ _ _ _ _ _ _ _
def m_K_over_259 (G : Nat → Nat) (s0 : Int64) (s1 : Int64) (s2 : Int32) (s3 : Nat) (h : hp_H) : Option (Unit × hp_H) := (hp_vck h s3 6 (m_K_settle G s3 s2 s1 s0 h)).bind fun q1 => some ((), q1.2)
set_option maxRecDepth 100000 in
set_option maxHeartbeats 4000000 in
theorem j_K_over_259 {Z : hp_Z} (s0 : Int64) (s1 : Int64) (s2 : Int32) (s3 : Nat) (h : hp_H) : hp_J Y_K_over Z hp_rV h 259 [] [.long s0, .long s1, .int s2, .ref s3] (m_K_over_259 (hp_G Z)  s0 s1 s2 s3 h) := by
  unfold m_K_over_259
  refine hp_callU (hp_crV (ci := 6) (t_K_settle _ _ _ _ _ _) cw_K_42 rfl ⟨w_613, ws_20⟩ (by decide) rfl rfl (Nat.le_of_ble_eq_true rfl) d_K_over_259) fun q1 => ?_
  exact hp_vret d_K_over_262 rfl
def m_K_over_243 (G : Nat → Nat) (a10 : Int64) (a12 : Int64) (a15 : Int32) (s0 : Int32) (s1 : Nat) (h : hp_H) : Option (Unit × hp_H) := if a15 = 0 then (m_K_over_259 G a12 a10 s0 s1 h) else (m_K_over_259 G (a12 + (1 : Int64)) a10 s0 s1 h)
set_option maxRecDepth 100000 in
set_option maxHeartbeats 4000000 in
theorem j_K_over_243 {Z : hp_Z} (a10 : Int64) (a12 : Int64) (a15 : Int32) (s0 : Int32) (s1 : Nat) (h : hp_H) : hp_J Y_K_over Z hp_rV h 243 [(10, .long a10), (12, .long a12), (15, .int a15)] [.int s0, .ref s1] (m_K_over_243 (hp_G Z)  a10 a12 a15 s0 s1 h) := by
  unfold m_K_over_243
  refine hp_lload (x0 := 0) d_K_over_243 rfl ?_
  refine hp_iload (x0 := 2) d_K_over_245 rfl ?_
  refine hp_if_eq (tgt := 257) d_K_over_247 (by decide) ?_ ?_
  · refine hp_lload (x0 := 1) d_K_over_257 rfl ?_
    refine hp_sub [] rfl ?_
    exact j_K_over_259  _ _ _ _ _
  · refine hp_lload (x0 := 1) d_K_over_250 rfl ?_
    refine hp_lconst (v := 1) d_K_over_252 (by decide) ?_
    refine hp_ladd d_K_over_253 ?_
    refine hp_goto (tgt := 259) d_K_over_254 (by decide) ?_
    refine hp_sub [] rfl ?_
    exact j_K_over_259  _ _ _ _ _
def m_K_over_235 (G : Nat → Nat) (a10 : Int64) (a12 : Int64) (a15 : Int32) (s0 : Int32) (s1 : Int32) (s2 : Nat) (h : hp_H) : Option (Unit × hp_H) := if s1 = s0 then (m_K_over_243 G a10 a12 a15 (0 : Int32) s2 h) else (m_K_over_243 G a10 a12 a15 (1 : Int32) s2 h)
set_option maxRecDepth 100000 in
set_option maxHeartbeats 4000000 in
theorem j_K_over_235 {Z : hp_Z} (a10 : Int64) (a12 : Int64) (a15 : Int32) (s0 : Int32) (s1 : Int32) (s2 : Nat) (h : hp_H) : hp_J Y_K_over Z hp_rV h 235 [(10, .long a10), (12, .long a12), (15, .int a15)] [.int s0, .int s1, .ref s2] (m_K_over_235 (hp_G Z)  a10 a12 a15 s0 s1 s2 h) := by
  unfold m_K_over_235
  refine hp_icmp_eq (tgt := 242) d_K_over_235 (by decide) ?_ ?_
  · refine hp_iconst (v := 0) d_K_over_242 (by decide) ?_
    exact j_K_over_243  _ _ _ _ _ _
  · refine hp_iconst (v := 1) d_K_over_238 (by decide) ?_
    refine hp_goto (tgt := 243) d_K_over_239 (by decide) ?_
    exact j_K_over_243  _ _ _ _ _ _
def m_K_over_224 (G : Nat → Nat) (a1 : Int64) (a10 : Int64) (a12 : Int64) (a15 : Int32) (s0 : Int32) (s1 : Nat) (h : hp_H) : Option (Unit × hp_H) := if 0 ≤ (lg_cmp a1 (0 : Int64)) then (m_K_over_235 G a10 a12 a15 (0 : Int32) s0 s1 h) else (m_K_over_235 G a10 a12 a15 (1 : Int32) s0 s1 h)
set_option maxRecDepth 100000 in
set_option maxHeartbeats 4000000 in
theorem j_K_over_224 {Z : hp_Z} (a1 : Int64) (a10 : Int64) (a12 : Int64) (a15 : Int32) (s0 : Int32) (s1 : Nat) (h : hp_H) : hp_J Y_K_over Z hp_rV h 224 [(1, .long a1), (10, .long a10), (12, .long a12), (15, .int a15)] [.int s0, .ref s1] (m_K_over_224 (hp_G Z)  a1 a10 a12 a15 s0 s1 h) := by
  unfold m_K_over_224
  refine hp_lload_n (x0 := 0) d_K_over_224 rfl rfl ?_
  refine hp_lconst (v := 0) d_K_over_225 (by decide) ?_
  refine hp_lcmp d_K_over_226 ?_
  refine hp_if_ge (tgt := 234) d_K_over_227 (by decide) ?_ ?_
  · refine hp_iconst (v := 0) d_K_over_234 (by decide) ?_
    refine hp_sub [1, 2, 3] rfl ?_
    exact j_K_over_235  _ _ _ _ _ _ _
  · refine hp_iconst (v := 1) d_K_over_230 (by decide) ?_
    refine hp_goto (tgt := 235) d_K_over_231 (by decide) ?_
    refine hp_sub [1, 2, 3] rfl ?_
    exact j_K_over_235  _ _ _ _ _ _ _
def m_K_over_207 (G : Nat → Nat) (a0 : Nat) (a1 : Int64) (a10 : Int64) (a12 : Int64) (s0 : Int32) (h : hp_H) : Option (Unit × hp_H) := hp_nm s0 fun x1 => (hp_gL h a0 6 2).bind fun x2 => if 0 ≤ (lg_cmp x2 (0 : Int64)) then (m_K_over_224 G a1 a10 a12 x1 (0 : Int32) a0 h) else (m_K_over_224 G a1 a10 a12 x1 (1 : Int32) a0 h)
set_option maxRecDepth 100000 in
set_option maxHeartbeats 4000000 in
theorem j_K_over_207 {Z : hp_Z} (a0 : Nat) (a1 : Int64) (a10 : Int64) (a12 : Int64) (s0 : Int32) (h : hp_H) : hp_J Y_K_over Z hp_rV h 207 [(0, .ref a0), (1, .long a1), (10, .long a10), (12, .long a12)] [.int s0] (m_K_over_207 (hp_G Z)  a0 a1 a10 a12 s0 h) := by
  unfold m_K_over_207
  refine hp_istore (fun x1 => [(15, .int x1), (0, .ref a0), (1, .long a1), (10, .long a10), (12, .long a12)]) d_K_over_207 (by decide) (fun _ => rfl) fun x1 => ?_
  refine hp_aload_n (x0 := 1) d_K_over_209 rfl rfl ?_
  refine hp_aload_n (x0 := 1) d_K_over_210 rfl rfl ?_
  refine hp_getL fl_K_18 d_K_over_211 fun x2 => ?_
  refine hp_lconst (v := 0) d_K_over_214 (by decide) ?_
  refine hp_lcmp d_K_over_215 ?_
  refine hp_if_ge (tgt := 223) d_K_over_216 (by decide) ?_ ?_
  · refine hp_iconst (v := 0) d_K_over_223 (by decide) ?_
    refine hp_sub [2, 3, 4, 0] rfl ?_
    exact j_K_over_224  _ _ _ _ _ _ _
  · refine hp_iconst (v := 1) d_K_over_219 (by decide) ?_
    refine hp_goto (tgt := 224) d_K_over_220 (by decide) ?_
    refine hp_sub [2, 3, 4, 0] rfl ?_
    exact j_K_over_224  _ _ _ _ _ _ _
def m_K_over_77 (G : Nat → Nat) : Nat → Nat → Int64 → Int64 → Int64 → Int64 → Int64 → Int32 → Int32 → hp_H → Option (Unit × hp_H)
  | 0, _, _, _, _, _, _, _, _, _ => none
  | n + 1, a0, a1, a4, a6, a10, a12, a14, a15, h => if a14 ≤ a15 then (if (lg_cmp a6 (a4 - a6)) < 0 then (m_K_over_207 G a0 a1 a10 a12 (0 : Int32) h) else (m_K_over_207 G a0 a1 a10 a12 (1 : Int32) h)) else (if (lg_cmp a10 (100000000000000000 : Int64)) < 0 then (hp_nm (0 : Int32) fun x1 => hp_nm (0 : Int64) fun x2 => hp_nm (0 : Int32) fun x3 => m_K_over_108 G (m_K_over_77 G  n) hp_fu a0 a1 a4 a6 a10 a12 a14 a15 x1 x2 x3 h) else ((hp_pZ h a0 6 0 (0 : Int32)).bind fun h4 => some ((), h4)))
set_option maxRecDepth 100000 in
set_option maxHeartbeats 4000000 in
theorem j_K_over_77 {Z : hp_Z} : ∀ (n : Nat) (a0 : Nat) (a1 : Int64) (a4 : Int64) (a6 : Int64) (a10 : Int64) (a12 : Int64) (a14 : Int32) (a15 : Int32) (h : hp_H), hp_J Y_K_over Z hp_rV h 77 [(0, .ref a0), (1, .long a1), (4, .long a4), (6, .long a6), (10, .long a10), (12, .long a12), (14, .int a14), (15, .int a15)] [] (m_K_over_77 (hp_G Z)  n a0 a1 a4 a6 a10 a12 a14 a15 h) := by
  intro n
  induction n with
  | zero => intro a0 a1 a4 a6 a10 a12 a14 a15 h; exact hp_fail
  | succ n ih =>
    intro a0 a1 a4 a6 a10 a12 a14 a15 h
    rw [m_K_over_77]
    refine hp_iload (x0 := 7) d_K_over_77 rfl ?_
    refine hp_iload (x0 := 6) d_K_over_79 rfl ?_
    refine hp_icmp_ge (tgt := 191) d_K_over_81 (by decide) ?_ ?_
    · refine hp_lload (x0 := 3) d_K_over_191 rfl ?_
      refine hp_lload (x0 := 2) d_K_over_193 rfl ?_
      refine hp_lload (x0 := 3) d_K_over_195 rfl ?_
      refine hp_lsub d_K_over_197 ?_
      refine hp_lcmp d_K_over_198 ?_
      refine hp_if_lt (tgt := 206) d_K_over_199 (by decide) ?_ ?_
      · refine hp_iconst (v := 0) d_K_over_206 (by decide) ?_
        refine hp_sub [0, 1, 4, 5] rfl ?_
        exact j_K_over_207  _ _ _ _ _ _
      · refine hp_iconst (v := 1) d_K_over_202 (by decide) ?_
        refine hp_goto (tgt := 207) d_K_over_203 (by decide) ?_
        refine hp_sub [0, 1, 4, 5] rfl ?_
        exact j_K_over_207  _ _ _ _ _ _
    · refine hp_lload (x0 := 4) d_K_over_84 rfl ?_
      refine hp_ldc2 (v := 100000000000000000) d_K_over_86 w_629 ?_
      refine hp_lcmp d_K_over_89 ?_
      refine hp_if_lt (tgt := 99) d_K_over_90 (by decide) ?_ ?_
      · refine hp_iconst (v := 0) d_K_over_99 (by decide) ?_
        refine hp_istore (fun x1 => [(16, .int x1), (0, .ref a0), (1, .long a1), (4, .long a4), (6, .long a6), (10, .long a10), (12, .long a12), (14, .int a14), (15, .int a15)]) d_K_over_100 (by decide) (fun _ => rfl) fun x1 => ?_
        refine hp_lconst (v := 0) d_K_over_102 (by decide) ?_
        refine hp_lstore (fun x2 => [(17, .long x2), (16, .int x1), (0, .ref a0), (1, .long a1), (4, .long a4), (6, .long a6), (10, .long a10), (12, .long a12), (14, .int a14), (15, .int a15)]) d_K_over_103 (by decide) (fun _ => rfl) fun x2 => ?_
        refine hp_iconst (v := 0) d_K_over_105 (by decide) ?_
        refine hp_istore (fun x3 => [(19, .int x3), (17, .long x2), (16, .int x1), (0, .ref a0), (1, .long a1), (4, .long a4), (6, .long a6), (10, .long a10), (12, .long a12), (14, .int a14), (15, .int a15)]) d_K_over_106 (by decide) (fun _ => rfl) fun x3 => ?_
        refine hp_sub [3, 4, 5, 6, 7, 8, 9, 10, 2, 1, 0] rfl ?_
        exact j_K_over_108 _ ih hp_fu _ _ _ _ _ _ _ _ _ _ _ _
      · refine hp_aload_n (x0 := 0) d_K_over_93 rfl rfl ?_
        refine hp_iconst (v := 0) d_K_over_94 (by decide) ?_
        refine hp_putZ fl_K_9 (fun q => by cases q) d_K_over_95 fun h4 => ?_
        exact hp_vret d_K_over_98 rfl
def m_K_over (G : Nat → Nat) (a0 : Nat) (a1 : Int64) (a3 : Int32) (h : hp_H) : Option (Unit × hp_H) := (hp_pZ h a0 6 1 (0 : Int32)).bind fun h1 => if (lg_cmp a1 (0 : Int64)) = 0 then ((hp_pZ h1 a0 6 0 (0 : Int32)).bind fun h19 => some ((), h19)) else ((m_MA_abs G a1 h1).bind fun q2 => hp_nm q2.1 fun x3 => (hp_gL q2.2 a0 6 2).bind fun x4 => (m_MA_abs G x4 q2.2).bind fun q5 => (hp_mL q5.1 x3).bind fun x6 => hp_nm x6 fun x7 => (hp_gL q5.2 a0 6 2).bind fun x8 => (m_MA_abs G x8 q5.2).bind fun q9 => (hp_dL q9.1 x3).bind fun x10 => hp_nm x10 fun x11 => (hp_dL x11 (1000000000 : Int64)).bind fun x12 => hp_nm x12 fun x13 => (hp_mL x11 (1000000000 : Int64)).bind fun x14 => hp_nm x14 fun x15 => (hp_gI q9.2 a0 6 3).bind fun x16 => hp_nm (((9 : Int32) + a3) - x16) fun x17 => hp_nm (0 : Int32) fun x18 => m_K_over_77 G hp_fu a0 a1 x3 x7 x13 x15 x17 x18 q9.2)
set_option maxRecDepth 100000 in
set_option maxHeartbeats 4000000 in
theorem j_K_over_0 {Z : hp_Z} (a0 : Nat) (a1 : Int64) (a3 : Int32) (h : hp_H) : hp_J Y_K_over Z hp_rV h 0 [(0, .ref a0), (1, .long a1), (3, .int a3)] [] (m_K_over (hp_G Z)  a0 a1 a3 h) := by
  unfold m_K_over
  refine hp_aload_n (x0 := 0) d_K_over_0 rfl rfl ?_
  refine hp_iconst (v := 0) d_K_over_1 (by decide) ?_
  refine hp_putZ fl_K_15 (fun q => by cases q) d_K_over_2 fun h1 => ?_
  refine hp_lload_n (x0 := 1) d_K_over_5 rfl rfl ?_
  refine hp_lconst (v := 0) d_K_over_6 (by decide) ?_
  refine hp_lcmp d_K_over_7 ?_
  refine hp_if_ne (tgt := 17) d_K_over_8 (by decide) ?_ ?_
  · refine hp_aload_n (x0 := 0) d_K_over_11 rfl rfl ?_
    refine hp_iconst (v := 0) d_K_over_12 (by decide) ?_
    refine hp_putZ fl_K_9 (fun q => by cases q) d_K_over_13 fun h19 => ?_
    exact hp_vret d_K_over_16 rfl
  · refine hp_lload_n (x0 := 1) d_K_over_17 rfl rfl ?_
    refine hp_callL (hp_crS (t_MA_abs _ _ _) cw_K_46 w_622 (by decide) rfl rfl (Nat.le_of_ble_eq_true rfl) d_K_over_18) fun q2 => ?_
    refine hp_lstore (fun x3 => [(4, .long x3), (0, .ref a0), (1, .long a1), (3, .int a3)]) d_K_over_21 (by decide) (fun _ => rfl) fun x3 => ?_
    refine hp_aload_n (x0 := 1) d_K_over_23 rfl rfl ?_
    refine hp_getL fl_K_18 d_K_over_24 fun x4 => ?_
    refine hp_callL (hp_crS (t_MA_abs _ _ _) cw_K_46 w_622 (by decide) rfl rfl (Nat.le_of_ble_eq_true rfl) d_K_over_27) fun q5 => ?_
    refine hp_lload (x0 := 0) d_K_over_30 rfl ?_
    refine hp_lrem d_K_over_32 fun x6 => ?_
    refine hp_lstore (fun x7 => [(6, .long x7), (4, .long x3), (0, .ref a0), (1, .long a1), (3, .int a3)]) d_K_over_33 (by decide) (fun _ => rfl) fun x7 => ?_
    refine hp_aload_n (x0 := 2) d_K_over_35 rfl rfl ?_
    refine hp_getL fl_K_18 d_K_over_36 fun x8 => ?_
    refine hp_callL (hp_crS (t_MA_abs _ _ _) cw_K_46 w_622 (by decide) rfl rfl (Nat.le_of_ble_eq_true rfl) d_K_over_39) fun q9 => ?_
    refine hp_lload (x0 := 1) d_K_over_42 rfl ?_
    refine hp_ldiv d_K_over_44 fun x10 => ?_
    refine hp_lstore (fun x11 => [(8, .long x11), (6, .long x7), (4, .long x3), (0, .ref a0), (1, .long a1), (3, .int a3)]) d_K_over_45 (by decide) (fun _ => rfl) fun x11 => ?_
    refine hp_lload (x0 := 0) d_K_over_47 rfl ?_
    refine hp_ldc2 (v := 1000000000) d_K_over_49 w_610 ?_
    refine hp_ldiv d_K_over_52 fun x12 => ?_
    refine hp_lstore (fun x13 => [(10, .long x13), (8, .long x11), (6, .long x7), (4, .long x3), (0, .ref a0), (1, .long a1), (3, .int a3)]) d_K_over_53 (by decide) (fun _ => rfl) fun x13 => ?_
    refine hp_lload (x0 := 1) d_K_over_55 rfl ?_
    refine hp_ldc2 (v := 1000000000) d_K_over_57 w_610 ?_
    refine hp_lrem d_K_over_60 fun x14 => ?_
    refine hp_lstore (fun x15 => [(12, .long x15), (10, .long x13), (8, .long x11), (6, .long x7), (4, .long x3), (0, .ref a0), (1, .long a1), (3, .int a3)]) d_K_over_61 (by decide) (fun _ => rfl) fun x15 => ?_
    refine hp_bipush (v := 9) d_K_over_63 (by decide) ?_
    refine hp_iload_n (x0 := 7) d_K_over_65 rfl rfl ?_
    refine hp_iadd d_K_over_66 ?_
    refine hp_aload_n (x0 := 5) d_K_over_67 rfl rfl ?_
    refine hp_getI fl_K_22 d_K_over_68 fun x16 => ?_
    refine hp_isub d_K_over_71 ?_
    refine hp_istore (fun x17 => [(14, .int x17), (12, .long x15), (10, .long x13), (8, .long x11), (6, .long x7), (4, .long x3), (0, .ref a0), (1, .long a1), (3, .int a3)]) d_K_over_72 (by decide) (fun _ => rfl) fun x17 => ?_
    refine hp_iconst (v := 0) d_K_over_74 (by decide) ?_
    refine hp_istore (fun x18 => [(15, .int x18), (14, .int x17), (12, .long x15), (10, .long x13), (8, .long x11), (6, .long x7), (4, .long x3), (0, .ref a0), (1, .long a1), (3, .int a3)]) d_K_over_75 (by decide) (fun _ => rfl) fun x18 => ?_
    refine hp_sub [7, 8, 6, 5, 3, 2, 1, 0] rfl ?_
    exact j_K_over_77  hp_fu _ _ _ _ _ _ _ _ _
theorem t_K_over (l : Launch) (E : hp_E) (a0 : Nat) (a1 : Int64) (a3 : Int32) : hp_M l E y_K_over Y_K_over hp_rV [.ref a0, .long a1, .int a3] (m_K_over E.2.2.1 a0 a1 a3) := hp_M.of (plainFor_of_name (by decide)) ⟨rfl, rfl⟩ (Nat.le_of_ble_eq_true rfl) (fun Z h hE => by subst hE; exact j_K_over_0 _ _ _ h)
