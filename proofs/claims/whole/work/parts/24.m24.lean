-- M_two
theorem d_M_two_0 : decode prog_9_method_68_code 0 = .ok (.iload_n 1, 1) := by decide +kernel
theorem d_M_two_1 : decode prog_9_method_68_code 1 = .ok (.tableswitch 133 6 12 #[43, 54, 68, 79, 93, 104, 118], 43) := by decide +kernel
theorem d_M_two_44 : decode prog_9_method_68_code 44 = .ok (.aload_n 0, 1) := by decide +kernel
theorem d_M_two_45 : decode prog_9_method_68_code 45 = .ok (.aload_n 0, 1) := by decide +kernel
theorem d_M_two_46 : decode prog_9_method_68_code 46 = .ok (.iload_n 2, 1) := by decide +kernel
theorem d_M_two_47 : decode prog_9_method_68_code 47 = .ok (.iload_n 3, 1) := by decide +kernel
theorem d_M_two_48 : decode prog_9_method_68_code 48 = .ok (.invokevirtual 259, 3) := by decide +kernel
theorem d_M_two_51 : decode prog_9_method_68_code 51 = .ok (.invokevirtual 247, 3) := by decide +kernel
theorem d_M_two_54 : decode prog_9_method_68_code 54 = .ok (.ireturn, 1) := by decide +kernel
theorem d_M_two_55 : decode prog_9_method_68_code 55 = .ok (.aload_n 0, 1) := by decide +kernel
theorem d_M_two_56 : decode prog_9_method_68_code 56 = .ok (.aload_n 0, 1) := by decide +kernel
theorem d_M_two_57 : decode prog_9_method_68_code 57 = .ok (.iload_n 2, 1) := by decide +kernel
theorem d_M_two_58 : decode prog_9_method_68_code 58 = .ok (.iload_n 3, 1) := by decide +kernel
theorem d_M_two_59 : decode prog_9_method_68_code 59 = .ok (.invokevirtual 259, 3) := by decide +kernel
theorem d_M_two_62 : decode prog_9_method_68_code 62 = .ok (.invokestatic 262, 3) := by decide +kernel
theorem d_M_two_65 : decode prog_9_method_68_code 65 = .ok (.invokevirtual 247, 3) := by decide +kernel
theorem d_M_two_68 : decode prog_9_method_68_code 68 = .ok (.ireturn, 1) := by decide +kernel
theorem d_M_two_69 : decode prog_9_method_68_code 69 = .ok (.aload_n 0, 1) := by decide +kernel
theorem d_M_two_70 : decode prog_9_method_68_code 70 = .ok (.aload_n 0, 1) := by decide +kernel
theorem d_M_two_71 : decode prog_9_method_68_code 71 = .ok (.iload_n 2, 1) := by decide +kernel
theorem d_M_two_72 : decode prog_9_method_68_code 72 = .ok (.iload_n 3, 1) := by decide +kernel
theorem d_M_two_73 : decode prog_9_method_68_code 73 = .ok (.invokevirtual 265, 3) := by decide +kernel
theorem d_M_two_76 : decode prog_9_method_68_code 76 = .ok (.invokevirtual 247, 3) := by decide +kernel
theorem d_M_two_79 : decode prog_9_method_68_code 79 = .ok (.ireturn, 1) := by decide +kernel
theorem d_M_two_80 : decode prog_9_method_68_code 80 = .ok (.aload_n 0, 1) := by decide +kernel
theorem d_M_two_81 : decode prog_9_method_68_code 81 = .ok (.aload_n 0, 1) := by decide +kernel
theorem d_M_two_82 : decode prog_9_method_68_code 82 = .ok (.iload_n 3, 1) := by decide +kernel
theorem d_M_two_83 : decode prog_9_method_68_code 83 = .ok (.iload_n 2, 1) := by decide +kernel
theorem d_M_two_84 : decode prog_9_method_68_code 84 = .ok (.invokevirtual 265, 3) := by decide +kernel
theorem d_M_two_87 : decode prog_9_method_68_code 87 = .ok (.invokestatic 262, 3) := by decide +kernel
theorem d_M_two_90 : decode prog_9_method_68_code 90 = .ok (.invokevirtual 247, 3) := by decide +kernel
theorem d_M_two_93 : decode prog_9_method_68_code 93 = .ok (.ireturn, 1) := by decide +kernel
theorem d_M_two_94 : decode prog_9_method_68_code 94 = .ok (.aload_n 0, 1) := by decide +kernel
theorem d_M_two_95 : decode prog_9_method_68_code 95 = .ok (.aload_n 0, 1) := by decide +kernel
theorem d_M_two_96 : decode prog_9_method_68_code 96 = .ok (.iload_n 3, 1) := by decide +kernel
theorem d_M_two_97 : decode prog_9_method_68_code 97 = .ok (.iload_n 2, 1) := by decide +kernel
theorem d_M_two_98 : decode prog_9_method_68_code 98 = .ok (.invokevirtual 265, 3) := by decide +kernel
theorem d_M_two_101 : decode prog_9_method_68_code 101 = .ok (.invokevirtual 247, 3) := by decide +kernel
theorem d_M_two_104 : decode prog_9_method_68_code 104 = .ok (.ireturn, 1) := by decide +kernel
theorem d_M_two_105 : decode prog_9_method_68_code 105 = .ok (.aload_n 0, 1) := by decide +kernel
theorem d_M_two_106 : decode prog_9_method_68_code 106 = .ok (.aload_n 0, 1) := by decide +kernel
theorem d_M_two_107 : decode prog_9_method_68_code 107 = .ok (.iload_n 2, 1) := by decide +kernel
theorem d_M_two_108 : decode prog_9_method_68_code 108 = .ok (.iload_n 3, 1) := by decide +kernel
theorem d_M_two_109 : decode prog_9_method_68_code 109 = .ok (.invokevirtual 265, 3) := by decide +kernel
theorem d_M_two_112 : decode prog_9_method_68_code 112 = .ok (.invokestatic 262, 3) := by decide +kernel
theorem d_M_two_115 : decode prog_9_method_68_code 115 = .ok (.invokevirtual 247, 3) := by decide +kernel
theorem d_M_two_118 : decode prog_9_method_68_code 118 = .ok (.ireturn, 1) := by decide +kernel
theorem d_M_two_119 : decode prog_9_method_68_code 119 = .ok (.aload_n 0, 1) := by decide +kernel
theorem d_M_two_120 : decode prog_9_method_68_code 120 = .ok (.iload_n 2, 1) := by decide +kernel
theorem d_M_two_121 : decode prog_9_method_68_code 121 = .ok (.iload_n 3, 1) := by decide +kernel
theorem d_M_two_122 : decode prog_9_method_68_code 122 = .ok (.if_icmp .ne 7, 3) := by decide +kernel
theorem d_M_two_125 : decode prog_9_method_68_code 125 = .ok (.iconst 1, 1) := by decide +kernel
theorem d_M_two_126 : decode prog_9_method_68_code 126 = .ok (.goto 4, 3) := by decide +kernel
theorem d_M_two_129 : decode prog_9_method_68_code 129 = .ok (.iconst 0, 1) := by decide +kernel
theorem d_M_two_130 : decode prog_9_method_68_code 130 = .ok (.invokevirtual 185, 3) := by decide +kernel
theorem d_M_two_133 : decode prog_9_method_68_code 133 = .ok (.ireturn, 1) := by decide +kernel
theorem d_M_two_134 : decode prog_9_method_68_code 134 = .ok (.iload_n 1, 1) := by decide +kernel
theorem d_M_two_135 : decode prog_9_method_68_code 135 = .ok (.bipush 29, 2) := by decide +kernel
theorem d_M_two_137 : decode prog_9_method_68_code 137 = .ok (.if_icmp .le 11, 3) := by decide +kernel
theorem d_M_two_140 : decode prog_9_method_68_code 140 = .ok (.aload_n 0, 1) := by decide +kernel
theorem d_M_two_141 : decode prog_9_method_68_code 141 = .ok (.iload_n 1, 1) := by decide +kernel
theorem d_M_two_142 : decode prog_9_method_68_code 142 = .ok (.iload_n 2, 1) := by decide +kernel
theorem d_M_two_143 : decode prog_9_method_68_code 143 = .ok (.iload_n 3, 1) := by decide +kernel
theorem d_M_two_144 : decode prog_9_method_68_code 144 = .ok (.invokevirtual 268, 3) := by decide +kernel
theorem d_M_two_147 : decode prog_9_method_68_code 147 = .ok (.ireturn, 1) := by decide +kernel
theorem d_M_two_148 : decode prog_9_method_68_code 148 = .ok (.aload_n 0, 1) := by decide +kernel
theorem d_M_two_149 : decode prog_9_method_68_code 149 = .ok (.iload_n 2, 1) := by decide +kernel
theorem d_M_two_150 : decode prog_9_method_68_code 150 = .ok (.invokevirtual 168, 3) := by decide +kernel
theorem d_M_two_153 : decode prog_9_method_68_code 153 = .ok (.ifCond .eq 11, 3) := by decide +kernel
theorem d_M_two_156 : decode prog_9_method_68_code 156 = .ok (.aload_n 0, 1) := by decide +kernel
theorem d_M_two_157 : decode prog_9_method_68_code 157 = .ok (.iload_n 3, 1) := by decide +kernel
theorem d_M_two_158 : decode prog_9_method_68_code 158 = .ok (.invokevirtual 168, 3) := by decide +kernel
theorem d_M_two_161 : decode prog_9_method_68_code 161 = .ok (.ifCond .ne 6, 3) := by decide +kernel
theorem d_M_two_164 : decode prog_9_method_68_code 164 = .ok (.bipush (-4), 2) := by decide +kernel
theorem d_M_two_166 : decode prog_9_method_68_code 166 = .ok (.ireturn, 1) := by decide +kernel
theorem d_M_two_167 : decode prog_9_method_68_code 167 = .ok (.iload_n 1, 1) := by decide +kernel
theorem d_M_two_168 : decode prog_9_method_68_code 168 = .ok (.bipush 13, 2) := by decide +kernel
theorem d_M_two_170 : decode prog_9_method_68_code 170 = .ok (.if_icmp .ne 13, 3) := by decide +kernel
theorem d_M_two_173 : decode prog_9_method_68_code 173 = .ok (.aload_n 0, 1) := by decide +kernel
theorem d_M_two_174 : decode prog_9_method_68_code 174 = .ok (.iload_n 2, 1) := by decide +kernel
theorem d_M_two_175 : decode prog_9_method_68_code 175 = .ok (.iload_n 3, 1) := by decide +kernel
theorem d_M_two_176 : decode prog_9_method_68_code 176 = .ok (.iconst 1, 1) := by decide +kernel
theorem d_M_two_177 : decode prog_9_method_68_code 177 = .ok (.invokevirtual 271, 3) := by decide +kernel
theorem d_M_two_180 : decode prog_9_method_68_code 180 = .ok (.goto 40, 3) := by decide +kernel
theorem d_M_two_183 : decode prog_9_method_68_code 183 = .ok (.iload_n 1, 1) := by decide +kernel
theorem d_M_two_184 : decode prog_9_method_68_code 184 = .ok (.bipush 14, 2) := by decide +kernel
theorem d_M_two_186 : decode prog_9_method_68_code 186 = .ok (.if_icmp .ne 13, 3) := by decide +kernel
theorem d_M_two_189 : decode prog_9_method_68_code 189 = .ok (.aload_n 0, 1) := by decide +kernel
theorem d_M_two_190 : decode prog_9_method_68_code 190 = .ok (.iload_n 2, 1) := by decide +kernel
theorem d_M_two_191 : decode prog_9_method_68_code 191 = .ok (.iload_n 3, 1) := by decide +kernel
theorem d_M_two_192 : decode prog_9_method_68_code 192 = .ok (.iconst (-1), 1) := by decide +kernel
theorem d_M_two_193 : decode prog_9_method_68_code 193 = .ok (.invokevirtual 271, 3) := by decide +kernel
theorem d_M_two_196 : decode prog_9_method_68_code 196 = .ok (.goto 24, 3) := by decide +kernel
theorem d_M_two_199 : decode prog_9_method_68_code 199 = .ok (.iload_n 1, 1) := by decide +kernel
theorem d_M_two_200 : decode prog_9_method_68_code 200 = .ok (.bipush 15, 2) := by decide +kernel
theorem d_M_two_202 : decode prog_9_method_68_code 202 = .ok (.if_icmp .ne 12, 3) := by decide +kernel
theorem d_M_two_205 : decode prog_9_method_68_code 205 = .ok (.aload_n 0, 1) := by decide +kernel
theorem d_M_two_206 : decode prog_9_method_68_code 206 = .ok (.iload_n 2, 1) := by decide +kernel
theorem d_M_two_207 : decode prog_9_method_68_code 207 = .ok (.iload_n 3, 1) := by decide +kernel
theorem d_M_two_208 : decode prog_9_method_68_code 208 = .ok (.invokevirtual 274, 3) := by decide +kernel
theorem d_M_two_211 : decode prog_9_method_68_code 211 = .ok (.goto 9, 3) := by decide +kernel
theorem d_M_two_214 : decode prog_9_method_68_code 214 = .ok (.aload_n 0, 1) := by decide +kernel
theorem d_M_two_215 : decode prog_9_method_68_code 215 = .ok (.iload_n 2, 1) := by decide +kernel
theorem d_M_two_216 : decode prog_9_method_68_code 216 = .ok (.iload_n 3, 1) := by decide +kernel
theorem d_M_two_217 : decode prog_9_method_68_code 217 = .ok (.invokevirtual 277, 3) := by decide +kernel
theorem d_M_two_220 : decode prog_9_method_68_code 220 = .ok (.ireturn, 1) := by decide +kernel
def m_M_two_130 (G : Nat → Nat) (s0 : Int32) (s1 : Nat) (h : hp_H) : Option (Int32 × hp_H) := (hp_vck h s1 8 (m_M_truth G s1 s0 h)).bind fun q1 => some (q1.1, q1.2)
set_option maxRecDepth 100000 in
set_option maxHeartbeats 4000000 in
theorem j_M_two_130 {Z : hp_Z} (s0 : Int32) (s1 : Nat) (h : hp_H) : hp_J Y_M_two Z hp_rI h 130 [] [.int s0, .ref s1] (m_M_two_130 (hp_G Z)  s0 s1 h) := by
  unfold m_M_two_130
  refine hp_callI (hp_crV (ci := 8) (t_M_truth _ _ _ _) cw_M_185 rfl ⟨w_1003, w_1004⟩ (by decide) rfl rfl (Nat.le_of_ble_eq_true rfl) d_M_two_130) fun q1 => ?_
  exact hp_iret d_M_two_133 rfl
def m_M_two_164 (G : Nat → Nat) (h : hp_H) : Option (Int32 × hp_H) := some ((-4 : Int32), h)
set_option maxRecDepth 100000 in
set_option maxHeartbeats 4000000 in
theorem j_M_two_164 {Z : hp_Z} (h : hp_H) : hp_J Y_M_two Z hp_rI h 164 [] [] (m_M_two_164 (hp_G Z)   h) := by
  unfold m_M_two_164
  refine hp_bipush (v := -4) d_M_two_164 (by decide) ?_
  exact hp_iret d_M_two_166 rfl
def m_M_two_220 (G : Nat → Nat) (s0 : Int32) (h : hp_H) : Option (Int32 × hp_H) := some (s0, h)
set_option maxRecDepth 100000 in
set_option maxHeartbeats 4000000 in
theorem j_M_two_220 {Z : hp_Z} (s0 : Int32) (h : hp_H) : hp_J Y_M_two Z hp_rI h 220 [] [.int s0] (m_M_two_220 (hp_G Z)  s0 h) := by
  unfold m_M_two_220
  exact hp_iret d_M_two_220 rfl
def m_M_two (G : Nat → Nat) (a0 : Nat) (a1 : Int32) (a2 : Int32) (a3 : Int32) (h : hp_H) : Option (Int32 × hp_H) := if a1 = 6 then ((hp_vck h a0 8 (m_M_equal G a0 a2 a3 h)).bind fun q1 => (hp_vck q1.2 a0 8 (m_M_given G a0 q1.1 q1.2)).bind fun q2 => some (q2.1, q2.2)) else (if a1 = 7 then ((hp_vck h a0 8 (m_M_equal G a0 a2 a3 h)).bind fun q3 => (m_M_not G q3.1 q3.2).bind fun q4 => (hp_vck q4.2 a0 8 (m_M_given G a0 q4.1 q4.2)).bind fun q5 => some (q5.1, q5.2)) else (if a1 = 8 then ((hp_vck h a0 8 (m_M_less G a0 a2 a3 h)).bind fun q6 => (hp_vck q6.2 a0 8 (m_M_given G a0 q6.1 q6.2)).bind fun q7 => some (q7.1, q7.2)) else (if a1 = 9 then ((hp_vck h a0 8 (m_M_less G a0 a3 a2 h)).bind fun q8 => (m_M_not G q8.1 q8.2).bind fun q9 => (hp_vck q9.2 a0 8 (m_M_given G a0 q9.1 q9.2)).bind fun q10 => some (q10.1, q10.2)) else (if a1 = 10 then ((hp_vck h a0 8 (m_M_less G a0 a3 a2 h)).bind fun q11 => (hp_vck q11.2 a0 8 (m_M_given G a0 q11.1 q11.2)).bind fun q12 => some (q12.1, q12.2)) else (if a1 = 11 then ((hp_vck h a0 8 (m_M_less G a0 a2 a3 h)).bind fun q13 => (m_M_not G q13.1 q13.2).bind fun q14 => (hp_vck q14.2 a0 8 (m_M_given G a0 q14.1 q14.2)).bind fun q15 => some (q15.1, q15.2)) else (if a1 = 12 then (if a2 = a3 then (m_M_two_130 G (1 : Int32) a0 h) else (m_M_two_130 G (0 : Int32) a0 h)) else (if a1 ≤ (29 : Int32) then ((hp_vck h a0 8 (m_M_isNumber G a0 a2 h)).bind fun q16 => if q16.1 = 0 then (m_M_two_164 G q16.2) else ((hp_vck q16.2 a0 8 (m_M_isNumber G a0 a3 q16.2)).bind fun q17 => if q17.1 = 0 then (m_M_two_164 G q17.2) else (if a1 = (13 : Int32) then ((hp_vck q17.2 a0 8 (m_M_sum G a0 a2 a3 (1 : Int32) q17.2)).bind fun q21 => m_M_two_220 G q21.1 q21.2) else (if a1 = (14 : Int32) then ((hp_vck q17.2 a0 8 (m_M_sum G a0 a2 a3 (-1 : Int32) q17.2)).bind fun q20 => m_M_two_220 G q20.1 q20.2) else (if a1 = (15 : Int32) then ((hp_vck q17.2 a0 8 (m_M_product G a0 a2 a3 q17.2)).bind fun q19 => m_M_two_220 G q19.1 q19.2) else ((hp_vck q17.2 a0 8 (m_M_quotient G a0 a2 a3 q17.2)).bind fun q18 => m_M_two_220 G q18.1 q18.2)))))) else ((hp_vck h a0 8 (m_M_around G a0 a1 a2 a3 h)).bind fun q22 => some (q22.1, q22.2)))))))))
set_option maxRecDepth 100000 in
set_option maxHeartbeats 4000000 in
theorem j_M_two_0 {Z : hp_Z} (a0 : Nat) (a1 : Int32) (a2 : Int32) (a3 : Int32) (h : hp_H) : hp_J Y_M_two Z hp_rI h 0 [(0, .ref a0), (1, .int a1), (2, .int a2), (3, .int a3)] [] (m_M_two (hp_G Z)  a0 a1 a2 a3 h) := by
  unfold m_M_two
  refine hp_iload_n (x0 := 1) d_M_two_0 rfl rfl ?_
  refine hp_ite (fun c0 => ?_) (fun c0 => ?_)
  · refine hp_tabI (tgt := 44) (kv := 6) d_M_two_1 c0 (by decide) (by decide) rfl (by decide) ?_
    refine hp_aload_n (x0 := 0) d_M_two_44 rfl rfl ?_
    refine hp_aload_n (x0 := 0) d_M_two_45 rfl rfl ?_
    refine hp_iload_n (x0 := 2) d_M_two_46 rfl rfl ?_
    refine hp_iload_n (x0 := 3) d_M_two_47 rfl rfl ?_
    refine hp_callI (hp_crV (ci := 8) (t_M_equal _ _ _ _ _) cw_M_259 rfl ⟨w_1127, ws_60⟩ (by decide) rfl rfl (Nat.le_of_ble_eq_true rfl) d_M_two_48) fun q1 => ?_
    refine hp_callI (hp_crV (ci := 8) (t_M_given _ _ _ _) cw_M_247 rfl ⟨w_1119, ws_58⟩ (by decide) rfl rfl (Nat.le_of_ble_eq_true rfl) d_M_two_51) fun q2 => ?_
    exact hp_iret d_M_two_54 rfl
  · skip
    refine hp_ite (fun c1 => ?_) (fun c1 => ?_)
    · refine hp_tabI (tgt := 55) (kv := 7) d_M_two_1 c1 (by decide) (by decide) rfl (by decide) ?_
      refine hp_aload_n (x0 := 0) d_M_two_55 rfl rfl ?_
      refine hp_aload_n (x0 := 0) d_M_two_56 rfl rfl ?_
      refine hp_iload_n (x0 := 2) d_M_two_57 rfl rfl ?_
      refine hp_iload_n (x0 := 3) d_M_two_58 rfl rfl ?_
      refine hp_callI (hp_crV (ci := 8) (t_M_equal _ _ _ _ _) cw_M_259 rfl ⟨w_1127, ws_60⟩ (by decide) rfl rfl (Nat.le_of_ble_eq_true rfl) d_M_two_59) fun q3 => ?_
      refine hp_callI (hp_crS (t_M_not _ _ _) cw_M_262 w_1151 (by decide) rfl rfl (Nat.le_of_ble_eq_true rfl) d_M_two_62) fun q4 => ?_
      refine hp_callI (hp_crV (ci := 8) (t_M_given _ _ _ _) cw_M_247 rfl ⟨w_1119, ws_58⟩ (by decide) rfl rfl (Nat.le_of_ble_eq_true rfl) d_M_two_65) fun q5 => ?_
      exact hp_iret d_M_two_68 rfl
    · skip
      refine hp_ite (fun c2 => ?_) (fun c2 => ?_)
      · refine hp_tabI (tgt := 69) (kv := 8) d_M_two_1 c2 (by decide) (by decide) rfl (by decide) ?_
        refine hp_aload_n (x0 := 0) d_M_two_69 rfl rfl ?_
        refine hp_aload_n (x0 := 0) d_M_two_70 rfl rfl ?_
        refine hp_iload_n (x0 := 2) d_M_two_71 rfl rfl ?_
        refine hp_iload_n (x0 := 3) d_M_two_72 rfl rfl ?_
        refine hp_callI (hp_crV (ci := 8) (t_M_less _ _ _ _ _) cw_M_265 rfl ⟨w_1155, ws_66⟩ (by decide) rfl rfl (Nat.le_of_ble_eq_true rfl) d_M_two_73) fun q6 => ?_
        refine hp_callI (hp_crV (ci := 8) (t_M_given _ _ _ _) cw_M_247 rfl ⟨w_1119, ws_58⟩ (by decide) rfl rfl (Nat.le_of_ble_eq_true rfl) d_M_two_76) fun q7 => ?_
        exact hp_iret d_M_two_79 rfl
      · skip
        refine hp_ite (fun c3 => ?_) (fun c3 => ?_)
        · refine hp_tabI (tgt := 80) (kv := 9) d_M_two_1 c3 (by decide) (by decide) rfl (by decide) ?_
          refine hp_aload_n (x0 := 0) d_M_two_80 rfl rfl ?_
          refine hp_aload_n (x0 := 0) d_M_two_81 rfl rfl ?_
          refine hp_iload_n (x0 := 3) d_M_two_82 rfl rfl ?_
          refine hp_iload_n (x0 := 2) d_M_two_83 rfl rfl ?_
          refine hp_callI (hp_crV (ci := 8) (t_M_less _ _ _ _ _) cw_M_265 rfl ⟨w_1155, ws_66⟩ (by decide) rfl rfl (Nat.le_of_ble_eq_true rfl) d_M_two_84) fun q8 => ?_
          refine hp_callI (hp_crS (t_M_not _ _ _) cw_M_262 w_1151 (by decide) rfl rfl (Nat.le_of_ble_eq_true rfl) d_M_two_87) fun q9 => ?_
          refine hp_callI (hp_crV (ci := 8) (t_M_given _ _ _ _) cw_M_247 rfl ⟨w_1119, ws_58⟩ (by decide) rfl rfl (Nat.le_of_ble_eq_true rfl) d_M_two_90) fun q10 => ?_
          exact hp_iret d_M_two_93 rfl
        · skip
          refine hp_ite (fun c4 => ?_) (fun c4 => ?_)
          · refine hp_tabI (tgt := 94) (kv := 10) d_M_two_1 c4 (by decide) (by decide) rfl (by decide) ?_
            refine hp_aload_n (x0 := 0) d_M_two_94 rfl rfl ?_
            refine hp_aload_n (x0 := 0) d_M_two_95 rfl rfl ?_
            refine hp_iload_n (x0 := 3) d_M_two_96 rfl rfl ?_
            refine hp_iload_n (x0 := 2) d_M_two_97 rfl rfl ?_
            refine hp_callI (hp_crV (ci := 8) (t_M_less _ _ _ _ _) cw_M_265 rfl ⟨w_1155, ws_66⟩ (by decide) rfl rfl (Nat.le_of_ble_eq_true rfl) d_M_two_98) fun q11 => ?_
            refine hp_callI (hp_crV (ci := 8) (t_M_given _ _ _ _) cw_M_247 rfl ⟨w_1119, ws_58⟩ (by decide) rfl rfl (Nat.le_of_ble_eq_true rfl) d_M_two_101) fun q12 => ?_
            exact hp_iret d_M_two_104 rfl
          · skip
            refine hp_ite (fun c5 => ?_) (fun c5 => ?_)
            · refine hp_tabI (tgt := 105) (kv := 11) d_M_two_1 c5 (by decide) (by decide) rfl (by decide) ?_
              refine hp_aload_n (x0 := 0) d_M_two_105 rfl rfl ?_
              refine hp_aload_n (x0 := 0) d_M_two_106 rfl rfl ?_
              refine hp_iload_n (x0 := 2) d_M_two_107 rfl rfl ?_
              refine hp_iload_n (x0 := 3) d_M_two_108 rfl rfl ?_
              refine hp_callI (hp_crV (ci := 8) (t_M_less _ _ _ _ _) cw_M_265 rfl ⟨w_1155, ws_66⟩ (by decide) rfl rfl (Nat.le_of_ble_eq_true rfl) d_M_two_109) fun q13 => ?_
              refine hp_callI (hp_crS (t_M_not _ _ _) cw_M_262 w_1151 (by decide) rfl rfl (Nat.le_of_ble_eq_true rfl) d_M_two_112) fun q14 => ?_
              refine hp_callI (hp_crV (ci := 8) (t_M_given _ _ _ _) cw_M_247 rfl ⟨w_1119, ws_58⟩ (by decide) rfl rfl (Nat.le_of_ble_eq_true rfl) d_M_two_115) fun q15 => ?_
              exact hp_iret d_M_two_118 rfl
            · skip
              refine hp_ite (fun c6 => ?_) (fun c6 => ?_)
              · refine hp_tabI (tgt := 119) (kv := 12) d_M_two_1 c6 (by decide) (by decide) rfl (by decide) ?_
                refine hp_aload_n (x0 := 0) d_M_two_119 rfl rfl ?_
                refine hp_iload_n (x0 := 2) d_M_two_120 rfl rfl ?_
                refine hp_iload_n (x0 := 3) d_M_two_121 rfl rfl ?_
                refine hp_icmp_ne (tgt := 129) d_M_two_122 (by decide) ?_ ?_
                · refine hp_iconst (v := 1) d_M_two_125 (by decide) ?_
                  refine hp_goto (tgt := 130) d_M_two_126 (by decide) ?_
                  refine hp_sub [] rfl ?_
                  exact j_M_two_130  _ _ _
                · refine hp_iconst (v := 0) d_M_two_129 (by decide) ?_
                  refine hp_sub [] rfl ?_
                  exact j_M_two_130  _ _ _
              · skip
                refine hp_tabD (tgt := 134) d_M_two_1 (by have e0 := lv_neT c0 (a := 6) (by decide); have e1 := lv_neT c1 (a := 7) (by decide); have e2 := lv_neT c2 (a := 8) (by decide); have e3 := lv_neT c3 (a := 9) (by decide); have e4 := lv_neT c4 (a := 10) (by decide); have e5 := lv_neT c5 (a := 11) (by decide); have e6 := lv_neT c6 (a := 12) (by decide); omega) (by decide) ?_
                refine hp_iload_n (x0 := 1) d_M_two_134 rfl rfl ?_
                refine hp_bipush (v := 29) d_M_two_135 (by decide) ?_
                refine hp_icmp_le (tgt := 148) d_M_two_137 (by decide) ?_ ?_
                · refine hp_aload_n (x0 := 0) d_M_two_148 rfl rfl ?_
                  refine hp_iload_n (x0 := 2) d_M_two_149 rfl rfl ?_
                  refine hp_callI (hp_crV (ci := 8) (t_M_isNumber _ _ _ _) cw_M_168 rfl ⟨w_1052, ws_47⟩ (by decide) rfl rfl (Nat.le_of_ble_eq_true rfl) d_M_two_150) fun q16 => ?_
                  refine hp_if_eq (tgt := 164) d_M_two_153 (by decide) ?_ ?_
                  · refine hp_sub [] rfl ?_
                    exact j_M_two_164   _
                  · refine hp_aload_n (x0 := 0) d_M_two_156 rfl rfl ?_
                    refine hp_iload_n (x0 := 3) d_M_two_157 rfl rfl ?_
                    refine hp_callI (hp_crV (ci := 8) (t_M_isNumber _ _ _ _) cw_M_168 rfl ⟨w_1052, ws_47⟩ (by decide) rfl rfl (Nat.le_of_ble_eq_true rfl) d_M_two_158) fun q17 => ?_
                    refine hp_if_ne (tgt := 167) d_M_two_161 (by decide) ?_ ?_
                    · refine hp_sub [] rfl ?_
                      exact j_M_two_164   _
                    · refine hp_iload_n (x0 := 1) d_M_two_167 rfl rfl ?_
                      refine hp_bipush (v := 13) d_M_two_168 (by decide) ?_
                      refine hp_icmp_ne (tgt := 183) d_M_two_170 (by decide) ?_ ?_
                      · refine hp_aload_n (x0 := 0) d_M_two_173 rfl rfl ?_
                        refine hp_iload_n (x0 := 2) d_M_two_174 rfl rfl ?_
                        refine hp_iload_n (x0 := 3) d_M_two_175 rfl rfl ?_
                        refine hp_iconst (v := 1) d_M_two_176 (by decide) ?_
                        refine hp_callI (hp_crV (ci := 8) (t_M_sum _ _ _ _ _ _) cw_M_271 rfl ⟨w_1179, ws_72⟩ (by decide) rfl rfl (Nat.le_of_ble_eq_true rfl) d_M_two_177) fun q21 => ?_
                        refine hp_goto (tgt := 220) d_M_two_180 (by decide) ?_
                        refine hp_sub [] rfl ?_
                        exact j_M_two_220  _ _
                      · refine hp_iload_n (x0 := 1) d_M_two_183 rfl rfl ?_
                        refine hp_bipush (v := 14) d_M_two_184 (by decide) ?_
                        refine hp_icmp_ne (tgt := 199) d_M_two_186 (by decide) ?_ ?_
                        · refine hp_aload_n (x0 := 0) d_M_two_189 rfl rfl ?_
                          refine hp_iload_n (x0 := 2) d_M_two_190 rfl rfl ?_
                          refine hp_iload_n (x0 := 3) d_M_two_191 rfl rfl ?_
                          refine hp_iconst (v := -1) d_M_two_192 (by decide) ?_
                          refine hp_callI (hp_crV (ci := 8) (t_M_sum _ _ _ _ _ _) cw_M_271 rfl ⟨w_1179, ws_72⟩ (by decide) rfl rfl (Nat.le_of_ble_eq_true rfl) d_M_two_193) fun q20 => ?_
                          refine hp_goto (tgt := 220) d_M_two_196 (by decide) ?_
                          refine hp_sub [] rfl ?_
                          exact j_M_two_220  _ _
                        · refine hp_iload_n (x0 := 1) d_M_two_199 rfl rfl ?_
                          refine hp_bipush (v := 15) d_M_two_200 (by decide) ?_
                          refine hp_icmp_ne (tgt := 214) d_M_two_202 (by decide) ?_ ?_
                          · refine hp_aload_n (x0 := 0) d_M_two_205 rfl rfl ?_
                            refine hp_iload_n (x0 := 2) d_M_two_206 rfl rfl ?_
                            refine hp_iload_n (x0 := 3) d_M_two_207 rfl rfl ?_
                            refine hp_callI (hp_crV (ci := 8) (t_M_product _ _ _ _ _) cw_M_274 rfl ⟨w_1190, ws_74⟩ (by decide) rfl rfl (Nat.le_of_ble_eq_true rfl) d_M_two_208) fun q19 => ?_
                            refine hp_goto (tgt := 220) d_M_two_211 (by decide) ?_
                            refine hp_sub [] rfl ?_
                            exact j_M_two_220  _ _
                          · refine hp_aload_n (x0 := 0) d_M_two_214 rfl rfl ?_
                            refine hp_iload_n (x0 := 2) d_M_two_215 rfl rfl ?_
                            refine hp_iload_n (x0 := 3) d_M_two_216 rfl rfl ?_
                            refine hp_callI (hp_crV (ci := 8) (t_M_quotient _ _ _ _ _) cw_M_277 rfl ⟨w_1200, ws_75⟩ (by decide) rfl rfl (Nat.le_of_ble_eq_true rfl) d_M_two_217) fun q18 => ?_
                            refine hp_sub [] rfl ?_
                            exact j_M_two_220  _ _
                · refine hp_aload_n (x0 := 0) d_M_two_140 rfl rfl ?_
                  refine hp_iload_n (x0 := 1) d_M_two_141 rfl rfl ?_
                  refine hp_iload_n (x0 := 2) d_M_two_142 rfl rfl ?_
                  refine hp_iload_n (x0 := 3) d_M_two_143 rfl rfl ?_
                  refine hp_callI (hp_crV (ci := 8) (t_M_around _ _ _ _ _ _) cw_M_268 rfl ⟨w_1159, ws_67⟩ (by decide) rfl rfl (Nat.le_of_ble_eq_true rfl) d_M_two_144) fun q22 => ?_
                  exact hp_iret d_M_two_147 rfl
theorem t_M_two (l : Launch) (E : hp_E) (a0 : Nat) (a1 : Int32) (a2 : Int32) (a3 : Int32) : hp_M l E y_M_two Y_M_two hp_rI [.ref a0, .int a1, .int a2, .int a3] (m_M_two E.2.2.1 a0 a1 a2 a3) := hp_M.of (plainFor_of_name (by decide)) ⟨rfl, rfl⟩ (Nat.le_of_ble_eq_true rfl) (fun Z h hE => by subst hE; exact j_M_two_0 _ _ _ _ h)
-- M_done
theorem d_M_done_0 : decode prog_9_method_70_code 0 = .ok (.aload_n 0, 1) := by decide +kernel
theorem d_M_done_1 : decode prog_9_method_70_code 1 = .ok (.iload_n 1, 1) := by decide +kernel
theorem d_M_done_2 : decode prog_9_method_70_code 2 = .ok (.iload_n 2, 1) := by decide +kernel
theorem d_M_done_3 : decode prog_9_method_70_code 3 = .ok (.invokevirtual 293, 3) := by decide +kernel
theorem d_M_done_6 : decode prog_9_method_70_code 6 = .ok (.istore_n 3, 1) := by decide +kernel
theorem d_M_done_7 : decode prog_9_method_70_code 7 = .ok (.iload_n 3, 1) := by decide +kernel
theorem d_M_done_8 : decode prog_9_method_70_code 8 = .ok (.bipush (-2), 2) := by decide +kernel
theorem d_M_done_10 : decode prog_9_method_70_code 10 = .ok (.if_icmp .eq 5, 3) := by decide +kernel
theorem d_M_done_13 : decode prog_9_method_70_code 13 = .ok (.iload_n 3, 1) := by decide +kernel
theorem d_M_done_14 : decode prog_9_method_70_code 14 = .ok (.ireturn, 1) := by decide +kernel
theorem d_M_done_15 : decode prog_9_method_70_code 15 = .ok (.aload_n 0, 1) := by decide +kernel
theorem d_M_done_16 : decode prog_9_method_70_code 16 = .ok (.iload_n 1, 1) := by decide +kernel
theorem d_M_done_17 : decode prog_9_method_70_code 17 = .ok (.invokevirtual 241, 3) := by decide +kernel
theorem d_M_done_20 : decode prog_9_method_70_code 20 = .ok (.istore 4, 2) := by decide +kernel
theorem d_M_done_22 : decode prog_9_method_70_code 22 = .ok (.iconst 0, 1) := by decide +kernel
theorem d_M_done_23 : decode prog_9_method_70_code 23 = .ok (.istore 5, 2) := by decide +kernel
theorem d_M_done_25 : decode prog_9_method_70_code 25 = .ok (.iload 5, 2) := by decide +kernel
theorem d_M_done_27 : decode prog_9_method_70_code 27 = .ok (.iload 4, 2) := by decide +kernel
theorem d_M_done_29 : decode prog_9_method_70_code 29 = .ok (.if_icmp .ge 26, 3) := by decide +kernel
theorem d_M_done_32 : decode prog_9_method_70_code 32 = .ok (.aload_n 0, 1) := by decide +kernel
theorem d_M_done_33 : decode prog_9_method_70_code 33 = .ok (.getfield 60, 3) := by decide +kernel
theorem d_M_done_36 : decode prog_9_method_70_code 36 = .ok (.iload_n 2, 1) := by decide +kernel
theorem d_M_done_37 : decode prog_9_method_70_code 37 = .ok (.iload 5, 2) := by decide +kernel
theorem d_M_done_39 : decode prog_9_method_70_code 39 = .ok (.iadd, 1) := by decide +kernel
theorem d_M_done_40 : decode prog_9_method_70_code 40 = .ok (.iaload, 1) := by decide +kernel
theorem d_M_done_41 : decode prog_9_method_70_code 41 = .ok (.bipush (-4), 2) := by decide +kernel
theorem d_M_done_43 : decode prog_9_method_70_code 43 = .ok (.if_icmp .ne 6, 3) := by decide +kernel
theorem d_M_done_46 : decode prog_9_method_70_code 46 = .ok (.bipush (-4), 2) := by decide +kernel
theorem d_M_done_48 : decode prog_9_method_70_code 48 = .ok (.ireturn, 1) := by decide +kernel
theorem d_M_done_49 : decode prog_9_method_70_code 49 = .ok (.iinc 5 1, 3) := by decide +kernel
theorem d_M_done_52 : decode prog_9_method_70_code 52 = .ok (.goto (-27), 3) := by decide +kernel
theorem d_M_done_55 : decode prog_9_method_70_code 55 = .ok (.aload_n 0, 1) := by decide +kernel
theorem d_M_done_56 : decode prog_9_method_70_code 56 = .ok (.getfield 51, 3) := by decide +kernel
theorem d_M_done_59 : decode prog_9_method_70_code 59 = .ok (.iload_n 1, 1) := by decide +kernel
theorem d_M_done_60 : decode prog_9_method_70_code 60 = .ok (.iaload, 1) := by decide +kernel
theorem d_M_done_61 : decode prog_9_method_70_code 61 = .ok (.istore 5, 2) := by decide +kernel
theorem d_M_done_63 : decode prog_9_method_70_code 63 = .ok (.iload 5, 2) := by decide +kernel
theorem d_M_done_65 : decode prog_9_method_70_code 65 = .ok (.bipush 29, 2) := by decide +kernel
theorem d_M_done_67 : decode prog_9_method_70_code 67 = .ok (.if_icmp .ne 11, 3) := by decide +kernel
theorem d_M_done_70 : decode prog_9_method_70_code 70 = .ok (.aload_n 0, 1) := by decide +kernel
theorem d_M_done_71 : decode prog_9_method_70_code 71 = .ok (.iload_n 2, 1) := by decide +kernel
theorem d_M_done_72 : decode prog_9_method_70_code 72 = .ok (.iload 4, 2) := by decide +kernel
theorem d_M_done_74 : decode prog_9_method_70_code 74 = .ok (.invokevirtual 296, 3) := by decide +kernel
theorem d_M_done_77 : decode prog_9_method_70_code 77 = .ok (.ireturn, 1) := by decide +kernel
theorem d_M_done_78 : decode prog_9_method_70_code 78 = .ok (.iload 5, 2) := by decide +kernel
theorem d_M_done_80 : decode prog_9_method_70_code 80 = .ok (.bipush 26, 2) := by decide +kernel
theorem d_M_done_82 : decode prog_9_method_70_code 82 = .ok (.if_icmp .ne 30, 3) := by decide +kernel
theorem d_M_done_85 : decode prog_9_method_70_code 85 = .ok (.aload_n 0, 1) := by decide +kernel
theorem d_M_done_86 : decode prog_9_method_70_code 86 = .ok (.aload_n 0, 1) := by decide +kernel
theorem d_M_done_87 : decode prog_9_method_70_code 87 = .ok (.getfield 60, 3) := by decide +kernel
theorem d_M_done_90 : decode prog_9_method_70_code 90 = .ok (.iload_n 2, 1) := by decide +kernel
theorem d_M_done_91 : decode prog_9_method_70_code 91 = .ok (.iaload, 1) := by decide +kernel
theorem d_M_done_92 : decode prog_9_method_70_code 92 = .ok (.aload_n 0, 1) := by decide +kernel
theorem d_M_done_93 : decode prog_9_method_70_code 93 = .ok (.getfield 60, 3) := by decide +kernel
theorem d_M_done_96 : decode prog_9_method_70_code 96 = .ok (.iload_n 2, 1) := by decide +kernel
theorem d_M_done_97 : decode prog_9_method_70_code 97 = .ok (.iconst 1, 1) := by decide +kernel
theorem d_M_done_98 : decode prog_9_method_70_code 98 = .ok (.iadd, 1) := by decide +kernel
theorem d_M_done_99 : decode prog_9_method_70_code 99 = .ok (.iaload, 1) := by decide +kernel
theorem d_M_done_100 : decode prog_9_method_70_code 100 = .ok (.aload_n 0, 1) := by decide +kernel
theorem d_M_done_101 : decode prog_9_method_70_code 101 = .ok (.getfield 60, 3) := by decide +kernel
theorem d_M_done_104 : decode prog_9_method_70_code 104 = .ok (.iload_n 2, 1) := by decide +kernel
theorem d_M_done_105 : decode prog_9_method_70_code 105 = .ok (.iconst 2, 1) := by decide +kernel
theorem d_M_done_106 : decode prog_9_method_70_code 106 = .ok (.iadd, 1) := by decide +kernel
theorem d_M_done_107 : decode prog_9_method_70_code 107 = .ok (.iaload, 1) := by decide +kernel
theorem d_M_done_108 : decode prog_9_method_70_code 108 = .ok (.invokevirtual 299, 3) := by decide +kernel
theorem d_M_done_111 : decode prog_9_method_70_code 111 = .ok (.ireturn, 1) := by decide +kernel
theorem d_M_done_112 : decode prog_9_method_70_code 112 = .ok (.iload 4, 2) := by decide +kernel
theorem d_M_done_114 : decode prog_9_method_70_code 114 = .ok (.iconst 2, 1) := by decide +kernel
theorem d_M_done_115 : decode prog_9_method_70_code 115 = .ok (.if_icmp .ne 26, 3) := by decide +kernel
theorem d_M_done_118 : decode prog_9_method_70_code 118 = .ok (.aload_n 0, 1) := by decide +kernel
theorem d_M_done_119 : decode prog_9_method_70_code 119 = .ok (.iload 5, 2) := by decide +kernel
theorem d_M_done_121 : decode prog_9_method_70_code 121 = .ok (.aload_n 0, 1) := by decide +kernel
theorem d_M_done_122 : decode prog_9_method_70_code 122 = .ok (.getfield 60, 3) := by decide +kernel
theorem d_M_done_125 : decode prog_9_method_70_code 125 = .ok (.iload_n 2, 1) := by decide +kernel
theorem d_M_done_126 : decode prog_9_method_70_code 126 = .ok (.iaload, 1) := by decide +kernel
theorem d_M_done_127 : decode prog_9_method_70_code 127 = .ok (.aload_n 0, 1) := by decide +kernel
theorem d_M_done_128 : decode prog_9_method_70_code 128 = .ok (.getfield 60, 3) := by decide +kernel
theorem d_M_done_131 : decode prog_9_method_70_code 131 = .ok (.iload_n 2, 1) := by decide +kernel
theorem d_M_done_132 : decode prog_9_method_70_code 132 = .ok (.iconst 1, 1) := by decide +kernel
theorem d_M_done_133 : decode prog_9_method_70_code 133 = .ok (.iadd, 1) := by decide +kernel
theorem d_M_done_134 : decode prog_9_method_70_code 134 = .ok (.iaload, 1) := by decide +kernel
theorem d_M_done_135 : decode prog_9_method_70_code 135 = .ok (.invokevirtual 302, 3) := by decide +kernel
theorem d_M_done_138 : decode prog_9_method_70_code 138 = .ok (.goto 15, 3) := by decide +kernel
theorem d_M_done_141 : decode prog_9_method_70_code 141 = .ok (.aload_n 0, 1) := by decide +kernel
theorem d_M_done_142 : decode prog_9_method_70_code 142 = .ok (.iload 5, 2) := by decide +kernel
theorem d_M_done_144 : decode prog_9_method_70_code 144 = .ok (.aload_n 0, 1) := by decide +kernel
theorem d_M_done_145 : decode prog_9_method_70_code 145 = .ok (.getfield 60, 3) := by decide +kernel
theorem d_M_done_148 : decode prog_9_method_70_code 148 = .ok (.iload_n 2, 1) := by decide +kernel
theorem d_M_done_149 : decode prog_9_method_70_code 149 = .ok (.iaload, 1) := by decide +kernel
theorem d_M_done_150 : decode prog_9_method_70_code 150 = .ok (.invokevirtual 305, 3) := by decide +kernel
theorem d_M_done_153 : decode prog_9_method_70_code 153 = .ok (.ireturn, 1) := by decide +kernel
def m_M_done_153 (G : Nat → Nat) (s0 : Int32) (h : hp_H) : Option (Int32 × hp_H) := some (s0, h)
set_option maxRecDepth 100000 in
set_option maxHeartbeats 4000000 in
theorem j_M_done_153 {Z : hp_Z} (s0 : Int32) (h : hp_H) : hp_J Y_M_done Z hp_rI h 153 [] [.int s0] (m_M_done_153 (hp_G Z)  s0 h) := by
  unfold m_M_done_153
  exact hp_iret d_M_done_153 rfl
def m_M_done_25 (G : Nat → Nat) : Nat → Nat → Int32 → Int32 → Int32 → Int32 → hp_H → Option (Int32 × hp_H)
  | 0, _, _, _, _, _, _ => none
  | n + 1, a0, a1, a2, a4, a5, h => if a4 ≤ a5 then ((hp_gR h a0 8 20).bind fun x1 => (hp_aI h .int x1 a1).bind fun x2 => hp_nm x2 fun x3 => if x3 = (29 : Int32) then ((hp_vck h a0 8 (m_M_rowOf G a0 a2 a4 h)).bind fun q19 => some (q19.1, q19.2)) else (if x3 = (26 : Int32) then ((hp_gR h a0 8 24).bind fun x12 => (hp_aI h .int x12 a2).bind fun x13 => (hp_gR h a0 8 24).bind fun x14 => (hp_aI h .int x14 (a2 + (1 : Int32))).bind fun x15 => (hp_gR h a0 8 24).bind fun x16 => (hp_aI h .int x16 (a2 + (2 : Int32))).bind fun x17 => (hp_vck h a0 8 (m_M_some G a0 x13 x15 x17 h)).bind fun q18 => some (q18.1, q18.2)) else (if a4 = (2 : Int32) then ((hp_gR h a0 8 24).bind fun x7 => (hp_aI h .int x7 a2).bind fun x8 => (hp_gR h a0 8 24).bind fun x9 => (hp_aI h .int x9 (a2 + (1 : Int32))).bind fun x10 => (hp_vck h a0 8 (m_M_two G a0 x3 x8 x10 h)).bind fun q11 => m_M_done_153 G q11.1 q11.2) else ((hp_gR h a0 8 24).bind fun x4 => (hp_aI h .int x4 a2).bind fun x5 => (hp_vck h a0 8 (m_M_one G a0 x3 x5 h)).bind fun q6 => m_M_done_153 G q6.1 q6.2)))) else ((hp_gR h a0 8 24).bind fun x20 => (hp_aI h .int x20 (a2 + a5)).bind fun x21 => if x21 = (-4 : Int32) then (some ((-4 : Int32), h)) else (hp_nm (a5 + 1) fun x22 => (m_M_done_25 G  n) a0 a1 a2 a4 x22 h))
set_option maxRecDepth 100000 in
set_option maxHeartbeats 4000000 in
theorem j_M_done_25 {Z : hp_Z} : ∀ (n : Nat) (a0 : Nat) (a1 : Int32) (a2 : Int32) (a4 : Int32) (a5 : Int32) (h : hp_H), hp_J Y_M_done Z hp_rI h 25 [(0, .ref a0), (1, .int a1), (2, .int a2), (4, .int a4), (5, .int a5)] [] (m_M_done_25 (hp_G Z)  n a0 a1 a2 a4 a5 h) := by
  intro n
  induction n with
  | zero => intro a0 a1 a2 a4 a5 h; exact hp_fail
  | succ n ih =>
    intro a0 a1 a2 a4 a5 h
    rw [m_M_done_25]
    refine hp_iload (x0 := 4) d_M_done_25 rfl ?_
    refine hp_iload (x0 := 3) d_M_done_27 rfl ?_
    refine hp_icmp_ge (tgt := 55) d_M_done_29 (by decide) ?_ ?_
    · refine hp_aload_n (x0 := 0) d_M_done_55 rfl rfl ?_
      refine hp_getR fl_M_51 d_M_done_56 fun x1 => ?_
      refine hp_iload_n (x0 := 1) d_M_done_59 rfl rfl ?_
      refine hp_iald d_M_done_60 fun x2 => ?_
      refine hp_istore (fun x3 => [(5, .int x3), (0, .ref a0), (1, .int a1), (2, .int a2), (4, .int a4)]) d_M_done_61 (by decide) (fun _ => rfl) fun x3 => ?_
      refine hp_iload (x0 := 0) d_M_done_63 rfl ?_
      refine hp_bipush (v := 29) d_M_done_65 (by decide) ?_
      refine hp_icmp_ne (tgt := 78) d_M_done_67 (by decide) ?_ ?_
      · refine hp_aload_n (x0 := 1) d_M_done_70 rfl rfl ?_
        refine hp_iload_n (x0 := 3) d_M_done_71 rfl rfl ?_
        refine hp_iload (x0 := 4) d_M_done_72 rfl ?_
        refine hp_callI (hp_crV (ci := 8) (t_M_rowOf _ _ _ _ _) cw_M_296 rfl ⟨w_1131, ws_61⟩ (by decide) rfl rfl (Nat.le_of_ble_eq_true rfl) d_M_done_74) fun q19 => ?_
        exact hp_iret d_M_done_77 rfl
      · refine hp_iload (x0 := 0) d_M_done_78 rfl ?_
        refine hp_bipush (v := 26) d_M_done_80 (by decide) ?_
        refine hp_icmp_ne (tgt := 112) d_M_done_82 (by decide) ?_ ?_
        · refine hp_aload_n (x0 := 1) d_M_done_85 rfl rfl ?_
          refine hp_aload_n (x0 := 1) d_M_done_86 rfl rfl ?_
          refine hp_getR fl_M_60 d_M_done_87 fun x12 => ?_
          refine hp_iload_n (x0 := 3) d_M_done_90 rfl rfl ?_
          refine hp_iald d_M_done_91 fun x13 => ?_
          refine hp_aload_n (x0 := 1) d_M_done_92 rfl rfl ?_
          refine hp_getR fl_M_60 d_M_done_93 fun x14 => ?_
          refine hp_iload_n (x0 := 3) d_M_done_96 rfl rfl ?_
          refine hp_iconst (v := 1) d_M_done_97 (by decide) ?_
          refine hp_iadd d_M_done_98 ?_
          refine hp_iald d_M_done_99 fun x15 => ?_
          refine hp_aload_n (x0 := 1) d_M_done_100 rfl rfl ?_
          refine hp_getR fl_M_60 d_M_done_101 fun x16 => ?_
          refine hp_iload_n (x0 := 3) d_M_done_104 rfl rfl ?_
          refine hp_iconst (v := 2) d_M_done_105 (by decide) ?_
          refine hp_iadd d_M_done_106 ?_
          refine hp_iald d_M_done_107 fun x17 => ?_
          refine hp_callI (hp_crV (ci := 8) (t_M_some _ _ _ _ _ _) cw_M_299 rfl ⟨w_1143, ws_64⟩ (by decide) rfl rfl (Nat.le_of_ble_eq_true rfl) d_M_done_108) fun q18 => ?_
          exact hp_iret d_M_done_111 rfl
        · refine hp_iload (x0 := 4) d_M_done_112 rfl ?_
          refine hp_iconst (v := 2) d_M_done_114 (by decide) ?_
          refine hp_icmp_ne (tgt := 141) d_M_done_115 (by decide) ?_ ?_
          · refine hp_aload_n (x0 := 1) d_M_done_118 rfl rfl ?_
            refine hp_iload (x0 := 0) d_M_done_119 rfl ?_
            refine hp_aload_n (x0 := 1) d_M_done_121 rfl rfl ?_
            refine hp_getR fl_M_60 d_M_done_122 fun x7 => ?_
            refine hp_iload_n (x0 := 3) d_M_done_125 rfl rfl ?_
            refine hp_iald d_M_done_126 fun x8 => ?_
            refine hp_aload_n (x0 := 1) d_M_done_127 rfl rfl ?_
            refine hp_getR fl_M_60 d_M_done_128 fun x9 => ?_
            refine hp_iload_n (x0 := 3) d_M_done_131 rfl rfl ?_
            refine hp_iconst (v := 1) d_M_done_132 (by decide) ?_
            refine hp_iadd d_M_done_133 ?_
            refine hp_iald d_M_done_134 fun x10 => ?_
            refine hp_callI (hp_crV (ci := 8) (t_M_two _ _ _ _ _ _) cw_M_302 rfl ⟨w_1148, ws_65⟩ (by decide) rfl rfl (Nat.le_of_ble_eq_true rfl) d_M_done_135) fun q11 => ?_
            refine hp_goto (tgt := 153) d_M_done_138 (by decide) ?_
            refine hp_sub [] rfl ?_
            exact j_M_done_153  _ _
          · refine hp_aload_n (x0 := 1) d_M_done_141 rfl rfl ?_
            refine hp_iload (x0 := 0) d_M_done_142 rfl ?_
            refine hp_aload_n (x0 := 1) d_M_done_144 rfl rfl ?_
            refine hp_getR fl_M_60 d_M_done_145 fun x4 => ?_
            refine hp_iload_n (x0 := 3) d_M_done_148 rfl rfl ?_
            refine hp_iald d_M_done_149 fun x5 => ?_
            refine hp_callI (hp_crV (ci := 8) (t_M_one _ _ _ _ _) cw_M_305 rfl ⟨w_1204, ws_76⟩ (by decide) rfl rfl (Nat.le_of_ble_eq_true rfl) d_M_done_150) fun q6 => ?_
            refine hp_sub [] rfl ?_
            exact j_M_done_153  _ _
    · refine hp_aload_n (x0 := 0) d_M_done_32 rfl rfl ?_
      refine hp_getR fl_M_60 d_M_done_33 fun x20 => ?_
      refine hp_iload_n (x0 := 2) d_M_done_36 rfl rfl ?_
      refine hp_iload (x0 := 4) d_M_done_37 rfl ?_
      refine hp_iadd d_M_done_39 ?_
      refine hp_iald d_M_done_40 fun x21 => ?_
      refine hp_bipush (v := -4) d_M_done_41 (by decide) ?_
      refine hp_icmp_ne (tgt := 49) d_M_done_43 (by decide) ?_ ?_
      · refine hp_bipush (v := -4) d_M_done_46 (by decide) ?_
        exact hp_iret d_M_done_48 rfl
      · refine hp_iinc (x0 := 4) (d := 1) (fun x22 => [(5, .int x22), (0, .ref a0), (1, .int a1), (2, .int a2), (4, .int a4)]) d_M_done_49 rfl (by decide) (by decide) (fun _ => rfl) fun x22 => ?_
        refine hp_goto (tgt := 25) d_M_done_52 (by decide) ?_
        refine hp_sub [1, 2, 3, 4, 0] rfl ?_
        exact ih _ _ _ _ _ _
def m_M_done (G : Nat → Nat) (a0 : Nat) (a1 : Int32) (a2 : Int32) (h : hp_H) : Option (Int32 × hp_H) := (hp_vck h a0 8 (m_M_ofItsOwn G a0 a1 a2 h)).bind fun q1 => hp_nm q1.1 fun x2 => if x2 = (-2 : Int32) then ((hp_vck q1.2 a0 8 (m_M_takes G a0 a1 q1.2)).bind fun q3 => hp_nm q3.1 fun x4 => hp_nm (0 : Int32) fun x5 => m_M_done_25 G hp_fu a0 a1 a2 x4 x5 q3.2) else (some (x2, q1.2))
set_option maxRecDepth 100000 in
set_option maxHeartbeats 4000000 in
theorem j_M_done_0 {Z : hp_Z} (a0 : Nat) (a1 : Int32) (a2 : Int32) (h : hp_H) : hp_J Y_M_done Z hp_rI h 0 [(0, .ref a0), (1, .int a1), (2, .int a2)] [] (m_M_done (hp_G Z)  a0 a1 a2 h) := by
  unfold m_M_done
  refine hp_aload_n (x0 := 0) d_M_done_0 rfl rfl ?_
  refine hp_iload_n (x0 := 1) d_M_done_1 rfl rfl ?_
  refine hp_iload_n (x0 := 2) d_M_done_2 rfl rfl ?_
  refine hp_callI (hp_crV (ci := 8) (t_M_ofItsOwn _ _ _ _ _) cw_M_293 rfl ⟨w_1099, ws_54⟩ (by decide) rfl rfl (Nat.le_of_ble_eq_true rfl) d_M_done_3) fun q1 => ?_
  refine hp_istore_n (fun x2 => [(3, .int x2), (0, .ref a0), (1, .int a1), (2, .int a2)]) d_M_done_6 rfl (by decide) (fun _ => rfl) fun x2 => ?_
  refine hp_iload_n (x0 := 0) d_M_done_7 rfl rfl ?_
  refine hp_bipush (v := -2) d_M_done_8 (by decide) ?_
  refine hp_icmp_eq (tgt := 15) d_M_done_10 (by decide) ?_ ?_
  · refine hp_aload_n (x0 := 1) d_M_done_15 rfl rfl ?_
    refine hp_iload_n (x0 := 2) d_M_done_16 rfl rfl ?_
    refine hp_callI (hp_crV (ci := 8) (t_M_takes _ _ _ _) cw_M_241 rfl ⟨w_1091, ws_52⟩ (by decide) rfl rfl (Nat.le_of_ble_eq_true rfl) d_M_done_17) fun q3 => ?_
    refine hp_istore (fun x4 => [(4, .int x4), (3, .int x2), (0, .ref a0), (1, .int a1), (2, .int a2)]) d_M_done_20 (by decide) (fun _ => rfl) fun x4 => ?_
    refine hp_iconst (v := 0) d_M_done_22 (by decide) ?_
    refine hp_istore (fun x5 => [(5, .int x5), (4, .int x4), (3, .int x2), (0, .ref a0), (1, .int a1), (2, .int a2)]) d_M_done_23 (by decide) (fun _ => rfl) fun x5 => ?_
    refine hp_sub [3, 4, 5, 1, 0] rfl ?_
    exact j_M_done_25  hp_fu _ _ _ _ _ _
  · refine hp_iload_n (x0 := 0) d_M_done_13 rfl rfl ?_
    exact hp_iret d_M_done_14 rfl
theorem t_M_done (l : Launch) (E : hp_E) (a0 : Nat) (a1 : Int32) (a2 : Int32) : hp_M l E y_M_done Y_M_done hp_rI [.ref a0, .int a1, .int a2] (m_M_done E.2.2.1 a0 a1 a2) := hp_M.of (plainFor_of_name (by decide)) ⟨rfl, rfl⟩ (Nat.le_of_ble_eq_true rfl) (fun Z h hE => by subst hE; exact j_M_done_0 _ _ _ h)
-- M_isRight
theorem d_M_isRight_0 : decode prog_9_method_62_code 0 = .ok (.iconst 0, 1) := by decide +kernel
theorem d_M_isRight_1 : decode prog_9_method_62_code 1 = .ok (.istore_n 1, 1) := by decide +kernel
theorem d_M_isRight_2 : decode prog_9_method_62_code 2 = .ok (.iconst 0, 1) := by decide +kernel
theorem d_M_isRight_3 : decode prog_9_method_62_code 3 = .ok (.istore_n 2, 1) := by decide +kernel
theorem d_M_isRight_4 : decode prog_9_method_62_code 4 = .ok (.iload_n 2, 1) := by decide +kernel
theorem d_M_isRight_5 : decode prog_9_method_62_code 5 = .ok (.aload_n 0, 1) := by decide +kernel
theorem d_M_isRight_6 : decode prog_9_method_62_code 6 = .ok (.getfield 238, 3) := by decide +kernel
theorem d_M_isRight_9 : decode prog_9_method_62_code 9 = .ok (.if_icmp .ge 30, 3) := by decide +kernel
theorem d_M_isRight_12 : decode prog_9_method_62_code 12 = .ok (.iload_n 1, 1) := by decide +kernel
theorem d_M_isRight_13 : decode prog_9_method_62_code 13 = .ok (.aload_n 0, 1) := by decide +kernel
theorem d_M_isRight_14 : decode prog_9_method_62_code 14 = .ok (.iload_n 2, 1) := by decide +kernel
theorem d_M_isRight_15 : decode prog_9_method_62_code 15 = .ok (.invokevirtual 241, 3) := by decide +kernel
theorem d_M_isRight_18 : decode prog_9_method_62_code 18 = .ok (.if_icmp .ge 5, 3) := by decide +kernel
theorem d_M_isRight_21 : decode prog_9_method_62_code 21 = .ok (.iconst 0, 1) := by decide +kernel
theorem d_M_isRight_22 : decode prog_9_method_62_code 22 = .ok (.ireturn, 1) := by decide +kernel
theorem d_M_isRight_23 : decode prog_9_method_62_code 23 = .ok (.iload_n 1, 1) := by decide +kernel
theorem d_M_isRight_24 : decode prog_9_method_62_code 24 = .ok (.iconst 1, 1) := by decide +kernel
theorem d_M_isRight_25 : decode prog_9_method_62_code 25 = .ok (.aload_n 0, 1) := by decide +kernel
theorem d_M_isRight_26 : decode prog_9_method_62_code 26 = .ok (.iload_n 2, 1) := by decide +kernel
theorem d_M_isRight_27 : decode prog_9_method_62_code 27 = .ok (.invokevirtual 241, 3) := by decide +kernel
theorem d_M_isRight_30 : decode prog_9_method_62_code 30 = .ok (.isub, 1) := by decide +kernel
theorem d_M_isRight_31 : decode prog_9_method_62_code 31 = .ok (.iadd, 1) := by decide +kernel
theorem d_M_isRight_32 : decode prog_9_method_62_code 32 = .ok (.istore_n 1, 1) := by decide +kernel
theorem d_M_isRight_33 : decode prog_9_method_62_code 33 = .ok (.iinc 2 1, 3) := by decide +kernel
theorem d_M_isRight_36 : decode prog_9_method_62_code 36 = .ok (.goto (-32), 3) := by decide +kernel
theorem d_M_isRight_39 : decode prog_9_method_62_code 39 = .ok (.iload_n 1, 1) := by decide +kernel
theorem d_M_isRight_40 : decode prog_9_method_62_code 40 = .ok (.iconst 1, 1) := by decide +kernel
theorem d_M_isRight_41 : decode prog_9_method_62_code 41 = .ok (.if_icmp .ne 7, 3) := by decide +kernel
theorem d_M_isRight_44 : decode prog_9_method_62_code 44 = .ok (.iconst 1, 1) := by decide +kernel
theorem d_M_isRight_45 : decode prog_9_method_62_code 45 = .ok (.goto 4, 3) := by decide +kernel
theorem d_M_isRight_48 : decode prog_9_method_62_code 48 = .ok (.iconst 0, 1) := by decide +kernel
theorem d_M_isRight_49 : decode prog_9_method_62_code 49 = .ok (.ireturn, 1) := by decide +kernel
def m_M_isRight_49 (G : Nat → Nat) (s0 : Int32) (h : hp_H) : Option (Int32 × hp_H) := hp_z s0 h
set_option maxRecDepth 100000 in
set_option maxHeartbeats 4000000 in
theorem j_M_isRight_49 {Z : hp_Z} (s0 : Int32) (h : hp_H) : hp_J Y_M_isRight Z hp_rI h 49 [] [.int s0] (m_M_isRight_49 (hp_G Z)  s0 h) := by
  unfold m_M_isRight_49
  exact hp_zret d_M_isRight_49 rfl
def m_M_isRight_4 (G : Nat → Nat) : Nat → Nat → Int32 → Int32 → hp_H → Option (Int32 × hp_H)
  | 0, _, _, _, _ => none
  | n + 1, a0, a1, a2, h => (hp_gI h a0 8 22).bind fun x1 => if x1 ≤ a2 then (if a1 = (1 : Int32) then (m_M_isRight_49 G (1 : Int32) h) else (m_M_isRight_49 G (0 : Int32) h)) else ((hp_vck h a0 8 (m_M_takes G a0 a2 h)).bind fun q2 => if q2.1 ≤ a1 then ((hp_vck q2.2 a0 8 (m_M_takes G a0 a2 q2.2)).bind fun q3 => hp_nm (a1 + ((1 : Int32) - q3.1)) fun x4 => hp_nm (a2 + 1) fun x5 => (m_M_isRight_4 G  n) a0 x4 x5 q3.2) else (hp_z (0 : Int32) q2.2))
set_option maxRecDepth 100000 in
set_option maxHeartbeats 4000000 in
theorem j_M_isRight_4 {Z : hp_Z} : ∀ (n : Nat) (a0 : Nat) (a1 : Int32) (a2 : Int32) (h : hp_H), hp_J Y_M_isRight Z hp_rI h 4 [(0, .ref a0), (1, .int a1), (2, .int a2)] [] (m_M_isRight_4 (hp_G Z)  n a0 a1 a2 h) := by
  intro n
  induction n with
  | zero => intro a0 a1 a2 h; exact hp_fail
  | succ n ih =>
    intro a0 a1 a2 h
    rw [m_M_isRight_4]
    refine hp_iload_n (x0 := 2) d_M_isRight_4 rfl rfl ?_
    refine hp_aload_n (x0 := 0) d_M_isRight_5 rfl rfl ?_
    refine hp_getI fl_M_238 d_M_isRight_6 fun x1 => ?_
    refine hp_icmp_ge (tgt := 39) d_M_isRight_9 (by decide) ?_ ?_
    · refine hp_iload_n (x0 := 1) d_M_isRight_39 rfl rfl ?_
      refine hp_iconst (v := 1) d_M_isRight_40 (by decide) ?_
      refine hp_icmp_ne (tgt := 48) d_M_isRight_41 (by decide) ?_ ?_
      · refine hp_iconst (v := 1) d_M_isRight_44 (by decide) ?_
        refine hp_goto (tgt := 49) d_M_isRight_45 (by decide) ?_
        refine hp_sub [] rfl ?_
        exact j_M_isRight_49  _ _
      · refine hp_iconst (v := 0) d_M_isRight_48 (by decide) ?_
        refine hp_sub [] rfl ?_
        exact j_M_isRight_49  _ _
    · refine hp_iload_n (x0 := 1) d_M_isRight_12 rfl rfl ?_
      refine hp_aload_n (x0 := 0) d_M_isRight_13 rfl rfl ?_
      refine hp_iload_n (x0 := 2) d_M_isRight_14 rfl rfl ?_
      refine hp_callI (hp_crV (ci := 8) (t_M_takes _ _ _ _) cw_M_241 rfl ⟨w_1091, ws_52⟩ (by decide) rfl rfl (Nat.le_of_ble_eq_true rfl) d_M_isRight_15) fun q2 => ?_
      refine hp_icmp_ge (tgt := 23) d_M_isRight_18 (by decide) ?_ ?_
      · refine hp_iload_n (x0 := 1) d_M_isRight_23 rfl rfl ?_
        refine hp_iconst (v := 1) d_M_isRight_24 (by decide) ?_
        refine hp_aload_n (x0 := 0) d_M_isRight_25 rfl rfl ?_
        refine hp_iload_n (x0 := 2) d_M_isRight_26 rfl rfl ?_
        refine hp_callI (hp_crV (ci := 8) (t_M_takes _ _ _ _) cw_M_241 rfl ⟨w_1091, ws_52⟩ (by decide) rfl rfl (Nat.le_of_ble_eq_true rfl) d_M_isRight_27) fun q3 => ?_
        refine hp_isub d_M_isRight_30 ?_
        refine hp_iadd d_M_isRight_31 ?_
        refine hp_istore_n (fun x4 => [(1, .int x4), (0, .ref a0), (2, .int a2)]) d_M_isRight_32 rfl (by decide) (fun _ => rfl) fun x4 => ?_
        refine hp_iinc (x0 := 2) (d := 1) (fun x5 => [(2, .int x5), (1, .int x4), (0, .ref a0)]) d_M_isRight_33 rfl (by decide) (by decide) (fun _ => rfl) fun x5 => ?_
        refine hp_goto (tgt := 4) d_M_isRight_36 (by decide) ?_
        refine hp_sub [2, 1, 0] rfl ?_
        exact ih _ _ _ _
      · refine hp_iconst (v := 0) d_M_isRight_21 (by decide) ?_
        exact hp_zret d_M_isRight_22 rfl
def m_M_isRight (G : Nat → Nat) (a0 : Nat) (h : hp_H) : Option (Int32 × hp_H) := hp_nm (0 : Int32) fun x1 => hp_nm (0 : Int32) fun x2 => m_M_isRight_4 G hp_fu a0 x1 x2 h
set_option maxRecDepth 100000 in
set_option maxHeartbeats 4000000 in
theorem j_M_isRight_0 {Z : hp_Z} (a0 : Nat) (h : hp_H) : hp_J Y_M_isRight Z hp_rI h 0 [(0, .ref a0)] [] (m_M_isRight (hp_G Z)  a0 h) := by
  unfold m_M_isRight
  refine hp_iconst (v := 0) d_M_isRight_0 (by decide) ?_
  refine hp_istore_n (fun x1 => [(1, .int x1), (0, .ref a0)]) d_M_isRight_1 rfl (by decide) (fun _ => rfl) fun x1 => ?_
  refine hp_iconst (v := 0) d_M_isRight_2 (by decide) ?_
  refine hp_istore_n (fun x2 => [(2, .int x2), (1, .int x1), (0, .ref a0)]) d_M_isRight_3 rfl (by decide) (fun _ => rfl) fun x2 => ?_
  refine hp_sub [2, 1, 0] rfl ?_
  exact j_M_isRight_4  hp_fu _ _ _ _
theorem t_M_isRight (l : Launch) (E : hp_E) (a0 : Nat) : hp_M l E y_M_isRight Y_M_isRight hp_rI [.ref a0] (m_M_isRight E.2.2.1 a0) := hp_M.of (plainFor_of_name (by decide)) ⟨rfl, rfl⟩ (Nat.le_of_ble_eq_true rfl) (fun Z h hE => by subst hE; exact j_M_isRight_0 _ h)
-- M_run
theorem d_M_run_0 : decode prog_9_method_71_code 0 = .ok (.aload_n 0, 1) := by decide +kernel
theorem d_M_run_1 : decode prog_9_method_71_code 1 = .ok (.invokevirtual 308, 3) := by decide +kernel
theorem d_M_run_4 : decode prog_9_method_71_code 4 = .ok (.ifCond .ne 5, 3) := by decide +kernel
theorem d_M_run_7 : decode prog_9_method_71_code 7 = .ok (.iconst (-1), 1) := by decide +kernel
theorem d_M_run_8 : decode prog_9_method_71_code 8 = .ok (.ireturn, 1) := by decide +kernel
theorem d_M_run_9 : decode prog_9_method_71_code 9 = .ok (.iconst 0, 1) := by decide +kernel
theorem d_M_run_10 : decode prog_9_method_71_code 10 = .ok (.istore_n 1, 1) := by decide +kernel
theorem d_M_run_11 : decode prog_9_method_71_code 11 = .ok (.iconst 0, 1) := by decide +kernel
theorem d_M_run_12 : decode prog_9_method_71_code 12 = .ok (.istore_n 2, 1) := by decide +kernel
theorem d_M_run_13 : decode prog_9_method_71_code 13 = .ok (.iload_n 2, 1) := by decide +kernel
theorem d_M_run_14 : decode prog_9_method_71_code 14 = .ok (.aload_n 0, 1) := by decide +kernel
theorem d_M_run_15 : decode prog_9_method_71_code 15 = .ok (.getfield 238, 3) := by decide +kernel
theorem d_M_run_18 : decode prog_9_method_71_code 18 = .ok (.if_icmp .ge 43, 3) := by decide +kernel
theorem d_M_run_21 : decode prog_9_method_71_code 21 = .ok (.iload_n 1, 1) := by decide +kernel
theorem d_M_run_22 : decode prog_9_method_71_code 22 = .ok (.aload_n 0, 1) := by decide +kernel
theorem d_M_run_23 : decode prog_9_method_71_code 23 = .ok (.iload_n 2, 1) := by decide +kernel
theorem d_M_run_24 : decode prog_9_method_71_code 24 = .ok (.invokevirtual 241, 3) := by decide +kernel
theorem d_M_run_27 : decode prog_9_method_71_code 27 = .ok (.isub, 1) := by decide +kernel
theorem d_M_run_28 : decode prog_9_method_71_code 28 = .ok (.istore_n 1, 1) := by decide +kernel
theorem d_M_run_29 : decode prog_9_method_71_code 29 = .ok (.aload_n 0, 1) := by decide +kernel
theorem d_M_run_30 : decode prog_9_method_71_code 30 = .ok (.iload_n 2, 1) := by decide +kernel
theorem d_M_run_31 : decode prog_9_method_71_code 31 = .ok (.iload_n 1, 1) := by decide +kernel
theorem d_M_run_32 : decode prog_9_method_71_code 32 = .ok (.invokevirtual 312, 3) := by decide +kernel
theorem d_M_run_35 : decode prog_9_method_71_code 35 = .ok (.istore_n 3, 1) := by decide +kernel
theorem d_M_run_36 : decode prog_9_method_71_code 36 = .ok (.iload_n 3, 1) := by decide +kernel
theorem d_M_run_37 : decode prog_9_method_71_code 37 = .ok (.bipush (-3), 2) := by decide +kernel
theorem d_M_run_39 : decode prog_9_method_71_code 39 = .ok (.if_icmp .ne 6, 3) := by decide +kernel
theorem d_M_run_42 : decode prog_9_method_71_code 42 = .ok (.bipush (-3), 2) := by decide +kernel
theorem d_M_run_44 : decode prog_9_method_71_code 44 = .ok (.ireturn, 1) := by decide +kernel
theorem d_M_run_45 : decode prog_9_method_71_code 45 = .ok (.aload_n 0, 1) := by decide +kernel
theorem d_M_run_46 : decode prog_9_method_71_code 46 = .ok (.getfield 60, 3) := by decide +kernel
theorem d_M_run_49 : decode prog_9_method_71_code 49 = .ok (.iload_n 1, 1) := by decide +kernel
theorem d_M_run_50 : decode prog_9_method_71_code 50 = .ok (.iload_n 3, 1) := by decide +kernel
theorem d_M_run_51 : decode prog_9_method_71_code 51 = .ok (.iastore, 1) := by decide +kernel
theorem d_M_run_52 : decode prog_9_method_71_code 52 = .ok (.iinc 1 1, 3) := by decide +kernel
theorem d_M_run_55 : decode prog_9_method_71_code 55 = .ok (.iinc 2 1, 3) := by decide +kernel
theorem d_M_run_58 : decode prog_9_method_71_code 58 = .ok (.goto (-45), 3) := by decide +kernel
theorem d_M_run_61 : decode prog_9_method_71_code 61 = .ok (.aload_n 0, 1) := by decide +kernel
theorem d_M_run_62 : decode prog_9_method_71_code 62 = .ok (.getfield 60, 3) := by decide +kernel
theorem d_M_run_65 : decode prog_9_method_71_code 65 = .ok (.iconst 0, 1) := by decide +kernel
theorem d_M_run_66 : decode prog_9_method_71_code 66 = .ok (.iaload, 1) := by decide +kernel
theorem d_M_run_67 : decode prog_9_method_71_code 67 = .ok (.ireturn, 1) := by decide +kernel
def m_M_run_13 (G : Nat → Nat) : Nat → Nat → Int32 → Int32 → hp_H → Option (Int32 × hp_H)
  | 0, _, _, _, _ => none
  | n + 1, a0, a1, a2, h => (hp_gI h a0 8 22).bind fun x1 => if x1 ≤ a2 then ((hp_gR h a0 8 24).bind fun x2 => (hp_aI h .int x2 (0 : Int32)).bind fun x3 => some (x3, h)) else ((hp_vck h a0 8 (m_M_takes G a0 a2 h)).bind fun q4 => hp_nm (a1 - q4.1) fun x5 => (hp_vck q4.2 a0 8 (m_M_done G a0 a2 x5 q4.2)).bind fun q6 => hp_nm q6.1 fun x7 => if x7 = (-3 : Int32) then (some ((-3 : Int32), q6.2)) else ((hp_gR q6.2 a0 8 24).bind fun x8 => (hp_sI q6.2 .int x8 x5 x7).bind fun h9 => hp_nm (x5 + 1) fun x10 => hp_nm (a2 + 1) fun x11 => (m_M_run_13 G  n) a0 x10 x11 h9))
set_option maxRecDepth 100000 in
set_option maxHeartbeats 4000000 in
theorem j_M_run_13 {Z : hp_Z} : ∀ (n : Nat) (a0 : Nat) (a1 : Int32) (a2 : Int32) (h : hp_H), hp_J Y_M_run Z hp_rI h 13 [(0, .ref a0), (1, .int a1), (2, .int a2)] [] (m_M_run_13 (hp_G Z)  n a0 a1 a2 h) := by
  intro n
  induction n with
  | zero => intro a0 a1 a2 h; exact hp_fail
  | succ n ih =>
    intro a0 a1 a2 h
    rw [m_M_run_13]
    refine hp_iload_n (x0 := 2) d_M_run_13 rfl rfl ?_
    refine hp_aload_n (x0 := 0) d_M_run_14 rfl rfl ?_
    refine hp_getI fl_M_238 d_M_run_15 fun x1 => ?_
    refine hp_icmp_ge (tgt := 61) d_M_run_18 (by decide) ?_ ?_
    · refine hp_aload_n (x0 := 0) d_M_run_61 rfl rfl ?_
      refine hp_getR fl_M_60 d_M_run_62 fun x2 => ?_
      refine hp_iconst (v := 0) d_M_run_65 (by decide) ?_
      refine hp_iald d_M_run_66 fun x3 => ?_
      exact hp_iret d_M_run_67 rfl
    · refine hp_iload_n (x0 := 1) d_M_run_21 rfl rfl ?_
      refine hp_aload_n (x0 := 0) d_M_run_22 rfl rfl ?_
      refine hp_iload_n (x0 := 2) d_M_run_23 rfl rfl ?_
      refine hp_callI (hp_crV (ci := 8) (t_M_takes _ _ _ _) cw_M_241 rfl ⟨w_1091, ws_52⟩ (by decide) rfl rfl (Nat.le_of_ble_eq_true rfl) d_M_run_24) fun q4 => ?_
      refine hp_isub d_M_run_27 ?_
      refine hp_istore_n (fun x5 => [(1, .int x5), (0, .ref a0), (2, .int a2)]) d_M_run_28 rfl (by decide) (fun _ => rfl) fun x5 => ?_
      refine hp_aload_n (x0 := 1) d_M_run_29 rfl rfl ?_
      refine hp_iload_n (x0 := 2) d_M_run_30 rfl rfl ?_
      refine hp_iload_n (x0 := 0) d_M_run_31 rfl rfl ?_
      refine hp_callI (hp_crV (ci := 8) (t_M_done _ _ _ _ _) cw_M_312 rfl ⟨w_1095, ws_53⟩ (by decide) rfl rfl (Nat.le_of_ble_eq_true rfl) d_M_run_32) fun q6 => ?_
      refine hp_istore_n (fun x7 => [(3, .int x7), (1, .int x5), (0, .ref a0), (2, .int a2)]) d_M_run_35 rfl (by decide) (fun _ => rfl) fun x7 => ?_
      refine hp_iload_n (x0 := 0) d_M_run_36 rfl rfl ?_
      refine hp_bipush (v := -3) d_M_run_37 (by decide) ?_
      refine hp_icmp_ne (tgt := 45) d_M_run_39 (by decide) ?_ ?_
      · refine hp_bipush (v := -3) d_M_run_42 (by decide) ?_
        exact hp_iret d_M_run_44 rfl
      · refine hp_aload_n (x0 := 2) d_M_run_45 rfl rfl ?_
        refine hp_getR fl_M_60 d_M_run_46 fun x8 => ?_
        refine hp_iload_n (x0 := 1) d_M_run_49 rfl rfl ?_
        refine hp_iload_n (x0 := 0) d_M_run_50 rfl rfl ?_
        refine hp_iast d_M_run_51 fun h9 => ?_
        refine hp_iinc (x0 := 1) (d := 1) (fun x10 => [(1, .int x10), (3, .int x7), (0, .ref a0), (2, .int a2)]) d_M_run_52 rfl (by decide) (by decide) (fun _ => rfl) fun x10 => ?_
        refine hp_iinc (x0 := 3) (d := 1) (fun x11 => [(2, .int x11), (1, .int x10), (3, .int x7), (0, .ref a0)]) d_M_run_55 rfl (by decide) (by decide) (fun _ => rfl) fun x11 => ?_
        refine hp_goto (tgt := 13) d_M_run_58 (by decide) ?_
        refine hp_sub [3, 1, 0] rfl ?_
        exact ih _ _ _ _
def m_M_run (G : Nat → Nat) (a0 : Nat) (h : hp_H) : Option (Int32 × hp_H) := (hp_vck h a0 8 (m_M_isRight G a0 h)).bind fun q1 => if q1.1 = 0 then (some ((-1 : Int32), q1.2)) else (hp_nm (0 : Int32) fun x2 => hp_nm (0 : Int32) fun x3 => m_M_run_13 G hp_fu a0 x2 x3 q1.2)
set_option maxRecDepth 100000 in
set_option maxHeartbeats 4000000 in
theorem j_M_run_0 {Z : hp_Z} (a0 : Nat) (h : hp_H) : hp_J Y_M_run Z hp_rI h 0 [(0, .ref a0)] [] (m_M_run (hp_G Z)  a0 h) := by
  unfold m_M_run
  refine hp_aload_n (x0 := 0) d_M_run_0 rfl rfl ?_
  refine hp_callI (hp_crV (ci := 8) (t_M_isRight _ _ _) cw_M_308 rfl ⟨w_1087, ws_51⟩ (by decide) rfl rfl (Nat.le_of_ble_eq_true rfl) d_M_run_1) fun q1 => ?_
  refine hp_if_ne (tgt := 9) d_M_run_4 (by decide) ?_ ?_
  · refine hp_iconst (v := -1) d_M_run_7 (by decide) ?_
    exact hp_iret d_M_run_8 rfl
  · refine hp_iconst (v := 0) d_M_run_9 (by decide) ?_
    refine hp_istore_n (fun x2 => [(1, .int x2), (0, .ref a0)]) d_M_run_10 rfl (by decide) (fun _ => rfl) fun x2 => ?_
    refine hp_iconst (v := 0) d_M_run_11 (by decide) ?_
    refine hp_istore_n (fun x3 => [(2, .int x3), (1, .int x2), (0, .ref a0)]) d_M_run_12 rfl (by decide) (fun _ => rfl) fun x3 => ?_
    refine hp_sub [2, 1, 0] rfl ?_
    exact j_M_run_13  hp_fu _ _ _ _
theorem t_M_run (l : Launch) (E : hp_E) (a0 : Nat) : hp_M l E y_M_run Y_M_run hp_rI [.ref a0] (m_M_run E.2.2.1 a0) := hp_M.of (plainFor_of_name (by decide)) ⟨rfl, rfl⟩ (Nat.le_of_ble_eq_true rfl) (fun Z h hE => by subst hE; exact j_M_run_0 _ h)
-- M_test
theorem d_M_test_0 : decode prog_9_method_72_code 0 = .ok (.aload_n 0, 1) := by decide +kernel
theorem d_M_test_1 : decode prog_9_method_72_code 1 = .ok (.invokevirtual 315, 3) := by decide +kernel
theorem d_M_test_4 : decode prog_9_method_72_code 4 = .ok (.istore_n 1, 1) := by decide +kernel
theorem d_M_test_5 : decode prog_9_method_72_code 5 = .ok (.iload_n 1, 1) := by decide +kernel
theorem d_M_test_6 : decode prog_9_method_72_code 6 = .ok (.iconst (-1), 1) := by decide +kernel
theorem d_M_test_7 : decode prog_9_method_72_code 7 = .ok (.if_icmp .eq 9, 3) := by decide +kernel
theorem d_M_test_10 : decode prog_9_method_72_code 10 = .ok (.iload_n 1, 1) := by decide +kernel
theorem d_M_test_11 : decode prog_9_method_72_code 11 = .ok (.bipush (-3), 2) := by decide +kernel
theorem d_M_test_13 : decode prog_9_method_72_code 13 = .ok (.if_icmp .ne 7, 3) := by decide +kernel
theorem d_M_test_16 : decode prog_9_method_72_code 16 = .ok (.iload_n 1, 1) := by decide +kernel
theorem d_M_test_17 : decode prog_9_method_72_code 17 = .ok (.goto 8, 3) := by decide +kernel
theorem d_M_test_20 : decode prog_9_method_72_code 20 = .ok (.aload_n 0, 1) := by decide +kernel
theorem d_M_test_21 : decode prog_9_method_72_code 21 = .ok (.iload_n 1, 1) := by decide +kernel
theorem d_M_test_22 : decode prog_9_method_72_code 22 = .ok (.invokevirtual 244, 3) := by decide +kernel
theorem d_M_test_25 : decode prog_9_method_72_code 25 = .ok (.ireturn, 1) := by decide +kernel
def m_M_test_25 (G : Nat → Nat) (s0 : Int32) (h : hp_H) : Option (Int32 × hp_H) := some (s0, h)
set_option maxRecDepth 100000 in
set_option maxHeartbeats 4000000 in
theorem j_M_test_25 {Z : hp_Z} (s0 : Int32) (h : hp_H) : hp_J Y_M_test Z hp_rI h 25 [] [.int s0] (m_M_test_25 (hp_G Z)  s0 h) := by
  unfold m_M_test_25
  exact hp_iret d_M_test_25 rfl
def m_M_test_16 (G : Nat → Nat) (a1 : Int32) (h : hp_H) : Option (Int32 × hp_H) := m_M_test_25 G a1 h
set_option maxRecDepth 100000 in
set_option maxHeartbeats 4000000 in
theorem j_M_test_16 {Z : hp_Z} (a1 : Int32) (h : hp_H) : hp_J Y_M_test Z hp_rI h 16 [(1, .int a1)] [] (m_M_test_16 (hp_G Z)  a1 h) := by
  unfold m_M_test_16
  refine hp_iload_n (x0 := 0) d_M_test_16 rfl rfl ?_
  refine hp_goto (tgt := 25) d_M_test_17 (by decide) ?_
  refine hp_sub [] rfl ?_
  exact j_M_test_25  _ _
def m_M_test (G : Nat → Nat) (a0 : Nat) (h : hp_H) : Option (Int32 × hp_H) := (hp_vck h a0 8 (m_M_run G a0 h)).bind fun q1 => hp_nm q1.1 fun x2 => if x2 = (-1 : Int32) then (m_M_test_16 G x2 q1.2) else (if x2 = (-3 : Int32) then (m_M_test_16 G x2 q1.2) else ((hp_vck q1.2 a0 8 (m_M_truthOf G a0 x2 q1.2)).bind fun q3 => m_M_test_25 G q3.1 q3.2))
set_option maxRecDepth 100000 in
set_option maxHeartbeats 4000000 in
theorem j_M_test_0 {Z : hp_Z} (a0 : Nat) (h : hp_H) : hp_J Y_M_test Z hp_rI h 0 [(0, .ref a0)] [] (m_M_test (hp_G Z)  a0 h) := by
  unfold m_M_test
  refine hp_aload_n (x0 := 0) d_M_test_0 rfl rfl ?_
  refine hp_callI (hp_crV (ci := 8) (t_M_run _ _ _) cw_M_315 rfl ⟨w_1082, w_1083⟩ (by decide) rfl rfl (Nat.le_of_ble_eq_true rfl) d_M_test_1) fun q1 => ?_
  refine hp_istore_n (fun x2 => [(1, .int x2), (0, .ref a0)]) d_M_test_4 rfl (by decide) (fun _ => rfl) fun x2 => ?_
  refine hp_iload_n (x0 := 0) d_M_test_5 rfl rfl ?_
  refine hp_iconst (v := -1) d_M_test_6 (by decide) ?_
  refine hp_icmp_eq (tgt := 16) d_M_test_7 (by decide) ?_ ?_
  · refine hp_sub [0] rfl ?_
    exact j_M_test_16  _ _
  · refine hp_iload_n (x0 := 0) d_M_test_10 rfl rfl ?_
    refine hp_bipush (v := -3) d_M_test_11 (by decide) ?_
    refine hp_icmp_ne (tgt := 20) d_M_test_13 (by decide) ?_ ?_
    · refine hp_sub [0] rfl ?_
      exact j_M_test_16  _ _
    · refine hp_aload_n (x0 := 1) d_M_test_20 rfl rfl ?_
      refine hp_iload_n (x0 := 0) d_M_test_21 rfl rfl ?_
      refine hp_callI (hp_crV (ci := 8) (t_M_truthOf _ _ _ _) cw_M_244 rfl ⟨w_1112, ws_57⟩ (by decide) rfl rfl (Nat.le_of_ble_eq_true rfl) d_M_test_22) fun q3 => ?_
      refine hp_sub [] rfl ?_
      exact j_M_test_25  _ _
theorem t_M_test (l : Launch) (E : hp_E) (a0 : Nat) : hp_M l E y_M_test Y_M_test hp_rI [.ref a0] (m_M_test E.2.2.1 a0) := hp_M.of (plainFor_of_name (by decide)) ⟨rfl, rfl⟩ (Nat.le_of_ble_eq_true rfl) (fun Z h hE => by subst hE; exact j_M_test_0 _ h)
-- M_gather
theorem d_M_gather_0 : decode prog_9_method_73_code 0 = .ok (.iload_n 1, 1) := by decide +kernel
theorem d_M_gather_1 : decode prog_9_method_73_code 1 = .ok (.ifCond .lt 33, 3) := by decide +kernel
theorem d_M_gather_4 : decode prog_9_method_73_code 4 = .ok (.iload_n 1, 1) := by decide +kernel
theorem d_M_gather_5 : decode prog_9_method_73_code 5 = .ok (.bipush 6, 2) := by decide +kernel
theorem d_M_gather_7 : decode prog_9_method_73_code 7 = .ok (.if_icmp .gt 27, 3) := by decide +kernel
theorem d_M_gather_10 : decode prog_9_method_73_code 10 = .ok (.iload_n 1, 1) := by decide +kernel
theorem d_M_gather_11 : decode prog_9_method_73_code 11 = .ok (.bipush 6, 2) := by decide +kernel
theorem d_M_gather_13 : decode prog_9_method_73_code 13 = .ok (.if_icmp .ne 23, 3) := by decide +kernel
theorem d_M_gather_16 : decode prog_9_method_73_code 16 = .ok (.aload_n 0, 1) := by decide +kernel
theorem d_M_gather_17 : decode prog_9_method_73_code 17 = .ok (.iload_n 3, 1) := by decide +kernel
theorem d_M_gather_18 : decode prog_9_method_73_code 18 = .ok (.invokevirtual 161, 3) := by decide +kernel
theorem d_M_gather_21 : decode prog_9_method_73_code 21 = .ok (.ifCond .eq 13, 3) := by decide +kernel
theorem d_M_gather_24 : decode prog_9_method_73_code 24 = .ok (.aload_n 0, 1) := by decide +kernel
theorem d_M_gather_25 : decode prog_9_method_73_code 25 = .ok (.getfield 7, 3) := by decide +kernel
theorem d_M_gather_28 : decode prog_9_method_73_code 28 = .ok (.iload_n 3, 1) := by decide +kernel
theorem d_M_gather_29 : decode prog_9_method_73_code 29 = .ok (.iaload, 1) := by decide +kernel
theorem d_M_gather_30 : decode prog_9_method_73_code 30 = .ok (.iconst 5, 1) := by decide +kernel
theorem d_M_gather_31 : decode prog_9_method_73_code 31 = .ok (.if_icmp .eq 5, 3) := by decide +kernel
theorem d_M_gather_34 : decode prog_9_method_73_code 34 = .ok (.iconst (-1), 1) := by decide +kernel
theorem d_M_gather_35 : decode prog_9_method_73_code 35 = .ok (.ireturn, 1) := by decide +kernel
theorem d_M_gather_36 : decode prog_9_method_73_code 36 = .ok (.aload_n 0, 1) := by decide +kernel
theorem d_M_gather_37 : decode prog_9_method_73_code 37 = .ok (.iload_n 1, 1) := by decide +kernel
theorem d_M_gather_38 : decode prog_9_method_73_code 38 = .ok (.putfield 318, 3) := by decide +kernel
theorem d_M_gather_41 : decode prog_9_method_73_code 41 = .ok (.aload_n 0, 1) := by decide +kernel
theorem d_M_gather_42 : decode prog_9_method_73_code 42 = .ok (.iload_n 2, 1) := by decide +kernel
theorem d_M_gather_43 : decode prog_9_method_73_code 43 = .ok (.putfield 321, 3) := by decide +kernel
theorem d_M_gather_46 : decode prog_9_method_73_code 46 = .ok (.aload_n 0, 1) := by decide +kernel
theorem d_M_gather_47 : decode prog_9_method_73_code 47 = .ok (.iload_n 3, 1) := by decide +kernel
theorem d_M_gather_48 : decode prog_9_method_73_code 48 = .ok (.putfield 325, 3) := by decide +kernel
theorem d_M_gather_51 : decode prog_9_method_73_code 51 = .ok (.aload_n 0, 1) := by decide +kernel
theorem d_M_gather_52 : decode prog_9_method_73_code 52 = .ok (.iconst 0, 1) := by decide +kernel
theorem d_M_gather_53 : decode prog_9_method_73_code 53 = .ok (.putfield 328, 3) := by decide +kernel
theorem d_M_gather_56 : decode prog_9_method_73_code 56 = .ok (.iconst 0, 1) := by decide +kernel
theorem d_M_gather_57 : decode prog_9_method_73_code 57 = .ok (.ireturn, 1) := by decide +kernel
def m_M_gather_34 (G : Nat → Nat) (h : hp_H) : Option (Int32 × hp_H) := some ((-1 : Int32), h)
set_option maxRecDepth 100000 in
set_option maxHeartbeats 4000000 in
theorem j_M_gather_34 {Z : hp_Z} (h : hp_H) : hp_J Y_M_gather Z hp_rI h 34 [] [] (m_M_gather_34 (hp_G Z)   h) := by
  unfold m_M_gather_34
  refine hp_iconst (v := -1) d_M_gather_34 (by decide) ?_
  exact hp_iret d_M_gather_35 rfl
def m_M_gather_36 (G : Nat → Nat) (a0 : Nat) (a1 : Int32) (a2 : Int32) (a3 : Int32) (h : hp_H) : Option (Int32 × hp_H) := (hp_p h a0 8 27 (.int a1)).bind fun h1 => (hp_pZ h1 a0 8 28 a2).bind fun h2 => (hp_p h2 a0 8 29 (.int a3)).bind fun h3 => (hp_p h3 a0 8 26 (.int (0 : Int32))).bind fun h4 => some ((0 : Int32), h4)
set_option maxRecDepth 100000 in
set_option maxHeartbeats 4000000 in
theorem j_M_gather_36 {Z : hp_Z} (a0 : Nat) (a1 : Int32) (a2 : Int32) (a3 : Int32) (h : hp_H) : hp_J Y_M_gather Z hp_rI h 36 [(0, .ref a0), (1, .int a1), (2, .int a2), (3, .int a3)] [] (m_M_gather_36 (hp_G Z)  a0 a1 a2 a3 h) := by
  unfold m_M_gather_36
  refine hp_aload_n (x0 := 0) d_M_gather_36 rfl rfl ?_
  refine hp_iload_n (x0 := 1) d_M_gather_37 rfl rfl ?_
  refine hp_put fl_M_318 (fun q => by cases q) rfl rfl d_M_gather_38 fun h1 => ?_
  refine hp_aload_n (x0 := 0) d_M_gather_41 rfl rfl ?_
  refine hp_iload_n (x0 := 2) d_M_gather_42 rfl rfl ?_
  refine hp_putZ fl_M_321 (fun q => by cases q) d_M_gather_43 fun h2 => ?_
  refine hp_aload_n (x0 := 0) d_M_gather_46 rfl rfl ?_
  refine hp_iload_n (x0 := 3) d_M_gather_47 rfl rfl ?_
  refine hp_put fl_M_325 (fun q => by cases q) rfl rfl d_M_gather_48 fun h3 => ?_
  refine hp_aload_n (x0 := 0) d_M_gather_51 rfl rfl ?_
  refine hp_iconst (v := 0) d_M_gather_52 (by decide) ?_
  refine hp_put fl_M_328 (fun q => by cases q) rfl rfl d_M_gather_53 fun h4 => ?_
  refine hp_iconst (v := 0) d_M_gather_56 (by decide) ?_
  exact hp_iret d_M_gather_57 rfl
def m_M_gather (G : Nat → Nat) (a0 : Nat) (a1 : Int32) (a2 : Int32) (a3 : Int32) (h : hp_H) : Option (Int32 × hp_H) := if a1 < 0 then (m_M_gather_34 G h) else (if (6 : Int32) < a1 then (m_M_gather_34 G h) else (if a1 = (6 : Int32) then ((hp_vck h a0 8 (m_M_isValue G a0 a3 h)).bind fun q1 => if q1.1 = 0 then (m_M_gather_34 G q1.2) else ((hp_gR q1.2 a0 8 1).bind fun x2 => (hp_aI q1.2 .int x2 a3).bind fun x3 => if x3 = (5 : Int32) then (m_M_gather_36 G a0 a1 a2 a3 q1.2) else (m_M_gather_34 G q1.2))) else (m_M_gather_36 G a0 a1 a2 a3 h)))
set_option maxRecDepth 100000 in
set_option maxHeartbeats 4000000 in
theorem j_M_gather_0 {Z : hp_Z} (a0 : Nat) (a1 : Int32) (a2 : Int32) (a3 : Int32) (h : hp_H) : hp_J Y_M_gather Z hp_rI h 0 [(0, .ref a0), (1, .int a1), (2, .int a2), (3, .int a3)] [] (m_M_gather (hp_G Z)  a0 a1 a2 a3 h) := by
  unfold m_M_gather
  refine hp_iload_n (x0 := 1) d_M_gather_0 rfl rfl ?_
  refine hp_if_lt (tgt := 34) d_M_gather_1 (by decide) ?_ ?_
  · refine hp_sub [] rfl ?_
    exact j_M_gather_34   _
  · refine hp_iload_n (x0 := 1) d_M_gather_4 rfl rfl ?_
    refine hp_bipush (v := 6) d_M_gather_5 (by decide) ?_
    refine hp_icmp_gt (tgt := 34) d_M_gather_7 (by decide) ?_ ?_
    · refine hp_sub [] rfl ?_
      exact j_M_gather_34   _
    · refine hp_iload_n (x0 := 1) d_M_gather_10 rfl rfl ?_
      refine hp_bipush (v := 6) d_M_gather_11 (by decide) ?_
      refine hp_icmp_ne (tgt := 36) d_M_gather_13 (by decide) ?_ ?_
      · refine hp_aload_n (x0 := 0) d_M_gather_16 rfl rfl ?_
        refine hp_iload_n (x0 := 3) d_M_gather_17 rfl rfl ?_
        refine hp_callI (hp_crV (ci := 8) (t_M_isValue _ _ _ _) cw_M_161 rfl ⟨w_1024, ws_44⟩ (by decide) rfl rfl (Nat.le_of_ble_eq_true rfl) d_M_gather_18) fun q1 => ?_
        refine hp_if_eq (tgt := 34) d_M_gather_21 (by decide) ?_ ?_
        · refine hp_sub [] rfl ?_
          exact j_M_gather_34   _
        · refine hp_aload_n (x0 := 0) d_M_gather_24 rfl rfl ?_
          refine hp_getR fl_M_7 d_M_gather_25 fun x2 => ?_
          refine hp_iload_n (x0 := 3) d_M_gather_28 rfl rfl ?_
          refine hp_iald d_M_gather_29 fun x3 => ?_
          refine hp_iconst (v := 5) d_M_gather_30 (by decide) ?_
          refine hp_icmp_eq (tgt := 36) d_M_gather_31 (by decide) ?_ ?_
          · exact j_M_gather_36  _ _ _ _ _
          · refine hp_sub [] rfl ?_
            exact j_M_gather_34   _
      · exact j_M_gather_36  _ _ _ _ _
theorem t_M_gather (l : Launch) (E : hp_E) (a0 : Nat) (a1 : Int32) (a2 : Int32) (a3 : Int32) : hp_M l E y_M_gather Y_M_gather hp_rI [.ref a0, .int a1, .int a2, .int a3] (m_M_gather E.2.2.1 a0 a1 a2 a3) := hp_M.of (plainFor_of_name (by decide)) ⟨rfl, rfl⟩ (Nat.le_of_ble_eq_true rfl) (fun Z h hE => by subst hE; exact j_M_gather_0 _ _ _ _ h)
-- M_add
theorem d_M_add_0 : decode prog_9_method_74_code 0 = .ok (.iload_n 1, 1) := by decide +kernel
theorem d_M_add_1 : decode prog_9_method_74_code 1 = .ok (.ifCond .eq 13, 3) := by decide +kernel
theorem d_M_add_4 : decode prog_9_method_74_code 4 = .ok (.aload_n 0, 1) := by decide +kernel
theorem d_M_add_5 : decode prog_9_method_74_code 5 = .ok (.iload_n 1, 1) := by decide +kernel
theorem d_M_add_6 : decode prog_9_method_74_code 6 = .ok (.invokevirtual 161, 3) := by decide +kernel
theorem d_M_add_9 : decode prog_9_method_74_code 9 = .ok (.ifCond .ne 5, 3) := by decide +kernel
theorem d_M_add_12 : decode prog_9_method_74_code 12 = .ok (.iconst (-1), 1) := by decide +kernel
theorem d_M_add_13 : decode prog_9_method_74_code 13 = .ok (.ireturn, 1) := by decide +kernel
theorem d_M_add_14 : decode prog_9_method_74_code 14 = .ok (.iconst 0, 1) := by decide +kernel
theorem d_M_add_15 : decode prog_9_method_74_code 15 = .ok (.istore_n 2, 1) := by decide +kernel
theorem d_M_add_16 : decode prog_9_method_74_code 16 = .ok (.iload_n 2, 1) := by decide +kernel
theorem d_M_add_17 : decode prog_9_method_74_code 17 = .ok (.aload_n 0, 1) := by decide +kernel
theorem d_M_add_18 : decode prog_9_method_74_code 18 = .ok (.getfield 328, 3) := by decide +kernel
theorem d_M_add_21 : decode prog_9_method_74_code 21 = .ok (.if_icmp .ge 31, 3) := by decide +kernel
theorem d_M_add_24 : decode prog_9_method_74_code 24 = .ok (.aload_n 0, 1) := by decide +kernel
theorem d_M_add_25 : decode prog_9_method_74_code 25 = .ok (.getfield 321, 3) := by decide +kernel
theorem d_M_add_28 : decode prog_9_method_74_code 28 = .ok (.ifCond .eq 24, 3) := by decide +kernel
theorem d_M_add_31 : decode prog_9_method_74_code 31 = .ok (.aload_n 0, 1) := by decide +kernel
theorem d_M_add_32 : decode prog_9_method_74_code 32 = .ok (.getfield 63, 3) := by decide +kernel
theorem d_M_add_35 : decode prog_9_method_74_code 35 = .ok (.iload_n 2, 1) := by decide +kernel
theorem d_M_add_36 : decode prog_9_method_74_code 36 = .ok (.iaload, 1) := by decide +kernel
theorem d_M_add_37 : decode prog_9_method_74_code 37 = .ok (.iload_n 1, 1) := by decide +kernel
theorem d_M_add_38 : decode prog_9_method_74_code 38 = .ok (.if_icmp .ne 8, 3) := by decide +kernel
theorem d_M_add_41 : decode prog_9_method_74_code 41 = .ok (.aload_n 0, 1) := by decide +kernel
theorem d_M_add_42 : decode prog_9_method_74_code 42 = .ok (.getfield 328, 3) := by decide +kernel
theorem d_M_add_45 : decode prog_9_method_74_code 45 = .ok (.ireturn, 1) := by decide +kernel
theorem d_M_add_46 : decode prog_9_method_74_code 46 = .ok (.iinc 2 1, 3) := by decide +kernel
theorem d_M_add_49 : decode prog_9_method_74_code 49 = .ok (.goto (-33), 3) := by decide +kernel
theorem d_M_add_52 : decode prog_9_method_74_code 52 = .ok (.aload_n 0, 1) := by decide +kernel
theorem d_M_add_53 : decode prog_9_method_74_code 53 = .ok (.getfield 328, 3) := by decide +kernel
theorem d_M_add_56 : decode prog_9_method_74_code 56 = .ok (.sipush 500, 3) := by decide +kernel
theorem d_M_add_59 : decode prog_9_method_74_code 59 = .ok (.if_icmp .ne 6, 3) := by decide +kernel
theorem d_M_add_62 : decode prog_9_method_74_code 62 = .ok (.bipush (-3), 2) := by decide +kernel
theorem d_M_add_64 : decode prog_9_method_74_code 64 = .ok (.ireturn, 1) := by decide +kernel
theorem d_M_add_65 : decode prog_9_method_74_code 65 = .ok (.aload_n 0, 1) := by decide +kernel
theorem d_M_add_66 : decode prog_9_method_74_code 66 = .ok (.getfield 63, 3) := by decide +kernel
theorem d_M_add_69 : decode prog_9_method_74_code 69 = .ok (.aload_n 0, 1) := by decide +kernel
theorem d_M_add_70 : decode prog_9_method_74_code 70 = .ok (.getfield 328, 3) := by decide +kernel
theorem d_M_add_73 : decode prog_9_method_74_code 73 = .ok (.iload_n 1, 1) := by decide +kernel
theorem d_M_add_74 : decode prog_9_method_74_code 74 = .ok (.iastore, 1) := by decide +kernel
theorem d_M_add_75 : decode prog_9_method_74_code 75 = .ok (.aload_n 0, 1) := by decide +kernel
theorem d_M_add_76 : decode prog_9_method_74_code 76 = .ok (.dup, 1) := by decide +kernel
theorem d_M_add_77 : decode prog_9_method_74_code 77 = .ok (.getfield 328, 3) := by decide +kernel
theorem d_M_add_80 : decode prog_9_method_74_code 80 = .ok (.iconst 1, 1) := by decide +kernel
theorem d_M_add_81 : decode prog_9_method_74_code 81 = .ok (.iadd, 1) := by decide +kernel
theorem d_M_add_82 : decode prog_9_method_74_code 82 = .ok (.putfield 328, 3) := by decide +kernel
theorem d_M_add_85 : decode prog_9_method_74_code 85 = .ok (.aload_n 0, 1) := by decide +kernel
theorem d_M_add_86 : decode prog_9_method_74_code 86 = .ok (.getfield 328, 3) := by decide +kernel
theorem d_M_add_89 : decode prog_9_method_74_code 89 = .ok (.ireturn, 1) := by decide +kernel
def m_M_add_52 (G : Nat → Nat) (a0 : Nat) (a1 : Int32) (h : hp_H) : Option (Int32 × hp_H) := (hp_gI h a0 8 26).bind fun x1 => if x1 = (500 : Int32) then (some ((-3 : Int32), h)) else ((hp_gR h a0 8 25).bind fun x2 => (hp_gI h a0 8 26).bind fun x3 => (hp_sI h .int x2 x3 a1).bind fun h4 => (hp_gI h4 a0 8 26).bind fun x5 => (hp_p h4 a0 8 26 (.int (x5 + (1 : Int32)))).bind fun h6 => (hp_gI h6 a0 8 26).bind fun x7 => some (x7, h6))
set_option maxRecDepth 100000 in
set_option maxHeartbeats 4000000 in
theorem j_M_add_52 {Z : hp_Z} (a0 : Nat) (a1 : Int32) (h : hp_H) : hp_J Y_M_add Z hp_rI h 52 [(0, .ref a0), (1, .int a1)] [] (m_M_add_52 (hp_G Z)  a0 a1 h) := by
  unfold m_M_add_52
  refine hp_aload_n (x0 := 0) d_M_add_52 rfl rfl ?_
  refine hp_getI fl_M_328 d_M_add_53 fun x1 => ?_
  refine hp_sipush (v := 500) d_M_add_56 (by decide) ?_
  refine hp_icmp_ne (tgt := 65) d_M_add_59 (by decide) ?_ ?_
  · refine hp_bipush (v := -3) d_M_add_62 (by decide) ?_
    exact hp_iret d_M_add_64 rfl
  · refine hp_aload_n (x0 := 0) d_M_add_65 rfl rfl ?_
    refine hp_getR fl_M_63 d_M_add_66 fun x2 => ?_
    refine hp_aload_n (x0 := 0) d_M_add_69 rfl rfl ?_
    refine hp_getI fl_M_328 d_M_add_70 fun x3 => ?_
    refine hp_iload_n (x0 := 1) d_M_add_73 rfl rfl ?_
    refine hp_iast d_M_add_74 fun h4 => ?_
    refine hp_aload_n (x0 := 0) d_M_add_75 rfl rfl ?_
    refine hp_dup d_M_add_76 rfl ?_
    refine hp_getI fl_M_328 d_M_add_77 fun x5 => ?_
    refine hp_iconst (v := 1) d_M_add_80 (by decide) ?_
    refine hp_iadd d_M_add_81 ?_
    refine hp_put fl_M_328 (fun q => by cases q) rfl rfl d_M_add_82 fun h6 => ?_
    refine hp_aload_n (x0 := 0) d_M_add_85 rfl rfl ?_
    refine hp_getI fl_M_328 d_M_add_86 fun x7 => ?_
    exact hp_iret d_M_add_89 rfl
def m_M_add_16 (G : Nat → Nat) : Nat → Nat → Int32 → Int32 → hp_H → Option (Int32 × hp_H)
  | 0, _, _, _, _ => none
  | n + 1, a0, a1, a2, h => (hp_gI h a0 8 26).bind fun x1 => if x1 ≤ a2 then (m_M_add_52 G a0 a1 h) else ((hp_gI h a0 8 28).bind fun x2 => if x2 = 0 then (m_M_add_52 G a0 a1 h) else ((hp_gR h a0 8 25).bind fun x3 => (hp_aI h .int x3 a2).bind fun x4 => if x4 = a1 then ((hp_gI h a0 8 26).bind fun x6 => some (x6, h)) else (hp_nm (a2 + 1) fun x5 => (m_M_add_16 G  n) a0 a1 x5 h)))
set_option maxRecDepth 100000 in
set_option maxHeartbeats 4000000 in
theorem j_M_add_16 {Z : hp_Z} : ∀ (n : Nat) (a0 : Nat) (a1 : Int32) (a2 : Int32) (h : hp_H), hp_J Y_M_add Z hp_rI h 16 [(0, .ref a0), (1, .int a1), (2, .int a2)] [] (m_M_add_16 (hp_G Z)  n a0 a1 a2 h) := by
  intro n
  induction n with
  | zero => intro a0 a1 a2 h; exact hp_fail
  | succ n ih =>
    intro a0 a1 a2 h
    rw [m_M_add_16]
    refine hp_iload_n (x0 := 2) d_M_add_16 rfl rfl ?_
    refine hp_aload_n (x0 := 0) d_M_add_17 rfl rfl ?_
    refine hp_getI fl_M_328 d_M_add_18 fun x1 => ?_
    refine hp_icmp_ge (tgt := 52) d_M_add_21 (by decide) ?_ ?_
    · refine hp_sub [0, 1] rfl ?_
      exact j_M_add_52  _ _ _
    · refine hp_aload_n (x0 := 0) d_M_add_24 rfl rfl ?_
      refine hp_getI fl_M_321 d_M_add_25 fun x2 => ?_
      refine hp_if_eq (tgt := 52) d_M_add_28 (by decide) ?_ ?_
      · refine hp_sub [0, 1] rfl ?_
        exact j_M_add_52  _ _ _
      · refine hp_aload_n (x0 := 0) d_M_add_31 rfl rfl ?_
        refine hp_getR fl_M_63 d_M_add_32 fun x3 => ?_
        refine hp_iload_n (x0 := 2) d_M_add_35 rfl rfl ?_
        refine hp_iald d_M_add_36 fun x4 => ?_
        refine hp_iload_n (x0 := 1) d_M_add_37 rfl rfl ?_
        refine hp_icmp_ne (tgt := 46) d_M_add_38 (by decide) ?_ ?_
        · refine hp_aload_n (x0 := 0) d_M_add_41 rfl rfl ?_
          refine hp_getI fl_M_328 d_M_add_42 fun x6 => ?_
          exact hp_iret d_M_add_45 rfl
        · refine hp_iinc (x0 := 2) (d := 1) (fun x5 => [(2, .int x5), (0, .ref a0), (1, .int a1)]) d_M_add_46 rfl (by decide) (by decide) (fun _ => rfl) fun x5 => ?_
          refine hp_goto (tgt := 16) d_M_add_49 (by decide) ?_
          refine hp_sub [1, 2, 0] rfl ?_
          exact ih _ _ _ _
def m_M_add_14 (G : Nat → Nat) (a0 : Nat) (a1 : Int32) (h : hp_H) : Option (Int32 × hp_H) := hp_nm (0 : Int32) fun x1 => m_M_add_16 G hp_fu a0 a1 x1 h
set_option maxRecDepth 100000 in
set_option maxHeartbeats 4000000 in
theorem j_M_add_14 {Z : hp_Z} (a0 : Nat) (a1 : Int32) (h : hp_H) : hp_J Y_M_add Z hp_rI h 14 [(0, .ref a0), (1, .int a1)] [] (m_M_add_14 (hp_G Z)  a0 a1 h) := by
  unfold m_M_add_14
  refine hp_iconst (v := 0) d_M_add_14 (by decide) ?_
  refine hp_istore_n (fun x1 => [(2, .int x1), (0, .ref a0), (1, .int a1)]) d_M_add_15 rfl (by decide) (fun _ => rfl) fun x1 => ?_
  refine hp_sub [1, 2, 0] rfl ?_
  exact j_M_add_16  hp_fu _ _ _ _
def m_M_add (G : Nat → Nat) (a0 : Nat) (a1 : Int32) (h : hp_H) : Option (Int32 × hp_H) := if a1 = 0 then (m_M_add_14 G a0 a1 h) else ((hp_vck h a0 8 (m_M_isValue G a0 a1 h)).bind fun q1 => if q1.1 = 0 then (some ((-1 : Int32), q1.2)) else (m_M_add_14 G a0 a1 q1.2))
set_option maxRecDepth 100000 in
set_option maxHeartbeats 4000000 in
theorem j_M_add_0 {Z : hp_Z} (a0 : Nat) (a1 : Int32) (h : hp_H) : hp_J Y_M_add Z hp_rI h 0 [(0, .ref a0), (1, .int a1)] [] (m_M_add (hp_G Z)  a0 a1 h) := by
  unfold m_M_add
  refine hp_iload_n (x0 := 1) d_M_add_0 rfl rfl ?_
  refine hp_if_eq (tgt := 14) d_M_add_1 (by decide) ?_ ?_
  · exact j_M_add_14  _ _ _
  · refine hp_aload_n (x0 := 0) d_M_add_4 rfl rfl ?_
    refine hp_iload_n (x0 := 1) d_M_add_5 rfl rfl ?_
    refine hp_callI (hp_crV (ci := 8) (t_M_isValue _ _ _ _) cw_M_161 rfl ⟨w_1024, ws_44⟩ (by decide) rfl rfl (Nat.le_of_ble_eq_true rfl) d_M_add_6) fun q1 => ?_
    refine hp_if_ne (tgt := 14) d_M_add_9 (by decide) ?_ ?_
    · refine hp_iconst (v := -1) d_M_add_12 (by decide) ?_
      exact hp_iret d_M_add_13 rfl
    · exact j_M_add_14  _ _ _
theorem t_M_add (l : Launch) (E : hp_E) (a0 : Nat) (a1 : Int32) : hp_M l E y_M_add Y_M_add hp_rI [.ref a0, .int a1] (m_M_add E.2.2.1 a0 a1) := hp_M.of (plainFor_of_name (by decide)) ⟨rfl, rfl⟩ (Nat.le_of_ble_eq_true rfl) (fun Z h hE => by subst hE; exact j_M_add_0 _ _ h)
-- M_isFit
theorem d_M_isFit_0 : decode prog_9_method_76_code 0 = .ok (.bipush 9, 2) := by decide +kernel
theorem d_M_isFit_2 : decode prog_9_method_76_code 2 = .ok (.istore_n 1, 1) := by decide +kernel
theorem d_M_isFit_3 : decode prog_9_method_76_code 3 = .ok (.iload_n 1, 1) := by decide +kernel
theorem d_M_isFit_4 : decode prog_9_method_76_code 4 = .ok (.bipush 18, 2) := by decide +kernel
theorem d_M_isFit_6 : decode prog_9_method_76_code 6 = .ok (.if_icmp .ge 18, 3) := by decide +kernel
theorem d_M_isFit_9 : decode prog_9_method_76_code 9 = .ok (.aload_n 0, 1) := by decide +kernel
theorem d_M_isFit_10 : decode prog_9_method_76_code 10 = .ok (.getfield 66, 3) := by decide +kernel
theorem d_M_isFit_13 : decode prog_9_method_76_code 13 = .ok (.iload_n 1, 1) := by decide +kernel
theorem d_M_isFit_14 : decode prog_9_method_76_code 14 = .ok (.iaload, 1) := by decide +kernel
theorem d_M_isFit_15 : decode prog_9_method_76_code 15 = .ok (.ifCond .ne 9, 3) := by decide +kernel
theorem d_M_isFit_18 : decode prog_9_method_76_code 18 = .ok (.iinc 1 1, 3) := by decide +kernel
theorem d_M_isFit_21 : decode prog_9_method_76_code 21 = .ok (.goto (-18), 3) := by decide +kernel
theorem d_M_isFit_24 : decode prog_9_method_76_code 24 = .ok (.iconst 1, 1) := by decide +kernel
theorem d_M_isFit_25 : decode prog_9_method_76_code 25 = .ok (.istore_n 2, 1) := by decide +kernel
theorem d_M_isFit_26 : decode prog_9_method_76_code 26 = .ok (.iload_n 1, 1) := by decide +kernel
theorem d_M_isFit_27 : decode prog_9_method_76_code 27 = .ok (.bipush 18, 2) := by decide +kernel
theorem d_M_isFit_29 : decode prog_9_method_76_code 29 = .ok (.iadd, 1) := by decide +kernel
theorem d_M_isFit_30 : decode prog_9_method_76_code 30 = .ok (.istore_n 3, 1) := by decide +kernel
theorem d_M_isFit_31 : decode prog_9_method_76_code 31 = .ok (.iload_n 3, 1) := by decide +kernel
theorem d_M_isFit_32 : decode prog_9_method_76_code 32 = .ok (.bipush 64, 2) := by decide +kernel
theorem d_M_isFit_34 : decode prog_9_method_76_code 34 = .ok (.if_icmp .ge 28, 3) := by decide +kernel
theorem d_M_isFit_37 : decode prog_9_method_76_code 37 = .ok (.iload_n 2, 1) := by decide +kernel
theorem d_M_isFit_38 : decode prog_9_method_76_code 38 = .ok (.ifCond .eq 16, 3) := by decide +kernel
theorem d_M_isFit_41 : decode prog_9_method_76_code 41 = .ok (.aload_n 0, 1) := by decide +kernel
theorem d_M_isFit_42 : decode prog_9_method_76_code 42 = .ok (.getfield 66, 3) := by decide +kernel
theorem d_M_isFit_45 : decode prog_9_method_76_code 45 = .ok (.iload_n 3, 1) := by decide +kernel
theorem d_M_isFit_46 : decode prog_9_method_76_code 46 = .ok (.iaload, 1) := by decide +kernel
theorem d_M_isFit_47 : decode prog_9_method_76_code 47 = .ok (.ifCond .ne 7, 3) := by decide +kernel
theorem d_M_isFit_50 : decode prog_9_method_76_code 50 = .ok (.iconst 1, 1) := by decide +kernel
theorem d_M_isFit_51 : decode prog_9_method_76_code 51 = .ok (.goto 4, 3) := by decide +kernel
theorem d_M_isFit_54 : decode prog_9_method_76_code 54 = .ok (.iconst 0, 1) := by decide +kernel
theorem d_M_isFit_55 : decode prog_9_method_76_code 55 = .ok (.istore_n 2, 1) := by decide +kernel
theorem d_M_isFit_56 : decode prog_9_method_76_code 56 = .ok (.iinc 3 1, 3) := by decide +kernel
theorem d_M_isFit_59 : decode prog_9_method_76_code 59 = .ok (.goto (-28), 3) := by decide +kernel
theorem d_M_isFit_62 : decode prog_9_method_76_code 62 = .ok (.iload_n 2, 1) := by decide +kernel
theorem d_M_isFit_63 : decode prog_9_method_76_code 63 = .ok (.ireturn, 1) := by decide +kernel
def m_M_isFit_55 (G : Nat → Nat) (r31 : Nat → Int32 → Int32 → hp_H → Option (Int32 × hp_H)) (a0 : Nat) (a3 : Int32) (s0 : Int32) (h : hp_H) : Option (Int32 × hp_H) := hp_nm s0 fun x1 => hp_nm (a3 + 1) fun x2 => r31 a0 x1 x2 h
set_option maxRecDepth 100000 in
set_option maxHeartbeats 4000000 in
theorem j_M_isFit_55 {Z : hp_Z} (r31 : Nat → Int32 → Int32 → hp_H → Option (Int32 × hp_H)) (hr31 : ∀ (a0 : Nat) (a2 : Int32) (a3 : Int32) (h : hp_H), hp_J Y_M_isFit Z hp_rI h 31 [(0, .ref a0), (2, .int a2), (3, .int a3)] [] (r31 a0 a2 a3  h)) (a0 : Nat) (a3 : Int32) (s0 : Int32) (h : hp_H) : hp_J Y_M_isFit Z hp_rI h 55 [(0, .ref a0), (3, .int a3)] [.int s0] (m_M_isFit_55 (hp_G Z) r31 a0 a3 s0 h) := by
  unfold m_M_isFit_55
  refine hp_istore_n (fun x1 => [(2, .int x1), (0, .ref a0), (3, .int a3)]) d_M_isFit_55 rfl (by decide) (fun _ => rfl) fun x1 => ?_
  refine hp_iinc (x0 := 2) (d := 1) (fun x2 => [(3, .int x2), (2, .int x1), (0, .ref a0)]) d_M_isFit_56 rfl (by decide) (by decide) (fun _ => rfl) fun x2 => ?_
  refine hp_goto (tgt := 31) d_M_isFit_59 (by decide) ?_
  refine hp_sub [2, 1, 0] rfl ?_
  exact hr31 _ _ _ _
def m_M_isFit_54 (G : Nat → Nat) (r31 : Nat → Int32 → Int32 → hp_H → Option (Int32 × hp_H)) (a0 : Nat) (a3 : Int32) (h : hp_H) : Option (Int32 × hp_H) := m_M_isFit_55 G r31 a0 a3 (0 : Int32) h
set_option maxRecDepth 100000 in
set_option maxHeartbeats 4000000 in
theorem j_M_isFit_54 {Z : hp_Z} (r31 : Nat → Int32 → Int32 → hp_H → Option (Int32 × hp_H)) (hr31 : ∀ (a0 : Nat) (a2 : Int32) (a3 : Int32) (h : hp_H), hp_J Y_M_isFit Z hp_rI h 31 [(0, .ref a0), (2, .int a2), (3, .int a3)] [] (r31 a0 a2 a3  h)) (a0 : Nat) (a3 : Int32) (h : hp_H) : hp_J Y_M_isFit Z hp_rI h 54 [(0, .ref a0), (3, .int a3)] [] (m_M_isFit_54 (hp_G Z) r31 a0 a3 h) := by
  unfold m_M_isFit_54
  refine hp_iconst (v := 0) d_M_isFit_54 (by decide) ?_
  exact j_M_isFit_55 _ hr31 _ _ _ _
def m_M_isFit_31 (G : Nat → Nat) : Nat → Nat → Int32 → Int32 → hp_H → Option (Int32 × hp_H)
  | 0, _, _, _, _ => none
  | n + 1, a0, a2, a3, h => if (64 : Int32) ≤ a3 then (hp_z a2 h) else (if a2 = 0 then (m_M_isFit_54 G (m_M_isFit_31 G  n) a0 a3 h) else ((hp_gR h a0 8 30).bind fun x1 => (hp_aI h .int x1 a3).bind fun x2 => if x2 = 0 then (m_M_isFit_55 G (m_M_isFit_31 G  n) a0 a3 (1 : Int32) h) else (m_M_isFit_54 G (m_M_isFit_31 G  n) a0 a3 h)))
set_option maxRecDepth 100000 in
set_option maxHeartbeats 4000000 in
theorem j_M_isFit_31 {Z : hp_Z} : ∀ (n : Nat) (a0 : Nat) (a2 : Int32) (a3 : Int32) (h : hp_H), hp_J Y_M_isFit Z hp_rI h 31 [(0, .ref a0), (2, .int a2), (3, .int a3)] [] (m_M_isFit_31 (hp_G Z)  n a0 a2 a3 h) := by
  intro n
  induction n with
  | zero => intro a0 a2 a3 h; exact hp_fail
  | succ n ih =>
    intro a0 a2 a3 h
    rw [m_M_isFit_31]
    refine hp_iload_n (x0 := 2) d_M_isFit_31 rfl rfl ?_
    refine hp_bipush (v := 64) d_M_isFit_32 (by decide) ?_
    refine hp_icmp_ge (tgt := 62) d_M_isFit_34 (by decide) ?_ ?_
    · refine hp_iload_n (x0 := 1) d_M_isFit_62 rfl rfl ?_
      exact hp_zret d_M_isFit_63 rfl
    · refine hp_iload_n (x0 := 1) d_M_isFit_37 rfl rfl ?_
      refine hp_if_eq (tgt := 54) d_M_isFit_38 (by decide) ?_ ?_
      · refine hp_sub [0, 2] rfl ?_
        exact j_M_isFit_54 _ ih _ _ _
      · refine hp_aload_n (x0 := 0) d_M_isFit_41 rfl rfl ?_
        refine hp_getR fl_M_66 d_M_isFit_42 fun x1 => ?_
        refine hp_iload_n (x0 := 2) d_M_isFit_45 rfl rfl ?_
        refine hp_iald d_M_isFit_46 fun x2 => ?_
        refine hp_if_ne (tgt := 54) d_M_isFit_47 (by decide) ?_ ?_
        · refine hp_iconst (v := 1) d_M_isFit_50 (by decide) ?_
          refine hp_goto (tgt := 55) d_M_isFit_51 (by decide) ?_
          refine hp_sub [0, 2] rfl ?_
          exact j_M_isFit_55 _ ih _ _ _ _
        · refine hp_sub [0, 2] rfl ?_
          exact j_M_isFit_54 _ ih _ _ _
def m_M_isFit_24 (G : Nat → Nat) (a0 : Nat) (a1 : Int32) (h : hp_H) : Option (Int32 × hp_H) := hp_nm (1 : Int32) fun x1 => hp_nm (a1 + (18 : Int32)) fun x2 => m_M_isFit_31 G hp_fu a0 x1 x2 h
set_option maxRecDepth 100000 in
set_option maxHeartbeats 4000000 in
theorem j_M_isFit_24 {Z : hp_Z} (a0 : Nat) (a1 : Int32) (h : hp_H) : hp_J Y_M_isFit Z hp_rI h 24 [(0, .ref a0), (1, .int a1)] [] (m_M_isFit_24 (hp_G Z)  a0 a1 h) := by
  unfold m_M_isFit_24
  refine hp_iconst (v := 1) d_M_isFit_24 (by decide) ?_
  refine hp_istore_n (fun x1 => [(2, .int x1), (0, .ref a0), (1, .int a1)]) d_M_isFit_25 rfl (by decide) (fun _ => rfl) fun x1 => ?_
  refine hp_iload_n (x0 := 2) d_M_isFit_26 rfl rfl ?_
  refine hp_bipush (v := 18) d_M_isFit_27 (by decide) ?_
  refine hp_iadd d_M_isFit_29 ?_
  refine hp_istore_n (fun x2 => [(3, .int x2), (2, .int x1), (0, .ref a0), (1, .int a1)]) d_M_isFit_30 rfl (by decide) (fun _ => rfl) fun x2 => ?_
  refine hp_sub [2, 1, 0] rfl ?_
  exact j_M_isFit_31  hp_fu _ _ _ _
def m_M_isFit_3 (G : Nat → Nat) : Nat → Nat → Int32 → hp_H → Option (Int32 × hp_H)
  | 0, _, _, _ => none
  | n + 1, a0, a1, h => if (18 : Int32) ≤ a1 then (m_M_isFit_24 G a0 a1 h) else ((hp_gR h a0 8 30).bind fun x1 => (hp_aI h .int x1 a1).bind fun x2 => if x2 = 0 then (hp_nm (a1 + 1) fun x3 => (m_M_isFit_3 G  n) a0 x3 h) else (m_M_isFit_24 G a0 a1 h))
set_option maxRecDepth 100000 in
set_option maxHeartbeats 4000000 in
theorem j_M_isFit_3 {Z : hp_Z} : ∀ (n : Nat) (a0 : Nat) (a1 : Int32) (h : hp_H), hp_J Y_M_isFit Z hp_rI h 3 [(0, .ref a0), (1, .int a1)] [] (m_M_isFit_3 (hp_G Z)  n a0 a1 h) := by
  intro n
  induction n with
  | zero => intro a0 a1 h; exact hp_fail
  | succ n ih =>
    intro a0 a1 h
    rw [m_M_isFit_3]
    refine hp_iload_n (x0 := 1) d_M_isFit_3 rfl rfl ?_
    refine hp_bipush (v := 18) d_M_isFit_4 (by decide) ?_
    refine hp_icmp_ge (tgt := 24) d_M_isFit_6 (by decide) ?_ ?_
    · exact j_M_isFit_24  _ _ _
    · refine hp_aload_n (x0 := 0) d_M_isFit_9 rfl rfl ?_
      refine hp_getR fl_M_66 d_M_isFit_10 fun x1 => ?_
      refine hp_iload_n (x0 := 1) d_M_isFit_13 rfl rfl ?_
      refine hp_iald d_M_isFit_14 fun x2 => ?_
      refine hp_if_ne (tgt := 24) d_M_isFit_15 (by decide) ?_ ?_
      · refine hp_iinc (x0 := 1) (d := 1) (fun x3 => [(1, .int x3), (0, .ref a0)]) d_M_isFit_18 rfl (by decide) (by decide) (fun _ => rfl) fun x3 => ?_
        refine hp_goto (tgt := 3) d_M_isFit_21 (by decide) ?_
        refine hp_sub [1, 0] rfl ?_
        exact ih _ _ _
      · exact j_M_isFit_24  _ _ _
def m_M_isFit (G : Nat → Nat) (a0 : Nat) (h : hp_H) : Option (Int32 × hp_H) := hp_nm (9 : Int32) fun x1 => m_M_isFit_3 G hp_fu a0 x1 h
set_option maxRecDepth 100000 in
set_option maxHeartbeats 4000000 in
theorem j_M_isFit_0 {Z : hp_Z} (a0 : Nat) (h : hp_H) : hp_J Y_M_isFit Z hp_rI h 0 [(0, .ref a0)] [] (m_M_isFit (hp_G Z)  a0 h) := by
  unfold m_M_isFit
  refine hp_bipush (v := 9) d_M_isFit_0 (by decide) ?_
  refine hp_istore_n (fun x1 => [(1, .int x1), (0, .ref a0)]) d_M_isFit_2 rfl (by decide) (fun _ => rfl) fun x1 => ?_
  refine hp_sub [1, 0] rfl ?_
  exact j_M_isFit_3  hp_fu _ _ _
theorem t_M_isFit (l : Launch) (E : hp_E) (a0 : Nat) : hp_M l E y_M_isFit Y_M_isFit hp_rI [.ref a0] (m_M_isFit E.2.2.1 a0) := hp_M.of (plainFor_of_name (by decide)) ⟨rfl, rfl⟩ (Nat.le_of_ble_eq_true rfl) (fun Z h hE => by subst hE; exact j_M_isFit_0 _ h)
-- M_sumAll
theorem d_M_sumAll_0 : decode prog_9_method_75_code 0 = .ok (.aload_n 0, 1) := by decide +kernel
theorem d_M_sumAll_1 : decode prog_9_method_75_code 1 = .ok (.getfield 66, 3) := by decide +kernel
theorem d_M_sumAll_4 : decode prog_9_method_75_code 4 = .ok (.invokestatic 95, 3) := by decide +kernel
theorem d_M_sumAll_7 : decode prog_9_method_75_code 7 = .ok (.aload_n 0, 1) := by decide +kernel
theorem d_M_sumAll_8 : decode prog_9_method_75_code 8 = .ok (.iconst 0, 1) := by decide +kernel
theorem d_M_sumAll_9 : decode prog_9_method_75_code 9 = .ok (.putfield 331, 3) := by decide +kernel
theorem d_M_sumAll_12 : decode prog_9_method_75_code 12 = .ok (.aload_n 0, 1) := by decide +kernel
theorem d_M_sumAll_13 : decode prog_9_method_75_code 13 = .ok (.iconst 1, 1) := by decide +kernel
theorem d_M_sumAll_14 : decode prog_9_method_75_code 14 = .ok (.putfield 334, 3) := by decide +kernel
theorem d_M_sumAll_17 : decode prog_9_method_75_code 17 = .ok (.iconst 0, 1) := by decide +kernel
theorem d_M_sumAll_18 : decode prog_9_method_75_code 18 = .ok (.istore_n 1, 1) := by decide +kernel
theorem d_M_sumAll_19 : decode prog_9_method_75_code 19 = .ok (.iload_n 1, 1) := by decide +kernel
theorem d_M_sumAll_20 : decode prog_9_method_75_code 20 = .ok (.aload_n 0, 1) := by decide +kernel
theorem d_M_sumAll_21 : decode prog_9_method_75_code 21 = .ok (.getfield 328, 3) := by decide +kernel
theorem d_M_sumAll_24 : decode prog_9_method_75_code 24 = .ok (.if_icmp .ge 215, 3) := by decide +kernel
theorem d_M_sumAll_27 : decode prog_9_method_75_code 27 = .ok (.aload_n 0, 1) := by decide +kernel
theorem d_M_sumAll_28 : decode prog_9_method_75_code 28 = .ok (.getfield 63, 3) := by decide +kernel
theorem d_M_sumAll_31 : decode prog_9_method_75_code 31 = .ok (.iload_n 1, 1) := by decide +kernel
theorem d_M_sumAll_32 : decode prog_9_method_75_code 32 = .ok (.iaload, 1) := by decide +kernel
theorem d_M_sumAll_33 : decode prog_9_method_75_code 33 = .ok (.istore_n 2, 1) := by decide +kernel
theorem d_M_sumAll_34 : decode prog_9_method_75_code 34 = .ok (.aload_n 0, 1) := by decide +kernel
theorem d_M_sumAll_35 : decode prog_9_method_75_code 35 = .ok (.iload_n 2, 1) := by decide +kernel
theorem d_M_sumAll_36 : decode prog_9_method_75_code 36 = .ok (.invokevirtual 168, 3) := by decide +kernel
theorem d_M_sumAll_39 : decode prog_9_method_75_code 39 = .ok (.ifCond .ne 5, 3) := by decide +kernel
theorem d_M_sumAll_42 : decode prog_9_method_75_code 42 = .ok (.iconst 0, 1) := by decide +kernel
theorem d_M_sumAll_43 : decode prog_9_method_75_code 43 = .ok (.ireturn, 1) := by decide +kernel
theorem d_M_sumAll_44 : decode prog_9_method_75_code 44 = .ok (.aload_n 0, 1) := by decide +kernel
theorem d_M_sumAll_45 : decode prog_9_method_75_code 45 = .ok (.aload_n 0, 1) := by decide +kernel
theorem d_M_sumAll_46 : decode prog_9_method_75_code 46 = .ok (.getfield 334, 3) := by decide +kernel
theorem d_M_sumAll_49 : decode prog_9_method_75_code 49 = .ok (.ifCond .eq 17, 3) := by decide +kernel
theorem d_M_sumAll_52 : decode prog_9_method_75_code 52 = .ok (.aload_n 0, 1) := by decide +kernel
theorem d_M_sumAll_53 : decode prog_9_method_75_code 53 = .ok (.getfield 7, 3) := by decide +kernel
theorem d_M_sumAll_56 : decode prog_9_method_75_code 56 = .ok (.iload_n 2, 1) := by decide +kernel
theorem d_M_sumAll_57 : decode prog_9_method_75_code 57 = .ok (.iaload, 1) := by decide +kernel
theorem d_M_sumAll_58 : decode prog_9_method_75_code 58 = .ok (.iconst 3, 1) := by decide +kernel
theorem d_M_sumAll_59 : decode prog_9_method_75_code 59 = .ok (.if_icmp .ne 7, 3) := by decide +kernel
theorem d_M_sumAll_62 : decode prog_9_method_75_code 62 = .ok (.iconst 1, 1) := by decide +kernel
theorem d_M_sumAll_63 : decode prog_9_method_75_code 63 = .ok (.goto 4, 3) := by decide +kernel
theorem d_M_sumAll_66 : decode prog_9_method_75_code 66 = .ok (.iconst 0, 1) := by decide +kernel
theorem d_M_sumAll_67 : decode prog_9_method_75_code 67 = .ok (.putfield 334, 3) := by decide +kernel
theorem d_M_sumAll_70 : decode prog_9_method_75_code 70 = .ok (.aload_n 0, 1) := by decide +kernel
theorem d_M_sumAll_71 : decode prog_9_method_75_code 71 = .ok (.iload_n 2, 1) := by decide +kernel
theorem d_M_sumAll_72 : decode prog_9_method_75_code 72 = .ok (.aload_n 0, 1) := by decide +kernel
theorem d_M_sumAll_73 : decode prog_9_method_75_code 73 = .ok (.getfield 45, 3) := by decide +kernel
theorem d_M_sumAll_76 : decode prog_9_method_75_code 76 = .ok (.invokevirtual 115, 3) := by decide +kernel
theorem d_M_sumAll_79 : decode prog_9_method_75_code 79 = .ok (.aload_n 0, 1) := by decide +kernel
theorem d_M_sumAll_80 : decode prog_9_method_75_code 80 = .ok (.getfield 331, 3) := by decide +kernel
theorem d_M_sumAll_83 : decode prog_9_method_75_code 83 = .ok (.aload_n 0, 1) := by decide +kernel
theorem d_M_sumAll_84 : decode prog_9_method_75_code 84 = .ok (.getfield 16, 3) := by decide +kernel
theorem d_M_sumAll_87 : decode prog_9_method_75_code 87 = .ok (.iload_n 2, 1) := by decide +kernel
theorem d_M_sumAll_88 : decode prog_9_method_75_code 88 = .ok (.iaload, 1) := by decide +kernel
theorem d_M_sumAll_89 : decode prog_9_method_75_code 89 = .ok (.imul, 1) := by decide +kernel
theorem d_M_sumAll_90 : decode prog_9_method_75_code 90 = .ok (.ifCond .lt 42, 3) := by decide +kernel
theorem d_M_sumAll_93 : decode prog_9_method_75_code 93 = .ok (.aload_n 0, 1) := by decide +kernel
theorem d_M_sumAll_94 : decode prog_9_method_75_code 94 = .ok (.getfield 66, 3) := by decide +kernel
theorem d_M_sumAll_97 : decode prog_9_method_75_code 97 = .ok (.aload_n 0, 1) := by decide +kernel
theorem d_M_sumAll_98 : decode prog_9_method_75_code 98 = .ok (.getfield 45, 3) := by decide +kernel
theorem d_M_sumAll_101 : decode prog_9_method_75_code 101 = .ok (.iconst 1, 1) := by decide +kernel
theorem d_M_sumAll_102 : decode prog_9_method_75_code 102 = .ok (.invokestatic 119, 3) := by decide +kernel
theorem d_M_sumAll_105 : decode prog_9_method_75_code 105 = .ok (.aload_n 0, 1) := by decide +kernel
theorem d_M_sumAll_106 : decode prog_9_method_75_code 106 = .ok (.aload_n 0, 1) := by decide +kernel
theorem d_M_sumAll_107 : decode prog_9_method_75_code 107 = .ok (.getfield 331, 3) := by decide +kernel
theorem d_M_sumAll_110 : decode prog_9_method_75_code 110 = .ok (.ifCond .ne 12, 3) := by decide +kernel
theorem d_M_sumAll_113 : decode prog_9_method_75_code 113 = .ok (.aload_n 0, 1) := by decide +kernel
theorem d_M_sumAll_114 : decode prog_9_method_75_code 114 = .ok (.getfield 16, 3) := by decide +kernel
theorem d_M_sumAll_117 : decode prog_9_method_75_code 117 = .ok (.iload_n 2, 1) := by decide +kernel
theorem d_M_sumAll_118 : decode prog_9_method_75_code 118 = .ok (.iaload, 1) := by decide +kernel
theorem d_M_sumAll_119 : decode prog_9_method_75_code 119 = .ok (.goto 7, 3) := by decide +kernel
theorem d_M_sumAll_122 : decode prog_9_method_75_code 122 = .ok (.aload_n 0, 1) := by decide +kernel
theorem d_M_sumAll_123 : decode prog_9_method_75_code 123 = .ok (.getfield 331, 3) := by decide +kernel
theorem d_M_sumAll_126 : decode prog_9_method_75_code 126 = .ok (.putfield 331, 3) := by decide +kernel
theorem d_M_sumAll_129 : decode prog_9_method_75_code 129 = .ok (.goto 80, 3) := by decide +kernel
theorem d_M_sumAll_132 : decode prog_9_method_75_code 132 = .ok (.aload_n 0, 1) := by decide +kernel
theorem d_M_sumAll_133 : decode prog_9_method_75_code 133 = .ok (.getfield 66, 3) := by decide +kernel
theorem d_M_sumAll_136 : decode prog_9_method_75_code 136 = .ok (.aload_n 0, 1) := by decide +kernel
theorem d_M_sumAll_137 : decode prog_9_method_75_code 137 = .ok (.getfield 45, 3) := by decide +kernel
theorem d_M_sumAll_140 : decode prog_9_method_75_code 140 = .ok (.invokestatic 131, 3) := by decide +kernel
theorem d_M_sumAll_143 : decode prog_9_method_75_code 143 = .ok (.ifCond .lt 18, 3) := by decide +kernel
theorem d_M_sumAll_146 : decode prog_9_method_75_code 146 = .ok (.aload_n 0, 1) := by decide +kernel
theorem d_M_sumAll_147 : decode prog_9_method_75_code 147 = .ok (.getfield 66, 3) := by decide +kernel
theorem d_M_sumAll_150 : decode prog_9_method_75_code 150 = .ok (.aload_n 0, 1) := by decide +kernel
theorem d_M_sumAll_151 : decode prog_9_method_75_code 151 = .ok (.getfield 45, 3) := by decide +kernel
theorem d_M_sumAll_154 : decode prog_9_method_75_code 154 = .ok (.iconst (-1), 1) := by decide +kernel
theorem d_M_sumAll_155 : decode prog_9_method_75_code 155 = .ok (.invokestatic 119, 3) := by decide +kernel
theorem d_M_sumAll_158 : decode prog_9_method_75_code 158 = .ok (.goto 51, 3) := by decide +kernel
theorem d_M_sumAll_161 : decode prog_9_method_75_code 161 = .ok (.aload_n 0, 1) := by decide +kernel
theorem d_M_sumAll_162 : decode prog_9_method_75_code 162 = .ok (.getfield 45, 3) := by decide +kernel
theorem d_M_sumAll_165 : decode prog_9_method_75_code 165 = .ok (.aload_n 0, 1) := by decide +kernel
theorem d_M_sumAll_166 : decode prog_9_method_75_code 166 = .ok (.getfield 66, 3) := by decide +kernel
theorem d_M_sumAll_169 : decode prog_9_method_75_code 169 = .ok (.iconst (-1), 1) := by decide +kernel
theorem d_M_sumAll_170 : decode prog_9_method_75_code 170 = .ok (.invokestatic 119, 3) := by decide +kernel
theorem d_M_sumAll_173 : decode prog_9_method_75_code 173 = .ok (.iconst 0, 1) := by decide +kernel
theorem d_M_sumAll_174 : decode prog_9_method_75_code 174 = .ok (.istore_n 3, 1) := by decide +kernel
theorem d_M_sumAll_175 : decode prog_9_method_75_code 175 = .ok (.iload_n 3, 1) := by decide +kernel
theorem d_M_sumAll_176 : decode prog_9_method_75_code 176 = .ok (.bipush 64, 2) := by decide +kernel
theorem d_M_sumAll_178 : decode prog_9_method_75_code 178 = .ok (.if_icmp .ge 21, 3) := by decide +kernel
theorem d_M_sumAll_181 : decode prog_9_method_75_code 181 = .ok (.aload_n 0, 1) := by decide +kernel
theorem d_M_sumAll_182 : decode prog_9_method_75_code 182 = .ok (.getfield 66, 3) := by decide +kernel
theorem d_M_sumAll_185 : decode prog_9_method_75_code 185 = .ok (.iload_n 3, 1) := by decide +kernel
theorem d_M_sumAll_186 : decode prog_9_method_75_code 186 = .ok (.aload_n 0, 1) := by decide +kernel
theorem d_M_sumAll_187 : decode prog_9_method_75_code 187 = .ok (.getfield 45, 3) := by decide +kernel
theorem d_M_sumAll_190 : decode prog_9_method_75_code 190 = .ok (.iload_n 3, 1) := by decide +kernel
theorem d_M_sumAll_191 : decode prog_9_method_75_code 191 = .ok (.iaload, 1) := by decide +kernel
theorem d_M_sumAll_192 : decode prog_9_method_75_code 192 = .ok (.iastore, 1) := by decide +kernel
theorem d_M_sumAll_193 : decode prog_9_method_75_code 193 = .ok (.iinc 3 1, 3) := by decide +kernel
theorem d_M_sumAll_196 : decode prog_9_method_75_code 196 = .ok (.goto (-21), 3) := by decide +kernel
theorem d_M_sumAll_199 : decode prog_9_method_75_code 199 = .ok (.aload_n 0, 1) := by decide +kernel
theorem d_M_sumAll_200 : decode prog_9_method_75_code 200 = .ok (.aload_n 0, 1) := by decide +kernel
theorem d_M_sumAll_201 : decode prog_9_method_75_code 201 = .ok (.getfield 16, 3) := by decide +kernel
theorem d_M_sumAll_204 : decode prog_9_method_75_code 204 = .ok (.iload_n 2, 1) := by decide +kernel
theorem d_M_sumAll_205 : decode prog_9_method_75_code 205 = .ok (.iaload, 1) := by decide +kernel
theorem d_M_sumAll_206 : decode prog_9_method_75_code 206 = .ok (.putfield 331, 3) := by decide +kernel
theorem d_M_sumAll_209 : decode prog_9_method_75_code 209 = .ok (.aload_n 0, 1) := by decide +kernel
theorem d_M_sumAll_210 : decode prog_9_method_75_code 210 = .ok (.getfield 66, 3) := by decide +kernel
theorem d_M_sumAll_213 : decode prog_9_method_75_code 213 = .ok (.invokestatic 107, 3) := by decide +kernel
theorem d_M_sumAll_216 : decode prog_9_method_75_code 216 = .ok (.ifCond .eq 8, 3) := by decide +kernel
theorem d_M_sumAll_219 : decode prog_9_method_75_code 219 = .ok (.aload_n 0, 1) := by decide +kernel
theorem d_M_sumAll_220 : decode prog_9_method_75_code 220 = .ok (.iconst 0, 1) := by decide +kernel
theorem d_M_sumAll_221 : decode prog_9_method_75_code 221 = .ok (.putfield 331, 3) := by decide +kernel
theorem d_M_sumAll_224 : decode prog_9_method_75_code 224 = .ok (.aload_n 0, 1) := by decide +kernel
theorem d_M_sumAll_225 : decode prog_9_method_75_code 225 = .ok (.invokevirtual 337, 3) := by decide +kernel
theorem d_M_sumAll_228 : decode prog_9_method_75_code 228 = .ok (.ifCond .ne 5, 3) := by decide +kernel
theorem d_M_sumAll_231 : decode prog_9_method_75_code 231 = .ok (.iconst 0, 1) := by decide +kernel
theorem d_M_sumAll_232 : decode prog_9_method_75_code 232 = .ok (.ireturn, 1) := by decide +kernel
theorem d_M_sumAll_233 : decode prog_9_method_75_code 233 = .ok (.iinc 1 1, 3) := by decide +kernel
theorem d_M_sumAll_236 : decode prog_9_method_75_code 236 = .ok (.goto (-217), 3) := by decide +kernel
theorem d_M_sumAll_239 : decode prog_9_method_75_code 239 = .ok (.iconst 1, 1) := by decide +kernel
theorem d_M_sumAll_240 : decode prog_9_method_75_code 240 = .ok (.ireturn, 1) := by decide +kernel
def m_M_sumAll_224 (G : Nat → Nat) (r19 : Nat → Int32 → hp_H → Option (Int32 × hp_H)) (a0 : Nat) (a1 : Int32) (h : hp_H) : Option (Int32 × hp_H) := (hp_vck h a0 8 (m_M_isFit G a0 h)).bind fun q1 => if q1.1 = 0 then (hp_z (0 : Int32) q1.2) else (hp_nm (a1 + 1) fun x2 => r19 a0 x2 q1.2)
set_option maxRecDepth 100000 in
set_option maxHeartbeats 4000000 in
theorem j_M_sumAll_224 {Z : hp_Z} (r19 : Nat → Int32 → hp_H → Option (Int32 × hp_H)) (hr19 : ∀ (a0 : Nat) (a1 : Int32) (h : hp_H), hp_J Y_M_sumAll Z hp_rI h 19 [(0, .ref a0), (1, .int a1)] [] (r19 a0 a1  h)) (a0 : Nat) (a1 : Int32) (h : hp_H) : hp_J Y_M_sumAll Z hp_rI h 224 [(0, .ref a0), (1, .int a1)] [] (m_M_sumAll_224 (hp_G Z) r19 a0 a1 h) := by
  unfold m_M_sumAll_224
  refine hp_aload_n (x0 := 0) d_M_sumAll_224 rfl rfl ?_
  refine hp_callI (hp_crV (ci := 8) (t_M_isFit _ _ _) cw_M_337 rfl ⟨w_1262, ws_85⟩ (by decide) rfl rfl (Nat.le_of_ble_eq_true rfl) d_M_sumAll_225) fun q1 => ?_
  refine hp_if_ne (tgt := 233) d_M_sumAll_228 (by decide) ?_ ?_
  · refine hp_iconst (v := 0) d_M_sumAll_231 (by decide) ?_
    exact hp_zret d_M_sumAll_232 rfl
  · refine hp_iinc (x0 := 1) (d := 1) (fun x2 => [(1, .int x2), (0, .ref a0)]) d_M_sumAll_233 rfl (by decide) (by decide) (fun _ => rfl) fun x2 => ?_
    refine hp_goto (tgt := 19) d_M_sumAll_236 (by decide) ?_
    refine hp_sub [1, 0] rfl ?_
    exact hr19 _ _ _
def m_M_sumAll_209 (G : Nat → Nat) (r19 : Nat → Int32 → hp_H → Option (Int32 × hp_H)) (a0 : Nat) (a1 : Int32) (h : hp_H) : Option (Int32 × hp_H) := (hp_gR h a0 8 30).bind fun x1 => (m_M_isZero G x1 h).bind fun q2 => if q2.1 = 0 then (m_M_sumAll_224 G r19 a0 a1 q2.2) else ((hp_p q2.2 a0 8 31 (.int (0 : Int32))).bind fun h3 => m_M_sumAll_224 G r19 a0 a1 h3)
set_option maxRecDepth 100000 in
set_option maxHeartbeats 4000000 in
theorem j_M_sumAll_209 {Z : hp_Z} (r19 : Nat → Int32 → hp_H → Option (Int32 × hp_H)) (hr19 : ∀ (a0 : Nat) (a1 : Int32) (h : hp_H), hp_J Y_M_sumAll Z hp_rI h 19 [(0, .ref a0), (1, .int a1)] [] (r19 a0 a1  h)) (a0 : Nat) (a1 : Int32) (h : hp_H) : hp_J Y_M_sumAll Z hp_rI h 209 [(0, .ref a0), (1, .int a1)] [] (m_M_sumAll_209 (hp_G Z) r19 a0 a1 h) := by
  unfold m_M_sumAll_209
  refine hp_aload_n (x0 := 0) d_M_sumAll_209 rfl rfl ?_
  refine hp_getR fl_M_66 d_M_sumAll_210 fun x1 => ?_
  refine hp_callI (hp_crS (t_M_isZero _ _ _) cw_M_107 w_988 (by decide) rfl rfl (Nat.le_of_ble_eq_true rfl) d_M_sumAll_213) fun q2 => ?_
  refine hp_if_eq (tgt := 224) d_M_sumAll_216 (by decide) ?_ ?_
  · exact j_M_sumAll_224 _ hr19 _ _ _
  · refine hp_aload_n (x0 := 0) d_M_sumAll_219 rfl rfl ?_
    refine hp_iconst (v := 0) d_M_sumAll_220 (by decide) ?_
    refine hp_put fl_M_331 (fun q => by cases q) rfl rfl d_M_sumAll_221 fun h3 => ?_
    exact j_M_sumAll_224 _ hr19 _ _ _
def m_M_sumAll_126 (G : Nat → Nat) (r19 : Nat → Int32 → hp_H → Option (Int32 × hp_H)) (a0 : Nat) (a1 : Int32) (s0 : Int32) (s1 : Nat) (h : hp_H) : Option (Int32 × hp_H) := (hp_p h s1 8 31 (.int s0)).bind fun h1 => m_M_sumAll_209 G r19 a0 a1 h1
set_option maxRecDepth 100000 in
set_option maxHeartbeats 4000000 in
theorem j_M_sumAll_126 {Z : hp_Z} (r19 : Nat → Int32 → hp_H → Option (Int32 × hp_H)) (hr19 : ∀ (a0 : Nat) (a1 : Int32) (h : hp_H), hp_J Y_M_sumAll Z hp_rI h 19 [(0, .ref a0), (1, .int a1)] [] (r19 a0 a1  h)) (a0 : Nat) (a1 : Int32) (s0 : Int32) (s1 : Nat) (h : hp_H) : hp_J Y_M_sumAll Z hp_rI h 126 [(0, .ref a0), (1, .int a1)] [.int s0, .ref s1] (m_M_sumAll_126 (hp_G Z) r19 a0 a1 s0 s1 h) := by
  unfold m_M_sumAll_126
  refine hp_put fl_M_331 (fun q => by cases q) rfl rfl d_M_sumAll_126 fun h1 => ?_
  refine hp_goto (tgt := 209) d_M_sumAll_129 (by decide) ?_
  exact j_M_sumAll_209 _ hr19 _ _ _
def m_M_sumAll_175 (G : Nat → Nat) (r19 : Nat → Int32 → hp_H → Option (Int32 × hp_H)) : Nat → Nat → Int32 → Int32 → Int32 → hp_H → Option (Int32 × hp_H)
  | 0, _, _, _, _, _ => none
  | n + 1, a0, a1, a2, a3, h => if (64 : Int32) ≤ a3 then ((hp_gR h a0 8 3).bind fun x1 => (hp_aI h .int x1 a2).bind fun x2 => (hp_p h a0 8 31 (.int x2)).bind fun h3 => m_M_sumAll_209 G r19 a0 a1 h3) else ((hp_gR h a0 8 30).bind fun x4 => (hp_gR h a0 8 18).bind fun x5 => (hp_aI h .int x5 a3).bind fun x6 => (hp_sI h .int x4 a3 x6).bind fun h7 => hp_nm (a3 + 1) fun x8 => (m_M_sumAll_175 G r19 n) a0 a1 a2 x8 h7)
set_option maxRecDepth 100000 in
set_option maxHeartbeats 4000000 in
theorem j_M_sumAll_175 {Z : hp_Z} (r19 : Nat → Int32 → hp_H → Option (Int32 × hp_H)) (hr19 : ∀ (a0 : Nat) (a1 : Int32) (h : hp_H), hp_J Y_M_sumAll Z hp_rI h 19 [(0, .ref a0), (1, .int a1)] [] (r19 a0 a1  h)) : ∀ (n : Nat) (a0 : Nat) (a1 : Int32) (a2 : Int32) (a3 : Int32) (h : hp_H), hp_J Y_M_sumAll Z hp_rI h 175 [(0, .ref a0), (1, .int a1), (2, .int a2), (3, .int a3)] [] (m_M_sumAll_175 (hp_G Z) r19 n a0 a1 a2 a3 h) := by
  intro n
  induction n with
  | zero => intro a0 a1 a2 a3 h; exact hp_fail
  | succ n ih =>
    intro a0 a1 a2 a3 h
    rw [m_M_sumAll_175]
    refine hp_iload_n (x0 := 3) d_M_sumAll_175 rfl rfl ?_
    refine hp_bipush (v := 64) d_M_sumAll_176 (by decide) ?_
    refine hp_icmp_ge (tgt := 199) d_M_sumAll_178 (by decide) ?_ ?_
    · refine hp_aload_n (x0 := 0) d_M_sumAll_199 rfl rfl ?_
      refine hp_aload_n (x0 := 0) d_M_sumAll_200 rfl rfl ?_
      refine hp_getR fl_M_16 d_M_sumAll_201 fun x1 => ?_
      refine hp_iload_n (x0 := 2) d_M_sumAll_204 rfl rfl ?_
      refine hp_iald d_M_sumAll_205 fun x2 => ?_
      refine hp_put fl_M_331 (fun q => by cases q) rfl rfl d_M_sumAll_206 fun h3 => ?_
      refine hp_sub [0, 1] rfl ?_
      exact j_M_sumAll_209 _ hr19 _ _ _
    · refine hp_aload_n (x0 := 0) d_M_sumAll_181 rfl rfl ?_
      refine hp_getR fl_M_66 d_M_sumAll_182 fun x4 => ?_
      refine hp_iload_n (x0 := 3) d_M_sumAll_185 rfl rfl ?_
      refine hp_aload_n (x0 := 0) d_M_sumAll_186 rfl rfl ?_
      refine hp_getR fl_M_45 d_M_sumAll_187 fun x5 => ?_
      refine hp_iload_n (x0 := 3) d_M_sumAll_190 rfl rfl ?_
      refine hp_iald d_M_sumAll_191 fun x6 => ?_
      refine hp_iast d_M_sumAll_192 fun h7 => ?_
      refine hp_iinc (x0 := 3) (d := 1) (fun x8 => [(3, .int x8), (0, .ref a0), (1, .int a1), (2, .int a2)]) d_M_sumAll_193 rfl (by decide) (by decide) (fun _ => rfl) fun x8 => ?_
      refine hp_goto (tgt := 175) d_M_sumAll_196 (by decide) ?_
      refine hp_sub [1, 2, 3, 0] rfl ?_
      exact ih _ _ _ _ _
def m_M_sumAll_67 (G : Nat → Nat) (r19 : Nat → Int32 → hp_H → Option (Int32 × hp_H)) (a0 : Nat) (a1 : Int32) (a2 : Int32) (s0 : Int32) (s1 : Nat) (h : hp_H) : Option (Int32 × hp_H) := (hp_pZ h s1 8 32 s0).bind fun h1 => (hp_gR h1 a0 8 18).bind fun x2 => (hp_vck h1 a0 8 (m_M_lay G a0 a2 x2 h1)).bind fun q3 => (hp_gI q3.2 a0 8 31).bind fun x4 => (hp_gR q3.2 a0 8 3).bind fun x5 => (hp_aI q3.2 .int x5 a2).bind fun x6 => if (x4 * x6) < 0 then ((hp_gR q3.2 a0 8 30).bind fun x7 => (hp_gR q3.2 a0 8 18).bind fun x8 => (m_M_compare G x7 x8 q3.2).bind fun q9 => if q9.1 < 0 then ((hp_gR q9.2 a0 8 18).bind fun x10 => (hp_gR q9.2 a0 8 30).bind fun x11 => (m_M_join G x10 x11 (-1 : Int32) q9.2).bind fun q12 => hp_nm (0 : Int32) fun x13 => m_M_sumAll_175 G r19 hp_fu a0 a1 a2 x13 q12.2) else ((hp_gR q9.2 a0 8 30).bind fun x14 => (hp_gR q9.2 a0 8 18).bind fun x15 => (m_M_join G x14 x15 (-1 : Int32) q9.2).bind fun q16 => m_M_sumAll_209 G r19 a0 a1 q16.2)) else ((hp_gR q3.2 a0 8 30).bind fun x17 => (hp_gR q3.2 a0 8 18).bind fun x18 => (m_M_join G x17 x18 (1 : Int32) q3.2).bind fun q19 => (hp_gI q19.2 a0 8 31).bind fun x20 => if x20 = 0 then ((hp_gR q19.2 a0 8 3).bind fun x22 => (hp_aI q19.2 .int x22 a2).bind fun x23 => m_M_sumAll_126 G r19 a0 a1 x23 a0 q19.2) else ((hp_gI q19.2 a0 8 31).bind fun x21 => m_M_sumAll_126 G r19 a0 a1 x21 a0 q19.2))
set_option maxRecDepth 100000 in
set_option maxHeartbeats 4000000 in
theorem j_M_sumAll_67 {Z : hp_Z} (r19 : Nat → Int32 → hp_H → Option (Int32 × hp_H)) (hr19 : ∀ (a0 : Nat) (a1 : Int32) (h : hp_H), hp_J Y_M_sumAll Z hp_rI h 19 [(0, .ref a0), (1, .int a1)] [] (r19 a0 a1  h)) (a0 : Nat) (a1 : Int32) (a2 : Int32) (s0 : Int32) (s1 : Nat) (h : hp_H) : hp_J Y_M_sumAll Z hp_rI h 67 [(0, .ref a0), (1, .int a1), (2, .int a2)] [.int s0, .ref s1] (m_M_sumAll_67 (hp_G Z) r19 a0 a1 a2 s0 s1 h) := by
  unfold m_M_sumAll_67
  refine hp_putZ fl_M_334 (fun q => by cases q) d_M_sumAll_67 fun h1 => ?_
  refine hp_aload_n (x0 := 0) d_M_sumAll_70 rfl rfl ?_
  refine hp_iload_n (x0 := 2) d_M_sumAll_71 rfl rfl ?_
  refine hp_aload_n (x0 := 0) d_M_sumAll_72 rfl rfl ?_
  refine hp_getR fl_M_45 d_M_sumAll_73 fun x2 => ?_
  refine hp_callU (hp_crV (ci := 8) (t_M_lay _ _ _ _ _) cw_M_115 rfl ⟨w_1060, ws_49⟩ (by decide) rfl rfl (Nat.le_of_ble_eq_true rfl) d_M_sumAll_76) fun q3 => ?_
  refine hp_aload_n (x0 := 0) d_M_sumAll_79 rfl rfl ?_
  refine hp_getI fl_M_331 d_M_sumAll_80 fun x4 => ?_
  refine hp_aload_n (x0 := 0) d_M_sumAll_83 rfl rfl ?_
  refine hp_getR fl_M_16 d_M_sumAll_84 fun x5 => ?_
  refine hp_iload_n (x0 := 2) d_M_sumAll_87 rfl rfl ?_
  refine hp_iald d_M_sumAll_88 fun x6 => ?_
  refine hp_imul d_M_sumAll_89 ?_
  refine hp_if_lt (tgt := 132) d_M_sumAll_90 (by decide) ?_ ?_
  · refine hp_aload_n (x0 := 0) d_M_sumAll_132 rfl rfl ?_
    refine hp_getR fl_M_66 d_M_sumAll_133 fun x7 => ?_
    refine hp_aload_n (x0 := 0) d_M_sumAll_136 rfl rfl ?_
    refine hp_getR fl_M_45 d_M_sumAll_137 fun x8 => ?_
    refine hp_callI (hp_crS (t_M_compare _ _ _ _) cw_M_131 w_1063 (by decide) rfl rfl (Nat.le_of_ble_eq_true rfl) d_M_sumAll_140) fun q9 => ?_
    refine hp_if_lt (tgt := 161) d_M_sumAll_143 (by decide) ?_ ?_
    · refine hp_aload_n (x0 := 0) d_M_sumAll_161 rfl rfl ?_
      refine hp_getR fl_M_45 d_M_sumAll_162 fun x10 => ?_
      refine hp_aload_n (x0 := 0) d_M_sumAll_165 rfl rfl ?_
      refine hp_getR fl_M_66 d_M_sumAll_166 fun x11 => ?_
      refine hp_iconst (v := -1) d_M_sumAll_169 (by decide) ?_
      refine hp_callU (hp_crS (t_M_join _ _ _ _ _) cw_M_119 w_1182 (by decide) rfl rfl (Nat.le_of_ble_eq_true rfl) d_M_sumAll_170) fun q12 => ?_
      refine hp_iconst (v := 0) d_M_sumAll_173 (by decide) ?_
      refine hp_istore_n (fun x13 => [(3, .int x13), (0, .ref a0), (1, .int a1), (2, .int a2)]) d_M_sumAll_174 rfl (by decide) (fun _ => rfl) fun x13 => ?_
      refine hp_sub [1, 2, 3, 0] rfl ?_
      exact j_M_sumAll_175 _ hr19 hp_fu _ _ _ _ _
    · refine hp_aload_n (x0 := 0) d_M_sumAll_146 rfl rfl ?_
      refine hp_getR fl_M_66 d_M_sumAll_147 fun x14 => ?_
      refine hp_aload_n (x0 := 0) d_M_sumAll_150 rfl rfl ?_
      refine hp_getR fl_M_45 d_M_sumAll_151 fun x15 => ?_
      refine hp_iconst (v := -1) d_M_sumAll_154 (by decide) ?_
      refine hp_callU (hp_crS (t_M_join _ _ _ _ _) cw_M_119 w_1182 (by decide) rfl rfl (Nat.le_of_ble_eq_true rfl) d_M_sumAll_155) fun q16 => ?_
      refine hp_goto (tgt := 209) d_M_sumAll_158 (by decide) ?_
      refine hp_sub [0, 1] rfl ?_
      exact j_M_sumAll_209 _ hr19 _ _ _
  · refine hp_aload_n (x0 := 0) d_M_sumAll_93 rfl rfl ?_
    refine hp_getR fl_M_66 d_M_sumAll_94 fun x17 => ?_
    refine hp_aload_n (x0 := 0) d_M_sumAll_97 rfl rfl ?_
    refine hp_getR fl_M_45 d_M_sumAll_98 fun x18 => ?_
    refine hp_iconst (v := 1) d_M_sumAll_101 (by decide) ?_
    refine hp_callU (hp_crS (t_M_join _ _ _ _ _) cw_M_119 w_1182 (by decide) rfl rfl (Nat.le_of_ble_eq_true rfl) d_M_sumAll_102) fun q19 => ?_
    refine hp_aload_n (x0 := 0) d_M_sumAll_105 rfl rfl ?_
    refine hp_aload_n (x0 := 0) d_M_sumAll_106 rfl rfl ?_
    refine hp_getI fl_M_331 d_M_sumAll_107 fun x20 => ?_
    refine hp_if_ne (tgt := 122) d_M_sumAll_110 (by decide) ?_ ?_
    · refine hp_aload_n (x0 := 0) d_M_sumAll_113 rfl rfl ?_
      refine hp_getR fl_M_16 d_M_sumAll_114 fun x22 => ?_
      refine hp_iload_n (x0 := 2) d_M_sumAll_117 rfl rfl ?_
      refine hp_iald d_M_sumAll_118 fun x23 => ?_
      refine hp_goto (tgt := 126) d_M_sumAll_119 (by decide) ?_
      refine hp_sub [0, 1] rfl ?_
      exact j_M_sumAll_126 _ hr19 _ _ _ _ _
    · refine hp_aload_n (x0 := 0) d_M_sumAll_122 rfl rfl ?_
      refine hp_getI fl_M_331 d_M_sumAll_123 fun x21 => ?_
      refine hp_sub [0, 1] rfl ?_
      exact j_M_sumAll_126 _ hr19 _ _ _ _ _
def m_M_sumAll_66 (G : Nat → Nat) (r19 : Nat → Int32 → hp_H → Option (Int32 × hp_H)) (a0 : Nat) (a1 : Int32) (a2 : Int32) (s0 : Nat) (h : hp_H) : Option (Int32 × hp_H) := m_M_sumAll_67 G r19 a0 a1 a2 (0 : Int32) s0 h
set_option maxRecDepth 100000 in
set_option maxHeartbeats 4000000 in
theorem j_M_sumAll_66 {Z : hp_Z} (r19 : Nat → Int32 → hp_H → Option (Int32 × hp_H)) (hr19 : ∀ (a0 : Nat) (a1 : Int32) (h : hp_H), hp_J Y_M_sumAll Z hp_rI h 19 [(0, .ref a0), (1, .int a1)] [] (r19 a0 a1  h)) (a0 : Nat) (a1 : Int32) (a2 : Int32) (s0 : Nat) (h : hp_H) : hp_J Y_M_sumAll Z hp_rI h 66 [(0, .ref a0), (1, .int a1), (2, .int a2)] [.ref s0] (m_M_sumAll_66 (hp_G Z) r19 a0 a1 a2 s0 h) := by
  unfold m_M_sumAll_66
  refine hp_iconst (v := 0) d_M_sumAll_66 (by decide) ?_
  exact j_M_sumAll_67 _ hr19 _ _ _ _ _ _
def m_M_sumAll_19 (G : Nat → Nat) : Nat → Nat → Int32 → hp_H → Option (Int32 × hp_H)
  | 0, _, _, _ => none
  | n + 1, a0, a1, h => (hp_gI h a0 8 26).bind fun x1 => if x1 ≤ a1 then (hp_z (1 : Int32) h) else ((hp_gR h a0 8 25).bind fun x2 => (hp_aI h .int x2 a1).bind fun x3 => hp_nm x3 fun x4 => (hp_vck h a0 8 (m_M_isNumber G a0 x4 h)).bind fun q5 => if q5.1 = 0 then (hp_z (0 : Int32) q5.2) else ((hp_gI q5.2 a0 8 32).bind fun x6 => if x6 = 0 then (m_M_sumAll_66 G (m_M_sumAll_19 G  n) a0 a1 x4 a0 q5.2) else ((hp_gR q5.2 a0 8 1).bind fun x7 => (hp_aI q5.2 .int x7 x4).bind fun x8 => if x8 = (3 : Int32) then (m_M_sumAll_67 G (m_M_sumAll_19 G  n) a0 a1 x4 (1 : Int32) a0 q5.2) else (m_M_sumAll_66 G (m_M_sumAll_19 G  n) a0 a1 x4 a0 q5.2))))
set_option maxRecDepth 100000 in
set_option maxHeartbeats 4000000 in
theorem j_M_sumAll_19 {Z : hp_Z} : ∀ (n : Nat) (a0 : Nat) (a1 : Int32) (h : hp_H), hp_J Y_M_sumAll Z hp_rI h 19 [(0, .ref a0), (1, .int a1)] [] (m_M_sumAll_19 (hp_G Z)  n a0 a1 h) := by
  intro n
  induction n with
  | zero => intro a0 a1 h; exact hp_fail
  | succ n ih =>
    intro a0 a1 h
    rw [m_M_sumAll_19]
    refine hp_iload_n (x0 := 1) d_M_sumAll_19 rfl rfl ?_
    refine hp_aload_n (x0 := 0) d_M_sumAll_20 rfl rfl ?_
    refine hp_getI fl_M_328 d_M_sumAll_21 fun x1 => ?_
    refine hp_icmp_ge (tgt := 239) d_M_sumAll_24 (by decide) ?_ ?_
    · refine hp_iconst (v := 1) d_M_sumAll_239 (by decide) ?_
      exact hp_zret d_M_sumAll_240 rfl
    · refine hp_aload_n (x0 := 0) d_M_sumAll_27 rfl rfl ?_
      refine hp_getR fl_M_63 d_M_sumAll_28 fun x2 => ?_
      refine hp_iload_n (x0 := 1) d_M_sumAll_31 rfl rfl ?_
      refine hp_iald d_M_sumAll_32 fun x3 => ?_
      refine hp_istore_n (fun x4 => [(2, .int x4), (0, .ref a0), (1, .int a1)]) d_M_sumAll_33 rfl (by decide) (fun _ => rfl) fun x4 => ?_
      refine hp_aload_n (x0 := 1) d_M_sumAll_34 rfl rfl ?_
      refine hp_iload_n (x0 := 0) d_M_sumAll_35 rfl rfl ?_
      refine hp_callI (hp_crV (ci := 8) (t_M_isNumber _ _ _ _) cw_M_168 rfl ⟨w_1052, ws_47⟩ (by decide) rfl rfl (Nat.le_of_ble_eq_true rfl) d_M_sumAll_36) fun q5 => ?_
      refine hp_if_ne (tgt := 44) d_M_sumAll_39 (by decide) ?_ ?_
      · refine hp_iconst (v := 0) d_M_sumAll_42 (by decide) ?_
        exact hp_zret d_M_sumAll_43 rfl
      · refine hp_aload_n (x0 := 1) d_M_sumAll_44 rfl rfl ?_
        refine hp_aload_n (x0 := 1) d_M_sumAll_45 rfl rfl ?_
        refine hp_getI fl_M_334 d_M_sumAll_46 fun x6 => ?_
        refine hp_if_eq (tgt := 66) d_M_sumAll_49 (by decide) ?_ ?_
        · refine hp_sub [1, 2, 0] rfl ?_
          exact j_M_sumAll_66 _ ih _ _ _ _ _
        · refine hp_aload_n (x0 := 1) d_M_sumAll_52 rfl rfl ?_
          refine hp_getR fl_M_7 d_M_sumAll_53 fun x7 => ?_
          refine hp_iload_n (x0 := 0) d_M_sumAll_56 rfl rfl ?_
          refine hp_iald d_M_sumAll_57 fun x8 => ?_
          refine hp_iconst (v := 3) d_M_sumAll_58 (by decide) ?_
          refine hp_icmp_ne (tgt := 66) d_M_sumAll_59 (by decide) ?_ ?_
          · refine hp_iconst (v := 1) d_M_sumAll_62 (by decide) ?_
            refine hp_goto (tgt := 67) d_M_sumAll_63 (by decide) ?_
            refine hp_sub [1, 2, 0] rfl ?_
            exact j_M_sumAll_67 _ ih _ _ _ _ _ _
          · refine hp_sub [1, 2, 0] rfl ?_
            exact j_M_sumAll_66 _ ih _ _ _ _ _
def m_M_sumAll (G : Nat → Nat) (a0 : Nat) (h : hp_H) : Option (Int32 × hp_H) := (hp_gR h a0 8 30).bind fun x1 => (m_M_clear G x1 h).bind fun q2 => (hp_p q2.2 a0 8 31 (.int (0 : Int32))).bind fun h3 => (hp_pZ h3 a0 8 32 (1 : Int32)).bind fun h4 => hp_nm (0 : Int32) fun x5 => m_M_sumAll_19 G hp_fu a0 x5 h4
set_option maxRecDepth 100000 in
set_option maxHeartbeats 4000000 in
theorem j_M_sumAll_0 {Z : hp_Z} (a0 : Nat) (h : hp_H) : hp_J Y_M_sumAll Z hp_rI h 0 [(0, .ref a0)] [] (m_M_sumAll (hp_G Z)  a0 h) := by
  unfold m_M_sumAll
  refine hp_aload_n (x0 := 0) d_M_sumAll_0 rfl rfl ?_
  refine hp_getR fl_M_66 d_M_sumAll_1 fun x1 => ?_
  refine hp_callU (hp_crS (t_M_clear _ _ _) cw_M_95 w_976 (by decide) rfl rfl (Nat.le_of_ble_eq_true rfl) d_M_sumAll_4) fun q2 => ?_
  refine hp_aload_n (x0 := 0) d_M_sumAll_7 rfl rfl ?_
  refine hp_iconst (v := 0) d_M_sumAll_8 (by decide) ?_
  refine hp_put fl_M_331 (fun q => by cases q) rfl rfl d_M_sumAll_9 fun h3 => ?_
  refine hp_aload_n (x0 := 0) d_M_sumAll_12 rfl rfl ?_
  refine hp_iconst (v := 1) d_M_sumAll_13 (by decide) ?_
  refine hp_putZ fl_M_334 (fun q => by cases q) d_M_sumAll_14 fun h4 => ?_
  refine hp_iconst (v := 0) d_M_sumAll_17 (by decide) ?_
  refine hp_istore_n (fun x5 => [(1, .int x5), (0, .ref a0)]) d_M_sumAll_18 rfl (by decide) (fun _ => rfl) fun x5 => ?_
  refine hp_sub [1, 0] rfl ?_
  exact j_M_sumAll_19  hp_fu _ _ _
theorem t_M_sumAll (l : Launch) (E : hp_E) (a0 : Nat) : hp_M l E y_M_sumAll Y_M_sumAll hp_rI [.ref a0] (m_M_sumAll E.2.2.1 a0) := hp_M.of (plainFor_of_name (by decide)) ⟨rfl, rfl⟩ (Nat.le_of_ble_eq_true rfl) (fun Z h hE => by subst hE; exact j_M_sumAll_0 _ h)
