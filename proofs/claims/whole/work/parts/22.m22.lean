-- M_rowOf
theorem d_M_rowOf_0 : decode prog_9_method_67_code 0 = .ok (.iload_n 2, 1) := by decide +kernel
theorem d_M_rowOf_1 : decode prog_9_method_67_code 1 = .ok (.ifCond .le 7, 3) := by decide +kernel
theorem d_M_rowOf_4 : decode prog_9_method_67_code 4 = .ok (.iconst 1, 1) := by decide +kernel
theorem d_M_rowOf_5 : decode prog_9_method_67_code 5 = .ok (.goto 4, 3) := by decide +kernel
theorem d_M_rowOf_8 : decode prog_9_method_67_code 8 = .ok (.iconst 0, 1) := by decide +kernel
theorem d_M_rowOf_9 : decode prog_9_method_67_code 9 = .ok (.istore_n 3, 1) := by decide +kernel
theorem d_M_rowOf_10 : decode prog_9_method_67_code 10 = .ok (.iconst 0, 1) := by decide +kernel
theorem d_M_rowOf_11 : decode prog_9_method_67_code 11 = .ok (.istore 4, 2) := by decide +kernel
theorem d_M_rowOf_13 : decode prog_9_method_67_code 13 = .ok (.iload 4, 2) := by decide +kernel
theorem d_M_rowOf_15 : decode prog_9_method_67_code 15 = .ok (.iload_n 2, 1) := by decide +kernel
theorem d_M_rowOf_16 : decode prog_9_method_67_code 16 = .ok (.if_icmp .ge 85, 3) := by decide +kernel
theorem d_M_rowOf_19 : decode prog_9_method_67_code 19 = .ok (.aload_n 0, 1) := by decide +kernel
theorem d_M_rowOf_20 : decode prog_9_method_67_code 20 = .ok (.aload_n 0, 1) := by decide +kernel
theorem d_M_rowOf_21 : decode prog_9_method_67_code 21 = .ok (.getfield 60, 3) := by decide +kernel
theorem d_M_rowOf_24 : decode prog_9_method_67_code 24 = .ok (.iload_n 1, 1) := by decide +kernel
theorem d_M_rowOf_25 : decode prog_9_method_67_code 25 = .ok (.iload 4, 2) := by decide +kernel
theorem d_M_rowOf_27 : decode prog_9_method_67_code 27 = .ok (.iadd, 1) := by decide +kernel
theorem d_M_rowOf_28 : decode prog_9_method_67_code 28 = .ok (.iaload, 1) := by decide +kernel
theorem d_M_rowOf_29 : decode prog_9_method_67_code 29 = .ok (.invokevirtual 217, 3) := by decide +kernel
theorem d_M_rowOf_32 : decode prog_9_method_67_code 32 = .ok (.ifCond .ne 6, 3) := by decide +kernel
theorem d_M_rowOf_35 : decode prog_9_method_67_code 35 = .ok (.bipush (-4), 2) := by decide +kernel
theorem d_M_rowOf_37 : decode prog_9_method_67_code 37 = .ok (.ireturn, 1) := by decide +kernel
theorem d_M_rowOf_38 : decode prog_9_method_67_code 38 = .ok (.iload_n 3, 1) := by decide +kernel
theorem d_M_rowOf_39 : decode prog_9_method_67_code 39 = .ok (.ifCond .eq 54, 3) := by decide +kernel
theorem d_M_rowOf_42 : decode prog_9_method_67_code 42 = .ok (.aload_n 0, 1) := by decide +kernel
theorem d_M_rowOf_43 : decode prog_9_method_67_code 43 = .ok (.getfield 7, 3) := by decide +kernel
theorem d_M_rowOf_46 : decode prog_9_method_67_code 46 = .ok (.aload_n 0, 1) := by decide +kernel
theorem d_M_rowOf_47 : decode prog_9_method_67_code 47 = .ok (.getfield 60, 3) := by decide +kernel
theorem d_M_rowOf_50 : decode prog_9_method_67_code 50 = .ok (.iload_n 1, 1) := by decide +kernel
theorem d_M_rowOf_51 : decode prog_9_method_67_code 51 = .ok (.iload 4, 2) := by decide +kernel
theorem d_M_rowOf_53 : decode prog_9_method_67_code 53 = .ok (.iadd, 1) := by decide +kernel
theorem d_M_rowOf_54 : decode prog_9_method_67_code 54 = .ok (.iaload, 1) := by decide +kernel
theorem d_M_rowOf_55 : decode prog_9_method_67_code 55 = .ok (.iaload, 1) := by decide +kernel
theorem d_M_rowOf_56 : decode prog_9_method_67_code 56 = .ok (.bipush 6, 2) := by decide +kernel
theorem d_M_rowOf_58 : decode prog_9_method_67_code 58 = .ok (.if_icmp .ne 35, 3) := by decide +kernel
theorem d_M_rowOf_61 : decode prog_9_method_67_code 61 = .ok (.aload_n 0, 1) := by decide +kernel
theorem d_M_rowOf_62 : decode prog_9_method_67_code 62 = .ok (.getfield 13, 3) := by decide +kernel
theorem d_M_rowOf_65 : decode prog_9_method_67_code 65 = .ok (.aload_n 0, 1) := by decide +kernel
theorem d_M_rowOf_66 : decode prog_9_method_67_code 66 = .ok (.getfield 60, 3) := by decide +kernel
theorem d_M_rowOf_69 : decode prog_9_method_67_code 69 = .ok (.iload_n 1, 1) := by decide +kernel
theorem d_M_rowOf_70 : decode prog_9_method_67_code 70 = .ok (.iload 4, 2) := by decide +kernel
theorem d_M_rowOf_72 : decode prog_9_method_67_code 72 = .ok (.iadd, 1) := by decide +kernel
theorem d_M_rowOf_73 : decode prog_9_method_67_code 73 = .ok (.iaload, 1) := by decide +kernel
theorem d_M_rowOf_74 : decode prog_9_method_67_code 74 = .ok (.iaload, 1) := by decide +kernel
theorem d_M_rowOf_75 : decode prog_9_method_67_code 75 = .ok (.aload_n 0, 1) := by decide +kernel
theorem d_M_rowOf_76 : decode prog_9_method_67_code 76 = .ok (.getfield 13, 3) := by decide +kernel
theorem d_M_rowOf_79 : decode prog_9_method_67_code 79 = .ok (.aload_n 0, 1) := by decide +kernel
theorem d_M_rowOf_80 : decode prog_9_method_67_code 80 = .ok (.getfield 60, 3) := by decide +kernel
theorem d_M_rowOf_83 : decode prog_9_method_67_code 83 = .ok (.iload_n 1, 1) := by decide +kernel
theorem d_M_rowOf_84 : decode prog_9_method_67_code 84 = .ok (.iaload, 1) := by decide +kernel
theorem d_M_rowOf_85 : decode prog_9_method_67_code 85 = .ok (.iaload, 1) := by decide +kernel
theorem d_M_rowOf_86 : decode prog_9_method_67_code 86 = .ok (.if_icmp .ne 7, 3) := by decide +kernel
theorem d_M_rowOf_89 : decode prog_9_method_67_code 89 = .ok (.iconst 1, 1) := by decide +kernel
theorem d_M_rowOf_90 : decode prog_9_method_67_code 90 = .ok (.goto 4, 3) := by decide +kernel
theorem d_M_rowOf_93 : decode prog_9_method_67_code 93 = .ok (.iconst 0, 1) := by decide +kernel
theorem d_M_rowOf_94 : decode prog_9_method_67_code 94 = .ok (.istore_n 3, 1) := by decide +kernel
theorem d_M_rowOf_95 : decode prog_9_method_67_code 95 = .ok (.iinc 4 1, 3) := by decide +kernel
theorem d_M_rowOf_98 : decode prog_9_method_67_code 98 = .ok (.goto (-85), 3) := by decide +kernel
theorem d_M_rowOf_101 : decode prog_9_method_67_code 101 = .ok (.aload_n 0, 1) := by decide +kernel
theorem d_M_rowOf_102 : decode prog_9_method_67_code 102 = .ok (.iload_n 3, 1) := by decide +kernel
theorem d_M_rowOf_103 : decode prog_9_method_67_code 103 = .ok (.ifCond .eq 8, 3) := by decide +kernel
theorem d_M_rowOf_106 : decode prog_9_method_67_code 106 = .ok (.bipush 6, 2) := by decide +kernel
theorem d_M_rowOf_108 : decode prog_9_method_67_code 108 = .ok (.goto 4, 3) := by decide +kernel
theorem d_M_rowOf_111 : decode prog_9_method_67_code 111 = .ok (.iconst 5, 1) := by decide +kernel
theorem d_M_rowOf_112 : decode prog_9_method_67_code 112 = .ok (.iload_n 3, 1) := by decide +kernel
theorem d_M_rowOf_113 : decode prog_9_method_67_code 113 = .ok (.ifCond .eq 17, 3) := by decide +kernel
theorem d_M_rowOf_116 : decode prog_9_method_67_code 116 = .ok (.aload_n 0, 1) := by decide +kernel
theorem d_M_rowOf_117 : decode prog_9_method_67_code 117 = .ok (.getfield 13, 3) := by decide +kernel
theorem d_M_rowOf_120 : decode prog_9_method_67_code 120 = .ok (.aload_n 0, 1) := by decide +kernel
theorem d_M_rowOf_121 : decode prog_9_method_67_code 121 = .ok (.getfield 60, 3) := by decide +kernel
theorem d_M_rowOf_124 : decode prog_9_method_67_code 124 = .ok (.iload_n 1, 1) := by decide +kernel
theorem d_M_rowOf_125 : decode prog_9_method_67_code 125 = .ok (.iaload, 1) := by decide +kernel
theorem d_M_rowOf_126 : decode prog_9_method_67_code 126 = .ok (.iaload, 1) := by decide +kernel
theorem d_M_rowOf_127 : decode prog_9_method_67_code 127 = .ok (.goto 4, 3) := by decide +kernel
theorem d_M_rowOf_130 : decode prog_9_method_67_code 130 = .ok (.iconst 0, 1) := by decide +kernel
theorem d_M_rowOf_131 : decode prog_9_method_67_code 131 = .ok (.invokevirtual 103, 3) := by decide +kernel
theorem d_M_rowOf_134 : decode prog_9_method_67_code 134 = .ok (.iconst 0, 1) := by decide +kernel
theorem d_M_rowOf_135 : decode prog_9_method_67_code 135 = .ok (.istore 4, 2) := by decide +kernel
theorem d_M_rowOf_137 : decode prog_9_method_67_code 137 = .ok (.iload 4, 2) := by decide +kernel
theorem d_M_rowOf_139 : decode prog_9_method_67_code 139 = .ok (.iload_n 2, 1) := by decide +kernel
theorem d_M_rowOf_140 : decode prog_9_method_67_code 140 = .ok (.if_icmp .ge 37, 3) := by decide +kernel
theorem d_M_rowOf_143 : decode prog_9_method_67_code 143 = .ok (.aload_n 0, 1) := by decide +kernel
theorem d_M_rowOf_144 : decode prog_9_method_67_code 144 = .ok (.aload_n 0, 1) := by decide +kernel
theorem d_M_rowOf_145 : decode prog_9_method_67_code 145 = .ok (.getfield 60, 3) := by decide +kernel
theorem d_M_rowOf_148 : decode prog_9_method_67_code 148 = .ok (.iload_n 1, 1) := by decide +kernel
theorem d_M_rowOf_149 : decode prog_9_method_67_code 149 = .ok (.iload 4, 2) := by decide +kernel
theorem d_M_rowOf_151 : decode prog_9_method_67_code 151 = .ok (.iadd, 1) := by decide +kernel
theorem d_M_rowOf_152 : decode prog_9_method_67_code 152 = .ok (.iaload, 1) := by decide +kernel
theorem d_M_rowOf_153 : decode prog_9_method_67_code 153 = .ok (.iconst 0, 1) := by decide +kernel
theorem d_M_rowOf_154 : decode prog_9_method_67_code 154 = .ok (.aload_n 0, 1) := by decide +kernel
theorem d_M_rowOf_155 : decode prog_9_method_67_code 155 = .ok (.getfield 26, 3) := by decide +kernel
theorem d_M_rowOf_158 : decode prog_9_method_67_code 158 = .ok (.aload_n 0, 1) := by decide +kernel
theorem d_M_rowOf_159 : decode prog_9_method_67_code 159 = .ok (.getfield 60, 3) := by decide +kernel
theorem d_M_rowOf_162 : decode prog_9_method_67_code 162 = .ok (.iload_n 1, 1) := by decide +kernel
theorem d_M_rowOf_163 : decode prog_9_method_67_code 163 = .ok (.iload 4, 2) := by decide +kernel
theorem d_M_rowOf_165 : decode prog_9_method_67_code 165 = .ok (.iadd, 1) := by decide +kernel
theorem d_M_rowOf_166 : decode prog_9_method_67_code 166 = .ok (.iaload, 1) := by decide +kernel
theorem d_M_rowOf_167 : decode prog_9_method_67_code 167 = .ok (.iaload, 1) := by decide +kernel
theorem d_M_rowOf_168 : decode prog_9_method_67_code 168 = .ok (.invokevirtual 202, 3) := by decide +kernel
theorem d_M_rowOf_171 : decode prog_9_method_67_code 171 = .ok (.iinc 4 1, 3) := by decide +kernel
theorem d_M_rowOf_174 : decode prog_9_method_67_code 174 = .ok (.goto (-37), 3) := by decide +kernel
theorem d_M_rowOf_177 : decode prog_9_method_67_code 177 = .ok (.aload_n 0, 1) := by decide +kernel
theorem d_M_rowOf_178 : decode prog_9_method_67_code 178 = .ok (.invokevirtual 111, 3) := by decide +kernel
theorem d_M_rowOf_181 : decode prog_9_method_67_code 181 = .ok (.ireturn, 1) := by decide +kernel
def m_M_rowOf_94 (G : Nat → Nat) (r13 : Nat → Int32 → Int32 → Int32 → Int32 → hp_H → Option (Int32 × hp_H)) (a0 : Nat) (a1 : Int32) (a2 : Int32) (a4 : Int32) (s0 : Int32) (h : hp_H) : Option (Int32 × hp_H) := hp_nm s0 fun x1 => hp_nm (a4 + 1) fun x2 => r13 a0 a1 a2 x1 x2 h
set_option maxRecDepth 100000 in
set_option maxHeartbeats 4000000 in
theorem j_M_rowOf_94 {Z : hp_Z} (r13 : Nat → Int32 → Int32 → Int32 → Int32 → hp_H → Option (Int32 × hp_H)) (hr13 : ∀ (a0 : Nat) (a1 : Int32) (a2 : Int32) (a3 : Int32) (a4 : Int32) (h : hp_H), hp_J Y_M_rowOf Z hp_rI h 13 [(0, .ref a0), (1, .int a1), (2, .int a2), (3, .int a3), (4, .int a4)] [] (r13 a0 a1 a2 a3 a4  h)) (a0 : Nat) (a1 : Int32) (a2 : Int32) (a4 : Int32) (s0 : Int32) (h : hp_H) : hp_J Y_M_rowOf Z hp_rI h 94 [(0, .ref a0), (1, .int a1), (2, .int a2), (4, .int a4)] [.int s0] (m_M_rowOf_94 (hp_G Z) r13 a0 a1 a2 a4 s0 h) := by
  unfold m_M_rowOf_94
  refine hp_istore_n (fun x1 => [(3, .int x1), (0, .ref a0), (1, .int a1), (2, .int a2), (4, .int a4)]) d_M_rowOf_94 rfl (by decide) (fun _ => rfl) fun x1 => ?_
  refine hp_iinc (x0 := 4) (d := 1) (fun x2 => [(4, .int x2), (3, .int x1), (0, .ref a0), (1, .int a1), (2, .int a2)]) d_M_rowOf_95 rfl (by decide) (by decide) (fun _ => rfl) fun x2 => ?_
  refine hp_goto (tgt := 13) d_M_rowOf_98 (by decide) ?_
  refine hp_sub [2, 3, 4, 1, 0] rfl ?_
  exact hr13 _ _ _ _ _ _
def m_M_rowOf_93 (G : Nat → Nat) (r13 : Nat → Int32 → Int32 → Int32 → Int32 → hp_H → Option (Int32 × hp_H)) (a0 : Nat) (a1 : Int32) (a2 : Int32) (a4 : Int32) (h : hp_H) : Option (Int32 × hp_H) := m_M_rowOf_94 G r13 a0 a1 a2 a4 (0 : Int32) h
set_option maxRecDepth 100000 in
set_option maxHeartbeats 4000000 in
theorem j_M_rowOf_93 {Z : hp_Z} (r13 : Nat → Int32 → Int32 → Int32 → Int32 → hp_H → Option (Int32 × hp_H)) (hr13 : ∀ (a0 : Nat) (a1 : Int32) (a2 : Int32) (a3 : Int32) (a4 : Int32) (h : hp_H), hp_J Y_M_rowOf Z hp_rI h 13 [(0, .ref a0), (1, .int a1), (2, .int a2), (3, .int a3), (4, .int a4)] [] (r13 a0 a1 a2 a3 a4  h)) (a0 : Nat) (a1 : Int32) (a2 : Int32) (a4 : Int32) (h : hp_H) : hp_J Y_M_rowOf Z hp_rI h 93 [(0, .ref a0), (1, .int a1), (2, .int a2), (4, .int a4)] [] (m_M_rowOf_93 (hp_G Z) r13 a0 a1 a2 a4 h) := by
  unfold m_M_rowOf_93
  refine hp_iconst (v := 0) d_M_rowOf_93 (by decide) ?_
  exact j_M_rowOf_94 _ hr13 _ _ _ _ _ _
def m_M_rowOf_137 (G : Nat → Nat) : Nat → Nat → Int32 → Int32 → Int32 → hp_H → Option (Int32 × hp_H)
  | 0, _, _, _, _, _ => none
  | n + 1, a0, a1, a2, a4, h => if a2 ≤ a4 then ((hp_vck h a0 8 (m_M_keep G a0 h)).bind fun q1 => some (q1.1, q1.2)) else ((hp_gR h a0 8 24).bind fun x2 => (hp_aI h .int x2 (a1 + a4)).bind fun x3 => (hp_gR h a0 8 6).bind fun x4 => (hp_gR h a0 8 24).bind fun x5 => (hp_aI h .int x5 (a1 + a4)).bind fun x6 => (hp_aI h .int x4 x6).bind fun x7 => (hp_vck h a0 8 (m_M_letterAll G a0 x3 (0 : Int32) x7 h)).bind fun q8 => hp_nm (a4 + 1) fun x9 => (m_M_rowOf_137 G  n) a0 a1 a2 x9 q8.2)
set_option maxRecDepth 100000 in
set_option maxHeartbeats 4000000 in
theorem j_M_rowOf_137 {Z : hp_Z} : ∀ (n : Nat) (a0 : Nat) (a1 : Int32) (a2 : Int32) (a4 : Int32) (h : hp_H), hp_J Y_M_rowOf Z hp_rI h 137 [(0, .ref a0), (1, .int a1), (2, .int a2), (4, .int a4)] [] (m_M_rowOf_137 (hp_G Z)  n a0 a1 a2 a4 h) := by
  intro n
  induction n with
  | zero => intro a0 a1 a2 a4 h; exact hp_fail
  | succ n ih =>
    intro a0 a1 a2 a4 h
    rw [m_M_rowOf_137]
    refine hp_iload (x0 := 3) d_M_rowOf_137 rfl ?_
    refine hp_iload_n (x0 := 2) d_M_rowOf_139 rfl rfl ?_
    refine hp_icmp_ge (tgt := 177) d_M_rowOf_140 (by decide) ?_ ?_
    · refine hp_aload_n (x0 := 0) d_M_rowOf_177 rfl rfl ?_
      refine hp_callI (hp_crV (ci := 8) (t_M_keep _ _ _) cw_M_111 rfl ⟨w_992, ws_41⟩ (by decide) rfl rfl (Nat.le_of_ble_eq_true rfl) d_M_rowOf_178) fun q1 => ?_
      exact hp_iret d_M_rowOf_181 rfl
    · refine hp_aload_n (x0 := 0) d_M_rowOf_143 rfl rfl ?_
      refine hp_aload_n (x0 := 0) d_M_rowOf_144 rfl rfl ?_
      refine hp_getR fl_M_60 d_M_rowOf_145 fun x2 => ?_
      refine hp_iload_n (x0 := 1) d_M_rowOf_148 rfl rfl ?_
      refine hp_iload (x0 := 3) d_M_rowOf_149 rfl ?_
      refine hp_iadd d_M_rowOf_151 ?_
      refine hp_iald d_M_rowOf_152 fun x3 => ?_
      refine hp_iconst (v := 0) d_M_rowOf_153 (by decide) ?_
      refine hp_aload_n (x0 := 0) d_M_rowOf_154 rfl rfl ?_
      refine hp_getR fl_M_26 d_M_rowOf_155 fun x4 => ?_
      refine hp_aload_n (x0 := 0) d_M_rowOf_158 rfl rfl ?_
      refine hp_getR fl_M_60 d_M_rowOf_159 fun x5 => ?_
      refine hp_iload_n (x0 := 1) d_M_rowOf_162 rfl rfl ?_
      refine hp_iload (x0 := 3) d_M_rowOf_163 rfl ?_
      refine hp_iadd d_M_rowOf_165 ?_
      refine hp_iald d_M_rowOf_166 fun x6 => ?_
      refine hp_iald d_M_rowOf_167 fun x7 => ?_
      refine hp_callU (hp_crV (ci := 8) (t_M_letterAll _ _ _ _ _ _) cw_M_202 rfl ⟨w_1139, ws_63⟩ (by decide) rfl rfl (Nat.le_of_ble_eq_true rfl) d_M_rowOf_168) fun q8 => ?_
      refine hp_iinc (x0 := 3) (d := 1) (fun x9 => [(4, .int x9), (0, .ref a0), (1, .int a1), (2, .int a2)]) d_M_rowOf_171 rfl (by decide) (by decide) (fun _ => rfl) fun x9 => ?_
      refine hp_goto (tgt := 137) d_M_rowOf_174 (by decide) ?_
      refine hp_sub [1, 2, 3, 0] rfl ?_
      exact ih _ _ _ _ _
def m_M_rowOf_131 (G : Nat → Nat) (a0 : Nat) (a1 : Int32) (a2 : Int32) (s0 : Int32) (s1 : Int32) (s2 : Nat) (h : hp_H) : Option (Int32 × hp_H) := (hp_vck h s2 8 (m_M_start G s2 s1 s0 h)).bind fun q1 => hp_nm (0 : Int32) fun x2 => m_M_rowOf_137 G hp_fu a0 a1 a2 x2 q1.2
set_option maxRecDepth 100000 in
set_option maxHeartbeats 4000000 in
theorem j_M_rowOf_131 {Z : hp_Z} (a0 : Nat) (a1 : Int32) (a2 : Int32) (s0 : Int32) (s1 : Int32) (s2 : Nat) (h : hp_H) : hp_J Y_M_rowOf Z hp_rI h 131 [(0, .ref a0), (1, .int a1), (2, .int a2)] [.int s0, .int s1, .ref s2] (m_M_rowOf_131 (hp_G Z)  a0 a1 a2 s0 s1 s2 h) := by
  unfold m_M_rowOf_131
  refine hp_callU (hp_crV (ci := 8) (t_M_start _ _ _ _ _) cw_M_103 rfl ⟨w_985, ws_40⟩ (by decide) rfl rfl (Nat.le_of_ble_eq_true rfl) d_M_rowOf_131) fun q1 => ?_
  refine hp_iconst (v := 0) d_M_rowOf_134 (by decide) ?_
  refine hp_istore (fun x2 => [(4, .int x2), (0, .ref a0), (1, .int a1), (2, .int a2)]) d_M_rowOf_135 (by decide) (fun _ => rfl) fun x2 => ?_
  refine hp_sub [1, 2, 3, 0] rfl ?_
  exact j_M_rowOf_137  hp_fu _ _ _ _ _
def m_M_rowOf_112 (G : Nat → Nat) (a0 : Nat) (a1 : Int32) (a2 : Int32) (a3 : Int32) (s0 : Int32) (s1 : Nat) (h : hp_H) : Option (Int32 × hp_H) := if a3 = 0 then (m_M_rowOf_131 G a0 a1 a2 (0 : Int32) s0 s1 h) else ((hp_gR h a0 8 2).bind fun x1 => (hp_gR h a0 8 24).bind fun x2 => (hp_aI h .int x2 a1).bind fun x3 => (hp_aI h .int x1 x3).bind fun x4 => m_M_rowOf_131 G a0 a1 a2 x4 s0 s1 h)
set_option maxRecDepth 100000 in
set_option maxHeartbeats 4000000 in
theorem j_M_rowOf_112 {Z : hp_Z} (a0 : Nat) (a1 : Int32) (a2 : Int32) (a3 : Int32) (s0 : Int32) (s1 : Nat) (h : hp_H) : hp_J Y_M_rowOf Z hp_rI h 112 [(0, .ref a0), (1, .int a1), (2, .int a2), (3, .int a3)] [.int s0, .ref s1] (m_M_rowOf_112 (hp_G Z)  a0 a1 a2 a3 s0 s1 h) := by
  unfold m_M_rowOf_112
  refine hp_iload_n (x0 := 3) d_M_rowOf_112 rfl rfl ?_
  refine hp_if_eq (tgt := 130) d_M_rowOf_113 (by decide) ?_ ?_
  · refine hp_iconst (v := 0) d_M_rowOf_130 (by decide) ?_
    refine hp_sub [0, 1, 2] rfl ?_
    exact j_M_rowOf_131  _ _ _ _ _ _ _
  · refine hp_aload_n (x0 := 0) d_M_rowOf_116 rfl rfl ?_
    refine hp_getR fl_M_13 d_M_rowOf_117 fun x1 => ?_
    refine hp_aload_n (x0 := 0) d_M_rowOf_120 rfl rfl ?_
    refine hp_getR fl_M_60 d_M_rowOf_121 fun x2 => ?_
    refine hp_iload_n (x0 := 1) d_M_rowOf_124 rfl rfl ?_
    refine hp_iald d_M_rowOf_125 fun x3 => ?_
    refine hp_iald d_M_rowOf_126 fun x4 => ?_
    refine hp_goto (tgt := 131) d_M_rowOf_127 (by decide) ?_
    refine hp_sub [0, 1, 2] rfl ?_
    exact j_M_rowOf_131  _ _ _ _ _ _ _
def m_M_rowOf_13 (G : Nat → Nat) : Nat → Nat → Int32 → Int32 → Int32 → Int32 → hp_H → Option (Int32 × hp_H)
  | 0, _, _, _, _, _, _ => none
  | n + 1, a0, a1, a2, a3, a4, h => if a2 ≤ a4 then (if a3 = 0 then (m_M_rowOf_112 G a0 a1 a2 a3 (5 : Int32) a0 h) else (m_M_rowOf_112 G a0 a1 a2 a3 (6 : Int32) a0 h)) else ((hp_gR h a0 8 24).bind fun x1 => (hp_aI h .int x1 (a1 + a4)).bind fun x2 => (hp_vck h a0 8 (m_M_isPlain G a0 x2 h)).bind fun q3 => if q3.1 = 0 then (some ((-4 : Int32), q3.2)) else (if a3 = 0 then (m_M_rowOf_93 G (m_M_rowOf_13 G  n) a0 a1 a2 a4 q3.2) else ((hp_gR q3.2 a0 8 1).bind fun x4 => (hp_gR q3.2 a0 8 24).bind fun x5 => (hp_aI q3.2 .int x5 (a1 + a4)).bind fun x6 => (hp_aI q3.2 .int x4 x6).bind fun x7 => if x7 = (6 : Int32) then ((hp_gR q3.2 a0 8 2).bind fun x8 => (hp_gR q3.2 a0 8 24).bind fun x9 => (hp_aI q3.2 .int x9 (a1 + a4)).bind fun x10 => (hp_aI q3.2 .int x8 x10).bind fun x11 => (hp_gR q3.2 a0 8 2).bind fun x12 => (hp_gR q3.2 a0 8 24).bind fun x13 => (hp_aI q3.2 .int x13 a1).bind fun x14 => (hp_aI q3.2 .int x12 x14).bind fun x15 => if x11 = x15 then (m_M_rowOf_94 G (m_M_rowOf_13 G  n) a0 a1 a2 a4 (1 : Int32) q3.2) else (m_M_rowOf_93 G (m_M_rowOf_13 G  n) a0 a1 a2 a4 q3.2)) else (m_M_rowOf_93 G (m_M_rowOf_13 G  n) a0 a1 a2 a4 q3.2))))
set_option maxRecDepth 100000 in
set_option maxHeartbeats 4000000 in
theorem j_M_rowOf_13 {Z : hp_Z} : ∀ (n : Nat) (a0 : Nat) (a1 : Int32) (a2 : Int32) (a3 : Int32) (a4 : Int32) (h : hp_H), hp_J Y_M_rowOf Z hp_rI h 13 [(0, .ref a0), (1, .int a1), (2, .int a2), (3, .int a3), (4, .int a4)] [] (m_M_rowOf_13 (hp_G Z)  n a0 a1 a2 a3 a4 h) := by
  intro n
  induction n with
  | zero => intro a0 a1 a2 a3 a4 h; exact hp_fail
  | succ n ih =>
    intro a0 a1 a2 a3 a4 h
    rw [m_M_rowOf_13]
    refine hp_iload (x0 := 4) d_M_rowOf_13 rfl ?_
    refine hp_iload_n (x0 := 2) d_M_rowOf_15 rfl rfl ?_
    refine hp_icmp_ge (tgt := 101) d_M_rowOf_16 (by decide) ?_ ?_
    · refine hp_aload_n (x0 := 0) d_M_rowOf_101 rfl rfl ?_
      refine hp_iload_n (x0 := 3) d_M_rowOf_102 rfl rfl ?_
      refine hp_if_eq (tgt := 111) d_M_rowOf_103 (by decide) ?_ ?_
      · refine hp_iconst (v := 5) d_M_rowOf_111 (by decide) ?_
        refine hp_sub [0, 1, 2, 3] rfl ?_
        exact j_M_rowOf_112  _ _ _ _ _ _ _
      · refine hp_bipush (v := 6) d_M_rowOf_106 (by decide) ?_
        refine hp_goto (tgt := 112) d_M_rowOf_108 (by decide) ?_
        refine hp_sub [0, 1, 2, 3] rfl ?_
        exact j_M_rowOf_112  _ _ _ _ _ _ _
    · refine hp_aload_n (x0 := 0) d_M_rowOf_19 rfl rfl ?_
      refine hp_aload_n (x0 := 0) d_M_rowOf_20 rfl rfl ?_
      refine hp_getR fl_M_60 d_M_rowOf_21 fun x1 => ?_
      refine hp_iload_n (x0 := 1) d_M_rowOf_24 rfl rfl ?_
      refine hp_iload (x0 := 4) d_M_rowOf_25 rfl ?_
      refine hp_iadd d_M_rowOf_27 ?_
      refine hp_iald d_M_rowOf_28 fun x2 => ?_
      refine hp_callI (hp_crV (ci := 8) (t_M_isPlain _ _ _ _) cw_M_217 rfl ⟨w_1135, ws_62⟩ (by decide) rfl rfl (Nat.le_of_ble_eq_true rfl) d_M_rowOf_29) fun q3 => ?_
      refine hp_if_ne (tgt := 38) d_M_rowOf_32 (by decide) ?_ ?_
      · refine hp_bipush (v := -4) d_M_rowOf_35 (by decide) ?_
        exact hp_iret d_M_rowOf_37 rfl
      · refine hp_iload_n (x0 := 3) d_M_rowOf_38 rfl rfl ?_
        refine hp_if_eq (tgt := 93) d_M_rowOf_39 (by decide) ?_ ?_
        · refine hp_sub [0, 1, 2, 4] rfl ?_
          exact j_M_rowOf_93 _ ih _ _ _ _ _
        · refine hp_aload_n (x0 := 0) d_M_rowOf_42 rfl rfl ?_
          refine hp_getR fl_M_7 d_M_rowOf_43 fun x4 => ?_
          refine hp_aload_n (x0 := 0) d_M_rowOf_46 rfl rfl ?_
          refine hp_getR fl_M_60 d_M_rowOf_47 fun x5 => ?_
          refine hp_iload_n (x0 := 1) d_M_rowOf_50 rfl rfl ?_
          refine hp_iload (x0 := 4) d_M_rowOf_51 rfl ?_
          refine hp_iadd d_M_rowOf_53 ?_
          refine hp_iald d_M_rowOf_54 fun x6 => ?_
          refine hp_iald d_M_rowOf_55 fun x7 => ?_
          refine hp_bipush (v := 6) d_M_rowOf_56 (by decide) ?_
          refine hp_icmp_ne (tgt := 93) d_M_rowOf_58 (by decide) ?_ ?_
          · refine hp_aload_n (x0 := 0) d_M_rowOf_61 rfl rfl ?_
            refine hp_getR fl_M_13 d_M_rowOf_62 fun x8 => ?_
            refine hp_aload_n (x0 := 0) d_M_rowOf_65 rfl rfl ?_
            refine hp_getR fl_M_60 d_M_rowOf_66 fun x9 => ?_
            refine hp_iload_n (x0 := 1) d_M_rowOf_69 rfl rfl ?_
            refine hp_iload (x0 := 4) d_M_rowOf_70 rfl ?_
            refine hp_iadd d_M_rowOf_72 ?_
            refine hp_iald d_M_rowOf_73 fun x10 => ?_
            refine hp_iald d_M_rowOf_74 fun x11 => ?_
            refine hp_aload_n (x0 := 0) d_M_rowOf_75 rfl rfl ?_
            refine hp_getR fl_M_13 d_M_rowOf_76 fun x12 => ?_
            refine hp_aload_n (x0 := 0) d_M_rowOf_79 rfl rfl ?_
            refine hp_getR fl_M_60 d_M_rowOf_80 fun x13 => ?_
            refine hp_iload_n (x0 := 1) d_M_rowOf_83 rfl rfl ?_
            refine hp_iald d_M_rowOf_84 fun x14 => ?_
            refine hp_iald d_M_rowOf_85 fun x15 => ?_
            refine hp_icmp_ne (tgt := 93) d_M_rowOf_86 (by decide) ?_ ?_
            · refine hp_iconst (v := 1) d_M_rowOf_89 (by decide) ?_
              refine hp_goto (tgt := 94) d_M_rowOf_90 (by decide) ?_
              refine hp_sub [0, 1, 2, 4] rfl ?_
              exact j_M_rowOf_94 _ ih _ _ _ _ _ _
            · refine hp_sub [0, 1, 2, 4] rfl ?_
              exact j_M_rowOf_93 _ ih _ _ _ _ _
          · refine hp_sub [0, 1, 2, 4] rfl ?_
            exact j_M_rowOf_93 _ ih _ _ _ _ _
def m_M_rowOf_9 (G : Nat → Nat) (a0 : Nat) (a1 : Int32) (a2 : Int32) (s0 : Int32) (h : hp_H) : Option (Int32 × hp_H) := hp_nm s0 fun x1 => hp_nm (0 : Int32) fun x2 => m_M_rowOf_13 G hp_fu a0 a1 a2 x1 x2 h
set_option maxRecDepth 100000 in
set_option maxHeartbeats 4000000 in
theorem j_M_rowOf_9 {Z : hp_Z} (a0 : Nat) (a1 : Int32) (a2 : Int32) (s0 : Int32) (h : hp_H) : hp_J Y_M_rowOf Z hp_rI h 9 [(0, .ref a0), (1, .int a1), (2, .int a2)] [.int s0] (m_M_rowOf_9 (hp_G Z)  a0 a1 a2 s0 h) := by
  unfold m_M_rowOf_9
  refine hp_istore_n (fun x1 => [(3, .int x1), (0, .ref a0), (1, .int a1), (2, .int a2)]) d_M_rowOf_9 rfl (by decide) (fun _ => rfl) fun x1 => ?_
  refine hp_iconst (v := 0) d_M_rowOf_10 (by decide) ?_
  refine hp_istore (fun x2 => [(4, .int x2), (3, .int x1), (0, .ref a0), (1, .int a1), (2, .int a2)]) d_M_rowOf_11 (by decide) (fun _ => rfl) fun x2 => ?_
  refine hp_sub [2, 3, 4, 1, 0] rfl ?_
  exact j_M_rowOf_13  hp_fu _ _ _ _ _ _
def m_M_rowOf (G : Nat → Nat) (a0 : Nat) (a1 : Int32) (a2 : Int32) (h : hp_H) : Option (Int32 × hp_H) := if a2 ≤ 0 then (m_M_rowOf_9 G a0 a1 a2 (0 : Int32) h) else (m_M_rowOf_9 G a0 a1 a2 (1 : Int32) h)
set_option maxRecDepth 100000 in
set_option maxHeartbeats 4000000 in
theorem j_M_rowOf_0 {Z : hp_Z} (a0 : Nat) (a1 : Int32) (a2 : Int32) (h : hp_H) : hp_J Y_M_rowOf Z hp_rI h 0 [(0, .ref a0), (1, .int a1), (2, .int a2)] [] (m_M_rowOf (hp_G Z)  a0 a1 a2 h) := by
  unfold m_M_rowOf
  refine hp_iload_n (x0 := 2) d_M_rowOf_0 rfl rfl ?_
  refine hp_if_le (tgt := 8) d_M_rowOf_1 (by decide) ?_ ?_
  · refine hp_iconst (v := 0) d_M_rowOf_8 (by decide) ?_
    exact j_M_rowOf_9  _ _ _ _ _
  · refine hp_iconst (v := 1) d_M_rowOf_4 (by decide) ?_
    refine hp_goto (tgt := 9) d_M_rowOf_5 (by decide) ?_
    exact j_M_rowOf_9  _ _ _ _ _
theorem t_M_rowOf (l : Launch) (E : hp_E) (a0 : Nat) (a1 : Int32) (a2 : Int32) : hp_M l E y_M_rowOf Y_M_rowOf hp_rI [.ref a0, .int a1, .int a2] (m_M_rowOf E.2.2.1 a0 a1 a2) := hp_M.of (plainFor_of_name (by decide)) ⟨rfl, rfl⟩ (Nat.le_of_ble_eq_true rfl) (fun Z h hE => by subst hE; exact j_M_rowOf_0 _ _ _ h)
-- M_some
theorem d_M_some_0 : decode prog_9_method_56_code 0 = .ok (.aload_n 0, 1) := by decide +kernel
theorem d_M_some_1 : decode prog_9_method_56_code 1 = .ok (.iload_n 1, 1) := by decide +kernel
theorem d_M_some_2 : decode prog_9_method_56_code 2 = .ok (.invokevirtual 217, 3) := by decide +kernel
theorem d_M_some_5 : decode prog_9_method_56_code 5 = .ok (.ifCond .eq 23, 3) := by decide +kernel
theorem d_M_some_8 : decode prog_9_method_56_code 8 = .ok (.aload_n 0, 1) := by decide +kernel
theorem d_M_some_9 : decode prog_9_method_56_code 9 = .ok (.getfield 7, 3) := by decide +kernel
theorem d_M_some_12 : decode prog_9_method_56_code 12 = .ok (.iload_n 2, 1) := by decide +kernel
theorem d_M_some_13 : decode prog_9_method_56_code 13 = .ok (.iaload, 1) := by decide +kernel
theorem d_M_some_14 : decode prog_9_method_56_code 14 = .ok (.iconst 3, 1) := by decide +kernel
theorem d_M_some_15 : decode prog_9_method_56_code 15 = .ok (.if_icmp .ne 13, 3) := by decide +kernel
theorem d_M_some_18 : decode prog_9_method_56_code 18 = .ok (.aload_n 0, 1) := by decide +kernel
theorem d_M_some_19 : decode prog_9_method_56_code 19 = .ok (.getfield 7, 3) := by decide +kernel
theorem d_M_some_22 : decode prog_9_method_56_code 22 = .ok (.iload_n 3, 1) := by decide +kernel
theorem d_M_some_23 : decode prog_9_method_56_code 23 = .ok (.iaload, 1) := by decide +kernel
theorem d_M_some_24 : decode prog_9_method_56_code 24 = .ok (.iconst 3, 1) := by decide +kernel
theorem d_M_some_25 : decode prog_9_method_56_code 25 = .ok (.if_icmp .eq 6, 3) := by decide +kernel
theorem d_M_some_28 : decode prog_9_method_56_code 28 = .ok (.bipush (-4), 2) := by decide +kernel
theorem d_M_some_30 : decode prog_9_method_56_code 30 = .ok (.ireturn, 1) := by decide +kernel
theorem d_M_some_31 : decode prog_9_method_56_code 31 = .ok (.aload_n 0, 1) := by decide +kernel
theorem d_M_some_32 : decode prog_9_method_56_code 32 = .ok (.iload_n 2, 1) := by decide +kernel
theorem d_M_some_33 : decode prog_9_method_56_code 33 = .ok (.invokevirtual 234, 3) := by decide +kernel
theorem d_M_some_36 : decode prog_9_method_56_code 36 = .ok (.lstore 4, 2) := by decide +kernel
theorem d_M_some_38 : decode prog_9_method_56_code 38 = .ok (.lload 4, 2) := by decide +kernel
theorem d_M_some_40 : decode prog_9_method_56_code 40 = .ok (.aload_n 0, 1) := by decide +kernel
theorem d_M_some_41 : decode prog_9_method_56_code 41 = .ok (.iload_n 3, 1) := by decide +kernel
theorem d_M_some_42 : decode prog_9_method_56_code 42 = .ok (.invokevirtual 234, 3) := by decide +kernel
theorem d_M_some_45 : decode prog_9_method_56_code 45 = .ok (.ladd, 1) := by decide +kernel
theorem d_M_some_46 : decode prog_9_method_56_code 46 = .ok (.lstore 6, 2) := by decide +kernel
theorem d_M_some_48 : decode prog_9_method_56_code 48 = .ok (.aload_n 0, 1) := by decide +kernel
theorem d_M_some_49 : decode prog_9_method_56_code 49 = .ok (.aload_n 0, 1) := by decide +kernel
theorem d_M_some_50 : decode prog_9_method_56_code 50 = .ok (.getfield 7, 3) := by decide +kernel
theorem d_M_some_53 : decode prog_9_method_56_code 53 = .ok (.iload_n 1, 1) := by decide +kernel
theorem d_M_some_54 : decode prog_9_method_56_code 54 = .ok (.iaload, 1) := by decide +kernel
theorem d_M_some_55 : decode prog_9_method_56_code 55 = .ok (.aload_n 0, 1) := by decide +kernel
theorem d_M_some_56 : decode prog_9_method_56_code 56 = .ok (.getfield 13, 3) := by decide +kernel
theorem d_M_some_59 : decode prog_9_method_56_code 59 = .ok (.iload_n 1, 1) := by decide +kernel
theorem d_M_some_60 : decode prog_9_method_56_code 60 = .ok (.iaload, 1) := by decide +kernel
theorem d_M_some_61 : decode prog_9_method_56_code 61 = .ok (.invokevirtual 103, 3) := by decide +kernel
theorem d_M_some_64 : decode prog_9_method_56_code 64 = .ok (.iconst 1, 1) := by decide +kernel
theorem d_M_some_65 : decode prog_9_method_56_code 65 = .ok (.istore 8, 2) := by decide +kernel
theorem d_M_some_67 : decode prog_9_method_56_code 67 = .ok (.iload 8, 2) := by decide +kernel
theorem d_M_some_69 : decode prog_9_method_56_code 69 = .ok (.aload_n 0, 1) := by decide +kernel
theorem d_M_some_70 : decode prog_9_method_56_code 70 = .ok (.getfield 26, 3) := by decide +kernel
theorem d_M_some_73 : decode prog_9_method_56_code 73 = .ok (.iload_n 1, 1) := by decide +kernel
theorem d_M_some_74 : decode prog_9_method_56_code 74 = .ok (.iaload, 1) := by decide +kernel
theorem d_M_some_75 : decode prog_9_method_56_code 75 = .ok (.if_icmp .gt 45, 3) := by decide +kernel
theorem d_M_some_78 : decode prog_9_method_56_code 78 = .ok (.lload 4, 2) := by decide +kernel
theorem d_M_some_80 : decode prog_9_method_56_code 80 = .ok (.iload 8, 2) := by decide +kernel
theorem d_M_some_82 : decode prog_9_method_56_code 82 = .ok (.i2l, 1) := by decide +kernel
theorem d_M_some_83 : decode prog_9_method_56_code 83 = .ok (.lcmp, 1) := by decide +kernel
theorem d_M_some_84 : decode prog_9_method_56_code 84 = .ok (.ifCond .gt 30, 3) := by decide +kernel
theorem d_M_some_87 : decode prog_9_method_56_code 87 = .ok (.iload 8, 2) := by decide +kernel
theorem d_M_some_89 : decode prog_9_method_56_code 89 = .ok (.i2l, 1) := by decide +kernel
theorem d_M_some_90 : decode prog_9_method_56_code 90 = .ok (.lload 6, 2) := by decide +kernel
theorem d_M_some_92 : decode prog_9_method_56_code 92 = .ok (.lcmp, 1) := by decide +kernel
theorem d_M_some_93 : decode prog_9_method_56_code 93 = .ok (.ifCond .ge 21, 3) := by decide +kernel
theorem d_M_some_96 : decode prog_9_method_56_code 96 = .ok (.aload_n 0, 1) := by decide +kernel
theorem d_M_some_97 : decode prog_9_method_56_code 97 = .ok (.aload_n 0, 1) := by decide +kernel
theorem d_M_some_98 : decode prog_9_method_56_code 98 = .ok (.getfield 30, 3) := by decide +kernel
theorem d_M_some_101 : decode prog_9_method_56_code 101 = .ok (.bipush 64, 2) := by decide +kernel
theorem d_M_some_103 : decode prog_9_method_56_code 103 = .ok (.iload_n 1, 1) := by decide +kernel
theorem d_M_some_104 : decode prog_9_method_56_code 104 = .ok (.imul, 1) := by decide +kernel
theorem d_M_some_105 : decode prog_9_method_56_code 105 = .ok (.iload 8, 2) := by decide +kernel
theorem d_M_some_107 : decode prog_9_method_56_code 107 = .ok (.iadd, 1) := by decide +kernel
theorem d_M_some_108 : decode prog_9_method_56_code 108 = .ok (.iconst 1, 1) := by decide +kernel
theorem d_M_some_109 : decode prog_9_method_56_code 109 = .ok (.isub, 1) := by decide +kernel
theorem d_M_some_110 : decode prog_9_method_56_code 110 = .ok (.iaload, 1) := by decide +kernel
theorem d_M_some_111 : decode prog_9_method_56_code 111 = .ok (.invokevirtual 157, 3) := by decide +kernel
theorem d_M_some_114 : decode prog_9_method_56_code 114 = .ok (.iinc 8 1, 3) := by decide +kernel
theorem d_M_some_117 : decode prog_9_method_56_code 117 = .ok (.goto (-50), 3) := by decide +kernel
theorem d_M_some_120 : decode prog_9_method_56_code 120 = .ok (.aload_n 0, 1) := by decide +kernel
theorem d_M_some_121 : decode prog_9_method_56_code 121 = .ok (.invokevirtual 111, 3) := by decide +kernel
theorem d_M_some_124 : decode prog_9_method_56_code 124 = .ok (.ireturn, 1) := by decide +kernel
def m_M_some_28 (G : Nat → Nat) (h : hp_H) : Option (Int32 × hp_H) := some ((-4 : Int32), h)
set_option maxRecDepth 100000 in
set_option maxHeartbeats 4000000 in
theorem j_M_some_28 {Z : hp_Z} (h : hp_H) : hp_J Y_M_some Z hp_rI h 28 [] [] (m_M_some_28 (hp_G Z)   h) := by
  unfold m_M_some_28
  refine hp_bipush (v := -4) d_M_some_28 (by decide) ?_
  exact hp_iret d_M_some_30 rfl
def m_M_some_114 (G : Nat → Nat) (r67 : Nat → Int32 → Int64 → Int64 → Int32 → hp_H → Option (Int32 × hp_H)) (a0 : Nat) (a1 : Int32) (a4 : Int64) (a6 : Int64) (a8 : Int32) (h : hp_H) : Option (Int32 × hp_H) := hp_nm (a8 + 1) fun x1 => r67 a0 a1 a4 a6 x1 h
set_option maxRecDepth 100000 in
set_option maxHeartbeats 4000000 in
theorem j_M_some_114 {Z : hp_Z} (r67 : Nat → Int32 → Int64 → Int64 → Int32 → hp_H → Option (Int32 × hp_H)) (hr67 : ∀ (a0 : Nat) (a1 : Int32) (a4 : Int64) (a6 : Int64) (a8 : Int32) (h : hp_H), hp_J Y_M_some Z hp_rI h 67 [(0, .ref a0), (1, .int a1), (4, .long a4), (6, .long a6), (8, .int a8)] [] (r67 a0 a1 a4 a6 a8  h)) (a0 : Nat) (a1 : Int32) (a4 : Int64) (a6 : Int64) (a8 : Int32) (h : hp_H) : hp_J Y_M_some Z hp_rI h 114 [(0, .ref a0), (1, .int a1), (4, .long a4), (6, .long a6), (8, .int a8)] [] (m_M_some_114 (hp_G Z) r67 a0 a1 a4 a6 a8 h) := by
  unfold m_M_some_114
  refine hp_iinc (x0 := 4) (d := 1) (fun x1 => [(8, .int x1), (0, .ref a0), (1, .int a1), (4, .long a4), (6, .long a6)]) d_M_some_114 rfl (by decide) (by decide) (fun _ => rfl) fun x1 => ?_
  refine hp_goto (tgt := 67) d_M_some_117 (by decide) ?_
  refine hp_sub [1, 2, 3, 4, 0] rfl ?_
  exact hr67 _ _ _ _ _ _
def m_M_some_67 (G : Nat → Nat) : Nat → Nat → Int32 → Int64 → Int64 → Int32 → hp_H → Option (Int32 × hp_H)
  | 0, _, _, _, _, _, _ => none
  | n + 1, a0, a1, a4, a6, a8, h => (hp_gR h a0 8 6).bind fun x1 => (hp_aI h .int x1 a1).bind fun x2 => if x2 < a8 then ((hp_vck h a0 8 (m_M_keep G a0 h)).bind fun q3 => some (q3.1, q3.2)) else (if 0 < (lg_cmp a4 a8.toInt64) then (m_M_some_114 G (m_M_some_67 G  n) a0 a1 a4 a6 a8 h) else (if 0 ≤ (lg_cmp a8.toInt64 a6) then (m_M_some_114 G (m_M_some_67 G  n) a0 a1 a4 a6 a8 h) else ((hp_gR h a0 8 7).bind fun x4 => (hp_aI h .int x4 ((((64 : Int32) * a1) + a8) - (1 : Int32))).bind fun x5 => (hp_vck h a0 8 (m_M_letter G a0 x5 h)).bind fun q6 => m_M_some_114 G (m_M_some_67 G  n) a0 a1 a4 a6 a8 q6.2)))
set_option maxRecDepth 100000 in
set_option maxHeartbeats 4000000 in
theorem j_M_some_67 {Z : hp_Z} : ∀ (n : Nat) (a0 : Nat) (a1 : Int32) (a4 : Int64) (a6 : Int64) (a8 : Int32) (h : hp_H), hp_J Y_M_some Z hp_rI h 67 [(0, .ref a0), (1, .int a1), (4, .long a4), (6, .long a6), (8, .int a8)] [] (m_M_some_67 (hp_G Z)  n a0 a1 a4 a6 a8 h) := by
  intro n
  induction n with
  | zero => intro a0 a1 a4 a6 a8 h; exact hp_fail
  | succ n ih =>
    intro a0 a1 a4 a6 a8 h
    rw [m_M_some_67]
    refine hp_iload (x0 := 4) d_M_some_67 rfl ?_
    refine hp_aload_n (x0 := 0) d_M_some_69 rfl rfl ?_
    refine hp_getR fl_M_26 d_M_some_70 fun x1 => ?_
    refine hp_iload_n (x0 := 1) d_M_some_73 rfl rfl ?_
    refine hp_iald d_M_some_74 fun x2 => ?_
    refine hp_icmp_gt (tgt := 120) d_M_some_75 (by decide) ?_ ?_
    · refine hp_aload_n (x0 := 0) d_M_some_120 rfl rfl ?_
      refine hp_callI (hp_crV (ci := 8) (t_M_keep _ _ _) cw_M_111 rfl ⟨w_992, ws_41⟩ (by decide) rfl rfl (Nat.le_of_ble_eq_true rfl) d_M_some_121) fun q3 => ?_
      exact hp_iret d_M_some_124 rfl
    · refine hp_lload (x0 := 2) d_M_some_78 rfl ?_
      refine hp_iload (x0 := 4) d_M_some_80 rfl ?_
      refine hp_i2l d_M_some_82 ?_
      refine hp_lcmp d_M_some_83 ?_
      refine hp_if_gt (tgt := 114) d_M_some_84 (by decide) ?_ ?_
      · exact j_M_some_114 _ ih _ _ _ _ _ _
      · refine hp_iload (x0 := 4) d_M_some_87 rfl ?_
        refine hp_i2l d_M_some_89 ?_
        refine hp_lload (x0 := 3) d_M_some_90 rfl ?_
        refine hp_lcmp d_M_some_92 ?_
        refine hp_if_ge (tgt := 114) d_M_some_93 (by decide) ?_ ?_
        · exact j_M_some_114 _ ih _ _ _ _ _ _
        · refine hp_aload_n (x0 := 0) d_M_some_96 rfl rfl ?_
          refine hp_aload_n (x0 := 0) d_M_some_97 rfl rfl ?_
          refine hp_getR fl_M_30 d_M_some_98 fun x4 => ?_
          refine hp_bipush (v := 64) d_M_some_101 (by decide) ?_
          refine hp_iload_n (x0 := 1) d_M_some_103 rfl rfl ?_
          refine hp_imul d_M_some_104 ?_
          refine hp_iload (x0 := 4) d_M_some_105 rfl ?_
          refine hp_iadd d_M_some_107 ?_
          refine hp_iconst (v := 1) d_M_some_108 (by decide) ?_
          refine hp_isub d_M_some_109 ?_
          refine hp_iald d_M_some_110 fun x5 => ?_
          refine hp_callU (hp_crV (ci := 8) (t_M_letter _ _ _ _) cw_M_157 rfl ⟨w_1016, ws_43⟩ (by decide) rfl rfl (Nat.le_of_ble_eq_true rfl) d_M_some_111) fun q6 => ?_
          exact j_M_some_114 _ ih _ _ _ _ _ _
def m_M_some (G : Nat → Nat) (a0 : Nat) (a1 : Int32) (a2 : Int32) (a3 : Int32) (h : hp_H) : Option (Int32 × hp_H) := (hp_vck h a0 8 (m_M_isPlain G a0 a1 h)).bind fun q1 => if q1.1 = 0 then (m_M_some_28 G q1.2) else ((hp_gR q1.2 a0 8 1).bind fun x2 => (hp_aI q1.2 .int x2 a2).bind fun x3 => if x3 = (3 : Int32) then ((hp_gR q1.2 a0 8 1).bind fun x4 => (hp_aI q1.2 .int x4 a3).bind fun x5 => if x5 = (3 : Int32) then ((hp_vck q1.2 a0 8 (m_M_amount G a0 a2 q1.2)).bind fun q6 => hp_nm q6.1 fun x7 => (hp_vck q6.2 a0 8 (m_M_amount G a0 a3 q6.2)).bind fun q8 => hp_nm (x7 + q8.1) fun x9 => (hp_gR q8.2 a0 8 1).bind fun x10 => (hp_aI q8.2 .int x10 a1).bind fun x11 => (hp_gR q8.2 a0 8 2).bind fun x12 => (hp_aI q8.2 .int x12 a1).bind fun x13 => (hp_vck q8.2 a0 8 (m_M_start G a0 x11 x13 q8.2)).bind fun q14 => hp_nm (1 : Int32) fun x15 => m_M_some_67 G hp_fu a0 a1 x7 x9 x15 q14.2) else (m_M_some_28 G q1.2)) else (m_M_some_28 G q1.2))
set_option maxRecDepth 100000 in
set_option maxHeartbeats 4000000 in
theorem j_M_some_0 {Z : hp_Z} (a0 : Nat) (a1 : Int32) (a2 : Int32) (a3 : Int32) (h : hp_H) : hp_J Y_M_some Z hp_rI h 0 [(0, .ref a0), (1, .int a1), (2, .int a2), (3, .int a3)] [] (m_M_some (hp_G Z)  a0 a1 a2 a3 h) := by
  unfold m_M_some
  refine hp_aload_n (x0 := 0) d_M_some_0 rfl rfl ?_
  refine hp_iload_n (x0 := 1) d_M_some_1 rfl rfl ?_
  refine hp_callI (hp_crV (ci := 8) (t_M_isPlain _ _ _ _) cw_M_217 rfl ⟨w_1135, ws_62⟩ (by decide) rfl rfl (Nat.le_of_ble_eq_true rfl) d_M_some_2) fun q1 => ?_
  refine hp_if_eq (tgt := 28) d_M_some_5 (by decide) ?_ ?_
  · refine hp_sub [] rfl ?_
    exact j_M_some_28   _
  · refine hp_aload_n (x0 := 0) d_M_some_8 rfl rfl ?_
    refine hp_getR fl_M_7 d_M_some_9 fun x2 => ?_
    refine hp_iload_n (x0 := 2) d_M_some_12 rfl rfl ?_
    refine hp_iald d_M_some_13 fun x3 => ?_
    refine hp_iconst (v := 3) d_M_some_14 (by decide) ?_
    refine hp_icmp_ne (tgt := 28) d_M_some_15 (by decide) ?_ ?_
    · refine hp_aload_n (x0 := 0) d_M_some_18 rfl rfl ?_
      refine hp_getR fl_M_7 d_M_some_19 fun x4 => ?_
      refine hp_iload_n (x0 := 3) d_M_some_22 rfl rfl ?_
      refine hp_iald d_M_some_23 fun x5 => ?_
      refine hp_iconst (v := 3) d_M_some_24 (by decide) ?_
      refine hp_icmp_eq (tgt := 31) d_M_some_25 (by decide) ?_ ?_
      · refine hp_aload_n (x0 := 0) d_M_some_31 rfl rfl ?_
        refine hp_iload_n (x0 := 2) d_M_some_32 rfl rfl ?_
        refine hp_callL (hp_crV (ci := 8) (t_M_amount _ _ _ _) cw_M_234 rfl ⟨w_1027, w_1028⟩ (by decide) rfl rfl (Nat.le_of_ble_eq_true rfl) d_M_some_33) fun q6 => ?_
        refine hp_lstore (fun x7 => [(4, .long x7), (0, .ref a0), (1, .int a1), (2, .int a2), (3, .int a3)]) d_M_some_36 (by decide) (fun _ => rfl) fun x7 => ?_
        refine hp_lload (x0 := 0) d_M_some_38 rfl ?_
        refine hp_aload_n (x0 := 1) d_M_some_40 rfl rfl ?_
        refine hp_iload_n (x0 := 4) d_M_some_41 rfl rfl ?_
        refine hp_callL (hp_crV (ci := 8) (t_M_amount _ _ _ _) cw_M_234 rfl ⟨w_1027, w_1028⟩ (by decide) rfl rfl (Nat.le_of_ble_eq_true rfl) d_M_some_42) fun q8 => ?_
        refine hp_ladd d_M_some_45 ?_
        refine hp_lstore (fun x9 => [(6, .long x9), (4, .long x7), (0, .ref a0), (1, .int a1), (2, .int a2), (3, .int a3)]) d_M_some_46 (by decide) (fun _ => rfl) fun x9 => ?_
        refine hp_aload_n (x0 := 2) d_M_some_48 rfl rfl ?_
        refine hp_aload_n (x0 := 2) d_M_some_49 rfl rfl ?_
        refine hp_getR fl_M_7 d_M_some_50 fun x10 => ?_
        refine hp_iload_n (x0 := 3) d_M_some_53 rfl rfl ?_
        refine hp_iald d_M_some_54 fun x11 => ?_
        refine hp_aload_n (x0 := 2) d_M_some_55 rfl rfl ?_
        refine hp_getR fl_M_13 d_M_some_56 fun x12 => ?_
        refine hp_iload_n (x0 := 3) d_M_some_59 rfl rfl ?_
        refine hp_iald d_M_some_60 fun x13 => ?_
        refine hp_callU (hp_crV (ci := 8) (t_M_start _ _ _ _ _) cw_M_103 rfl ⟨w_985, ws_40⟩ (by decide) rfl rfl (Nat.le_of_ble_eq_true rfl) d_M_some_61) fun q14 => ?_
        refine hp_iconst (v := 1) d_M_some_64 (by decide) ?_
        refine hp_istore (fun x15 => [(8, .int x15), (6, .long x9), (4, .long x7), (0, .ref a0), (1, .int a1), (2, .int a2), (3, .int a3)]) d_M_some_65 (by decide) (fun _ => rfl) fun x15 => ?_
        refine hp_sub [3, 4, 2, 1, 0] rfl ?_
        exact j_M_some_67  hp_fu _ _ _ _ _ _
      · refine hp_sub [] rfl ?_
        exact j_M_some_28   _
    · refine hp_sub [] rfl ?_
      exact j_M_some_28   _
theorem t_M_some (l : Launch) (E : hp_E) (a0 : Nat) (a1 : Int32) (a2 : Int32) (a3 : Int32) : hp_M l E y_M_some Y_M_some hp_rI [.ref a0, .int a1, .int a2, .int a3] (m_M_some E.2.2.1 a0 a1 a2 a3) := hp_M.of (plainFor_of_name (by decide)) ⟨rfl, rfl⟩ (Nat.le_of_ble_eq_true rfl) (fun Z h hE => by subst hE; exact j_M_some_0 _ _ _ _ h)
-- M_takes
theorem d_M_takes_0 : decode prog_9_method_61_code 0 = .ok (.aload_n 0, 1) := by decide +kernel
theorem d_M_takes_1 : decode prog_9_method_61_code 1 = .ok (.getfield 51, 3) := by decide +kernel
theorem d_M_takes_4 : decode prog_9_method_61_code 4 = .ok (.iload_n 1, 1) := by decide +kernel
theorem d_M_takes_5 : decode prog_9_method_61_code 5 = .ok (.iaload, 1) := by decide +kernel
theorem d_M_takes_6 : decode prog_9_method_61_code 6 = .ok (.istore_n 2, 1) := by decide +kernel
theorem d_M_takes_7 : decode prog_9_method_61_code 7 = .ok (.iload_n 2, 1) := by decide +kernel
theorem d_M_takes_8 : decode prog_9_method_61_code 8 = .ok (.iconst 3, 1) := by decide +kernel
theorem d_M_takes_9 : decode prog_9_method_61_code 9 = .ok (.if_icmp .ge 5, 3) := by decide +kernel
theorem d_M_takes_12 : decode prog_9_method_61_code 12 = .ok (.iconst 0, 1) := by decide +kernel
theorem d_M_takes_13 : decode prog_9_method_61_code 13 = .ok (.ireturn, 1) := by decide +kernel
theorem d_M_takes_14 : decode prog_9_method_61_code 14 = .ok (.iload_n 2, 1) := by decide +kernel
theorem d_M_takes_15 : decode prog_9_method_61_code 15 = .ok (.bipush 23, 2) := by decide +kernel
theorem d_M_takes_17 : decode prog_9_method_61_code 17 = .ok (.if_icmp .eq 9, 3) := by decide +kernel
theorem d_M_takes_20 : decode prog_9_method_61_code 20 = .ok (.iload_n 2, 1) := by decide +kernel
theorem d_M_takes_21 : decode prog_9_method_61_code 21 = .ok (.bipush 29, 2) := by decide +kernel
theorem d_M_takes_23 : decode prog_9_method_61_code 23 = .ok (.if_icmp .ne 10, 3) := by decide +kernel
theorem d_M_takes_26 : decode prog_9_method_61_code 26 = .ok (.aload_n 0, 1) := by decide +kernel
theorem d_M_takes_27 : decode prog_9_method_61_code 27 = .ok (.getfield 54, 3) := by decide +kernel
theorem d_M_takes_30 : decode prog_9_method_61_code 30 = .ok (.iload_n 1, 1) := by decide +kernel
theorem d_M_takes_31 : decode prog_9_method_61_code 31 = .ok (.iaload, 1) := by decide +kernel
theorem d_M_takes_32 : decode prog_9_method_61_code 32 = .ok (.ireturn, 1) := by decide +kernel
theorem d_M_takes_33 : decode prog_9_method_61_code 33 = .ok (.iload_n 2, 1) := by decide +kernel
theorem d_M_takes_34 : decode prog_9_method_61_code 34 = .ok (.bipush 24, 2) := by decide +kernel
theorem d_M_takes_36 : decode prog_9_method_61_code 36 = .ok (.if_icmp .ne 12, 3) := by decide +kernel
theorem d_M_takes_39 : decode prog_9_method_61_code 39 = .ok (.aload_n 0, 1) := by decide +kernel
theorem d_M_takes_40 : decode prog_9_method_61_code 40 = .ok (.getfield 54, 3) := by decide +kernel
theorem d_M_takes_43 : decode prog_9_method_61_code 43 = .ok (.iload_n 1, 1) := by decide +kernel
theorem d_M_takes_44 : decode prog_9_method_61_code 44 = .ok (.iaload, 1) := by decide +kernel
theorem d_M_takes_45 : decode prog_9_method_61_code 45 = .ok (.iconst 1, 1) := by decide +kernel
theorem d_M_takes_46 : decode prog_9_method_61_code 46 = .ok (.iadd, 1) := by decide +kernel
theorem d_M_takes_47 : decode prog_9_method_61_code 47 = .ok (.ireturn, 1) := by decide +kernel
theorem d_M_takes_48 : decode prog_9_method_61_code 48 = .ok (.iload_n 2, 1) := by decide +kernel
theorem d_M_takes_49 : decode prog_9_method_61_code 49 = .ok (.bipush 22, 2) := by decide +kernel
theorem d_M_takes_51 : decode prog_9_method_61_code 51 = .ok (.if_icmp .eq 9, 3) := by decide +kernel
theorem d_M_takes_54 : decode prog_9_method_61_code 54 = .ok (.iload_n 2, 1) := by decide +kernel
theorem d_M_takes_55 : decode prog_9_method_61_code 55 = .ok (.bipush 26, 2) := by decide +kernel
theorem d_M_takes_57 : decode prog_9_method_61_code 57 = .ok (.if_icmp .ne 5, 3) := by decide +kernel
theorem d_M_takes_60 : decode prog_9_method_61_code 60 = .ok (.iconst 3, 1) := by decide +kernel
theorem d_M_takes_61 : decode prog_9_method_61_code 61 = .ok (.ireturn, 1) := by decide +kernel
theorem d_M_takes_62 : decode prog_9_method_61_code 62 = .ok (.iload_n 2, 1) := by decide +kernel
theorem d_M_takes_63 : decode prog_9_method_61_code 63 = .ok (.iconst 3, 1) := by decide +kernel
theorem d_M_takes_64 : decode prog_9_method_61_code 64 = .ok (.if_icmp .eq 39, 3) := by decide +kernel
theorem d_M_takes_67 : decode prog_9_method_61_code 67 = .ok (.iload_n 2, 1) := by decide +kernel
theorem d_M_takes_68 : decode prog_9_method_61_code 68 = .ok (.bipush 16, 2) := by decide +kernel
theorem d_M_takes_70 : decode prog_9_method_61_code 70 = .ok (.if_icmp .le 9, 3) := by decide +kernel
theorem d_M_takes_73 : decode prog_9_method_61_code 73 = .ok (.iload_n 2, 1) := by decide +kernel
theorem d_M_takes_74 : decode prog_9_method_61_code 74 = .ok (.bipush 22, 2) := by decide +kernel
theorem d_M_takes_76 : decode prog_9_method_61_code 76 = .ok (.if_icmp .lt 27, 3) := by decide +kernel
theorem d_M_takes_79 : decode prog_9_method_61_code 79 = .ok (.iload_n 2, 1) := by decide +kernel
theorem d_M_takes_80 : decode prog_9_method_61_code 80 = .ok (.bipush 25, 2) := by decide +kernel
theorem d_M_takes_82 : decode prog_9_method_61_code 82 = .ok (.if_icmp .eq 21, 3) := by decide +kernel
theorem d_M_takes_85 : decode prog_9_method_61_code 85 = .ok (.iload_n 2, 1) := by decide +kernel
theorem d_M_takes_86 : decode prog_9_method_61_code 86 = .ok (.bipush 27, 2) := by decide +kernel
theorem d_M_takes_88 : decode prog_9_method_61_code 88 = .ok (.if_icmp .eq 15, 3) := by decide +kernel
theorem d_M_takes_91 : decode prog_9_method_61_code 91 = .ok (.iload_n 2, 1) := by decide +kernel
theorem d_M_takes_92 : decode prog_9_method_61_code 92 = .ok (.bipush 28, 2) := by decide +kernel
theorem d_M_takes_94 : decode prog_9_method_61_code 94 = .ok (.if_icmp .eq 9, 3) := by decide +kernel
theorem d_M_takes_97 : decode prog_9_method_61_code 97 = .ok (.iload_n 2, 1) := by decide +kernel
theorem d_M_takes_98 : decode prog_9_method_61_code 98 = .ok (.bipush 34, 2) := by decide +kernel
theorem d_M_takes_100 : decode prog_9_method_61_code 100 = .ok (.if_icmp .le 7, 3) := by decide +kernel
theorem d_M_takes_103 : decode prog_9_method_61_code 103 = .ok (.iconst 1, 1) := by decide +kernel
theorem d_M_takes_104 : decode prog_9_method_61_code 104 = .ok (.goto 4, 3) := by decide +kernel
theorem d_M_takes_107 : decode prog_9_method_61_code 107 = .ok (.iconst 2, 1) := by decide +kernel
theorem d_M_takes_108 : decode prog_9_method_61_code 108 = .ok (.ireturn, 1) := by decide +kernel
def m_M_takes_26 (G : Nat → Nat) (a0 : Nat) (a1 : Int32) (h : hp_H) : Option (Int32 × hp_H) := (hp_gR h a0 8 21).bind fun x1 => (hp_aI h .int x1 a1).bind fun x2 => some (x2, h)
set_option maxRecDepth 100000 in
set_option maxHeartbeats 4000000 in
theorem j_M_takes_26 {Z : hp_Z} (a0 : Nat) (a1 : Int32) (h : hp_H) : hp_J Y_M_takes Z hp_rI h 26 [(0, .ref a0), (1, .int a1)] [] (m_M_takes_26 (hp_G Z)  a0 a1 h) := by
  unfold m_M_takes_26
  refine hp_aload_n (x0 := 0) d_M_takes_26 rfl rfl ?_
  refine hp_getR fl_M_54 d_M_takes_27 fun x1 => ?_
  refine hp_iload_n (x0 := 1) d_M_takes_30 rfl rfl ?_
  refine hp_iald d_M_takes_31 fun x2 => ?_
  exact hp_iret d_M_takes_32 rfl
def m_M_takes_60 (G : Nat → Nat) (h : hp_H) : Option (Int32 × hp_H) := some ((3 : Int32), h)
set_option maxRecDepth 100000 in
set_option maxHeartbeats 4000000 in
theorem j_M_takes_60 {Z : hp_Z} (h : hp_H) : hp_J Y_M_takes Z hp_rI h 60 [] [] (m_M_takes_60 (hp_G Z)   h) := by
  unfold m_M_takes_60
  refine hp_iconst (v := 3) d_M_takes_60 (by decide) ?_
  exact hp_iret d_M_takes_61 rfl
def m_M_takes_108 (G : Nat → Nat) (s0 : Int32) (h : hp_H) : Option (Int32 × hp_H) := some (s0, h)
set_option maxRecDepth 100000 in
set_option maxHeartbeats 4000000 in
theorem j_M_takes_108 {Z : hp_Z} (s0 : Int32) (h : hp_H) : hp_J Y_M_takes Z hp_rI h 108 [] [.int s0] (m_M_takes_108 (hp_G Z)  s0 h) := by
  unfold m_M_takes_108
  exact hp_iret d_M_takes_108 rfl
def m_M_takes_103 (G : Nat → Nat) (h : hp_H) : Option (Int32 × hp_H) := m_M_takes_108 G (1 : Int32) h
set_option maxRecDepth 100000 in
set_option maxHeartbeats 4000000 in
theorem j_M_takes_103 {Z : hp_Z} (h : hp_H) : hp_J Y_M_takes Z hp_rI h 103 [] [] (m_M_takes_103 (hp_G Z)   h) := by
  unfold m_M_takes_103
  refine hp_iconst (v := 1) d_M_takes_103 (by decide) ?_
  refine hp_goto (tgt := 108) d_M_takes_104 (by decide) ?_
  exact j_M_takes_108  _ _
def m_M_takes_79 (G : Nat → Nat) (a2 : Int32) (h : hp_H) : Option (Int32 × hp_H) := if a2 = (25 : Int32) then (m_M_takes_103 G h) else (if a2 = (27 : Int32) then (m_M_takes_103 G h) else (if a2 = (28 : Int32) then (m_M_takes_103 G h) else (if a2 ≤ (34 : Int32) then (m_M_takes_108 G (2 : Int32) h) else (m_M_takes_103 G h))))
set_option maxRecDepth 100000 in
set_option maxHeartbeats 4000000 in
theorem j_M_takes_79 {Z : hp_Z} (a2 : Int32) (h : hp_H) : hp_J Y_M_takes Z hp_rI h 79 [(2, .int a2)] [] (m_M_takes_79 (hp_G Z)  a2 h) := by
  unfold m_M_takes_79
  refine hp_iload_n (x0 := 0) d_M_takes_79 rfl rfl ?_
  refine hp_bipush (v := 25) d_M_takes_80 (by decide) ?_
  refine hp_icmp_eq (tgt := 103) d_M_takes_82 (by decide) ?_ ?_
  · refine hp_sub [] rfl ?_
    exact j_M_takes_103   _
  · refine hp_iload_n (x0 := 0) d_M_takes_85 rfl rfl ?_
    refine hp_bipush (v := 27) d_M_takes_86 (by decide) ?_
    refine hp_icmp_eq (tgt := 103) d_M_takes_88 (by decide) ?_ ?_
    · refine hp_sub [] rfl ?_
      exact j_M_takes_103   _
    · refine hp_iload_n (x0 := 0) d_M_takes_91 rfl rfl ?_
      refine hp_bipush (v := 28) d_M_takes_92 (by decide) ?_
      refine hp_icmp_eq (tgt := 103) d_M_takes_94 (by decide) ?_ ?_
      · refine hp_sub [] rfl ?_
        exact j_M_takes_103   _
      · refine hp_iload_n (x0 := 0) d_M_takes_97 rfl rfl ?_
        refine hp_bipush (v := 34) d_M_takes_98 (by decide) ?_
        refine hp_icmp_le (tgt := 107) d_M_takes_100 (by decide) ?_ ?_
        · refine hp_iconst (v := 2) d_M_takes_107 (by decide) ?_
          refine hp_sub [] rfl ?_
          exact j_M_takes_108  _ _
        · refine hp_sub [] rfl ?_
          exact j_M_takes_103   _
def m_M_takes (G : Nat → Nat) (a0 : Nat) (a1 : Int32) (h : hp_H) : Option (Int32 × hp_H) := (hp_gR h a0 8 20).bind fun x1 => (hp_aI h .int x1 a1).bind fun x2 => hp_nm x2 fun x3 => if (3 : Int32) ≤ x3 then (if x3 = (23 : Int32) then (m_M_takes_26 G a0 a1 h) else (if x3 = (29 : Int32) then (m_M_takes_26 G a0 a1 h) else (if x3 = (24 : Int32) then ((hp_gR h a0 8 21).bind fun x4 => (hp_aI h .int x4 a1).bind fun x5 => some (x5 + (1 : Int32), h)) else (if x3 = (22 : Int32) then (m_M_takes_60 G h) else (if x3 = (26 : Int32) then (m_M_takes_60 G h) else (if x3 = (3 : Int32) then (m_M_takes_103 G h) else (if x3 ≤ (16 : Int32) then (m_M_takes_79 G x3 h) else (if x3 < (22 : Int32) then (m_M_takes_103 G h) else (m_M_takes_79 G x3 h))))))))) else (some ((0 : Int32), h))
set_option maxRecDepth 100000 in
set_option maxHeartbeats 4000000 in
theorem j_M_takes_0 {Z : hp_Z} (a0 : Nat) (a1 : Int32) (h : hp_H) : hp_J Y_M_takes Z hp_rI h 0 [(0, .ref a0), (1, .int a1)] [] (m_M_takes (hp_G Z)  a0 a1 h) := by
  unfold m_M_takes
  refine hp_aload_n (x0 := 0) d_M_takes_0 rfl rfl ?_
  refine hp_getR fl_M_51 d_M_takes_1 fun x1 => ?_
  refine hp_iload_n (x0 := 1) d_M_takes_4 rfl rfl ?_
  refine hp_iald d_M_takes_5 fun x2 => ?_
  refine hp_istore_n (fun x3 => [(2, .int x3), (0, .ref a0), (1, .int a1)]) d_M_takes_6 rfl (by decide) (fun _ => rfl) fun x3 => ?_
  refine hp_iload_n (x0 := 0) d_M_takes_7 rfl rfl ?_
  refine hp_iconst (v := 3) d_M_takes_8 (by decide) ?_
  refine hp_icmp_ge (tgt := 14) d_M_takes_9 (by decide) ?_ ?_
  · refine hp_iload_n (x0 := 0) d_M_takes_14 rfl rfl ?_
    refine hp_bipush (v := 23) d_M_takes_15 (by decide) ?_
    refine hp_icmp_eq (tgt := 26) d_M_takes_17 (by decide) ?_ ?_
    · refine hp_sub [1, 2] rfl ?_
      exact j_M_takes_26  _ _ _
    · refine hp_iload_n (x0 := 0) d_M_takes_20 rfl rfl ?_
      refine hp_bipush (v := 29) d_M_takes_21 (by decide) ?_
      refine hp_icmp_ne (tgt := 33) d_M_takes_23 (by decide) ?_ ?_
      · refine hp_sub [1, 2] rfl ?_
        exact j_M_takes_26  _ _ _
      · refine hp_iload_n (x0 := 0) d_M_takes_33 rfl rfl ?_
        refine hp_bipush (v := 24) d_M_takes_34 (by decide) ?_
        refine hp_icmp_ne (tgt := 48) d_M_takes_36 (by decide) ?_ ?_
        · refine hp_aload_n (x0 := 1) d_M_takes_39 rfl rfl ?_
          refine hp_getR fl_M_54 d_M_takes_40 fun x4 => ?_
          refine hp_iload_n (x0 := 2) d_M_takes_43 rfl rfl ?_
          refine hp_iald d_M_takes_44 fun x5 => ?_
          refine hp_iconst (v := 1) d_M_takes_45 (by decide) ?_
          refine hp_iadd d_M_takes_46 ?_
          exact hp_iret d_M_takes_47 rfl
        · refine hp_iload_n (x0 := 0) d_M_takes_48 rfl rfl ?_
          refine hp_bipush (v := 22) d_M_takes_49 (by decide) ?_
          refine hp_icmp_eq (tgt := 60) d_M_takes_51 (by decide) ?_ ?_
          · refine hp_sub [] rfl ?_
            exact j_M_takes_60   _
          · refine hp_iload_n (x0 := 0) d_M_takes_54 rfl rfl ?_
            refine hp_bipush (v := 26) d_M_takes_55 (by decide) ?_
            refine hp_icmp_ne (tgt := 62) d_M_takes_57 (by decide) ?_ ?_
            · refine hp_sub [] rfl ?_
              exact j_M_takes_60   _
            · refine hp_iload_n (x0 := 0) d_M_takes_62 rfl rfl ?_
              refine hp_iconst (v := 3) d_M_takes_63 (by decide) ?_
              refine hp_icmp_eq (tgt := 103) d_M_takes_64 (by decide) ?_ ?_
              · refine hp_sub [] rfl ?_
                exact j_M_takes_103   _
              · refine hp_iload_n (x0 := 0) d_M_takes_67 rfl rfl ?_
                refine hp_bipush (v := 16) d_M_takes_68 (by decide) ?_
                refine hp_icmp_le (tgt := 79) d_M_takes_70 (by decide) ?_ ?_
                · refine hp_sub [0] rfl ?_
                  exact j_M_takes_79  _ _
                · refine hp_iload_n (x0 := 0) d_M_takes_73 rfl rfl ?_
                  refine hp_bipush (v := 22) d_M_takes_74 (by decide) ?_
                  refine hp_icmp_lt (tgt := 103) d_M_takes_76 (by decide) ?_ ?_
                  · refine hp_sub [] rfl ?_
                    exact j_M_takes_103   _
                  · refine hp_sub [0] rfl ?_
                    exact j_M_takes_79  _ _
  · refine hp_iconst (v := 0) d_M_takes_12 (by decide) ?_
    exact hp_iret d_M_takes_13 rfl
theorem t_M_takes (l : Launch) (E : hp_E) (a0 : Nat) (a1 : Int32) : hp_M l E y_M_takes Y_M_takes hp_rI [.ref a0, .int a1] (m_M_takes E.2.2.1 a0 a1) := hp_M.of (plainFor_of_name (by decide)) ⟨rfl, rfl⟩ (Nat.le_of_ble_eq_true rfl) (fun Z h hE => by subst hE; exact j_M_takes_0 _ _ h)
-- M_goWith
theorem d_M_goWith_0 : decode prog_9_method_51_code 0 = .ok (.aload_n 0, 1) := by decide +kernel
theorem d_M_goWith_1 : decode prog_9_method_51_code 1 = .ok (.iload_n 1, 1) := by decide +kernel
theorem d_M_goWith_2 : decode prog_9_method_51_code 2 = .ok (.invokevirtual 217, 3) := by decide +kernel
theorem d_M_goWith_5 : decode prog_9_method_51_code 5 = .ok (.ifCond .eq 54, 3) := by decide +kernel
theorem d_M_goWith_8 : decode prog_9_method_51_code 8 = .ok (.aload_n 0, 1) := by decide +kernel
theorem d_M_goWith_9 : decode prog_9_method_51_code 9 = .ok (.getfield 7, 3) := by decide +kernel
theorem d_M_goWith_12 : decode prog_9_method_51_code 12 = .ok (.iload_n 2, 1) := by decide +kernel
theorem d_M_goWith_13 : decode prog_9_method_51_code 13 = .ok (.iaload, 1) := by decide +kernel
theorem d_M_goWith_14 : decode prog_9_method_51_code 14 = .ok (.iconst 5, 1) := by decide +kernel
theorem d_M_goWith_15 : decode prog_9_method_51_code 15 = .ok (.if_icmp .eq 40, 3) := by decide +kernel
theorem d_M_goWith_18 : decode prog_9_method_51_code 18 = .ok (.aload_n 0, 1) := by decide +kernel
theorem d_M_goWith_19 : decode prog_9_method_51_code 19 = .ok (.getfield 7, 3) := by decide +kernel
theorem d_M_goWith_22 : decode prog_9_method_51_code 22 = .ok (.iload_n 2, 1) := by decide +kernel
theorem d_M_goWith_23 : decode prog_9_method_51_code 23 = .ok (.iaload, 1) := by decide +kernel
theorem d_M_goWith_24 : decode prog_9_method_51_code 24 = .ok (.bipush 6, 2) := by decide +kernel
theorem d_M_goWith_26 : decode prog_9_method_51_code 26 = .ok (.if_icmp .ne 33, 3) := by decide +kernel
theorem d_M_goWith_29 : decode prog_9_method_51_code 29 = .ok (.aload_n 0, 1) := by decide +kernel
theorem d_M_goWith_30 : decode prog_9_method_51_code 30 = .ok (.getfield 7, 3) := by decide +kernel
theorem d_M_goWith_33 : decode prog_9_method_51_code 33 = .ok (.iload_n 1, 1) := by decide +kernel
theorem d_M_goWith_34 : decode prog_9_method_51_code 34 = .ok (.iaload, 1) := by decide +kernel
theorem d_M_goWith_35 : decode prog_9_method_51_code 35 = .ok (.bipush 6, 2) := by decide +kernel
theorem d_M_goWith_37 : decode prog_9_method_51_code 37 = .ok (.if_icmp .ne 22, 3) := by decide +kernel
theorem d_M_goWith_40 : decode prog_9_method_51_code 40 = .ok (.aload_n 0, 1) := by decide +kernel
theorem d_M_goWith_41 : decode prog_9_method_51_code 41 = .ok (.getfield 13, 3) := by decide +kernel
theorem d_M_goWith_44 : decode prog_9_method_51_code 44 = .ok (.iload_n 1, 1) := by decide +kernel
theorem d_M_goWith_45 : decode prog_9_method_51_code 45 = .ok (.iaload, 1) := by decide +kernel
theorem d_M_goWith_46 : decode prog_9_method_51_code 46 = .ok (.aload_n 0, 1) := by decide +kernel
theorem d_M_goWith_47 : decode prog_9_method_51_code 47 = .ok (.getfield 13, 3) := by decide +kernel
theorem d_M_goWith_50 : decode prog_9_method_51_code 50 = .ok (.iload_n 2, 1) := by decide +kernel
theorem d_M_goWith_51 : decode prog_9_method_51_code 51 = .ok (.iaload, 1) := by decide +kernel
theorem d_M_goWith_52 : decode prog_9_method_51_code 52 = .ok (.if_icmp .ne 7, 3) := by decide +kernel
theorem d_M_goWith_55 : decode prog_9_method_51_code 55 = .ok (.iconst 1, 1) := by decide +kernel
theorem d_M_goWith_56 : decode prog_9_method_51_code 56 = .ok (.goto 4, 3) := by decide +kernel
theorem d_M_goWith_59 : decode prog_9_method_51_code 59 = .ok (.iconst 0, 1) := by decide +kernel
theorem d_M_goWith_60 : decode prog_9_method_51_code 60 = .ok (.ireturn, 1) := by decide +kernel
def m_M_goWith_60 (G : Nat → Nat) (s0 : Int32) (h : hp_H) : Option (Int32 × hp_H) := hp_z s0 h
set_option maxRecDepth 100000 in
set_option maxHeartbeats 4000000 in
theorem j_M_goWith_60 {Z : hp_Z} (s0 : Int32) (h : hp_H) : hp_J Y_M_goWith Z hp_rI h 60 [] [.int s0] (m_M_goWith_60 (hp_G Z)  s0 h) := by
  unfold m_M_goWith_60
  exact hp_zret d_M_goWith_60 rfl
def m_M_goWith_55 (G : Nat → Nat) (h : hp_H) : Option (Int32 × hp_H) := m_M_goWith_60 G (1 : Int32) h
set_option maxRecDepth 100000 in
set_option maxHeartbeats 4000000 in
theorem j_M_goWith_55 {Z : hp_Z} (h : hp_H) : hp_J Y_M_goWith Z hp_rI h 55 [] [] (m_M_goWith_55 (hp_G Z)   h) := by
  unfold m_M_goWith_55
  refine hp_iconst (v := 1) d_M_goWith_55 (by decide) ?_
  refine hp_goto (tgt := 60) d_M_goWith_56 (by decide) ?_
  exact j_M_goWith_60  _ _
def m_M_goWith_59 (G : Nat → Nat) (h : hp_H) : Option (Int32 × hp_H) := m_M_goWith_60 G (0 : Int32) h
set_option maxRecDepth 100000 in
set_option maxHeartbeats 4000000 in
theorem j_M_goWith_59 {Z : hp_Z} (h : hp_H) : hp_J Y_M_goWith Z hp_rI h 59 [] [] (m_M_goWith_59 (hp_G Z)   h) := by
  unfold m_M_goWith_59
  refine hp_iconst (v := 0) d_M_goWith_59 (by decide) ?_
  exact j_M_goWith_60  _ _
def m_M_goWith (G : Nat → Nat) (a0 : Nat) (a1 : Int32) (a2 : Int32) (h : hp_H) : Option (Int32 × hp_H) := (hp_vck h a0 8 (m_M_isPlain G a0 a1 h)).bind fun q1 => if q1.1 = 0 then (m_M_goWith_59 G q1.2) else ((hp_gR q1.2 a0 8 1).bind fun x2 => (hp_aI q1.2 .int x2 a2).bind fun x3 => if x3 = (5 : Int32) then (m_M_goWith_55 G q1.2) else ((hp_gR q1.2 a0 8 1).bind fun x4 => (hp_aI q1.2 .int x4 a2).bind fun x5 => if x5 = (6 : Int32) then ((hp_gR q1.2 a0 8 1).bind fun x6 => (hp_aI q1.2 .int x6 a1).bind fun x7 => if x7 = (6 : Int32) then ((hp_gR q1.2 a0 8 2).bind fun x8 => (hp_aI q1.2 .int x8 a1).bind fun x9 => (hp_gR q1.2 a0 8 2).bind fun x10 => (hp_aI q1.2 .int x10 a2).bind fun x11 => if x9 = x11 then (m_M_goWith_55 G q1.2) else (m_M_goWith_59 G q1.2)) else (m_M_goWith_59 G q1.2)) else (m_M_goWith_59 G q1.2)))
set_option maxRecDepth 100000 in
set_option maxHeartbeats 4000000 in
theorem j_M_goWith_0 {Z : hp_Z} (a0 : Nat) (a1 : Int32) (a2 : Int32) (h : hp_H) : hp_J Y_M_goWith Z hp_rI h 0 [(0, .ref a0), (1, .int a1), (2, .int a2)] [] (m_M_goWith (hp_G Z)  a0 a1 a2 h) := by
  unfold m_M_goWith
  refine hp_aload_n (x0 := 0) d_M_goWith_0 rfl rfl ?_
  refine hp_iload_n (x0 := 1) d_M_goWith_1 rfl rfl ?_
  refine hp_callI (hp_crV (ci := 8) (t_M_isPlain _ _ _ _) cw_M_217 rfl ⟨w_1135, ws_62⟩ (by decide) rfl rfl (Nat.le_of_ble_eq_true rfl) d_M_goWith_2) fun q1 => ?_
  refine hp_if_eq (tgt := 59) d_M_goWith_5 (by decide) ?_ ?_
  · refine hp_sub [] rfl ?_
    exact j_M_goWith_59   _
  · refine hp_aload_n (x0 := 0) d_M_goWith_8 rfl rfl ?_
    refine hp_getR fl_M_7 d_M_goWith_9 fun x2 => ?_
    refine hp_iload_n (x0 := 2) d_M_goWith_12 rfl rfl ?_
    refine hp_iald d_M_goWith_13 fun x3 => ?_
    refine hp_iconst (v := 5) d_M_goWith_14 (by decide) ?_
    refine hp_icmp_eq (tgt := 55) d_M_goWith_15 (by decide) ?_ ?_
    · refine hp_sub [] rfl ?_
      exact j_M_goWith_55   _
    · refine hp_aload_n (x0 := 0) d_M_goWith_18 rfl rfl ?_
      refine hp_getR fl_M_7 d_M_goWith_19 fun x4 => ?_
      refine hp_iload_n (x0 := 2) d_M_goWith_22 rfl rfl ?_
      refine hp_iald d_M_goWith_23 fun x5 => ?_
      refine hp_bipush (v := 6) d_M_goWith_24 (by decide) ?_
      refine hp_icmp_ne (tgt := 59) d_M_goWith_26 (by decide) ?_ ?_
      · refine hp_aload_n (x0 := 0) d_M_goWith_29 rfl rfl ?_
        refine hp_getR fl_M_7 d_M_goWith_30 fun x6 => ?_
        refine hp_iload_n (x0 := 1) d_M_goWith_33 rfl rfl ?_
        refine hp_iald d_M_goWith_34 fun x7 => ?_
        refine hp_bipush (v := 6) d_M_goWith_35 (by decide) ?_
        refine hp_icmp_ne (tgt := 59) d_M_goWith_37 (by decide) ?_ ?_
        · refine hp_aload_n (x0 := 0) d_M_goWith_40 rfl rfl ?_
          refine hp_getR fl_M_13 d_M_goWith_41 fun x8 => ?_
          refine hp_iload_n (x0 := 1) d_M_goWith_44 rfl rfl ?_
          refine hp_iald d_M_goWith_45 fun x9 => ?_
          refine hp_aload_n (x0 := 0) d_M_goWith_46 rfl rfl ?_
          refine hp_getR fl_M_13 d_M_goWith_47 fun x10 => ?_
          refine hp_iload_n (x0 := 2) d_M_goWith_50 rfl rfl ?_
          refine hp_iald d_M_goWith_51 fun x11 => ?_
          refine hp_icmp_ne (tgt := 59) d_M_goWith_52 (by decide) ?_ ?_
          · refine hp_sub [] rfl ?_
            exact j_M_goWith_55   _
          · refine hp_sub [] rfl ?_
            exact j_M_goWith_59   _
        · refine hp_sub [] rfl ?_
          exact j_M_goWith_59   _
      · refine hp_sub [] rfl ?_
        exact j_M_goWith_59   _
theorem t_M_goWith (l : Launch) (E : hp_E) (a0 : Nat) (a1 : Int32) (a2 : Int32) : hp_M l E y_M_goWith Y_M_goWith hp_rI [.ref a0, .int a1, .int a2] (m_M_goWith E.2.2.1 a0 a1 a2) := hp_M.of (plainFor_of_name (by decide)) ⟨rfl, rfl⟩ (Nat.le_of_ble_eq_true rfl) (fun Z h hE => by subst hE; exact j_M_goWith_0 _ _ _ h)
-- M_isAt
theorem d_M_isAt_0 : decode prog_9_method_52_code 0 = .ok (.iload_n 3, 1) := by decide +kernel
theorem d_M_isAt_1 : decode prog_9_method_52_code 1 = .ok (.ifCond .lt 24, 3) := by decide +kernel
theorem d_M_isAt_4 : decode prog_9_method_52_code 4 = .ok (.iload_n 3, 1) := by decide +kernel
theorem d_M_isAt_5 : decode prog_9_method_52_code 5 = .ok (.aload_n 0, 1) := by decide +kernel
theorem d_M_isAt_6 : decode prog_9_method_52_code 6 = .ok (.getfield 26, 3) := by decide +kernel
theorem d_M_isAt_9 : decode prog_9_method_52_code 9 = .ok (.iload_n 2, 1) := by decide +kernel
theorem d_M_isAt_10 : decode prog_9_method_52_code 10 = .ok (.iaload, 1) := by decide +kernel
theorem d_M_isAt_11 : decode prog_9_method_52_code 11 = .ok (.iadd, 1) := by decide +kernel
theorem d_M_isAt_12 : decode prog_9_method_52_code 12 = .ok (.aload_n 0, 1) := by decide +kernel
theorem d_M_isAt_13 : decode prog_9_method_52_code 13 = .ok (.getfield 26, 3) := by decide +kernel
theorem d_M_isAt_16 : decode prog_9_method_52_code 16 = .ok (.iload_n 1, 1) := by decide +kernel
theorem d_M_isAt_17 : decode prog_9_method_52_code 17 = .ok (.iaload, 1) := by decide +kernel
theorem d_M_isAt_18 : decode prog_9_method_52_code 18 = .ok (.if_icmp .gt 7, 3) := by decide +kernel
theorem d_M_isAt_21 : decode prog_9_method_52_code 21 = .ok (.iconst 1, 1) := by decide +kernel
theorem d_M_isAt_22 : decode prog_9_method_52_code 22 = .ok (.goto 4, 3) := by decide +kernel
theorem d_M_isAt_25 : decode prog_9_method_52_code 25 = .ok (.iconst 0, 1) := by decide +kernel
theorem d_M_isAt_26 : decode prog_9_method_52_code 26 = .ok (.istore 4, 2) := by decide +kernel
theorem d_M_isAt_28 : decode prog_9_method_52_code 28 = .ok (.iconst 0, 1) := by decide +kernel
theorem d_M_isAt_29 : decode prog_9_method_52_code 29 = .ok (.istore 5, 2) := by decide +kernel
theorem d_M_isAt_31 : decode prog_9_method_52_code 31 = .ok (.iload 5, 2) := by decide +kernel
theorem d_M_isAt_33 : decode prog_9_method_52_code 33 = .ok (.aload_n 0, 1) := by decide +kernel
theorem d_M_isAt_34 : decode prog_9_method_52_code 34 = .ok (.getfield 26, 3) := by decide +kernel
theorem d_M_isAt_37 : decode prog_9_method_52_code 37 = .ok (.iload_n 2, 1) := by decide +kernel
theorem d_M_isAt_38 : decode prog_9_method_52_code 38 = .ok (.iaload, 1) := by decide +kernel
theorem d_M_isAt_39 : decode prog_9_method_52_code 39 = .ok (.if_icmp .ge 50, 3) := by decide +kernel
theorem d_M_isAt_42 : decode prog_9_method_52_code 42 = .ok (.iload 4, 2) := by decide +kernel
theorem d_M_isAt_44 : decode prog_9_method_52_code 44 = .ok (.ifCond .eq 45, 3) := by decide +kernel
theorem d_M_isAt_47 : decode prog_9_method_52_code 47 = .ok (.aload_n 0, 1) := by decide +kernel
theorem d_M_isAt_48 : decode prog_9_method_52_code 48 = .ok (.getfield 30, 3) := by decide +kernel
theorem d_M_isAt_51 : decode prog_9_method_52_code 51 = .ok (.bipush 64, 2) := by decide +kernel
theorem d_M_isAt_53 : decode prog_9_method_52_code 53 = .ok (.iload_n 1, 1) := by decide +kernel
theorem d_M_isAt_54 : decode prog_9_method_52_code 54 = .ok (.imul, 1) := by decide +kernel
theorem d_M_isAt_55 : decode prog_9_method_52_code 55 = .ok (.iload_n 3, 1) := by decide +kernel
theorem d_M_isAt_56 : decode prog_9_method_52_code 56 = .ok (.iadd, 1) := by decide +kernel
theorem d_M_isAt_57 : decode prog_9_method_52_code 57 = .ok (.iload 5, 2) := by decide +kernel
theorem d_M_isAt_59 : decode prog_9_method_52_code 59 = .ok (.iadd, 1) := by decide +kernel
theorem d_M_isAt_60 : decode prog_9_method_52_code 60 = .ok (.iaload, 1) := by decide +kernel
theorem d_M_isAt_61 : decode prog_9_method_52_code 61 = .ok (.aload_n 0, 1) := by decide +kernel
theorem d_M_isAt_62 : decode prog_9_method_52_code 62 = .ok (.getfield 30, 3) := by decide +kernel
theorem d_M_isAt_65 : decode prog_9_method_52_code 65 = .ok (.bipush 64, 2) := by decide +kernel
theorem d_M_isAt_67 : decode prog_9_method_52_code 67 = .ok (.iload_n 2, 1) := by decide +kernel
theorem d_M_isAt_68 : decode prog_9_method_52_code 68 = .ok (.imul, 1) := by decide +kernel
theorem d_M_isAt_69 : decode prog_9_method_52_code 69 = .ok (.iload 5, 2) := by decide +kernel
theorem d_M_isAt_71 : decode prog_9_method_52_code 71 = .ok (.iadd, 1) := by decide +kernel
theorem d_M_isAt_72 : decode prog_9_method_52_code 72 = .ok (.iaload, 1) := by decide +kernel
theorem d_M_isAt_73 : decode prog_9_method_52_code 73 = .ok (.if_icmp .ne 7, 3) := by decide +kernel
theorem d_M_isAt_76 : decode prog_9_method_52_code 76 = .ok (.iconst 1, 1) := by decide +kernel
theorem d_M_isAt_77 : decode prog_9_method_52_code 77 = .ok (.goto 4, 3) := by decide +kernel
theorem d_M_isAt_80 : decode prog_9_method_52_code 80 = .ok (.iconst 0, 1) := by decide +kernel
theorem d_M_isAt_81 : decode prog_9_method_52_code 81 = .ok (.istore 4, 2) := by decide +kernel
theorem d_M_isAt_83 : decode prog_9_method_52_code 83 = .ok (.iinc 5 1, 3) := by decide +kernel
theorem d_M_isAt_86 : decode prog_9_method_52_code 86 = .ok (.goto (-55), 3) := by decide +kernel
theorem d_M_isAt_89 : decode prog_9_method_52_code 89 = .ok (.iload 4, 2) := by decide +kernel
theorem d_M_isAt_91 : decode prog_9_method_52_code 91 = .ok (.ireturn, 1) := by decide +kernel
def m_M_isAt_81 (G : Nat → Nat) (r31 : Nat → Int32 → Int32 → Int32 → Int32 → Int32 → hp_H → Option (Int32 × hp_H)) (a0 : Nat) (a1 : Int32) (a2 : Int32) (a3 : Int32) (a5 : Int32) (s0 : Int32) (h : hp_H) : Option (Int32 × hp_H) := hp_nm s0 fun x1 => hp_nm (a5 + 1) fun x2 => r31 a0 a1 a2 a3 x1 x2 h
set_option maxRecDepth 100000 in
set_option maxHeartbeats 4000000 in
theorem j_M_isAt_81 {Z : hp_Z} (r31 : Nat → Int32 → Int32 → Int32 → Int32 → Int32 → hp_H → Option (Int32 × hp_H)) (hr31 : ∀ (a0 : Nat) (a1 : Int32) (a2 : Int32) (a3 : Int32) (a4 : Int32) (a5 : Int32) (h : hp_H), hp_J Y_M_isAt Z hp_rI h 31 [(0, .ref a0), (1, .int a1), (2, .int a2), (3, .int a3), (4, .int a4), (5, .int a5)] [] (r31 a0 a1 a2 a3 a4 a5  h)) (a0 : Nat) (a1 : Int32) (a2 : Int32) (a3 : Int32) (a5 : Int32) (s0 : Int32) (h : hp_H) : hp_J Y_M_isAt Z hp_rI h 81 [(0, .ref a0), (1, .int a1), (2, .int a2), (3, .int a3), (5, .int a5)] [.int s0] (m_M_isAt_81 (hp_G Z) r31 a0 a1 a2 a3 a5 s0 h) := by
  unfold m_M_isAt_81
  refine hp_istore (fun x1 => [(4, .int x1), (0, .ref a0), (1, .int a1), (2, .int a2), (3, .int a3), (5, .int a5)]) d_M_isAt_81 (by decide) (fun _ => rfl) fun x1 => ?_
  refine hp_iinc (x0 := 5) (d := 1) (fun x2 => [(5, .int x2), (4, .int x1), (0, .ref a0), (1, .int a1), (2, .int a2), (3, .int a3)]) d_M_isAt_83 rfl (by decide) (by decide) (fun _ => rfl) fun x2 => ?_
  refine hp_goto (tgt := 31) d_M_isAt_86 (by decide) ?_
  refine hp_sub [2, 3, 4, 5, 1, 0] rfl ?_
  exact hr31 _ _ _ _ _ _ _
def m_M_isAt_89 (G : Nat → Nat) (a4 : Int32) (h : hp_H) : Option (Int32 × hp_H) := hp_z a4 h
set_option maxRecDepth 100000 in
set_option maxHeartbeats 4000000 in
theorem j_M_isAt_89 {Z : hp_Z} (a4 : Int32) (h : hp_H) : hp_J Y_M_isAt Z hp_rI h 89 [(4, .int a4)] [] (m_M_isAt_89 (hp_G Z)  a4 h) := by
  unfold m_M_isAt_89
  refine hp_iload (x0 := 0) d_M_isAt_89 rfl ?_
  exact hp_zret d_M_isAt_91 rfl
def m_M_isAt_31 (G : Nat → Nat) : Nat → Nat → Int32 → Int32 → Int32 → Int32 → Int32 → hp_H → Option (Int32 × hp_H)
  | 0, _, _, _, _, _, _, _ => none
  | n + 1, a0, a1, a2, a3, a4, a5, h => (hp_gR h a0 8 6).bind fun x1 => (hp_aI h .int x1 a2).bind fun x2 => if x2 ≤ a5 then (m_M_isAt_89 G a4 h) else (if a4 = 0 then (m_M_isAt_89 G a4 h) else ((hp_gR h a0 8 7).bind fun x3 => (hp_aI h .int x3 ((((64 : Int32) * a1) + a3) + a5)).bind fun x4 => (hp_gR h a0 8 7).bind fun x5 => (hp_aI h .int x5 (((64 : Int32) * a2) + a5)).bind fun x6 => if x4 = x6 then (m_M_isAt_81 G (m_M_isAt_31 G  n) a0 a1 a2 a3 a5 (1 : Int32) h) else (m_M_isAt_81 G (m_M_isAt_31 G  n) a0 a1 a2 a3 a5 (0 : Int32) h)))
set_option maxRecDepth 100000 in
set_option maxHeartbeats 4000000 in
theorem j_M_isAt_31 {Z : hp_Z} : ∀ (n : Nat) (a0 : Nat) (a1 : Int32) (a2 : Int32) (a3 : Int32) (a4 : Int32) (a5 : Int32) (h : hp_H), hp_J Y_M_isAt Z hp_rI h 31 [(0, .ref a0), (1, .int a1), (2, .int a2), (3, .int a3), (4, .int a4), (5, .int a5)] [] (m_M_isAt_31 (hp_G Z)  n a0 a1 a2 a3 a4 a5 h) := by
  intro n
  induction n with
  | zero => intro a0 a1 a2 a3 a4 a5 h; exact hp_fail
  | succ n ih =>
    intro a0 a1 a2 a3 a4 a5 h
    rw [m_M_isAt_31]
    refine hp_iload (x0 := 5) d_M_isAt_31 rfl ?_
    refine hp_aload_n (x0 := 0) d_M_isAt_33 rfl rfl ?_
    refine hp_getR fl_M_26 d_M_isAt_34 fun x1 => ?_
    refine hp_iload_n (x0 := 2) d_M_isAt_37 rfl rfl ?_
    refine hp_iald d_M_isAt_38 fun x2 => ?_
    refine hp_icmp_ge (tgt := 89) d_M_isAt_39 (by decide) ?_ ?_
    · refine hp_sub [4] rfl ?_
      exact j_M_isAt_89  _ _
    · refine hp_iload (x0 := 4) d_M_isAt_42 rfl ?_
      refine hp_if_eq (tgt := 89) d_M_isAt_44 (by decide) ?_ ?_
      · refine hp_sub [4] rfl ?_
        exact j_M_isAt_89  _ _
      · refine hp_aload_n (x0 := 0) d_M_isAt_47 rfl rfl ?_
        refine hp_getR fl_M_30 d_M_isAt_48 fun x3 => ?_
        refine hp_bipush (v := 64) d_M_isAt_51 (by decide) ?_
        refine hp_iload_n (x0 := 1) d_M_isAt_53 rfl rfl ?_
        refine hp_imul d_M_isAt_54 ?_
        refine hp_iload_n (x0 := 3) d_M_isAt_55 rfl rfl ?_
        refine hp_iadd d_M_isAt_56 ?_
        refine hp_iload (x0 := 5) d_M_isAt_57 rfl ?_
        refine hp_iadd d_M_isAt_59 ?_
        refine hp_iald d_M_isAt_60 fun x4 => ?_
        refine hp_aload_n (x0 := 0) d_M_isAt_61 rfl rfl ?_
        refine hp_getR fl_M_30 d_M_isAt_62 fun x5 => ?_
        refine hp_bipush (v := 64) d_M_isAt_65 (by decide) ?_
        refine hp_iload_n (x0 := 2) d_M_isAt_67 rfl rfl ?_
        refine hp_imul d_M_isAt_68 ?_
        refine hp_iload (x0 := 5) d_M_isAt_69 rfl ?_
        refine hp_iadd d_M_isAt_71 ?_
        refine hp_iald d_M_isAt_72 fun x6 => ?_
        refine hp_icmp_ne (tgt := 80) d_M_isAt_73 (by decide) ?_ ?_
        · refine hp_iconst (v := 1) d_M_isAt_76 (by decide) ?_
          refine hp_goto (tgt := 81) d_M_isAt_77 (by decide) ?_
          refine hp_sub [0, 1, 2, 3, 5] rfl ?_
          exact j_M_isAt_81 _ ih _ _ _ _ _ _ _
        · refine hp_iconst (v := 0) d_M_isAt_80 (by decide) ?_
          refine hp_sub [0, 1, 2, 3, 5] rfl ?_
          exact j_M_isAt_81 _ ih _ _ _ _ _ _ _
def m_M_isAt_26 (G : Nat → Nat) (a0 : Nat) (a1 : Int32) (a2 : Int32) (a3 : Int32) (s0 : Int32) (h : hp_H) : Option (Int32 × hp_H) := hp_nm s0 fun x1 => hp_nm (0 : Int32) fun x2 => m_M_isAt_31 G hp_fu a0 a1 a2 a3 x1 x2 h
set_option maxRecDepth 100000 in
set_option maxHeartbeats 4000000 in
theorem j_M_isAt_26 {Z : hp_Z} (a0 : Nat) (a1 : Int32) (a2 : Int32) (a3 : Int32) (s0 : Int32) (h : hp_H) : hp_J Y_M_isAt Z hp_rI h 26 [(0, .ref a0), (1, .int a1), (2, .int a2), (3, .int a3)] [.int s0] (m_M_isAt_26 (hp_G Z)  a0 a1 a2 a3 s0 h) := by
  unfold m_M_isAt_26
  refine hp_istore (fun x1 => [(4, .int x1), (0, .ref a0), (1, .int a1), (2, .int a2), (3, .int a3)]) d_M_isAt_26 (by decide) (fun _ => rfl) fun x1 => ?_
  refine hp_iconst (v := 0) d_M_isAt_28 (by decide) ?_
  refine hp_istore (fun x2 => [(5, .int x2), (4, .int x1), (0, .ref a0), (1, .int a1), (2, .int a2), (3, .int a3)]) d_M_isAt_29 (by decide) (fun _ => rfl) fun x2 => ?_
  refine hp_sub [2, 3, 4, 5, 1, 0] rfl ?_
  exact j_M_isAt_31  hp_fu _ _ _ _ _ _ _
def m_M_isAt_25 (G : Nat → Nat) (a0 : Nat) (a1 : Int32) (a2 : Int32) (a3 : Int32) (h : hp_H) : Option (Int32 × hp_H) := m_M_isAt_26 G a0 a1 a2 a3 (0 : Int32) h
set_option maxRecDepth 100000 in
set_option maxHeartbeats 4000000 in
theorem j_M_isAt_25 {Z : hp_Z} (a0 : Nat) (a1 : Int32) (a2 : Int32) (a3 : Int32) (h : hp_H) : hp_J Y_M_isAt Z hp_rI h 25 [(0, .ref a0), (1, .int a1), (2, .int a2), (3, .int a3)] [] (m_M_isAt_25 (hp_G Z)  a0 a1 a2 a3 h) := by
  unfold m_M_isAt_25
  refine hp_iconst (v := 0) d_M_isAt_25 (by decide) ?_
  exact j_M_isAt_26  _ _ _ _ _ _
def m_M_isAt (G : Nat → Nat) (a0 : Nat) (a1 : Int32) (a2 : Int32) (a3 : Int32) (h : hp_H) : Option (Int32 × hp_H) := if a3 < 0 then (m_M_isAt_25 G a0 a1 a2 a3 h) else ((hp_gR h a0 8 6).bind fun x1 => (hp_aI h .int x1 a2).bind fun x2 => (hp_gR h a0 8 6).bind fun x3 => (hp_aI h .int x3 a1).bind fun x4 => if x4 < (a3 + x2) then (m_M_isAt_25 G a0 a1 a2 a3 h) else (m_M_isAt_26 G a0 a1 a2 a3 (1 : Int32) h))
set_option maxRecDepth 100000 in
set_option maxHeartbeats 4000000 in
theorem j_M_isAt_0 {Z : hp_Z} (a0 : Nat) (a1 : Int32) (a2 : Int32) (a3 : Int32) (h : hp_H) : hp_J Y_M_isAt Z hp_rI h 0 [(0, .ref a0), (1, .int a1), (2, .int a2), (3, .int a3)] [] (m_M_isAt (hp_G Z)  a0 a1 a2 a3 h) := by
  unfold m_M_isAt
  refine hp_iload_n (x0 := 3) d_M_isAt_0 rfl rfl ?_
  refine hp_if_lt (tgt := 25) d_M_isAt_1 (by decide) ?_ ?_
  · exact j_M_isAt_25  _ _ _ _ _
  · refine hp_iload_n (x0 := 3) d_M_isAt_4 rfl rfl ?_
    refine hp_aload_n (x0 := 0) d_M_isAt_5 rfl rfl ?_
    refine hp_getR fl_M_26 d_M_isAt_6 fun x1 => ?_
    refine hp_iload_n (x0 := 2) d_M_isAt_9 rfl rfl ?_
    refine hp_iald d_M_isAt_10 fun x2 => ?_
    refine hp_iadd d_M_isAt_11 ?_
    refine hp_aload_n (x0 := 0) d_M_isAt_12 rfl rfl ?_
    refine hp_getR fl_M_26 d_M_isAt_13 fun x3 => ?_
    refine hp_iload_n (x0 := 1) d_M_isAt_16 rfl rfl ?_
    refine hp_iald d_M_isAt_17 fun x4 => ?_
    refine hp_icmp_gt (tgt := 25) d_M_isAt_18 (by decide) ?_ ?_
    · exact j_M_isAt_25  _ _ _ _ _
    · refine hp_iconst (v := 1) d_M_isAt_21 (by decide) ?_
      refine hp_goto (tgt := 26) d_M_isAt_22 (by decide) ?_
      exact j_M_isAt_26  _ _ _ _ _ _
theorem t_M_isAt (l : Launch) (E : hp_E) (a0 : Nat) (a1 : Int32) (a2 : Int32) (a3 : Int32) : hp_M l E y_M_isAt Y_M_isAt hp_rI [.ref a0, .int a1, .int a2, .int a3] (m_M_isAt E.2.2.1 a0 a1 a2 a3) := hp_M.of (plainFor_of_name (by decide)) ⟨rfl, rfl⟩ (Nat.le_of_ble_eq_true rfl) (fun Z h hE => by subst hE; exact j_M_isAt_0 _ _ _ _ h)
-- M_piece
theorem d_M_piece_0 : decode prog_9_method_54_code 0 = .ok (.aload_n 0, 1) := by decide +kernel
theorem d_M_piece_1 : decode prog_9_method_54_code 1 = .ok (.aload_n 0, 1) := by decide +kernel
theorem d_M_piece_2 : decode prog_9_method_54_code 2 = .ok (.getfield 7, 3) := by decide +kernel
theorem d_M_piece_5 : decode prog_9_method_54_code 5 = .ok (.iload_n 1, 1) := by decide +kernel
theorem d_M_piece_6 : decode prog_9_method_54_code 6 = .ok (.iaload, 1) := by decide +kernel
theorem d_M_piece_7 : decode prog_9_method_54_code 7 = .ok (.aload_n 0, 1) := by decide +kernel
theorem d_M_piece_8 : decode prog_9_method_54_code 8 = .ok (.getfield 13, 3) := by decide +kernel
theorem d_M_piece_11 : decode prog_9_method_54_code 11 = .ok (.iload_n 1, 1) := by decide +kernel
theorem d_M_piece_12 : decode prog_9_method_54_code 12 = .ok (.iaload, 1) := by decide +kernel
theorem d_M_piece_13 : decode prog_9_method_54_code 13 = .ok (.invokevirtual 103, 3) := by decide +kernel
theorem d_M_piece_16 : decode prog_9_method_54_code 16 = .ok (.aload_n 0, 1) := by decide +kernel
theorem d_M_piece_17 : decode prog_9_method_54_code 17 = .ok (.iload_n 1, 1) := by decide +kernel
theorem d_M_piece_18 : decode prog_9_method_54_code 18 = .ok (.iload_n 2, 1) := by decide +kernel
theorem d_M_piece_19 : decode prog_9_method_54_code 19 = .ok (.iload_n 3, 1) := by decide +kernel
theorem d_M_piece_20 : decode prog_9_method_54_code 20 = .ok (.invokevirtual 202, 3) := by decide +kernel
theorem d_M_piece_23 : decode prog_9_method_54_code 23 = .ok (.aload_n 0, 1) := by decide +kernel
theorem d_M_piece_24 : decode prog_9_method_54_code 24 = .ok (.invokevirtual 111, 3) := by decide +kernel
theorem d_M_piece_27 : decode prog_9_method_54_code 27 = .ok (.ireturn, 1) := by decide +kernel
def m_M_piece (G : Nat → Nat) (a0 : Nat) (a1 : Int32) (a2 : Int32) (a3 : Int32) (h : hp_H) : Option (Int32 × hp_H) := (hp_gR h a0 8 1).bind fun x1 => (hp_aI h .int x1 a1).bind fun x2 => (hp_gR h a0 8 2).bind fun x3 => (hp_aI h .int x3 a1).bind fun x4 => (hp_vck h a0 8 (m_M_start G a0 x2 x4 h)).bind fun q5 => (hp_vck q5.2 a0 8 (m_M_letterAll G a0 a1 a2 a3 q5.2)).bind fun q6 => (hp_vck q6.2 a0 8 (m_M_keep G a0 q6.2)).bind fun q7 => some (q7.1, q7.2)
set_option maxRecDepth 100000 in
set_option maxHeartbeats 4000000 in
theorem j_M_piece_0 {Z : hp_Z} (a0 : Nat) (a1 : Int32) (a2 : Int32) (a3 : Int32) (h : hp_H) : hp_J Y_M_piece Z hp_rI h 0 [(0, .ref a0), (1, .int a1), (2, .int a2), (3, .int a3)] [] (m_M_piece (hp_G Z)  a0 a1 a2 a3 h) := by
  unfold m_M_piece
  refine hp_aload_n (x0 := 0) d_M_piece_0 rfl rfl ?_
  refine hp_aload_n (x0 := 0) d_M_piece_1 rfl rfl ?_
  refine hp_getR fl_M_7 d_M_piece_2 fun x1 => ?_
  refine hp_iload_n (x0 := 1) d_M_piece_5 rfl rfl ?_
  refine hp_iald d_M_piece_6 fun x2 => ?_
  refine hp_aload_n (x0 := 0) d_M_piece_7 rfl rfl ?_
  refine hp_getR fl_M_13 d_M_piece_8 fun x3 => ?_
  refine hp_iload_n (x0 := 1) d_M_piece_11 rfl rfl ?_
  refine hp_iald d_M_piece_12 fun x4 => ?_
  refine hp_callU (hp_crV (ci := 8) (t_M_start _ _ _ _ _) cw_M_103 rfl ⟨w_985, ws_40⟩ (by decide) rfl rfl (Nat.le_of_ble_eq_true rfl) d_M_piece_13) fun q5 => ?_
  refine hp_aload_n (x0 := 0) d_M_piece_16 rfl rfl ?_
  refine hp_iload_n (x0 := 1) d_M_piece_17 rfl rfl ?_
  refine hp_iload_n (x0 := 2) d_M_piece_18 rfl rfl ?_
  refine hp_iload_n (x0 := 3) d_M_piece_19 rfl rfl ?_
  refine hp_callU (hp_crV (ci := 8) (t_M_letterAll _ _ _ _ _ _) cw_M_202 rfl ⟨w_1139, ws_63⟩ (by decide) rfl rfl (Nat.le_of_ble_eq_true rfl) d_M_piece_20) fun q6 => ?_
  refine hp_aload_n (x0 := 0) d_M_piece_23 rfl rfl ?_
  refine hp_callI (hp_crV (ci := 8) (t_M_keep _ _ _) cw_M_111 rfl ⟨w_992, ws_41⟩ (by decide) rfl rfl (Nat.le_of_ble_eq_true rfl) d_M_piece_24) fun q7 => ?_
  exact hp_iret d_M_piece_27 rfl
theorem t_M_piece (l : Launch) (E : hp_E) (a0 : Nat) (a1 : Int32) (a2 : Int32) (a3 : Int32) : hp_M l E y_M_piece Y_M_piece hp_rI [.ref a0, .int a1, .int a2, .int a3] (m_M_piece E.2.2.1 a0 a1 a2 a3) := hp_M.of (plainFor_of_name (by decide)) ⟨rfl, rfl⟩ (Nat.le_of_ble_eq_true rfl) (fun Z h hE => by subst hE; exact j_M_piece_0 _ _ _ _ h)
-- M_within
theorem d_M_within_0 : decode prog_9_method_53_code 0 = .ok (.iconst 0, 1) := by decide +kernel
theorem d_M_within_1 : decode prog_9_method_53_code 1 = .ok (.istore_n 3, 1) := by decide +kernel
theorem d_M_within_2 : decode prog_9_method_53_code 2 = .ok (.iload_n 3, 1) := by decide +kernel
theorem d_M_within_3 : decode prog_9_method_53_code 3 = .ok (.aload_n 0, 1) := by decide +kernel
theorem d_M_within_4 : decode prog_9_method_53_code 4 = .ok (.getfield 26, 3) := by decide +kernel
theorem d_M_within_7 : decode prog_9_method_53_code 7 = .ok (.iload_n 1, 1) := by decide +kernel
theorem d_M_within_8 : decode prog_9_method_53_code 8 = .ok (.iaload, 1) := by decide +kernel
theorem d_M_within_9 : decode prog_9_method_53_code 9 = .ok (.if_icmp .gt 19, 3) := by decide +kernel
theorem d_M_within_12 : decode prog_9_method_53_code 12 = .ok (.aload_n 0, 1) := by decide +kernel
theorem d_M_within_13 : decode prog_9_method_53_code 13 = .ok (.iload_n 1, 1) := by decide +kernel
theorem d_M_within_14 : decode prog_9_method_53_code 14 = .ok (.iload_n 2, 1) := by decide +kernel
theorem d_M_within_15 : decode prog_9_method_53_code 15 = .ok (.iload_n 3, 1) := by decide +kernel
theorem d_M_within_16 : decode prog_9_method_53_code 16 = .ok (.invokevirtual 220, 3) := by decide +kernel
theorem d_M_within_19 : decode prog_9_method_53_code 19 = .ok (.ifCond .ne 9, 3) := by decide +kernel
theorem d_M_within_22 : decode prog_9_method_53_code 22 = .ok (.iinc 3 1, 3) := by decide +kernel
theorem d_M_within_25 : decode prog_9_method_53_code 25 = .ok (.goto (-23), 3) := by decide +kernel
theorem d_M_within_28 : decode prog_9_method_53_code 28 = .ok (.iload_n 3, 1) := by decide +kernel
theorem d_M_within_29 : decode prog_9_method_53_code 29 = .ok (.aload_n 0, 1) := by decide +kernel
theorem d_M_within_30 : decode prog_9_method_53_code 30 = .ok (.getfield 26, 3) := by decide +kernel
theorem d_M_within_33 : decode prog_9_method_53_code 33 = .ok (.iload_n 1, 1) := by decide +kernel
theorem d_M_within_34 : decode prog_9_method_53_code 34 = .ok (.iaload, 1) := by decide +kernel
theorem d_M_within_35 : decode prog_9_method_53_code 35 = .ok (.if_icmp .gt 7, 3) := by decide +kernel
theorem d_M_within_38 : decode prog_9_method_53_code 38 = .ok (.iload_n 3, 1) := by decide +kernel
theorem d_M_within_39 : decode prog_9_method_53_code 39 = .ok (.goto 4, 3) := by decide +kernel
theorem d_M_within_42 : decode prog_9_method_53_code 42 = .ok (.iconst (-1), 1) := by decide +kernel
theorem d_M_within_43 : decode prog_9_method_53_code 43 = .ok (.ireturn, 1) := by decide +kernel
def m_M_within_43 (G : Nat → Nat) (s0 : Int32) (h : hp_H) : Option (Int32 × hp_H) := some (s0, h)
set_option maxRecDepth 100000 in
set_option maxHeartbeats 4000000 in
theorem j_M_within_43 {Z : hp_Z} (s0 : Int32) (h : hp_H) : hp_J Y_M_within Z hp_rI h 43 [] [.int s0] (m_M_within_43 (hp_G Z)  s0 h) := by
  unfold m_M_within_43
  exact hp_iret d_M_within_43 rfl
def m_M_within_28 (G : Nat → Nat) (a0 : Nat) (a1 : Int32) (a3 : Int32) (h : hp_H) : Option (Int32 × hp_H) := (hp_gR h a0 8 6).bind fun x1 => (hp_aI h .int x1 a1).bind fun x2 => if x2 < a3 then (m_M_within_43 G (-1 : Int32) h) else (m_M_within_43 G a3 h)
set_option maxRecDepth 100000 in
set_option maxHeartbeats 4000000 in
theorem j_M_within_28 {Z : hp_Z} (a0 : Nat) (a1 : Int32) (a3 : Int32) (h : hp_H) : hp_J Y_M_within Z hp_rI h 28 [(0, .ref a0), (1, .int a1), (3, .int a3)] [] (m_M_within_28 (hp_G Z)  a0 a1 a3 h) := by
  unfold m_M_within_28
  refine hp_iload_n (x0 := 2) d_M_within_28 rfl rfl ?_
  refine hp_aload_n (x0 := 0) d_M_within_29 rfl rfl ?_
  refine hp_getR fl_M_26 d_M_within_30 fun x1 => ?_
  refine hp_iload_n (x0 := 1) d_M_within_33 rfl rfl ?_
  refine hp_iald d_M_within_34 fun x2 => ?_
  refine hp_icmp_gt (tgt := 42) d_M_within_35 (by decide) ?_ ?_
  · refine hp_iconst (v := -1) d_M_within_42 (by decide) ?_
    refine hp_sub [] rfl ?_
    exact j_M_within_43  _ _
  · refine hp_iload_n (x0 := 2) d_M_within_38 rfl rfl ?_
    refine hp_goto (tgt := 43) d_M_within_39 (by decide) ?_
    refine hp_sub [] rfl ?_
    exact j_M_within_43  _ _
def m_M_within_2 (G : Nat → Nat) : Nat → Nat → Int32 → Int32 → Int32 → hp_H → Option (Int32 × hp_H)
  | 0, _, _, _, _, _ => none
  | n + 1, a0, a1, a2, a3, h => (hp_gR h a0 8 6).bind fun x1 => (hp_aI h .int x1 a1).bind fun x2 => if x2 < a3 then (m_M_within_28 G a0 a1 a3 h) else ((hp_vck h a0 8 (m_M_isAt G a0 a1 a2 a3 h)).bind fun q3 => if q3.1 = 0 then (hp_nm (a3 + 1) fun x4 => (m_M_within_2 G  n) a0 a1 a2 x4 q3.2) else (m_M_within_28 G a0 a1 a3 q3.2))
set_option maxRecDepth 100000 in
set_option maxHeartbeats 4000000 in
theorem j_M_within_2 {Z : hp_Z} : ∀ (n : Nat) (a0 : Nat) (a1 : Int32) (a2 : Int32) (a3 : Int32) (h : hp_H), hp_J Y_M_within Z hp_rI h 2 [(0, .ref a0), (1, .int a1), (2, .int a2), (3, .int a3)] [] (m_M_within_2 (hp_G Z)  n a0 a1 a2 a3 h) := by
  intro n
  induction n with
  | zero => intro a0 a1 a2 a3 h; exact hp_fail
  | succ n ih =>
    intro a0 a1 a2 a3 h
    rw [m_M_within_2]
    refine hp_iload_n (x0 := 3) d_M_within_2 rfl rfl ?_
    refine hp_aload_n (x0 := 0) d_M_within_3 rfl rfl ?_
    refine hp_getR fl_M_26 d_M_within_4 fun x1 => ?_
    refine hp_iload_n (x0 := 1) d_M_within_7 rfl rfl ?_
    refine hp_iald d_M_within_8 fun x2 => ?_
    refine hp_icmp_gt (tgt := 28) d_M_within_9 (by decide) ?_ ?_
    · refine hp_sub [0, 1, 3] rfl ?_
      exact j_M_within_28  _ _ _ _
    · refine hp_aload_n (x0 := 0) d_M_within_12 rfl rfl ?_
      refine hp_iload_n (x0 := 1) d_M_within_13 rfl rfl ?_
      refine hp_iload_n (x0 := 2) d_M_within_14 rfl rfl ?_
      refine hp_iload_n (x0 := 3) d_M_within_15 rfl rfl ?_
      refine hp_callI (hp_crV (ci := 8) (t_M_isAt _ _ _ _ _ _) cw_M_220 rfl ⟨w_1171, ws_70⟩ (by decide) rfl rfl (Nat.le_of_ble_eq_true rfl) d_M_within_16) fun q3 => ?_
      refine hp_if_ne (tgt := 28) d_M_within_19 (by decide) ?_ ?_
      · refine hp_iinc (x0 := 3) (d := 1) (fun x4 => [(3, .int x4), (0, .ref a0), (1, .int a1), (2, .int a2)]) d_M_within_22 rfl (by decide) (by decide) (fun _ => rfl) fun x4 => ?_
        refine hp_goto (tgt := 2) d_M_within_25 (by decide) ?_
        refine hp_sub [1, 2, 3, 0] rfl ?_
        exact ih _ _ _ _ _
      · refine hp_sub [0, 1, 3] rfl ?_
        exact j_M_within_28  _ _ _ _
def m_M_within (G : Nat → Nat) (a0 : Nat) (a1 : Int32) (a2 : Int32) (h : hp_H) : Option (Int32 × hp_H) := hp_nm (0 : Int32) fun x1 => m_M_within_2 G hp_fu a0 a1 a2 x1 h
set_option maxRecDepth 100000 in
set_option maxHeartbeats 4000000 in
theorem j_M_within_0 {Z : hp_Z} (a0 : Nat) (a1 : Int32) (a2 : Int32) (h : hp_H) : hp_J Y_M_within Z hp_rI h 0 [(0, .ref a0), (1, .int a1), (2, .int a2)] [] (m_M_within (hp_G Z)  a0 a1 a2 h) := by
  unfold m_M_within
  refine hp_iconst (v := 0) d_M_within_0 (by decide) ?_
  refine hp_istore_n (fun x1 => [(3, .int x1), (0, .ref a0), (1, .int a1), (2, .int a2)]) d_M_within_1 rfl (by decide) (fun _ => rfl) fun x1 => ?_
  refine hp_sub [1, 2, 3, 0] rfl ?_
  exact j_M_within_2  hp_fu _ _ _ _ _
theorem t_M_within (l : Launch) (E : hp_E) (a0 : Nat) (a1 : Int32) (a2 : Int32) : hp_M l E y_M_within Y_M_within hp_rI [.ref a0, .int a1, .int a2] (m_M_within E.2.2.1 a0 a1 a2) := hp_M.of (plainFor_of_name (by decide)) ⟨rfl, rfl⟩ (Nat.le_of_ble_eq_true rfl) (fun Z h hE => by subst hE; exact j_M_within_0 _ _ _ h)
-- M_around
theorem d_M_around_0 : decode prog_9_method_55_code 0 = .ok (.aload_n 0, 1) := by decide +kernel
theorem d_M_around_1 : decode prog_9_method_55_code 1 = .ok (.iload_n 2, 1) := by decide +kernel
theorem d_M_around_2 : decode prog_9_method_55_code 2 = .ok (.iload_n 3, 1) := by decide +kernel
theorem d_M_around_3 : decode prog_9_method_55_code 3 = .ok (.invokevirtual 224, 3) := by decide +kernel
theorem d_M_around_6 : decode prog_9_method_55_code 6 = .ok (.ifCond .ne 6, 3) := by decide +kernel
theorem d_M_around_9 : decode prog_9_method_55_code 9 = .ok (.bipush (-4), 2) := by decide +kernel
theorem d_M_around_11 : decode prog_9_method_55_code 11 = .ok (.ireturn, 1) := by decide +kernel
theorem d_M_around_12 : decode prog_9_method_55_code 12 = .ok (.aload_n 0, 1) := by decide +kernel
theorem d_M_around_13 : decode prog_9_method_55_code 13 = .ok (.iload_n 2, 1) := by decide +kernel
theorem d_M_around_14 : decode prog_9_method_55_code 14 = .ok (.iload_n 3, 1) := by decide +kernel
theorem d_M_around_15 : decode prog_9_method_55_code 15 = .ok (.invokevirtual 227, 3) := by decide +kernel
theorem d_M_around_18 : decode prog_9_method_55_code 18 = .ok (.istore 4, 2) := by decide +kernel
theorem d_M_around_20 : decode prog_9_method_55_code 20 = .ok (.iload_n 1, 1) := by decide +kernel
theorem d_M_around_21 : decode prog_9_method_55_code 21 = .ok (.tableswitch 78 30 32 #[27, 39, 63], 27) := by decide +kernel
theorem d_M_around_48 : decode prog_9_method_55_code 48 = .ok (.aload_n 0, 1) := by decide +kernel
theorem d_M_around_49 : decode prog_9_method_55_code 49 = .ok (.aload_n 0, 1) := by decide +kernel
theorem d_M_around_50 : decode prog_9_method_55_code 50 = .ok (.iload_n 2, 1) := by decide +kernel
theorem d_M_around_51 : decode prog_9_method_55_code 51 = .ok (.iload_n 3, 1) := by decide +kernel
theorem d_M_around_52 : decode prog_9_method_55_code 52 = .ok (.iconst 0, 1) := by decide +kernel
theorem d_M_around_53 : decode prog_9_method_55_code 53 = .ok (.invokevirtual 220, 3) := by decide +kernel
theorem d_M_around_56 : decode prog_9_method_55_code 56 = .ok (.invokevirtual 185, 3) := by decide +kernel
theorem d_M_around_59 : decode prog_9_method_55_code 59 = .ok (.ireturn, 1) := by decide +kernel
theorem d_M_around_60 : decode prog_9_method_55_code 60 = .ok (.aload_n 0, 1) := by decide +kernel
theorem d_M_around_61 : decode prog_9_method_55_code 61 = .ok (.aload_n 0, 1) := by decide +kernel
theorem d_M_around_62 : decode prog_9_method_55_code 62 = .ok (.iload_n 2, 1) := by decide +kernel
theorem d_M_around_63 : decode prog_9_method_55_code 63 = .ok (.iload_n 3, 1) := by decide +kernel
theorem d_M_around_64 : decode prog_9_method_55_code 64 = .ok (.aload_n 0, 1) := by decide +kernel
theorem d_M_around_65 : decode prog_9_method_55_code 65 = .ok (.getfield 26, 3) := by decide +kernel
theorem d_M_around_68 : decode prog_9_method_55_code 68 = .ok (.iload_n 2, 1) := by decide +kernel
theorem d_M_around_69 : decode prog_9_method_55_code 69 = .ok (.iaload, 1) := by decide +kernel
theorem d_M_around_70 : decode prog_9_method_55_code 70 = .ok (.aload_n 0, 1) := by decide +kernel
theorem d_M_around_71 : decode prog_9_method_55_code 71 = .ok (.getfield 26, 3) := by decide +kernel
theorem d_M_around_74 : decode prog_9_method_55_code 74 = .ok (.iload_n 3, 1) := by decide +kernel
theorem d_M_around_75 : decode prog_9_method_55_code 75 = .ok (.iaload, 1) := by decide +kernel
theorem d_M_around_76 : decode prog_9_method_55_code 76 = .ok (.isub, 1) := by decide +kernel
theorem d_M_around_77 : decode prog_9_method_55_code 77 = .ok (.invokevirtual 220, 3) := by decide +kernel
theorem d_M_around_80 : decode prog_9_method_55_code 80 = .ok (.invokevirtual 185, 3) := by decide +kernel
theorem d_M_around_83 : decode prog_9_method_55_code 83 = .ok (.ireturn, 1) := by decide +kernel
theorem d_M_around_84 : decode prog_9_method_55_code 84 = .ok (.aload_n 0, 1) := by decide +kernel
theorem d_M_around_85 : decode prog_9_method_55_code 85 = .ok (.iload 4, 2) := by decide +kernel
theorem d_M_around_87 : decode prog_9_method_55_code 87 = .ok (.ifCond .lt 7, 3) := by decide +kernel
theorem d_M_around_90 : decode prog_9_method_55_code 90 = .ok (.iconst 1, 1) := by decide +kernel
theorem d_M_around_91 : decode prog_9_method_55_code 91 = .ok (.goto 4, 3) := by decide +kernel
theorem d_M_around_94 : decode prog_9_method_55_code 94 = .ok (.iconst 0, 1) := by decide +kernel
theorem d_M_around_95 : decode prog_9_method_55_code 95 = .ok (.invokevirtual 185, 3) := by decide +kernel
theorem d_M_around_98 : decode prog_9_method_55_code 98 = .ok (.ireturn, 1) := by decide +kernel
theorem d_M_around_99 : decode prog_9_method_55_code 99 = .ok (.iload 4, 2) := by decide +kernel
theorem d_M_around_101 : decode prog_9_method_55_code 101 = .ok (.ifCond .ge 14, 3) := by decide +kernel
theorem d_M_around_104 : decode prog_9_method_55_code 104 = .ok (.aload_n 0, 1) := by decide +kernel
theorem d_M_around_105 : decode prog_9_method_55_code 105 = .ok (.iconst 5, 1) := by decide +kernel
theorem d_M_around_106 : decode prog_9_method_55_code 106 = .ok (.iconst 0, 1) := by decide +kernel
theorem d_M_around_107 : decode prog_9_method_55_code 107 = .ok (.invokevirtual 103, 3) := by decide +kernel
theorem d_M_around_110 : decode prog_9_method_55_code 110 = .ok (.aload_n 0, 1) := by decide +kernel
theorem d_M_around_111 : decode prog_9_method_55_code 111 = .ok (.invokevirtual 111, 3) := by decide +kernel
theorem d_M_around_114 : decode prog_9_method_55_code 114 = .ok (.ireturn, 1) := by decide +kernel
theorem d_M_around_115 : decode prog_9_method_55_code 115 = .ok (.iload_n 1, 1) := by decide +kernel
theorem d_M_around_116 : decode prog_9_method_55_code 116 = .ok (.bipush 33, 2) := by decide +kernel
theorem d_M_around_118 : decode prog_9_method_55_code 118 = .ok (.if_icmp .ne 14, 3) := by decide +kernel
theorem d_M_around_121 : decode prog_9_method_55_code 121 = .ok (.aload_n 0, 1) := by decide +kernel
theorem d_M_around_122 : decode prog_9_method_55_code 122 = .ok (.iload_n 2, 1) := by decide +kernel
theorem d_M_around_123 : decode prog_9_method_55_code 123 = .ok (.iconst 0, 1) := by decide +kernel
theorem d_M_around_124 : decode prog_9_method_55_code 124 = .ok (.iload 4, 2) := by decide +kernel
theorem d_M_around_126 : decode prog_9_method_55_code 126 = .ok (.invokevirtual 230, 3) := by decide +kernel
theorem d_M_around_129 : decode prog_9_method_55_code 129 = .ok (.goto 23, 3) := by decide +kernel
theorem d_M_around_132 : decode prog_9_method_55_code 132 = .ok (.aload_n 0, 1) := by decide +kernel
theorem d_M_around_133 : decode prog_9_method_55_code 133 = .ok (.iload_n 2, 1) := by decide +kernel
theorem d_M_around_134 : decode prog_9_method_55_code 134 = .ok (.iload 4, 2) := by decide +kernel
theorem d_M_around_136 : decode prog_9_method_55_code 136 = .ok (.aload_n 0, 1) := by decide +kernel
theorem d_M_around_137 : decode prog_9_method_55_code 137 = .ok (.getfield 26, 3) := by decide +kernel
theorem d_M_around_140 : decode prog_9_method_55_code 140 = .ok (.iload_n 3, 1) := by decide +kernel
theorem d_M_around_141 : decode prog_9_method_55_code 141 = .ok (.iaload, 1) := by decide +kernel
theorem d_M_around_142 : decode prog_9_method_55_code 142 = .ok (.iadd, 1) := by decide +kernel
theorem d_M_around_143 : decode prog_9_method_55_code 143 = .ok (.aload_n 0, 1) := by decide +kernel
theorem d_M_around_144 : decode prog_9_method_55_code 144 = .ok (.getfield 26, 3) := by decide +kernel
theorem d_M_around_147 : decode prog_9_method_55_code 147 = .ok (.iload_n 2, 1) := by decide +kernel
theorem d_M_around_148 : decode prog_9_method_55_code 148 = .ok (.iaload, 1) := by decide +kernel
theorem d_M_around_149 : decode prog_9_method_55_code 149 = .ok (.invokevirtual 230, 3) := by decide +kernel
theorem d_M_around_152 : decode prog_9_method_55_code 152 = .ok (.ireturn, 1) := by decide +kernel
def m_M_around_95 (G : Nat → Nat) (s0 : Int32) (s1 : Nat) (h : hp_H) : Option (Int32 × hp_H) := (hp_vck h s1 8 (m_M_truth G s1 s0 h)).bind fun q1 => some (q1.1, q1.2)
set_option maxRecDepth 100000 in
set_option maxHeartbeats 4000000 in
theorem j_M_around_95 {Z : hp_Z} (s0 : Int32) (s1 : Nat) (h : hp_H) : hp_J Y_M_around Z hp_rI h 95 [] [.int s0, .ref s1] (m_M_around_95 (hp_G Z)  s0 s1 h) := by
  unfold m_M_around_95
  refine hp_callI (hp_crV (ci := 8) (t_M_truth _ _ _ _) cw_M_185 rfl ⟨w_1003, w_1004⟩ (by decide) rfl rfl (Nat.le_of_ble_eq_true rfl) d_M_around_95) fun q1 => ?_
  exact hp_iret d_M_around_98 rfl
def m_M_around_152 (G : Nat → Nat) (s0 : Int32) (h : hp_H) : Option (Int32 × hp_H) := some (s0, h)
set_option maxRecDepth 100000 in
set_option maxHeartbeats 4000000 in
theorem j_M_around_152 {Z : hp_Z} (s0 : Int32) (h : hp_H) : hp_J Y_M_around Z hp_rI h 152 [] [.int s0] (m_M_around_152 (hp_G Z)  s0 h) := by
  unfold m_M_around_152
  exact hp_iret d_M_around_152 rfl
def m_M_around (G : Nat → Nat) (a0 : Nat) (a1 : Int32) (a2 : Int32) (a3 : Int32) (h : hp_H) : Option (Int32 × hp_H) := (hp_vck h a0 8 (m_M_goWith G a0 a2 a3 h)).bind fun q1 => if q1.1 = 0 then (some ((-4 : Int32), q1.2)) else ((hp_vck q1.2 a0 8 (m_M_within G a0 a2 a3 q1.2)).bind fun q2 => hp_nm q2.1 fun x3 => if a1 = 30 then ((hp_vck q2.2 a0 8 (m_M_isAt G a0 a2 a3 (0 : Int32) q2.2)).bind fun q4 => (hp_vck q4.2 a0 8 (m_M_truth G a0 q4.1 q4.2)).bind fun q5 => some (q5.1, q5.2)) else (if a1 = 31 then ((hp_gR q2.2 a0 8 6).bind fun x6 => (hp_aI q2.2 .int x6 a2).bind fun x7 => (hp_gR q2.2 a0 8 6).bind fun x8 => (hp_aI q2.2 .int x8 a3).bind fun x9 => (hp_vck q2.2 a0 8 (m_M_isAt G a0 a2 a3 (x7 - x9) q2.2)).bind fun q10 => (hp_vck q10.2 a0 8 (m_M_truth G a0 q10.1 q10.2)).bind fun q11 => some (q11.1, q11.2)) else (if a1 = 32 then (if x3 < 0 then (m_M_around_95 G (0 : Int32) a0 q2.2) else (m_M_around_95 G (1 : Int32) a0 q2.2)) else (if 0 ≤ x3 then (if a1 = (33 : Int32) then ((hp_vck q2.2 a0 8 (m_M_piece G a0 a2 (0 : Int32) x3 q2.2)).bind fun q17 => m_M_around_152 G q17.1 q17.2) else ((hp_gR q2.2 a0 8 6).bind fun x12 => (hp_aI q2.2 .int x12 a3).bind fun x13 => (hp_gR q2.2 a0 8 6).bind fun x14 => (hp_aI q2.2 .int x14 a2).bind fun x15 => (hp_vck q2.2 a0 8 (m_M_piece G a0 a2 (x3 + x13) x15 q2.2)).bind fun q16 => m_M_around_152 G q16.1 q16.2)) else ((hp_vck q2.2 a0 8 (m_M_start G a0 (5 : Int32) (0 : Int32) q2.2)).bind fun q18 => (hp_vck q18.2 a0 8 (m_M_keep G a0 q18.2)).bind fun q19 => some (q19.1, q19.2))))))
set_option maxRecDepth 100000 in
set_option maxHeartbeats 4000000 in
theorem j_M_around_0 {Z : hp_Z} (a0 : Nat) (a1 : Int32) (a2 : Int32) (a3 : Int32) (h : hp_H) : hp_J Y_M_around Z hp_rI h 0 [(0, .ref a0), (1, .int a1), (2, .int a2), (3, .int a3)] [] (m_M_around (hp_G Z)  a0 a1 a2 a3 h) := by
  unfold m_M_around
  refine hp_aload_n (x0 := 0) d_M_around_0 rfl rfl ?_
  refine hp_iload_n (x0 := 2) d_M_around_1 rfl rfl ?_
  refine hp_iload_n (x0 := 3) d_M_around_2 rfl rfl ?_
  refine hp_callI (hp_crV (ci := 8) (t_M_goWith _ _ _ _ _) cw_M_224 rfl ⟨w_1163, ws_68⟩ (by decide) rfl rfl (Nat.le_of_ble_eq_true rfl) d_M_around_3) fun q1 => ?_
  refine hp_if_ne (tgt := 12) d_M_around_6 (by decide) ?_ ?_
  · refine hp_bipush (v := -4) d_M_around_9 (by decide) ?_
    exact hp_iret d_M_around_11 rfl
  · refine hp_aload_n (x0 := 0) d_M_around_12 rfl rfl ?_
    refine hp_iload_n (x0 := 2) d_M_around_13 rfl rfl ?_
    refine hp_iload_n (x0 := 3) d_M_around_14 rfl rfl ?_
    refine hp_callI (hp_crV (ci := 8) (t_M_within _ _ _ _ _) cw_M_227 rfl ⟨w_1167, ws_69⟩ (by decide) rfl rfl (Nat.le_of_ble_eq_true rfl) d_M_around_15) fun q2 => ?_
    refine hp_istore (fun x3 => [(4, .int x3), (0, .ref a0), (1, .int a1), (2, .int a2), (3, .int a3)]) d_M_around_18 (by decide) (fun _ => rfl) fun x3 => ?_
    refine hp_iload_n (x0 := 2) d_M_around_20 rfl rfl ?_
    refine hp_ite (fun c0 => ?_) (fun c0 => ?_)
    · refine hp_tabI (tgt := 48) (kv := 30) d_M_around_21 c0 (by decide) (by decide) rfl (by decide) ?_
      refine hp_aload_n (x0 := 1) d_M_around_48 rfl rfl ?_
      refine hp_aload_n (x0 := 1) d_M_around_49 rfl rfl ?_
      refine hp_iload_n (x0 := 3) d_M_around_50 rfl rfl ?_
      refine hp_iload_n (x0 := 4) d_M_around_51 rfl rfl ?_
      refine hp_iconst (v := 0) d_M_around_52 (by decide) ?_
      refine hp_callI (hp_crV (ci := 8) (t_M_isAt _ _ _ _ _ _) cw_M_220 rfl ⟨w_1171, ws_70⟩ (by decide) rfl rfl (Nat.le_of_ble_eq_true rfl) d_M_around_53) fun q4 => ?_
      refine hp_callI (hp_crV (ci := 8) (t_M_truth _ _ _ _) cw_M_185 rfl ⟨w_1003, w_1004⟩ (by decide) rfl rfl (Nat.le_of_ble_eq_true rfl) d_M_around_56) fun q5 => ?_
      exact hp_iret d_M_around_59 rfl
    · skip
      refine hp_ite (fun c1 => ?_) (fun c1 => ?_)
      · refine hp_tabI (tgt := 60) (kv := 31) d_M_around_21 c1 (by decide) (by decide) rfl (by decide) ?_
        refine hp_aload_n (x0 := 1) d_M_around_60 rfl rfl ?_
        refine hp_aload_n (x0 := 1) d_M_around_61 rfl rfl ?_
        refine hp_iload_n (x0 := 3) d_M_around_62 rfl rfl ?_
        refine hp_iload_n (x0 := 4) d_M_around_63 rfl rfl ?_
        refine hp_aload_n (x0 := 1) d_M_around_64 rfl rfl ?_
        refine hp_getR fl_M_26 d_M_around_65 fun x6 => ?_
        refine hp_iload_n (x0 := 3) d_M_around_68 rfl rfl ?_
        refine hp_iald d_M_around_69 fun x7 => ?_
        refine hp_aload_n (x0 := 1) d_M_around_70 rfl rfl ?_
        refine hp_getR fl_M_26 d_M_around_71 fun x8 => ?_
        refine hp_iload_n (x0 := 4) d_M_around_74 rfl rfl ?_
        refine hp_iald d_M_around_75 fun x9 => ?_
        refine hp_isub d_M_around_76 ?_
        refine hp_callI (hp_crV (ci := 8) (t_M_isAt _ _ _ _ _ _) cw_M_220 rfl ⟨w_1171, ws_70⟩ (by decide) rfl rfl (Nat.le_of_ble_eq_true rfl) d_M_around_77) fun q10 => ?_
        refine hp_callI (hp_crV (ci := 8) (t_M_truth _ _ _ _) cw_M_185 rfl ⟨w_1003, w_1004⟩ (by decide) rfl rfl (Nat.le_of_ble_eq_true rfl) d_M_around_80) fun q11 => ?_
        exact hp_iret d_M_around_83 rfl
      · skip
        refine hp_ite (fun c2 => ?_) (fun c2 => ?_)
        · refine hp_tabI (tgt := 84) (kv := 32) d_M_around_21 c2 (by decide) (by decide) rfl (by decide) ?_
          refine hp_aload_n (x0 := 1) d_M_around_84 rfl rfl ?_
          refine hp_iload (x0 := 0) d_M_around_85 rfl ?_
          refine hp_if_lt (tgt := 94) d_M_around_87 (by decide) ?_ ?_
          · refine hp_iconst (v := 0) d_M_around_94 (by decide) ?_
            refine hp_sub [] rfl ?_
            exact j_M_around_95  _ _ _
          · refine hp_iconst (v := 1) d_M_around_90 (by decide) ?_
            refine hp_goto (tgt := 95) d_M_around_91 (by decide) ?_
            refine hp_sub [] rfl ?_
            exact j_M_around_95  _ _ _
        · skip
          refine hp_tabD (tgt := 99) d_M_around_21 (by have e0 := lv_neT c0 (a := 30) (by decide); have e1 := lv_neT c1 (a := 31) (by decide); have e2 := lv_neT c2 (a := 32) (by decide); omega) (by decide) ?_
          refine hp_iload (x0 := 0) d_M_around_99 rfl ?_
          refine hp_if_ge (tgt := 115) d_M_around_101 (by decide) ?_ ?_
          · refine hp_iload_n (x0 := 2) d_M_around_115 rfl rfl ?_
            refine hp_bipush (v := 33) d_M_around_116 (by decide) ?_
            refine hp_icmp_ne (tgt := 132) d_M_around_118 (by decide) ?_ ?_
            · refine hp_aload_n (x0 := 1) d_M_around_121 rfl rfl ?_
              refine hp_iload_n (x0 := 3) d_M_around_122 rfl rfl ?_
              refine hp_iconst (v := 0) d_M_around_123 (by decide) ?_
              refine hp_iload (x0 := 0) d_M_around_124 rfl ?_
              refine hp_callI (hp_crV (ci := 8) (t_M_piece _ _ _ _ _ _) cw_M_230 rfl ⟨w_1175, ws_71⟩ (by decide) rfl rfl (Nat.le_of_ble_eq_true rfl) d_M_around_126) fun q17 => ?_
              refine hp_goto (tgt := 152) d_M_around_129 (by decide) ?_
              refine hp_sub [] rfl ?_
              exact j_M_around_152  _ _
            · refine hp_aload_n (x0 := 1) d_M_around_132 rfl rfl ?_
              refine hp_iload_n (x0 := 3) d_M_around_133 rfl rfl ?_
              refine hp_iload (x0 := 0) d_M_around_134 rfl ?_
              refine hp_aload_n (x0 := 1) d_M_around_136 rfl rfl ?_
              refine hp_getR fl_M_26 d_M_around_137 fun x12 => ?_
              refine hp_iload_n (x0 := 4) d_M_around_140 rfl rfl ?_
              refine hp_iald d_M_around_141 fun x13 => ?_
              refine hp_iadd d_M_around_142 ?_
              refine hp_aload_n (x0 := 1) d_M_around_143 rfl rfl ?_
              refine hp_getR fl_M_26 d_M_around_144 fun x14 => ?_
              refine hp_iload_n (x0 := 3) d_M_around_147 rfl rfl ?_
              refine hp_iald d_M_around_148 fun x15 => ?_
              refine hp_callI (hp_crV (ci := 8) (t_M_piece _ _ _ _ _ _) cw_M_230 rfl ⟨w_1175, ws_71⟩ (by decide) rfl rfl (Nat.le_of_ble_eq_true rfl) d_M_around_149) fun q16 => ?_
              refine hp_sub [] rfl ?_
              exact j_M_around_152  _ _
          · refine hp_aload_n (x0 := 1) d_M_around_104 rfl rfl ?_
            refine hp_iconst (v := 5) d_M_around_105 (by decide) ?_
            refine hp_iconst (v := 0) d_M_around_106 (by decide) ?_
            refine hp_callU (hp_crV (ci := 8) (t_M_start _ _ _ _ _) cw_M_103 rfl ⟨w_985, ws_40⟩ (by decide) rfl rfl (Nat.le_of_ble_eq_true rfl) d_M_around_107) fun q18 => ?_
            refine hp_aload_n (x0 := 1) d_M_around_110 rfl rfl ?_
            refine hp_callI (hp_crV (ci := 8) (t_M_keep _ _ _) cw_M_111 rfl ⟨w_992, ws_41⟩ (by decide) rfl rfl (Nat.le_of_ble_eq_true rfl) d_M_around_111) fun q19 => ?_
            exact hp_iret d_M_around_114 rfl
theorem t_M_around (l : Launch) (E : hp_E) (a0 : Nat) (a1 : Int32) (a2 : Int32) (a3 : Int32) : hp_M l E y_M_around Y_M_around hp_rI [.ref a0, .int a1, .int a2, .int a3] (m_M_around E.2.2.1 a0 a1 a2 a3) := hp_M.of (plainFor_of_name (by decide)) ⟨rfl, rfl⟩ (Nat.le_of_ble_eq_true rfl) (fun Z h hE => by subst hE; exact j_M_around_0 _ _ _ _ h)
