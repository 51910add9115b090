-- K_over
theorem d_K_over_0 : decode prog_4_method_5_code 0 = .ok (.aload_n 0, 1) := by decide +kernel
theorem d_K_over_1 : decode prog_4_method_5_code 1 = .ok (.iconst 0, 1) := by decide +kernel
theorem d_K_over_2 : decode prog_4_method_5_code 2 = .ok (.putfield 15, 3) := by decide +kernel
theorem d_K_over_5 : decode prog_4_method_5_code 5 = .ok (.lload_n 1, 1) := by decide +kernel
theorem d_K_over_6 : decode prog_4_method_5_code 6 = .ok (.lconst 0, 1) := by decide +kernel
theorem d_K_over_7 : decode prog_4_method_5_code 7 = .ok (.lcmp, 1) := by decide +kernel
theorem d_K_over_8 : decode prog_4_method_5_code 8 = .ok (.ifCond .ne 9, 3) := by decide +kernel
theorem d_K_over_11 : decode prog_4_method_5_code 11 = .ok (.aload_n 0, 1) := by decide +kernel
theorem d_K_over_12 : decode prog_4_method_5_code 12 = .ok (.iconst 0, 1) := by decide +kernel
theorem d_K_over_13 : decode prog_4_method_5_code 13 = .ok (.putfield 9, 3) := by decide +kernel
theorem d_K_over_16 : decode prog_4_method_5_code 16 = .ok (.return_, 1) := by decide +kernel
theorem d_K_over_17 : decode prog_4_method_5_code 17 = .ok (.lload_n 1, 1) := by decide +kernel
theorem d_K_over_18 : decode prog_4_method_5_code 18 = .ok (.invokestatic 46, 3) := by decide +kernel
theorem d_K_over_21 : decode prog_4_method_5_code 21 = .ok (.lstore 4, 2) := by decide +kernel
theorem d_K_over_23 : decode prog_4_method_5_code 23 = .ok (.aload_n 0, 1) := by decide +kernel
theorem d_K_over_24 : decode prog_4_method_5_code 24 = .ok (.getfield 18, 3) := by decide +kernel
theorem d_K_over_27 : decode prog_4_method_5_code 27 = .ok (.invokestatic 46, 3) := by decide +kernel
theorem d_K_over_30 : decode prog_4_method_5_code 30 = .ok (.lload 4, 2) := by decide +kernel
theorem d_K_over_32 : decode prog_4_method_5_code 32 = .ok (.lrem, 1) := by decide +kernel
theorem d_K_over_33 : decode prog_4_method_5_code 33 = .ok (.lstore 6, 2) := by decide +kernel
theorem d_K_over_35 : decode prog_4_method_5_code 35 = .ok (.aload_n 0, 1) := by decide +kernel
theorem d_K_over_36 : decode prog_4_method_5_code 36 = .ok (.getfield 18, 3) := by decide +kernel
theorem d_K_over_39 : decode prog_4_method_5_code 39 = .ok (.invokestatic 46, 3) := by decide +kernel
theorem d_K_over_42 : decode prog_4_method_5_code 42 = .ok (.lload 4, 2) := by decide +kernel
theorem d_K_over_44 : decode prog_4_method_5_code 44 = .ok (.ldiv, 1) := by decide +kernel
theorem d_K_over_45 : decode prog_4_method_5_code 45 = .ok (.lstore 8, 2) := by decide +kernel
theorem d_K_over_47 : decode prog_4_method_5_code 47 = .ok (.lload 8, 2) := by decide +kernel
theorem d_K_over_49 : decode prog_4_method_5_code 49 = .ok (.ldc2_w 40, 3) := by decide +kernel
theorem d_K_over_52 : decode prog_4_method_5_code 52 = .ok (.ldiv, 1) := by decide +kernel
theorem d_K_over_53 : decode prog_4_method_5_code 53 = .ok (.lstore 10, 2) := by decide +kernel
theorem d_K_over_55 : decode prog_4_method_5_code 55 = .ok (.lload 8, 2) := by decide +kernel
theorem d_K_over_57 : decode prog_4_method_5_code 57 = .ok (.ldc2_w 40, 3) := by decide +kernel
theorem d_K_over_60 : decode prog_4_method_5_code 60 = .ok (.lrem, 1) := by decide +kernel
theorem d_K_over_61 : decode prog_4_method_5_code 61 = .ok (.lstore 12, 2) := by decide +kernel
theorem d_K_over_63 : decode prog_4_method_5_code 63 = .ok (.bipush 9, 2) := by decide +kernel
theorem d_K_over_65 : decode prog_4_method_5_code 65 = .ok (.iload_n 3, 1) := by decide +kernel
theorem d_K_over_66 : decode prog_4_method_5_code 66 = .ok (.iadd, 1) := by decide +kernel
theorem d_K_over_67 : decode prog_4_method_5_code 67 = .ok (.aload_n 0, 1) := by decide +kernel
theorem d_K_over_68 : decode prog_4_method_5_code 68 = .ok (.getfield 22, 3) := by decide +kernel
theorem d_K_over_71 : decode prog_4_method_5_code 71 = .ok (.isub, 1) := by decide +kernel
theorem d_K_over_72 : decode prog_4_method_5_code 72 = .ok (.istore 14, 2) := by decide +kernel
theorem d_K_over_74 : decode prog_4_method_5_code 74 = .ok (.iconst 0, 1) := by decide +kernel
theorem d_K_over_75 : decode prog_4_method_5_code 75 = .ok (.istore 15, 2) := by decide +kernel
theorem d_K_over_77 : decode prog_4_method_5_code 77 = .ok (.iload 15, 2) := by decide +kernel
theorem d_K_over_79 : decode prog_4_method_5_code 79 = .ok (.iload 14, 2) := by decide +kernel
theorem d_K_over_81 : decode prog_4_method_5_code 81 = .ok (.if_icmp .ge 110, 3) := by decide +kernel
theorem d_K_over_84 : decode prog_4_method_5_code 84 = .ok (.lload 10, 2) := by decide +kernel
theorem d_K_over_86 : decode prog_4_method_5_code 86 = .ok (.ldc2_w 52, 3) := by decide +kernel
theorem d_K_over_89 : decode prog_4_method_5_code 89 = .ok (.lcmp, 1) := by decide +kernel
theorem d_K_over_90 : decode prog_4_method_5_code 90 = .ok (.ifCond .lt 9, 3) := by decide +kernel
theorem d_K_over_93 : decode prog_4_method_5_code 93 = .ok (.aload_n 0, 1) := by decide +kernel
theorem d_K_over_94 : decode prog_4_method_5_code 94 = .ok (.iconst 0, 1) := by decide +kernel
theorem d_K_over_95 : decode prog_4_method_5_code 95 = .ok (.putfield 9, 3) := by decide +kernel
theorem d_K_over_98 : decode prog_4_method_5_code 98 = .ok (.return_, 1) := by decide +kernel
theorem d_K_over_99 : decode prog_4_method_5_code 99 = .ok (.iconst 0, 1) := by decide +kernel
theorem d_K_over_100 : decode prog_4_method_5_code 100 = .ok (.istore 16, 2) := by decide +kernel
theorem d_K_over_102 : decode prog_4_method_5_code 102 = .ok (.lconst 0, 1) := by decide +kernel
theorem d_K_over_103 : decode prog_4_method_5_code 103 = .ok (.lstore 17, 2) := by decide +kernel
theorem d_K_over_105 : decode prog_4_method_5_code 105 = .ok (.iconst 0, 1) := by decide +kernel
theorem d_K_over_106 : decode prog_4_method_5_code 106 = .ok (.istore 19, 2) := by decide +kernel
theorem d_K_over_108 : decode prog_4_method_5_code 108 = .ok (.iload 19, 2) := by decide +kernel
theorem d_K_over_110 : decode prog_4_method_5_code 110 = .ok (.bipush 10, 2) := by decide +kernel
theorem d_K_over_112 : decode prog_4_method_5_code 112 = .ok (.if_icmp .ge 34, 3) := by decide +kernel
theorem d_K_over_115 : decode prog_4_method_5_code 115 = .ok (.lload 17, 2) := by decide +kernel
theorem d_K_over_117 : decode prog_4_method_5_code 117 = .ok (.lload 6, 2) := by decide +kernel
theorem d_K_over_119 : decode prog_4_method_5_code 119 = .ok (.ladd, 1) := by decide +kernel
theorem d_K_over_120 : decode prog_4_method_5_code 120 = .ok (.lstore 17, 2) := by decide +kernel
theorem d_K_over_122 : decode prog_4_method_5_code 122 = .ok (.lload 17, 2) := by decide +kernel
theorem d_K_over_124 : decode prog_4_method_5_code 124 = .ok (.lload 4, 2) := by decide +kernel
theorem d_K_over_126 : decode prog_4_method_5_code 126 = .ok (.lcmp, 1) := by decide +kernel
theorem d_K_over_127 : decode prog_4_method_5_code 127 = .ok (.ifCond .lt 13, 3) := by decide +kernel
theorem d_K_over_130 : decode prog_4_method_5_code 130 = .ok (.lload 17, 2) := by decide +kernel
theorem d_K_over_132 : decode prog_4_method_5_code 132 = .ok (.lload 4, 2) := by decide +kernel
theorem d_K_over_134 : decode prog_4_method_5_code 134 = .ok (.lsub, 1) := by decide +kernel
theorem d_K_over_135 : decode prog_4_method_5_code 135 = .ok (.lstore 17, 2) := by decide +kernel
theorem d_K_over_137 : decode prog_4_method_5_code 137 = .ok (.iinc 16 1, 3) := by decide +kernel
theorem d_K_over_140 : decode prog_4_method_5_code 140 = .ok (.iinc 19 1, 3) := by decide +kernel
theorem d_K_over_143 : decode prog_4_method_5_code 143 = .ok (.goto (-35), 3) := by decide +kernel
theorem d_K_over_146 : decode prog_4_method_5_code 146 = .ok (.lload 17, 2) := by decide +kernel
theorem d_K_over_148 : decode prog_4_method_5_code 148 = .ok (.lstore 6, 2) := by decide +kernel
theorem d_K_over_150 : decode prog_4_method_5_code 150 = .ok (.lload 12, 2) := by decide +kernel
theorem d_K_over_152 : decode prog_4_method_5_code 152 = .ok (.ldc2_w 54, 3) := by decide +kernel
theorem d_K_over_155 : decode prog_4_method_5_code 155 = .ok (.lmul, 1) := by decide +kernel
theorem d_K_over_156 : decode prog_4_method_5_code 156 = .ok (.iload 16, 2) := by decide +kernel
theorem d_K_over_158 : decode prog_4_method_5_code 158 = .ok (.i2l, 1) := by decide +kernel
theorem d_K_over_159 : decode prog_4_method_5_code 159 = .ok (.ladd, 1) := by decide +kernel
theorem d_K_over_160 : decode prog_4_method_5_code 160 = .ok (.lstore 12, 2) := by decide +kernel
theorem d_K_over_162 : decode prog_4_method_5_code 162 = .ok (.lload 10, 2) := by decide +kernel
theorem d_K_over_164 : decode prog_4_method_5_code 164 = .ok (.ldc2_w 54, 3) := by decide +kernel
theorem d_K_over_167 : decode prog_4_method_5_code 167 = .ok (.lmul, 1) := by decide +kernel
theorem d_K_over_168 : decode prog_4_method_5_code 168 = .ok (.lload 12, 2) := by decide +kernel
theorem d_K_over_170 : decode prog_4_method_5_code 170 = .ok (.ldc2_w 40, 3) := by decide +kernel
theorem d_K_over_173 : decode prog_4_method_5_code 173 = .ok (.ldiv, 1) := by decide +kernel
theorem d_K_over_174 : decode prog_4_method_5_code 174 = .ok (.ladd, 1) := by decide +kernel
theorem d_K_over_175 : decode prog_4_method_5_code 175 = .ok (.lstore 10, 2) := by decide +kernel
theorem d_K_over_177 : decode prog_4_method_5_code 177 = .ok (.lload 12, 2) := by decide +kernel
theorem d_K_over_179 : decode prog_4_method_5_code 179 = .ok (.ldc2_w 40, 3) := by decide +kernel
theorem d_K_over_182 : decode prog_4_method_5_code 182 = .ok (.lrem, 1) := by decide +kernel
theorem d_K_over_183 : decode prog_4_method_5_code 183 = .ok (.lstore 12, 2) := by decide +kernel
theorem d_K_over_185 : decode prog_4_method_5_code 185 = .ok (.iinc 15 1, 3) := by decide +kernel
theorem d_K_over_188 : decode prog_4_method_5_code 188 = .ok (.goto (-111), 3) := by decide +kernel
theorem d_K_over_191 : decode prog_4_method_5_code 191 = .ok (.lload 6, 2) := by decide +kernel
theorem d_K_over_193 : decode prog_4_method_5_code 193 = .ok (.lload 4, 2) := by decide +kernel
theorem d_K_over_195 : decode prog_4_method_5_code 195 = .ok (.lload 6, 2) := by decide +kernel
theorem d_K_over_197 : decode prog_4_method_5_code 197 = .ok (.lsub, 1) := by decide +kernel
theorem d_K_over_198 : decode prog_4_method_5_code 198 = .ok (.lcmp, 1) := by decide +kernel
theorem d_K_over_199 : decode prog_4_method_5_code 199 = .ok (.ifCond .lt 7, 3) := by decide +kernel
theorem d_K_over_202 : decode prog_4_method_5_code 202 = .ok (.iconst 1, 1) := by decide +kernel
theorem d_K_over_203 : decode prog_4_method_5_code 203 = .ok (.goto 4, 3) := by decide +kernel
theorem d_K_over_206 : decode prog_4_method_5_code 206 = .ok (.iconst 0, 1) := by decide +kernel
theorem d_K_over_207 : decode prog_4_method_5_code 207 = .ok (.istore 15, 2) := by decide +kernel
theorem d_K_over_209 : decode prog_4_method_5_code 209 = .ok (.aload_n 0, 1) := by decide +kernel
theorem d_K_over_210 : decode prog_4_method_5_code 210 = .ok (.aload_n 0, 1) := by decide +kernel
theorem d_K_over_211 : decode prog_4_method_5_code 211 = .ok (.getfield 18, 3) := by decide +kernel
theorem d_K_over_214 : decode prog_4_method_5_code 214 = .ok (.lconst 0, 1) := by decide +kernel
theorem d_K_over_215 : decode prog_4_method_5_code 215 = .ok (.lcmp, 1) := by decide +kernel
theorem d_K_over_216 : decode prog_4_method_5_code 216 = .ok (.ifCond .ge 7, 3) := by decide +kernel
theorem d_K_over_219 : decode prog_4_method_5_code 219 = .ok (.iconst 1, 1) := by decide +kernel
theorem d_K_over_220 : decode prog_4_method_5_code 220 = .ok (.goto 4, 3) := by decide +kernel
theorem d_K_over_223 : decode prog_4_method_5_code 223 = .ok (.iconst 0, 1) := by decide +kernel
theorem d_K_over_224 : decode prog_4_method_5_code 224 = .ok (.lload_n 1, 1) := by decide +kernel
theorem d_K_over_225 : decode prog_4_method_5_code 225 = .ok (.lconst 0, 1) := by decide +kernel
theorem d_K_over_226 : decode prog_4_method_5_code 226 = .ok (.lcmp, 1) := by decide +kernel
theorem d_K_over_227 : decode prog_4_method_5_code 227 = .ok (.ifCond .ge 7, 3) := by decide +kernel
theorem d_K_over_230 : decode prog_4_method_5_code 230 = .ok (.iconst 1, 1) := by decide +kernel
theorem d_K_over_231 : decode prog_4_method_5_code 231 = .ok (.goto 4, 3) := by decide +kernel
theorem d_K_over_234 : decode prog_4_method_5_code 234 = .ok (.iconst 0, 1) := by decide +kernel
theorem d_K_over_235 : decode prog_4_method_5_code 235 = .ok (.if_icmp .eq 7, 3) := by decide +kernel
theorem d_K_over_238 : decode prog_4_method_5_code 238 = .ok (.iconst 1, 1) := by decide +kernel
theorem d_K_over_239 : decode prog_4_method_5_code 239 = .ok (.goto 4, 3) := by decide +kernel
theorem d_K_over_242 : decode prog_4_method_5_code 242 = .ok (.iconst 0, 1) := by decide +kernel
theorem d_K_over_243 : decode prog_4_method_5_code 243 = .ok (.lload 10, 2) := by decide +kernel
theorem d_K_over_245 : decode prog_4_method_5_code 245 = .ok (.iload 15, 2) := by decide +kernel
theorem d_K_over_247 : decode prog_4_method_5_code 247 = .ok (.ifCond .eq 10, 3) := by decide +kernel
theorem d_K_over_250 : decode prog_4_method_5_code 250 = .ok (.lload 12, 2) := by decide +kernel
theorem d_K_over_252 : decode prog_4_method_5_code 252 = .ok (.lconst 1, 1) := by decide +kernel
theorem d_K_over_253 : decode prog_4_method_5_code 253 = .ok (.ladd, 1) := by decide +kernel
theorem d_K_over_254 : decode prog_4_method_5_code 254 = .ok (.goto 5, 3) := by decide +kernel
theorem d_K_over_257 : decode prog_4_method_5_code 257 = .ok (.lload 12, 2) := by decide +kernel
theorem d_K_over_259 : decode prog_4_method_5_code 259 = .ok (.invokevirtual 42, 3) := by decide +kernel
theorem d_K_over_262 : decode prog_4_method_5_code 262 = .ok (.return_, 1) := by decide +kernel
def m_K_over_140 (G : Nat → Nat) (r77 : Nat → Int64 → Int64 → Int64 → Int64 → Int64 → Int32 → Int32 → hp_H → Option (Unit × hp_H)) (r108 : Nat → Int64 → Int64 → Int64 → Int64 → Int64 → Int32 → Int32 → Int32 → Int64 → Int32 → hp_H → Option (Unit × hp_H)) (a0 : Nat) (a1 : Int64) (a4 : Int64) (a6 : Int64) (a10 : Int64) (a12 : Int64) (a14 : Int32) (a15 : Int32) (a16 : Int32) (a17 : Int64) (a19 : Int32) (h : hp_H) : Option (Unit × hp_H) := hp_nm (a19 + 1) fun x1 => r108 a0 a1 a4 a6 a10 a12 a14 a15 a16 a17 x1 h
set_option maxRecDepth 100000 in
set_option maxHeartbeats 4000000 in
theorem j_K_over_140 {Z : hp_Z} (r77 : Nat → Int64 → Int64 → Int64 → Int64 → Int64 → Int32 → Int32 → hp_H → Option (Unit × hp_H)) (hr77 : ∀ (a0 : Nat) (a1 : Int64) (a4 : Int64) (a6 : Int64) (a10 : Int64) (a12 : Int64) (a14 : Int32) (a15 : Int32) (h : hp_H), hp_J Y_K_over Z hp_rV h 77 [(0, .ref a0), (1, .long a1), (4, .long a4), (6, .long a6), (10, .long a10), (12, .long a12), (14, .int a14), (15, .int a15)] [] (r77 a0 a1 a4 a6 a10 a12 a14 a15  h)) (r108 : Nat → Int64 → Int64 → Int64 → Int64 → Int64 → Int32 → Int32 → Int32 → Int64 → Int32 → hp_H → Option (Unit × hp_H)) (hr108 : ∀ (a0 : Nat) (a1 : Int64) (a4 : Int64) (a6 : Int64) (a10 : Int64) (a12 : Int64) (a14 : Int32) (a15 : Int32) (a16 : Int32) (a17 : Int64) (a19 : Int32) (h : hp_H), hp_J Y_K_over Z hp_rV h 108 [(0, .ref a0), (1, .long a1), (4, .long a4), (6, .long a6), (10, .long a10), (12, .long a12), (14, .int a14), (15, .int a15), (16, .int a16), (17, .long a17), (19, .int a19)] [] (r108 a0 a1 a4 a6 a10 a12 a14 a15 a16 a17 a19  h)) (a0 : Nat) (a1 : Int64) (a4 : Int64) (a6 : Int64) (a10 : Int64) (a12 : Int64) (a14 : Int32) (a15 : Int32) (a16 : Int32) (a17 : Int64) (a19 : Int32) (h : hp_H) : hp_J Y_K_over Z hp_rV h 140 [(0, .ref a0), (1, .long a1), (4, .long a4), (6, .long a6), (10, .long a10), (12, .long a12), (14, .int a14), (15, .int a15), (16, .int a16), (17, .long a17), (19, .int a19)] [] (m_K_over_140 (hp_G Z) r77 r108 a0 a1 a4 a6 a10 a12 a14 a15 a16 a17 a19 h) := by
  unfold m_K_over_140
  refine hp_iinc (x0 := 10) (d := 1) (fun x1 => [(19, .int x1), (0, .ref a0), (1, .long a1), (4, .long a4), (6, .long a6), (10, .long a10), (12, .long a12), (14, .int a14), (15, .int a15), (16, .int a16), (17, .long a17)]) d_K_over_140 rfl (by decide) (by decide) (fun _ => rfl) fun x1 => ?_
  refine hp_goto (tgt := 108) d_K_over_143 (by decide) ?_
  refine hp_sub [1, 2, 3, 4, 5, 6, 7, 8, 9, 10, 0] rfl ?_
  exact hr108 _ _ _ _ _ _ _ _ _ _ _ _
def m_K_over_108 (G : Nat → Nat) (r77 : Nat → Int64 → Int64 → Int64 → Int64 → Int64 → Int32 → Int32 → hp_H → Option (Unit × hp_H)) : Nat → Nat → Int64 → Int64 → Int64 → Int64 → Int64 → Int32 → Int32 → Int32 → Int64 → Int32 → hp_H → Option (Unit × hp_H)
  | 0, _, _, _, _, _, _, _, _, _, _, _, _ => none
  | n + 1, a0, a1, a4, a6, a10, a12, a14, a15, a16, a17, a19, h => if (10 : Int32) ≤ a19 then (hp_nm a17 fun x1 => hp_nm ((a12 * (10 : Int64)) + a16.toInt64) fun x2 => (hp_dL x2 (1000000000 : Int64)).bind fun x3 => hp_nm ((a10 * (10 : Int64)) + x3) fun x4 => (hp_mL x2 (1000000000 : Int64)).bind fun x5 => hp_nm x5 fun x6 => hp_nm (a15 + 1) fun x7 => r77 a0 a1 a4 x1 x4 x6 a14 x7 h) else (hp_nm (a17 + a6) fun x8 => if (lg_cmp x8 a4) < 0 then (m_K_over_140 G r77 (m_K_over_108 G r77 n) a0 a1 a4 a6 a10 a12 a14 a15 a16 x8 a19 h) else (hp_nm (x8 - a4) fun x9 => hp_nm (a16 + 1) fun x10 => m_K_over_140 G r77 (m_K_over_108 G r77 n) a0 a1 a4 a6 a10 a12 a14 a15 x10 x9 a19 h))
set_option maxRecDepth 100000 in
set_option maxHeartbeats 4000000 in
theorem j_K_over_108 {Z : hp_Z} (r77 : Nat → Int64 → Int64 → Int64 → Int64 → Int64 → Int32 → Int32 → hp_H → Option (Unit × hp_H)) (hr77 : ∀ (a0 : Nat) (a1 : Int64) (a4 : Int64) (a6 : Int64) (a10 : Int64) (a12 : Int64) (a14 : Int32) (a15 : Int32) (h : hp_H), hp_J Y_K_over Z hp_rV h 77 [(0, .ref a0), (1, .long a1), (4, .long a4), (6, .long a6), (10, .long a10), (12, .long a12), (14, .int a14), (15, .int a15)] [] (r77 a0 a1 a4 a6 a10 a12 a14 a15  h)) : ∀ (n : Nat) (a0 : Nat) (a1 : Int64) (a4 : Int64) (a6 : Int64) (a10 : Int64) (a12 : Int64) (a14 : Int32) (a15 : Int32) (a16 : Int32) (a17 : Int64) (a19 : Int32) (h : hp_H), hp_J Y_K_over Z hp_rV h 108 [(0, .ref a0), (1, .long a1), (4, .long a4), (6, .long a6), (10, .long a10), (12, .long a12), (14, .int a14), (15, .int a15), (16, .int a16), (17, .long a17), (19, .int a19)] [] (m_K_over_108 (hp_G Z) r77 n a0 a1 a4 a6 a10 a12 a14 a15 a16 a17 a19 h) := by
  intro n
  induction n with
  | zero => intro a0 a1 a4 a6 a10 a12 a14 a15 a16 a17 a19 h; exact hp_fail
  | succ n ih =>
    intro a0 a1 a4 a6 a10 a12 a14 a15 a16 a17 a19 h
    rw [m_K_over_108]
    refine hp_iload (x0 := 10) d_K_over_108 rfl ?_
    refine hp_bipush (v := 10) d_K_over_110 (by decide) ?_
    refine hp_icmp_ge (tgt := 146) d_K_over_112 (by decide) ?_ ?_
    · refine hp_lload (x0 := 9) d_K_over_146 rfl ?_
      refine hp_lstore (fun x1 => [(6, .long x1), (0, .ref a0), (1, .long a1), (4, .long a4), (10, .long a10), (12, .long a12), (14, .int a14), (15, .int a15), (16, .int a16), (17, .long a17), (19, .int a19)]) d_K_over_148 (by decide) (fun _ => rfl) fun x1 => ?_
      refine hp_lload (x0 := 5) d_K_over_150 rfl ?_
      refine hp_ldc2 (v := 10) d_K_over_152 w_615 ?_
      refine hp_lmul d_K_over_155 ?_
      refine hp_iload (x0 := 8) d_K_over_156 rfl ?_
      refine hp_i2l d_K_over_158 ?_
      refine hp_ladd d_K_over_159 ?_
      refine hp_lstore (fun x2 => [(12, .long x2), (6, .long x1), (0, .ref a0), (1, .long a1), (4, .long a4), (10, .long a10), (14, .int a14), (15, .int a15), (16, .int a16), (17, .long a17), (19, .int a19)]) d_K_over_160 (by decide) (fun _ => rfl) fun x2 => ?_
      refine hp_lload (x0 := 5) d_K_over_162 rfl ?_
      refine hp_ldc2 (v := 10) d_K_over_164 w_615 ?_
      refine hp_lmul d_K_over_167 ?_
      refine hp_lload (x0 := 0) d_K_over_168 rfl ?_
      refine hp_ldc2 (v := 1000000000) d_K_over_170 w_610 ?_
      refine hp_ldiv d_K_over_173 fun x3 => ?_
      refine hp_ladd d_K_over_174 ?_
      refine hp_lstore (fun x4 => [(10, .long x4), (12, .long x2), (6, .long x1), (0, .ref a0), (1, .long a1), (4, .long a4), (14, .int a14), (15, .int a15), (16, .int a16), (17, .long a17), (19, .int a19)]) d_K_over_175 (by decide) (fun _ => rfl) fun x4 => ?_
      refine hp_lload (x0 := 1) d_K_over_177 rfl ?_
      refine hp_ldc2 (v := 1000000000) d_K_over_179 w_610 ?_
      refine hp_lrem d_K_over_182 fun x5 => ?_
      refine hp_lstore (fun x6 => [(12, .long x6), (10, .long x4), (6, .long x1), (0, .ref a0), (1, .long a1), (4, .long a4), (14, .int a14), (15, .int a15), (16, .int a16), (17, .long a17), (19, .int a19)]) d_K_over_183 (by decide) (fun _ => rfl) fun x6 => ?_
      refine hp_iinc (x0 := 7) (d := 1) (fun x7 => [(15, .int x7), (12, .long x6), (10, .long x4), (6, .long x1), (0, .ref a0), (1, .long a1), (4, .long a4), (14, .int a14), (16, .int a16), (17, .long a17), (19, .int a19)]) d_K_over_185 rfl (by decide) (by decide) (fun _ => rfl) fun x7 => ?_
      refine hp_goto (tgt := 77) d_K_over_188 (by decide) ?_
      refine hp_sub [4, 5, 6, 3, 2, 1, 7, 0] rfl ?_
      exact hr77 _ _ _ _ _ _ _ _ _
    · refine hp_lload (x0 := 9) d_K_over_115 rfl ?_
      refine hp_lload (x0 := 3) d_K_over_117 rfl ?_
      refine hp_ladd d_K_over_119 ?_
      refine hp_lstore (fun x8 => [(17, .long x8), (0, .ref a0), (1, .long a1), (4, .long a4), (6, .long a6), (10, .long a10), (12, .long a12), (14, .int a14), (15, .int a15), (16, .int a16), (19, .int a19)]) d_K_over_120 (by decide) (fun _ => rfl) fun x8 => ?_
      refine hp_lload (x0 := 0) d_K_over_122 rfl ?_
      refine hp_lload (x0 := 3) d_K_over_124 rfl ?_
      refine hp_lcmp d_K_over_126 ?_
      refine hp_if_lt (tgt := 140) d_K_over_127 (by decide) ?_ ?_
      · refine hp_sub [1, 2, 3, 4, 5, 6, 7, 8, 9, 0, 10] rfl ?_
        exact j_K_over_140 _ hr77 _ ih _ _ _ _ _ _ _ _ _ _ _ _
      · refine hp_lload (x0 := 0) d_K_over_130 rfl ?_
        refine hp_lload (x0 := 3) d_K_over_132 rfl ?_
        refine hp_lsub d_K_over_134 ?_
        refine hp_lstore (fun x9 => [(17, .long x9), (0, .ref a0), (1, .long a1), (4, .long a4), (6, .long a6), (10, .long a10), (12, .long a12), (14, .int a14), (15, .int a15), (16, .int a16), (19, .int a19)]) d_K_over_135 (by decide) (fun _ => rfl) fun x9 => ?_
        refine hp_iinc (x0 := 9) (d := 1) (fun x10 => [(16, .int x10), (17, .long x9), (0, .ref a0), (1, .long a1), (4, .long a4), (6, .long a6), (10, .long a10), (12, .long a12), (14, .int a14), (15, .int a15), (19, .int a19)]) d_K_over_137 rfl (by decide) (by decide) (fun _ => rfl) fun x10 => ?_
        refine hp_sub [2, 3, 4, 5, 6, 7, 8, 9, 0, 1, 10] rfl ?_
        exact j_K_over_140 _ hr77 _ ih _ _ _ _ _ _ _ _ _ _ _ _
def m_K_over_259 (G : Nat → Nat) (s0 : Int64) (s1 : Int64) (s2 : Int32) (s3 : Nat) (h : hp_H) : Option (Unit × hp_H) := (hp_vck h s3 6 (m_K_settle G s3 s2 s1 s0 h)).bind fun q1 => some ((), q1.2)
set_option maxRecDepth 100000 in
set_option maxHeartbeats 4000000 in
theorem j_K_over_259 {Z : hp_Z} (s0 : Int64) (s1 : Int64) (s2 : Int32) (s3 : Nat) (h : hp_H) : hp_J Y_K_over Z hp_rV h 259 [] [.long s0, .long s1, .int s2, .ref s3] (m_K_over_259 (hp_G Z)  s0 s1 s2 s3 h) := by
  unfold m_K_over_259
  refine hp_callU (hp_crV (ci := 6) (t_K_settle _ _ _ _ _ _) cw_K_42 rfl ⟨w_613, ws_20⟩ (by decide) rfl rfl (Nat.le_of_ble_eq_true rfl) d_K_over_259) fun q1 => ?_
  exact hp_vret d_K_over_262 rfl
def m_K_over_243 (G : Nat → Nat) (a10 : Int64) (a12 : Int64) (a15 : Int32) (s0 : Int32) (s1 : Nat) (h : hp_H) : Option (Unit × hp_H) := if a15 = 0 then (m_K_over_259 G a12 a10 s0 s1 h) else (m_K_over_259 G (a12 + (1 : Int64)) a10 s0 s1 h)
set_option maxRecDepth 100000 in
set_option maxHeartbeats 4000000 in
theorem j_K_over_243 {Z : hp_Z} (a10 : Int64) (a12 : Int64) (a15 : Int32) (s0 : Int32) (s1 : Nat) (h : hp_H) : hp_J Y_K_over Z hp_rV h 243 [(10, .long a10), (12, .long a12), (15, .int a15)] [.int s0, .ref s1] (m_K_over_243 (hp_G Z)  a10 a12 a15 s0 s1 h) := by
  unfold m_K_over_243
  refine hp_lload (x0 := 0) d_K_over_243 rfl ?_
  refine hp_iload (x0 := 2) d_K_over_245 rfl ?_
  refine hp_if_eq (tgt := 257) d_K_over_247 (by decide) ?_ ?_
  · refine hp_lload (x0 := 1) d_K_over_257 rfl ?_
    refine hp_sub [] rfl ?_
    exact j_K_over_259  _ _ _ _ _
  · refine hp_lload (x0 := 1) d_K_over_250 rfl ?_
    refine hp_lconst (v := 1) d_K_over_252 (by decide) ?_
    refine hp_ladd d_K_over_253 ?_
    refine hp_goto (tgt := 259) d_K_over_254 (by decide) ?_
    refine hp_sub [] rfl ?_
    exact j_K_over_259  _ _ _ _ _
def m_K_over_235 (G : Nat → Nat) (a10 : Int64) (a12 : Int64) (a15 : Int32) (s0 : Int32) (s1 : Int32) (s2 : Nat) (h : hp_H) : Option (Unit × hp_H) := if s1 = s0 then (m_K_over_243 G a10 a12 a15 (0 : Int32) s2 h) else (m_K_over_243 G a10 a12 a15 (1 : Int32) s2 h)
set_option maxRecDepth 100000 in
set_option maxHeartbeats 4000000 in
theorem j_K_over_235 {Z : hp_Z} (a10 : Int64) (a12 : Int64) (a15 : Int32) (s0 : Int32) (s1 : Int32) (s2 : Nat) (h : hp_H) : hp_J Y_K_over Z hp_rV h 235 [(10, .long a10), (12, .long a12), (15, .int a15)] [.int s0, .int s1, .ref s2] (m_K_over_235 (hp_G Z)  a10 a12 a15 s0 s1 s2 h) := by
  unfold m_K_over_235
  refine hp_icmp_eq (tgt := 242) d_K_over_235 (by decide) ?_ ?_
  · refine hp_iconst (v := 0) d_K_over_242 (by decide) ?_
    exact j_K_over_243  _ _ _ _ _ _
  · refine hp_iconst (v := 1) d_K_over_238 (by decide) ?_
    refine hp_goto (tgt := 243) d_K_over_239 (by decide) ?_
    exact j_K_over_243  _ _ _ _ _ _
def m_K_over_224 (G : Nat → Nat) (a1 : Int64) (a10 : Int64) (a12 : Int64) (a15 : Int32) (s0 : Int32) (s1 : Nat) (h : hp_H) : Option (Unit × hp_H) := if 0 ≤ (lg_cmp a1 (0 : Int64)) then (m_K_over_235 G a10 a12 a15 (0 : Int32) s0 s1 h) else (m_K_over_235 G a10 a12 a15 (1 : Int32) s0 s1 h)
set_option maxRecDepth 100000 in
set_option maxHeartbeats 4000000 in
theorem j_K_over_224 {Z : hp_Z} (a1 : Int64) (a10 : Int64) (a12 : Int64) (a15 : Int32) (s0 : Int32) (s1 : Nat) (h : hp_H) : hp_J Y_K_over Z hp_rV h 224 [(1, .long a1), (10, .long a10), (12, .long a12), (15, .int a15)] [.int s0, .ref s1] (m_K_over_224 (hp_G Z)  a1 a10 a12 a15 s0 s1 h) := by
  unfold m_K_over_224
  refine hp_lload_n (x0 := 0) d_K_over_224 rfl rfl ?_
  refine hp_lconst (v := 0) d_K_over_225 (by decide) ?_
  refine hp_lcmp d_K_over_226 ?_
  refine hp_if_ge (tgt := 234) d_K_over_227 (by decide) ?_ ?_
  · refine hp_iconst (v := 0) d_K_over_234 (by decide) ?_
    refine hp_sub [1, 2, 3] rfl ?_
    exact j_K_over_235  _ _ _ _ _ _ _
  · refine hp_iconst (v := 1) d_K_over_230 (by decide) ?_
    refine hp_goto (tgt := 235) d_K_over_231 (by decide) ?_
    refine hp_sub [1, 2, 3] rfl ?_
    exact j_K_over_235  _ _ _ _ _ _ _
def m_K_over_207 (G : Nat → Nat) (a0 : Nat) (a1 : Int64) (a10 : Int64) (a12 : Int64) (s0 : Int32) (h : hp_H) : Option (Unit × hp_H) := hp_nm s0 fun x1 => (hp_gL h a0 6 2).bind fun x2 => if 0 ≤ (lg_cmp x2 (0 : Int64)) then (m_K_over_224 G a1 a10 a12 x1 (0 : Int32) a0 h) else (m_K_over_224 G a1 a10 a12 x1 (1 : Int32) a0 h)
set_option maxRecDepth 100000 in
set_option maxHeartbeats 4000000 in
theorem j_K_over_207 {Z : hp_Z} (a0 : Nat) (a1 : Int64) (a10 : Int64) (a12 : Int64) (s0 : Int32) (h : hp_H) : hp_J Y_K_over Z hp_rV h 207 [(0, .ref a0), (1, .long a1), (10, .long a10), (12, .long a12)] [.int s0] (m_K_over_207 (hp_G Z)  a0 a1 a10 a12 s0 h) := by
  unfold m_K_over_207
  refine hp_istore (fun x1 => [(15, .int x1), (0, .ref a0), (1, .long a1), (10, .long a10), (12, .long a12)]) d_K_over_207 (by decide) (fun _ => rfl) fun x1 => ?_
  refine hp_aload_n (x0 := 1) d_K_over_209 rfl rfl ?_
  refine hp_aload_n (x0 := 1) d_K_over_210 rfl rfl ?_
  refine hp_getL fl_K_18 d_K_over_211 fun x2 => ?_
  refine hp_lconst (v := 0) d_K_over_214 (by decide) ?_
  refine hp_lcmp d_K_over_215 ?_
  refine hp_if_ge (tgt := 223) d_K_over_216 (by decide) ?_ ?_
  · refine hp_iconst (v := 0) d_K_over_223 (by decide) ?_
    refine hp_sub [2, 3, 4, 0] rfl ?_
    exact j_K_over_224  _ _ _ _ _ _ _
  · refine hp_iconst (v := 1) d_K_over_219 (by decide) ?_
    refine hp_goto (tgt := 224) d_K_over_220 (by decide) ?_
    refine hp_sub [2, 3, 4, 0] rfl ?_
    exact j_K_over_224  _ _ _ _ _ _ _
def m_K_over_77 (G : Nat → Nat) : Nat → Nat → Int64 → Int64 → Int64 → Int64 → Int64 → Int32 → Int32 → hp_H → Option (Unit × hp_H)
  | 0, _, _, _, _, _, _, _, _, _ => none
  | n + 1, a0, a1, a4, a6, a10, a12, a14, a15, h => if a14 ≤ a15 then (if (lg_cmp a6 (a4 - a6)) < 0 then (m_K_over_207 G a0 a1 a10 a12 (0 : Int32) h) else (m_K_over_207 G a0 a1 a10 a12 (1 : Int32) h)) else (if (lg_cmp a10 (100000000000000000 : Int64)) < 0 then (hp_nm (0 : Int32) fun x1 => hp_nm (0 : Int64) fun x2 => hp_nm (0 : Int32) fun x3 => m_K_over_108 G (m_K_over_77 G  n) hp_fu a0 a1 a4 a6 a10 a12 a14 a15 x1 x2 x3 h) else ((hp_pZ h a0 6 0 (0 : Int32)).bind fun h4 => some ((), h4)))
set_option maxRecDepth 100000 in
set_option maxHeartbeats 4000000 in
theorem j_K_over_77 {Z : hp_Z} : ∀ (n : Nat) (a0 : Nat) (a1 : Int64) (a4 : Int64) (a6 : Int64) (a10 : Int64) (a12 : Int64) (a14 : Int32) (a15 : Int32) (h : hp_H), hp_J Y_K_over Z hp_rV h 77 [(0, .ref a0), (1, .long a1), (4, .long a4), (6, .long a6), (10, .long a10), (12, .long a12), (14, .int a14), (15, .int a15)] [] (m_K_over_77 (hp_G Z)  n a0 a1 a4 a6 a10 a12 a14 a15 h) := by
  intro n
  induction n with
  | zero => intro a0 a1 a4 a6 a10 a12 a14 a15 h; exact hp_fail
  | succ n ih =>
    intro a0 a1 a4 a6 a10 a12 a14 a15 h
    rw [m_K_over_77]
    refine hp_iload (x0 := 7) d_K_over_77 rfl ?_
    refine hp_iload (x0 := 6) d_K_over_79 rfl ?_
    refine hp_icmp_ge (tgt := 191) d_K_over_81 (by decide) ?_ ?_
    · refine hp_lload (x0 := 3) d_K_over_191 rfl ?_
      refine hp_lload (x0 := 2) d_K_over_193 rfl ?_
      refine hp_lload (x0 := 3) d_K_over_195 rfl ?_
      refine hp_lsub d_K_over_197 ?_
      refine hp_lcmp d_K_over_198 ?_
      refine hp_if_lt (tgt := 206) d_K_over_199 (by decide) ?_ ?_
      · refine hp_iconst (v := 0) d_K_over_206 (by decide) ?_
        refine hp_sub [0, 1, 4, 5] rfl ?_
        exact j_K_over_207  _ _ _ _ _ _
      · refine hp_iconst (v := 1) d_K_over_202 (by decide) ?_
        refine hp_goto (tgt := 207) d_K_over_203 (by decide) ?_
        refine hp_sub [0, 1, 4, 5] rfl ?_
        exact j_K_over_207  _ _ _ _ _ _
    · refine hp_lload (x0 := 4) d_K_over_84 rfl ?_
      refine hp_ldc2 (v := 100000000000000000) d_K_over_86 w_629 ?_
      refine hp_lcmp d_K_over_89 ?_
      refine hp_if_lt (tgt := 99) d_K_over_90 (by decide) ?_ ?_
      · refine hp_iconst (v := 0) d_K_over_99 (by decide) ?_
        refine hp_istore (fun x1 => [(16, .int x1), (0, .ref a0), (1, .long a1), (4, .long a4), (6, .long a6), (10, .long a10), (12, .long a12), (14, .int a14), (15, .int a15)]) d_K_over_100 (by decide) (fun _ => rfl) fun x1 => ?_
        refine hp_lconst (v := 0) d_K_over_102 (by decide) ?_
        refine hp_lstore (fun x2 => [(17, .long x2), (16, .int x1), (0, .ref a0), (1, .long a1), (4, .long a4), (6, .long a6), (10, .long a10), (12, .long a12), (14, .int a14), (15, .int a15)]) d_K_over_103 (by decide) (fun _ => rfl) fun x2 => ?_
        refine hp_iconst (v := 0) d_K_over_105 (by decide) ?_
        refine hp_istore (fun x3 => [(19, .int x3), (17, .long x2), (16, .int x1), (0, .ref a0), (1, .long a1), (4, .long a4), (6, .long a6), (10, .long a10), (12, .long a12), (14, .int a14), (15, .int a15)]) d_K_over_106 (by decide) (fun _ => rfl) fun x3 => ?_
        refine hp_sub [3, 4, 5, 6, 7, 8, 9, 10, 2, 1, 0] rfl ?_
        exact j_K_over_108 _ ih hp_fu _ _ _ _ _ _ _ _ _ _ _ _
      · refine hp_aload_n (x0 := 0) d_K_over_93 rfl rfl ?_
        refine hp_iconst (v := 0) d_K_over_94 (by decide) ?_
        refine hp_putZ fl_K_9 (fun q => by cases q) d_K_over_95 fun h4 => ?_
        exact hp_vret d_K_over_98 rfl
def m_K_over (G : Nat → Nat) (a0 : Nat) (a1 : Int64) (a3 : Int32) (h : hp_H) : Option (Unit × hp_H) := (hp_pZ h a0 6 1 (0 : Int32)).bind fun h1 => if (lg_cmp a1 (0 : Int64)) = 0 then ((hp_pZ h1 a0 6 0 (0 : Int32)).bind fun h19 => some ((), h19)) else ((m_MA_abs G a1 h1).bind fun q2 => hp_nm q2.1 fun x3 => (hp_gL q2.2 a0 6 2).bind fun x4 => (m_MA_abs G x4 q2.2).bind fun q5 => (hp_mL q5.1 x3).bind fun x6 => hp_nm x6 fun x7 => (hp_gL q5.2 a0 6 2).bind fun x8 => (m_MA_abs G x8 q5.2).bind fun q9 => (hp_dL q9.1 x3).bind fun x10 => hp_nm x10 fun x11 => (hp_dL x11 (1000000000 : Int64)).bind fun x12 => hp_nm x12 fun x13 => (hp_mL x11 (1000000000 : Int64)).bind fun x14 => hp_nm x14 fun x15 => (hp_gI q9.2 a0 6 3).bind fun x16 => hp_nm (((9 : Int32) + a3) - x16) fun x17 => hp_nm (0 : Int32) fun x18 => m_K_over_77 G hp_fu a0 a1 x3 x7 x13 x15 x17 x18 q9.2)
set_option maxRecDepth 100000 in
set_option maxHeartbeats 4000000 in
theorem j_K_over_0 {Z : hp_Z} (a0 : Nat) (a1 : Int64) (a3 : Int32) (h : hp_H) : hp_J Y_K_over Z hp_rV h 0 [(0, .ref a0), (1, .long a1), (3, .int a3)] [] (m_K_over (hp_G Z)  a0 a1 a3 h) := by
  unfold m_K_over
  refine hp_aload_n (x0 := 0) d_K_over_0 rfl rfl ?_
  refine hp_iconst (v := 0) d_K_over_1 (by decide) ?_
  refine hp_putZ fl_K_15 (fun q => by cases q) d_K_over_2 fun h1 => ?_
  refine hp_lload_n (x0 := 1) d_K_over_5 rfl rfl ?_
  refine hp_lconst (v := 0) d_K_over_6 (by decide) ?_
  refine hp_lcmp d_K_over_7 ?_
  refine hp_if_ne (tgt := 17) d_K_over_8 (by decide) ?_ ?_
  · refine hp_aload_n (x0 := 0) d_K_over_11 rfl rfl ?_
    refine hp_iconst (v := 0) d_K_over_12 (by decide) ?_
    refine hp_putZ fl_K_9 (fun q => by cases q) d_K_over_13 fun h19 => ?_
    exact hp_vret d_K_over_16 rfl
  · refine hp_lload_n (x0 := 1) d_K_over_17 rfl rfl ?_
    refine hp_callL (hp_crS (t_MA_abs _ _ _) cw_K_46 w_622 (by decide) rfl rfl (Nat.le_of_ble_eq_true rfl) d_K_over_18) fun q2 => ?_
    refine hp_lstore (fun x3 => [(4, .long x3), (0, .ref a0), (1, .long a1), (3, .int a3)]) d_K_over_21 (by decide) (fun _ => rfl) fun x3 => ?_
    refine hp_aload_n (x0 := 1) d_K_over_23 rfl rfl ?_
    refine hp_getL fl_K_18 d_K_over_24 fun x4 => ?_
    refine hp_callL (hp_crS (t_MA_abs _ _ _) cw_K_46 w_622 (by decide) rfl rfl (Nat.le_of_ble_eq_true rfl) d_K_over_27) fun q5 => ?_
    refine hp_lload (x0 := 0) d_K_over_30 rfl ?_
    refine hp_lrem d_K_over_32 fun x6 => ?_
    refine hp_lstore (fun x7 => [(6, .long x7), (4, .long x3), (0, .ref a0), (1, .long a1), (3, .int a3)]) d_K_over_33 (by decide) (fun _ => rfl) fun x7 => ?_
    refine hp_aload_n (x0 := 2) d_K_over_35 rfl rfl ?_
    refine hp_getL fl_K_18 d_K_over_36 fun x8 => ?_
    refine hp_callL (hp_crS (t_MA_abs _ _ _) cw_K_46 w_622 (by decide) rfl rfl (Nat.le_of_ble_eq_true rfl) d_K_over_39) fun q9 => ?_
    refine hp_lload (x0 := 1) d_K_over_42 rfl ?_
    refine hp_ldiv d_K_over_44 fun x10 => ?_
    refine hp_lstore (fun x11 => [(8, .long x11), (6, .long x7), (4, .long x3), (0, .ref a0), (1, .long a1), (3, .int a3)]) d_K_over_45 (by decide) (fun _ => rfl) fun x11 => ?_
    refine hp_lload (x0 := 0) d_K_over_47 rfl ?_
    refine hp_ldc2 (v := 1000000000) d_K_over_49 w_610 ?_
    refine hp_ldiv d_K_over_52 fun x12 => ?_
    refine hp_lstore (fun x13 => [(10, .long x13), (8, .long x11), (6, .long x7), (4, .long x3), (0, .ref a0), (1, .long a1), (3, .int a3)]) d_K_over_53 (by decide) (fun _ => rfl) fun x13 => ?_
    refine hp_lload (x0 := 1) d_K_over_55 rfl ?_
    refine hp_ldc2 (v := 1000000000) d_K_over_57 w_610 ?_
    refine hp_lrem d_K_over_60 fun x14 => ?_
    refine hp_lstore (fun x15 => [(12, .long x15), (10, .long x13), (8, .long x11), (6, .long x7), (4, .long x3), (0, .ref a0), (1, .long a1), (3, .int a3)]) d_K_over_61 (by decide) (fun _ => rfl) fun x15 => ?_
    refine hp_bipush (v := 9) d_K_over_63 (by decide) ?_
    refine hp_iload_n (x0 := 7) d_K_over_65 rfl rfl ?_
    refine hp_iadd d_K_over_66 ?_
    refine hp_aload_n (x0 := 5) d_K_over_67 rfl rfl ?_
    refine hp_getI fl_K_22 d_K_over_68 fun x16 => ?_
    refine hp_isub d_K_over_71 ?_
    refine hp_istore (fun x17 => [(14, .int x17), (12, .long x15), (10, .long x13), (8, .long x11), (6, .long x7), (4, .long x3), (0, .ref a0), (1, .long a1), (3, .int a3)]) d_K_over_72 (by decide) (fun _ => rfl) fun x17 => ?_
    refine hp_iconst (v := 0) d_K_over_74 (by decide) ?_
    refine hp_istore (fun x18 => [(15, .int x18), (14, .int x17), (12, .long x15), (10, .long x13), (8, .long x11), (6, .long x7), (4, .long x3), (0, .ref a0), (1, .long a1), (3, .int a3)]) d_K_over_75 (by decide) (fun _ => rfl) fun x18 => ?_
    refine hp_sub [7, 8, 6, 5, 3, 2, 1, 0] rfl ?_
    exact j_K_over_77  hp_fu _ _ _ _ _ _ _ _ _
theorem t_K_over (l : Launch) (E : hp_E) (a0 : Nat) (a1 : Int64) (a3 : Int32) : hp_M l E y_K_over Y_K_over hp_rV [.ref a0, .long a1, .int a3] (m_K_over E.2.2.1 a0 a1 a3) := hp_M.of (by decide +kernel) ⟨rfl, rfl⟩ (Nat.le_of_ble_eq_true rfl) (fun Z h hE => by subst hE; exact j_K_over_0 _ _ _ h)
-- K_plus
theorem d_K_plus_0 : decode prog_4_method_3_code 0 = .ok (.aload_n 0, 1) := by decide +kernel
theorem d_K_plus_1 : decode prog_4_method_3_code 1 = .ok (.aload_n 0, 1) := by decide +kernel
theorem d_K_plus_2 : decode prog_4_method_3_code 2 = .ok (.getfield 15, 3) := by decide +kernel
theorem d_K_plus_5 : decode prog_4_method_3_code 5 = .ok (.ifCond .eq 11, 3) := by decide +kernel
theorem d_K_plus_8 : decode prog_4_method_3_code 8 = .ok (.iload_n 1, 1) := by decide +kernel
theorem d_K_plus_9 : decode prog_4_method_3_code 9 = .ok (.ifCond .eq 7, 3) := by decide +kernel
theorem d_K_plus_12 : decode prog_4_method_3_code 12 = .ok (.iconst 1, 1) := by decide +kernel
theorem d_K_plus_13 : decode prog_4_method_3_code 13 = .ok (.goto 4, 3) := by decide +kernel
theorem d_K_plus_16 : decode prog_4_method_3_code 16 = .ok (.iconst 0, 1) := by decide +kernel
theorem d_K_plus_17 : decode prog_4_method_3_code 17 = .ok (.putfield 15, 3) := by decide +kernel
theorem d_K_plus_20 : decode prog_4_method_3_code 20 = .ok (.aload_n 0, 1) := by decide +kernel
theorem d_K_plus_21 : decode prog_4_method_3_code 21 = .ok (.getfield 18, 3) := by decide +kernel
theorem d_K_plus_24 : decode prog_4_method_3_code 24 = .ok (.aload_n 0, 1) := by decide +kernel
theorem d_K_plus_25 : decode prog_4_method_3_code 25 = .ok (.getfield 22, 3) := by decide +kernel
theorem d_K_plus_28 : decode prog_4_method_3_code 28 = .ok (.invokestatic 26, 3) := by decide +kernel
theorem d_K_plus_31 : decode prog_4_method_3_code 31 = .ok (.invokestatic 30, 3) := by decide +kernel
theorem d_K_plus_34 : decode prog_4_method_3_code 34 = .ok (.lload_n 2, 1) := by decide +kernel
theorem d_K_plus_35 : decode prog_4_method_3_code 35 = .ok (.iload 4, 2) := by decide +kernel
theorem d_K_plus_37 : decode prog_4_method_3_code 37 = .ok (.invokestatic 26, 3) := by decide +kernel
theorem d_K_plus_40 : decode prog_4_method_3_code 40 = .ok (.invokestatic 30, 3) := by decide +kernel
theorem d_K_plus_43 : decode prog_4_method_3_code 43 = .ok (.ladd, 1) := by decide +kernel
theorem d_K_plus_44 : decode prog_4_method_3_code 44 = .ok (.lstore 5, 2) := by decide +kernel
theorem d_K_plus_46 : decode prog_4_method_3_code 46 = .ok (.aload_n 0, 1) := by decide +kernel
theorem d_K_plus_47 : decode prog_4_method_3_code 47 = .ok (.getfield 18, 3) := by decide +kernel
theorem d_K_plus_50 : decode prog_4_method_3_code 50 = .ok (.aload_n 0, 1) := by decide +kernel
theorem d_K_plus_51 : decode prog_4_method_3_code 51 = .ok (.getfield 22, 3) := by decide +kernel
theorem d_K_plus_54 : decode prog_4_method_3_code 54 = .ok (.invokestatic 36, 3) := by decide +kernel
theorem d_K_plus_57 : decode prog_4_method_3_code 57 = .ok (.lload_n 2, 1) := by decide +kernel
theorem d_K_plus_58 : decode prog_4_method_3_code 58 = .ok (.iload 4, 2) := by decide +kernel
theorem d_K_plus_60 : decode prog_4_method_3_code 60 = .ok (.invokestatic 36, 3) := by decide +kernel
theorem d_K_plus_63 : decode prog_4_method_3_code 63 = .ok (.ladd, 1) := by decide +kernel
theorem d_K_plus_64 : decode prog_4_method_3_code 64 = .ok (.lstore 7, 2) := by decide +kernel
theorem d_K_plus_66 : decode prog_4_method_3_code 66 = .ok (.lload 7, 2) := by decide +kernel
theorem d_K_plus_68 : decode prog_4_method_3_code 68 = .ok (.ldc2_w 40, 3) := by decide +kernel
theorem d_K_plus_71 : decode prog_4_method_3_code 71 = .ok (.lcmp, 1) := by decide +kernel
theorem d_K_plus_72 : decode prog_4_method_3_code 72 = .ok (.ifCond .lt 17, 3) := by decide +kernel
theorem d_K_plus_75 : decode prog_4_method_3_code 75 = .ok (.lload 7, 2) := by decide +kernel
theorem d_K_plus_77 : decode prog_4_method_3_code 77 = .ok (.ldc2_w 40, 3) := by decide +kernel
theorem d_K_plus_80 : decode prog_4_method_3_code 80 = .ok (.lsub, 1) := by decide +kernel
theorem d_K_plus_81 : decode prog_4_method_3_code 81 = .ok (.lstore 7, 2) := by decide +kernel
theorem d_K_plus_83 : decode prog_4_method_3_code 83 = .ok (.lload 5, 2) := by decide +kernel
theorem d_K_plus_85 : decode prog_4_method_3_code 85 = .ok (.lconst 1, 1) := by decide +kernel
theorem d_K_plus_86 : decode prog_4_method_3_code 86 = .ok (.ladd, 1) := by decide +kernel
theorem d_K_plus_87 : decode prog_4_method_3_code 87 = .ok (.lstore 5, 2) := by decide +kernel
theorem d_K_plus_89 : decode prog_4_method_3_code 89 = .ok (.lload 5, 2) := by decide +kernel
theorem d_K_plus_91 : decode prog_4_method_3_code 91 = .ok (.lconst 0, 1) := by decide +kernel
theorem d_K_plus_92 : decode prog_4_method_3_code 92 = .ok (.lcmp, 1) := by decide +kernel
theorem d_K_plus_93 : decode prog_4_method_3_code 93 = .ok (.ifCond .lt 15, 3) := by decide +kernel
theorem d_K_plus_96 : decode prog_4_method_3_code 96 = .ok (.aload_n 0, 1) := by decide +kernel
theorem d_K_plus_97 : decode prog_4_method_3_code 97 = .ok (.iconst 0, 1) := by decide +kernel
theorem d_K_plus_98 : decode prog_4_method_3_code 98 = .ok (.lload 5, 2) := by decide +kernel
theorem d_K_plus_100 : decode prog_4_method_3_code 100 = .ok (.lload 7, 2) := by decide +kernel
theorem d_K_plus_102 : decode prog_4_method_3_code 102 = .ok (.invokevirtual 42, 3) := by decide +kernel
theorem d_K_plus_105 : decode prog_4_method_3_code 105 = .ok (.goto 38, 3) := by decide +kernel
theorem d_K_plus_108 : decode prog_4_method_3_code 108 = .ok (.lload 7, 2) := by decide +kernel
theorem d_K_plus_110 : decode prog_4_method_3_code 110 = .ok (.lconst 0, 1) := by decide +kernel
theorem d_K_plus_111 : decode prog_4_method_3_code 111 = .ok (.lcmp, 1) := by decide +kernel
theorem d_K_plus_112 : decode prog_4_method_3_code 112 = .ok (.ifCond .ne 15, 3) := by decide +kernel
theorem d_K_plus_115 : decode prog_4_method_3_code 115 = .ok (.aload_n 0, 1) := by decide +kernel
theorem d_K_plus_116 : decode prog_4_method_3_code 116 = .ok (.iconst 1, 1) := by decide +kernel
theorem d_K_plus_117 : decode prog_4_method_3_code 117 = .ok (.lload 5, 2) := by decide +kernel
theorem d_K_plus_119 : decode prog_4_method_3_code 119 = .ok (.lneg, 1) := by decide +kernel
theorem d_K_plus_120 : decode prog_4_method_3_code 120 = .ok (.lconst 0, 1) := by decide +kernel
theorem d_K_plus_121 : decode prog_4_method_3_code 121 = .ok (.invokevirtual 42, 3) := by decide +kernel
theorem d_K_plus_124 : decode prog_4_method_3_code 124 = .ok (.goto 19, 3) := by decide +kernel
theorem d_K_plus_127 : decode prog_4_method_3_code 127 = .ok (.aload_n 0, 1) := by decide +kernel
theorem d_K_plus_128 : decode prog_4_method_3_code 128 = .ok (.iconst 1, 1) := by decide +kernel
theorem d_K_plus_129 : decode prog_4_method_3_code 129 = .ok (.lload 5, 2) := by decide +kernel
theorem d_K_plus_131 : decode prog_4_method_3_code 131 = .ok (.lconst 1, 1) := by decide +kernel
theorem d_K_plus_132 : decode prog_4_method_3_code 132 = .ok (.ladd, 1) := by decide +kernel
theorem d_K_plus_133 : decode prog_4_method_3_code 133 = .ok (.lneg, 1) := by decide +kernel
theorem d_K_plus_134 : decode prog_4_method_3_code 134 = .ok (.ldc2_w 40, 3) := by decide +kernel
theorem d_K_plus_137 : decode prog_4_method_3_code 137 = .ok (.lload 7, 2) := by decide +kernel
theorem d_K_plus_139 : decode prog_4_method_3_code 139 = .ok (.lsub, 1) := by decide +kernel
theorem d_K_plus_140 : decode prog_4_method_3_code 140 = .ok (.invokevirtual 42, 3) := by decide +kernel
theorem d_K_plus_143 : decode prog_4_method_3_code 143 = .ok (.return_, 1) := by decide +kernel
def m_K_plus_143 (G : Nat → Nat) (h : hp_H) : Option (Unit × hp_H) := some ((), h)
set_option maxRecDepth 100000 in
set_option maxHeartbeats 4000000 in
theorem j_K_plus_143 {Z : hp_Z} (h : hp_H) : hp_J Y_K_plus Z hp_rV h 143 [] [] (m_K_plus_143 (hp_G Z)   h) := by
  unfold m_K_plus_143
  exact hp_vret d_K_plus_143 rfl
def m_K_plus_89 (G : Nat → Nat) (a0 : Nat) (a5 : Int64) (a7 : Int64) (h : hp_H) : Option (Unit × hp_H) := if (lg_cmp a5 (0 : Int64)) < 0 then (if (lg_cmp a7 (0 : Int64)) = 0 then ((hp_vck h a0 6 (m_K_settle G a0 (1 : Int32) (-a5) (0 : Int64) h)).bind fun q2 => m_K_plus_143 G q2.2) else ((hp_vck h a0 6 (m_K_settle G a0 (1 : Int32) (-(a5 + (1 : Int64))) ((1000000000 : Int64) - a7) h)).bind fun q1 => m_K_plus_143 G q1.2)) else ((hp_vck h a0 6 (m_K_settle G a0 (0 : Int32) a5 a7 h)).bind fun q3 => m_K_plus_143 G q3.2)
set_option maxRecDepth 100000 in
set_option maxHeartbeats 4000000 in
theorem j_K_plus_89 {Z : hp_Z} (a0 : Nat) (a5 : Int64) (a7 : Int64) (h : hp_H) : hp_J Y_K_plus Z hp_rV h 89 [(0, .ref a0), (5, .long a5), (7, .long a7)] [] (m_K_plus_89 (hp_G Z)  a0 a5 a7 h) := by
  unfold m_K_plus_89
  refine hp_lload (x0 := 1) d_K_plus_89 rfl ?_
  refine hp_lconst (v := 0) d_K_plus_91 (by decide) ?_
  refine hp_lcmp d_K_plus_92 ?_
  refine hp_if_lt (tgt := 108) d_K_plus_93 (by decide) ?_ ?_
  · refine hp_lload (x0 := 2) d_K_plus_108 rfl ?_
    refine hp_lconst (v := 0) d_K_plus_110 (by decide) ?_
    refine hp_lcmp d_K_plus_111 ?_
    refine hp_if_ne (tgt := 127) d_K_plus_112 (by decide) ?_ ?_
    · refine hp_aload_n (x0 := 0) d_K_plus_115 rfl rfl ?_
      refine hp_iconst (v := 1) d_K_plus_116 (by decide) ?_
      refine hp_lload (x0 := 1) d_K_plus_117 rfl ?_
      refine hp_lneg d_K_plus_119 ?_
      refine hp_lconst (v := 0) d_K_plus_120 (by decide) ?_
      refine hp_callU (hp_crV (ci := 6) (t_K_settle _ _ _ _ _ _) cw_K_42 rfl ⟨w_613, ws_20⟩ (by decide) rfl rfl (Nat.le_of_ble_eq_true rfl) d_K_plus_121) fun q2 => ?_
      refine hp_goto (tgt := 143) d_K_plus_124 (by decide) ?_
      refine hp_sub [] rfl ?_
      exact j_K_plus_143   _
    · refine hp_aload_n (x0 := 0) d_K_plus_127 rfl rfl ?_
      refine hp_iconst (v := 1) d_K_plus_128 (by decide) ?_
      refine hp_lload (x0 := 1) d_K_plus_129 rfl ?_
      refine hp_lconst (v := 1) d_K_plus_131 (by decide) ?_
      refine hp_ladd d_K_plus_132 ?_
      refine hp_lneg d_K_plus_133 ?_
      refine hp_ldc2 (v := 1000000000) d_K_plus_134 w_610 ?_
      refine hp_lload (x0 := 2) d_K_plus_137 rfl ?_
      refine hp_lsub d_K_plus_139 ?_
      refine hp_callU (hp_crV (ci := 6) (t_K_settle _ _ _ _ _ _) cw_K_42 rfl ⟨w_613, ws_20⟩ (by decide) rfl rfl (Nat.le_of_ble_eq_true rfl) d_K_plus_140) fun q1 => ?_
      refine hp_sub [] rfl ?_
      exact j_K_plus_143   _
  · refine hp_aload_n (x0 := 0) d_K_plus_96 rfl rfl ?_
    refine hp_iconst (v := 0) d_K_plus_97 (by decide) ?_
    refine hp_lload (x0 := 1) d_K_plus_98 rfl ?_
    refine hp_lload (x0 := 2) d_K_plus_100 rfl ?_
    refine hp_callU (hp_crV (ci := 6) (t_K_settle _ _ _ _ _ _) cw_K_42 rfl ⟨w_613, ws_20⟩ (by decide) rfl rfl (Nat.le_of_ble_eq_true rfl) d_K_plus_102) fun q3 => ?_
    refine hp_goto (tgt := 143) d_K_plus_105 (by decide) ?_
    refine hp_sub [] rfl ?_
    exact j_K_plus_143   _
def m_K_plus_17 (G : Nat → Nat) (a0 : Nat) (a2 : Int64) (a4 : Int32) (s0 : Int32) (s1 : Nat) (h : hp_H) : Option (Unit × hp_H) := (hp_pZ h s1 6 1 s0).bind fun h1 => (hp_gL h1 a0 6 2).bind fun x2 => (hp_gI h1 a0 6 3).bind fun x3 => (m_D_power G x3 h1).bind fun q4 => (m_MA_floorDiv G x2 q4.1 q4.2).bind fun q5 => (m_D_power G a4 q5.2).bind fun q6 => (m_MA_floorDiv G a2 q6.1 q6.2).bind fun q7 => hp_nm (q5.1 + q7.1) fun x8 => (hp_gL q7.2 a0 6 2).bind fun x9 => (hp_gI q7.2 a0 6 3).bind fun x10 => (m_D_billionths G x9 x10 q7.2).bind fun q11 => (m_D_billionths G a2 a4 q11.2).bind fun q12 => hp_nm (q11.1 + q12.1) fun x13 => if (lg_cmp x13 (1000000000 : Int64)) < 0 then (m_K_plus_89 G a0 x8 x13 q12.2) else (hp_nm (x13 - (1000000000 : Int64)) fun x14 => hp_nm (x8 + (1 : Int64)) fun x15 => m_K_plus_89 G a0 x15 x14 q12.2)
set_option maxRecDepth 100000 in
set_option maxHeartbeats 4000000 in
theorem j_K_plus_17 {Z : hp_Z} (a0 : Nat) (a2 : Int64) (a4 : Int32) (s0 : Int32) (s1 : Nat) (h : hp_H) : hp_J Y_K_plus Z hp_rV h 17 [(0, .ref a0), (2, .long a2), (4, .int a4)] [.int s0, .ref s1] (m_K_plus_17 (hp_G Z)  a0 a2 a4 s0 s1 h) := by
  unfold m_K_plus_17
  refine hp_putZ fl_K_15 (fun q => by cases q) d_K_plus_17 fun h1 => ?_
  refine hp_aload_n (x0 := 0) d_K_plus_20 rfl rfl ?_
  refine hp_getL fl_K_18 d_K_plus_21 fun x2 => ?_
  refine hp_aload_n (x0 := 0) d_K_plus_24 rfl rfl ?_
  refine hp_getI fl_K_22 d_K_plus_25 fun x3 => ?_
  refine hp_callL (hp_crSN (t_D_power _ _ _) cw_K_26 w_462 (by decide) rfl rfl (Nat.le_of_ble_eq_true rfl) d_K_plus_28) fun q4 => ?_
  refine hp_callL (hp_crS (t_MA_floorDiv _ _ _ _) cw_K_30 w_467 (by decide) rfl rfl (Nat.le_of_ble_eq_true rfl) d_K_plus_31) fun q5 => ?_
  refine hp_lload_n (x0 := 1) d_K_plus_34 rfl rfl ?_
  refine hp_iload (x0 := 2) d_K_plus_35 rfl ?_
  refine hp_callL (hp_crSN (t_D_power _ _ _) cw_K_26 w_462 (by decide) rfl rfl (Nat.le_of_ble_eq_true rfl) d_K_plus_37) fun q6 => ?_
  refine hp_callL (hp_crS (t_MA_floorDiv _ _ _ _) cw_K_30 w_467 (by decide) rfl rfl (Nat.le_of_ble_eq_true rfl) d_K_plus_40) fun q7 => ?_
  refine hp_ladd d_K_plus_43 ?_
  refine hp_lstore (fun x8 => [(5, .long x8), (0, .ref a0), (2, .long a2), (4, .int a4)]) d_K_plus_44 (by decide) (fun _ => rfl) fun x8 => ?_
  refine hp_aload_n (x0 := 1) d_K_plus_46 rfl rfl ?_
  refine hp_getL fl_K_18 d_K_plus_47 fun x9 => ?_
  refine hp_aload_n (x0 := 1) d_K_plus_50 rfl rfl ?_
  refine hp_getI fl_K_22 d_K_plus_51 fun x10 => ?_
  refine hp_callL (hp_crSN (t_D_billionths _ _ _ _) cw_K_36 w_473 (by decide) rfl rfl (Nat.le_of_ble_eq_true rfl) d_K_plus_54) fun q11 => ?_
  refine hp_lload_n (x0 := 2) d_K_plus_57 rfl rfl ?_
  refine hp_iload (x0 := 3) d_K_plus_58 rfl ?_
  refine hp_callL (hp_crSN (t_D_billionths _ _ _ _) cw_K_36 w_473 (by decide) rfl rfl (Nat.le_of_ble_eq_true rfl) d_K_plus_60) fun q12 => ?_
  refine hp_ladd d_K_plus_63 ?_
  refine hp_lstore (fun x13 => [(7, .long x13), (5, .long x8), (0, .ref a0), (2, .long a2), (4, .int a4)]) d_K_plus_64 (by decide) (fun _ => rfl) fun x13 => ?_
  refine hp_lload (x0 := 0) d_K_plus_66 rfl ?_
  refine hp_ldc2 (v := 1000000000) d_K_plus_68 w_610 ?_
  refine hp_lcmp d_K_plus_71 ?_
  refine hp_if_lt (tgt := 89) d_K_plus_72 (by decide) ?_ ?_
  · refine hp_sub [2, 1, 0] rfl ?_
    exact j_K_plus_89  _ _ _ _
  · refine hp_lload (x0 := 0) d_K_plus_75 rfl ?_
    refine hp_ldc2 (v := 1000000000) d_K_plus_77 w_610 ?_
    refine hp_lsub d_K_plus_80 ?_
    refine hp_lstore (fun x14 => [(7, .long x14), (5, .long x8), (0, .ref a0), (2, .long a2), (4, .int a4)]) d_K_plus_81 (by decide) (fun _ => rfl) fun x14 => ?_
    refine hp_lload (x0 := 1) d_K_plus_83 rfl ?_
    refine hp_lconst (v := 1) d_K_plus_85 (by decide) ?_
    refine hp_ladd d_K_plus_86 ?_
    refine hp_lstore (fun x15 => [(5, .long x15), (7, .long x14), (0, .ref a0), (2, .long a2), (4, .int a4)]) d_K_plus_87 (by decide) (fun _ => rfl) fun x15 => ?_
    refine hp_sub [2, 0, 1] rfl ?_
    exact j_K_plus_89  _ _ _ _
def m_K_plus_16 (G : Nat → Nat) (a0 : Nat) (a2 : Int64) (a4 : Int32) (s0 : Nat) (h : hp_H) : Option (Unit × hp_H) := m_K_plus_17 G a0 a2 a4 (0 : Int32) s0 h
set_option maxRecDepth 100000 in
set_option maxHeartbeats 4000000 in
theorem j_K_plus_16 {Z : hp_Z} (a0 : Nat) (a2 : Int64) (a4 : Int32) (s0 : Nat) (h : hp_H) : hp_J Y_K_plus Z hp_rV h 16 [(0, .ref a0), (2, .long a2), (4, .int a4)] [.ref s0] (m_K_plus_16 (hp_G Z)  a0 a2 a4 s0 h) := by
  unfold m_K_plus_16
  refine hp_iconst (v := 0) d_K_plus_16 (by decide) ?_
  exact j_K_plus_17  _ _ _ _ _ _
def m_K_plus (G : Nat → Nat) (a0 : Nat) (a1 : Int32) (a2 : Int64) (a4 : Int32) (h : hp_H) : Option (Unit × hp_H) := (hp_gI h a0 6 1).bind fun x1 => if x1 = 0 then (m_K_plus_16 G a0 a2 a4 a0 h) else (if a1 = 0 then (m_K_plus_16 G a0 a2 a4 a0 h) else (m_K_plus_17 G a0 a2 a4 (1 : Int32) a0 h))
set_option maxRecDepth 100000 in
set_option maxHeartbeats 4000000 in
theorem j_K_plus_0 {Z : hp_Z} (a0 : Nat) (a1 : Int32) (a2 : Int64) (a4 : Int32) (h : hp_H) : hp_J Y_K_plus Z hp_rV h 0 [(0, .ref a0), (1, .int a1), (2, .long a2), (4, .int a4)] [] (m_K_plus (hp_G Z)  a0 a1 a2 a4 h) := by
  unfold m_K_plus
  refine hp_aload_n (x0 := 0) d_K_plus_0 rfl rfl ?_
  refine hp_aload_n (x0 := 0) d_K_plus_1 rfl rfl ?_
  refine hp_getI fl_K_15 d_K_plus_2 fun x1 => ?_
  refine hp_if_eq (tgt := 16) d_K_plus_5 (by decide) ?_ ?_
  · refine hp_sub [0, 2, 3] rfl ?_
    exact j_K_plus_16  _ _ _ _ _
  · refine hp_iload_n (x0 := 1) d_K_plus_8 rfl rfl ?_
    refine hp_if_eq (tgt := 16) d_K_plus_9 (by decide) ?_ ?_
    · refine hp_sub [0, 2, 3] rfl ?_
      exact j_K_plus_16  _ _ _ _ _
    · refine hp_iconst (v := 1) d_K_plus_12 (by decide) ?_
      refine hp_goto (tgt := 17) d_K_plus_13 (by decide) ?_
      refine hp_sub [0, 2, 3] rfl ?_
      exact j_K_plus_17  _ _ _ _ _ _
theorem t_K_plus (l : Launch) (E : hp_E) (a0 : Nat) (a1 : Int32) (a2 : Int64) (a4 : Int32) : hp_M l E y_K_plus Y_K_plus hp_rV [.ref a0, .int a1, .long a2, .int a4] (m_K_plus E.2.2.1 a0 a1 a2 a4) := hp_M.of (by decide +kernel) ⟨rfl, rfl⟩ (Nat.le_of_ble_eq_true rfl) (fun Z h hE => by subst hE; exact j_K_plus_0 _ _ _ _ h)
-- K_start
theorem d_K_start_0 : decode prog_4_method_2_code 0 = .ok (.aload_n 0, 1) := by decide +kernel
theorem d_K_start_1 : decode prog_4_method_2_code 1 = .ok (.iconst 1, 1) := by decide +kernel
theorem d_K_start_2 : decode prog_4_method_2_code 2 = .ok (.putfield 9, 3) := by decide +kernel
theorem d_K_start_5 : decode prog_4_method_2_code 5 = .ok (.aload_n 0, 1) := by decide +kernel
theorem d_K_start_6 : decode prog_4_method_2_code 6 = .ok (.iload_n 1, 1) := by decide +kernel
theorem d_K_start_7 : decode prog_4_method_2_code 7 = .ok (.putfield 15, 3) := by decide +kernel
theorem d_K_start_10 : decode prog_4_method_2_code 10 = .ok (.aload_n 0, 1) := by decide +kernel
theorem d_K_start_11 : decode prog_4_method_2_code 11 = .ok (.lload_n 2, 1) := by decide +kernel
theorem d_K_start_12 : decode prog_4_method_2_code 12 = .ok (.putfield 18, 3) := by decide +kernel
theorem d_K_start_15 : decode prog_4_method_2_code 15 = .ok (.aload_n 0, 1) := by decide +kernel
theorem d_K_start_16 : decode prog_4_method_2_code 16 = .ok (.iload 4, 2) := by decide +kernel
theorem d_K_start_18 : decode prog_4_method_2_code 18 = .ok (.putfield 22, 3) := by decide +kernel
theorem d_K_start_21 : decode prog_4_method_2_code 21 = .ok (.return_, 1) := by decide +kernel
def m_K_start (G : Nat → Nat) (a0 : Nat) (a1 : Int32) (a2 : Int64) (a4 : Int32) (h : hp_H) : Option (Unit × hp_H) := (hp_pZ h a0 6 0 (1 : Int32)).bind fun h1 => (hp_pZ h1 a0 6 1 a1).bind fun h2 => (hp_p h2 a0 6 2 (.long a2)).bind fun h3 => (hp_p h3 a0 6 3 (.int a4)).bind fun h4 => some ((), h4)
set_option maxRecDepth 100000 in
set_option maxHeartbeats 4000000 in
theorem j_K_start_0 {Z : hp_Z} (a0 : Nat) (a1 : Int32) (a2 : Int64) (a4 : Int32) (h : hp_H) : hp_J Y_K_start Z hp_rV h 0 [(0, .ref a0), (1, .int a1), (2, .long a2), (4, .int a4)] [] (m_K_start (hp_G Z)  a0 a1 a2 a4 h) := by
  unfold m_K_start
  refine hp_aload_n (x0 := 0) d_K_start_0 rfl rfl ?_
  refine hp_iconst (v := 1) d_K_start_1 (by decide) ?_
  refine hp_putZ fl_K_9 (fun q => by cases q) d_K_start_2 fun h1 => ?_
  refine hp_aload_n (x0 := 0) d_K_start_5 rfl rfl ?_
  refine hp_iload_n (x0 := 1) d_K_start_6 rfl rfl ?_
  refine hp_putZ fl_K_15 (fun q => by cases q) d_K_start_7 fun h2 => ?_
  refine hp_aload_n (x0 := 0) d_K_start_10 rfl rfl ?_
  refine hp_lload_n (x0 := 2) d_K_start_11 rfl rfl ?_
  refine hp_put fl_K_18 (fun q => by cases q) rfl rfl d_K_start_12 fun h3 => ?_
  refine hp_aload_n (x0 := 0) d_K_start_15 rfl rfl ?_
  refine hp_iload (x0 := 3) d_K_start_16 rfl ?_
  refine hp_put fl_K_22 (fun q => by cases q) rfl rfl d_K_start_18 fun h4 => ?_
  exact hp_vret d_K_start_21 rfl
theorem t_K_start (l : Launch) (E : hp_E) (a0 : Nat) (a1 : Int32) (a2 : Int64) (a4 : Int32) : hp_M l E y_K_start Y_K_start hp_rV [.ref a0, .int a1, .long a2, .int a4] (m_K_start E.2.2.1 a0 a1 a2 a4) := hp_M.of (by decide +kernel) ⟨rfl, rfl⟩ (Nat.le_of_ble_eq_true rfl) (fun Z h hE => by subst hE; exact j_K_start_0 _ _ _ _ h)
-- K_times
theorem d_K_times_0 : decode prog_4_method_4_code 0 = .ok (.aload_n 0, 1) := by decide +kernel
theorem d_K_times_1 : decode prog_4_method_4_code 1 = .ok (.aload_n 0, 1) := by decide +kernel
theorem d_K_times_2 : decode prog_4_method_4_code 2 = .ok (.getfield 15, 3) := by decide +kernel
theorem d_K_times_5 : decode prog_4_method_4_code 5 = .ok (.ifCond .eq 11, 3) := by decide +kernel
theorem d_K_times_8 : decode prog_4_method_4_code 8 = .ok (.iload_n 1, 1) := by decide +kernel
theorem d_K_times_9 : decode prog_4_method_4_code 9 = .ok (.ifCond .eq 7, 3) := by decide +kernel
theorem d_K_times_12 : decode prog_4_method_4_code 12 = .ok (.iconst 1, 1) := by decide +kernel
theorem d_K_times_13 : decode prog_4_method_4_code 13 = .ok (.goto 4, 3) := by decide +kernel
theorem d_K_times_16 : decode prog_4_method_4_code 16 = .ok (.iconst 0, 1) := by decide +kernel
theorem d_K_times_17 : decode prog_4_method_4_code 17 = .ok (.putfield 15, 3) := by decide +kernel
theorem d_K_times_20 : decode prog_4_method_4_code 20 = .ok (.aload_n 0, 1) := by decide +kernel
theorem d_K_times_21 : decode prog_4_method_4_code 21 = .ok (.getfield 18, 3) := by decide +kernel
theorem d_K_times_24 : decode prog_4_method_4_code 24 = .ok (.invokestatic 46, 3) := by decide +kernel
theorem d_K_times_27 : decode prog_4_method_4_code 27 = .ok (.lstore 5, 2) := by decide +kernel
theorem d_K_times_29 : decode prog_4_method_4_code 29 = .ok (.lload 5, 2) := by decide +kernel
theorem d_K_times_31 : decode prog_4_method_4_code 31 = .ok (.aload_n 0, 1) := by decide +kernel
theorem d_K_times_32 : decode prog_4_method_4_code 32 = .ok (.getfield 22, 3) := by decide +kernel
theorem d_K_times_35 : decode prog_4_method_4_code 35 = .ok (.invokestatic 26, 3) := by decide +kernel
theorem d_K_times_38 : decode prog_4_method_4_code 38 = .ok (.ldiv, 1) := by decide +kernel
theorem d_K_times_39 : decode prog_4_method_4_code 39 = .ok (.lstore 7, 2) := by decide +kernel
theorem d_K_times_41 : decode prog_4_method_4_code 41 = .ok (.lload 5, 2) := by decide +kernel
theorem d_K_times_43 : decode prog_4_method_4_code 43 = .ok (.aload_n 0, 1) := by decide +kernel
theorem d_K_times_44 : decode prog_4_method_4_code 44 = .ok (.getfield 22, 3) := by decide +kernel
theorem d_K_times_47 : decode prog_4_method_4_code 47 = .ok (.invokestatic 36, 3) := by decide +kernel
theorem d_K_times_50 : decode prog_4_method_4_code 50 = .ok (.lstore 9, 2) := by decide +kernel
theorem d_K_times_52 : decode prog_4_method_4_code 52 = .ok (.lload_n 2, 1) := by decide +kernel
theorem d_K_times_53 : decode prog_4_method_4_code 53 = .ok (.invokestatic 46, 3) := by decide +kernel
theorem d_K_times_56 : decode prog_4_method_4_code 56 = .ok (.lstore 11, 2) := by decide +kernel
theorem d_K_times_58 : decode prog_4_method_4_code 58 = .ok (.lload 11, 2) := by decide +kernel
theorem d_K_times_60 : decode prog_4_method_4_code 60 = .ok (.iload 4, 2) := by decide +kernel
theorem d_K_times_62 : decode prog_4_method_4_code 62 = .ok (.invokestatic 26, 3) := by decide +kernel
theorem d_K_times_65 : decode prog_4_method_4_code 65 = .ok (.ldiv, 1) := by decide +kernel
theorem d_K_times_66 : decode prog_4_method_4_code 66 = .ok (.lstore 13, 2) := by decide +kernel
theorem d_K_times_68 : decode prog_4_method_4_code 68 = .ok (.lload 11, 2) := by decide +kernel
theorem d_K_times_70 : decode prog_4_method_4_code 70 = .ok (.iload 4, 2) := by decide +kernel
theorem d_K_times_72 : decode prog_4_method_4_code 72 = .ok (.invokestatic 36, 3) := by decide +kernel
theorem d_K_times_75 : decode prog_4_method_4_code 75 = .ok (.lstore 15, 2) := by decide +kernel
theorem d_K_times_77 : decode prog_4_method_4_code 77 = .ok (.lload 7, 2) := by decide +kernel
theorem d_K_times_79 : decode prog_4_method_4_code 79 = .ok (.ldc2_w 40, 3) := by decide +kernel
theorem d_K_times_82 : decode prog_4_method_4_code 82 = .ok (.lrem, 1) := by decide +kernel
theorem d_K_times_83 : decode prog_4_method_4_code 83 = .ok (.lstore 17, 2) := by decide +kernel
theorem d_K_times_85 : decode prog_4_method_4_code 85 = .ok (.lload 13, 2) := by decide +kernel
theorem d_K_times_87 : decode prog_4_method_4_code 87 = .ok (.ldc2_w 40, 3) := by decide +kernel
theorem d_K_times_90 : decode prog_4_method_4_code 90 = .ok (.lrem, 1) := by decide +kernel
theorem d_K_times_91 : decode prog_4_method_4_code 91 = .ok (.lstore 19, 2) := by decide +kernel
theorem d_K_times_93 : decode prog_4_method_4_code 93 = .ok (.lload 7, 2) := by decide +kernel
theorem d_K_times_95 : decode prog_4_method_4_code 95 = .ok (.ldc2_w 40, 3) := by decide +kernel
theorem d_K_times_98 : decode prog_4_method_4_code 98 = .ok (.ldiv, 1) := by decide +kernel
theorem d_K_times_99 : decode prog_4_method_4_code 99 = .ok (.lstore 21, 2) := by decide +kernel
theorem d_K_times_101 : decode prog_4_method_4_code 101 = .ok (.lload 13, 2) := by decide +kernel
theorem d_K_times_103 : decode prog_4_method_4_code 103 = .ok (.ldc2_w 40, 3) := by decide +kernel
theorem d_K_times_106 : decode prog_4_method_4_code 106 = .ok (.ldiv, 1) := by decide +kernel
theorem d_K_times_107 : decode prog_4_method_4_code 107 = .ok (.lstore 23, 2) := by decide +kernel
theorem d_K_times_109 : decode prog_4_method_4_code 109 = .ok (.lload 9, 2) := by decide +kernel
theorem d_K_times_111 : decode prog_4_method_4_code 111 = .ok (.lload 15, 2) := by decide +kernel
theorem d_K_times_113 : decode prog_4_method_4_code 113 = .ok (.lmul, 1) := by decide +kernel
theorem d_K_times_114 : decode prog_4_method_4_code 114 = .ok (.ldc2_w 50, 3) := by decide +kernel
theorem d_K_times_117 : decode prog_4_method_4_code 117 = .ok (.ladd, 1) := by decide +kernel
theorem d_K_times_118 : decode prog_4_method_4_code 118 = .ok (.lstore 25, 2) := by decide +kernel
theorem d_K_times_120 : decode prog_4_method_4_code 120 = .ok (.lload 25, 2) := by decide +kernel
theorem d_K_times_122 : decode prog_4_method_4_code 122 = .ok (.ldc2_w 40, 3) := by decide +kernel
theorem d_K_times_125 : decode prog_4_method_4_code 125 = .ok (.ldiv, 1) := by decide +kernel
theorem d_K_times_126 : decode prog_4_method_4_code 126 = .ok (.lload 9, 2) := by decide +kernel
theorem d_K_times_128 : decode prog_4_method_4_code 128 = .ok (.lload 19, 2) := by decide +kernel
theorem d_K_times_130 : decode prog_4_method_4_code 130 = .ok (.lmul, 1) := by decide +kernel
theorem d_K_times_131 : decode prog_4_method_4_code 131 = .ok (.ladd, 1) := by decide +kernel
theorem d_K_times_132 : decode prog_4_method_4_code 132 = .ok (.lload 17, 2) := by decide +kernel
theorem d_K_times_134 : decode prog_4_method_4_code 134 = .ok (.lload 15, 2) := by decide +kernel
theorem d_K_times_136 : decode prog_4_method_4_code 136 = .ok (.lmul, 1) := by decide +kernel
theorem d_K_times_137 : decode prog_4_method_4_code 137 = .ok (.ladd, 1) := by decide +kernel
theorem d_K_times_138 : decode prog_4_method_4_code 138 = .ok (.lstore 25, 2) := by decide +kernel
theorem d_K_times_140 : decode prog_4_method_4_code 140 = .ok (.lload 25, 2) := by decide +kernel
theorem d_K_times_142 : decode prog_4_method_4_code 142 = .ok (.ldc2_w 40, 3) := by decide +kernel
theorem d_K_times_145 : decode prog_4_method_4_code 145 = .ok (.lrem, 1) := by decide +kernel
theorem d_K_times_146 : decode prog_4_method_4_code 146 = .ok (.lstore 27, 2) := by decide +kernel
theorem d_K_times_148 : decode prog_4_method_4_code 148 = .ok (.lload 25, 2) := by decide +kernel
theorem d_K_times_150 : decode prog_4_method_4_code 150 = .ok (.ldc2_w 40, 3) := by decide +kernel
theorem d_K_times_153 : decode prog_4_method_4_code 153 = .ok (.ldiv, 1) := by decide +kernel
theorem d_K_times_154 : decode prog_4_method_4_code 154 = .ok (.lload 9, 2) := by decide +kernel
theorem d_K_times_156 : decode prog_4_method_4_code 156 = .ok (.lload 23, 2) := by decide +kernel
theorem d_K_times_158 : decode prog_4_method_4_code 158 = .ok (.lmul, 1) := by decide +kernel
theorem d_K_times_159 : decode prog_4_method_4_code 159 = .ok (.ladd, 1) := by decide +kernel
theorem d_K_times_160 : decode prog_4_method_4_code 160 = .ok (.lload 17, 2) := by decide +kernel
theorem d_K_times_162 : decode prog_4_method_4_code 162 = .ok (.lload 19, 2) := by decide +kernel
theorem d_K_times_164 : decode prog_4_method_4_code 164 = .ok (.lmul, 1) := by decide +kernel
theorem d_K_times_165 : decode prog_4_method_4_code 165 = .ok (.ladd, 1) := by decide +kernel
theorem d_K_times_166 : decode prog_4_method_4_code 166 = .ok (.lload 21, 2) := by decide +kernel
theorem d_K_times_168 : decode prog_4_method_4_code 168 = .ok (.lload 15, 2) := by decide +kernel
theorem d_K_times_170 : decode prog_4_method_4_code 170 = .ok (.lmul, 1) := by decide +kernel
theorem d_K_times_171 : decode prog_4_method_4_code 171 = .ok (.ladd, 1) := by decide +kernel
theorem d_K_times_172 : decode prog_4_method_4_code 172 = .ok (.lstore 25, 2) := by decide +kernel
theorem d_K_times_174 : decode prog_4_method_4_code 174 = .ok (.lload 25, 2) := by decide +kernel
theorem d_K_times_176 : decode prog_4_method_4_code 176 = .ok (.ldc2_w 40, 3) := by decide +kernel
theorem d_K_times_179 : decode prog_4_method_4_code 179 = .ok (.lrem, 1) := by decide +kernel
theorem d_K_times_180 : decode prog_4_method_4_code 180 = .ok (.lstore 29, 2) := by decide +kernel
theorem d_K_times_182 : decode prog_4_method_4_code 182 = .ok (.lload 25, 2) := by decide +kernel
theorem d_K_times_184 : decode prog_4_method_4_code 184 = .ok (.ldc2_w 40, 3) := by decide +kernel
theorem d_K_times_187 : decode prog_4_method_4_code 187 = .ok (.ldiv, 1) := by decide +kernel
theorem d_K_times_188 : decode prog_4_method_4_code 188 = .ok (.lload 17, 2) := by decide +kernel
theorem d_K_times_190 : decode prog_4_method_4_code 190 = .ok (.lload 23, 2) := by decide +kernel
theorem d_K_times_192 : decode prog_4_method_4_code 192 = .ok (.lmul, 1) := by decide +kernel
theorem d_K_times_193 : decode prog_4_method_4_code 193 = .ok (.ladd, 1) := by decide +kernel
theorem d_K_times_194 : decode prog_4_method_4_code 194 = .ok (.lload 21, 2) := by decide +kernel
theorem d_K_times_196 : decode prog_4_method_4_code 196 = .ok (.lload 19, 2) := by decide +kernel
theorem d_K_times_198 : decode prog_4_method_4_code 198 = .ok (.lmul, 1) := by decide +kernel
theorem d_K_times_199 : decode prog_4_method_4_code 199 = .ok (.ladd, 1) := by decide +kernel
theorem d_K_times_200 : decode prog_4_method_4_code 200 = .ok (.lstore 25, 2) := by decide +kernel
theorem d_K_times_202 : decode prog_4_method_4_code 202 = .ok (.lload 25, 2) := by decide +kernel
theorem d_K_times_204 : decode prog_4_method_4_code 204 = .ok (.ldc2_w 40, 3) := by decide +kernel
theorem d_K_times_207 : decode prog_4_method_4_code 207 = .ok (.lrem, 1) := by decide +kernel
theorem d_K_times_208 : decode prog_4_method_4_code 208 = .ok (.lstore 31, 2) := by decide +kernel
theorem d_K_times_210 : decode prog_4_method_4_code 210 = .ok (.aload_n 0, 1) := by decide +kernel
theorem d_K_times_211 : decode prog_4_method_4_code 211 = .ok (.aload_n 0, 1) := by decide +kernel
theorem d_K_times_212 : decode prog_4_method_4_code 212 = .ok (.getfield 9, 3) := by decide +kernel
theorem d_K_times_215 : decode prog_4_method_4_code 215 = .ok (.ifCond .eq 24, 3) := by decide +kernel
theorem d_K_times_218 : decode prog_4_method_4_code 218 = .ok (.lload 25, 2) := by decide +kernel
theorem d_K_times_220 : decode prog_4_method_4_code 220 = .ok (.ldc2_w 40, 3) := by decide +kernel
theorem d_K_times_223 : decode prog_4_method_4_code 223 = .ok (.ldiv, 1) := by decide +kernel
theorem d_K_times_224 : decode prog_4_method_4_code 224 = .ok (.lload 21, 2) := by decide +kernel
theorem d_K_times_226 : decode prog_4_method_4_code 226 = .ok (.lload 23, 2) := by decide +kernel
theorem d_K_times_228 : decode prog_4_method_4_code 228 = .ok (.lmul, 1) := by decide +kernel
theorem d_K_times_229 : decode prog_4_method_4_code 229 = .ok (.ladd, 1) := by decide +kernel
theorem d_K_times_230 : decode prog_4_method_4_code 230 = .ok (.lconst 0, 1) := by decide +kernel
theorem d_K_times_231 : decode prog_4_method_4_code 231 = .ok (.lcmp, 1) := by decide +kernel
theorem d_K_times_232 : decode prog_4_method_4_code 232 = .ok (.ifCond .ne 7, 3) := by decide +kernel
theorem d_K_times_235 : decode prog_4_method_4_code 235 = .ok (.iconst 1, 1) := by decide +kernel
theorem d_K_times_236 : decode prog_4_method_4_code 236 = .ok (.goto 4, 3) := by decide +kernel
theorem d_K_times_239 : decode prog_4_method_4_code 239 = .ok (.iconst 0, 1) := by decide +kernel
theorem d_K_times_240 : decode prog_4_method_4_code 240 = .ok (.putfield 9, 3) := by decide +kernel
theorem d_K_times_243 : decode prog_4_method_4_code 243 = .ok (.aload_n 0, 1) := by decide +kernel
theorem d_K_times_244 : decode prog_4_method_4_code 244 = .ok (.aload_n 0, 1) := by decide +kernel
theorem d_K_times_245 : decode prog_4_method_4_code 245 = .ok (.getfield 18, 3) := by decide +kernel
theorem d_K_times_248 : decode prog_4_method_4_code 248 = .ok (.lconst 0, 1) := by decide +kernel
theorem d_K_times_249 : decode prog_4_method_4_code 249 = .ok (.lcmp, 1) := by decide +kernel
theorem d_K_times_250 : decode prog_4_method_4_code 250 = .ok (.ifCond .ge 7, 3) := by decide +kernel
theorem d_K_times_253 : decode prog_4_method_4_code 253 = .ok (.iconst 1, 1) := by decide +kernel
theorem d_K_times_254 : decode prog_4_method_4_code 254 = .ok (.goto 4, 3) := by decide +kernel
theorem d_K_times_257 : decode prog_4_method_4_code 257 = .ok (.iconst 0, 1) := by decide +kernel
theorem d_K_times_258 : decode prog_4_method_4_code 258 = .ok (.lload_n 2, 1) := by decide +kernel
theorem d_K_times_259 : decode prog_4_method_4_code 259 = .ok (.lconst 0, 1) := by decide +kernel
theorem d_K_times_260 : decode prog_4_method_4_code 260 = .ok (.lcmp, 1) := by decide +kernel
theorem d_K_times_261 : decode prog_4_method_4_code 261 = .ok (.ifCond .ge 7, 3) := by decide +kernel
theorem d_K_times_264 : decode prog_4_method_4_code 264 = .ok (.iconst 1, 1) := by decide +kernel
theorem d_K_times_265 : decode prog_4_method_4_code 265 = .ok (.goto 4, 3) := by decide +kernel
theorem d_K_times_268 : decode prog_4_method_4_code 268 = .ok (.iconst 0, 1) := by decide +kernel
theorem d_K_times_269 : decode prog_4_method_4_code 269 = .ok (.if_icmp .eq 7, 3) := by decide +kernel
theorem d_K_times_272 : decode prog_4_method_4_code 272 = .ok (.iconst 1, 1) := by decide +kernel
theorem d_K_times_273 : decode prog_4_method_4_code 273 = .ok (.goto 4, 3) := by decide +kernel
theorem d_K_times_276 : decode prog_4_method_4_code 276 = .ok (.iconst 0, 1) := by decide +kernel
theorem d_K_times_277 : decode prog_4_method_4_code 277 = .ok (.lload 31, 2) := by decide +kernel
theorem d_K_times_279 : decode prog_4_method_4_code 279 = .ok (.ldc2_w 40, 3) := by decide +kernel
theorem d_K_times_282 : decode prog_4_method_4_code 282 = .ok (.lmul, 1) := by decide +kernel
theorem d_K_times_283 : decode prog_4_method_4_code 283 = .ok (.lload 29, 2) := by decide +kernel
theorem d_K_times_285 : decode prog_4_method_4_code 285 = .ok (.ladd, 1) := by decide +kernel
theorem d_K_times_286 : decode prog_4_method_4_code 286 = .ok (.lload 27, 2) := by decide +kernel
theorem d_K_times_288 : decode prog_4_method_4_code 288 = .ok (.invokevirtual 42, 3) := by decide +kernel
theorem d_K_times_291 : decode prog_4_method_4_code 291 = .ok (.return_, 1) := by decide +kernel
def m_K_times_277 (G : Nat → Nat) (a27 : Int64) (a29 : Int64) (a31 : Int64) (s0 : Int32) (s1 : Nat) (h : hp_H) : Option (Unit × hp_H) := (hp_vck h s1 6 (m_K_settle G s1 s0 ((a31 * (1000000000 : Int64)) + a29) a27 h)).bind fun q1 => some ((), q1.2)
set_option maxRecDepth 100000 in
set_option maxHeartbeats 4000000 in
theorem j_K_times_277 {Z : hp_Z} (a27 : Int64) (a29 : Int64) (a31 : Int64) (s0 : Int32) (s1 : Nat) (h : hp_H) : hp_J Y_K_times Z hp_rV h 277 [(27, .long a27), (29, .long a29), (31, .long a31)] [.int s0, .ref s1] (m_K_times_277 (hp_G Z)  a27 a29 a31 s0 s1 h) := by
  unfold m_K_times_277
  refine hp_lload (x0 := 2) d_K_times_277 rfl ?_
  refine hp_ldc2 (v := 1000000000) d_K_times_279 w_610 ?_
  refine hp_lmul d_K_times_282 ?_
  refine hp_lload (x0 := 1) d_K_times_283 rfl ?_
  refine hp_ladd d_K_times_285 ?_
  refine hp_lload (x0 := 0) d_K_times_286 rfl ?_
  refine hp_callU (hp_crV (ci := 6) (t_K_settle _ _ _ _ _ _) cw_K_42 rfl ⟨w_613, ws_20⟩ (by decide) rfl rfl (Nat.le_of_ble_eq_true rfl) d_K_times_288) fun q1 => ?_
  exact hp_vret d_K_times_291 rfl
def m_K_times_269 (G : Nat → Nat) (a27 : Int64) (a29 : Int64) (a31 : Int64) (s0 : Int32) (s1 : Int32) (s2 : Nat) (h : hp_H) : Option (Unit × hp_H) := if s1 = s0 then (m_K_times_277 G a27 a29 a31 (0 : Int32) s2 h) else (m_K_times_277 G a27 a29 a31 (1 : Int32) s2 h)
set_option maxRecDepth 100000 in
set_option maxHeartbeats 4000000 in
theorem j_K_times_269 {Z : hp_Z} (a27 : Int64) (a29 : Int64) (a31 : Int64) (s0 : Int32) (s1 : Int32) (s2 : Nat) (h : hp_H) : hp_J Y_K_times Z hp_rV h 269 [(27, .long a27), (29, .long a29), (31, .long a31)] [.int s0, .int s1, .ref s2] (m_K_times_269 (hp_G Z)  a27 a29 a31 s0 s1 s2 h) := by
  unfold m_K_times_269
  refine hp_icmp_eq (tgt := 276) d_K_times_269 (by decide) ?_ ?_
  · refine hp_iconst (v := 0) d_K_times_276 (by decide) ?_
    exact j_K_times_277  _ _ _ _ _ _
  · refine hp_iconst (v := 1) d_K_times_272 (by decide) ?_
    refine hp_goto (tgt := 277) d_K_times_273 (by decide) ?_
    exact j_K_times_277  _ _ _ _ _ _
def m_K_times_258 (G : Nat → Nat) (a2 : Int64) (a27 : Int64) (a29 : Int64) (a31 : Int64) (s0 : Int32) (s1 : Nat) (h : hp_H) : Option (Unit × hp_H) := if 0 ≤ (lg_cmp a2 (0 : Int64)) then (m_K_times_269 G a27 a29 a31 (0 : Int32) s0 s1 h) else (m_K_times_269 G a27 a29 a31 (1 : Int32) s0 s1 h)
set_option maxRecDepth 100000 in
set_option maxHeartbeats 4000000 in
theorem j_K_times_258 {Z : hp_Z} (a2 : Int64) (a27 : Int64) (a29 : Int64) (a31 : Int64) (s0 : Int32) (s1 : Nat) (h : hp_H) : hp_J Y_K_times Z hp_rV h 258 [(2, .long a2), (27, .long a27), (29, .long a29), (31, .long a31)] [.int s0, .ref s1] (m_K_times_258 (hp_G Z)  a2 a27 a29 a31 s0 s1 h) := by
  unfold m_K_times_258
  refine hp_lload_n (x0 := 0) d_K_times_258 rfl rfl ?_
  refine hp_lconst (v := 0) d_K_times_259 (by decide) ?_
  refine hp_lcmp d_K_times_260 ?_
  refine hp_if_ge (tgt := 268) d_K_times_261 (by decide) ?_ ?_
  · refine hp_iconst (v := 0) d_K_times_268 (by decide) ?_
    refine hp_sub [1, 2, 3] rfl ?_
    exact j_K_times_269  _ _ _ _ _ _ _
  · refine hp_iconst (v := 1) d_K_times_264 (by decide) ?_
    refine hp_goto (tgt := 269) d_K_times_265 (by decide) ?_
    refine hp_sub [1, 2, 3] rfl ?_
    exact j_K_times_269  _ _ _ _ _ _ _
def m_K_times_240 (G : Nat → Nat) (a0 : Nat) (a2 : Int64) (a27 : Int64) (a29 : Int64) (a31 : Int64) (s0 : Int32) (s1 : Nat) (h : hp_H) : Option (Unit × hp_H) := (hp_pZ h s1 6 0 s0).bind fun h1 => (hp_gL h1 a0 6 2).bind fun x2 => if 0 ≤ (lg_cmp x2 (0 : Int64)) then (m_K_times_258 G a2 a27 a29 a31 (0 : Int32) a0 h1) else (m_K_times_258 G a2 a27 a29 a31 (1 : Int32) a0 h1)
set_option maxRecDepth 100000 in
set_option maxHeartbeats 4000000 in
theorem j_K_times_240 {Z : hp_Z} (a0 : Nat) (a2 : Int64) (a27 : Int64) (a29 : Int64) (a31 : Int64) (s0 : Int32) (s1 : Nat) (h : hp_H) : hp_J Y_K_times Z hp_rV h 240 [(0, .ref a0), (2, .long a2), (27, .long a27), (29, .long a29), (31, .long a31)] [.int s0, .ref s1] (m_K_times_240 (hp_G Z)  a0 a2 a27 a29 a31 s0 s1 h) := by
  unfold m_K_times_240
  refine hp_putZ fl_K_9 (fun q => by cases q) d_K_times_240 fun h1 => ?_
  refine hp_aload_n (x0 := 0) d_K_times_243 rfl rfl ?_
  refine hp_aload_n (x0 := 0) d_K_times_244 rfl rfl ?_
  refine hp_getL fl_K_18 d_K_times_245 fun x2 => ?_
  refine hp_lconst (v := 0) d_K_times_248 (by decide) ?_
  refine hp_lcmp d_K_times_249 ?_
  refine hp_if_ge (tgt := 257) d_K_times_250 (by decide) ?_ ?_
  · refine hp_iconst (v := 0) d_K_times_257 (by decide) ?_
    refine hp_sub [1, 2, 3, 4] rfl ?_
    exact j_K_times_258  _ _ _ _ _ _ _
  · refine hp_iconst (v := 1) d_K_times_253 (by decide) ?_
    refine hp_goto (tgt := 258) d_K_times_254 (by decide) ?_
    refine hp_sub [1, 2, 3, 4] rfl ?_
    exact j_K_times_258  _ _ _ _ _ _ _
def m_K_times_239 (G : Nat → Nat) (a0 : Nat) (a2 : Int64) (a27 : Int64) (a29 : Int64) (a31 : Int64) (s0 : Nat) (h : hp_H) : Option (Unit × hp_H) := m_K_times_240 G a0 a2 a27 a29 a31 (0 : Int32) s0 h
set_option maxRecDepth 100000 in
set_option maxHeartbeats 4000000 in
theorem j_K_times_239 {Z : hp_Z} (a0 : Nat) (a2 : Int64) (a27 : Int64) (a29 : Int64) (a31 : Int64) (s0 : Nat) (h : hp_H) : hp_J Y_K_times Z hp_rV h 239 [(0, .ref a0), (2, .long a2), (27, .long a27), (29, .long a29), (31, .long a31)] [.ref s0] (m_K_times_239 (hp_G Z)  a0 a2 a27 a29 a31 s0 h) := by
  unfold m_K_times_239
  refine hp_iconst (v := 0) d_K_times_239 (by decide) ?_
  exact j_K_times_240  _ _ _ _ _ _ _ _
def m_K_times_17 (G : Nat → Nat) (a0 : Nat) (a2 : Int64) (a4 : Int32) (s0 : Int32) (s1 : Nat) (h : hp_H) : Option (Unit × hp_H) := (hp_pZ h s1 6 1 s0).bind fun h1 => (hp_gL h1 a0 6 2).bind fun x2 => (m_MA_abs G x2 h1).bind fun q3 => hp_nm q3.1 fun x4 => (hp_gI q3.2 a0 6 3).bind fun x5 => (m_D_power G x5 q3.2).bind fun q6 => (hp_dL x4 q6.1).bind fun x7 => hp_nm x7 fun x8 => (hp_gI q6.2 a0 6 3).bind fun x9 => (m_D_billionths G x4 x9 q6.2).bind fun q10 => hp_nm q10.1 fun x11 => (m_MA_abs G a2 q10.2).bind fun q12 => hp_nm q12.1 fun x13 => (m_D_power G a4 q12.2).bind fun q14 => (hp_dL x13 q14.1).bind fun x15 => hp_nm x15 fun x16 => (m_D_billionths G x13 a4 q14.2).bind fun q17 => hp_nm q17.1 fun x18 => (hp_mL x8 (1000000000 : Int64)).bind fun x19 => hp_nm x19 fun x20 => (hp_mL x16 (1000000000 : Int64)).bind fun x21 => hp_nm x21 fun x22 => (hp_dL x8 (1000000000 : Int64)).bind fun x23 => hp_nm x23 fun x24 => (hp_dL x16 (1000000000 : Int64)).bind fun x25 => hp_nm x25 fun x26 => hp_nm ((x11 * x18) + (500000000 : Int64)) fun x27 => (hp_dL x27 (1000000000 : Int64)).bind fun x28 => hp_nm ((x28 + (x11 * x22)) + (x20 * x18)) fun x29 => (hp_mL x29 (1000000000 : Int64)).bind fun x30 => hp_nm x30 fun x31 => (hp_dL x29 (1000000000 : Int64)).bind fun x32 => hp_nm (((x32 + (x11 * x26)) + (x20 * x22)) + (x24 * x18)) fun x33 => (hp_mL x33 (1000000000 : Int64)).bind fun x34 => hp_nm x34 fun x35 => (hp_dL x33 (1000000000 : Int64)).bind fun x36 => hp_nm ((x36 + (x20 * x26)) + (x24 * x22)) fun x37 => (hp_mL x37 (1000000000 : Int64)).bind fun x38 => hp_nm x38 fun x39 => (hp_gI q17.2 a0 6 0).bind fun x40 => if x40 = 0 then (m_K_times_239 G a0 a2 x31 x35 x39 a0 q17.2) else ((hp_dL x37 (1000000000 : Int64)).bind fun x41 => if (lg_cmp (x41 + (x24 * x26)) (0 : Int64)) = 0 then (m_K_times_240 G a0 a2 x31 x35 x39 (1 : Int32) a0 q17.2) else (m_K_times_239 G a0 a2 x31 x35 x39 a0 q17.2))
set_option maxRecDepth 100000 in
set_option maxHeartbeats 4000000 in
theorem j_K_times_17 {Z : hp_Z} (a0 : Nat) (a2 : Int64) (a4 : Int32) (s0 : Int32) (s1 : Nat) (h : hp_H) : hp_J Y_K_times Z hp_rV h 17 [(0, .ref a0), (2, .long a2), (4, .int a4)] [.int s0, .ref s1] (m_K_times_17 (hp_G Z)  a0 a2 a4 s0 s1 h) := by
  unfold m_K_times_17
  refine hp_putZ fl_K_15 (fun q => by cases q) d_K_times_17 fun h1 => ?_
  refine hp_aload_n (x0 := 0) d_K_times_20 rfl rfl ?_
  refine hp_getL fl_K_18 d_K_times_21 fun x2 => ?_
  refine hp_callL (hp_crS (t_MA_abs _ _ _) cw_K_46 w_622 (by decide) rfl rfl (Nat.le_of_ble_eq_true rfl) d_K_times_24) fun q3 => ?_
  refine hp_lstore (fun x4 => [(5, .long x4), (0, .ref a0), (2, .long a2), (4, .int a4)]) d_K_times_27 (by decide) (fun _ => rfl) fun x4 => ?_
  refine hp_lload (x0 := 0) d_K_times_29 rfl ?_
  refine hp_aload_n (x0 := 1) d_K_times_31 rfl rfl ?_
  refine hp_getI fl_K_22 d_K_times_32 fun x5 => ?_
  refine hp_callL (hp_crSN (t_D_power _ _ _) cw_K_26 w_462 (by decide) rfl rfl (Nat.le_of_ble_eq_true rfl) d_K_times_35) fun q6 => ?_
  refine hp_ldiv d_K_times_38 fun x7 => ?_
  refine hp_lstore (fun x8 => [(7, .long x8), (5, .long x4), (0, .ref a0), (2, .long a2), (4, .int a4)]) d_K_times_39 (by decide) (fun _ => rfl) fun x8 => ?_
  refine hp_lload (x0 := 1) d_K_times_41 rfl ?_
  refine hp_aload_n (x0 := 2) d_K_times_43 rfl rfl ?_
  refine hp_getI fl_K_22 d_K_times_44 fun x9 => ?_
  refine hp_callL (hp_crSN (t_D_billionths _ _ _ _) cw_K_36 w_473 (by decide) rfl rfl (Nat.le_of_ble_eq_true rfl) d_K_times_47) fun q10 => ?_
  refine hp_lstore (fun x11 => [(9, .long x11), (7, .long x8), (5, .long x4), (0, .ref a0), (2, .long a2), (4, .int a4)]) d_K_times_50 (by decide) (fun _ => rfl) fun x11 => ?_
  refine hp_lload_n (x0 := 4) d_K_times_52 rfl rfl ?_
  refine hp_callL (hp_crS (t_MA_abs _ _ _) cw_K_46 w_622 (by decide) rfl rfl (Nat.le_of_ble_eq_true rfl) d_K_times_53) fun q12 => ?_
  refine hp_lstore (fun x13 => [(11, .long x13), (9, .long x11), (7, .long x8), (5, .long x4), (0, .ref a0), (2, .long a2), (4, .int a4)]) d_K_times_56 (by decide) (fun _ => rfl) fun x13 => ?_
  refine hp_lload (x0 := 0) d_K_times_58 rfl ?_
  refine hp_iload (x0 := 6) d_K_times_60 rfl ?_
  refine hp_callL (hp_crSN (t_D_power _ _ _) cw_K_26 w_462 (by decide) rfl rfl (Nat.le_of_ble_eq_true rfl) d_K_times_62) fun q14 => ?_
  refine hp_ldiv d_K_times_65 fun x15 => ?_
  refine hp_lstore (fun x16 => [(13, .long x16), (11, .long x13), (9, .long x11), (7, .long x8), (5, .long x4), (0, .ref a0), (2, .long a2), (4, .int a4)]) d_K_times_66 (by decide) (fun _ => rfl) fun x16 => ?_
  refine hp_lload (x0 := 1) d_K_times_68 rfl ?_
  refine hp_iload (x0 := 7) d_K_times_70 rfl ?_
  refine hp_callL (hp_crSN (t_D_billionths _ _ _ _) cw_K_36 w_473 (by decide) rfl rfl (Nat.le_of_ble_eq_true rfl) d_K_times_72) fun q17 => ?_
  refine hp_lstore (fun x18 => [(15, .long x18), (13, .long x16), (11, .long x13), (9, .long x11), (7, .long x8), (5, .long x4), (0, .ref a0), (2, .long a2), (4, .int a4)]) d_K_times_75 (by decide) (fun _ => rfl) fun x18 => ?_
  refine hp_lload (x0 := 4) d_K_times_77 rfl ?_
  refine hp_ldc2 (v := 1000000000) d_K_times_79 w_610 ?_
  refine hp_lrem d_K_times_82 fun x19 => ?_
  refine hp_lstore (fun x20 => [(17, .long x20), (15, .long x18), (13, .long x16), (11, .long x13), (9, .long x11), (7, .long x8), (5, .long x4), (0, .ref a0), (2, .long a2), (4, .int a4)]) d_K_times_83 (by decide) (fun _ => rfl) fun x20 => ?_
  refine hp_lload (x0 := 2) d_K_times_85 rfl ?_
  refine hp_ldc2 (v := 1000000000) d_K_times_87 w_610 ?_
  refine hp_lrem d_K_times_90 fun x21 => ?_
  refine hp_lstore (fun x22 => [(19, .long x22), (17, .long x20), (15, .long x18), (13, .long x16), (11, .long x13), (9, .long x11), (7, .long x8), (5, .long x4), (0, .ref a0), (2, .long a2), (4, .int a4)]) d_K_times_91 (by decide) (fun _ => rfl) fun x22 => ?_
  refine hp_lload (x0 := 6) d_K_times_93 rfl ?_
  refine hp_ldc2 (v := 1000000000) d_K_times_95 w_610 ?_
  refine hp_ldiv d_K_times_98 fun x23 => ?_
  refine hp_lstore (fun x24 => [(21, .long x24), (19, .long x22), (17, .long x20), (15, .long x18), (13, .long x16), (11, .long x13), (9, .long x11), (7, .long x8), (5, .long x4), (0, .ref a0), (2, .long a2), (4, .int a4)]) d_K_times_99 (by decide) (fun _ => rfl) fun x24 => ?_
  refine hp_lload (x0 := 4) d_K_times_101 rfl ?_
  refine hp_ldc2 (v := 1000000000) d_K_times_103 w_610 ?_
  refine hp_ldiv d_K_times_106 fun x25 => ?_
  refine hp_lstore (fun x26 => [(23, .long x26), (21, .long x24), (19, .long x22), (17, .long x20), (15, .long x18), (13, .long x16), (11, .long x13), (9, .long x11), (7, .long x8), (5, .long x4), (0, .ref a0), (2, .long a2), (4, .int a4)]) d_K_times_107 (by decide) (fun _ => rfl) fun x26 => ?_
  refine hp_lload (x0 := 7) d_K_times_109 rfl ?_
  refine hp_lload (x0 := 4) d_K_times_111 rfl ?_
  refine hp_lmul d_K_times_113 ?_
  refine hp_ldc2 (v := 500000000) d_K_times_114 w_624 ?_
  refine hp_ladd d_K_times_117 ?_
  refine hp_lstore (fun x27 => [(25, .long x27), (23, .long x26), (21, .long x24), (19, .long x22), (17, .long x20), (15, .long x18), (13, .long x16), (11, .long x13), (9, .long x11), (7, .long x8), (5, .long x4), (0, .ref a0), (2, .long a2), (4, .int a4)]) d_K_times_118 (by decide) (fun _ => rfl) fun x27 => ?_
  refine hp_lload (x0 := 0) d_K_times_120 rfl ?_
  refine hp_ldc2 (v := 1000000000) d_K_times_122 w_610 ?_
  refine hp_ldiv d_K_times_125 fun x28 => ?_
  refine hp_lload (x0 := 8) d_K_times_126 rfl ?_
  refine hp_lload (x0 := 3) d_K_times_128 rfl ?_
  refine hp_lmul d_K_times_130 ?_
  refine hp_ladd d_K_times_131 ?_
  refine hp_lload (x0 := 4) d_K_times_132 rfl ?_
  refine hp_lload (x0 := 5) d_K_times_134 rfl ?_
  refine hp_lmul d_K_times_136 ?_
  refine hp_ladd d_K_times_137 ?_
  refine hp_lstore (fun x29 => [(25, .long x29), (23, .long x26), (21, .long x24), (19, .long x22), (17, .long x20), (15, .long x18), (13, .long x16), (11, .long x13), (9, .long x11), (7, .long x8), (5, .long x4), (0, .ref a0), (2, .long a2), (4, .int a4)]) d_K_times_138 (by decide) (fun _ => rfl) fun x29 => ?_
  refine hp_lload (x0 := 0) d_K_times_140 rfl ?_
  refine hp_ldc2 (v := 1000000000) d_K_times_142 w_610 ?_
  refine hp_lrem d_K_times_145 fun x30 => ?_
  refine hp_lstore (fun x31 => [(27, .long x31), (25, .long x29), (23, .long x26), (21, .long x24), (19, .long x22), (17, .long x20), (15, .long x18), (13, .long x16), (11, .long x13), (9, .long x11), (7, .long x8), (5, .long x4), (0, .ref a0), (2, .long a2), (4, .int a4)]) d_K_times_146 (by decide) (fun _ => rfl) fun x31 => ?_
  refine hp_lload (x0 := 1) d_K_times_148 rfl ?_
  refine hp_ldc2 (v := 1000000000) d_K_times_150 w_610 ?_
  refine hp_ldiv d_K_times_153 fun x32 => ?_
  refine hp_lload (x0 := 9) d_K_times_154 rfl ?_
  refine hp_lload (x0 := 2) d_K_times_156 rfl ?_
  refine hp_lmul d_K_times_158 ?_
  refine hp_ladd d_K_times_159 ?_
  refine hp_lload (x0 := 5) d_K_times_160 rfl ?_
  refine hp_lload (x0 := 4) d_K_times_162 rfl ?_
  refine hp_lmul d_K_times_164 ?_
  refine hp_ladd d_K_times_165 ?_
  refine hp_lload (x0 := 3) d_K_times_166 rfl ?_
  refine hp_lload (x0 := 6) d_K_times_168 rfl ?_
  refine hp_lmul d_K_times_170 ?_
  refine hp_ladd d_K_times_171 ?_
  refine hp_lstore (fun x33 => [(25, .long x33), (27, .long x31), (23, .long x26), (21, .long x24), (19, .long x22), (17, .long x20), (15, .long x18), (13, .long x16), (11, .long x13), (9, .long x11), (7, .long x8), (5, .long x4), (0, .ref a0), (2, .long a2), (4, .int a4)]) d_K_times_172 (by decide) (fun _ => rfl) fun x33 => ?_
  refine hp_lload (x0 := 0) d_K_times_174 rfl ?_
  refine hp_ldc2 (v := 1000000000) d_K_times_176 w_610 ?_
  refine hp_lrem d_K_times_179 fun x34 => ?_
  refine hp_lstore (fun x35 => [(29, .long x35), (25, .long x33), (27, .long x31), (23, .long x26), (21, .long x24), (19, .long x22), (17, .long x20), (15, .long x18), (13, .long x16), (11, .long x13), (9, .long x11), (7, .long x8), (5, .long x4), (0, .ref a0), (2, .long a2), (4, .int a4)]) d_K_times_180 (by decide) (fun _ => rfl) fun x35 => ?_
  refine hp_lload (x0 := 1) d_K_times_182 rfl ?_
  refine hp_ldc2 (v := 1000000000) d_K_times_184 w_610 ?_
  refine hp_ldiv d_K_times_187 fun x36 => ?_
  refine hp_lload (x0 := 6) d_K_times_188 rfl ?_
  refine hp_lload (x0 := 3) d_K_times_190 rfl ?_
  refine hp_lmul d_K_times_192 ?_
  refine hp_ladd d_K_times_193 ?_
  refine hp_lload (x0 := 4) d_K_times_194 rfl ?_
  refine hp_lload (x0 := 5) d_K_times_196 rfl ?_
  refine hp_lmul d_K_times_198 ?_
  refine hp_ladd d_K_times_199 ?_
  refine hp_lstore (fun x37 => [(25, .long x37), (29, .long x35), (27, .long x31), (23, .long x26), (21, .long x24), (19, .long x22), (17, .long x20), (15, .long x18), (13, .long x16), (11, .long x13), (9, .long x11), (7, .long x8), (5, .long x4), (0, .ref a0), (2, .long a2), (4, .int a4)]) d_K_times_200 (by decide) (fun _ => rfl) fun x37 => ?_
  refine hp_lload (x0 := 0) d_K_times_202 rfl ?_
  refine hp_ldc2 (v := 1000000000) d_K_times_204 w_610 ?_
  refine hp_lrem d_K_times_207 fun x38 => ?_
  refine hp_lstore (fun x39 => [(31, .long x39), (25, .long x37), (29, .long x35), (27, .long x31), (23, .long x26), (21, .long x24), (19, .long x22), (17, .long x20), (15, .long x18), (13, .long x16), (11, .long x13), (9, .long x11), (7, .long x8), (5, .long x4), (0, .ref a0), (2, .long a2), (4, .int a4)]) d_K_times_208 (by decide) (fun _ => rfl) fun x39 => ?_
  refine hp_aload_n (x0 := 14) d_K_times_210 rfl rfl ?_
  refine hp_aload_n (x0 := 14) d_K_times_211 rfl rfl ?_
  refine hp_getI fl_K_9 d_K_times_212 fun x40 => ?_
  refine hp_if_eq (tgt := 239) d_K_times_215 (by decide) ?_ ?_
  · refine hp_sub [14, 15, 3, 2, 0] rfl ?_
    exact j_K_times_239  _ _ _ _ _ _ _
  · refine hp_lload (x0 := 1) d_K_times_218 rfl ?_
    refine hp_ldc2 (v := 1000000000) d_K_times_220 w_610 ?_
    refine hp_ldiv d_K_times_223 fun x41 => ?_
    refine hp_lload (x0 := 5) d_K_times_224 rfl ?_
    refine hp_lload (x0 := 4) d_K_times_226 rfl ?_
    refine hp_lmul d_K_times_228 ?_
    refine hp_ladd d_K_times_229 ?_
    refine hp_lconst (v := 0) d_K_times_230 (by decide) ?_
    refine hp_lcmp d_K_times_231 ?_
    refine hp_if_ne (tgt := 239) d_K_times_232 (by decide) ?_ ?_
    · refine hp_iconst (v := 1) d_K_times_235 (by decide) ?_
      refine hp_goto (tgt := 240) d_K_times_236 (by decide) ?_
      refine hp_sub [14, 15, 3, 2, 0] rfl ?_
      exact j_K_times_240  _ _ _ _ _ _ _ _
    · refine hp_sub [14, 15, 3, 2, 0] rfl ?_
      exact j_K_times_239  _ _ _ _ _ _ _
def m_K_times_16 (G : Nat → Nat) (a0 : Nat) (a2 : Int64) (a4 : Int32) (s0 : Nat) (h : hp_H) : Option (Unit × hp_H) := m_K_times_17 G a0 a2 a4 (0 : Int32) s0 h
set_option maxRecDepth 100000 in
set_option maxHeartbeats 4000000 in
theorem j_K_times_16 {Z : hp_Z} (a0 : Nat) (a2 : Int64) (a4 : Int32) (s0 : Nat) (h : hp_H) : hp_J Y_K_times Z hp_rV h 16 [(0, .ref a0), (2, .long a2), (4, .int a4)] [.ref s0] (m_K_times_16 (hp_G Z)  a0 a2 a4 s0 h) := by
  unfold m_K_times_16
  refine hp_iconst (v := 0) d_K_times_16 (by decide) ?_
  exact j_K_times_17  _ _ _ _ _ _
def m_K_times (G : Nat → Nat) (a0 : Nat) (a1 : Int32) (a2 : Int64) (a4 : Int32) (h : hp_H) : Option (Unit × hp_H) := (hp_gI h a0 6 1).bind fun x1 => if x1 = 0 then (m_K_times_16 G a0 a2 a4 a0 h) else (if a1 = 0 then (m_K_times_16 G a0 a2 a4 a0 h) else (m_K_times_17 G a0 a2 a4 (1 : Int32) a0 h))
set_option maxRecDepth 100000 in
set_option maxHeartbeats 4000000 in
theorem j_K_times_0 {Z : hp_Z} (a0 : Nat) (a1 : Int32) (a2 : Int64) (a4 : Int32) (h : hp_H) : hp_J Y_K_times Z hp_rV h 0 [(0, .ref a0), (1, .int a1), (2, .long a2), (4, .int a4)] [] (m_K_times (hp_G Z)  a0 a1 a2 a4 h) := by
  unfold m_K_times
  refine hp_aload_n (x0 := 0) d_K_times_0 rfl rfl ?_
  refine hp_aload_n (x0 := 0) d_K_times_1 rfl rfl ?_
  refine hp_getI fl_K_15 d_K_times_2 fun x1 => ?_
  refine hp_if_eq (tgt := 16) d_K_times_5 (by decide) ?_ ?_
  · refine hp_sub [0, 2, 3] rfl ?_
    exact j_K_times_16  _ _ _ _ _
  · refine hp_iload_n (x0 := 1) d_K_times_8 rfl rfl ?_
    refine hp_if_eq (tgt := 16) d_K_times_9 (by decide) ?_ ?_
    · refine hp_sub [0, 2, 3] rfl ?_
      exact j_K_times_16  _ _ _ _ _
    · refine hp_iconst (v := 1) d_K_times_12 (by decide) ?_
      refine hp_goto (tgt := 17) d_K_times_13 (by decide) ?_
      refine hp_sub [0, 2, 3] rfl ?_
      exact j_K_times_17  _ _ _ _ _ _
theorem t_K_times (l : Launch) (E : hp_E) (a0 : Nat) (a1 : Int32) (a2 : Int64) (a4 : Int32) : hp_M l E y_K_times Y_K_times hp_rV [.ref a0, .int a1, .long a2, .int a4] (m_K_times E.2.2.1 a0 a1 a2 a4) := hp_M.of (by decide +kernel) ⟨rfl, rfl⟩ (Nat.le_of_ble_eq_true rfl) (fun Z h hE => by subst hE; exact j_K_times_0 _ _ _ _ h)
-- E_isAt
theorem d_E_isAt_0 : decode prog_2_method_32_code 0 = .ok (.iload_n 2, 1) := by decide +kernel
theorem d_E_isAt_1 : decode prog_2_method_32_code 1 = .ok (.ifCond .lt 12, 3) := by decide +kernel
theorem d_E_isAt_4 : decode prog_2_method_32_code 4 = .ok (.iload_n 2, 1) := by decide +kernel
theorem d_E_isAt_5 : decode prog_2_method_32_code 5 = .ok (.aload_n 0, 1) := by decide +kernel
theorem d_E_isAt_6 : decode prog_2_method_32_code 6 = .ok (.arraylength, 1) := by decide +kernel
theorem d_E_isAt_7 : decode prog_2_method_32_code 7 = .ok (.aload_n 1, 1) := by decide +kernel
theorem d_E_isAt_8 : decode prog_2_method_32_code 8 = .ok (.arraylength, 1) := by decide +kernel
theorem d_E_isAt_9 : decode prog_2_method_32_code 9 = .ok (.isub, 1) := by decide +kernel
theorem d_E_isAt_10 : decode prog_2_method_32_code 10 = .ok (.if_icmp .le 5, 3) := by decide +kernel
theorem d_E_isAt_13 : decode prog_2_method_32_code 13 = .ok (.iconst 0, 1) := by decide +kernel
theorem d_E_isAt_14 : decode prog_2_method_32_code 14 = .ok (.ireturn, 1) := by decide +kernel
theorem d_E_isAt_15 : decode prog_2_method_32_code 15 = .ok (.iconst 0, 1) := by decide +kernel
theorem d_E_isAt_16 : decode prog_2_method_32_code 16 = .ok (.istore_n 3, 1) := by decide +kernel
theorem d_E_isAt_17 : decode prog_2_method_32_code 17 = .ok (.iload_n 3, 1) := by decide +kernel
theorem d_E_isAt_18 : decode prog_2_method_32_code 18 = .ok (.aload_n 1, 1) := by decide +kernel
theorem d_E_isAt_19 : decode prog_2_method_32_code 19 = .ok (.arraylength, 1) := by decide +kernel
theorem d_E_isAt_20 : decode prog_2_method_32_code 20 = .ok (.if_icmp .ge 22, 3) := by decide +kernel
theorem d_E_isAt_23 : decode prog_2_method_32_code 23 = .ok (.aload_n 0, 1) := by decide +kernel
theorem d_E_isAt_24 : decode prog_2_method_32_code 24 = .ok (.iload_n 2, 1) := by decide +kernel
theorem d_E_isAt_25 : decode prog_2_method_32_code 25 = .ok (.iload_n 3, 1) := by decide +kernel
theorem d_E_isAt_26 : decode prog_2_method_32_code 26 = .ok (.iadd, 1) := by decide +kernel
theorem d_E_isAt_27 : decode prog_2_method_32_code 27 = .ok (.baload, 1) := by decide +kernel
theorem d_E_isAt_28 : decode prog_2_method_32_code 28 = .ok (.aload_n 1, 1) := by decide +kernel
theorem d_E_isAt_29 : decode prog_2_method_32_code 29 = .ok (.iload_n 3, 1) := by decide +kernel
theorem d_E_isAt_30 : decode prog_2_method_32_code 30 = .ok (.baload, 1) := by decide +kernel
theorem d_E_isAt_31 : decode prog_2_method_32_code 31 = .ok (.if_icmp .eq 5, 3) := by decide +kernel
theorem d_E_isAt_34 : decode prog_2_method_32_code 34 = .ok (.iconst 0, 1) := by decide +kernel
theorem d_E_isAt_35 : decode prog_2_method_32_code 35 = .ok (.ireturn, 1) := by decide +kernel
theorem d_E_isAt_36 : decode prog_2_method_32_code 36 = .ok (.iinc 3 1, 3) := by decide +kernel
theorem d_E_isAt_39 : decode prog_2_method_32_code 39 = .ok (.goto (-22), 3) := by decide +kernel
theorem d_E_isAt_42 : decode prog_2_method_32_code 42 = .ok (.iconst 1, 1) := by decide +kernel
theorem d_E_isAt_43 : decode prog_2_method_32_code 43 = .ok (.ireturn, 1) := by decide +kernel
def m_E_isAt_13 (G : Nat → Nat) (h : hp_H) : Option (Int32 × hp_H) := hp_z (0 : Int32) h
set_option maxRecDepth 100000 in
set_option maxHeartbeats 4000000 in
theorem j_E_isAt_13 {Z : hp_Z} (h : hp_H) : hp_J Y_E_isAt Z hp_rI h 13 [] [] (m_E_isAt_13 (hp_G Z)   h) := by
  unfold m_E_isAt_13
  refine hp_iconst (v := 0) d_E_isAt_13 (by decide) ?_
  exact hp_zret d_E_isAt_14 rfl
def m_E_isAt_17 (G : Nat → Nat) : Nat → Nat → Nat → Int32 → Int32 → hp_H → Option (Int32 × hp_H)
  | 0, _, _, _, _, _ => none
  | n + 1, a0, a1, a2, a3, h => (hp_len h a1).bind fun x1 => if x1 ≤ a3 then (hp_z (1 : Int32) h) else ((hp_aI h .byte a0 (a2 + a3)).bind fun x2 => (hp_aI h .byte a1 a3).bind fun x3 => if x2 = x3 then (hp_nm (a3 + 1) fun x4 => (m_E_isAt_17 G  n) a0 a1 a2 x4 h) else (hp_z (0 : Int32) h))
set_option maxRecDepth 100000 in
set_option maxHeartbeats 4000000 in
theorem j_E_isAt_17 {Z : hp_Z} : ∀ (n : Nat) (a0 : Nat) (a1 : Nat) (a2 : Int32) (a3 : Int32) (h : hp_H), hp_J Y_E_isAt Z hp_rI h 17 [(0, .ref a0), (1, .ref a1), (2, .int a2), (3, .int a3)] [] (m_E_isAt_17 (hp_G Z)  n a0 a1 a2 a3 h) := by
  intro n
  induction n with
  | zero => intro a0 a1 a2 a3 h; exact hp_fail
  | succ n ih =>
    intro a0 a1 a2 a3 h
    rw [m_E_isAt_17]
    refine hp_iload_n (x0 := 3) d_E_isAt_17 rfl rfl ?_
    refine hp_aload_n (x0 := 1) d_E_isAt_18 rfl rfl ?_
    refine hp_alen d_E_isAt_19 fun x1 => ?_
    refine hp_icmp_ge (tgt := 42) d_E_isAt_20 (by decide) ?_ ?_
    · refine hp_iconst (v := 1) d_E_isAt_42 (by decide) ?_
      exact hp_zret d_E_isAt_43 rfl
    · refine hp_aload_n (x0 := 0) d_E_isAt_23 rfl rfl ?_
      refine hp_iload_n (x0 := 2) d_E_isAt_24 rfl rfl ?_
      refine hp_iload_n (x0 := 3) d_E_isAt_25 rfl rfl ?_
      refine hp_iadd d_E_isAt_26 ?_
      refine hp_bald d_E_isAt_27 fun x2 => ?_
      refine hp_aload_n (x0 := 1) d_E_isAt_28 rfl rfl ?_
      refine hp_iload_n (x0 := 3) d_E_isAt_29 rfl rfl ?_
      refine hp_bald d_E_isAt_30 fun x3 => ?_
      refine hp_icmp_eq (tgt := 36) d_E_isAt_31 (by decide) ?_ ?_
      · refine hp_iinc (x0 := 3) (d := 1) (fun x4 => [(3, .int x4), (0, .ref a0), (1, .ref a1), (2, .int a2)]) d_E_isAt_36 rfl (by decide) (by decide) (fun _ => rfl) fun x4 => ?_
        refine hp_goto (tgt := 17) d_E_isAt_39 (by decide) ?_
        refine hp_sub [1, 2, 3, 0] rfl ?_
        exact ih _ _ _ _ _
      · refine hp_iconst (v := 0) d_E_isAt_34 (by decide) ?_
        exact hp_zret d_E_isAt_35 rfl
def m_E_isAt (G : Nat → Nat) (a0 : Nat) (a1 : Nat) (a2 : Int32) (h : hp_H) : Option (Int32 × hp_H) := if a2 < 0 then (m_E_isAt_13 G h) else ((hp_len h a0).bind fun x1 => (hp_len h a1).bind fun x2 => if a2 ≤ (x1 - x2) then (hp_nm (0 : Int32) fun x3 => m_E_isAt_17 G hp_fu a0 a1 a2 x3 h) else (m_E_isAt_13 G h))
set_option maxRecDepth 100000 in
set_option maxHeartbeats 4000000 in
theorem j_E_isAt_0 {Z : hp_Z} (a0 : Nat) (a1 : Nat) (a2 : Int32) (h : hp_H) : hp_J Y_E_isAt Z hp_rI h 0 [(0, .ref a0), (1, .ref a1), (2, .int a2)] [] (m_E_isAt (hp_G Z)  a0 a1 a2 h) := by
  unfold m_E_isAt
  refine hp_iload_n (x0 := 2) d_E_isAt_0 rfl rfl ?_
  refine hp_if_lt (tgt := 13) d_E_isAt_1 (by decide) ?_ ?_
  · refine hp_sub [] rfl ?_
    exact j_E_isAt_13   _
  · refine hp_iload_n (x0 := 2) d_E_isAt_4 rfl rfl ?_
    refine hp_aload_n (x0 := 0) d_E_isAt_5 rfl rfl ?_
    refine hp_alen d_E_isAt_6 fun x1 => ?_
    refine hp_aload_n (x0 := 1) d_E_isAt_7 rfl rfl ?_
    refine hp_alen d_E_isAt_8 fun x2 => ?_
    refine hp_isub d_E_isAt_9 ?_
    refine hp_icmp_le (tgt := 15) d_E_isAt_10 (by decide) ?_ ?_
    · refine hp_iconst (v := 0) d_E_isAt_15 (by decide) ?_
      refine hp_istore_n (fun x3 => [(3, .int x3), (0, .ref a0), (1, .ref a1), (2, .int a2)]) d_E_isAt_16 rfl (by decide) (fun _ => rfl) fun x3 => ?_
      refine hp_sub [1, 2, 3, 0] rfl ?_
      exact j_E_isAt_17  hp_fu _ _ _ _ _
    · refine hp_sub [] rfl ?_
      exact j_E_isAt_13   _
theorem t_E_isAt (l : Launch) (E : hp_E) (a0 : Nat) (a1 : Nat) (a2 : Int32) : hp_M l E y_E_isAt Y_E_isAt hp_rI [.ref a0, .ref a1, .int a2] (m_E_isAt E.2.2.1 a0 a1 a2) := hp_M.of (by decide +kernel) ⟨rfl, rfl⟩ (Nat.le_of_ble_eq_true rfl) (fun Z h hE => by subst hE; exact j_E_isAt_0 _ _ _ h)
-- E_firstPlace
theorem d_E_firstPlace_0 : decode prog_2_method_31_code 0 = .ok (.iconst 0, 1) := by decide +kernel
theorem d_E_firstPlace_1 : decode prog_2_method_31_code 1 = .ok (.istore_n 2, 1) := by decide +kernel
theorem d_E_firstPlace_2 : decode prog_2_method_31_code 2 = .ok (.iload_n 2, 1) := by decide +kernel
theorem d_E_firstPlace_3 : decode prog_2_method_31_code 3 = .ok (.aload_n 0, 1) := by decide +kernel
theorem d_E_firstPlace_4 : decode prog_2_method_31_code 4 = .ok (.arraylength, 1) := by decide +kernel
theorem d_E_firstPlace_5 : decode prog_2_method_31_code 5 = .ok (.aload_n 1, 1) := by decide +kernel
theorem d_E_firstPlace_6 : decode prog_2_method_31_code 6 = .ok (.arraylength, 1) := by decide +kernel
theorem d_E_firstPlace_7 : decode prog_2_method_31_code 7 = .ok (.isub, 1) := by decide +kernel
theorem d_E_firstPlace_8 : decode prog_2_method_31_code 8 = .ok (.if_icmp .gt 20, 3) := by decide +kernel
theorem d_E_firstPlace_11 : decode prog_2_method_31_code 11 = .ok (.aload_n 0, 1) := by decide +kernel
theorem d_E_firstPlace_12 : decode prog_2_method_31_code 12 = .ok (.aload_n 1, 1) := by decide +kernel
theorem d_E_firstPlace_13 : decode prog_2_method_31_code 13 = .ok (.iload_n 2, 1) := by decide +kernel
theorem d_E_firstPlace_14 : decode prog_2_method_31_code 14 = .ok (.invokestatic 248, 3) := by decide +kernel
theorem d_E_firstPlace_17 : decode prog_2_method_31_code 17 = .ok (.ifCond .eq 5, 3) := by decide +kernel
theorem d_E_firstPlace_20 : decode prog_2_method_31_code 20 = .ok (.iload_n 2, 1) := by decide +kernel
theorem d_E_firstPlace_21 : decode prog_2_method_31_code 21 = .ok (.ireturn, 1) := by decide +kernel
theorem d_E_firstPlace_22 : decode prog_2_method_31_code 22 = .ok (.iinc 2 1, 3) := by decide +kernel
theorem d_E_firstPlace_25 : decode prog_2_method_31_code 25 = .ok (.goto (-23), 3) := by decide +kernel
theorem d_E_firstPlace_28 : decode prog_2_method_31_code 28 = .ok (.iconst (-1), 1) := by decide +kernel
theorem d_E_firstPlace_29 : decode prog_2_method_31_code 29 = .ok (.ireturn, 1) := by decide +kernel
def m_E_firstPlace_2 (G : Nat → Nat) : Nat → Nat → Nat → Int32 → hp_H → Option (Int32 × hp_H)
  | 0, _, _, _, _ => none
  | n + 1, a0, a1, a2, h => (hp_len h a0).bind fun x1 => (hp_len h a1).bind fun x2 => if (x1 - x2) < a2 then (some ((-1 : Int32), h)) else ((m_E_isAt G a0 a1 a2 h).bind fun q3 => if q3.1 = 0 then (hp_nm (a2 + 1) fun x4 => (m_E_firstPlace_2 G  n) a0 a1 x4 q3.2) else (some (a2, q3.2)))
set_option maxRecDepth 100000 in
set_option maxHeartbeats 4000000 in
theorem j_E_firstPlace_2 {Z : hp_Z} : ∀ (n : Nat) (a0 : Nat) (a1 : Nat) (a2 : Int32) (h : hp_H), hp_J Y_E_firstPlace Z hp_rI h 2 [(0, .ref a0), (1, .ref a1), (2, .int a2)] [] (m_E_firstPlace_2 (hp_G Z)  n a0 a1 a2 h) := by
  intro n
  induction n with
  | zero => intro a0 a1 a2 h; exact hp_fail
  | succ n ih =>
    intro a0 a1 a2 h
    rw [m_E_firstPlace_2]
    refine hp_iload_n (x0 := 2) d_E_firstPlace_2 rfl rfl ?_
    refine hp_aload_n (x0 := 0) d_E_firstPlace_3 rfl rfl ?_
    refine hp_alen d_E_firstPlace_4 fun x1 => ?_
    refine hp_aload_n (x0 := 1) d_E_firstPlace_5 rfl rfl ?_
    refine hp_alen d_E_firstPlace_6 fun x2 => ?_
    refine hp_isub d_E_firstPlace_7 ?_
    refine hp_icmp_gt (tgt := 28) d_E_firstPlace_8 (by decide) ?_ ?_
    · refine hp_iconst (v := -1) d_E_firstPlace_28 (by decide) ?_
      exact hp_iret d_E_firstPlace_29 rfl
    · refine hp_aload_n (x0 := 0) d_E_firstPlace_11 rfl rfl ?_
      refine hp_aload_n (x0 := 1) d_E_firstPlace_12 rfl rfl ?_
      refine hp_iload_n (x0 := 2) d_E_firstPlace_13 rfl rfl ?_
      refine hp_callI (hp_crS (t_E_isAt _ _ _ _ _) cw_E_248 w_688 (by decide) rfl rfl (Nat.le_of_ble_eq_true rfl) d_E_firstPlace_14) fun q3 => ?_
      refine hp_if_eq (tgt := 22) d_E_firstPlace_17 (by decide) ?_ ?_
      · refine hp_iinc (x0 := 2) (d := 1) (fun x4 => [(2, .int x4), (0, .ref a0), (1, .ref a1)]) d_E_firstPlace_22 rfl (by decide) (by decide) (fun _ => rfl) fun x4 => ?_
        refine hp_goto (tgt := 2) d_E_firstPlace_25 (by decide) ?_
        refine hp_sub [1, 2, 0] rfl ?_
        exact ih _ _ _ _
      · refine hp_iload_n (x0 := 2) d_E_firstPlace_20 rfl rfl ?_
        exact hp_iret d_E_firstPlace_21 rfl
def m_E_firstPlace (G : Nat → Nat) (a0 : Nat) (a1 : Nat) (h : hp_H) : Option (Int32 × hp_H) := hp_nm (0 : Int32) fun x1 => m_E_firstPlace_2 G hp_fu a0 a1 x1 h
set_option maxRecDepth 100000 in
set_option maxHeartbeats 4000000 in
theorem j_E_firstPlace_0 {Z : hp_Z} (a0 : Nat) (a1 : Nat) (h : hp_H) : hp_J Y_E_firstPlace Z hp_rI h 0 [(0, .ref a0), (1, .ref a1)] [] (m_E_firstPlace (hp_G Z)  a0 a1 h) := by
  unfold m_E_firstPlace
  refine hp_iconst (v := 0) d_E_firstPlace_0 (by decide) ?_
  refine hp_istore_n (fun x1 => [(2, .int x1), (0, .ref a0), (1, .ref a1)]) d_E_firstPlace_1 rfl (by decide) (fun _ => rfl) fun x1 => ?_
  refine hp_sub [1, 2, 0] rfl ?_
  exact j_E_firstPlace_2  hp_fu _ _ _ _
theorem t_E_firstPlace (l : Launch) (E : hp_E) (a0 : Nat) (a1 : Nat) : hp_M l E y_E_firstPlace Y_E_firstPlace hp_rI [.ref a0, .ref a1] (m_E_firstPlace E.2.2.1 a0 a1) := hp_M.of (by decide +kernel) ⟨rfl, rfl⟩ (Nat.le_of_ble_eq_true rfl) (fun Z h hE => by subst hE; exact j_E_firstPlace_0 _ _ h)
-- V_truthOf
theorem d_V_truthOf_0 : decode prog_7_method_4_code 0 = .ok (.aload_n 0, 1) := by decide +kernel
theorem d_V_truthOf_1 : decode prog_7_method_4_code 1 = .ok (.getfield 9, 3) := by decide +kernel
theorem d_V_truthOf_4 : decode prog_7_method_4_code 4 = .ok (.bipush 8, 2) := by decide +kernel
theorem d_V_truthOf_6 : decode prog_7_method_4_code 6 = .ok (.if_icmp .ne 8, 3) := by decide +kernel
theorem d_V_truthOf_9 : decode prog_7_method_4_code 9 = .ok (.aload_n 0, 1) := by decide +kernel
theorem d_V_truthOf_10 : decode prog_7_method_4_code 10 = .ok (.getfield 15, 3) := by decide +kernel
theorem d_V_truthOf_13 : decode prog_7_method_4_code 13 = .ok (.ireturn, 1) := by decide +kernel
theorem d_V_truthOf_14 : decode prog_7_method_4_code 14 = .ok (.aload_n 0, 1) := by decide +kernel
theorem d_V_truthOf_15 : decode prog_7_method_4_code 15 = .ok (.invokevirtual 32, 3) := by decide +kernel
theorem d_V_truthOf_18 : decode prog_7_method_4_code 18 = .ok (.ifCond .eq 18, 3) := by decide +kernel
theorem d_V_truthOf_21 : decode prog_7_method_4_code 21 = .ok (.aload_n 0, 1) := by decide +kernel
theorem d_V_truthOf_22 : decode prog_7_method_4_code 22 = .ok (.getfield 18, 3) := by decide +kernel
theorem d_V_truthOf_25 : decode prog_7_method_4_code 25 = .ok (.lconst 0, 1) := by decide +kernel
theorem d_V_truthOf_26 : decode prog_7_method_4_code 26 = .ok (.lcmp, 1) := by decide +kernel
theorem d_V_truthOf_27 : decode prog_7_method_4_code 27 = .ok (.ifCond .eq 7, 3) := by decide +kernel
theorem d_V_truthOf_30 : decode prog_7_method_4_code 30 = .ok (.iconst 1, 1) := by decide +kernel
theorem d_V_truthOf_31 : decode prog_7_method_4_code 31 = .ok (.goto 4, 3) := by decide +kernel
theorem d_V_truthOf_34 : decode prog_7_method_4_code 34 = .ok (.iconst 0, 1) := by decide +kernel
theorem d_V_truthOf_35 : decode prog_7_method_4_code 35 = .ok (.ireturn, 1) := by decide +kernel
theorem d_V_truthOf_36 : decode prog_7_method_4_code 36 = .ok (.aload_n 0, 1) := by decide +kernel
theorem d_V_truthOf_37 : decode prog_7_method_4_code 37 = .ok (.getfield 9, 3) := by decide +kernel
theorem d_V_truthOf_40 : decode prog_7_method_4_code 40 = .ok (.iconst 5, 1) := by decide +kernel
theorem d_V_truthOf_41 : decode prog_7_method_4_code 41 = .ok (.if_icmp .ne 17, 3) := by decide +kernel
theorem d_V_truthOf_44 : decode prog_7_method_4_code 44 = .ok (.aload_n 0, 1) := by decide +kernel
theorem d_V_truthOf_45 : decode prog_7_method_4_code 45 = .ok (.getfield 25, 3) := by decide +kernel
theorem d_V_truthOf_48 : decode prog_7_method_4_code 48 = .ok (.arraylength, 1) := by decide +kernel
theorem d_V_truthOf_49 : decode prog_7_method_4_code 49 = .ok (.ifCond .le 7, 3) := by decide +kernel
theorem d_V_truthOf_52 : decode prog_7_method_4_code 52 = .ok (.iconst 1, 1) := by decide +kernel
theorem d_V_truthOf_53 : decode prog_7_method_4_code 53 = .ok (.goto 4, 3) := by decide +kernel
theorem d_V_truthOf_56 : decode prog_7_method_4_code 56 = .ok (.iconst 0, 1) := by decide +kernel
theorem d_V_truthOf_57 : decode prog_7_method_4_code 57 = .ok (.ireturn, 1) := by decide +kernel
theorem d_V_truthOf_58 : decode prog_7_method_4_code 58 = .ok (.bipush (-4), 2) := by decide +kernel
theorem d_V_truthOf_60 : decode prog_7_method_4_code 60 = .ok (.ireturn, 1) := by decide +kernel
def m_V_truthOf_35 (G : Nat → Nat) (s0 : Int32) (h : hp_H) : Option (Int32 × hp_H) := some (s0, h)
set_option maxRecDepth 100000 in
set_option maxHeartbeats 4000000 in
theorem j_V_truthOf_35 {Z : hp_Z} (s0 : Int32) (h : hp_H) : hp_J Y_V_truthOf Z hp_rI h 35 [] [.int s0] (m_V_truthOf_35 (hp_G Z)  s0 h) := by
  unfold m_V_truthOf_35
  exact hp_iret d_V_truthOf_35 rfl
def m_V_truthOf_57 (G : Nat → Nat) (s0 : Int32) (h : hp_H) : Option (Int32 × hp_H) := some (s0, h)
set_option maxRecDepth 100000 in
set_option maxHeartbeats 4000000 in
theorem j_V_truthOf_57 {Z : hp_Z} (s0 : Int32) (h : hp_H) : hp_J Y_V_truthOf Z hp_rI h 57 [] [.int s0] (m_V_truthOf_57 (hp_G Z)  s0 h) := by
  unfold m_V_truthOf_57
  exact hp_iret d_V_truthOf_57 rfl
def m_V_truthOf (G : Nat → Nat) (a0 : Nat) (h : hp_H) : Option (Int32 × hp_H) := (hp_gI h a0 3 0).bind fun x1 => if x1 = (8 : Int32) then ((hp_gI h a0 3 1).bind fun x7 => some (x7, h)) else ((hp_vck h a0 3 (m_V_isNumber G a0 h)).bind fun q2 => if q2.1 = 0 then ((hp_gI q2.2 a0 3 0).bind fun x3 => if x3 = (5 : Int32) then ((hp_gR q2.2 a0 3 4).bind fun x4 => (hp_len q2.2 x4).bind fun x5 => if x5 ≤ 0 then (m_V_truthOf_57 G (0 : Int32) q2.2) else (m_V_truthOf_57 G (1 : Int32) q2.2)) else (some ((-4 : Int32), q2.2))) else ((hp_gL q2.2 a0 3 2).bind fun x6 => if (lg_cmp x6 (0 : Int64)) = 0 then (m_V_truthOf_35 G (0 : Int32) q2.2) else (m_V_truthOf_35 G (1 : Int32) q2.2)))
set_option maxRecDepth 100000 in
set_option maxHeartbeats 4000000 in
theorem j_V_truthOf_0 {Z : hp_Z} (a0 : Nat) (h : hp_H) : hp_J Y_V_truthOf Z hp_rI h 0 [(0, .ref a0)] [] (m_V_truthOf (hp_G Z)  a0 h) := by
  unfold m_V_truthOf
  refine hp_aload_n (x0 := 0) d_V_truthOf_0 rfl rfl ?_
  refine hp_getI fl_V_9 d_V_truthOf_1 fun x1 => ?_
  refine hp_bipush (v := 8) d_V_truthOf_4 (by decide) ?_
  refine hp_icmp_ne (tgt := 14) d_V_truthOf_6 (by decide) ?_ ?_
  · refine hp_aload_n (x0 := 0) d_V_truthOf_9 rfl rfl ?_
    refine hp_getI fl_V_15 d_V_truthOf_10 fun x7 => ?_
    exact hp_iret d_V_truthOf_13 rfl
  · refine hp_aload_n (x0 := 0) d_V_truthOf_14 rfl rfl ?_
    refine hp_callI (hp_crV (ci := 3) (t_V_isNumber _ _ _) cw_V_32 rfl ⟨w_454, w_455⟩ (by decide) rfl rfl (Nat.le_of_ble_eq_true rfl) d_V_truthOf_15) fun q2 => ?_
    refine hp_if_eq (tgt := 36) d_V_truthOf_18 (by decide) ?_ ?_
    · refine hp_aload_n (x0 := 0) d_V_truthOf_36 rfl rfl ?_
      refine hp_getI fl_V_9 d_V_truthOf_37 fun x3 => ?_
      refine hp_iconst (v := 5) d_V_truthOf_40 (by decide) ?_
      refine hp_icmp_ne (tgt := 58) d_V_truthOf_41 (by decide) ?_ ?_
      · refine hp_aload_n (x0 := 0) d_V_truthOf_44 rfl rfl ?_
        refine hp_getR fl_V_25 d_V_truthOf_45 fun x4 => ?_
        refine hp_alen d_V_truthOf_48 fun x5 => ?_
        refine hp_if_le (tgt := 56) d_V_truthOf_49 (by decide) ?_ ?_
        · refine hp_iconst (v := 0) d_V_truthOf_56 (by decide) ?_
          refine hp_sub [] rfl ?_
          exact j_V_truthOf_57  _ _
        · refine hp_iconst (v := 1) d_V_truthOf_52 (by decide) ?_
          refine hp_goto (tgt := 57) d_V_truthOf_53 (by decide) ?_
          refine hp_sub [] rfl ?_
          exact j_V_truthOf_57  _ _
      · refine hp_bipush (v := -4) d_V_truthOf_58 (by decide) ?_
        exact hp_iret d_V_truthOf_60 rfl
    · refine hp_aload_n (x0 := 0) d_V_truthOf_21 rfl rfl ?_
      refine hp_getL fl_V_18 d_V_truthOf_22 fun x6 => ?_
      refine hp_lconst (v := 0) d_V_truthOf_25 (by decide) ?_
      refine hp_lcmp d_V_truthOf_26 ?_
      refine hp_if_eq (tgt := 34) d_V_truthOf_27 (by decide) ?_ ?_
      · refine hp_iconst (v := 0) d_V_truthOf_34 (by decide) ?_
        refine hp_sub [] rfl ?_
        exact j_V_truthOf_35  _ _
      · refine hp_iconst (v := 1) d_V_truthOf_30 (by decide) ?_
        refine hp_goto (tgt := 35) d_V_truthOf_31 (by decide) ?_
        refine hp_sub [] rfl ?_
        exact j_V_truthOf_35  _ _
theorem t_V_truthOf (l : Launch) (E : hp_E) (a0 : Nat) : hp_M l E y_V_truthOf Y_V_truthOf hp_rI [.ref a0] (m_V_truthOf E.2.2.1 a0) := hp_M.of (by decide +kernel) ⟨rfl, rfl⟩ (Nat.le_of_ble_eq_true rfl) (fun Z h hE => by subst hE; exact j_V_truthOf_0 _ h)
