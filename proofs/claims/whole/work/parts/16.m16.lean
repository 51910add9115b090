-- M_ofItsOwn
theorem d_M_ofItsOwn_0 : decode prog_9_method_65_code 0 = .ok (.aload_n 0, 1) := by decide +kernel
theorem d_M_ofItsOwn_1 : decode prog_9_method_65_code 1 = .ok (.getfield 54, 3) := by decide +kernel
theorem d_M_ofItsOwn_4 : decode prog_9_method_65_code 4 = .ok (.iload_n 1, 1) := by decide +kernel
theorem d_M_ofItsOwn_5 : decode prog_9_method_65_code 5 = .ok (.iaload, 1) := by decide +kernel
theorem d_M_ofItsOwn_6 : decode prog_9_method_65_code 6 = .ok (.istore_n 3, 1) := by decide +kernel
theorem d_M_ofItsOwn_7 : decode prog_9_method_65_code 7 = .ok (.aload_n 0, 1) := by decide +kernel
theorem d_M_ofItsOwn_8 : decode prog_9_method_65_code 8 = .ok (.getfield 51, 3) := by decide +kernel
theorem d_M_ofItsOwn_11 : decode prog_9_method_65_code 11 = .ok (.iload_n 1, 1) := by decide +kernel
theorem d_M_ofItsOwn_12 : decode prog_9_method_65_code 12 = .ok (.iaload, 1) := by decide +kernel
theorem d_M_ofItsOwn_13 : decode prog_9_method_65_code 13 = .ok (.tableswitch 298 0 24 #[115, 130, 149, 298, 167, 187, 298, 298, 298, 298, 298, 298, 298, 298, 298, 298, 298, 298, 298, 298, 298, 298, 207, 241, 291], 115) := by decide +kernel
theorem d_M_ofItsOwn_128 : decode prog_9_method_65_code 128 = .ok (.aload_n 0, 1) := by decide +kernel
theorem d_M_ofItsOwn_129 : decode prog_9_method_65_code 129 = .ok (.iload_n 3, 1) := by decide +kernel
theorem d_M_ofItsOwn_130 : decode prog_9_method_65_code 130 = .ok (.invokevirtual 161, 3) := by decide +kernel
theorem d_M_ofItsOwn_133 : decode prog_9_method_65_code 133 = .ok (.ifCond .eq 7, 3) := by decide +kernel
theorem d_M_ofItsOwn_136 : decode prog_9_method_65_code 136 = .ok (.iload_n 3, 1) := by decide +kernel
theorem d_M_ofItsOwn_137 : decode prog_9_method_65_code 137 = .ok (.goto 5, 3) := by decide +kernel
theorem d_M_ofItsOwn_140 : decode prog_9_method_65_code 140 = .ok (.bipush (-4), 2) := by decide +kernel
theorem d_M_ofItsOwn_142 : decode prog_9_method_65_code 142 = .ok (.ireturn, 1) := by decide +kernel
theorem d_M_ofItsOwn_143 : decode prog_9_method_65_code 143 = .ok (.aload_n 0, 1) := by decide +kernel
theorem d_M_ofItsOwn_144 : decode prog_9_method_65_code 144 = .ok (.iload_n 3, 1) := by decide +kernel
theorem d_M_ofItsOwn_145 : decode prog_9_method_65_code 145 = .ok (.invokevirtual 250, 3) := by decide +kernel
theorem d_M_ofItsOwn_148 : decode prog_9_method_65_code 148 = .ok (.ifCond .le 11, 3) := by decide +kernel
theorem d_M_ofItsOwn_151 : decode prog_9_method_65_code 151 = .ok (.aload_n 0, 1) := by decide +kernel
theorem d_M_ofItsOwn_152 : decode prog_9_method_65_code 152 = .ok (.iload_n 3, 1) := by decide +kernel
theorem d_M_ofItsOwn_153 : decode prog_9_method_65_code 153 = .ok (.invokevirtual 250, 3) := by decide +kernel
theorem d_M_ofItsOwn_156 : decode prog_9_method_65_code 156 = .ok (.goto 5, 3) := by decide +kernel
theorem d_M_ofItsOwn_159 : decode prog_9_method_65_code 159 = .ok (.bipush (-4), 2) := by decide +kernel
theorem d_M_ofItsOwn_161 : decode prog_9_method_65_code 161 = .ok (.ireturn, 1) := by decide +kernel
theorem d_M_ofItsOwn_162 : decode prog_9_method_65_code 162 = .ok (.aload_n 0, 1) := by decide +kernel
theorem d_M_ofItsOwn_163 : decode prog_9_method_65_code 163 = .ok (.aload_n 0, 1) := by decide +kernel
theorem d_M_ofItsOwn_164 : decode prog_9_method_65_code 164 = .ok (.iload_n 3, 1) := by decide +kernel
theorem d_M_ofItsOwn_165 : decode prog_9_method_65_code 165 = .ok (.invokevirtual 250, 3) := by decide +kernel
theorem d_M_ofItsOwn_168 : decode prog_9_method_65_code 168 = .ok (.ifCond .le 7, 3) := by decide +kernel
theorem d_M_ofItsOwn_171 : decode prog_9_method_65_code 171 = .ok (.iconst 1, 1) := by decide +kernel
theorem d_M_ofItsOwn_172 : decode prog_9_method_65_code 172 = .ok (.goto 4, 3) := by decide +kernel
theorem d_M_ofItsOwn_175 : decode prog_9_method_65_code 175 = .ok (.iconst 0, 1) := by decide +kernel
theorem d_M_ofItsOwn_176 : decode prog_9_method_65_code 176 = .ok (.invokevirtual 185, 3) := by decide +kernel
theorem d_M_ofItsOwn_179 : decode prog_9_method_65_code 179 = .ok (.ireturn, 1) := by decide +kernel
theorem d_M_ofItsOwn_180 : decode prog_9_method_65_code 180 = .ok (.aload_n 0, 1) := by decide +kernel
theorem d_M_ofItsOwn_181 : decode prog_9_method_65_code 181 = .ok (.aload_n 0, 1) := by decide +kernel
theorem d_M_ofItsOwn_182 : decode prog_9_method_65_code 182 = .ok (.getfield 60, 3) := by decide +kernel
theorem d_M_ofItsOwn_185 : decode prog_9_method_65_code 185 = .ok (.iload_n 2, 1) := by decide +kernel
theorem d_M_ofItsOwn_186 : decode prog_9_method_65_code 186 = .ok (.iaload, 1) := by decide +kernel
theorem d_M_ofItsOwn_187 : decode prog_9_method_65_code 187 = .ok (.aload_n 0, 1) := by decide +kernel
theorem d_M_ofItsOwn_188 : decode prog_9_method_65_code 188 = .ok (.getfield 60, 3) := by decide +kernel
theorem d_M_ofItsOwn_191 : decode prog_9_method_65_code 191 = .ok (.iload_n 2, 1) := by decide +kernel
theorem d_M_ofItsOwn_192 : decode prog_9_method_65_code 192 = .ok (.iconst 1, 1) := by decide +kernel
theorem d_M_ofItsOwn_193 : decode prog_9_method_65_code 193 = .ok (.iadd, 1) := by decide +kernel
theorem d_M_ofItsOwn_194 : decode prog_9_method_65_code 194 = .ok (.iaload, 1) := by decide +kernel
theorem d_M_ofItsOwn_195 : decode prog_9_method_65_code 195 = .ok (.iconst 0, 1) := by decide +kernel
theorem d_M_ofItsOwn_196 : decode prog_9_method_65_code 196 = .ok (.invokevirtual 253, 3) := by decide +kernel
theorem d_M_ofItsOwn_199 : decode prog_9_method_65_code 199 = .ok (.ireturn, 1) := by decide +kernel
theorem d_M_ofItsOwn_200 : decode prog_9_method_65_code 200 = .ok (.aload_n 0, 1) := by decide +kernel
theorem d_M_ofItsOwn_201 : decode prog_9_method_65_code 201 = .ok (.aload_n 0, 1) := by decide +kernel
theorem d_M_ofItsOwn_202 : decode prog_9_method_65_code 202 = .ok (.getfield 60, 3) := by decide +kernel
theorem d_M_ofItsOwn_205 : decode prog_9_method_65_code 205 = .ok (.iload_n 2, 1) := by decide +kernel
theorem d_M_ofItsOwn_206 : decode prog_9_method_65_code 206 = .ok (.iaload, 1) := by decide +kernel
theorem d_M_ofItsOwn_207 : decode prog_9_method_65_code 207 = .ok (.aload_n 0, 1) := by decide +kernel
theorem d_M_ofItsOwn_208 : decode prog_9_method_65_code 208 = .ok (.getfield 60, 3) := by decide +kernel
theorem d_M_ofItsOwn_211 : decode prog_9_method_65_code 211 = .ok (.iload_n 2, 1) := by decide +kernel
theorem d_M_ofItsOwn_212 : decode prog_9_method_65_code 212 = .ok (.iconst 1, 1) := by decide +kernel
theorem d_M_ofItsOwn_213 : decode prog_9_method_65_code 213 = .ok (.iadd, 1) := by decide +kernel
theorem d_M_ofItsOwn_214 : decode prog_9_method_65_code 214 = .ok (.iaload, 1) := by decide +kernel
theorem d_M_ofItsOwn_215 : decode prog_9_method_65_code 215 = .ok (.iconst 1, 1) := by decide +kernel
theorem d_M_ofItsOwn_216 : decode prog_9_method_65_code 216 = .ok (.invokevirtual 253, 3) := by decide +kernel
theorem d_M_ofItsOwn_219 : decode prog_9_method_65_code 219 = .ok (.ireturn, 1) := by decide +kernel
theorem d_M_ofItsOwn_220 : decode prog_9_method_65_code 220 = .ok (.aload_n 0, 1) := by decide +kernel
theorem d_M_ofItsOwn_221 : decode prog_9_method_65_code 221 = .ok (.aload_n 0, 1) := by decide +kernel
theorem d_M_ofItsOwn_222 : decode prog_9_method_65_code 222 = .ok (.getfield 60, 3) := by decide +kernel
theorem d_M_ofItsOwn_225 : decode prog_9_method_65_code 225 = .ok (.iload_n 2, 1) := by decide +kernel
theorem d_M_ofItsOwn_226 : decode prog_9_method_65_code 226 = .ok (.iaload, 1) := by decide +kernel
theorem d_M_ofItsOwn_227 : decode prog_9_method_65_code 227 = .ok (.invokevirtual 244, 3) := by decide +kernel
theorem d_M_ofItsOwn_230 : decode prog_9_method_65_code 230 = .ok (.istore 4, 2) := by decide +kernel
theorem d_M_ofItsOwn_232 : decode prog_9_method_65_code 232 = .ok (.iload 4, 2) := by decide +kernel
theorem d_M_ofItsOwn_234 : decode prog_9_method_65_code 234 = .ok (.ifCond .ge 8, 3) := by decide +kernel
theorem d_M_ofItsOwn_237 : decode prog_9_method_65_code 237 = .ok (.bipush (-4), 2) := by decide +kernel
theorem d_M_ofItsOwn_239 : decode prog_9_method_65_code 239 = .ok (.goto 14, 3) := by decide +kernel
theorem d_M_ofItsOwn_242 : decode prog_9_method_65_code 242 = .ok (.aload_n 0, 1) := by decide +kernel
theorem d_M_ofItsOwn_243 : decode prog_9_method_65_code 243 = .ok (.getfield 60, 3) := by decide +kernel
theorem d_M_ofItsOwn_246 : decode prog_9_method_65_code 246 = .ok (.iload_n 2, 1) := by decide +kernel
theorem d_M_ofItsOwn_247 : decode prog_9_method_65_code 247 = .ok (.iconst 2, 1) := by decide +kernel
theorem d_M_ofItsOwn_248 : decode prog_9_method_65_code 248 = .ok (.iadd, 1) := by decide +kernel
theorem d_M_ofItsOwn_249 : decode prog_9_method_65_code 249 = .ok (.iload 4, 2) := by decide +kernel
theorem d_M_ofItsOwn_251 : decode prog_9_method_65_code 251 = .ok (.isub, 1) := by decide +kernel
theorem d_M_ofItsOwn_252 : decode prog_9_method_65_code 252 = .ok (.iaload, 1) := by decide +kernel
theorem d_M_ofItsOwn_253 : decode prog_9_method_65_code 253 = .ok (.ireturn, 1) := by decide +kernel
theorem d_M_ofItsOwn_254 : decode prog_9_method_65_code 254 = .ok (.iconst 0, 1) := by decide +kernel
theorem d_M_ofItsOwn_255 : decode prog_9_method_65_code 255 = .ok (.istore 5, 2) := by decide +kernel
theorem d_M_ofItsOwn_257 : decode prog_9_method_65_code 257 = .ok (.iload 5, 2) := by decide +kernel
theorem d_M_ofItsOwn_259 : decode prog_9_method_65_code 259 = .ok (.iload_n 3, 1) := by decide +kernel
theorem d_M_ofItsOwn_260 : decode prog_9_method_65_code 260 = .ok (.if_icmp .ge 23, 3) := by decide +kernel
theorem d_M_ofItsOwn_263 : decode prog_9_method_65_code 263 = .ok (.aload_n 0, 1) := by decide +kernel
theorem d_M_ofItsOwn_264 : decode prog_9_method_65_code 264 = .ok (.getfield 60, 3) := by decide +kernel
theorem d_M_ofItsOwn_267 : decode prog_9_method_65_code 267 = .ok (.iload_n 2, 1) := by decide +kernel
theorem d_M_ofItsOwn_268 : decode prog_9_method_65_code 268 = .ok (.iload 5, 2) := by decide +kernel
theorem d_M_ofItsOwn_270 : decode prog_9_method_65_code 270 = .ok (.iadd, 1) := by decide +kernel
theorem d_M_ofItsOwn_271 : decode prog_9_method_65_code 271 = .ok (.iaload, 1) := by decide +kernel
theorem d_M_ofItsOwn_272 : decode prog_9_method_65_code 272 = .ok (.bipush (-4), 2) := by decide +kernel
theorem d_M_ofItsOwn_274 : decode prog_9_method_65_code 274 = .ok (.if_icmp .ne 9, 3) := by decide +kernel
theorem d_M_ofItsOwn_277 : decode prog_9_method_65_code 277 = .ok (.iinc 5 1, 3) := by decide +kernel
theorem d_M_ofItsOwn_280 : decode prog_9_method_65_code 280 = .ok (.goto (-23), 3) := by decide +kernel
theorem d_M_ofItsOwn_283 : decode prog_9_method_65_code 283 = .ok (.iload 5, 2) := by decide +kernel
theorem d_M_ofItsOwn_285 : decode prog_9_method_65_code 285 = .ok (.iload_n 3, 1) := by decide +kernel
theorem d_M_ofItsOwn_286 : decode prog_9_method_65_code 286 = .ok (.if_icmp .ge 15, 3) := by decide +kernel
theorem d_M_ofItsOwn_289 : decode prog_9_method_65_code 289 = .ok (.aload_n 0, 1) := by decide +kernel
theorem d_M_ofItsOwn_290 : decode prog_9_method_65_code 290 = .ok (.getfield 60, 3) := by decide +kernel
theorem d_M_ofItsOwn_293 : decode prog_9_method_65_code 293 = .ok (.iload_n 2, 1) := by decide +kernel
theorem d_M_ofItsOwn_294 : decode prog_9_method_65_code 294 = .ok (.iload 5, 2) := by decide +kernel
theorem d_M_ofItsOwn_296 : decode prog_9_method_65_code 296 = .ok (.iadd, 1) := by decide +kernel
theorem d_M_ofItsOwn_297 : decode prog_9_method_65_code 297 = .ok (.iaload, 1) := by decide +kernel
theorem d_M_ofItsOwn_298 : decode prog_9_method_65_code 298 = .ok (.goto 5, 3) := by decide +kernel
theorem d_M_ofItsOwn_301 : decode prog_9_method_65_code 301 = .ok (.bipush (-4), 2) := by decide +kernel
theorem d_M_ofItsOwn_303 : decode prog_9_method_65_code 303 = .ok (.ireturn, 1) := by decide +kernel
theorem d_M_ofItsOwn_304 : decode prog_9_method_65_code 304 = .ok (.aload_n 0, 1) := by decide +kernel
theorem d_M_ofItsOwn_305 : decode prog_9_method_65_code 305 = .ok (.iload_n 2, 1) := by decide +kernel
theorem d_M_ofItsOwn_306 : decode prog_9_method_65_code 306 = .ok (.iload_n 3, 1) := by decide +kernel
theorem d_M_ofItsOwn_307 : decode prog_9_method_65_code 307 = .ok (.invokevirtual 256, 3) := by decide +kernel
theorem d_M_ofItsOwn_310 : decode prog_9_method_65_code 310 = .ok (.ireturn, 1) := by decide +kernel
theorem d_M_ofItsOwn_311 : decode prog_9_method_65_code 311 = .ok (.bipush (-2), 2) := by decide +kernel
theorem d_M_ofItsOwn_313 : decode prog_9_method_65_code 313 = .ok (.ireturn, 1) := by decide +kernel
def m_M_ofItsOwn_142 (G : Nat → Nat) (s0 : Int32) (h : hp_H) : Option (Int32 × hp_H) := some (s0, h)
set_option maxRecDepth 100000 in
set_option maxHeartbeats 4000000 in
theorem j_M_ofItsOwn_142 {Z : hp_Z} (s0 : Int32) (h : hp_H) : hp_J Y_M_ofItsOwn Z hp_rI h 142 [] [.int s0] (m_M_ofItsOwn_142 (hp_G Z)  s0 h) := by
  unfold m_M_ofItsOwn_142
  exact hp_iret d_M_ofItsOwn_142 rfl
def m_M_ofItsOwn_161 (G : Nat → Nat) (s0 : Int32) (h : hp_H) : Option (Int32 × hp_H) := some (s0, h)
set_option maxRecDepth 100000 in
set_option maxHeartbeats 4000000 in
theorem j_M_ofItsOwn_161 {Z : hp_Z} (s0 : Int32) (h : hp_H) : hp_J Y_M_ofItsOwn Z hp_rI h 161 [] [.int s0] (m_M_ofItsOwn_161 (hp_G Z)  s0 h) := by
  unfold m_M_ofItsOwn_161
  exact hp_iret d_M_ofItsOwn_161 rfl
def m_M_ofItsOwn_176 (G : Nat → Nat) (s0 : Int32) (s1 : Nat) (h : hp_H) : Option (Int32 × hp_H) := (hp_vck h s1 8 (m_M_truth G s1 s0 h)).bind fun q1 => some (q1.1, q1.2)
set_option maxRecDepth 100000 in
set_option maxHeartbeats 4000000 in
theorem j_M_ofItsOwn_176 {Z : hp_Z} (s0 : Int32) (s1 : Nat) (h : hp_H) : hp_J Y_M_ofItsOwn Z hp_rI h 176 [] [.int s0, .ref s1] (m_M_ofItsOwn_176 (hp_G Z)  s0 s1 h) := by
  unfold m_M_ofItsOwn_176
  refine hp_callI (hp_crV (ci := 8) (t_M_truth _ _ _ _) cw_M_185 rfl ⟨w_1003, w_1004⟩ (by decide) rfl rfl (Nat.le_of_ble_eq_true rfl) d_M_ofItsOwn_176) fun q1 => ?_
  exact hp_iret d_M_ofItsOwn_179 rfl
def m_M_ofItsOwn_253 (G : Nat → Nat) (s0 : Int32) (h : hp_H) : Option (Int32 × hp_H) := some (s0, h)
set_option maxRecDepth 100000 in
set_option maxHeartbeats 4000000 in
theorem j_M_ofItsOwn_253 {Z : hp_Z} (s0 : Int32) (h : hp_H) : hp_J Y_M_ofItsOwn Z hp_rI h 253 [] [.int s0] (m_M_ofItsOwn_253 (hp_G Z)  s0 h) := by
  unfold m_M_ofItsOwn_253
  exact hp_iret d_M_ofItsOwn_253 rfl
def m_M_ofItsOwn_303 (G : Nat → Nat) (s0 : Int32) (h : hp_H) : Option (Int32 × hp_H) := some (s0, h)
set_option maxRecDepth 100000 in
set_option maxHeartbeats 4000000 in
theorem j_M_ofItsOwn_303 {Z : hp_Z} (s0 : Int32) (h : hp_H) : hp_J Y_M_ofItsOwn Z hp_rI h 303 [] [.int s0] (m_M_ofItsOwn_303 (hp_G Z)  s0 h) := by
  unfold m_M_ofItsOwn_303
  exact hp_iret d_M_ofItsOwn_303 rfl
def m_M_ofItsOwn_283 (G : Nat → Nat) (a0 : Nat) (a2 : Int32) (a3 : Int32) (a5 : Int32) (h : hp_H) : Option (Int32 × hp_H) := if a3 ≤ a5 then (m_M_ofItsOwn_303 G (-4 : Int32) h) else ((hp_gR h a0 8 24).bind fun x1 => (hp_aI h .int x1 (a2 + a5)).bind fun x2 => m_M_ofItsOwn_303 G x2 h)
set_option maxRecDepth 100000 in
set_option maxHeartbeats 4000000 in
theorem j_M_ofItsOwn_283 {Z : hp_Z} (a0 : Nat) (a2 : Int32) (a3 : Int32) (a5 : Int32) (h : hp_H) : hp_J Y_M_ofItsOwn Z hp_rI h 283 [(0, .ref a0), (2, .int a2), (3, .int a3), (5, .int a5)] [] (m_M_ofItsOwn_283 (hp_G Z)  a0 a2 a3 a5 h) := by
  unfold m_M_ofItsOwn_283
  refine hp_iload (x0 := 3) d_M_ofItsOwn_283 rfl ?_
  refine hp_iload_n (x0 := 2) d_M_ofItsOwn_285 rfl rfl ?_
  refine hp_icmp_ge (tgt := 301) d_M_ofItsOwn_286 (by decide) ?_ ?_
  · refine hp_bipush (v := -4) d_M_ofItsOwn_301 (by decide) ?_
    refine hp_sub [] rfl ?_
    exact j_M_ofItsOwn_303  _ _
  · refine hp_aload_n (x0 := 0) d_M_ofItsOwn_289 rfl rfl ?_
    refine hp_getR fl_M_60 d_M_ofItsOwn_290 fun x1 => ?_
    refine hp_iload_n (x0 := 1) d_M_ofItsOwn_293 rfl rfl ?_
    refine hp_iload (x0 := 3) d_M_ofItsOwn_294 rfl ?_
    refine hp_iadd d_M_ofItsOwn_296 ?_
    refine hp_iald d_M_ofItsOwn_297 fun x2 => ?_
    refine hp_goto (tgt := 303) d_M_ofItsOwn_298 (by decide) ?_
    refine hp_sub [] rfl ?_
    exact j_M_ofItsOwn_303  _ _
def m_M_ofItsOwn_257 (G : Nat → Nat) : Nat → Nat → Int32 → Int32 → Int32 → hp_H → Option (Int32 × hp_H)
  | 0, _, _, _, _, _ => none
  | n + 1, a0, a2, a3, a5, h => if a3 ≤ a5 then (m_M_ofItsOwn_283 G a0 a2 a3 a5 h) else ((hp_gR h a0 8 24).bind fun x1 => (hp_aI h .int x1 (a2 + a5)).bind fun x2 => if x2 = (-4 : Int32) then (hp_nm (a5 + 1) fun x3 => (m_M_ofItsOwn_257 G  n) a0 a2 a3 x3 h) else (m_M_ofItsOwn_283 G a0 a2 a3 a5 h))
set_option maxRecDepth 100000 in
set_option maxHeartbeats 4000000 in
theorem j_M_ofItsOwn_257 {Z : hp_Z} : ∀ (n : Nat) (a0 : Nat) (a2 : Int32) (a3 : Int32) (a5 : Int32) (h : hp_H), hp_J Y_M_ofItsOwn Z hp_rI h 257 [(0, .ref a0), (2, .int a2), (3, .int a3), (5, .int a5)] [] (m_M_ofItsOwn_257 (hp_G Z)  n a0 a2 a3 a5 h) := by
  intro n
  induction n with
  | zero => intro a0 a2 a3 a5 h; exact hp_fail
  | succ n ih =>
    intro a0 a2 a3 a5 h
    rw [m_M_ofItsOwn_257]
    refine hp_iload (x0 := 3) d_M_ofItsOwn_257 rfl ?_
    refine hp_iload_n (x0 := 2) d_M_ofItsOwn_259 rfl rfl ?_
    refine hp_icmp_ge (tgt := 283) d_M_ofItsOwn_260 (by decide) ?_ ?_
    · exact j_M_ofItsOwn_283  _ _ _ _ _
    · refine hp_aload_n (x0 := 0) d_M_ofItsOwn_263 rfl rfl ?_
      refine hp_getR fl_M_60 d_M_ofItsOwn_264 fun x1 => ?_
      refine hp_iload_n (x0 := 1) d_M_ofItsOwn_267 rfl rfl ?_
      refine hp_iload (x0 := 3) d_M_ofItsOwn_268 rfl ?_
      refine hp_iadd d_M_ofItsOwn_270 ?_
      refine hp_iald d_M_ofItsOwn_271 fun x2 => ?_
      refine hp_bipush (v := -4) d_M_ofItsOwn_272 (by decide) ?_
      refine hp_icmp_ne (tgt := 283) d_M_ofItsOwn_274 (by decide) ?_ ?_
      · refine hp_iinc (x0 := 3) (d := 1) (fun x3 => [(5, .int x3), (0, .ref a0), (2, .int a2), (3, .int a3)]) d_M_ofItsOwn_277 rfl (by decide) (by decide) (fun _ => rfl) fun x3 => ?_
        refine hp_goto (tgt := 257) d_M_ofItsOwn_280 (by decide) ?_
        refine hp_sub [1, 2, 3, 0] rfl ?_
        exact ih _ _ _ _ _
      · exact j_M_ofItsOwn_283  _ _ _ _ _
def m_M_ofItsOwn (G : Nat → Nat) (a0 : Nat) (a1 : Int32) (a2 : Int32) (h : hp_H) : Option (Int32 × hp_H) := (hp_gR h a0 8 21).bind fun x1 => (hp_aI h .int x1 a1).bind fun x2 => hp_nm x2 fun x3 => (hp_gR h a0 8 20).bind fun x4 => (hp_aI h .int x4 a1).bind fun x5 => if x5 = 0 then ((hp_vck h a0 8 (m_M_isValue G a0 x3 h)).bind fun q6 => if q6.1 = 0 then (m_M_ofItsOwn_142 G (-4 : Int32) q6.2) else (m_M_ofItsOwn_142 G x3 q6.2)) else (if x5 = 1 then ((hp_vck h a0 8 (m_M_bindingOf G a0 x3 h)).bind fun q7 => if q7.1 ≤ 0 then (m_M_ofItsOwn_161 G (-4 : Int32) q7.2) else ((hp_vck q7.2 a0 8 (m_M_bindingOf G a0 x3 q7.2)).bind fun q8 => m_M_ofItsOwn_161 G q8.1 q8.2)) else (if x5 = 2 then ((hp_vck h a0 8 (m_M_bindingOf G a0 x3 h)).bind fun q9 => if q9.1 ≤ 0 then (m_M_ofItsOwn_176 G (0 : Int32) a0 q9.2) else (m_M_ofItsOwn_176 G (1 : Int32) a0 q9.2)) else (if x5 = 3 then (some ((-2 : Int32), h)) else (if x5 = 4 then ((hp_gR h a0 8 24).bind fun x10 => (hp_aI h .int x10 a2).bind fun x11 => (hp_gR h a0 8 24).bind fun x12 => (hp_aI h .int x12 (a2 + (1 : Int32))).bind fun x13 => (hp_vck h a0 8 (m_M_both G a0 x11 x13 (0 : Int32) h)).bind fun q14 => some (q14.1, q14.2)) else (if x5 = 5 then ((hp_gR h a0 8 24).bind fun x15 => (hp_aI h .int x15 a2).bind fun x16 => (hp_gR h a0 8 24).bind fun x17 => (hp_aI h .int x17 (a2 + (1 : Int32))).bind fun x18 => (hp_vck h a0 8 (m_M_both G a0 x16 x18 (1 : Int32) h)).bind fun q19 => some (q19.1, q19.2)) else (if x5 = 6 then (some ((-2 : Int32), h)) else (if x5 = 7 then (some ((-2 : Int32), h)) else (if x5 = 8 then (some ((-2 : Int32), h)) else (if x5 = 9 then (some ((-2 : Int32), h)) else (if x5 = 10 then (some ((-2 : Int32), h)) else (if x5 = 11 then (some ((-2 : Int32), h)) else (if x5 = 12 then (some ((-2 : Int32), h)) else (if x5 = 13 then (some ((-2 : Int32), h)) else (if x5 = 14 then (some ((-2 : Int32), h)) else (if x5 = 15 then (some ((-2 : Int32), h)) else (if x5 = 16 then (some ((-2 : Int32), h)) else (if x5 = 17 then (some ((-2 : Int32), h)) else (if x5 = 18 then (some ((-2 : Int32), h)) else (if x5 = 19 then (some ((-2 : Int32), h)) else (if x5 = 20 then (some ((-2 : Int32), h)) else (if x5 = 21 then (some ((-2 : Int32), h)) else (if x5 = 22 then ((hp_gR h a0 8 24).bind fun x20 => (hp_aI h .int x20 a2).bind fun x21 => (hp_vck h a0 8 (m_M_truthOf G a0 x21 h)).bind fun q22 => hp_nm q22.1 fun x23 => if 0 ≤ x23 then ((hp_gR q22.2 a0 8 24).bind fun x24 => (hp_aI q22.2 .int x24 ((a2 + (2 : Int32)) - x23)).bind fun x25 => m_M_ofItsOwn_253 G x25 q22.2) else (m_M_ofItsOwn_253 G (-4 : Int32) q22.2)) else (if x5 = 23 then (hp_nm (0 : Int32) fun x26 => m_M_ofItsOwn_257 G hp_fu a0 a2 x3 x26 h) else (if x5 = 24 then ((hp_vck h a0 8 (m_M_isIn G a0 a2 x3 h)).bind fun q27 => some (q27.1, q27.2)) else (some ((-2 : Int32), h))))))))))))))))))))))))))
set_option maxRecDepth 100000 in
set_option maxHeartbeats 4000000 in
theorem j_M_ofItsOwn_0 {Z : hp_Z} (a0 : Nat) (a1 : Int32) (a2 : Int32) (h : hp_H) : hp_J Y_M_ofItsOwn Z hp_rI h 0 [(0, .ref a0), (1, .int a1), (2, .int a2)] [] (m_M_ofItsOwn (hp_G Z)  a0 a1 a2 h) := by
  unfold m_M_ofItsOwn
  refine hp_aload_n (x0 := 0) d_M_ofItsOwn_0 rfl rfl ?_
  refine hp_getR fl_M_54 d_M_ofItsOwn_1 fun x1 => ?_
  refine hp_iload_n (x0 := 1) d_M_ofItsOwn_4 rfl rfl ?_
  refine hp_iald d_M_ofItsOwn_5 fun x2 => ?_
  refine hp_istore_n (fun x3 => [(3, .int x3), (0, .ref a0), (1, .int a1), (2, .int a2)]) d_M_ofItsOwn_6 rfl (by decide) (fun _ => rfl) fun x3 => ?_
  refine hp_aload_n (x0 := 1) d_M_ofItsOwn_7 rfl rfl ?_
  refine hp_getR fl_M_51 d_M_ofItsOwn_8 fun x4 => ?_
  refine hp_iload_n (x0 := 2) d_M_ofItsOwn_11 rfl rfl ?_
  refine hp_iald d_M_ofItsOwn_12 fun x5 => ?_
  refine hp_ite (fun c0 => ?_) (fun c0 => ?_)
  · refine hp_tabI (tgt := 128) (kv := 0) d_M_ofItsOwn_13 c0 (by decide) (by decide) rfl (by decide) ?_
    refine hp_aload_n (x0 := 1) d_M_ofItsOwn_128 rfl rfl ?_
    refine hp_iload_n (x0 := 0) d_M_ofItsOwn_129 rfl rfl ?_
    refine hp_callI (hp_crV (ci := 8) (t_M_isValue _ _ _ _) cw_M_161 rfl ⟨w_1024, ws_44⟩ (by decide) rfl rfl (Nat.le_of_ble_eq_true rfl) d_M_ofItsOwn_130) fun q6 => ?_
    refine hp_if_eq (tgt := 140) d_M_ofItsOwn_133 (by decide) ?_ ?_
    · refine hp_bipush (v := -4) d_M_ofItsOwn_140 (by decide) ?_
      refine hp_sub [] rfl ?_
      exact j_M_ofItsOwn_142  _ _
    · refine hp_iload_n (x0 := 0) d_M_ofItsOwn_136 rfl rfl ?_
      refine hp_goto (tgt := 142) d_M_ofItsOwn_137 (by decide) ?_
      refine hp_sub [] rfl ?_
      exact j_M_ofItsOwn_142  _ _
  · skip
    refine hp_ite (fun c1 => ?_) (fun c1 => ?_)
    · refine hp_tabI (tgt := 143) (kv := 1) d_M_ofItsOwn_13 c1 (by decide) (by decide) rfl (by decide) ?_
      refine hp_aload_n (x0 := 1) d_M_ofItsOwn_143 rfl rfl ?_
      refine hp_iload_n (x0 := 0) d_M_ofItsOwn_144 rfl rfl ?_
      refine hp_callI (hp_crV (ci := 8) (t_M_bindingOf _ _ _ _) cw_M_250 rfl ⟨w_1103, ws_55⟩ (by decide) rfl rfl (Nat.le_of_ble_eq_true rfl) d_M_ofItsOwn_145) fun q7 => ?_
      refine hp_if_le (tgt := 159) d_M_ofItsOwn_148 (by decide) ?_ ?_
      · refine hp_bipush (v := -4) d_M_ofItsOwn_159 (by decide) ?_
        refine hp_sub [] rfl ?_
        exact j_M_ofItsOwn_161  _ _
      · refine hp_aload_n (x0 := 1) d_M_ofItsOwn_151 rfl rfl ?_
        refine hp_iload_n (x0 := 0) d_M_ofItsOwn_152 rfl rfl ?_
        refine hp_callI (hp_crV (ci := 8) (t_M_bindingOf _ _ _ _) cw_M_250 rfl ⟨w_1103, ws_55⟩ (by decide) rfl rfl (Nat.le_of_ble_eq_true rfl) d_M_ofItsOwn_153) fun q8 => ?_
        refine hp_goto (tgt := 161) d_M_ofItsOwn_156 (by decide) ?_
        refine hp_sub [] rfl ?_
        exact j_M_ofItsOwn_161  _ _
    · skip
      refine hp_ite (fun c2 => ?_) (fun c2 => ?_)
      · refine hp_tabI (tgt := 162) (kv := 2) d_M_ofItsOwn_13 c2 (by decide) (by decide) rfl (by decide) ?_
        refine hp_aload_n (x0 := 1) d_M_ofItsOwn_162 rfl rfl ?_
        refine hp_aload_n (x0 := 1) d_M_ofItsOwn_163 rfl rfl ?_
        refine hp_iload_n (x0 := 0) d_M_ofItsOwn_164 rfl rfl ?_
        refine hp_callI (hp_crV (ci := 8) (t_M_bindingOf _ _ _ _) cw_M_250 rfl ⟨w_1103, ws_55⟩ (by decide) rfl rfl (Nat.le_of_ble_eq_true rfl) d_M_ofItsOwn_165) fun q9 => ?_
        refine hp_if_le (tgt := 175) d_M_ofItsOwn_168 (by decide) ?_ ?_
        · refine hp_iconst (v := 0) d_M_ofItsOwn_175 (by decide) ?_
          refine hp_sub [] rfl ?_
          exact j_M_ofItsOwn_176  _ _ _
        · refine hp_iconst (v := 1) d_M_ofItsOwn_171 (by decide) ?_
          refine hp_goto (tgt := 176) d_M_ofItsOwn_172 (by decide) ?_
          refine hp_sub [] rfl ?_
          exact j_M_ofItsOwn_176  _ _ _
      · skip
        refine hp_ite (fun c3 => ?_) (fun c3 => ?_)
        · refine hp_tabI (tgt := 311) (kv := 3) d_M_ofItsOwn_13 c3 (by decide) (by decide) rfl (by decide) ?_
          refine hp_bipush (v := -2) d_M_ofItsOwn_311 (by decide) ?_
          exact hp_iret d_M_ofItsOwn_313 rfl
        · skip
          refine hp_ite (fun c4 => ?_) (fun c4 => ?_)
          · refine hp_tabI (tgt := 180) (kv := 4) d_M_ofItsOwn_13 c4 (by decide) (by decide) rfl (by decide) ?_
            refine hp_aload_n (x0 := 1) d_M_ofItsOwn_180 rfl rfl ?_
            refine hp_aload_n (x0 := 1) d_M_ofItsOwn_181 rfl rfl ?_
            refine hp_getR fl_M_60 d_M_ofItsOwn_182 fun x10 => ?_
            refine hp_iload_n (x0 := 3) d_M_ofItsOwn_185 rfl rfl ?_
            refine hp_iald d_M_ofItsOwn_186 fun x11 => ?_
            refine hp_aload_n (x0 := 1) d_M_ofItsOwn_187 rfl rfl ?_
            refine hp_getR fl_M_60 d_M_ofItsOwn_188 fun x12 => ?_
            refine hp_iload_n (x0 := 3) d_M_ofItsOwn_191 rfl rfl ?_
            refine hp_iconst (v := 1) d_M_ofItsOwn_192 (by decide) ?_
            refine hp_iadd d_M_ofItsOwn_193 ?_
            refine hp_iald d_M_ofItsOwn_194 fun x13 => ?_
            refine hp_iconst (v := 0) d_M_ofItsOwn_195 (by decide) ?_
            refine hp_callI (hp_crV (ci := 8) (t_M_both _ _ _ _ _ _) cw_M_253 rfl ⟨w_1108, ws_56⟩ (by decide) rfl rfl (Nat.le_of_ble_eq_true rfl) d_M_ofItsOwn_196) fun q14 => ?_
            exact hp_iret d_M_ofItsOwn_199 rfl
          · skip
            refine hp_ite (fun c5 => ?_) (fun c5 => ?_)
            · refine hp_tabI (tgt := 200) (kv := 5) d_M_ofItsOwn_13 c5 (by decide) (by decide) rfl (by decide) ?_
              refine hp_aload_n (x0 := 1) d_M_ofItsOwn_200 rfl rfl ?_
              refine hp_aload_n (x0 := 1) d_M_ofItsOwn_201 rfl rfl ?_
              refine hp_getR fl_M_60 d_M_ofItsOwn_202 fun x15 => ?_
              refine hp_iload_n (x0 := 3) d_M_ofItsOwn_205 rfl rfl ?_
              refine hp_iald d_M_ofItsOwn_206 fun x16 => ?_
              refine hp_aload_n (x0 := 1) d_M_ofItsOwn_207 rfl rfl ?_
              refine hp_getR fl_M_60 d_M_ofItsOwn_208 fun x17 => ?_
              refine hp_iload_n (x0 := 3) d_M_ofItsOwn_211 rfl rfl ?_
              refine hp_iconst (v := 1) d_M_ofItsOwn_212 (by decide) ?_
              refine hp_iadd d_M_ofItsOwn_213 ?_
              refine hp_iald d_M_ofItsOwn_214 fun x18 => ?_
              refine hp_iconst (v := 1) d_M_ofItsOwn_215 (by decide) ?_
              refine hp_callI (hp_crV (ci := 8) (t_M_both _ _ _ _ _ _) cw_M_253 rfl ⟨w_1108, ws_56⟩ (by decide) rfl rfl (Nat.le_of_ble_eq_true rfl) d_M_ofItsOwn_216) fun q19 => ?_
              exact hp_iret d_M_ofItsOwn_219 rfl
            · skip
              refine hp_ite (fun c6 => ?_) (fun c6 => ?_)
              · refine hp_tabI (tgt := 311) (kv := 6) d_M_ofItsOwn_13 c6 (by decide) (by decide) rfl (by decide) ?_
                refine hp_bipush (v := -2) d_M_ofItsOwn_311 (by decide) ?_
                exact hp_iret d_M_ofItsOwn_313 rfl
              · skip
                refine hp_ite (fun c7 => ?_) (fun c7 => ?_)
                · refine hp_tabI (tgt := 311) (kv := 7) d_M_ofItsOwn_13 c7 (by decide) (by decide) rfl (by decide) ?_
                  refine hp_bipush (v := -2) d_M_ofItsOwn_311 (by decide) ?_
                  exact hp_iret d_M_ofItsOwn_313 rfl
                · skip
                  refine hp_ite (fun c8 => ?_) (fun c8 => ?_)
                  · refine hp_tabI (tgt := 311) (kv := 8) d_M_ofItsOwn_13 c8 (by decide) (by decide) rfl (by decide) ?_
                    refine hp_bipush (v := -2) d_M_ofItsOwn_311 (by decide) ?_
                    exact hp_iret d_M_ofItsOwn_313 rfl
                  · skip
                    refine hp_ite (fun c9 => ?_) (fun c9 => ?_)
                    · refine hp_tabI (tgt := 311) (kv := 9) d_M_ofItsOwn_13 c9 (by decide) (by decide) rfl (by decide) ?_
                      refine hp_bipush (v := -2) d_M_ofItsOwn_311 (by decide) ?_
                      exact hp_iret d_M_ofItsOwn_313 rfl
                    · skip
                      refine hp_ite (fun c10 => ?_) (fun c10 => ?_)
                      · refine hp_tabI (tgt := 311) (kv := 10) d_M_ofItsOwn_13 c10 (by decide) (by decide) rfl (by decide) ?_
                        refine hp_bipush (v := -2) d_M_ofItsOwn_311 (by decide) ?_
                        exact hp_iret d_M_ofItsOwn_313 rfl
                      · skip
                        refine hp_ite (fun c11 => ?_) (fun c11 => ?_)
                        · refine hp_tabI (tgt := 311) (kv := 11) d_M_ofItsOwn_13 c11 (by decide) (by decide) rfl (by decide) ?_
                          refine hp_bipush (v := -2) d_M_ofItsOwn_311 (by decide) ?_
                          exact hp_iret d_M_ofItsOwn_313 rfl
                        · skip
                          refine hp_ite (fun c12 => ?_) (fun c12 => ?_)
                          · refine hp_tabI (tgt := 311) (kv := 12) d_M_ofItsOwn_13 c12 (by decide) (by decide) rfl (by decide) ?_
                            refine hp_bipush (v := -2) d_M_ofItsOwn_311 (by decide) ?_
                            exact hp_iret d_M_ofItsOwn_313 rfl
                          · skip
                            refine hp_ite (fun c13 => ?_) (fun c13 => ?_)
                            · refine hp_tabI (tgt := 311) (kv := 13) d_M_ofItsOwn_13 c13 (by decide) (by decide) rfl (by decide) ?_
                              refine hp_bipush (v := -2) d_M_ofItsOwn_311 (by decide) ?_
                              exact hp_iret d_M_ofItsOwn_313 rfl
                            · skip
                              refine hp_ite (fun c14 => ?_) (fun c14 => ?_)
                              · refine hp_tabI (tgt := 311) (kv := 14) d_M_ofItsOwn_13 c14 (by decide) (by decide) rfl (by decide) ?_
                                refine hp_bipush (v := -2) d_M_ofItsOwn_311 (by decide) ?_
                                exact hp_iret d_M_ofItsOwn_313 rfl
                              · skip
                                refine hp_ite (fun c15 => ?_) (fun c15 => ?_)
                                · refine hp_tabI (tgt := 311) (kv := 15) d_M_ofItsOwn_13 c15 (by decide) (by decide) rfl (by decide) ?_
                                  refine hp_bipush (v := -2) d_M_ofItsOwn_311 (by decide) ?_
                                  exact hp_iret d_M_ofItsOwn_313 rfl
                                · skip
                                  refine hp_ite (fun c16 => ?_) (fun c16 => ?_)
                                  · refine hp_tabI (tgt := 311) (kv := 16) d_M_ofItsOwn_13 c16 (by decide) (by decide) rfl (by decide) ?_
                                    refine hp_bipush (v := -2) d_M_ofItsOwn_311 (by decide) ?_
                                    exact hp_iret d_M_ofItsOwn_313 rfl
                                  · skip
                                    refine hp_ite (fun c17 => ?_) (fun c17 => ?_)
                                    · refine hp_tabI (tgt := 311) (kv := 17) d_M_ofItsOwn_13 c17 (by decide) (by decide) rfl (by decide) ?_
                                      refine hp_bipush (v := -2) d_M_ofItsOwn_311 (by decide) ?_
                                      exact hp_iret d_M_ofItsOwn_313 rfl
                                    · skip
                                      refine hp_ite (fun c18 => ?_) (fun c18 => ?_)
                                      · refine hp_tabI (tgt := 311) (kv := 18) d_M_ofItsOwn_13 c18 (by decide) (by decide) rfl (by decide) ?_
                                        refine hp_bipush (v := -2) d_M_ofItsOwn_311 (by decide) ?_
                                        exact hp_iret d_M_ofItsOwn_313 rfl
                                      · skip
                                        refine hp_ite (fun c19 => ?_) (fun c19 => ?_)
                                        · refine hp_tabI (tgt := 311) (kv := 19) d_M_ofItsOwn_13 c19 (by decide) (by decide) rfl (by decide) ?_
                                          refine hp_bipush (v := -2) d_M_ofItsOwn_311 (by decide) ?_
                                          exact hp_iret d_M_ofItsOwn_313 rfl
                                        · skip
                                          refine hp_ite (fun c20 => ?_) (fun c20 => ?_)
                                          · refine hp_tabI (tgt := 311) (kv := 20) d_M_ofItsOwn_13 c20 (by decide) (by decide) rfl (by decide) ?_
                                            refine hp_bipush (v := -2) d_M_ofItsOwn_311 (by decide) ?_
                                            exact hp_iret d_M_ofItsOwn_313 rfl
                                          · skip
                                            refine hp_ite (fun c21 => ?_) (fun c21 => ?_)
                                            · refine hp_tabI (tgt := 311) (kv := 21) d_M_ofItsOwn_13 c21 (by decide) (by decide) rfl (by decide) ?_
                                              refine hp_bipush (v := -2) d_M_ofItsOwn_311 (by decide) ?_
                                              exact hp_iret d_M_ofItsOwn_313 rfl
                                            · skip
                                              refine hp_ite (fun c22 => ?_) (fun c22 => ?_)
                                              · refine hp_tabI (tgt := 220) (kv := 22) d_M_ofItsOwn_13 c22 (by decide) (by decide) rfl (by decide) ?_
                                                refine hp_aload_n (x0 := 1) d_M_ofItsOwn_220 rfl rfl ?_
                                                refine hp_aload_n (x0 := 1) d_M_ofItsOwn_221 rfl rfl ?_
                                                refine hp_getR fl_M_60 d_M_ofItsOwn_222 fun x20 => ?_
                                                refine hp_iload_n (x0 := 3) d_M_ofItsOwn_225 rfl rfl ?_
                                                refine hp_iald d_M_ofItsOwn_226 fun x21 => ?_
                                                refine hp_callI (hp_crV (ci := 8) (t_M_truthOf _ _ _ _) cw_M_244 rfl ⟨w_1112, ws_57⟩ (by decide) rfl rfl (Nat.le_of_ble_eq_true rfl) d_M_ofItsOwn_227) fun q22 => ?_
                                                refine hp_istore (fun x23 => [(4, .int x23), (3, .int x3), (0, .ref a0), (1, .int a1), (2, .int a2)]) d_M_ofItsOwn_230 (by decide) (fun _ => rfl) fun x23 => ?_
                                                refine hp_iload (x0 := 0) d_M_ofItsOwn_232 rfl ?_
                                                refine hp_if_ge (tgt := 242) d_M_ofItsOwn_234 (by decide) ?_ ?_
                                                · refine hp_aload_n (x0 := 2) d_M_ofItsOwn_242 rfl rfl ?_
                                                  refine hp_getR fl_M_60 d_M_ofItsOwn_243 fun x24 => ?_
                                                  refine hp_iload_n (x0 := 4) d_M_ofItsOwn_246 rfl rfl ?_
                                                  refine hp_iconst (v := 2) d_M_ofItsOwn_247 (by decide) ?_
                                                  refine hp_iadd d_M_ofItsOwn_248 ?_
                                                  refine hp_iload (x0 := 0) d_M_ofItsOwn_249 rfl ?_
                                                  refine hp_isub d_M_ofItsOwn_251 ?_
                                                  refine hp_iald d_M_ofItsOwn_252 fun x25 => ?_
                                                  refine hp_sub [] rfl ?_
                                                  exact j_M_ofItsOwn_253  _ _
                                                · refine hp_bipush (v := -4) d_M_ofItsOwn_237 (by decide) ?_
                                                  refine hp_goto (tgt := 253) d_M_ofItsOwn_239 (by decide) ?_
                                                  refine hp_sub [] rfl ?_
                                                  exact j_M_ofItsOwn_253  _ _
                                              · skip
                                                refine hp_ite (fun c23 => ?_) (fun c23 => ?_)
                                                · refine hp_tabI (tgt := 254) (kv := 23) d_M_ofItsOwn_13 c23 (by decide) (by decide) rfl (by decide) ?_
                                                  refine hp_iconst (v := 0) d_M_ofItsOwn_254 (by decide) ?_
                                                  refine hp_istore (fun x26 => [(5, .int x26), (3, .int x3), (0, .ref a0), (1, .int a1), (2, .int a2)]) d_M_ofItsOwn_255 (by decide) (fun _ => rfl) fun x26 => ?_
                                                  refine hp_sub [2, 4, 1, 0] rfl ?_
                                                  exact j_M_ofItsOwn_257  hp_fu _ _ _ _ _
                                                · skip
                                                  refine hp_ite (fun c24 => ?_) (fun c24 => ?_)
                                                  · refine hp_tabI (tgt := 304) (kv := 24) d_M_ofItsOwn_13 c24 (by decide) (by decide) rfl (by decide) ?_
                                                    refine hp_aload_n (x0 := 1) d_M_ofItsOwn_304 rfl rfl ?_
                                                    refine hp_iload_n (x0 := 3) d_M_ofItsOwn_305 rfl rfl ?_
                                                    refine hp_iload_n (x0 := 0) d_M_ofItsOwn_306 rfl rfl ?_
                                                    refine hp_callI (hp_crV (ci := 8) (t_M_isIn _ _ _ _ _) cw_M_256 rfl ⟨w_1123, ws_59⟩ (by decide) rfl rfl (Nat.le_of_ble_eq_true rfl) d_M_ofItsOwn_307) fun q27 => ?_
                                                    exact hp_iret d_M_ofItsOwn_310 rfl
                                                  · skip
                                                    refine hp_tabD (tgt := 311) d_M_ofItsOwn_13 (by have e0 := lv_neT c0 (a := 0) (by decide); have e1 := lv_neT c1 (a := 1) (by decide); have e2 := lv_neT c2 (a := 2) (by decide); have e3 := lv_neT c3 (a := 3) (by decide); have e4 := lv_neT c4 (a := 4) (by decide); have e5 := lv_neT c5 (a := 5) (by decide); have e6 := lv_neT c6 (a := 6) (by decide); have e7 := lv_neT c7 (a := 7) (by decide); have e8 := lv_neT c8 (a := 8) (by decide); have e9 := lv_neT c9 (a := 9) (by decide); have e10 := lv_neT c10 (a := 10) (by decide); have e11 := lv_neT c11 (a := 11) (by decide); have e12 := lv_neT c12 (a := 12) (by decide); have e13 := lv_neT c13 (a := 13) (by decide); have e14 := lv_neT c14 (a := 14) (by decide); have e15 := lv_neT c15 (a := 15) (by decide); have e16 := lv_neT c16 (a := 16) (by decide); have e17 := lv_neT c17 (a := 17) (by decide); have e18 := lv_neT c18 (a := 18) (by decide); have e19 := lv_neT c19 (a := 19) (by decide); have e20 := lv_neT c20 (a := 20) (by decide); have e21 := lv_neT c21 (a := 21) (by decide); have e22 := lv_neT c22 (a := 22) (by decide); have e23 := lv_neT c23 (a := 23) (by decide); have e24 := lv_neT c24 (a := 24) (by decide); omega) (by decide) ?_
                                                    refine hp_bipush (v := -2) d_M_ofItsOwn_311 (by decide) ?_
                                                    exact hp_iret d_M_ofItsOwn_313 rfl
theorem t_M_ofItsOwn (l : Launch) (E : hp_E) (a0 : Nat) (a1 : Int32) (a2 : Int32) : hp_M l E y_M_ofItsOwn Y_M_ofItsOwn hp_rI [.ref a0, .int a1, .int a2] (m_M_ofItsOwn E.2.2.1 a0 a1 a2) := hp_M.of (by decide +kernel) ⟨rfl, rfl⟩ (Nat.le_of_ble_eq_true rfl) (fun Z h hE => by subst hE; exact j_M_ofItsOwn_0 _ _ _ h)
-- M_isPlain
theorem d_M_isPlain_0 : decode prog_9_method_45_code 0 = .ok (.aload_n 0, 1) := by decide +kernel
theorem d_M_isPlain_1 : decode prog_9_method_45_code 1 = .ok (.getfield 7, 3) := by decide +kernel
theorem d_M_isPlain_4 : decode prog_9_method_45_code 4 = .ok (.iload_n 1, 1) := by decide +kernel
theorem d_M_isPlain_5 : decode prog_9_method_45_code 5 = .ok (.iaload, 1) := by decide +kernel
theorem d_M_isPlain_6 : decode prog_9_method_45_code 6 = .ok (.iconst 5, 1) := by decide +kernel
theorem d_M_isPlain_7 : decode prog_9_method_45_code 7 = .ok (.if_icmp .eq 14, 3) := by decide +kernel
theorem d_M_isPlain_10 : decode prog_9_method_45_code 10 = .ok (.aload_n 0, 1) := by decide +kernel
theorem d_M_isPlain_11 : decode prog_9_method_45_code 11 = .ok (.getfield 7, 3) := by decide +kernel
theorem d_M_isPlain_14 : decode prog_9_method_45_code 14 = .ok (.iload_n 1, 1) := by decide +kernel
theorem d_M_isPlain_15 : decode prog_9_method_45_code 15 = .ok (.iaload, 1) := by decide +kernel
theorem d_M_isPlain_16 : decode prog_9_method_45_code 16 = .ok (.bipush 6, 2) := by decide +kernel
theorem d_M_isPlain_18 : decode prog_9_method_45_code 18 = .ok (.if_icmp .ne 7, 3) := by decide +kernel
theorem d_M_isPlain_21 : decode prog_9_method_45_code 21 = .ok (.iconst 1, 1) := by decide +kernel
theorem d_M_isPlain_22 : decode prog_9_method_45_code 22 = .ok (.goto 4, 3) := by decide +kernel
theorem d_M_isPlain_25 : decode prog_9_method_45_code 25 = .ok (.iconst 0, 1) := by decide +kernel
theorem d_M_isPlain_26 : decode prog_9_method_45_code 26 = .ok (.ireturn, 1) := by decide +kernel
def m_M_isPlain_26 (G : Nat → Nat) (s0 : Int32) (h : hp_H) : Option (Int32 × hp_H) := hp_z s0 h
set_option maxRecDepth 100000 in
set_option maxHeartbeats 4000000 in
theorem j_M_isPlain_26 {Z : hp_Z} (s0 : Int32) (h : hp_H) : hp_J Y_M_isPlain Z hp_rI h 26 [] [.int s0] (m_M_isPlain_26 (hp_G Z)  s0 h) := by
  unfold m_M_isPlain_26
  exact hp_zret d_M_isPlain_26 rfl
def m_M_isPlain_21 (G : Nat → Nat) (h : hp_H) : Option (Int32 × hp_H) := m_M_isPlain_26 G (1 : Int32) h
set_option maxRecDepth 100000 in
set_option maxHeartbeats 4000000 in
theorem j_M_isPlain_21 {Z : hp_Z} (h : hp_H) : hp_J Y_M_isPlain Z hp_rI h 21 [] [] (m_M_isPlain_21 (hp_G Z)   h) := by
  unfold m_M_isPlain_21
  refine hp_iconst (v := 1) d_M_isPlain_21 (by decide) ?_
  refine hp_goto (tgt := 26) d_M_isPlain_22 (by decide) ?_
  exact j_M_isPlain_26  _ _
def m_M_isPlain (G : Nat → Nat) (a0 : Nat) (a1 : Int32) (h : hp_H) : Option (Int32 × hp_H) := (hp_gR h a0 8 1).bind fun x1 => (hp_aI h .int x1 a1).bind fun x2 => if x2 = (5 : Int32) then (m_M_isPlain_21 G h) else ((hp_gR h a0 8 1).bind fun x3 => (hp_aI h .int x3 a1).bind fun x4 => if x4 = (6 : Int32) then (m_M_isPlain_21 G h) else (m_M_isPlain_26 G (0 : Int32) h))
set_option maxRecDepth 100000 in
set_option maxHeartbeats 4000000 in
theorem j_M_isPlain_0 {Z : hp_Z} (a0 : Nat) (a1 : Int32) (h : hp_H) : hp_J Y_M_isPlain Z hp_rI h 0 [(0, .ref a0), (1, .int a1)] [] (m_M_isPlain (hp_G Z)  a0 a1 h) := by
  unfold m_M_isPlain
  refine hp_aload_n (x0 := 0) d_M_isPlain_0 rfl rfl ?_
  refine hp_getR fl_M_7 d_M_isPlain_1 fun x1 => ?_
  refine hp_iload_n (x0 := 1) d_M_isPlain_4 rfl rfl ?_
  refine hp_iald d_M_isPlain_5 fun x2 => ?_
  refine hp_iconst (v := 5) d_M_isPlain_6 (by decide) ?_
  refine hp_icmp_eq (tgt := 21) d_M_isPlain_7 (by decide) ?_ ?_
  · refine hp_sub [] rfl ?_
    exact j_M_isPlain_21   _
  · refine hp_aload_n (x0 := 0) d_M_isPlain_10 rfl rfl ?_
    refine hp_getR fl_M_7 d_M_isPlain_11 fun x3 => ?_
    refine hp_iload_n (x0 := 1) d_M_isPlain_14 rfl rfl ?_
    refine hp_iald d_M_isPlain_15 fun x4 => ?_
    refine hp_bipush (v := 6) d_M_isPlain_16 (by decide) ?_
    refine hp_icmp_ne (tgt := 25) d_M_isPlain_18 (by decide) ?_ ?_
    · refine hp_sub [] rfl ?_
      exact j_M_isPlain_21   _
    · refine hp_iconst (v := 0) d_M_isPlain_25 (by decide) ?_
      refine hp_sub [] rfl ?_
      exact j_M_isPlain_26  _ _
theorem t_M_isPlain (l : Launch) (E : hp_E) (a0 : Nat) (a1 : Int32) : hp_M l E y_M_isPlain Y_M_isPlain hp_rI [.ref a0, .int a1] (m_M_isPlain E.2.2.1 a0 a1) := hp_M.of (by decide +kernel) ⟨rfl, rfl⟩ (Nat.le_of_ble_eq_true rfl) (fun Z h hE => by subst hE; exact j_M_isPlain_0 _ _ h)
-- M_cased
theorem d_M_cased_0 : decode prog_9_method_57_code 0 = .ok (.aload_n 0, 1) := by decide +kernel
theorem d_M_cased_1 : decode prog_9_method_57_code 1 = .ok (.iload_n 1, 1) := by decide +kernel
theorem d_M_cased_2 : decode prog_9_method_57_code 2 = .ok (.invokevirtual 217, 3) := by decide +kernel
theorem d_M_cased_5 : decode prog_9_method_57_code 5 = .ok (.ifCond .ne 6, 3) := by decide +kernel
theorem d_M_cased_8 : decode prog_9_method_57_code 8 = .ok (.bipush (-4), 2) := by decide +kernel
theorem d_M_cased_10 : decode prog_9_method_57_code 10 = .ok (.ireturn, 1) := by decide +kernel
theorem d_M_cased_11 : decode prog_9_method_57_code 11 = .ok (.iload_n 2, 1) := by decide +kernel
theorem d_M_cased_12 : decode prog_9_method_57_code 12 = .ok (.bipush 27, 2) := by decide +kernel
theorem d_M_cased_14 : decode prog_9_method_57_code 14 = .ok (.if_icmp .ne 8, 3) := by decide +kernel
theorem d_M_cased_17 : decode prog_9_method_57_code 17 = .ok (.bipush 97, 2) := by decide +kernel
theorem d_M_cased_19 : decode prog_9_method_57_code 19 = .ok (.goto 5, 3) := by decide +kernel
theorem d_M_cased_22 : decode prog_9_method_57_code 22 = .ok (.bipush 65, 2) := by decide +kernel
theorem d_M_cased_24 : decode prog_9_method_57_code 24 = .ok (.istore_n 3, 1) := by decide +kernel
theorem d_M_cased_25 : decode prog_9_method_57_code 25 = .ok (.aload_n 0, 1) := by decide +kernel
theorem d_M_cased_26 : decode prog_9_method_57_code 26 = .ok (.aload_n 0, 1) := by decide +kernel
theorem d_M_cased_27 : decode prog_9_method_57_code 27 = .ok (.getfield 7, 3) := by decide +kernel
theorem d_M_cased_30 : decode prog_9_method_57_code 30 = .ok (.iload_n 1, 1) := by decide +kernel
theorem d_M_cased_31 : decode prog_9_method_57_code 31 = .ok (.iaload, 1) := by decide +kernel
theorem d_M_cased_32 : decode prog_9_method_57_code 32 = .ok (.aload_n 0, 1) := by decide +kernel
theorem d_M_cased_33 : decode prog_9_method_57_code 33 = .ok (.getfield 13, 3) := by decide +kernel
theorem d_M_cased_36 : decode prog_9_method_57_code 36 = .ok (.iload_n 1, 1) := by decide +kernel
theorem d_M_cased_37 : decode prog_9_method_57_code 37 = .ok (.iaload, 1) := by decide +kernel
theorem d_M_cased_38 : decode prog_9_method_57_code 38 = .ok (.invokevirtual 103, 3) := by decide +kernel
theorem d_M_cased_41 : decode prog_9_method_57_code 41 = .ok (.iconst 0, 1) := by decide +kernel
theorem d_M_cased_42 : decode prog_9_method_57_code 42 = .ok (.istore 4, 2) := by decide +kernel
theorem d_M_cased_44 : decode prog_9_method_57_code 44 = .ok (.iload 4, 2) := by decide +kernel
theorem d_M_cased_46 : decode prog_9_method_57_code 46 = .ok (.aload_n 0, 1) := by decide +kernel
theorem d_M_cased_47 : decode prog_9_method_57_code 47 = .ok (.getfield 26, 3) := by decide +kernel
theorem d_M_cased_50 : decode prog_9_method_57_code 50 = .ok (.iload_n 1, 1) := by decide +kernel
theorem d_M_cased_51 : decode prog_9_method_57_code 51 = .ok (.iaload, 1) := by decide +kernel
theorem d_M_cased_52 : decode prog_9_method_57_code 52 = .ok (.if_icmp .ge 52, 3) := by decide +kernel
theorem d_M_cased_55 : decode prog_9_method_57_code 55 = .ok (.aload_n 0, 1) := by decide +kernel
theorem d_M_cased_56 : decode prog_9_method_57_code 56 = .ok (.getfield 30, 3) := by decide +kernel
theorem d_M_cased_59 : decode prog_9_method_57_code 59 = .ok (.bipush 64, 2) := by decide +kernel
theorem d_M_cased_61 : decode prog_9_method_57_code 61 = .ok (.iload_n 1, 1) := by decide +kernel
theorem d_M_cased_62 : decode prog_9_method_57_code 62 = .ok (.imul, 1) := by decide +kernel
theorem d_M_cased_63 : decode prog_9_method_57_code 63 = .ok (.iload 4, 2) := by decide +kernel
theorem d_M_cased_65 : decode prog_9_method_57_code 65 = .ok (.iadd, 1) := by decide +kernel
theorem d_M_cased_66 : decode prog_9_method_57_code 66 = .ok (.iaload, 1) := by decide +kernel
theorem d_M_cased_67 : decode prog_9_method_57_code 67 = .ok (.istore 5, 2) := by decide +kernel
theorem d_M_cased_69 : decode prog_9_method_57_code 69 = .ok (.aload_n 0, 1) := by decide +kernel
theorem d_M_cased_70 : decode prog_9_method_57_code 70 = .ok (.iload 5, 2) := by decide +kernel
theorem d_M_cased_72 : decode prog_9_method_57_code 72 = .ok (.iload_n 3, 1) := by decide +kernel
theorem d_M_cased_73 : decode prog_9_method_57_code 73 = .ok (.if_icmp .lt 20, 3) := by decide +kernel
theorem d_M_cased_76 : decode prog_9_method_57_code 76 = .ok (.iload 5, 2) := by decide +kernel
theorem d_M_cased_78 : decode prog_9_method_57_code 78 = .ok (.iload_n 3, 1) := by decide +kernel
theorem d_M_cased_79 : decode prog_9_method_57_code 79 = .ok (.bipush 26, 2) := by decide +kernel
theorem d_M_cased_81 : decode prog_9_method_57_code 81 = .ok (.iadd, 1) := by decide +kernel
theorem d_M_cased_82 : decode prog_9_method_57_code 82 = .ok (.if_icmp .ge 11, 3) := by decide +kernel
theorem d_M_cased_85 : decode prog_9_method_57_code 85 = .ok (.iload 5, 2) := by decide +kernel
theorem d_M_cased_87 : decode prog_9_method_57_code 87 = .ok (.bipush 32, 2) := by decide +kernel
theorem d_M_cased_89 : decode prog_9_method_57_code 89 = .ok (.ixor, 1) := by decide +kernel
theorem d_M_cased_90 : decode prog_9_method_57_code 90 = .ok (.goto 5, 3) := by decide +kernel
theorem d_M_cased_93 : decode prog_9_method_57_code 93 = .ok (.iload 5, 2) := by decide +kernel
theorem d_M_cased_95 : decode prog_9_method_57_code 95 = .ok (.invokevirtual 157, 3) := by decide +kernel
theorem d_M_cased_98 : decode prog_9_method_57_code 98 = .ok (.iinc 4 1, 3) := by decide +kernel
theorem d_M_cased_101 : decode prog_9_method_57_code 101 = .ok (.goto (-57), 3) := by decide +kernel
theorem d_M_cased_104 : decode prog_9_method_57_code 104 = .ok (.aload_n 0, 1) := by decide +kernel
theorem d_M_cased_105 : decode prog_9_method_57_code 105 = .ok (.invokevirtual 111, 3) := by decide +kernel
theorem d_M_cased_108 : decode prog_9_method_57_code 108 = .ok (.ireturn, 1) := by decide +kernel
def m_M_cased_95 (G : Nat → Nat) (r44 : Nat → Int32 → Int32 → Int32 → hp_H → Option (Int32 × hp_H)) (a0 : Nat) (a1 : Int32) (a3 : Int32) (a4 : Int32) (s0 : Int32) (s1 : Nat) (h : hp_H) : Option (Int32 × hp_H) := (hp_vck h s1 8 (m_M_letter G s1 s0 h)).bind fun q1 => hp_nm (a4 + 1) fun x2 => r44 a0 a1 a3 x2 q1.2
set_option maxRecDepth 100000 in
set_option maxHeartbeats 4000000 in
theorem j_M_cased_95 {Z : hp_Z} (r44 : Nat → Int32 → Int32 → Int32 → hp_H → Option (Int32 × hp_H)) (hr44 : ∀ (a0 : Nat) (a1 : Int32) (a3 : Int32) (a4 : Int32) (h : hp_H), hp_J Y_M_cased Z hp_rI h 44 [(0, .ref a0), (1, .int a1), (3, .int a3), (4, .int a4)] [] (r44 a0 a1 a3 a4  h)) (a0 : Nat) (a1 : Int32) (a3 : Int32) (a4 : Int32) (s0 : Int32) (s1 : Nat) (h : hp_H) : hp_J Y_M_cased Z hp_rI h 95 [(0, .ref a0), (1, .int a1), (3, .int a3), (4, .int a4)] [.int s0, .ref s1] (m_M_cased_95 (hp_G Z) r44 a0 a1 a3 a4 s0 s1 h) := by
  unfold m_M_cased_95
  refine hp_callU (hp_crV (ci := 8) (t_M_letter _ _ _ _) cw_M_157 rfl ⟨w_1016, ws_43⟩ (by decide) rfl rfl (Nat.le_of_ble_eq_true rfl) d_M_cased_95) fun q1 => ?_
  refine hp_iinc (x0 := 3) (d := 1) (fun x2 => [(4, .int x2), (0, .ref a0), (1, .int a1), (3, .int a3)]) d_M_cased_98 rfl (by decide) (by decide) (fun _ => rfl) fun x2 => ?_
  refine hp_goto (tgt := 44) d_M_cased_101 (by decide) ?_
  refine hp_sub [1, 2, 3, 0] rfl ?_
  exact hr44 _ _ _ _ _
def m_M_cased_93 (G : Nat → Nat) (r44 : Nat → Int32 → Int32 → Int32 → hp_H → Option (Int32 × hp_H)) (a0 : Nat) (a1 : Int32) (a3 : Int32) (a4 : Int32) (a5 : Int32) (s0 : Nat) (h : hp_H) : Option (Int32 × hp_H) := m_M_cased_95 G r44 a0 a1 a3 a4 a5 s0 h
set_option maxRecDepth 100000 in
set_option maxHeartbeats 4000000 in
theorem j_M_cased_93 {Z : hp_Z} (r44 : Nat → Int32 → Int32 → Int32 → hp_H → Option (Int32 × hp_H)) (hr44 : ∀ (a0 : Nat) (a1 : Int32) (a3 : Int32) (a4 : Int32) (h : hp_H), hp_J Y_M_cased Z hp_rI h 44 [(0, .ref a0), (1, .int a1), (3, .int a3), (4, .int a4)] [] (r44 a0 a1 a3 a4  h)) (a0 : Nat) (a1 : Int32) (a3 : Int32) (a4 : Int32) (a5 : Int32) (s0 : Nat) (h : hp_H) : hp_J Y_M_cased Z hp_rI h 93 [(0, .ref a0), (1, .int a1), (3, .int a3), (4, .int a4), (5, .int a5)] [.ref s0] (m_M_cased_93 (hp_G Z) r44 a0 a1 a3 a4 a5 s0 h) := by
  unfold m_M_cased_93
  refine hp_iload (x0 := 4) d_M_cased_93 rfl ?_
  refine hp_sub [0, 1, 2, 3] rfl ?_
  exact j_M_cased_95 _ hr44 _ _ _ _ _ _ _
def m_M_cased_44 (G : Nat → Nat) : Nat → Nat → Int32 → Int32 → Int32 → hp_H → Option (Int32 × hp_H)
  | 0, _, _, _, _, _ => none
  | n + 1, a0, a1, a3, a4, h => (hp_gR h a0 8 6).bind fun x1 => (hp_aI h .int x1 a1).bind fun x2 => if x2 ≤ a4 then ((hp_vck h a0 8 (m_M_keep G a0 h)).bind fun q3 => some (q3.1, q3.2)) else ((hp_gR h a0 8 7).bind fun x4 => (hp_aI h .int x4 (((64 : Int32) * a1) + a4)).bind fun x5 => hp_nm x5 fun x6 => if x6 < a3 then (m_M_cased_93 G (m_M_cased_44 G  n) a0 a1 a3 a4 x6 a0 h) else (if (a3 + (26 : Int32)) ≤ x6 then (m_M_cased_93 G (m_M_cased_44 G  n) a0 a1 a3 a4 x6 a0 h) else (m_M_cased_95 G (m_M_cased_44 G  n) a0 a1 a3 a4 (x6 ^^^ (32 : Int32)) a0 h)))
set_option maxRecDepth 100000 in
set_option maxHeartbeats 4000000 in
theorem j_M_cased_44 {Z : hp_Z} : ∀ (n : Nat) (a0 : Nat) (a1 : Int32) (a3 : Int32) (a4 : Int32) (h : hp_H), hp_J Y_M_cased Z hp_rI h 44 [(0, .ref a0), (1, .int a1), (3, .int a3), (4, .int a4)] [] (m_M_cased_44 (hp_G Z)  n a0 a1 a3 a4 h) := by
  intro n
  induction n with
  | zero => intro a0 a1 a3 a4 h; exact hp_fail
  | succ n ih =>
    intro a0 a1 a3 a4 h
    rw [m_M_cased_44]
    refine hp_iload (x0 := 3) d_M_cased_44 rfl ?_
    refine hp_aload_n (x0 := 0) d_M_cased_46 rfl rfl ?_
    refine hp_getR fl_M_26 d_M_cased_47 fun x1 => ?_
    refine hp_iload_n (x0 := 1) d_M_cased_50 rfl rfl ?_
    refine hp_iald d_M_cased_51 fun x2 => ?_
    refine hp_icmp_ge (tgt := 104) d_M_cased_52 (by decide) ?_ ?_
    · refine hp_aload_n (x0 := 0) d_M_cased_104 rfl rfl ?_
      refine hp_callI (hp_crV (ci := 8) (t_M_keep _ _ _) cw_M_111 rfl ⟨w_992, ws_41⟩ (by decide) rfl rfl (Nat.le_of_ble_eq_true rfl) d_M_cased_105) fun q3 => ?_
      exact hp_iret d_M_cased_108 rfl
    · refine hp_aload_n (x0 := 0) d_M_cased_55 rfl rfl ?_
      refine hp_getR fl_M_30 d_M_cased_56 fun x4 => ?_
      refine hp_bipush (v := 64) d_M_cased_59 (by decide) ?_
      refine hp_iload_n (x0 := 1) d_M_cased_61 rfl rfl ?_
      refine hp_imul d_M_cased_62 ?_
      refine hp_iload (x0 := 3) d_M_cased_63 rfl ?_
      refine hp_iadd d_M_cased_65 ?_
      refine hp_iald d_M_cased_66 fun x5 => ?_
      refine hp_istore (fun x6 => [(5, .int x6), (0, .ref a0), (1, .int a1), (3, .int a3), (4, .int a4)]) d_M_cased_67 (by decide) (fun _ => rfl) fun x6 => ?_
      refine hp_aload_n (x0 := 1) d_M_cased_69 rfl rfl ?_
      refine hp_iload (x0 := 0) d_M_cased_70 rfl ?_
      refine hp_iload_n (x0 := 3) d_M_cased_72 rfl rfl ?_
      refine hp_icmp_lt (tgt := 93) d_M_cased_73 (by decide) ?_ ?_
      · refine hp_sub [1, 2, 3, 4, 0] rfl ?_
        exact j_M_cased_93 _ ih _ _ _ _ _ _ _
      · refine hp_iload (x0 := 0) d_M_cased_76 rfl ?_
        refine hp_iload_n (x0 := 3) d_M_cased_78 rfl rfl ?_
        refine hp_bipush (v := 26) d_M_cased_79 (by decide) ?_
        refine hp_iadd d_M_cased_81 ?_
        refine hp_icmp_ge (tgt := 93) d_M_cased_82 (by decide) ?_ ?_
        · refine hp_sub [1, 2, 3, 4, 0] rfl ?_
          exact j_M_cased_93 _ ih _ _ _ _ _ _ _
        · refine hp_iload (x0 := 0) d_M_cased_85 rfl ?_
          refine hp_bipush (v := 32) d_M_cased_87 (by decide) ?_
          refine hp_ixor d_M_cased_89 ?_
          refine hp_goto (tgt := 95) d_M_cased_90 (by decide) ?_
          refine hp_sub [1, 2, 3, 4] rfl ?_
          exact j_M_cased_95 _ ih _ _ _ _ _ _ _
def m_M_cased_24 (G : Nat → Nat) (a0 : Nat) (a1 : Int32) (s0 : Int32) (h : hp_H) : Option (Int32 × hp_H) := hp_nm s0 fun x1 => (hp_gR h a0 8 1).bind fun x2 => (hp_aI h .int x2 a1).bind fun x3 => (hp_gR h a0 8 2).bind fun x4 => (hp_aI h .int x4 a1).bind fun x5 => (hp_vck h a0 8 (m_M_start G a0 x3 x5 h)).bind fun q6 => hp_nm (0 : Int32) fun x7 => m_M_cased_44 G hp_fu a0 a1 x1 x7 q6.2
set_option maxRecDepth 100000 in
set_option maxHeartbeats 4000000 in
theorem j_M_cased_24 {Z : hp_Z} (a0 : Nat) (a1 : Int32) (s0 : Int32) (h : hp_H) : hp_J Y_M_cased Z hp_rI h 24 [(0, .ref a0), (1, .int a1)] [.int s0] (m_M_cased_24 (hp_G Z)  a0 a1 s0 h) := by
  unfold m_M_cased_24
  refine hp_istore_n (fun x1 => [(3, .int x1), (0, .ref a0), (1, .int a1)]) d_M_cased_24 rfl (by decide) (fun _ => rfl) fun x1 => ?_
  refine hp_aload_n (x0 := 1) d_M_cased_25 rfl rfl ?_
  refine hp_aload_n (x0 := 1) d_M_cased_26 rfl rfl ?_
  refine hp_getR fl_M_7 d_M_cased_27 fun x2 => ?_
  refine hp_iload_n (x0 := 2) d_M_cased_30 rfl rfl ?_
  refine hp_iald d_M_cased_31 fun x3 => ?_
  refine hp_aload_n (x0 := 1) d_M_cased_32 rfl rfl ?_
  refine hp_getR fl_M_13 d_M_cased_33 fun x4 => ?_
  refine hp_iload_n (x0 := 2) d_M_cased_36 rfl rfl ?_
  refine hp_iald d_M_cased_37 fun x5 => ?_
  refine hp_callU (hp_crV (ci := 8) (t_M_start _ _ _ _ _) cw_M_103 rfl ⟨w_985, ws_40⟩ (by decide) rfl rfl (Nat.le_of_ble_eq_true rfl) d_M_cased_38) fun q6 => ?_
  refine hp_iconst (v := 0) d_M_cased_41 (by decide) ?_
  refine hp_istore (fun x7 => [(4, .int x7), (3, .int x1), (0, .ref a0), (1, .int a1)]) d_M_cased_42 (by decide) (fun _ => rfl) fun x7 => ?_
  refine hp_sub [2, 3, 1, 0] rfl ?_
  exact j_M_cased_44  hp_fu _ _ _ _ _
def m_M_cased (G : Nat → Nat) (a0 : Nat) (a1 : Int32) (a2 : Int32) (h : hp_H) : Option (Int32 × hp_H) := (hp_vck h a0 8 (m_M_isPlain G a0 a1 h)).bind fun q1 => if q1.1 = 0 then (some ((-4 : Int32), q1.2)) else (if a2 = (27 : Int32) then (m_M_cased_24 G a0 a1 (97 : Int32) q1.2) else (m_M_cased_24 G a0 a1 (65 : Int32) q1.2))
set_option maxRecDepth 100000 in
set_option maxHeartbeats 4000000 in
theorem j_M_cased_0 {Z : hp_Z} (a0 : Nat) (a1 : Int32) (a2 : Int32) (h : hp_H) : hp_J Y_M_cased Z hp_rI h 0 [(0, .ref a0), (1, .int a1), (2, .int a2)] [] (m_M_cased (hp_G Z)  a0 a1 a2 h) := by
  unfold m_M_cased
  refine hp_aload_n (x0 := 0) d_M_cased_0 rfl rfl ?_
  refine hp_iload_n (x0 := 1) d_M_cased_1 rfl rfl ?_
  refine hp_callI (hp_crV (ci := 8) (t_M_isPlain _ _ _ _) cw_M_217 rfl ⟨w_1135, ws_62⟩ (by decide) rfl rfl (Nat.le_of_ble_eq_true rfl) d_M_cased_2) fun q1 => ?_
  refine hp_if_ne (tgt := 11) d_M_cased_5 (by decide) ?_ ?_
  · refine hp_bipush (v := -4) d_M_cased_8 (by decide) ?_
    exact hp_iret d_M_cased_10 rfl
  · refine hp_iload_n (x0 := 2) d_M_cased_11 rfl rfl ?_
    refine hp_bipush (v := 27) d_M_cased_12 (by decide) ?_
    refine hp_icmp_ne (tgt := 22) d_M_cased_14 (by decide) ?_ ?_
    · refine hp_bipush (v := 97) d_M_cased_17 (by decide) ?_
      refine hp_goto (tgt := 24) d_M_cased_19 (by decide) ?_
      refine hp_sub [0, 1] rfl ?_
      exact j_M_cased_24  _ _ _ _
    · refine hp_bipush (v := 65) d_M_cased_22 (by decide) ?_
      refine hp_sub [0, 1] rfl ?_
      exact j_M_cased_24  _ _ _ _
theorem t_M_cased (l : Launch) (E : hp_E) (a0 : Nat) (a1 : Int32) (a2 : Int32) : hp_M l E y_M_cased Y_M_cased hp_rI [.ref a0, .int a1, .int a2] (m_M_cased E.2.2.1 a0 a1 a2) := hp_M.of (by decide +kernel) ⟨rfl, rfl⟩ (Nat.le_of_ble_eq_true rfl) (fun Z h hE => by subst hE; exact j_M_cased_0 _ _ _ h)
-- M_digitsOf
theorem d_M_digitsOf_0 : decode prog_9_method_49_code 0 = .ok (.iconst 1, 1) := by decide +kernel
theorem d_M_digitsOf_1 : decode prog_9_method_49_code 1 = .ok (.istore_n 2, 1) := by decide +kernel
theorem d_M_digitsOf_2 : decode prog_9_method_49_code 2 = .ok (.iload_n 1, 1) := by decide +kernel
theorem d_M_digitsOf_3 : decode prog_9_method_49_code 3 = .ok (.iload_n 2, 1) := by decide +kernel
theorem d_M_digitsOf_4 : decode prog_9_method_49_code 4 = .ok (.idiv, 1) := by decide +kernel
theorem d_M_digitsOf_5 : decode prog_9_method_49_code 5 = .ok (.bipush 9, 2) := by decide +kernel
theorem d_M_digitsOf_7 : decode prog_9_method_49_code 7 = .ok (.if_icmp .le 11, 3) := by decide +kernel
theorem d_M_digitsOf_10 : decode prog_9_method_49_code 10 = .ok (.iload_n 2, 1) := by decide +kernel
theorem d_M_digitsOf_11 : decode prog_9_method_49_code 11 = .ok (.bipush 10, 2) := by decide +kernel
theorem d_M_digitsOf_13 : decode prog_9_method_49_code 13 = .ok (.imul, 1) := by decide +kernel
theorem d_M_digitsOf_14 : decode prog_9_method_49_code 14 = .ok (.istore_n 2, 1) := by decide +kernel
theorem d_M_digitsOf_15 : decode prog_9_method_49_code 15 = .ok (.goto (-13), 3) := by decide +kernel
theorem d_M_digitsOf_18 : decode prog_9_method_49_code 18 = .ok (.iload_n 2, 1) := by decide +kernel
theorem d_M_digitsOf_19 : decode prog_9_method_49_code 19 = .ok (.istore_n 3, 1) := by decide +kernel
theorem d_M_digitsOf_20 : decode prog_9_method_49_code 20 = .ok (.iload_n 3, 1) := by decide +kernel
theorem d_M_digitsOf_21 : decode prog_9_method_49_code 21 = .ok (.ifCond .le 24, 3) := by decide +kernel
theorem d_M_digitsOf_24 : decode prog_9_method_49_code 24 = .ok (.aload_n 0, 1) := by decide +kernel
theorem d_M_digitsOf_25 : decode prog_9_method_49_code 25 = .ok (.bipush 48, 2) := by decide +kernel
theorem d_M_digitsOf_27 : decode prog_9_method_49_code 27 = .ok (.iload_n 1, 1) := by decide +kernel
theorem d_M_digitsOf_28 : decode prog_9_method_49_code 28 = .ok (.iload_n 3, 1) := by decide +kernel
theorem d_M_digitsOf_29 : decode prog_9_method_49_code 29 = .ok (.idiv, 1) := by decide +kernel
theorem d_M_digitsOf_30 : decode prog_9_method_49_code 30 = .ok (.bipush 10, 2) := by decide +kernel
theorem d_M_digitsOf_32 : decode prog_9_method_49_code 32 = .ok (.irem, 1) := by decide +kernel
theorem d_M_digitsOf_33 : decode prog_9_method_49_code 33 = .ok (.iadd, 1) := by decide +kernel
theorem d_M_digitsOf_34 : decode prog_9_method_49_code 34 = .ok (.invokevirtual 157, 3) := by decide +kernel
theorem d_M_digitsOf_37 : decode prog_9_method_49_code 37 = .ok (.iload_n 3, 1) := by decide +kernel
theorem d_M_digitsOf_38 : decode prog_9_method_49_code 38 = .ok (.bipush 10, 2) := by decide +kernel
theorem d_M_digitsOf_40 : decode prog_9_method_49_code 40 = .ok (.idiv, 1) := by decide +kernel
theorem d_M_digitsOf_41 : decode prog_9_method_49_code 41 = .ok (.istore_n 3, 1) := by decide +kernel
theorem d_M_digitsOf_42 : decode prog_9_method_49_code 42 = .ok (.goto (-22), 3) := by decide +kernel
theorem d_M_digitsOf_45 : decode prog_9_method_49_code 45 = .ok (.return_, 1) := by decide +kernel
def m_M_digitsOf_20 (G : Nat → Nat) : Nat → Nat → Int32 → Int32 → hp_H → Option (Unit × hp_H)
  | 0, _, _, _, _ => none
  | n + 1, a0, a1, a3, h => if a3 ≤ 0 then (some ((), h)) else ((hp_dI a1 a3).bind fun x1 => (hp_mI x1 (10 : Int32)).bind fun x2 => (hp_vck h a0 8 (m_M_letter G a0 ((48 : Int32) + x2) h)).bind fun q3 => (hp_dI a3 (10 : Int32)).bind fun x4 => hp_nm x4 fun x5 => (m_M_digitsOf_20 G  n) a0 a1 x5 q3.2)
set_option maxRecDepth 100000 in
set_option maxHeartbeats 4000000 in
theorem j_M_digitsOf_20 {Z : hp_Z} : ∀ (n : Nat) (a0 : Nat) (a1 : Int32) (a3 : Int32) (h : hp_H), hp_J Y_M_digitsOf Z hp_rV h 20 [(0, .ref a0), (1, .int a1), (3, .int a3)] [] (m_M_digitsOf_20 (hp_G Z)  n a0 a1 a3 h) := by
  intro n
  induction n with
  | zero => intro a0 a1 a3 h; exact hp_fail
  | succ n ih =>
    intro a0 a1 a3 h
    rw [m_M_digitsOf_20]
    refine hp_iload_n (x0 := 2) d_M_digitsOf_20 rfl rfl ?_
    refine hp_if_le (tgt := 45) d_M_digitsOf_21 (by decide) ?_ ?_
    · exact hp_vret d_M_digitsOf_45 rfl
    · refine hp_aload_n (x0 := 0) d_M_digitsOf_24 rfl rfl ?_
      refine hp_bipush (v := 48) d_M_digitsOf_25 (by decide) ?_
      refine hp_iload_n (x0 := 1) d_M_digitsOf_27 rfl rfl ?_
      refine hp_iload_n (x0 := 2) d_M_digitsOf_28 rfl rfl ?_
      refine hp_idiv d_M_digitsOf_29 fun x1 => ?_
      refine hp_bipush (v := 10) d_M_digitsOf_30 (by decide) ?_
      refine hp_irem d_M_digitsOf_32 fun x2 => ?_
      refine hp_iadd d_M_digitsOf_33 ?_
      refine hp_callU (hp_crV (ci := 8) (t_M_letter _ _ _ _) cw_M_157 rfl ⟨w_1016, ws_43⟩ (by decide) rfl rfl (Nat.le_of_ble_eq_true rfl) d_M_digitsOf_34) fun q3 => ?_
      refine hp_iload_n (x0 := 2) d_M_digitsOf_37 rfl rfl ?_
      refine hp_bipush (v := 10) d_M_digitsOf_38 (by decide) ?_
      refine hp_idiv d_M_digitsOf_40 fun x4 => ?_
      refine hp_istore_n (fun x5 => [(3, .int x5), (0, .ref a0), (1, .int a1)]) d_M_digitsOf_41 rfl (by decide) (fun _ => rfl) fun x5 => ?_
      refine hp_goto (tgt := 20) d_M_digitsOf_42 (by decide) ?_
      refine hp_sub [1, 2, 0] rfl ?_
      exact ih _ _ _ _
def m_M_digitsOf_2 (G : Nat → Nat) : Nat → Nat → Int32 → Int32 → hp_H → Option (Unit × hp_H)
  | 0, _, _, _, _ => none
  | n + 1, a0, a1, a2, h => (hp_dI a1 a2).bind fun x1 => if x1 ≤ (9 : Int32) then (hp_nm a2 fun x2 => m_M_digitsOf_20 G hp_fu a0 a1 x2 h) else (hp_nm (a2 * (10 : Int32)) fun x3 => (m_M_digitsOf_2 G  n) a0 a1 x3 h)
set_option maxRecDepth 100000 in
set_option maxHeartbeats 4000000 in
theorem j_M_digitsOf_2 {Z : hp_Z} : ∀ (n : Nat) (a0 : Nat) (a1 : Int32) (a2 : Int32) (h : hp_H), hp_J Y_M_digitsOf Z hp_rV h 2 [(0, .ref a0), (1, .int a1), (2, .int a2)] [] (m_M_digitsOf_2 (hp_G Z)  n a0 a1 a2 h) := by
  intro n
  induction n with
  | zero => intro a0 a1 a2 h; exact hp_fail
  | succ n ih =>
    intro a0 a1 a2 h
    rw [m_M_digitsOf_2]
    refine hp_iload_n (x0 := 1) d_M_digitsOf_2 rfl rfl ?_
    refine hp_iload_n (x0 := 2) d_M_digitsOf_3 rfl rfl ?_
    refine hp_idiv d_M_digitsOf_4 fun x1 => ?_
    refine hp_bipush (v := 9) d_M_digitsOf_5 (by decide) ?_
    refine hp_icmp_le (tgt := 18) d_M_digitsOf_7 (by decide) ?_ ?_
    · refine hp_iload_n (x0 := 2) d_M_digitsOf_18 rfl rfl ?_
      refine hp_istore_n (fun x2 => [(3, .int x2), (0, .ref a0), (1, .int a1), (2, .int a2)]) d_M_digitsOf_19 rfl (by decide) (fun _ => rfl) fun x2 => ?_
      refine hp_sub [1, 2, 0] rfl ?_
      exact j_M_digitsOf_20  hp_fu _ _ _ _
    · refine hp_iload_n (x0 := 2) d_M_digitsOf_10 rfl rfl ?_
      refine hp_bipush (v := 10) d_M_digitsOf_11 (by decide) ?_
      refine hp_imul d_M_digitsOf_13 ?_
      refine hp_istore_n (fun x3 => [(2, .int x3), (0, .ref a0), (1, .int a1)]) d_M_digitsOf_14 rfl (by decide) (fun _ => rfl) fun x3 => ?_
      refine hp_goto (tgt := 2) d_M_digitsOf_15 (by decide) ?_
      refine hp_sub [1, 2, 0] rfl ?_
      exact ih _ _ _ _
def m_M_digitsOf (G : Nat → Nat) (a0 : Nat) (a1 : Int32) (h : hp_H) : Option (Unit × hp_H) := hp_nm (1 : Int32) fun x1 => m_M_digitsOf_2 G hp_fu a0 a1 x1 h
set_option maxRecDepth 100000 in
set_option maxHeartbeats 4000000 in
theorem j_M_digitsOf_0 {Z : hp_Z} (a0 : Nat) (a1 : Int32) (h : hp_H) : hp_J Y_M_digitsOf Z hp_rV h 0 [(0, .ref a0), (1, .int a1)] [] (m_M_digitsOf (hp_G Z)  a0 a1 h) := by
  unfold m_M_digitsOf
  refine hp_iconst (v := 1) d_M_digitsOf_0 (by decide) ?_
  refine hp_istore_n (fun x1 => [(2, .int x1), (0, .ref a0), (1, .int a1)]) d_M_digitsOf_1 rfl (by decide) (fun _ => rfl) fun x1 => ?_
  refine hp_sub [1, 2, 0] rfl ?_
  exact j_M_digitsOf_2  hp_fu _ _ _ _
theorem t_M_digitsOf (l : Launch) (E : hp_E) (a0 : Nat) (a1 : Int32) : hp_M l E y_M_digitsOf Y_M_digitsOf hp_rV [.ref a0, .int a1] (m_M_digitsOf E.2.2.1 a0 a1) := hp_M.of (by decide +kernel) ⟨rfl, rfl⟩ (Nat.le_of_ble_eq_true rfl) (fun Z h hE => by subst hE; exact j_M_digitsOf_0 _ _ h)
-- M_not
theorem d_M_not_0 : decode prog_9_method_43_code 0 = .ok (.iload_n 0, 1) := by decide +kernel
theorem d_M_not_1 : decode prog_9_method_43_code 1 = .ok (.ifCond .ge 8, 3) := by decide +kernel
theorem d_M_not_4 : decode prog_9_method_43_code 4 = .ok (.bipush (-4), 2) := by decide +kernel
theorem d_M_not_6 : decode prog_9_method_43_code 6 = .ok (.goto 6, 3) := by decide +kernel
theorem d_M_not_9 : decode prog_9_method_43_code 9 = .ok (.iconst 1, 1) := by decide +kernel
theorem d_M_not_10 : decode prog_9_method_43_code 10 = .ok (.iload_n 0, 1) := by decide +kernel
theorem d_M_not_11 : decode prog_9_method_43_code 11 = .ok (.isub, 1) := by decide +kernel
theorem d_M_not_12 : decode prog_9_method_43_code 12 = .ok (.ireturn, 1) := by decide +kernel
def m_M_not_12 (G : Nat → Nat) (s0 : Int32) (h : hp_H) : Option (Int32 × hp_H) := some (s0, h)
set_option maxRecDepth 100000 in
set_option maxHeartbeats 4000000 in
theorem j_M_not_12 {Z : hp_Z} (s0 : Int32) (h : hp_H) : hp_J Y_M_not Z hp_rI h 12 [] [.int s0] (m_M_not_12 (hp_G Z)  s0 h) := by
  unfold m_M_not_12
  exact hp_iret d_M_not_12 rfl
def m_M_not (G : Nat → Nat) (a0 : Int32) (h : hp_H) : Option (Int32 × hp_H) := if 0 ≤ a0 then (m_M_not_12 G ((1 : Int32) - a0) h) else (m_M_not_12 G (-4 : Int32) h)
set_option maxRecDepth 100000 in
set_option maxHeartbeats 4000000 in
theorem j_M_not_0 {Z : hp_Z} (a0 : Int32) (h : hp_H) : hp_J Y_M_not Z hp_rI h 0 [(0, .int a0)] [] (m_M_not (hp_G Z)  a0 h) := by
  unfold m_M_not
  refine hp_iload_n (x0 := 0) d_M_not_0 rfl rfl ?_
  refine hp_if_ge (tgt := 9) d_M_not_1 (by decide) ?_ ?_
  · refine hp_iconst (v := 1) d_M_not_9 (by decide) ?_
    refine hp_iload_n (x0 := 0) d_M_not_10 rfl rfl ?_
    refine hp_isub d_M_not_11 ?_
    refine hp_sub [] rfl ?_
    exact j_M_not_12  _ _
  · refine hp_bipush (v := -4) d_M_not_4 (by decide) ?_
    refine hp_goto (tgt := 12) d_M_not_6 (by decide) ?_
    refine hp_sub [] rfl ?_
    exact j_M_not_12  _ _
theorem t_M_not (l : Launch) (E : hp_E) (a0 : Int32) : hp_M l E y_M_not Y_M_not hp_rI [.int a0] (m_M_not E.2.2.1 a0) := hp_M.of (by decide +kernel) ⟨rfl, rfl⟩ (Nat.le_of_ble_eq_true rfl) (fun Z h hE => by subst hE; exact j_M_not_0 _ h)
-- M_turned
theorem d_M_turned_0 : decode prog_9_method_20_code 0 = .ok (.aload_n 0, 1) := by decide +kernel
theorem d_M_turned_1 : decode prog_9_method_20_code 1 = .ok (.iload_n 1, 1) := by decide +kernel
theorem d_M_turned_2 : decode prog_9_method_20_code 2 = .ok (.aload_n 0, 1) := by decide +kernel
theorem d_M_turned_3 : decode prog_9_method_20_code 3 = .ok (.getfield 42, 3) := by decide +kernel
theorem d_M_turned_6 : decode prog_9_method_20_code 6 = .ok (.invokevirtual 115, 3) := by decide +kernel
theorem d_M_turned_9 : decode prog_9_method_20_code 9 = .ok (.aload_n 0, 1) := by decide +kernel
theorem d_M_turned_10 : decode prog_9_method_20_code 10 = .ok (.aload_n 0, 1) := by decide +kernel
theorem d_M_turned_11 : decode prog_9_method_20_code 11 = .ok (.getfield 42, 3) := by decide +kernel
theorem d_M_turned_14 : decode prog_9_method_20_code 14 = .ok (.iload_n 2, 1) := by decide +kernel
theorem d_M_turned_15 : decode prog_9_method_20_code 15 = .ok (.ifCond .eq 13, 3) := by decide +kernel
theorem d_M_turned_18 : decode prog_9_method_20_code 18 = .ok (.aload_n 0, 1) := by decide +kernel
theorem d_M_turned_19 : decode prog_9_method_20_code 19 = .ok (.getfield 16, 3) := by decide +kernel
theorem d_M_turned_22 : decode prog_9_method_20_code 22 = .ok (.iload_n 1, 1) := by decide +kernel
theorem d_M_turned_23 : decode prog_9_method_20_code 23 = .ok (.iaload, 1) := by decide +kernel
theorem d_M_turned_24 : decode prog_9_method_20_code 24 = .ok (.ineg, 1) := by decide +kernel
theorem d_M_turned_25 : decode prog_9_method_20_code 25 = .ok (.goto 9, 3) := by decide +kernel
theorem d_M_turned_28 : decode prog_9_method_20_code 28 = .ok (.aload_n 0, 1) := by decide +kernel
theorem d_M_turned_29 : decode prog_9_method_20_code 29 = .ok (.getfield 16, 3) := by decide +kernel
theorem d_M_turned_32 : decode prog_9_method_20_code 32 = .ok (.iload_n 1, 1) := by decide +kernel
theorem d_M_turned_33 : decode prog_9_method_20_code 33 = .ok (.iaload, 1) := by decide +kernel
theorem d_M_turned_34 : decode prog_9_method_20_code 34 = .ok (.aload_n 0, 1) := by decide +kernel
theorem d_M_turned_35 : decode prog_9_method_20_code 35 = .ok (.getfield 7, 3) := by decide +kernel
theorem d_M_turned_38 : decode prog_9_method_20_code 38 = .ok (.iload_n 1, 1) := by decide +kernel
theorem d_M_turned_39 : decode prog_9_method_20_code 39 = .ok (.iaload, 1) := by decide +kernel
theorem d_M_turned_40 : decode prog_9_method_20_code 40 = .ok (.iconst 3, 1) := by decide +kernel
theorem d_M_turned_41 : decode prog_9_method_20_code 41 = .ok (.if_icmp .ne 7, 3) := by decide +kernel
theorem d_M_turned_44 : decode prog_9_method_20_code 44 = .ok (.iconst 1, 1) := by decide +kernel
theorem d_M_turned_45 : decode prog_9_method_20_code 45 = .ok (.goto 4, 3) := by decide +kernel
theorem d_M_turned_48 : decode prog_9_method_20_code 48 = .ok (.iconst 0, 1) := by decide +kernel
theorem d_M_turned_49 : decode prog_9_method_20_code 49 = .ok (.invokevirtual 127, 3) := by decide +kernel
theorem d_M_turned_52 : decode prog_9_method_20_code 52 = .ok (.ireturn, 1) := by decide +kernel
def m_M_turned_49 (G : Nat → Nat) (s0 : Int32) (s1 : Int32) (s2 : Nat) (s3 : Nat) (h : hp_H) : Option (Int32 × hp_H) := (hp_vck h s3 8 (m_M_number G s3 s2 s1 s0 h)).bind fun q1 => some (q1.1, q1.2)
set_option maxRecDepth 100000 in
set_option maxHeartbeats 4000000 in
theorem j_M_turned_49 {Z : hp_Z} (s0 : Int32) (s1 : Int32) (s2 : Nat) (s3 : Nat) (h : hp_H) : hp_J Y_M_turned Z hp_rI h 49 [] [.int s0, .int s1, .ref s2, .ref s3] (m_M_turned_49 (hp_G Z)  s0 s1 s2 s3 h) := by
  unfold m_M_turned_49
  refine hp_callI (hp_crV (ci := 8) (t_M_number _ _ _ _ _ _) cw_M_127 rfl ⟨w_981, ws_39⟩ (by decide) rfl rfl (Nat.le_of_ble_eq_true rfl) d_M_turned_49) fun q1 => ?_
  exact hp_iret d_M_turned_52 rfl
def m_M_turned_34 (G : Nat → Nat) (a0 : Nat) (a1 : Int32) (s0 : Int32) (s1 : Nat) (s2 : Nat) (h : hp_H) : Option (Int32 × hp_H) := (hp_gR h a0 8 1).bind fun x1 => (hp_aI h .int x1 a1).bind fun x2 => if x2 = (3 : Int32) then (m_M_turned_49 G (1 : Int32) s0 s1 s2 h) else (m_M_turned_49 G (0 : Int32) s0 s1 s2 h)
set_option maxRecDepth 100000 in
set_option maxHeartbeats 4000000 in
theorem j_M_turned_34 {Z : hp_Z} (a0 : Nat) (a1 : Int32) (s0 : Int32) (s1 : Nat) (s2 : Nat) (h : hp_H) : hp_J Y_M_turned Z hp_rI h 34 [(0, .ref a0), (1, .int a1)] [.int s0, .ref s1, .ref s2] (m_M_turned_34 (hp_G Z)  a0 a1 s0 s1 s2 h) := by
  unfold m_M_turned_34
  refine hp_aload_n (x0 := 0) d_M_turned_34 rfl rfl ?_
  refine hp_getR fl_M_7 d_M_turned_35 fun x1 => ?_
  refine hp_iload_n (x0 := 1) d_M_turned_38 rfl rfl ?_
  refine hp_iald d_M_turned_39 fun x2 => ?_
  refine hp_iconst (v := 3) d_M_turned_40 (by decide) ?_
  refine hp_icmp_ne (tgt := 48) d_M_turned_41 (by decide) ?_ ?_
  · refine hp_iconst (v := 1) d_M_turned_44 (by decide) ?_
    refine hp_goto (tgt := 49) d_M_turned_45 (by decide) ?_
    refine hp_sub [] rfl ?_
    exact j_M_turned_49  _ _ _ _ _
  · refine hp_iconst (v := 0) d_M_turned_48 (by decide) ?_
    refine hp_sub [] rfl ?_
    exact j_M_turned_49  _ _ _ _ _
def m_M_turned (G : Nat → Nat) (a0 : Nat) (a1 : Int32) (a2 : Int32) (h : hp_H) : Option (Int32 × hp_H) := (hp_gR h a0 8 17).bind fun x1 => (hp_vck h a0 8 (m_M_lay G a0 a1 x1 h)).bind fun q2 => (hp_gR q2.2 a0 8 17).bind fun x3 => if a2 = 0 then ((hp_gR q2.2 a0 8 3).bind fun x4 => (hp_aI q2.2 .int x4 a1).bind fun x5 => m_M_turned_34 G a0 a1 x5 x3 a0 q2.2) else ((hp_gR q2.2 a0 8 3).bind fun x6 => (hp_aI q2.2 .int x6 a1).bind fun x7 => m_M_turned_34 G a0 a1 (-x7) x3 a0 q2.2)
set_option maxRecDepth 100000 in
set_option maxHeartbeats 4000000 in
theorem j_M_turned_0 {Z : hp_Z} (a0 : Nat) (a1 : Int32) (a2 : Int32) (h : hp_H) : hp_J Y_M_turned Z hp_rI h 0 [(0, .ref a0), (1, .int a1), (2, .int a2)] [] (m_M_turned (hp_G Z)  a0 a1 a2 h) := by
  unfold m_M_turned
  refine hp_aload_n (x0 := 0) d_M_turned_0 rfl rfl ?_
  refine hp_iload_n (x0 := 1) d_M_turned_1 rfl rfl ?_
  refine hp_aload_n (x0 := 0) d_M_turned_2 rfl rfl ?_
  refine hp_getR fl_M_42 d_M_turned_3 fun x1 => ?_
  refine hp_callU (hp_crV (ci := 8) (t_M_lay _ _ _ _ _) cw_M_115 rfl ⟨w_1060, ws_49⟩ (by decide) rfl rfl (Nat.le_of_ble_eq_true rfl) d_M_turned_6) fun q2 => ?_
  refine hp_aload_n (x0 := 0) d_M_turned_9 rfl rfl ?_
  refine hp_aload_n (x0 := 0) d_M_turned_10 rfl rfl ?_
  refine hp_getR fl_M_42 d_M_turned_11 fun x3 => ?_
  refine hp_iload_n (x0 := 2) d_M_turned_14 rfl rfl ?_
  refine hp_if_eq (tgt := 28) d_M_turned_15 (by decide) ?_ ?_
  · refine hp_aload_n (x0 := 0) d_M_turned_28 rfl rfl ?_
    refine hp_getR fl_M_16 d_M_turned_29 fun x4 => ?_
    refine hp_iload_n (x0 := 1) d_M_turned_32 rfl rfl ?_
    refine hp_iald d_M_turned_33 fun x5 => ?_
    refine hp_sub [0, 1] rfl ?_
    exact j_M_turned_34  _ _ _ _ _ _
  · refine hp_aload_n (x0 := 0) d_M_turned_18 rfl rfl ?_
    refine hp_getR fl_M_16 d_M_turned_19 fun x6 => ?_
    refine hp_iload_n (x0 := 1) d_M_turned_22 rfl rfl ?_
    refine hp_iald d_M_turned_23 fun x7 => ?_
    refine hp_ineg d_M_turned_24 ?_
    refine hp_goto (tgt := 34) d_M_turned_25 (by decide) ?_
    refine hp_sub [0, 1] rfl ?_
    exact j_M_turned_34  _ _ _ _ _ _
theorem t_M_turned (l : Launch) (E : hp_E) (a0 : Nat) (a1 : Int32) (a2 : Int32) : hp_M l E y_M_turned Y_M_turned hp_rI [.ref a0, .int a1, .int a2] (m_M_turned E.2.2.1 a0 a1 a2) := hp_M.of (by decide +kernel) ⟨rfl, rfl⟩ (Nat.le_of_ble_eq_true rfl) (fun Z h hE => by subst hE; exact j_M_turned_0 _ _ _ h)
-- M_raise
theorem d_M_raise_0 : decode prog_9_method_11_code 0 = .ok (.iload_n 1, 1) := by decide +kernel
theorem d_M_raise_1 : decode prog_9_method_11_code 1 = .ok (.istore_n 2, 1) := by decide +kernel
theorem d_M_raise_2 : decode prog_9_method_11_code 2 = .ok (.aload_n 0, 1) := by decide +kernel
theorem d_M_raise_3 : decode prog_9_method_11_code 3 = .ok (.iload_n 2, 1) := by decide +kernel
theorem d_M_raise_4 : decode prog_9_method_11_code 4 = .ok (.iaload, 1) := by decide +kernel
theorem d_M_raise_5 : decode prog_9_method_11_code 5 = .ok (.bipush 9, 2) := by decide +kernel
theorem d_M_raise_7 : decode prog_9_method_11_code 7 = .ok (.if_icmp .ne 13, 3) := by decide +kernel
theorem d_M_raise_10 : decode prog_9_method_11_code 10 = .ok (.aload_n 0, 1) := by decide +kernel
theorem d_M_raise_11 : decode prog_9_method_11_code 11 = .ok (.iload_n 2, 1) := by decide +kernel
theorem d_M_raise_12 : decode prog_9_method_11_code 12 = .ok (.iconst 0, 1) := by decide +kernel
theorem d_M_raise_13 : decode prog_9_method_11_code 13 = .ok (.iastore, 1) := by decide +kernel
theorem d_M_raise_14 : decode prog_9_method_11_code 14 = .ok (.iinc 2 1, 3) := by decide +kernel
theorem d_M_raise_17 : decode prog_9_method_11_code 17 = .ok (.goto (-15), 3) := by decide +kernel
theorem d_M_raise_20 : decode prog_9_method_11_code 20 = .ok (.aload_n 0, 1) := by decide +kernel
theorem d_M_raise_21 : decode prog_9_method_11_code 21 = .ok (.iload_n 2, 1) := by decide +kernel
theorem d_M_raise_22 : decode prog_9_method_11_code 22 = .ok (.dup2, 1) := by decide +kernel
theorem d_M_raise_23 : decode prog_9_method_11_code 23 = .ok (.iaload, 1) := by decide +kernel
theorem d_M_raise_24 : decode prog_9_method_11_code 24 = .ok (.iconst 1, 1) := by decide +kernel
theorem d_M_raise_25 : decode prog_9_method_11_code 25 = .ok (.iadd, 1) := by decide +kernel
theorem d_M_raise_26 : decode prog_9_method_11_code 26 = .ok (.iastore, 1) := by decide +kernel
theorem d_M_raise_27 : decode prog_9_method_11_code 27 = .ok (.return_, 1) := by decide +kernel
def m_M_raise_2 (G : Nat → Nat) : Nat → Nat → Int32 → hp_H → Option (Unit × hp_H)
  | 0, _, _, _ => none
  | n + 1, a0, a2, h => (hp_aI h .int a0 a2).bind fun x1 => if x1 = (9 : Int32) then ((hp_sI h .int a0 a2 (0 : Int32)).bind fun h4 => hp_nm (a2 + 1) fun x5 => (m_M_raise_2 G  n) a0 x5 h4) else ((hp_aI h .int a0 a2).bind fun x2 => (hp_sI h .int a0 a2 (x2 + (1 : Int32))).bind fun h3 => some ((), h3))
set_option maxRecDepth 100000 in
set_option maxHeartbeats 4000000 in
theorem j_M_raise_2 {Z : hp_Z} : ∀ (n : Nat) (a0 : Nat) (a2 : Int32) (h : hp_H), hp_J Y_M_raise Z hp_rV h 2 [(0, .ref a0), (2, .int a2)] [] (m_M_raise_2 (hp_G Z)  n a0 a2 h) := by
  intro n
  induction n with
  | zero => intro a0 a2 h; exact hp_fail
  | succ n ih =>
    intro a0 a2 h
    rw [m_M_raise_2]
    refine hp_aload_n (x0 := 0) d_M_raise_2 rfl rfl ?_
    refine hp_iload_n (x0 := 1) d_M_raise_3 rfl rfl ?_
    refine hp_iald d_M_raise_4 fun x1 => ?_
    refine hp_bipush (v := 9) d_M_raise_5 (by decide) ?_
    refine hp_icmp_ne (tgt := 20) d_M_raise_7 (by decide) ?_ ?_
    · refine hp_aload_n (x0 := 0) d_M_raise_10 rfl rfl ?_
      refine hp_iload_n (x0 := 1) d_M_raise_11 rfl rfl ?_
      refine hp_iconst (v := 0) d_M_raise_12 (by decide) ?_
      refine hp_iast d_M_raise_13 fun h4 => ?_
      refine hp_iinc (x0 := 1) (d := 1) (fun x5 => [(2, .int x5), (0, .ref a0)]) d_M_raise_14 rfl (by decide) (by decide) (fun _ => rfl) fun x5 => ?_
      refine hp_goto (tgt := 2) d_M_raise_17 (by decide) ?_
      refine hp_sub [1, 0] rfl ?_
      exact ih _ _ _
    · refine hp_aload_n (x0 := 0) d_M_raise_20 rfl rfl ?_
      refine hp_iload_n (x0 := 1) d_M_raise_21 rfl rfl ?_
      refine hp_dup2_11 d_M_raise_22 rfl rfl ?_
      refine hp_iald d_M_raise_23 fun x2 => ?_
      refine hp_iconst (v := 1) d_M_raise_24 (by decide) ?_
      refine hp_iadd d_M_raise_25 ?_
      refine hp_iast d_M_raise_26 fun h3 => ?_
      exact hp_vret d_M_raise_27 rfl
def m_M_raise (G : Nat → Nat) (a0 : Nat) (a1 : Int32) (h : hp_H) : Option (Unit × hp_H) := hp_nm a1 fun x1 => m_M_raise_2 G hp_fu a0 x1 h
set_option maxRecDepth 100000 in
set_option maxHeartbeats 4000000 in
theorem j_M_raise_0 {Z : hp_Z} (a0 : Nat) (a1 : Int32) (h : hp_H) : hp_J Y_M_raise Z hp_rV h 0 [(0, .ref a0), (1, .int a1)] [] (m_M_raise (hp_G Z)  a0 a1 h) := by
  unfold m_M_raise
  refine hp_iload_n (x0 := 1) d_M_raise_0 rfl rfl ?_
  refine hp_istore_n (fun x1 => [(2, .int x1), (0, .ref a0), (1, .int a1)]) d_M_raise_1 rfl (by decide) (fun _ => rfl) fun x1 => ?_
  refine hp_sub [1, 0] rfl ?_
  exact j_M_raise_2  hp_fu _ _ _
theorem t_M_raise (l : Launch) (E : hp_E) (a0 : Nat) (a1 : Int32) : hp_M l E y_M_raise Y_M_raise hp_rV [.ref a0, .int a1] (m_M_raise E.2.2.1 a0 a1) := hp_M.of (by decide +kernel) ⟨rfl, rfl⟩ (Nat.le_of_ble_eq_true rfl) (fun Z h hE => by subst hE; exact j_M_raise_0 _ _ h)
-- M_wholeOf
theorem d_M_wholeOf_0 : decode prog_9_method_19_code 0 = .ok (.aload_n 0, 1) := by decide +kernel
theorem d_M_wholeOf_1 : decode prog_9_method_19_code 1 = .ok (.iload_n 1, 1) := by decide +kernel
theorem d_M_wholeOf_2 : decode prog_9_method_19_code 2 = .ok (.aload_n 0, 1) := by decide +kernel
theorem d_M_wholeOf_3 : decode prog_9_method_19_code 3 = .ok (.getfield 42, 3) := by decide +kernel
theorem d_M_wholeOf_6 : decode prog_9_method_19_code 6 = .ok (.invokevirtual 115, 3) := by decide +kernel
theorem d_M_wholeOf_9 : decode prog_9_method_19_code 9 = .ok (.iconst 0, 1) := by decide +kernel
theorem d_M_wholeOf_10 : decode prog_9_method_19_code 10 = .ok (.istore_n 3, 1) := by decide +kernel
theorem d_M_wholeOf_11 : decode prog_9_method_19_code 11 = .ok (.iconst 0, 1) := by decide +kernel
theorem d_M_wholeOf_12 : decode prog_9_method_19_code 12 = .ok (.istore 4, 2) := by decide +kernel
theorem d_M_wholeOf_14 : decode prog_9_method_19_code 14 = .ok (.iload 4, 2) := by decide +kernel
theorem d_M_wholeOf_16 : decode prog_9_method_19_code 16 = .ok (.bipush 18, 2) := by decide +kernel
theorem d_M_wholeOf_18 : decode prog_9_method_19_code 18 = .ok (.if_icmp .ge 29, 3) := by decide +kernel
theorem d_M_wholeOf_21 : decode prog_9_method_19_code 21 = .ok (.iload_n 3, 1) := by decide +kernel
theorem d_M_wholeOf_22 : decode prog_9_method_19_code 22 = .ok (.ifCond .ne 13, 3) := by decide +kernel
theorem d_M_wholeOf_25 : decode prog_9_method_19_code 25 = .ok (.aload_n 0, 1) := by decide +kernel
theorem d_M_wholeOf_26 : decode prog_9_method_19_code 26 = .ok (.getfield 42, 3) := by decide +kernel
theorem d_M_wholeOf_29 : decode prog_9_method_19_code 29 = .ok (.iload 4, 2) := by decide +kernel
theorem d_M_wholeOf_31 : decode prog_9_method_19_code 31 = .ok (.iaload, 1) := by decide +kernel
theorem d_M_wholeOf_32 : decode prog_9_method_19_code 32 = .ok (.ifCond .eq 7, 3) := by decide +kernel
theorem d_M_wholeOf_35 : decode prog_9_method_19_code 35 = .ok (.iconst 1, 1) := by decide +kernel
theorem d_M_wholeOf_36 : decode prog_9_method_19_code 36 = .ok (.goto 4, 3) := by decide +kernel
theorem d_M_wholeOf_39 : decode prog_9_method_19_code 39 = .ok (.iconst 0, 1) := by decide +kernel
theorem d_M_wholeOf_40 : decode prog_9_method_19_code 40 = .ok (.istore_n 3, 1) := by decide +kernel
theorem d_M_wholeOf_41 : decode prog_9_method_19_code 41 = .ok (.iinc 4 1, 3) := by decide +kernel
theorem d_M_wholeOf_44 : decode prog_9_method_19_code 44 = .ok (.goto (-30), 3) := by decide +kernel
theorem d_M_wholeOf_47 : decode prog_9_method_19_code 47 = .ok (.aload_n 0, 1) := by decide +kernel
theorem d_M_wholeOf_48 : decode prog_9_method_19_code 48 = .ok (.getfield 42, 3) := by decide +kernel
theorem d_M_wholeOf_51 : decode prog_9_method_19_code 51 = .ok (.bipush 17, 2) := by decide +kernel
theorem d_M_wholeOf_53 : decode prog_9_method_19_code 53 = .ok (.iaload, 1) := by decide +kernel
theorem d_M_wholeOf_54 : decode prog_9_method_19_code 54 = .ok (.iconst 5, 1) := by decide +kernel
theorem d_M_wholeOf_55 : decode prog_9_method_19_code 55 = .ok (.isub, 1) := by decide +kernel
theorem d_M_wholeOf_56 : decode prog_9_method_19_code 56 = .ok (.istore 4, 2) := by decide +kernel
theorem d_M_wholeOf_58 : decode prog_9_method_19_code 58 = .ok (.iload 4, 2) := by decide +kernel
theorem d_M_wholeOf_60 : decode prog_9_method_19_code 60 = .ok (.ifCond .ne 7, 3) := by decide +kernel
theorem d_M_wholeOf_63 : decode prog_9_method_19_code 63 = .ok (.iconst 1, 1) := by decide +kernel
theorem d_M_wholeOf_64 : decode prog_9_method_19_code 64 = .ok (.goto 4, 3) := by decide +kernel
theorem d_M_wholeOf_67 : decode prog_9_method_19_code 67 = .ok (.iconst 0, 1) := by decide +kernel
theorem d_M_wholeOf_68 : decode prog_9_method_19_code 68 = .ok (.istore 5, 2) := by decide +kernel
theorem d_M_wholeOf_70 : decode prog_9_method_19_code 70 = .ok (.iconst 0, 1) := by decide +kernel
theorem d_M_wholeOf_71 : decode prog_9_method_19_code 71 = .ok (.istore 6, 2) := by decide +kernel
theorem d_M_wholeOf_73 : decode prog_9_method_19_code 73 = .ok (.iload 6, 2) := by decide +kernel
theorem d_M_wholeOf_75 : decode prog_9_method_19_code 75 = .ok (.bipush 18, 2) := by decide +kernel
theorem d_M_wholeOf_77 : decode prog_9_method_19_code 77 = .ok (.if_icmp .ge 46, 3) := by decide +kernel
theorem d_M_wholeOf_80 : decode prog_9_method_19_code 80 = .ok (.iload 6, 2) := by decide +kernel
theorem d_M_wholeOf_82 : decode prog_9_method_19_code 82 = .ok (.bipush 17, 2) := by decide +kernel
theorem d_M_wholeOf_84 : decode prog_9_method_19_code 84 = .ok (.if_icmp .ge 25, 3) := by decide +kernel
theorem d_M_wholeOf_87 : decode prog_9_method_19_code 87 = .ok (.iload 5, 2) := by decide +kernel
theorem d_M_wholeOf_89 : decode prog_9_method_19_code 89 = .ok (.ifCond .eq 17, 3) := by decide +kernel
theorem d_M_wholeOf_92 : decode prog_9_method_19_code 92 = .ok (.aload_n 0, 1) := by decide +kernel
theorem d_M_wholeOf_93 : decode prog_9_method_19_code 93 = .ok (.getfield 42, 3) := by decide +kernel
theorem d_M_wholeOf_96 : decode prog_9_method_19_code 96 = .ok (.iload 6, 2) := by decide +kernel
theorem d_M_wholeOf_98 : decode prog_9_method_19_code 98 = .ok (.iaload, 1) := by decide +kernel
theorem d_M_wholeOf_99 : decode prog_9_method_19_code 99 = .ok (.ifCond .ne 7, 3) := by decide +kernel
theorem d_M_wholeOf_102 : decode prog_9_method_19_code 102 = .ok (.iconst 1, 1) := by decide +kernel
theorem d_M_wholeOf_103 : decode prog_9_method_19_code 103 = .ok (.goto 4, 3) := by decide +kernel
theorem d_M_wholeOf_106 : decode prog_9_method_19_code 106 = .ok (.iconst 0, 1) := by decide +kernel
theorem d_M_wholeOf_107 : decode prog_9_method_19_code 107 = .ok (.istore 5, 2) := by decide +kernel
theorem d_M_wholeOf_109 : decode prog_9_method_19_code 109 = .ok (.aload_n 0, 1) := by decide +kernel
theorem d_M_wholeOf_110 : decode prog_9_method_19_code 110 = .ok (.getfield 42, 3) := by decide +kernel
theorem d_M_wholeOf_113 : decode prog_9_method_19_code 113 = .ok (.iload 6, 2) := by decide +kernel
theorem d_M_wholeOf_115 : decode prog_9_method_19_code 115 = .ok (.iconst 0, 1) := by decide +kernel
theorem d_M_wholeOf_116 : decode prog_9_method_19_code 116 = .ok (.iastore, 1) := by decide +kernel
theorem d_M_wholeOf_117 : decode prog_9_method_19_code 117 = .ok (.iinc 6 1, 3) := by decide +kernel
theorem d_M_wholeOf_120 : decode prog_9_method_19_code 120 = .ok (.goto (-47), 3) := by decide +kernel
theorem d_M_wholeOf_123 : decode prog_9_method_19_code 123 = .ok (.iload_n 2, 1) := by decide +kernel
theorem d_M_wholeOf_124 : decode prog_9_method_19_code 124 = .ok (.bipush 21, 2) := by decide +kernel
theorem d_M_wholeOf_126 : decode prog_9_method_19_code 126 = .ok (.if_icmp .ne 35, 3) := by decide +kernel
theorem d_M_wholeOf_129 : decode prog_9_method_19_code 129 = .ok (.iload 4, 2) := by decide +kernel
theorem d_M_wholeOf_131 : decode prog_9_method_19_code 131 = .ok (.ifCond .gt 22, 3) := by decide +kernel
theorem d_M_wholeOf_134 : decode prog_9_method_19_code 134 = .ok (.iload 4, 2) := by decide +kernel
theorem d_M_wholeOf_136 : decode prog_9_method_19_code 136 = .ok (.ifCond .ne 21, 3) := by decide +kernel
theorem d_M_wholeOf_139 : decode prog_9_method_19_code 139 = .ok (.aload_n 0, 1) := by decide +kernel
theorem d_M_wholeOf_140 : decode prog_9_method_19_code 140 = .ok (.getfield 16, 3) := by decide +kernel
theorem d_M_wholeOf_143 : decode prog_9_method_19_code 143 = .ok (.iload_n 1, 1) := by decide +kernel
theorem d_M_wholeOf_144 : decode prog_9_method_19_code 144 = .ok (.iaload, 1) := by decide +kernel
theorem d_M_wholeOf_145 : decode prog_9_method_19_code 145 = .ok (.ifCond .gt 8, 3) := by decide +kernel
theorem d_M_wholeOf_148 : decode prog_9_method_19_code 148 = .ok (.iload 5, 2) := by decide +kernel
theorem d_M_wholeOf_150 : decode prog_9_method_19_code 150 = .ok (.ifCond .ne 7, 3) := by decide +kernel
theorem d_M_wholeOf_153 : decode prog_9_method_19_code 153 = .ok (.iconst 1, 1) := by decide +kernel
theorem d_M_wholeOf_154 : decode prog_9_method_19_code 154 = .ok (.goto 44, 3) := by decide +kernel
theorem d_M_wholeOf_157 : decode prog_9_method_19_code 157 = .ok (.iconst 0, 1) := by decide +kernel
theorem d_M_wholeOf_158 : decode prog_9_method_19_code 158 = .ok (.goto 40, 3) := by decide +kernel
theorem d_M_wholeOf_161 : decode prog_9_method_19_code 161 = .ok (.iload_n 3, 1) := by decide +kernel
theorem d_M_wholeOf_162 : decode prog_9_method_19_code 162 = .ok (.ifCond .eq 35, 3) := by decide +kernel
theorem d_M_wholeOf_165 : decode prog_9_method_19_code 165 = .ok (.iload_n 2, 1) := by decide +kernel
theorem d_M_wholeOf_166 : decode prog_9_method_19_code 166 = .ok (.bipush 19, 2) := by decide +kernel
theorem d_M_wholeOf_168 : decode prog_9_method_19_code 168 = .ok (.if_icmp .ne 7, 3) := by decide +kernel
theorem d_M_wholeOf_171 : decode prog_9_method_19_code 171 = .ok (.iconst 1, 1) := by decide +kernel
theorem d_M_wholeOf_172 : decode prog_9_method_19_code 172 = .ok (.goto 4, 3) := by decide +kernel
theorem d_M_wholeOf_175 : decode prog_9_method_19_code 175 = .ok (.iconst 0, 1) := by decide +kernel
theorem d_M_wholeOf_176 : decode prog_9_method_19_code 176 = .ok (.aload_n 0, 1) := by decide +kernel
theorem d_M_wholeOf_177 : decode prog_9_method_19_code 177 = .ok (.getfield 16, 3) := by decide +kernel
theorem d_M_wholeOf_180 : decode prog_9_method_19_code 180 = .ok (.iload_n 1, 1) := by decide +kernel
theorem d_M_wholeOf_181 : decode prog_9_method_19_code 181 = .ok (.iaload, 1) := by decide +kernel
theorem d_M_wholeOf_182 : decode prog_9_method_19_code 182 = .ok (.ifCond .le 7, 3) := by decide +kernel
theorem d_M_wholeOf_185 : decode prog_9_method_19_code 185 = .ok (.iconst 1, 1) := by decide +kernel
theorem d_M_wholeOf_186 : decode prog_9_method_19_code 186 = .ok (.goto 4, 3) := by decide +kernel
theorem d_M_wholeOf_189 : decode prog_9_method_19_code 189 = .ok (.iconst 0, 1) := by decide +kernel
theorem d_M_wholeOf_190 : decode prog_9_method_19_code 190 = .ok (.if_icmp .ne 7, 3) := by decide +kernel
theorem d_M_wholeOf_193 : decode prog_9_method_19_code 193 = .ok (.iconst 1, 1) := by decide +kernel
theorem d_M_wholeOf_194 : decode prog_9_method_19_code 194 = .ok (.goto 4, 3) := by decide +kernel
theorem d_M_wholeOf_197 : decode prog_9_method_19_code 197 = .ok (.iconst 0, 1) := by decide +kernel
theorem d_M_wholeOf_198 : decode prog_9_method_19_code 198 = .ok (.istore 6, 2) := by decide +kernel
theorem d_M_wholeOf_200 : decode prog_9_method_19_code 200 = .ok (.iload 6, 2) := by decide +kernel
theorem d_M_wholeOf_202 : decode prog_9_method_19_code 202 = .ok (.ifCond .eq 12, 3) := by decide +kernel
theorem d_M_wholeOf_205 : decode prog_9_method_19_code 205 = .ok (.aload_n 0, 1) := by decide +kernel
theorem d_M_wholeOf_206 : decode prog_9_method_19_code 206 = .ok (.getfield 42, 3) := by decide +kernel
theorem d_M_wholeOf_209 : decode prog_9_method_19_code 209 = .ok (.bipush 18, 2) := by decide +kernel
theorem d_M_wholeOf_211 : decode prog_9_method_19_code 211 = .ok (.invokestatic 99, 3) := by decide +kernel
theorem d_M_wholeOf_214 : decode prog_9_method_19_code 214 = .ok (.aload_n 0, 1) := by decide +kernel
theorem d_M_wholeOf_215 : decode prog_9_method_19_code 215 = .ok (.aload_n 0, 1) := by decide +kernel
theorem d_M_wholeOf_216 : decode prog_9_method_19_code 216 = .ok (.getfield 42, 3) := by decide +kernel
theorem d_M_wholeOf_219 : decode prog_9_method_19_code 219 = .ok (.aload_n 0, 1) := by decide +kernel
theorem d_M_wholeOf_220 : decode prog_9_method_19_code 220 = .ok (.getfield 16, 3) := by decide +kernel
theorem d_M_wholeOf_223 : decode prog_9_method_19_code 223 = .ok (.iload_n 1, 1) := by decide +kernel
theorem d_M_wholeOf_224 : decode prog_9_method_19_code 224 = .ok (.iaload, 1) := by decide +kernel
theorem d_M_wholeOf_225 : decode prog_9_method_19_code 225 = .ok (.aload_n 0, 1) := by decide +kernel
theorem d_M_wholeOf_226 : decode prog_9_method_19_code 226 = .ok (.getfield 7, 3) := by decide +kernel
theorem d_M_wholeOf_229 : decode prog_9_method_19_code 229 = .ok (.iload_n 1, 1) := by decide +kernel
theorem d_M_wholeOf_230 : decode prog_9_method_19_code 230 = .ok (.iaload, 1) := by decide +kernel
theorem d_M_wholeOf_231 : decode prog_9_method_19_code 231 = .ok (.iconst 3, 1) := by decide +kernel
theorem d_M_wholeOf_232 : decode prog_9_method_19_code 232 = .ok (.if_icmp .ne 7, 3) := by decide +kernel
theorem d_M_wholeOf_235 : decode prog_9_method_19_code 235 = .ok (.iconst 1, 1) := by decide +kernel
theorem d_M_wholeOf_236 : decode prog_9_method_19_code 236 = .ok (.goto 4, 3) := by decide +kernel
theorem d_M_wholeOf_239 : decode prog_9_method_19_code 239 = .ok (.iconst 0, 1) := by decide +kernel
theorem d_M_wholeOf_240 : decode prog_9_method_19_code 240 = .ok (.invokevirtual 127, 3) := by decide +kernel
theorem d_M_wholeOf_243 : decode prog_9_method_19_code 243 = .ok (.ireturn, 1) := by decide +kernel
def m_M_wholeOf_40 (G : Nat → Nat) (r14 : Nat → Int32 → Int32 → Int32 → Int32 → hp_H → Option (Int32 × hp_H)) (a0 : Nat) (a1 : Int32) (a2 : Int32) (a4 : Int32) (s0 : Int32) (h : hp_H) : Option (Int32 × hp_H) := hp_nm s0 fun x1 => hp_nm (a4 + 1) fun x2 => r14 a0 a1 a2 x1 x2 h
set_option maxRecDepth 100000 in
set_option maxHeartbeats 4000000 in
theorem j_M_wholeOf_40 {Z : hp_Z} (r14 : Nat → Int32 → Int32 → Int32 → Int32 → hp_H → Option (Int32 × hp_H)) (hr14 : ∀ (a0 : Nat) (a1 : Int32) (a2 : Int32) (a3 : Int32) (a4 : Int32) (h : hp_H), hp_J Y_M_wholeOf Z hp_rI h 14 [(0, .ref a0), (1, .int a1), (2, .int a2), (3, .int a3), (4, .int a4)] [] (r14 a0 a1 a2 a3 a4  h)) (a0 : Nat) (a1 : Int32) (a2 : Int32) (a4 : Int32) (s0 : Int32) (h : hp_H) : hp_J Y_M_wholeOf Z hp_rI h 40 [(0, .ref a0), (1, .int a1), (2, .int a2), (4, .int a4)] [.int s0] (m_M_wholeOf_40 (hp_G Z) r14 a0 a1 a2 a4 s0 h) := by
  unfold m_M_wholeOf_40
  refine hp_istore_n (fun x1 => [(3, .int x1), (0, .ref a0), (1, .int a1), (2, .int a2), (4, .int a4)]) d_M_wholeOf_40 rfl (by decide) (fun _ => rfl) fun x1 => ?_
  refine hp_iinc (x0 := 4) (d := 1) (fun x2 => [(4, .int x2), (3, .int x1), (0, .ref a0), (1, .int a1), (2, .int a2)]) d_M_wholeOf_41 rfl (by decide) (by decide) (fun _ => rfl) fun x2 => ?_
  refine hp_goto (tgt := 14) d_M_wholeOf_44 (by decide) ?_
  refine hp_sub [2, 3, 4, 1, 0] rfl ?_
  exact hr14 _ _ _ _ _ _
def m_M_wholeOf_35 (G : Nat → Nat) (r14 : Nat → Int32 → Int32 → Int32 → Int32 → hp_H → Option (Int32 × hp_H)) (a0 : Nat) (a1 : Int32) (a2 : Int32) (a4 : Int32) (h : hp_H) : Option (Int32 × hp_H) := m_M_wholeOf_40 G r14 a0 a1 a2 a4 (1 : Int32) h
set_option maxRecDepth 100000 in
set_option maxHeartbeats 4000000 in
theorem j_M_wholeOf_35 {Z : hp_Z} (r14 : Nat → Int32 → Int32 → Int32 → Int32 → hp_H → Option (Int32 × hp_H)) (hr14 : ∀ (a0 : Nat) (a1 : Int32) (a2 : Int32) (a3 : Int32) (a4 : Int32) (h : hp_H), hp_J Y_M_wholeOf Z hp_rI h 14 [(0, .ref a0), (1, .int a1), (2, .int a2), (3, .int a3), (4, .int a4)] [] (r14 a0 a1 a2 a3 a4  h)) (a0 : Nat) (a1 : Int32) (a2 : Int32) (a4 : Int32) (h : hp_H) : hp_J Y_M_wholeOf Z hp_rI h 35 [(0, .ref a0), (1, .int a1), (2, .int a2), (4, .int a4)] [] (m_M_wholeOf_35 (hp_G Z) r14 a0 a1 a2 a4 h) := by
  unfold m_M_wholeOf_35
  refine hp_iconst (v := 1) d_M_wholeOf_35 (by decide) ?_
  refine hp_goto (tgt := 40) d_M_wholeOf_36 (by decide) ?_
  exact j_M_wholeOf_40 _ hr14 _ _ _ _ _ _
def m_M_wholeOf_109 (G : Nat → Nat) (r73 : Nat → Int32 → Int32 → Int32 → Int32 → Int32 → Int32 → hp_H → Option (Int32 × hp_H)) (a0 : Nat) (a1 : Int32) (a2 : Int32) (a3 : Int32) (a4 : Int32) (a5 : Int32) (a6 : Int32) (h : hp_H) : Option (Int32 × hp_H) := (hp_gR h a0 8 17).bind fun x1 => (hp_sI h .int x1 a6 (0 : Int32)).bind fun h2 => hp_nm (a6 + 1) fun x3 => r73 a0 a1 a2 a3 a4 a5 x3 h2
set_option maxRecDepth 100000 in
set_option maxHeartbeats 4000000 in
theorem j_M_wholeOf_109 {Z : hp_Z} (r73 : Nat → Int32 → Int32 → Int32 → Int32 → Int32 → Int32 → hp_H → Option (Int32 × hp_H)) (hr73 : ∀ (a0 : Nat) (a1 : Int32) (a2 : Int32) (a3 : Int32) (a4 : Int32) (a5 : Int32) (a6 : Int32) (h : hp_H), hp_J Y_M_wholeOf Z hp_rI h 73 [(0, .ref a0), (1, .int a1), (2, .int a2), (3, .int a3), (4, .int a4), (5, .int a5), (6, .int a6)] [] (r73 a0 a1 a2 a3 a4 a5 a6  h)) (a0 : Nat) (a1 : Int32) (a2 : Int32) (a3 : Int32) (a4 : Int32) (a5 : Int32) (a6 : Int32) (h : hp_H) : hp_J Y_M_wholeOf Z hp_rI h 109 [(0, .ref a0), (1, .int a1), (2, .int a2), (3, .int a3), (4, .int a4), (5, .int a5), (6, .int a6)] [] (m_M_wholeOf_109 (hp_G Z) r73 a0 a1 a2 a3 a4 a5 a6 h) := by
  unfold m_M_wholeOf_109
  refine hp_aload_n (x0 := 0) d_M_wholeOf_109 rfl rfl ?_
  refine hp_getR fl_M_42 d_M_wholeOf_110 fun x1 => ?_
  refine hp_iload (x0 := 6) d_M_wholeOf_113 rfl ?_
  refine hp_iconst (v := 0) d_M_wholeOf_115 (by decide) ?_
  refine hp_iast d_M_wholeOf_116 fun h2 => ?_
  refine hp_iinc (x0 := 6) (d := 1) (fun x3 => [(6, .int x3), (0, .ref a0), (1, .int a1), (2, .int a2), (3, .int a3), (4, .int a4), (5, .int a5)]) d_M_wholeOf_117 rfl (by decide) (by decide) (fun _ => rfl) fun x3 => ?_
  refine hp_goto (tgt := 73) d_M_wholeOf_120 (by decide) ?_
  refine hp_sub [1, 2, 3, 4, 5, 6, 0] rfl ?_
  exact hr73 _ _ _ _ _ _ _ _
def m_M_wholeOf_107 (G : Nat → Nat) (r73 : Nat → Int32 → Int32 → Int32 → Int32 → Int32 → Int32 → hp_H → Option (Int32 × hp_H)) (a0 : Nat) (a1 : Int32) (a2 : Int32) (a3 : Int32) (a4 : Int32) (a6 : Int32) (s0 : Int32) (h : hp_H) : Option (Int32 × hp_H) := hp_nm s0 fun x1 => m_M_wholeOf_109 G r73 a0 a1 a2 a3 a4 x1 a6 h
set_option maxRecDepth 100000 in
set_option maxHeartbeats 4000000 in
theorem j_M_wholeOf_107 {Z : hp_Z} (r73 : Nat → Int32 → Int32 → Int32 → Int32 → Int32 → Int32 → hp_H → Option (Int32 × hp_H)) (hr73 : ∀ (a0 : Nat) (a1 : Int32) (a2 : Int32) (a3 : Int32) (a4 : Int32) (a5 : Int32) (a6 : Int32) (h : hp_H), hp_J Y_M_wholeOf Z hp_rI h 73 [(0, .ref a0), (1, .int a1), (2, .int a2), (3, .int a3), (4, .int a4), (5, .int a5), (6, .int a6)] [] (r73 a0 a1 a2 a3 a4 a5 a6  h)) (a0 : Nat) (a1 : Int32) (a2 : Int32) (a3 : Int32) (a4 : Int32) (a6 : Int32) (s0 : Int32) (h : hp_H) : hp_J Y_M_wholeOf Z hp_rI h 107 [(0, .ref a0), (1, .int a1), (2, .int a2), (3, .int a3), (4, .int a4), (6, .int a6)] [.int s0] (m_M_wholeOf_107 (hp_G Z) r73 a0 a1 a2 a3 a4 a6 s0 h) := by
  unfold m_M_wholeOf_107
  refine hp_istore (fun x1 => [(5, .int x1), (0, .ref a0), (1, .int a1), (2, .int a2), (3, .int a3), (4, .int a4), (6, .int a6)]) d_M_wholeOf_107 (by decide) (fun _ => rfl) fun x1 => ?_
  refine hp_sub [1, 2, 3, 4, 5, 0, 6] rfl ?_
  exact j_M_wholeOf_109 _ hr73 _ _ _ _ _ _ _ _
def m_M_wholeOf_106 (G : Nat → Nat) (r73 : Nat → Int32 → Int32 → Int32 → Int32 → Int32 → Int32 → hp_H → Option (Int32 × hp_H)) (a0 : Nat) (a1 : Int32) (a2 : Int32) (a3 : Int32) (a4 : Int32) (a6 : Int32) (h : hp_H) : Option (Int32 × hp_H) := m_M_wholeOf_107 G r73 a0 a1 a2 a3 a4 a6 (0 : Int32) h
set_option maxRecDepth 100000 in
set_option maxHeartbeats 4000000 in
theorem j_M_wholeOf_106 {Z : hp_Z} (r73 : Nat → Int32 → Int32 → Int32 → Int32 → Int32 → Int32 → hp_H → Option (Int32 × hp_H)) (hr73 : ∀ (a0 : Nat) (a1 : Int32) (a2 : Int32) (a3 : Int32) (a4 : Int32) (a5 : Int32) (a6 : Int32) (h : hp_H), hp_J Y_M_wholeOf Z hp_rI h 73 [(0, .ref a0), (1, .int a1), (2, .int a2), (3, .int a3), (4, .int a4), (5, .int a5), (6, .int a6)] [] (r73 a0 a1 a2 a3 a4 a5 a6  h)) (a0 : Nat) (a1 : Int32) (a2 : Int32) (a3 : Int32) (a4 : Int32) (a6 : Int32) (h : hp_H) : hp_J Y_M_wholeOf Z hp_rI h 106 [(0, .ref a0), (1, .int a1), (2, .int a2), (3, .int a3), (4, .int a4), (6, .int a6)] [] (m_M_wholeOf_106 (hp_G Z) r73 a0 a1 a2 a3 a4 a6 h) := by
  unfold m_M_wholeOf_106
  refine hp_iconst (v := 0) d_M_wholeOf_106 (by decide) ?_
  exact j_M_wholeOf_107 _ hr73 _ _ _ _ _ _ _ _
def m_M_wholeOf_240 (G : Nat → Nat) (s0 : Int32) (s1 : Int32) (s2 : Nat) (s3 : Nat) (h : hp_H) : Option (Int32 × hp_H) := (hp_vck h s3 8 (m_M_number G s3 s2 s1 s0 h)).bind fun q1 => some (q1.1, q1.2)
set_option maxRecDepth 100000 in
set_option maxHeartbeats 4000000 in
theorem j_M_wholeOf_240 {Z : hp_Z} (s0 : Int32) (s1 : Int32) (s2 : Nat) (s3 : Nat) (h : hp_H) : hp_J Y_M_wholeOf Z hp_rI h 240 [] [.int s0, .int s1, .ref s2, .ref s3] (m_M_wholeOf_240 (hp_G Z)  s0 s1 s2 s3 h) := by
  unfold m_M_wholeOf_240
  refine hp_callI (hp_crV (ci := 8) (t_M_number _ _ _ _ _ _) cw_M_127 rfl ⟨w_981, ws_39⟩ (by decide) rfl rfl (Nat.le_of_ble_eq_true rfl) d_M_wholeOf_240) fun q1 => ?_
  exact hp_iret d_M_wholeOf_243 rfl
def m_M_wholeOf_214 (G : Nat → Nat) (a0 : Nat) (a1 : Int32) (h : hp_H) : Option (Int32 × hp_H) := (hp_gR h a0 8 17).bind fun x1 => (hp_gR h a0 8 3).bind fun x2 => (hp_aI h .int x2 a1).bind fun x3 => (hp_gR h a0 8 1).bind fun x4 => (hp_aI h .int x4 a1).bind fun x5 => if x5 = (3 : Int32) then (m_M_wholeOf_240 G (1 : Int32) x3 x1 a0 h) else (m_M_wholeOf_240 G (0 : Int32) x3 x1 a0 h)
set_option maxRecDepth 100000 in
set_option maxHeartbeats 4000000 in
theorem j_M_wholeOf_214 {Z : hp_Z} (a0 : Nat) (a1 : Int32) (h : hp_H) : hp_J Y_M_wholeOf Z hp_rI h 214 [(0, .ref a0), (1, .int a1)] [] (m_M_wholeOf_214 (hp_G Z)  a0 a1 h) := by
  unfold m_M_wholeOf_214
  refine hp_aload_n (x0 := 0) d_M_wholeOf_214 rfl rfl ?_
  refine hp_aload_n (x0 := 0) d_M_wholeOf_215 rfl rfl ?_
  refine hp_getR fl_M_42 d_M_wholeOf_216 fun x1 => ?_
  refine hp_aload_n (x0 := 0) d_M_wholeOf_219 rfl rfl ?_
  refine hp_getR fl_M_16 d_M_wholeOf_220 fun x2 => ?_
  refine hp_iload_n (x0 := 1) d_M_wholeOf_223 rfl rfl ?_
  refine hp_iald d_M_wholeOf_224 fun x3 => ?_
  refine hp_aload_n (x0 := 0) d_M_wholeOf_225 rfl rfl ?_
  refine hp_getR fl_M_7 d_M_wholeOf_226 fun x4 => ?_
  refine hp_iload_n (x0 := 1) d_M_wholeOf_229 rfl rfl ?_
  refine hp_iald d_M_wholeOf_230 fun x5 => ?_
  refine hp_iconst (v := 3) d_M_wholeOf_231 (by decide) ?_
  refine hp_icmp_ne (tgt := 239) d_M_wholeOf_232 (by decide) ?_ ?_
  · refine hp_iconst (v := 1) d_M_wholeOf_235 (by decide) ?_
    refine hp_goto (tgt := 240) d_M_wholeOf_236 (by decide) ?_
    refine hp_sub [] rfl ?_
    exact j_M_wholeOf_240  _ _ _ _ _
  · refine hp_iconst (v := 0) d_M_wholeOf_239 (by decide) ?_
    refine hp_sub [] rfl ?_
    exact j_M_wholeOf_240  _ _ _ _ _
def m_M_wholeOf_198 (G : Nat → Nat) (a0 : Nat) (a1 : Int32) (s0 : Int32) (h : hp_H) : Option (Int32 × hp_H) := hp_nm s0 fun x1 => if x1 = 0 then (m_M_wholeOf_214 G a0 a1 h) else ((hp_gR h a0 8 17).bind fun x2 => (m_M_raise G x2 (18 : Int32) h).bind fun q3 => m_M_wholeOf_214 G a0 a1 q3.2)
set_option maxRecDepth 100000 in
set_option maxHeartbeats 4000000 in
theorem j_M_wholeOf_198 {Z : hp_Z} (a0 : Nat) (a1 : Int32) (s0 : Int32) (h : hp_H) : hp_J Y_M_wholeOf Z hp_rI h 198 [(0, .ref a0), (1, .int a1)] [.int s0] (m_M_wholeOf_198 (hp_G Z)  a0 a1 s0 h) := by
  unfold m_M_wholeOf_198
  refine hp_istore (fun x1 => [(6, .int x1), (0, .ref a0), (1, .int a1)]) d_M_wholeOf_198 (by decide) (fun _ => rfl) fun x1 => ?_
  refine hp_iload (x0 := 0) d_M_wholeOf_200 rfl ?_
  refine hp_if_eq (tgt := 214) d_M_wholeOf_202 (by decide) ?_ ?_
  · refine hp_sub [1, 2] rfl ?_
    exact j_M_wholeOf_214  _ _ _
  · refine hp_aload_n (x0 := 1) d_M_wholeOf_205 rfl rfl ?_
    refine hp_getR fl_M_42 d_M_wholeOf_206 fun x2 => ?_
    refine hp_bipush (v := 18) d_M_wholeOf_209 (by decide) ?_
    refine hp_callU (hp_crS (t_M_raise _ _ _ _) cw_M_99 w_1196 (by decide) rfl rfl (Nat.le_of_ble_eq_true rfl) d_M_wholeOf_211) fun q3 => ?_
    refine hp_sub [1, 2] rfl ?_
    exact j_M_wholeOf_214  _ _ _
def m_M_wholeOf_153 (G : Nat → Nat) (a0 : Nat) (a1 : Int32) (h : hp_H) : Option (Int32 × hp_H) := m_M_wholeOf_198 G a0 a1 (1 : Int32) h
set_option maxRecDepth 100000 in
set_option maxHeartbeats 4000000 in
theorem j_M_wholeOf_153 {Z : hp_Z} (a0 : Nat) (a1 : Int32) (h : hp_H) : hp_J Y_M_wholeOf Z hp_rI h 153 [(0, .ref a0), (1, .int a1)] [] (m_M_wholeOf_153 (hp_G Z)  a0 a1 h) := by
  unfold m_M_wholeOf_153
  refine hp_iconst (v := 1) d_M_wholeOf_153 (by decide) ?_
  refine hp_goto (tgt := 198) d_M_wholeOf_154 (by decide) ?_
  exact j_M_wholeOf_198  _ _ _ _
def m_M_wholeOf_157 (G : Nat → Nat) (a0 : Nat) (a1 : Int32) (h : hp_H) : Option (Int32 × hp_H) := m_M_wholeOf_198 G a0 a1 (0 : Int32) h
set_option maxRecDepth 100000 in
set_option maxHeartbeats 4000000 in
theorem j_M_wholeOf_157 {Z : hp_Z} (a0 : Nat) (a1 : Int32) (h : hp_H) : hp_J Y_M_wholeOf Z hp_rI h 157 [(0, .ref a0), (1, .int a1)] [] (m_M_wholeOf_157 (hp_G Z)  a0 a1 h) := by
  unfold m_M_wholeOf_157
  refine hp_iconst (v := 0) d_M_wholeOf_157 (by decide) ?_
  refine hp_goto (tgt := 198) d_M_wholeOf_158 (by decide) ?_
  exact j_M_wholeOf_198  _ _ _ _
def m_M_wholeOf_197 (G : Nat → Nat) (a0 : Nat) (a1 : Int32) (h : hp_H) : Option (Int32 × hp_H) := m_M_wholeOf_198 G a0 a1 (0 : Int32) h
set_option maxRecDepth 100000 in
set_option maxHeartbeats 4000000 in
theorem j_M_wholeOf_197 {Z : hp_Z} (a0 : Nat) (a1 : Int32) (h : hp_H) : hp_J Y_M_wholeOf Z hp_rI h 197 [(0, .ref a0), (1, .int a1)] [] (m_M_wholeOf_197 (hp_G Z)  a0 a1 h) := by
  unfold m_M_wholeOf_197
  refine hp_iconst (v := 0) d_M_wholeOf_197 (by decide) ?_
  exact j_M_wholeOf_198  _ _ _ _
def m_M_wholeOf_190 (G : Nat → Nat) (a0 : Nat) (a1 : Int32) (s0 : Int32) (s1 : Int32) (h : hp_H) : Option (Int32 × hp_H) := if s1 = s0 then (m_M_wholeOf_198 G a0 a1 (1 : Int32) h) else (m_M_wholeOf_197 G a0 a1 h)
set_option maxRecDepth 100000 in
set_option maxHeartbeats 4000000 in
theorem j_M_wholeOf_190 {Z : hp_Z} (a0 : Nat) (a1 : Int32) (s0 : Int32) (s1 : Int32) (h : hp_H) : hp_J Y_M_wholeOf Z hp_rI h 190 [(0, .ref a0), (1, .int a1)] [.int s0, .int s1] (m_M_wholeOf_190 (hp_G Z)  a0 a1 s0 s1 h) := by
  unfold m_M_wholeOf_190
  refine hp_icmp_ne (tgt := 197) d_M_wholeOf_190 (by decide) ?_ ?_
  · refine hp_iconst (v := 1) d_M_wholeOf_193 (by decide) ?_
    refine hp_goto (tgt := 198) d_M_wholeOf_194 (by decide) ?_
    exact j_M_wholeOf_198  _ _ _ _
  · exact j_M_wholeOf_197  _ _ _
def m_M_wholeOf_176 (G : Nat → Nat) (a0 : Nat) (a1 : Int32) (s0 : Int32) (h : hp_H) : Option (Int32 × hp_H) := (hp_gR h a0 8 3).bind fun x1 => (hp_aI h .int x1 a1).bind fun x2 => if x2 ≤ 0 then (m_M_wholeOf_190 G a0 a1 (0 : Int32) s0 h) else (m_M_wholeOf_190 G a0 a1 (1 : Int32) s0 h)
set_option maxRecDepth 100000 in
set_option maxHeartbeats 4000000 in
theorem j_M_wholeOf_176 {Z : hp_Z} (a0 : Nat) (a1 : Int32) (s0 : Int32) (h : hp_H) : hp_J Y_M_wholeOf Z hp_rI h 176 [(0, .ref a0), (1, .int a1)] [.int s0] (m_M_wholeOf_176 (hp_G Z)  a0 a1 s0 h) := by
  unfold m_M_wholeOf_176
  refine hp_aload_n (x0 := 0) d_M_wholeOf_176 rfl rfl ?_
  refine hp_getR fl_M_16 d_M_wholeOf_177 fun x1 => ?_
  refine hp_iload_n (x0 := 1) d_M_wholeOf_180 rfl rfl ?_
  refine hp_iald d_M_wholeOf_181 fun x2 => ?_
  refine hp_if_le (tgt := 189) d_M_wholeOf_182 (by decide) ?_ ?_
  · refine hp_iconst (v := 0) d_M_wholeOf_189 (by decide) ?_
    exact j_M_wholeOf_190  _ _ _ _ _
  · refine hp_iconst (v := 1) d_M_wholeOf_185 (by decide) ?_
    refine hp_goto (tgt := 190) d_M_wholeOf_186 (by decide) ?_
    exact j_M_wholeOf_190  _ _ _ _ _
def m_M_wholeOf_73 (G : Nat → Nat) : Nat → Nat → Int32 → Int32 → Int32 → Int32 → Int32 → Int32 → hp_H → Option (Int32 × hp_H)
  | 0, _, _, _, _, _, _, _, _ => none
  | n + 1, a0, a1, a2, a3, a4, a5, a6, h => if (18 : Int32) ≤ a6 then (if a2 = (21 : Int32) then (if 0 < a4 then (m_M_wholeOf_153 G a0 a1 h) else (if a4 = 0 then ((hp_gR h a0 8 3).bind fun x1 => (hp_aI h .int x1 a1).bind fun x2 => if 0 < x2 then (m_M_wholeOf_153 G a0 a1 h) else (if a5 = 0 then (m_M_wholeOf_153 G a0 a1 h) else (m_M_wholeOf_157 G a0 a1 h))) else (m_M_wholeOf_157 G a0 a1 h))) else (if a3 = 0 then (m_M_wholeOf_197 G a0 a1 h) else (if a2 = (19 : Int32) then (m_M_wholeOf_176 G a0 a1 (1 : Int32) h) else (m_M_wholeOf_176 G a0 a1 (0 : Int32) h)))) else (if (17 : Int32) ≤ a6 then (m_M_wholeOf_109 G (m_M_wholeOf_73 G  n) a0 a1 a2 a3 a4 a5 a6 h) else (if a5 = 0 then (m_M_wholeOf_106 G (m_M_wholeOf_73 G  n) a0 a1 a2 a3 a4 a6 h) else ((hp_gR h a0 8 17).bind fun x3 => (hp_aI h .int x3 a6).bind fun x4 => if x4 = 0 then (m_M_wholeOf_107 G (m_M_wholeOf_73 G  n) a0 a1 a2 a3 a4 a6 (1 : Int32) h) else (m_M_wholeOf_106 G (m_M_wholeOf_73 G  n) a0 a1 a2 a3 a4 a6 h))))
set_option maxRecDepth 100000 in
set_option maxHeartbeats 4000000 in
theorem j_M_wholeOf_73 {Z : hp_Z} : ∀ (n : Nat) (a0 : Nat) (a1 : Int32) (a2 : Int32) (a3 : Int32) (a4 : Int32) (a5 : Int32) (a6 : Int32) (h : hp_H), hp_J Y_M_wholeOf Z hp_rI h 73 [(0, .ref a0), (1, .int a1), (2, .int a2), (3, .int a3), (4, .int a4), (5, .int a5), (6, .int a6)] [] (m_M_wholeOf_73 (hp_G Z)  n a0 a1 a2 a3 a4 a5 a6 h) := by
  intro n
  induction n with
  | zero => intro a0 a1 a2 a3 a4 a5 a6 h; exact hp_fail
  | succ n ih =>
    intro a0 a1 a2 a3 a4 a5 a6 h
    rw [m_M_wholeOf_73]
    refine hp_iload (x0 := 6) d_M_wholeOf_73 rfl ?_
    refine hp_bipush (v := 18) d_M_wholeOf_75 (by decide) ?_
    refine hp_icmp_ge (tgt := 123) d_M_wholeOf_77 (by decide) ?_ ?_
    · refine hp_iload_n (x0 := 2) d_M_wholeOf_123 rfl rfl ?_
      refine hp_bipush (v := 21) d_M_wholeOf_124 (by decide) ?_
      refine hp_icmp_ne (tgt := 161) d_M_wholeOf_126 (by decide) ?_ ?_
      · refine hp_iload (x0 := 4) d_M_wholeOf_129 rfl ?_
        refine hp_if_gt (tgt := 153) d_M_wholeOf_131 (by decide) ?_ ?_
        · refine hp_sub [0, 1] rfl ?_
          exact j_M_wholeOf_153  _ _ _
        · refine hp_iload (x0 := 4) d_M_wholeOf_134 rfl ?_
          refine hp_if_ne (tgt := 157) d_M_wholeOf_136 (by decide) ?_ ?_
          · refine hp_aload_n (x0 := 0) d_M_wholeOf_139 rfl rfl ?_
            refine hp_getR fl_M_16 d_M_wholeOf_140 fun x1 => ?_
            refine hp_iload_n (x0 := 1) d_M_wholeOf_143 rfl rfl ?_
            refine hp_iald d_M_wholeOf_144 fun x2 => ?_
            refine hp_if_gt (tgt := 153) d_M_wholeOf_145 (by decide) ?_ ?_
            · refine hp_sub [0, 1] rfl ?_
              exact j_M_wholeOf_153  _ _ _
            · refine hp_iload (x0 := 5) d_M_wholeOf_148 rfl ?_
              refine hp_if_ne (tgt := 157) d_M_wholeOf_150 (by decide) ?_ ?_
              · refine hp_sub [0, 1] rfl ?_
                exact j_M_wholeOf_153  _ _ _
              · refine hp_sub [0, 1] rfl ?_
                exact j_M_wholeOf_157  _ _ _
          · refine hp_sub [0, 1] rfl ?_
            exact j_M_wholeOf_157  _ _ _
      · refine hp_iload_n (x0 := 3) d_M_wholeOf_161 rfl rfl ?_
        refine hp_if_eq (tgt := 197) d_M_wholeOf_162 (by decide) ?_ ?_
        · refine hp_sub [0, 1] rfl ?_
          exact j_M_wholeOf_197  _ _ _
        · refine hp_iload_n (x0 := 2) d_M_wholeOf_165 rfl rfl ?_
          refine hp_bipush (v := 19) d_M_wholeOf_166 (by decide) ?_
          refine hp_icmp_ne (tgt := 175) d_M_wholeOf_168 (by decide) ?_ ?_
          · refine hp_iconst (v := 1) d_M_wholeOf_171 (by decide) ?_
            refine hp_goto (tgt := 176) d_M_wholeOf_172 (by decide) ?_
            refine hp_sub [0, 1] rfl ?_
            exact j_M_wholeOf_176  _ _ _ _
          · refine hp_iconst (v := 0) d_M_wholeOf_175 (by decide) ?_
            refine hp_sub [0, 1] rfl ?_
            exact j_M_wholeOf_176  _ _ _ _
    · refine hp_iload (x0 := 6) d_M_wholeOf_80 rfl ?_
      refine hp_bipush (v := 17) d_M_wholeOf_82 (by decide) ?_
      refine hp_icmp_ge (tgt := 109) d_M_wholeOf_84 (by decide) ?_ ?_
      · exact j_M_wholeOf_109 _ ih _ _ _ _ _ _ _ _
      · refine hp_iload (x0 := 5) d_M_wholeOf_87 rfl ?_
        refine hp_if_eq (tgt := 106) d_M_wholeOf_89 (by decide) ?_ ?_
        · refine hp_sub [0, 1, 2, 3, 4, 6] rfl ?_
          exact j_M_wholeOf_106 _ ih _ _ _ _ _ _ _
        · refine hp_aload_n (x0 := 0) d_M_wholeOf_92 rfl rfl ?_
          refine hp_getR fl_M_42 d_M_wholeOf_93 fun x3 => ?_
          refine hp_iload (x0 := 6) d_M_wholeOf_96 rfl ?_
          refine hp_iald d_M_wholeOf_98 fun x4 => ?_
          refine hp_if_ne (tgt := 106) d_M_wholeOf_99 (by decide) ?_ ?_
          · refine hp_iconst (v := 1) d_M_wholeOf_102 (by decide) ?_
            refine hp_goto (tgt := 107) d_M_wholeOf_103 (by decide) ?_
            refine hp_sub [0, 1, 2, 3, 4, 6] rfl ?_
            exact j_M_wholeOf_107 _ ih _ _ _ _ _ _ _ _
          · refine hp_sub [0, 1, 2, 3, 4, 6] rfl ?_
            exact j_M_wholeOf_106 _ ih _ _ _ _ _ _ _
def m_M_wholeOf_68 (G : Nat → Nat) (a0 : Nat) (a1 : Int32) (a2 : Int32) (a3 : Int32) (a4 : Int32) (s0 : Int32) (h : hp_H) : Option (Int32 × hp_H) := hp_nm s0 fun x1 => hp_nm (0 : Int32) fun x2 => m_M_wholeOf_73 G hp_fu a0 a1 a2 a3 a4 x1 x2 h
set_option maxRecDepth 100000 in
set_option maxHeartbeats 4000000 in
theorem j_M_wholeOf_68 {Z : hp_Z} (a0 : Nat) (a1 : Int32) (a2 : Int32) (a3 : Int32) (a4 : Int32) (s0 : Int32) (h : hp_H) : hp_J Y_M_wholeOf Z hp_rI h 68 [(0, .ref a0), (1, .int a1), (2, .int a2), (3, .int a3), (4, .int a4)] [.int s0] (m_M_wholeOf_68 (hp_G Z)  a0 a1 a2 a3 a4 s0 h) := by
  unfold m_M_wholeOf_68
  refine hp_istore (fun x1 => [(5, .int x1), (0, .ref a0), (1, .int a1), (2, .int a2), (3, .int a3), (4, .int a4)]) d_M_wholeOf_68 (by decide) (fun _ => rfl) fun x1 => ?_
  refine hp_iconst (v := 0) d_M_wholeOf_70 (by decide) ?_
  refine hp_istore (fun x2 => [(6, .int x2), (5, .int x1), (0, .ref a0), (1, .int a1), (2, .int a2), (3, .int a3), (4, .int a4)]) d_M_wholeOf_71 (by decide) (fun _ => rfl) fun x2 => ?_
  refine hp_sub [2, 3, 4, 5, 6, 1, 0] rfl ?_
  exact j_M_wholeOf_73  hp_fu _ _ _ _ _ _ _ _
def m_M_wholeOf_14 (G : Nat → Nat) : Nat → Nat → Int32 → Int32 → Int32 → Int32 → hp_H → Option (Int32 × hp_H)
  | 0, _, _, _, _, _, _ => none
  | n + 1, a0, a1, a2, a3, a4, h => if (18 : Int32) ≤ a4 then ((hp_gR h a0 8 17).bind fun x1 => (hp_aI h .int x1 (17 : Int32)).bind fun x2 => hp_nm (x2 - (5 : Int32)) fun x3 => if x3 = 0 then (m_M_wholeOf_68 G a0 a1 a2 a3 x3 (1 : Int32) h) else (m_M_wholeOf_68 G a0 a1 a2 a3 x3 (0 : Int32) h)) else (if a3 = 0 then ((hp_gR h a0 8 17).bind fun x4 => (hp_aI h .int x4 a4).bind fun x5 => if x5 = 0 then (m_M_wholeOf_40 G (m_M_wholeOf_14 G  n) a0 a1 a2 a4 (0 : Int32) h) else (m_M_wholeOf_35 G (m_M_wholeOf_14 G  n) a0 a1 a2 a4 h)) else (m_M_wholeOf_35 G (m_M_wholeOf_14 G  n) a0 a1 a2 a4 h))
set_option maxRecDepth 100000 in
set_option maxHeartbeats 4000000 in
theorem j_M_wholeOf_14 {Z : hp_Z} : ∀ (n : Nat) (a0 : Nat) (a1 : Int32) (a2 : Int32) (a3 : Int32) (a4 : Int32) (h : hp_H), hp_J Y_M_wholeOf Z hp_rI h 14 [(0, .ref a0), (1, .int a1), (2, .int a2), (3, .int a3), (4, .int a4)] [] (m_M_wholeOf_14 (hp_G Z)  n a0 a1 a2 a3 a4 h) := by
  intro n
  induction n with
  | zero => intro a0 a1 a2 a3 a4 h; exact hp_fail
  | succ n ih =>
    intro a0 a1 a2 a3 a4 h
    rw [m_M_wholeOf_14]
    refine hp_iload (x0 := 4) d_M_wholeOf_14 rfl ?_
    refine hp_bipush (v := 18) d_M_wholeOf_16 (by decide) ?_
    refine hp_icmp_ge (tgt := 47) d_M_wholeOf_18 (by decide) ?_ ?_
    · refine hp_aload_n (x0 := 0) d_M_wholeOf_47 rfl rfl ?_
      refine hp_getR fl_M_42 d_M_wholeOf_48 fun x1 => ?_
      refine hp_bipush (v := 17) d_M_wholeOf_51 (by decide) ?_
      refine hp_iald d_M_wholeOf_53 fun x2 => ?_
      refine hp_iconst (v := 5) d_M_wholeOf_54 (by decide) ?_
      refine hp_isub d_M_wholeOf_55 ?_
      refine hp_istore (fun x3 => [(4, .int x3), (0, .ref a0), (1, .int a1), (2, .int a2), (3, .int a3)]) d_M_wholeOf_56 (by decide) (fun _ => rfl) fun x3 => ?_
      refine hp_iload (x0 := 0) d_M_wholeOf_58 rfl ?_
      refine hp_if_ne (tgt := 67) d_M_wholeOf_60 (by decide) ?_ ?_
      · refine hp_iconst (v := 1) d_M_wholeOf_63 (by decide) ?_
        refine hp_goto (tgt := 68) d_M_wholeOf_64 (by decide) ?_
        refine hp_sub [1, 2, 3, 4, 0] rfl ?_
        exact j_M_wholeOf_68  _ _ _ _ _ _ _
      · refine hp_iconst (v := 0) d_M_wholeOf_67 (by decide) ?_
        refine hp_sub [1, 2, 3, 4, 0] rfl ?_
        exact j_M_wholeOf_68  _ _ _ _ _ _ _
    · refine hp_iload_n (x0 := 3) d_M_wholeOf_21 rfl rfl ?_
      refine hp_if_ne (tgt := 35) d_M_wholeOf_22 (by decide) ?_ ?_
      · refine hp_aload_n (x0 := 0) d_M_wholeOf_25 rfl rfl ?_
        refine hp_getR fl_M_42 d_M_wholeOf_26 fun x4 => ?_
        refine hp_iload (x0 := 4) d_M_wholeOf_29 rfl ?_
        refine hp_iald d_M_wholeOf_31 fun x5 => ?_
        refine hp_if_eq (tgt := 39) d_M_wholeOf_32 (by decide) ?_ ?_
        · refine hp_iconst (v := 0) d_M_wholeOf_39 (by decide) ?_
          refine hp_sub [0, 1, 2, 4] rfl ?_
          exact j_M_wholeOf_40 _ ih _ _ _ _ _ _
        · refine hp_sub [0, 1, 2, 4] rfl ?_
          exact j_M_wholeOf_35 _ ih _ _ _ _ _
      · refine hp_sub [0, 1, 2, 4] rfl ?_
        exact j_M_wholeOf_35 _ ih _ _ _ _ _
def m_M_wholeOf (G : Nat → Nat) (a0 : Nat) (a1 : Int32) (a2 : Int32) (h : hp_H) : Option (Int32 × hp_H) := (hp_gR h a0 8 17).bind fun x1 => (hp_vck h a0 8 (m_M_lay G a0 a1 x1 h)).bind fun q2 => hp_nm (0 : Int32) fun x3 => hp_nm (0 : Int32) fun x4 => m_M_wholeOf_14 G hp_fu a0 a1 a2 x3 x4 q2.2
set_option maxRecDepth 100000 in
set_option maxHeartbeats 4000000 in
theorem j_M_wholeOf_0 {Z : hp_Z} (a0 : Nat) (a1 : Int32) (a2 : Int32) (h : hp_H) : hp_J Y_M_wholeOf Z hp_rI h 0 [(0, .ref a0), (1, .int a1), (2, .int a2)] [] (m_M_wholeOf (hp_G Z)  a0 a1 a2 h) := by
  unfold m_M_wholeOf
  refine hp_aload_n (x0 := 0) d_M_wholeOf_0 rfl rfl ?_
  refine hp_iload_n (x0 := 1) d_M_wholeOf_1 rfl rfl ?_
  refine hp_aload_n (x0 := 0) d_M_wholeOf_2 rfl rfl ?_
  refine hp_getR fl_M_42 d_M_wholeOf_3 fun x1 => ?_
  refine hp_callU (hp_crV (ci := 8) (t_M_lay _ _ _ _ _) cw_M_115 rfl ⟨w_1060, ws_49⟩ (by decide) rfl rfl (Nat.le_of_ble_eq_true rfl) d_M_wholeOf_6) fun q2 => ?_
  refine hp_iconst (v := 0) d_M_wholeOf_9 (by decide) ?_
  refine hp_istore_n (fun x3 => [(3, .int x3), (0, .ref a0), (1, .int a1), (2, .int a2)]) d_M_wholeOf_10 rfl (by decide) (fun _ => rfl) fun x3 => ?_
  refine hp_iconst (v := 0) d_M_wholeOf_11 (by decide) ?_
  refine hp_istore (fun x4 => [(4, .int x4), (3, .int x3), (0, .ref a0), (1, .int a1), (2, .int a2)]) d_M_wholeOf_12 (by decide) (fun _ => rfl) fun x4 => ?_
  refine hp_sub [2, 3, 4, 1, 0] rfl ?_
  exact j_M_wholeOf_14  hp_fu _ _ _ _ _ _
theorem t_M_wholeOf (l : Launch) (E : hp_E) (a0 : Nat) (a1 : Int32) (a2 : Int32) : hp_M l E y_M_wholeOf Y_M_wholeOf hp_rI [.ref a0, .int a1, .int a2] (m_M_wholeOf E.2.2.1 a0 a1 a2) := hp_M.of (by decide +kernel) ⟨rfl, rfl⟩ (Nat.le_of_ble_eq_true rfl) (fun Z h hE => by subst hE; exact j_M_wholeOf_0 _ _ _ h)
-- M_letterAll
theorem d_M_letterAll_0 : decode prog_9_method_46_code 0 = .ok (.iload_n 2, 1) := by decide +kernel
theorem d_M_letterAll_1 : decode prog_9_method_46_code 1 = .ok (.istore 4, 2) := by decide +kernel
theorem d_M_letterAll_3 : decode prog_9_method_46_code 3 = .ok (.iload 4, 2) := by decide +kernel
theorem d_M_letterAll_5 : decode prog_9_method_46_code 5 = .ok (.iload_n 3, 1) := by decide +kernel
theorem d_M_letterAll_6 : decode prog_9_method_46_code 6 = .ok (.if_icmp .ge 25, 3) := by decide +kernel
theorem d_M_letterAll_9 : decode prog_9_method_46_code 9 = .ok (.aload_n 0, 1) := by decide +kernel
theorem d_M_letterAll_10 : decode prog_9_method_46_code 10 = .ok (.aload_n 0, 1) := by decide +kernel
theorem d_M_letterAll_11 : decode prog_9_method_46_code 11 = .ok (.getfield 30, 3) := by decide +kernel
theorem d_M_letterAll_14 : decode prog_9_method_46_code 14 = .ok (.bipush 64, 2) := by decide +kernel
theorem d_M_letterAll_16 : decode prog_9_method_46_code 16 = .ok (.iload_n 1, 1) := by decide +kernel
theorem d_M_letterAll_17 : decode prog_9_method_46_code 17 = .ok (.imul, 1) := by decide +kernel
theorem d_M_letterAll_18 : decode prog_9_method_46_code 18 = .ok (.iload 4, 2) := by decide +kernel
theorem d_M_letterAll_20 : decode prog_9_method_46_code 20 = .ok (.iadd, 1) := by decide +kernel
theorem d_M_letterAll_21 : decode prog_9_method_46_code 21 = .ok (.iaload, 1) := by decide +kernel
theorem d_M_letterAll_22 : decode prog_9_method_46_code 22 = .ok (.invokevirtual 157, 3) := by decide +kernel
theorem d_M_letterAll_25 : decode prog_9_method_46_code 25 = .ok (.iinc 4 1, 3) := by decide +kernel
theorem d_M_letterAll_28 : decode prog_9_method_46_code 28 = .ok (.goto (-25), 3) := by decide +kernel
theorem d_M_letterAll_31 : decode prog_9_method_46_code 31 = .ok (.return_, 1) := by decide +kernel
def m_M_letterAll_3 (G : Nat → Nat) : Nat → Nat → Int32 → Int32 → Int32 → hp_H → Option (Unit × hp_H)
  | 0, _, _, _, _, _ => none
  | n + 1, a0, a1, a3, a4, h => if a3 ≤ a4 then (some ((), h)) else ((hp_gR h a0 8 7).bind fun x1 => (hp_aI h .int x1 (((64 : Int32) * a1) + a4)).bind fun x2 => (hp_vck h a0 8 (m_M_letter G a0 x2 h)).bind fun q3 => hp_nm (a4 + 1) fun x4 => (m_M_letterAll_3 G  n) a0 a1 a3 x4 q3.2)
set_option maxRecDepth 100000 in
set_option maxHeartbeats 4000000 in
theorem j_M_letterAll_3 {Z : hp_Z} : ∀ (n : Nat) (a0 : Nat) (a1 : Int32) (a3 : Int32) (a4 : Int32) (h : hp_H), hp_J Y_M_letterAll Z hp_rV h 3 [(0, .ref a0), (1, .int a1), (3, .int a3), (4, .int a4)] [] (m_M_letterAll_3 (hp_G Z)  n a0 a1 a3 a4 h) := by
  intro n
  induction n with
  | zero => intro a0 a1 a3 a4 h; exact hp_fail
  | succ n ih =>
    intro a0 a1 a3 a4 h
    rw [m_M_letterAll_3]
    refine hp_iload (x0 := 3) d_M_letterAll_3 rfl ?_
    refine hp_iload_n (x0 := 2) d_M_letterAll_5 rfl rfl ?_
    refine hp_icmp_ge (tgt := 31) d_M_letterAll_6 (by decide) ?_ ?_
    · exact hp_vret d_M_letterAll_31 rfl
    · refine hp_aload_n (x0 := 0) d_M_letterAll_9 rfl rfl ?_
      refine hp_aload_n (x0 := 0) d_M_letterAll_10 rfl rfl ?_
      refine hp_getR fl_M_30 d_M_letterAll_11 fun x1 => ?_
      refine hp_bipush (v := 64) d_M_letterAll_14 (by decide) ?_
      refine hp_iload_n (x0 := 1) d_M_letterAll_16 rfl rfl ?_
      refine hp_imul d_M_letterAll_17 ?_
      refine hp_iload (x0 := 3) d_M_letterAll_18 rfl ?_
      refine hp_iadd d_M_letterAll_20 ?_
      refine hp_iald d_M_letterAll_21 fun x2 => ?_
      refine hp_callU (hp_crV (ci := 8) (t_M_letter _ _ _ _) cw_M_157 rfl ⟨w_1016, ws_43⟩ (by decide) rfl rfl (Nat.le_of_ble_eq_true rfl) d_M_letterAll_22) fun q3 => ?_
      refine hp_iinc (x0 := 3) (d := 1) (fun x4 => [(4, .int x4), (0, .ref a0), (1, .int a1), (3, .int a3)]) d_M_letterAll_25 rfl (by decide) (by decide) (fun _ => rfl) fun x4 => ?_
      refine hp_goto (tgt := 3) d_M_letterAll_28 (by decide) ?_
      refine hp_sub [1, 2, 3, 0] rfl ?_
      exact ih _ _ _ _ _
def m_M_letterAll (G : Nat → Nat) (a0 : Nat) (a1 : Int32) (a2 : Int32) (a3 : Int32) (h : hp_H) : Option (Unit × hp_H) := hp_nm a2 fun x1 => m_M_letterAll_3 G hp_fu a0 a1 a3 x1 h
set_option maxRecDepth 100000 in
set_option maxHeartbeats 4000000 in
theorem j_M_letterAll_0 {Z : hp_Z} (a0 : Nat) (a1 : Int32) (a2 : Int32) (a3 : Int32) (h : hp_H) : hp_J Y_M_letterAll Z hp_rV h 0 [(0, .ref a0), (1, .int a1), (2, .int a2), (3, .int a3)] [] (m_M_letterAll (hp_G Z)  a0 a1 a2 a3 h) := by
  unfold m_M_letterAll
  refine hp_iload_n (x0 := 2) d_M_letterAll_0 rfl rfl ?_
  refine hp_istore (fun x1 => [(4, .int x1), (0, .ref a0), (1, .int a1), (2, .int a2), (3, .int a3)]) d_M_letterAll_1 (by decide) (fun _ => rfl) fun x1 => ?_
  refine hp_sub [1, 2, 4, 0] rfl ?_
  exact j_M_letterAll_3  hp_fu _ _ _ _ _
theorem t_M_letterAll (l : Launch) (E : hp_E) (a0 : Nat) (a1 : Int32) (a2 : Int32) (a3 : Int32) : hp_M l E y_M_letterAll Y_M_letterAll hp_rV [.ref a0, .int a1, .int a2, .int a3] (m_M_letterAll E.2.2.1 a0 a1 a2 a3) := hp_M.of (by decide +kernel) ⟨rfl, rfl⟩ (Nat.le_of_ble_eq_true rfl) (fun Z h hE => by subst hE; exact j_M_letterAll_0 _ _ _ _ h)
-- M_rowOf
theorem d_M_rowOf_0 : decode prog_9_method_67_code 0 = .ok (.iload_n 2, 1) := by decide +kernel
theorem d_M_rowOf_1 : decode prog_9_method_67_code 1 = .ok (.ifCond .le 7, 3) := by decide +kernel
theorem d_M_rowOf_4 : decode prog_9_method_67_code 4 = .ok (.iconst 1, 1) := by decide +kernel
theorem d_M_rowOf_5 : decode prog_9_method_67_code 5 = .ok (.goto 4, 3) := by decide +kernel
theorem d_M_rowOf_8 : decode prog_9_method_67_code 8 = .ok (.iconst 0, 1) := by decide +kernel
theorem d_M_rowOf_9 : decode prog_9_method_67_code 9 = .ok (.istore_n 3, 1) := by decide +kernel
theorem d_M_rowOf_10 : decode prog_9_method_67_code 10 = .ok (.iconst 0, 1) := by decide +kernel
theorem d_M_rowOf_11 : decode prog_9_method_67_code 11 = .ok (.istore 4, 2) := by decide +kernel
theorem d_M_rowOf_13 : decode prog_9_method_67_code 13 = .ok (.iload 4, 2) := by decide +kernel
theorem d_M_rowOf_15 : decode prog_9_method_67_code 15 = .ok (.iload_n 2, 1) := by decide +kernel
theorem d_M_rowOf_16 : decode prog_9_method_67_code 16 = .ok (.if_icmp .ge 85, 3) := by decide +kernel
theorem d_M_rowOf_19 : decode prog_9_method_67_code 19 = .ok (.aload_n 0, 1) := by decide +kernel
theorem d_M_rowOf_20 : decode prog_9_method_67_code 20 = .ok (.aload_n 0, 1) := by decide +kernel
theorem d_M_rowOf_21 : decode prog_9_method_67_code 21 = .ok (.getfield 60, 3) := by decide +kernel
theorem d_M_rowOf_24 : decode prog_9_method_67_code 24 = .ok (.iload_n 1, 1) := by decide +kernel
theorem d_M_rowOf_25 : decode prog_9_method_67_code 25 = .ok (.iload 4, 2) := by decide +kernel
theorem d_M_rowOf_27 : decode prog_9_method_67_code 27 = .ok (.iadd, 1) := by decide +kernel
theorem d_M_rowOf_28 : decode prog_9_method_67_code 28 = .ok (.iaload, 1) := by decide +kernel
theorem d_M_rowOf_29 : decode prog_9_method_67_code 29 = .ok (.invokevirtual 217, 3) := by decide +kernel
theorem d_M_rowOf_32 : decode prog_9_method_67_code 32 = .ok (.ifCond .ne 6, 3) := by decide +kernel
theorem d_M_rowOf_35 : decode prog_9_method_67_code 35 = .ok (.bipush (-4), 2) := by decide +kernel
theorem d_M_rowOf_37 : decode prog_9_method_67_code 37 = .ok (.ireturn, 1) := by decide +kernel
theorem d_M_rowOf_38 : decode prog_9_method_67_code 38 = .ok (.iload_n 3, 1) := by decide +kernel
theorem d_M_rowOf_39 : decode prog_9_method_67_code 39 = .ok (.ifCond .eq 54, 3) := by decide +kernel
theorem d_M_rowOf_42 : decode prog_9_method_67_code 42 = .ok (.aload_n 0, 1) := by decide +kernel
theorem d_M_rowOf_43 : decode prog_9_method_67_code 43 = .ok (.getfield 7, 3) := by decide +kernel
theorem d_M_rowOf_46 : decode prog_9_method_67_code 46 = .ok (.aload_n 0, 1) := by decide +kernel
theorem d_M_rowOf_47 : decode prog_9_method_67_code 47 = .ok (.getfield 60, 3) := by decide +kernel
theorem d_M_rowOf_50 : decode prog_9_method_67_code 50 = .ok (.iload_n 1, 1) := by decide +kernel
theorem d_M_rowOf_51 : decode prog_9_method_67_code 51 = .ok (.iload 4, 2) := by decide +kernel
theorem d_M_rowOf_53 : decode prog_9_method_67_code 53 = .ok (.iadd, 1) := by decide +kernel
theorem d_M_rowOf_54 : decode prog_9_method_67_code 54 = .ok (.iaload, 1) := by decide +kernel
theorem d_M_rowOf_55 : decode prog_9_method_67_code 55 = .ok (.iaload, 1) := by decide +kernel
theorem d_M_rowOf_56 : decode prog_9_method_67_code 56 = .ok (.bipush 6, 2) := by decide +kernel
theorem d_M_rowOf_58 : decode prog_9_method_67_code 58 = .ok (.if_icmp .ne 35, 3) := by decide +kernel
theorem d_M_rowOf_61 : decode prog_9_method_67_code 61 = .ok (.aload_n 0, 1) := by decide +kernel
theorem d_M_rowOf_62 : decode prog_9_method_67_code 62 = .ok (.getfield 13, 3) := by decide +kernel
theorem d_M_rowOf_65 : decode prog_9_method_67_code 65 = .ok (.aload_n 0, 1) := by decide +kernel
theorem d_M_rowOf_66 : decode prog_9_method_67_code 66 = .ok (.getfield 60, 3) := by decide +kernel
theorem d_M_rowOf_69 : decode prog_9_method_67_code 69 = .ok (.iload_n 1, 1) := by decide +kernel
theorem d_M_rowOf_70 : decode prog_9_method_67_code 70 = .ok (.iload 4, 2) := by decide +kernel
theorem d_M_rowOf_72 : decode prog_9_method_67_code 72 = .ok (.iadd, 1) := by decide +kernel
theorem d_M_rowOf_73 : decode prog_9_method_67_code 73 = .ok (.iaload, 1) := by decide +kernel
theorem d_M_rowOf_74 : decode prog_9_method_67_code 74 = .ok (.iaload, 1) := by decide +kernel
theorem d_M_rowOf_75 : decode prog_9_method_67_code 75 = .ok (.aload_n 0, 1) := by decide +kernel
theorem d_M_rowOf_76 : decode prog_9_method_67_code 76 = .ok (.getfield 13, 3) := by decide +kernel
theorem d_M_rowOf_79 : decode prog_9_method_67_code 79 = .ok (.aload_n 0, 1) := by decide +kernel
theorem d_M_rowOf_80 : decode prog_9_method_67_code 80 = .ok (.getfield 60, 3) := by decide +kernel
theorem d_M_rowOf_83 : decode prog_9_method_67_code 83 = .ok (.iload_n 1, 1) := by decide +kernel
theorem d_M_rowOf_84 : decode prog_9_method_67_code 84 = .ok (.iaload, 1) := by decide +kernel
theorem d_M_rowOf_85 : decode prog_9_method_67_code 85 = .ok (.iaload, 1) := by decide +kernel
theorem d_M_rowOf_86 : decode prog_9_method_67_code 86 = .ok (.if_icmp .ne 7, 3) := by decide +kernel
theorem d_M_rowOf_89 : decode prog_9_method_67_code 89 = .ok (.iconst 1, 1) := by decide +kernel
theorem d_M_rowOf_90 : decode prog_9_method_67_code 90 = .ok (.goto 4, 3) := by decide +kernel
theorem d_M_rowOf_93 : decode prog_9_method_67_code 93 = .ok (.iconst 0, 1) := by decide +kernel
theorem d_M_rowOf_94 : decode prog_9_method_67_code 94 = .ok (.istore_n 3, 1) := by decide +kernel
theorem d_M_rowOf_95 : decode prog_9_method_67_code 95 = .ok (.iinc 4 1, 3) := by decide +kernel
theorem d_M_rowOf_98 : decode prog_9_method_67_code 98 = .ok (.goto (-85), 3) := by decide +kernel
theorem d_M_rowOf_101 : decode prog_9_method_67_code 101 = .ok (.aload_n 0, 1) := by decide +kernel
theorem d_M_rowOf_102 : decode prog_9_method_67_code 102 = .ok (.iload_n 3, 1) := by decide +kernel
theorem d_M_rowOf_103 : decode prog_9_method_67_code 103 = .ok (.ifCond .eq 8, 3) := by decide +kernel
theorem d_M_rowOf_106 : decode prog_9_method_67_code 106 = .ok (.bipush 6, 2) := by decide +kernel
theorem d_M_rowOf_108 : decode prog_9_method_67_code 108 = .ok (.goto 4, 3) := by decide +kernel
theorem d_M_rowOf_111 : decode prog_9_method_67_code 111 = .ok (.iconst 5, 1) := by decide +kernel
theorem d_M_rowOf_112 : decode prog_9_method_67_code 112 = .ok (.iload_n 3, 1) := by decide +kernel
theorem d_M_rowOf_113 : decode prog_9_method_67_code 113 = .ok (.ifCond .eq 17, 3) := by decide +kernel
theorem d_M_rowOf_116 : decode prog_9_method_67_code 116 = .ok (.aload_n 0, 1) := by decide +kernel
theorem d_M_rowOf_117 : decode prog_9_method_67_code 117 = .ok (.getfield 13, 3) := by decide +kernel
theorem d_M_rowOf_120 : decode prog_9_method_67_code 120 = .ok (.aload_n 0, 1) := by decide +kernel
theorem d_M_rowOf_121 : decode prog_9_method_67_code 121 = .ok (.getfield 60, 3) := by decide +kernel
theorem d_M_rowOf_124 : decode prog_9_method_67_code 124 = .ok (.iload_n 1, 1) := by decide +kernel
theorem d_M_rowOf_125 : decode prog_9_method_67_code 125 = .ok (.iaload, 1) := by decide +kernel
theorem d_M_rowOf_126 : decode prog_9_method_67_code 126 = .ok (.iaload, 1) := by decide +kernel
theorem d_M_rowOf_127 : decode prog_9_method_67_code 127 = .ok (.goto 4, 3) := by decide +kernel
theorem d_M_rowOf_130 : decode prog_9_method_67_code 130 = .ok (.iconst 0, 1) := by decide +kernel
theorem d_M_rowOf_131 : decode prog_9_method_67_code 131 = .ok (.invokevirtual 103, 3) := by decide +kernel
theorem d_M_rowOf_134 : decode prog_9_method_67_code 134 = .ok (.iconst 0, 1) := by decide +kernel
theorem d_M_rowOf_135 : decode prog_9_method_67_code 135 = .ok (.istore 4, 2) := by decide +kernel
theorem d_M_rowOf_137 : decode prog_9_method_67_code 137 = .ok (.iload 4, 2) := by decide +kernel
theorem d_M_rowOf_139 : decode prog_9_method_67_code 139 = .ok (.iload_n 2, 1) := by decide +kernel
theorem d_M_rowOf_140 : decode prog_9_method_67_code 140 = .ok (.if_icmp .ge 37, 3) := by decide +kernel
theorem d_M_rowOf_143 : decode prog_9_method_67_code 143 = .ok (.aload_n 0, 1) := by decide +kernel
theorem d_M_rowOf_144 : decode prog_9_method_67_code 144 = .ok (.aload_n 0, 1) := by decide +kernel
theorem d_M_rowOf_145 : decode prog_9_method_67_code 145 = .ok (.getfield 60, 3) := by decide +kernel
theorem d_M_rowOf_148 : decode prog_9_method_67_code 148 = .ok (.iload_n 1, 1) := by decide +kernel
theorem d_M_rowOf_149 : decode prog_9_method_67_code 149 = .ok (.iload 4, 2) := by decide +kernel
theorem d_M_rowOf_151 : decode prog_9_method_67_code 151 = .ok (.iadd, 1) := by decide +kernel
theorem d_M_rowOf_152 : decode prog_9_method_67_code 152 = .ok (.iaload, 1) := by decide +kernel
theorem d_M_rowOf_153 : decode prog_9_method_67_code 153 = .ok (.iconst 0, 1) := by decide +kernel
theorem d_M_rowOf_154 : decode prog_9_method_67_code 154 = .ok (.aload_n 0, 1) := by decide +kernel
theorem d_M_rowOf_155 : decode prog_9_method_67_code 155 = .ok (.getfield 26, 3) := by decide +kernel
theorem d_M_rowOf_158 : decode prog_9_method_67_code 158 = .ok (.aload_n 0, 1) := by decide +kernel
theorem d_M_rowOf_159 : decode prog_9_method_67_code 159 = .ok (.getfield 60, 3) := by decide +kernel
theorem d_M_rowOf_162 : decode prog_9_method_67_code 162 = .ok (.iload_n 1, 1) := by decide +kernel
theorem d_M_rowOf_163 : decode prog_9_method_67_code 163 = .ok (.iload 4, 2) := by decide +kernel
theorem d_M_rowOf_165 : decode prog_9_method_67_code 165 = .ok (.iadd, 1) := by decide +kernel
theorem d_M_rowOf_166 : decode prog_9_method_67_code 166 = .ok (.iaload, 1) := by decide +kernel
theorem d_M_rowOf_167 : decode prog_9_method_67_code 167 = .ok (.iaload, 1) := by decide +kernel
theorem d_M_rowOf_168 : decode prog_9_method_67_code 168 = .ok (.invokevirtual 202, 3) := by decide +kernel
theorem d_M_rowOf_171 : decode prog_9_method_67_code 171 = .ok (.iinc 4 1, 3) := by decide +kernel
theorem d_M_rowOf_174 : decode prog_9_method_67_code 174 = .ok (.goto (-37), 3) := by decide +kernel
theorem d_M_rowOf_177 : decode prog_9_method_67_code 177 = .ok (.aload_n 0, 1) := by decide +kernel
theorem d_M_rowOf_178 : decode prog_9_method_67_code 178 = .ok (.invokevirtual 111, 3) := by decide +kernel
theorem d_M_rowOf_181 : decode prog_9_method_67_code 181 = .ok (.ireturn, 1) := by decide +kernel
def m_M_rowOf_94 (G : Nat → Nat) (r13 : Nat → Int32 → Int32 → Int32 → Int32 → hp_H → Option (Int32 × hp_H)) (a0 : Nat) (a1 : Int32) (a2 : Int32) (a4 : Int32) (s0 : Int32) (h : hp_H) : Option (Int32 × hp_H) := hp_nm s0 fun x1 => hp_nm (a4 + 1) fun x2 => r13 a0 a1 a2 x1 x2 h
set_option maxRecDepth 100000 in
set_option maxHeartbeats 4000000 in
theorem j_M_rowOf_94 {Z : hp_Z} (r13 : Nat → Int32 → Int32 → Int32 → Int32 → hp_H → Option (Int32 × hp_H)) (hr13 : ∀ (a0 : Nat) (a1 : Int32) (a2 : Int32) (a3 : Int32) (a4 : Int32) (h : hp_H), hp_J Y_M_rowOf Z hp_rI h 13 [(0, .ref a0), (1, .int a1), (2, .int a2), (3, .int a3), (4, .int a4)] [] (r13 a0 a1 a2 a3 a4  h)) (a0 : Nat) (a1 : Int32) (a2 : Int32) (a4 : Int32) (s0 : Int32) (h : hp_H) : hp_J Y_M_rowOf Z hp_rI h 94 [(0, .ref a0), (1, .int a1), (2, .int a2), (4, .int a4)] [.int s0] (m_M_rowOf_94 (hp_G Z) r13 a0 a1 a2 a4 s0 h) := by
  unfold m_M_rowOf_94
  refine hp_istore_n (fun x1 => [(3, .int x1), (0, .ref a0), (1, .int a1), (2, .int a2), (4, .int a4)]) d_M_rowOf_94 rfl (by decide) (fun _ => rfl) fun x1 => ?_
  refine hp_iinc (x0 := 4) (d := 1) (fun x2 => [(4, .int x2), (3, .int x1), (0, .ref a0), (1, .int a1), (2, .int a2)]) d_M_rowOf_95 rfl (by decide) (by decide) (fun _ => rfl) fun x2 => ?_
  refine hp_goto (tgt := 13) d_M_rowOf_98 (by decide) ?_
  refine hp_sub [2, 3, 4, 1, 0] rfl ?_
  exact hr13 _ _ _ _ _ _
def m_M_rowOf_93 (G : Nat → Nat) (r13 : Nat → Int32 → Int32 → Int32 → Int32 → hp_H → Option (Int32 × hp_H)) (a0 : Nat) (a1 : Int32) (a2 : Int32) (a4 : Int32) (h : hp_H) : Option (Int32 × hp_H) := m_M_rowOf_94 G r13 a0 a1 a2 a4 (0 : Int32) h
set_option maxRecDepth 100000 in
set_option maxHeartbeats 4000000 in
theorem j_M_rowOf_93 {Z : hp_Z} (r13 : Nat → Int32 → Int32 → Int32 → Int32 → hp_H → Option (Int32 × hp_H)) (hr13 : ∀ (a0 : Nat) (a1 : Int32) (a2 : Int32) (a3 : Int32) (a4 : Int32) (h : hp_H), hp_J Y_M_rowOf Z hp_rI h 13 [(0, .ref a0), (1, .int a1), (2, .int a2), (3, .int a3), (4, .int a4)] [] (r13 a0 a1 a2 a3 a4  h)) (a0 : Nat) (a1 : Int32) (a2 : Int32) (a4 : Int32) (h : hp_H) : hp_J Y_M_rowOf Z hp_rI h 93 [(0, .ref a0), (1, .int a1), (2, .int a2), (4, .int a4)] [] (m_M_rowOf_93 (hp_G Z) r13 a0 a1 a2 a4 h) := by
  unfold m_M_rowOf_93
  refine hp_iconst (v := 0) d_M_rowOf_93 (by decide) ?_
  exact j_M_rowOf_94 _ hr13 _ _ _ _ _ _
def m_M_rowOf_137 (G : Nat → Nat) : Nat → Nat → Int32 → Int32 → Int32 → hp_H → Option (Int32 × hp_H)
  | 0, _, _, _, _, _ => none
  | n + 1, a0, a1, a2, a4, h => if a2 ≤ a4 then ((hp_vck h a0 8 (m_M_keep G a0 h)).bind fun q1 => some (q1.1, q1.2)) else ((hp_gR h a0 8 24).bind fun x2 => (hp_aI h .int x2 (a1 + a4)).bind fun x3 => (hp_gR h a0 8 6).bind fun x4 => (hp_gR h a0 8 24).bind fun x5 => (hp_aI h .int x5 (a1 + a4)).bind fun x6 => (hp_aI h .int x4 x6).bind fun x7 => (hp_vck h a0 8 (m_M_letterAll G a0 x3 (0 : Int32) x7 h)).bind fun q8 => hp_nm (a4 + 1) fun x9 => (m_M_rowOf_137 G  n) a0 a1 a2 x9 q8.2)
set_option maxRecDepth 100000 in
set_option maxHeartbeats 4000000 in
theorem j_M_rowOf_137 {Z : hp_Z} : ∀ (n : Nat) (a0 : Nat) (a1 : Int32) (a2 : Int32) (a4 : Int32) (h : hp_H), hp_J Y_M_rowOf Z hp_rI h 137 [(0, .ref a0), (1, .int a1), (2, .int a2), (4, .int a4)] [] (m_M_rowOf_137 (hp_G Z)  n a0 a1 a2 a4 h) := by
  intro n
  induction n with
  | zero => intro a0 a1 a2 a4 h; exact hp_fail
  | succ n ih =>
    intro a0 a1 a2 a4 h
    rw [m_M_rowOf_137]
    refine hp_iload (x0 := 3) d_M_rowOf_137 rfl ?_
    refine hp_iload_n (x0 := 2) d_M_rowOf_139 rfl rfl ?_
    refine hp_icmp_ge (tgt := 177) d_M_rowOf_140 (by decide) ?_ ?_
    · refine hp_aload_n (x0 := 0) d_M_rowOf_177 rfl rfl ?_
      refine hp_callI (hp_crV (ci := 8) (t_M_keep _ _ _) cw_M_111 rfl ⟨w_992, ws_41⟩ (by decide) rfl rfl (Nat.le_of_ble_eq_true rfl) d_M_rowOf_178) fun q1 => ?_
      exact hp_iret d_M_rowOf_181 rfl
    · refine hp_aload_n (x0 := 0) d_M_rowOf_143 rfl rfl ?_
      refine hp_aload_n (x0 := 0) d_M_rowOf_144 rfl rfl ?_
      refine hp_getR fl_M_60 d_M_rowOf_145 fun x2 => ?_
      refine hp_iload_n (x0 := 1) d_M_rowOf_148 rfl rfl ?_
      refine hp_iload (x0 := 3) d_M_rowOf_149 rfl ?_
      refine hp_iadd d_M_rowOf_151 ?_
      refine hp_iald d_M_rowOf_152 fun x3 => ?_
      refine hp_iconst (v := 0) d_M_rowOf_153 (by decide) ?_
      refine hp_aload_n (x0 := 0) d_M_rowOf_154 rfl rfl ?_
      refine hp_getR fl_M_26 d_M_rowOf_155 fun x4 => ?_
      refine hp_aload_n (x0 := 0) d_M_rowOf_158 rfl rfl ?_
      refine hp_getR fl_M_60 d_M_rowOf_159 fun x5 => ?_
      refine hp_iload_n (x0 := 1) d_M_rowOf_162 rfl rfl ?_
      refine hp_iload (x0 := 3) d_M_rowOf_163 rfl ?_
      refine hp_iadd d_M_rowOf_165 ?_
      refine hp_iald d_M_rowOf_166 fun x6 => ?_
      refine hp_iald d_M_rowOf_167 fun x7 => ?_
      refine hp_callU (hp_crV (ci := 8) (t_M_letterAll _ _ _ _ _ _) cw_M_202 rfl ⟨w_1139, ws_63⟩ (by decide) rfl rfl (Nat.le_of_ble_eq_true rfl) d_M_rowOf_168) fun q8 => ?_
      refine hp_iinc (x0 := 3) (d := 1) (fun x9 => [(4, .int x9), (0, .ref a0), (1, .int a1), (2, .int a2)]) d_M_rowOf_171 rfl (by decide) (by decide) (fun _ => rfl) fun x9 => ?_
      refine hp_goto (tgt := 137) d_M_rowOf_174 (by decide) ?_
      refine hp_sub [1, 2, 3, 0] rfl ?_
      exact ih _ _ _ _ _
def m_M_rowOf_131 (G : Nat → Nat) (a0 : Nat) (a1 : Int32) (a2 : Int32) (s0 : Int32) (s1 : Int32) (s2 : Nat) (h : hp_H) : Option (Int32 × hp_H) := (hp_vck h s2 8 (m_M_start G s2 s1 s0 h)).bind fun q1 => hp_nm (0 : Int32) fun x2 => m_M_rowOf_137 G hp_fu a0 a1 a2 x2 q1.2
set_option maxRecDepth 100000 in
set_option maxHeartbeats 4000000 in
theorem j_M_rowOf_131 {Z : hp_Z} (a0 : Nat) (a1 : Int32) (a2 : Int32) (s0 : Int32) (s1 : Int32) (s2 : Nat) (h : hp_H) : hp_J Y_M_rowOf Z hp_rI h 131 [(0, .ref a0), (1, .int a1), (2, .int a2)] [.int s0, .int s1, .ref s2] (m_M_rowOf_131 (hp_G Z)  a0 a1 a2 s0 s1 s2 h) := by
  unfold m_M_rowOf_131
  refine hp_callU (hp_crV (ci := 8) (t_M_start _ _ _ _ _) cw_M_103 rfl ⟨w_985, ws_40⟩ (by decide) rfl rfl (Nat.le_of_ble_eq_true rfl) d_M_rowOf_131) fun q1 => ?_
  refine hp_iconst (v := 0) d_M_rowOf_134 (by decide) ?_
  refine hp_istore (fun x2 => [(4, .int x2), (0, .ref a0), (1, .int a1), (2, .int a2)]) d_M_rowOf_135 (by decide) (fun _ => rfl) fun x2 => ?_
  refine hp_sub [1, 2, 3, 0] rfl ?_
  exact j_M_rowOf_137  hp_fu _ _ _ _ _
def m_M_rowOf_112 (G : Nat → Nat) (a0 : Nat) (a1 : Int32) (a2 : Int32) (a3 : Int32) (s0 : Int32) (s1 : Nat) (h : hp_H) : Option (Int32 × hp_H) := if a3 = 0 then (m_M_rowOf_131 G a0 a1 a2 (0 : Int32) s0 s1 h) else ((hp_gR h a0 8 2).bind fun x1 => (hp_gR h a0 8 24).bind fun x2 => (hp_aI h .int x2 a1).bind fun x3 => (hp_aI h .int x1 x3).bind fun x4 => m_M_rowOf_131 G a0 a1 a2 x4 s0 s1 h)
set_option maxRecDepth 100000 in
set_option maxHeartbeats 4000000 in
theorem j_M_rowOf_112 {Z : hp_Z} (a0 : Nat) (a1 : Int32) (a2 : Int32) (a3 : Int32) (s0 : Int32) (s1 : Nat) (h : hp_H) : hp_J Y_M_rowOf Z hp_rI h 112 [(0, .ref a0), (1, .int a1), (2, .int a2), (3, .int a3)] [.int s0, .ref s1] (m_M_rowOf_112 (hp_G Z)  a0 a1 a2 a3 s0 s1 h) := by
  unfold m_M_rowOf_112
  refine hp_iload_n (x0 := 3) d_M_rowOf_112 rfl rfl ?_
  refine hp_if_eq (tgt := 130) d_M_rowOf_113 (by decide) ?_ ?_
  · refine hp_iconst (v := 0) d_M_rowOf_130 (by decide) ?_
    refine hp_sub [0, 1, 2] rfl ?_
    exact j_M_rowOf_131  _ _ _ _ _ _ _
  · refine hp_aload_n (x0 := 0) d_M_rowOf_116 rfl rfl ?_
    refine hp_getR fl_M_13 d_M_rowOf_117 fun x1 => ?_
    refine hp_aload_n (x0 := 0) d_M_rowOf_120 rfl rfl ?_
    refine hp_getR fl_M_60 d_M_rowOf_121 fun x2 => ?_
    refine hp_iload_n (x0 := 1) d_M_rowOf_124 rfl rfl ?_
    refine hp_iald d_M_rowOf_125 fun x3 => ?_
    refine hp_iald d_M_rowOf_126 fun x4 => ?_
    refine hp_goto (tgt := 131) d_M_rowOf_127 (by decide) ?_
    refine hp_sub [0, 1, 2] rfl ?_
    exact j_M_rowOf_131  _ _ _ _ _ _ _
def m_M_rowOf_13 (G : Nat → Nat) : Nat → Nat → Int32 → Int32 → Int32 → Int32 → hp_H → Option (Int32 × hp_H)
  | 0, _, _, _, _, _, _ => none
  | n + 1, a0, a1, a2, a3, a4, h => if a2 ≤ a4 then (if a3 = 0 then (m_M_rowOf_112 G a0 a1 a2 a3 (5 : Int32) a0 h) else (m_M_rowOf_112 G a0 a1 a2 a3 (6 : Int32) a0 h)) else ((hp_gR h a0 8 24).bind fun x1 => (hp_aI h .int x1 (a1 + a4)).bind fun x2 => (hp_vck h a0 8 (m_M_isPlain G a0 x2 h)).bind fun q3 => if q3.1 = 0 then (some ((-4 : Int32), q3.2)) else (if a3 = 0 then (m_M_rowOf_93 G (m_M_rowOf_13 G  n) a0 a1 a2 a4 q3.2) else ((hp_gR q3.2 a0 8 1).bind fun x4 => (hp_gR q3.2 a0 8 24).bind fun x5 => (hp_aI q3.2 .int x5 (a1 + a4)).bind fun x6 => (hp_aI q3.2 .int x4 x6).bind fun x7 => if x7 = (6 : Int32) then ((hp_gR q3.2 a0 8 2).bind fun x8 => (hp_gR q3.2 a0 8 24).bind fun x9 => (hp_aI q3.2 .int x9 (a1 + a4)).bind fun x10 => (hp_aI q3.2 .int x8 x10).bind fun x11 => (hp_gR q3.2 a0 8 2).bind fun x12 => (hp_gR q3.2 a0 8 24).bind fun x13 => (hp_aI q3.2 .int x13 a1).bind fun x14 => (hp_aI q3.2 .int x12 x14).bind fun x15 => if x11 = x15 then (m_M_rowOf_94 G (m_M_rowOf_13 G  n) a0 a1 a2 a4 (1 : Int32) q3.2) else (m_M_rowOf_93 G (m_M_rowOf_13 G  n) a0 a1 a2 a4 q3.2)) else (m_M_rowOf_93 G (m_M_rowOf_13 G  n) a0 a1 a2 a4 q3.2))))
set_option maxRecDepth 100000 in
set_option maxHeartbeats 4000000 in
theorem j_M_rowOf_13 {Z : hp_Z} : ∀ (n : Nat) (a0 : Nat) (a1 : Int32) (a2 : Int32) (a3 : Int32) (a4 : Int32) (h : hp_H), hp_J Y_M_rowOf Z hp_rI h 13 [(0, .ref a0), (1, .int a1), (2, .int a2), (3, .int a3), (4, .int a4)] [] (m_M_rowOf_13 (hp_G Z)  n a0 a1 a2 a3 a4 h) := by
  intro n
  induction n with
  | zero => intro a0 a1 a2 a3 a4 h; exact hp_fail
  | succ n ih =>
    intro a0 a1 a2 a3 a4 h
    rw [m_M_rowOf_13]
    refine hp_iload (x0 := 4) d_M_rowOf_13 rfl ?_
    refine hp_iload_n (x0 := 2) d_M_rowOf_15 rfl rfl ?_
    refine hp_icmp_ge (tgt := 101) d_M_rowOf_16 (by decide) ?_ ?_
    · refine hp_aload_n (x0 := 0) d_M_rowOf_101 rfl rfl ?_
      refine hp_iload_n (x0 := 3) d_M_rowOf_102 rfl rfl ?_
      refine hp_if_eq (tgt := 111) d_M_rowOf_103 (by decide) ?_ ?_
      · refine hp_iconst (v := 5) d_M_rowOf_111 (by decide) ?_
        refine hp_sub [0, 1, 2, 3] rfl ?_
        exact j_M_rowOf_112  _ _ _ _ _ _ _
      · refine hp_bipush (v := 6) d_M_rowOf_106 (by decide) ?_
        refine hp_goto (tgt := 112) d_M_rowOf_108 (by decide) ?_
        refine hp_sub [0, 1, 2, 3] rfl ?_
        exact j_M_rowOf_112  _ _ _ _ _ _ _
    · refine hp_aload_n (x0 := 0) d_M_rowOf_19 rfl rfl ?_
      refine hp_aload_n (x0 := 0) d_M_rowOf_20 rfl rfl ?_
      refine hp_getR fl_M_60 d_M_rowOf_21 fun x1 => ?_
      refine hp_iload_n (x0 := 1) d_M_rowOf_24 rfl rfl ?_
      refine hp_iload (x0 := 4) d_M_rowOf_25 rfl ?_
      refine hp_iadd d_M_rowOf_27 ?_
      refine hp_iald d_M_rowOf_28 fun x2 => ?_
      refine hp_callI (hp_crV (ci := 8) (t_M_isPlain _ _ _ _) cw_M_217 rfl ⟨w_1135, ws_62⟩ (by decide) rfl rfl (Nat.le_of_ble_eq_true rfl) d_M_rowOf_29) fun q3 => ?_
      refine hp_if_ne (tgt := 38) d_M_rowOf_32 (by decide) ?_ ?_
      · refine hp_bipush (v := -4) d_M_rowOf_35 (by decide) ?_
        exact hp_iret d_M_rowOf_37 rfl
      · refine hp_iload_n (x0 := 3) d_M_rowOf_38 rfl rfl ?_
        refine hp_if_eq (tgt := 93) d_M_rowOf_39 (by decide) ?_ ?_
        · refine hp_sub [0, 1, 2, 4] rfl ?_
          exact j_M_rowOf_93 _ ih _ _ _ _ _
        · refine hp_aload_n (x0 := 0) d_M_rowOf_42 rfl rfl ?_
          refine hp_getR fl_M_7 d_M_rowOf_43 fun x4 => ?_
          refine hp_aload_n (x0 := 0) d_M_rowOf_46 rfl rfl ?_
          refine hp_getR fl_M_60 d_M_rowOf_47 fun x5 => ?_
          refine hp_iload_n (x0 := 1) d_M_rowOf_50 rfl rfl ?_
          refine hp_iload (x0 := 4) d_M_rowOf_51 rfl ?_
          refine hp_iadd d_M_rowOf_53 ?_
          refine hp_iald d_M_rowOf_54 fun x6 => ?_
          refine hp_iald d_M_rowOf_55 fun x7 => ?_
          refine hp_bipush (v := 6) d_M_rowOf_56 (by decide) ?_
          refine hp_icmp_ne (tgt := 93) d_M_rowOf_58 (by decide) ?_ ?_
          · refine hp_aload_n (x0 := 0) d_M_rowOf_61 rfl rfl ?_
            refine hp_getR fl_M_13 d_M_rowOf_62 fun x8 => ?_
            refine hp_aload_n (x0 := 0) d_M_rowOf_65 rfl rfl ?_
            refine hp_getR fl_M_60 d_M_rowOf_66 fun x9 => ?_
            refine hp_iload_n (x0 := 1) d_M_rowOf_69 rfl rfl ?_
            refine hp_iload (x0 := 4) d_M_rowOf_70 rfl ?_
            refine hp_iadd d_M_rowOf_72 ?_
            refine hp_iald d_M_rowOf_73 fun x10 => ?_
            refine hp_iald d_M_rowOf_74 fun x11 => ?_
            refine hp_aload_n (x0 := 0) d_M_rowOf_75 rfl rfl ?_
            refine hp_getR fl_M_13 d_M_rowOf_76 fun x12 => ?_
            refine hp_aload_n (x0 := 0) d_M_rowOf_79 rfl rfl ?_
            refine hp_getR fl_M_60 d_M_rowOf_80 fun x13 => ?_
            refine hp_iload_n (x0 := 1) d_M_rowOf_83 rfl rfl ?_
            refine hp_iald d_M_rowOf_84 fun x14 => ?_
            refine hp_iald d_M_rowOf_85 fun x15 => ?_
            refine hp_icmp_ne (tgt := 93) d_M_rowOf_86 (by decide) ?_ ?_
            · refine hp_iconst (v := 1) d_M_rowOf_89 (by decide) ?_
              refine hp_goto (tgt := 94) d_M_rowOf_90 (by decide) ?_
              refine hp_sub [0, 1, 2, 4] rfl ?_
              exact j_M_rowOf_94 _ ih _ _ _ _ _ _
            · refine hp_sub [0, 1, 2, 4] rfl ?_
              exact j_M_rowOf_93 _ ih _ _ _ _ _
          · refine hp_sub [0, 1, 2, 4] rfl ?_
            exact j_M_rowOf_93 _ ih _ _ _ _ _
def m_M_rowOf_9 (G : Nat → Nat) (a0 : Nat) (a1 : Int32) (a2 : Int32) (s0 : Int32) (h : hp_H) : Option (Int32 × hp_H) := hp_nm s0 fun x1 => hp_nm (0 : Int32) fun x2 => m_M_rowOf_13 G hp_fu a0 a1 a2 x1 x2 h
set_option maxRecDepth 100000 in
set_option maxHeartbeats 4000000 in
theorem j_M_rowOf_9 {Z : hp_Z} (a0 : Nat) (a1 : Int32) (a2 : Int32) (s0 : Int32) (h : hp_H) : hp_J Y_M_rowOf Z hp_rI h 9 [(0, .ref a0), (1, .int a1), (2, .int a2)] [.int s0] (m_M_rowOf_9 (hp_G Z)  a0 a1 a2 s0 h) := by
  unfold m_M_rowOf_9
  refine hp_istore_n (fun x1 => [(3, .int x1), (0, .ref a0), (1, .int a1), (2, .int a2)]) d_M_rowOf_9 rfl (by decide) (fun _ => rfl) fun x1 => ?_
  refine hp_iconst (v := 0) d_M_rowOf_10 (by decide) ?_
  refine hp_istore (fun x2 => [(4, .int x2), (3, .int x1), (0, .ref a0), (1, .int a1), (2, .int a2)]) d_M_rowOf_11 (by decide) (fun _ => rfl) fun x2 => ?_
  refine hp_sub [2, 3, 4, 1, 0] rfl ?_
  exact j_M_rowOf_13  hp_fu _ _ _ _ _ _
def m_M_rowOf (G : Nat → Nat) (a0 : Nat) (a1 : Int32) (a2 : Int32) (h : hp_H) : Option (Int32 × hp_H) := if a2 ≤ 0 then (m_M_rowOf_9 G a0 a1 a2 (0 : Int32) h) else (m_M_rowOf_9 G a0 a1 a2 (1 : Int32) h)
set_option maxRecDepth 100000 in
set_option maxHeartbeats 4000000 in
theorem j_M_rowOf_0 {Z : hp_Z} (a0 : Nat) (a1 : Int32) (a2 : Int32) (h : hp_H) : hp_J Y_M_rowOf Z hp_rI h 0 [(0, .ref a0), (1, .int a1), (2, .int a2)] [] (m_M_rowOf (hp_G Z)  a0 a1 a2 h) := by
  unfold m_M_rowOf
  refine hp_iload_n (x0 := 2) d_M_rowOf_0 rfl rfl ?_
  refine hp_if_le (tgt := 8) d_M_rowOf_1 (by decide) ?_ ?_
  · refine hp_iconst (v := 0) d_M_rowOf_8 (by decide) ?_
    exact j_M_rowOf_9  _ _ _ _ _
  · refine hp_iconst (v := 1) d_M_rowOf_4 (by decide) ?_
    refine hp_goto (tgt := 9) d_M_rowOf_5 (by decide) ?_
    exact j_M_rowOf_9  _ _ _ _ _
theorem t_M_rowOf (l : Launch) (E : hp_E) (a0 : Nat) (a1 : Int32) (a2 : Int32) : hp_M l E y_M_rowOf Y_M_rowOf hp_rI [.ref a0, .int a1, .int a2] (m_M_rowOf E.2.2.1 a0 a1 a2) := hp_M.of (by decide +kernel) ⟨rfl, rfl⟩ (Nat.le_of_ble_eq_true rfl) (fun Z h hE => by subst hE; exact j_M_rowOf_0 _ _ _ h)
