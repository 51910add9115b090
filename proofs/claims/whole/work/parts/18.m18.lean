-- M_type
theorem d_M_type_0 : decode prog_9_method_24_code 0 = .ok (.iload_n 3, 1) := by decide +kernel
theorem d_M_type_1 : decode prog_9_method_24_code 1 = .ok (.iconst 1, 1) := by decide +kernel
theorem d_M_type_2 : decode prog_9_method_24_code 2 = .ok (.if_icmp .lt 9, 3) := by decide +kernel
theorem d_M_type_5 : decode prog_9_method_24_code 5 = .ok (.iload_n 3, 1) := by decide +kernel
theorem d_M_type_6 : decode prog_9_method_24_code 6 = .ok (.bipush 8, 2) := by decide +kernel
theorem d_M_type_8 : decode prog_9_method_24_code 8 = .ok (.if_icmp .le 5, 3) := by decide +kernel
theorem d_M_type_11 : decode prog_9_method_24_code 11 = .ok (.iconst (-1), 1) := by decide +kernel
theorem d_M_type_12 : decode prog_9_method_24_code 12 = .ok (.ireturn, 1) := by decide +kernel
theorem d_M_type_13 : decode prog_9_method_24_code 13 = .ok (.aload_n 0, 1) := by decide +kernel
theorem d_M_type_14 : decode prog_9_method_24_code 14 = .ok (.getfield 144, 3) := by decide +kernel
theorem d_M_type_17 : decode prog_9_method_24_code 17 = .ok (.iload_n 3, 1) := by decide +kernel
theorem d_M_type_18 : decode prog_9_method_24_code 18 = .ok (.iadd, 1) := by decide +kernel
theorem d_M_type_19 : decode prog_9_method_24_code 19 = .ok (.bipush 64, 2) := by decide +kernel
theorem d_M_type_21 : decode prog_9_method_24_code 21 = .ok (.if_icmp .le 6, 3) := by decide +kernel
theorem d_M_type_24 : decode prog_9_method_24_code 24 = .ok (.bipush (-3), 2) := by decide +kernel
theorem d_M_type_26 : decode prog_9_method_24_code 26 = .ok (.ireturn, 1) := by decide +kernel
theorem d_M_type_27 : decode prog_9_method_24_code 27 = .ok (.iload_n 3, 1) := by decide +kernel
theorem d_M_type_28 : decode prog_9_method_24_code 28 = .ok (.iconst 1, 1) := by decide +kernel
theorem d_M_type_29 : decode prog_9_method_24_code 29 = .ok (.isub, 1) := by decide +kernel
theorem d_M_type_30 : decode prog_9_method_24_code 30 = .ok (.istore 4, 2) := by decide +kernel
theorem d_M_type_32 : decode prog_9_method_24_code 32 = .ok (.iload 4, 2) := by decide +kernel
theorem d_M_type_34 : decode prog_9_method_24_code 34 = .ok (.ifCond .lt 40, 3) := by decide +kernel
theorem d_M_type_37 : decode prog_9_method_24_code 37 = .ok (.aload_n 0, 1) := by decide +kernel
theorem d_M_type_38 : decode prog_9_method_24_code 38 = .ok (.getfield 33, 3) := by decide +kernel
theorem d_M_type_41 : decode prog_9_method_24_code 41 = .ok (.aload_n 0, 1) := by decide +kernel
theorem d_M_type_42 : decode prog_9_method_24_code 42 = .ok (.getfield 144, 3) := by decide +kernel
theorem d_M_type_45 : decode prog_9_method_24_code 45 = .ok (.lload_n 1, 1) := by decide +kernel
theorem d_M_type_46 : decode prog_9_method_24_code 46 = .ok (.bipush 8, 2) := by decide +kernel
theorem d_M_type_48 : decode prog_9_method_24_code 48 = .ok (.iload 4, 2) := by decide +kernel
theorem d_M_type_50 : decode prog_9_method_24_code 50 = .ok (.imul, 1) := by decide +kernel
theorem d_M_type_51 : decode prog_9_method_24_code 51 = .ok (.lshr, 1) := by decide +kernel
theorem d_M_type_52 : decode prog_9_method_24_code 52 = .ok (.ldc2_w 147, 3) := by decide +kernel
theorem d_M_type_55 : decode prog_9_method_24_code 55 = .ok (.land, 1) := by decide +kernel
theorem d_M_type_56 : decode prog_9_method_24_code 56 = .ok (.l2i, 1) := by decide +kernel
theorem d_M_type_57 : decode prog_9_method_24_code 57 = .ok (.iastore, 1) := by decide +kernel
theorem d_M_type_58 : decode prog_9_method_24_code 58 = .ok (.aload_n 0, 1) := by decide +kernel
theorem d_M_type_59 : decode prog_9_method_24_code 59 = .ok (.dup, 1) := by decide +kernel
theorem d_M_type_60 : decode prog_9_method_24_code 60 = .ok (.getfield 144, 3) := by decide +kernel
theorem d_M_type_63 : decode prog_9_method_24_code 63 = .ok (.iconst 1, 1) := by decide +kernel
theorem d_M_type_64 : decode prog_9_method_24_code 64 = .ok (.iadd, 1) := by decide +kernel
theorem d_M_type_65 : decode prog_9_method_24_code 65 = .ok (.putfield 144, 3) := by decide +kernel
theorem d_M_type_68 : decode prog_9_method_24_code 68 = .ok (.iinc 4 (-1), 3) := by decide +kernel
theorem d_M_type_71 : decode prog_9_method_24_code 71 = .ok (.goto (-39), 3) := by decide +kernel
theorem d_M_type_74 : decode prog_9_method_24_code 74 = .ok (.aload_n 0, 1) := by decide +kernel
theorem d_M_type_75 : decode prog_9_method_24_code 75 = .ok (.getfield 144, 3) := by decide +kernel
theorem d_M_type_78 : decode prog_9_method_24_code 78 = .ok (.ireturn, 1) := by decide +kernel
def m_M_type_11 (G : Nat → Nat) (h : hp_H) : Option (Int32 × hp_H) := some ((-1 : Int32), h)
set_option maxRecDepth 100000 in
set_option maxHeartbeats 4000000 in
theorem j_M_type_11 {Z : hp_Z} (h : hp_H) : hp_J Y_M_type Z hp_rI h 11 [] [] (m_M_type_11 (hp_G Z)   h) := by
  unfold m_M_type_11
  refine hp_iconst (v := -1) d_M_type_11 (by decide) ?_
  exact hp_iret d_M_type_12 rfl
def m_M_type_32 (G : Nat → Nat) : Nat → Nat → Int64 → Int32 → hp_H → Option (Int32 × hp_H)
  | 0, _, _, _, _ => none
  | n + 1, a0, a1, a4, h => if a4 < 0 then ((hp_gI h a0 8 9).bind fun x1 => some (x1, h)) else ((hp_gR h a0 8 8).bind fun x2 => (hp_gI h a0 8 9).bind fun x3 => (hp_sI h .int x2 x3 (((a1 >>> (((8 : Int32) * a4).toInt64 &&& 63)) &&& (255 : Int64)).toInt32)).bind fun h4 => (hp_gI h4 a0 8 9).bind fun x5 => (hp_p h4 a0 8 9 (.int (x5 + (1 : Int32)))).bind fun h6 => hp_nm (a4 + (-1)) fun x7 => (m_M_type_32 G  n) a0 a1 x7 h6)
set_option maxRecDepth 100000 in
set_option maxHeartbeats 4000000 in
theorem j_M_type_32 {Z : hp_Z} : ∀ (n : Nat) (a0 : Nat) (a1 : Int64) (a4 : Int32) (h : hp_H), hp_J Y_M_type Z hp_rI h 32 [(0, .ref a0), (1, .long a1), (4, .int a4)] [] (m_M_type_32 (hp_G Z)  n a0 a1 a4 h) := by
  intro n
  induction n with
  | zero => intro a0 a1 a4 h; exact hp_fail
  | succ n ih =>
    intro a0 a1 a4 h
    rw [m_M_type_32]
    refine hp_iload (x0 := 2) d_M_type_32 rfl ?_
    refine hp_if_lt (tgt := 74) d_M_type_34 (by decide) ?_ ?_
    · refine hp_aload_n (x0 := 0) d_M_type_74 rfl rfl ?_
      refine hp_getI fl_M_144 d_M_type_75 fun x1 => ?_
      exact hp_iret d_M_type_78 rfl
    · refine hp_aload_n (x0 := 0) d_M_type_37 rfl rfl ?_
      refine hp_getR fl_M_33 d_M_type_38 fun x2 => ?_
      refine hp_aload_n (x0 := 0) d_M_type_41 rfl rfl ?_
      refine hp_getI fl_M_144 d_M_type_42 fun x3 => ?_
      refine hp_lload_n (x0 := 1) d_M_type_45 rfl rfl ?_
      refine hp_bipush (v := 8) d_M_type_46 (by decide) ?_
      refine hp_iload (x0 := 2) d_M_type_48 rfl ?_
      refine hp_imul d_M_type_50 ?_
      refine hp_lshr d_M_type_51 ?_
      refine hp_ldc2 (v := 255) d_M_type_52 w_961 ?_
      refine hp_land d_M_type_55 ?_
      refine hp_l2i d_M_type_56 ?_
      refine hp_iast d_M_type_57 fun h4 => ?_
      refine hp_aload_n (x0 := 0) d_M_type_58 rfl rfl ?_
      refine hp_dup d_M_type_59 rfl ?_
      refine hp_getI fl_M_144 d_M_type_60 fun x5 => ?_
      refine hp_iconst (v := 1) d_M_type_63 (by decide) ?_
      refine hp_iadd d_M_type_64 ?_
      refine hp_put fl_M_144 (fun q => by cases q) rfl rfl d_M_type_65 fun h6 => ?_
      refine hp_iinc (x0 := 2) (d := -1) (fun x7 => [(4, .int x7), (0, .ref a0), (1, .long a1)]) d_M_type_68 rfl (by decide) (by decide) (fun _ => rfl) fun x7 => ?_
      refine hp_goto (tgt := 32) d_M_type_71 (by decide) ?_
      refine hp_sub [1, 2, 0] rfl ?_
      exact ih _ _ _ _
def m_M_type (G : Nat → Nat) (a0 : Nat) (a1 : Int64) (a3 : Int32) (h : hp_H) : Option (Int32 × hp_H) := if a3 < (1 : Int32) then (m_M_type_11 G h) else (if a3 ≤ (8 : Int32) then ((hp_gI h a0 8 9).bind fun x1 => if (x1 + a3) ≤ (64 : Int32) then (hp_nm (a3 - (1 : Int32)) fun x2 => m_M_type_32 G hp_fu a0 a1 x2 h) else (some ((-3 : Int32), h))) else (m_M_type_11 G h))
set_option maxRecDepth 100000 in
set_option maxHeartbeats 4000000 in
theorem j_M_type_0 {Z : hp_Z} (a0 : Nat) (a1 : Int64) (a3 : Int32) (h : hp_H) : hp_J Y_M_type Z hp_rI h 0 [(0, .ref a0), (1, .long a1), (3, .int a3)] [] (m_M_type (hp_G Z)  a0 a1 a3 h) := by
  unfold m_M_type
  refine hp_iload_n (x0 := 2) d_M_type_0 rfl rfl ?_
  refine hp_iconst (v := 1) d_M_type_1 (by decide) ?_
  refine hp_icmp_lt (tgt := 11) d_M_type_2 (by decide) ?_ ?_
  · refine hp_sub [] rfl ?_
    exact j_M_type_11   _
  · refine hp_iload_n (x0 := 2) d_M_type_5 rfl rfl ?_
    refine hp_bipush (v := 8) d_M_type_6 (by decide) ?_
    refine hp_icmp_le (tgt := 13) d_M_type_8 (by decide) ?_ ?_
    · refine hp_aload_n (x0 := 0) d_M_type_13 rfl rfl ?_
      refine hp_getI fl_M_144 d_M_type_14 fun x1 => ?_
      refine hp_iload_n (x0 := 2) d_M_type_17 rfl rfl ?_
      refine hp_iadd d_M_type_18 ?_
      refine hp_bipush (v := 64) d_M_type_19 (by decide) ?_
      refine hp_icmp_le (tgt := 27) d_M_type_21 (by decide) ?_ ?_
      · refine hp_iload_n (x0 := 2) d_M_type_27 rfl rfl ?_
        refine hp_iconst (v := 1) d_M_type_28 (by decide) ?_
        refine hp_isub d_M_type_29 ?_
        refine hp_istore (fun x2 => [(4, .int x2), (0, .ref a0), (1, .long a1), (3, .int a3)]) d_M_type_30 (by decide) (fun _ => rfl) fun x2 => ?_
        refine hp_sub [1, 2, 0] rfl ?_
        exact j_M_type_32  hp_fu _ _ _ _
      · refine hp_bipush (v := -3) d_M_type_24 (by decide) ?_
        exact hp_iret d_M_type_26 rfl
    · refine hp_sub [] rfl ?_
      exact j_M_type_11   _
theorem t_M_type (l : Launch) (E : hp_E) (a0 : Nat) (a1 : Int64) (a3 : Int32) : hp_M l E y_M_type Y_M_type hp_rI [.ref a0, .long a1, .int a3] (m_M_type E.2.2.1 a0 a1 a3) := hp_M.of (plainFor_of_name (by decide)) ⟨rfl, rfl⟩ (Nat.le_of_ble_eq_true rfl) (fun Z h hE => by subst hE; exact j_M_type_0 _ _ _ h)
-- M_isFar
theorem d_M_isFar_0 : decode prog_9_method_23_code 0 = .ok (.lload_n 0, 1) := by decide +kernel
theorem d_M_isFar_1 : decode prog_9_method_23_code 1 = .ok (.ldc2_w 140, 3) := by decide +kernel
theorem d_M_isFar_4 : decode prog_9_method_23_code 4 = .ok (.lcmp, 1) := by decide +kernel
theorem d_M_isFar_5 : decode prog_9_method_23_code 5 = .ok (.ifCond .gt 11, 3) := by decide +kernel
theorem d_M_isFar_8 : decode prog_9_method_23_code 8 = .ok (.lload_n 0, 1) := by decide +kernel
theorem d_M_isFar_9 : decode prog_9_method_23_code 9 = .ok (.ldc2_w 142, 3) := by decide +kernel
theorem d_M_isFar_12 : decode prog_9_method_23_code 12 = .ok (.lcmp, 1) := by decide +kernel
theorem d_M_isFar_13 : decode prog_9_method_23_code 13 = .ok (.ifCond .ge 7, 3) := by decide +kernel
theorem d_M_isFar_16 : decode prog_9_method_23_code 16 = .ok (.iconst 1, 1) := by decide +kernel
theorem d_M_isFar_17 : decode prog_9_method_23_code 17 = .ok (.goto 4, 3) := by decide +kernel
theorem d_M_isFar_20 : decode prog_9_method_23_code 20 = .ok (.iconst 0, 1) := by decide +kernel
theorem d_M_isFar_21 : decode prog_9_method_23_code 21 = .ok (.ireturn, 1) := by decide +kernel
def m_M_isFar_21 (G : Nat → Nat) (s0 : Int32) (h : hp_H) : Option (Int32 × hp_H) := hp_z s0 h
set_option maxRecDepth 100000 in
set_option maxHeartbeats 4000000 in
theorem j_M_isFar_21 {Z : hp_Z} (s0 : Int32) (h : hp_H) : hp_J Y_M_isFar Z hp_rI h 21 [] [.int s0] (m_M_isFar_21 (hp_G Z)  s0 h) := by
  unfold m_M_isFar_21
  exact hp_zret d_M_isFar_21 rfl
def m_M_isFar_16 (G : Nat → Nat) (h : hp_H) : Option (Int32 × hp_H) := m_M_isFar_21 G (1 : Int32) h
set_option maxRecDepth 100000 in
set_option maxHeartbeats 4000000 in
theorem j_M_isFar_16 {Z : hp_Z} (h : hp_H) : hp_J Y_M_isFar Z hp_rI h 16 [] [] (m_M_isFar_16 (hp_G Z)   h) := by
  unfold m_M_isFar_16
  refine hp_iconst (v := 1) d_M_isFar_16 (by decide) ?_
  refine hp_goto (tgt := 21) d_M_isFar_17 (by decide) ?_
  exact j_M_isFar_21  _ _
def m_M_isFar (G : Nat → Nat) (a0 : Int64) (h : hp_H) : Option (Int32 × hp_H) := if 0 < (lg_cmp a0 (999999999999999999 : Int64)) then (m_M_isFar_16 G h) else (if 0 ≤ (lg_cmp a0 (-999999999999999999 : Int64)) then (m_M_isFar_21 G (0 : Int32) h) else (m_M_isFar_16 G h))
set_option maxRecDepth 100000 in
set_option maxHeartbeats 4000000 in
theorem j_M_isFar_0 {Z : hp_Z} (a0 : Int64) (h : hp_H) : hp_J Y_M_isFar Z hp_rI h 0 [(0, .long a0)] [] (m_M_isFar (hp_G Z)  a0 h) := by
  unfold m_M_isFar
  refine hp_lload_n (x0 := 0) d_M_isFar_0 rfl rfl ?_
  refine hp_ldc2 (v := 999999999999999999) d_M_isFar_1 w_969 ?_
  refine hp_lcmp d_M_isFar_4 ?_
  refine hp_if_gt (tgt := 16) d_M_isFar_5 (by decide) ?_ ?_
  · refine hp_sub [] rfl ?_
    exact j_M_isFar_16   _
  · refine hp_lload_n (x0 := 0) d_M_isFar_8 rfl rfl ?_
    refine hp_ldc2 (v := -999999999999999999) d_M_isFar_9 w_970 ?_
    refine hp_lcmp d_M_isFar_12 ?_
    refine hp_if_ge (tgt := 20) d_M_isFar_13 (by decide) ?_ ?_
    · refine hp_iconst (v := 0) d_M_isFar_20 (by decide) ?_
      refine hp_sub [] rfl ?_
      exact j_M_isFar_21  _ _
    · refine hp_sub [] rfl ?_
      exact j_M_isFar_16   _
theorem t_M_isFar (l : Launch) (E : hp_E) (a0 : Int64) : hp_M l E y_M_isFar Y_M_isFar hp_rI [.long a0] (m_M_isFar E.2.2.1 a0) := hp_M.of (plainFor_of_name (by decide)) ⟨rfl, rfl⟩ (Nat.le_of_ble_eq_true rfl) (fun Z h hE => by subst hE; exact j_M_isFar_0 _ h)
-- M_clear
theorem d_M_clear_0 : decode prog_9_method_6_code 0 = .ok (.iconst 0, 1) := by decide +kernel
theorem d_M_clear_1 : decode prog_9_method_6_code 1 = .ok (.istore_n 1, 1) := by decide +kernel
theorem d_M_clear_2 : decode prog_9_method_6_code 2 = .ok (.iload_n 1, 1) := by decide +kernel
theorem d_M_clear_3 : decode prog_9_method_6_code 3 = .ok (.bipush 64, 2) := by decide +kernel
theorem d_M_clear_5 : decode prog_9_method_6_code 5 = .ok (.if_icmp .ge 13, 3) := by decide +kernel
theorem d_M_clear_8 : decode prog_9_method_6_code 8 = .ok (.aload_n 0, 1) := by decide +kernel
theorem d_M_clear_9 : decode prog_9_method_6_code 9 = .ok (.iload_n 1, 1) := by decide +kernel
theorem d_M_clear_10 : decode prog_9_method_6_code 10 = .ok (.iconst 0, 1) := by decide +kernel
theorem d_M_clear_11 : decode prog_9_method_6_code 11 = .ok (.iastore, 1) := by decide +kernel
theorem d_M_clear_12 : decode prog_9_method_6_code 12 = .ok (.iinc 1 1, 3) := by decide +kernel
theorem d_M_clear_15 : decode prog_9_method_6_code 15 = .ok (.goto (-13), 3) := by decide +kernel
theorem d_M_clear_18 : decode prog_9_method_6_code 18 = .ok (.return_, 1) := by decide +kernel
def m_M_clear_2 (G : Nat → Nat) : Nat → Nat → Int32 → hp_H → Option (Unit × hp_H)
  | 0, _, _, _ => none
  | n + 1, a0, a1, h => if (64 : Int32) ≤ a1 then (some ((), h)) else ((hp_sI h .int a0 a1 (0 : Int32)).bind fun h1 => hp_nm (a1 + 1) fun x2 => (m_M_clear_2 G  n) a0 x2 h1)
set_option maxRecDepth 100000 in
set_option maxHeartbeats 4000000 in
theorem j_M_clear_2 {Z : hp_Z} : ∀ (n : Nat) (a0 : Nat) (a1 : Int32) (h : hp_H), hp_J Y_M_clear Z hp_rV h 2 [(0, .ref a0), (1, .int a1)] [] (m_M_clear_2 (hp_G Z)  n a0 a1 h) := by
  intro n
  induction n with
  | zero => intro a0 a1 h; exact hp_fail
  | succ n ih =>
    intro a0 a1 h
    rw [m_M_clear_2]
    refine hp_iload_n (x0 := 1) d_M_clear_2 rfl rfl ?_
    refine hp_bipush (v := 64) d_M_clear_3 (by decide) ?_
    refine hp_icmp_ge (tgt := 18) d_M_clear_5 (by decide) ?_ ?_
    · exact hp_vret d_M_clear_18 rfl
    · refine hp_aload_n (x0 := 0) d_M_clear_8 rfl rfl ?_
      refine hp_iload_n (x0 := 1) d_M_clear_9 rfl rfl ?_
      refine hp_iconst (v := 0) d_M_clear_10 (by decide) ?_
      refine hp_iast d_M_clear_11 fun h1 => ?_
      refine hp_iinc (x0 := 1) (d := 1) (fun x2 => [(1, .int x2), (0, .ref a0)]) d_M_clear_12 rfl (by decide) (by decide) (fun _ => rfl) fun x2 => ?_
      refine hp_goto (tgt := 2) d_M_clear_15 (by decide) ?_
      refine hp_sub [1, 0] rfl ?_
      exact ih _ _ _
def m_M_clear (G : Nat → Nat) (a0 : Nat) (h : hp_H) : Option (Unit × hp_H) := hp_nm (0 : Int32) fun x1 => m_M_clear_2 G hp_fu a0 x1 h
set_option maxRecDepth 100000 in
set_option maxHeartbeats 4000000 in
theorem j_M_clear_0 {Z : hp_Z} (a0 : Nat) (h : hp_H) : hp_J Y_M_clear Z hp_rV h 0 [(0, .ref a0)] [] (m_M_clear (hp_G Z)  a0 h) := by
  unfold m_M_clear
  refine hp_iconst (v := 0) d_M_clear_0 (by decide) ?_
  refine hp_istore_n (fun x1 => [(1, .int x1), (0, .ref a0)]) d_M_clear_1 rfl (by decide) (fun _ => rfl) fun x1 => ?_
  refine hp_sub [1, 0] rfl ?_
  exact j_M_clear_2  hp_fu _ _ _
theorem t_M_clear (l : Launch) (E : hp_E) (a0 : Nat) : hp_M l E y_M_clear Y_M_clear hp_rV [.ref a0] (m_M_clear E.2.2.1 a0) := hp_M.of (plainFor_of_name (by decide)) ⟨rfl, rfl⟩ (Nat.le_of_ble_eq_true rfl) (fun Z h hE => by subst hE; exact j_M_clear_0 _ h)
-- M_isZero
theorem d_M_isZero_0 : decode prog_9_method_9_code 0 = .ok (.iconst 0, 1) := by decide +kernel
theorem d_M_isZero_1 : decode prog_9_method_9_code 1 = .ok (.istore_n 1, 1) := by decide +kernel
theorem d_M_isZero_2 : decode prog_9_method_9_code 2 = .ok (.iload_n 1, 1) := by decide +kernel
theorem d_M_isZero_3 : decode prog_9_method_9_code 3 = .ok (.bipush 64, 2) := by decide +kernel
theorem d_M_isZero_5 : decode prog_9_method_9_code 5 = .ok (.if_icmp .ge 15, 3) := by decide +kernel
theorem d_M_isZero_8 : decode prog_9_method_9_code 8 = .ok (.aload_n 0, 1) := by decide +kernel
theorem d_M_isZero_9 : decode prog_9_method_9_code 9 = .ok (.iload_n 1, 1) := by decide +kernel
theorem d_M_isZero_10 : decode prog_9_method_9_code 10 = .ok (.iaload, 1) := by decide +kernel
theorem d_M_isZero_11 : decode prog_9_method_9_code 11 = .ok (.ifCond .ne 9, 3) := by decide +kernel
theorem d_M_isZero_14 : decode prog_9_method_9_code 14 = .ok (.iinc 1 1, 3) := by decide +kernel
theorem d_M_isZero_17 : decode prog_9_method_9_code 17 = .ok (.goto (-15), 3) := by decide +kernel
theorem d_M_isZero_20 : decode prog_9_method_9_code 20 = .ok (.iload_n 1, 1) := by decide +kernel
theorem d_M_isZero_21 : decode prog_9_method_9_code 21 = .ok (.bipush 64, 2) := by decide +kernel
theorem d_M_isZero_23 : decode prog_9_method_9_code 23 = .ok (.if_icmp .ne 7, 3) := by decide +kernel
theorem d_M_isZero_26 : decode prog_9_method_9_code 26 = .ok (.iconst 1, 1) := by decide +kernel
theorem d_M_isZero_27 : decode prog_9_method_9_code 27 = .ok (.goto 4, 3) := by decide +kernel
theorem d_M_isZero_30 : decode prog_9_method_9_code 30 = .ok (.iconst 0, 1) := by decide +kernel
theorem d_M_isZero_31 : decode prog_9_method_9_code 31 = .ok (.ireturn, 1) := by decide +kernel
def m_M_isZero_31 (G : Nat → Nat) (s0 : Int32) (h : hp_H) : Option (Int32 × hp_H) := hp_z s0 h
set_option maxRecDepth 100000 in
set_option maxHeartbeats 4000000 in
theorem j_M_isZero_31 {Z : hp_Z} (s0 : Int32) (h : hp_H) : hp_J Y_M_isZero Z hp_rI h 31 [] [.int s0] (m_M_isZero_31 (hp_G Z)  s0 h) := by
  unfold m_M_isZero_31
  exact hp_zret d_M_isZero_31 rfl
def m_M_isZero_20 (G : Nat → Nat) (a1 : Int32) (h : hp_H) : Option (Int32 × hp_H) := if a1 = (64 : Int32) then (m_M_isZero_31 G (1 : Int32) h) else (m_M_isZero_31 G (0 : Int32) h)
set_option maxRecDepth 100000 in
set_option maxHeartbeats 4000000 in
theorem j_M_isZero_20 {Z : hp_Z} (a1 : Int32) (h : hp_H) : hp_J Y_M_isZero Z hp_rI h 20 [(1, .int a1)] [] (m_M_isZero_20 (hp_G Z)  a1 h) := by
  unfold m_M_isZero_20
  refine hp_iload_n (x0 := 0) d_M_isZero_20 rfl rfl ?_
  refine hp_bipush (v := 64) d_M_isZero_21 (by decide) ?_
  refine hp_icmp_ne (tgt := 30) d_M_isZero_23 (by decide) ?_ ?_
  · refine hp_iconst (v := 1) d_M_isZero_26 (by decide) ?_
    refine hp_goto (tgt := 31) d_M_isZero_27 (by decide) ?_
    refine hp_sub [] rfl ?_
    exact j_M_isZero_31  _ _
  · refine hp_iconst (v := 0) d_M_isZero_30 (by decide) ?_
    refine hp_sub [] rfl ?_
    exact j_M_isZero_31  _ _
def m_M_isZero_2 (G : Nat → Nat) : Nat → Nat → Int32 → hp_H → Option (Int32 × hp_H)
  | 0, _, _, _ => none
  | n + 1, a0, a1, h => if (64 : Int32) ≤ a1 then (m_M_isZero_20 G a1 h) else ((hp_aI h .int a0 a1).bind fun x1 => if x1 = 0 then (hp_nm (a1 + 1) fun x2 => (m_M_isZero_2 G  n) a0 x2 h) else (m_M_isZero_20 G a1 h))
set_option maxRecDepth 100000 in
set_option maxHeartbeats 4000000 in
theorem j_M_isZero_2 {Z : hp_Z} : ∀ (n : Nat) (a0 : Nat) (a1 : Int32) (h : hp_H), hp_J Y_M_isZero Z hp_rI h 2 [(0, .ref a0), (1, .int a1)] [] (m_M_isZero_2 (hp_G Z)  n a0 a1 h) := by
  intro n
  induction n with
  | zero => intro a0 a1 h; exact hp_fail
  | succ n ih =>
    intro a0 a1 h
    rw [m_M_isZero_2]
    refine hp_iload_n (x0 := 1) d_M_isZero_2 rfl rfl ?_
    refine hp_bipush (v := 64) d_M_isZero_3 (by decide) ?_
    refine hp_icmp_ge (tgt := 20) d_M_isZero_5 (by decide) ?_ ?_
    · refine hp_sub [1] rfl ?_
      exact j_M_isZero_20  _ _
    · refine hp_aload_n (x0 := 0) d_M_isZero_8 rfl rfl ?_
      refine hp_iload_n (x0 := 1) d_M_isZero_9 rfl rfl ?_
      refine hp_iald d_M_isZero_10 fun x1 => ?_
      refine hp_if_ne (tgt := 20) d_M_isZero_11 (by decide) ?_ ?_
      · refine hp_iinc (x0 := 1) (d := 1) (fun x2 => [(1, .int x2), (0, .ref a0)]) d_M_isZero_14 rfl (by decide) (by decide) (fun _ => rfl) fun x2 => ?_
        refine hp_goto (tgt := 2) d_M_isZero_17 (by decide) ?_
        refine hp_sub [1, 0] rfl ?_
        exact ih _ _ _
      · refine hp_sub [1] rfl ?_
        exact j_M_isZero_20  _ _
def m_M_isZero (G : Nat → Nat) (a0 : Nat) (h : hp_H) : Option (Int32 × hp_H) := hp_nm (0 : Int32) fun x1 => m_M_isZero_2 G hp_fu a0 x1 h
set_option maxRecDepth 100000 in
set_option maxHeartbeats 4000000 in
theorem j_M_isZero_0 {Z : hp_Z} (a0 : Nat) (h : hp_H) : hp_J Y_M_isZero Z hp_rI h 0 [(0, .ref a0)] [] (m_M_isZero (hp_G Z)  a0 h) := by
  unfold m_M_isZero
  refine hp_iconst (v := 0) d_M_isZero_0 (by decide) ?_
  refine hp_istore_n (fun x1 => [(1, .int x1), (0, .ref a0)]) d_M_isZero_1 rfl (by decide) (fun _ => rfl) fun x1 => ?_
  refine hp_sub [1, 0] rfl ?_
  exact j_M_isZero_2  hp_fu _ _ _
theorem t_M_isZero (l : Launch) (E : hp_E) (a0 : Nat) : hp_M l E y_M_isZero Y_M_isZero hp_rI [.ref a0] (m_M_isZero E.2.2.1 a0) := hp_M.of (plainFor_of_name (by decide)) ⟨rfl, rfl⟩ (Nat.le_of_ble_eq_true rfl) (fun Z h hE => by subst hE; exact j_M_isZero_0 _ h)
-- M_isIt
theorem d_M_isIt_0 : decode prog_9_method_3_code 0 = .ok (.aload_n 0, 1) := by decide +kernel
theorem d_M_isIt_1 : decode prog_9_method_3_code 1 = .ok (.getfield 7, 3) := by decide +kernel
theorem d_M_isIt_4 : decode prog_9_method_3_code 4 = .ok (.iload_n 1, 1) := by decide +kernel
theorem d_M_isIt_5 : decode prog_9_method_3_code 5 = .ok (.iaload, 1) := by decide +kernel
theorem d_M_isIt_6 : decode prog_9_method_3_code 6 = .ok (.aload_n 0, 1) := by decide +kernel
theorem d_M_isIt_7 : decode prog_9_method_3_code 7 = .ok (.getfield 72, 3) := by decide +kernel
theorem d_M_isIt_10 : decode prog_9_method_3_code 10 = .ok (.if_icmp .ne 59, 3) := by decide +kernel
theorem d_M_isIt_13 : decode prog_9_method_3_code 13 = .ok (.aload_n 0, 1) := by decide +kernel
theorem d_M_isIt_14 : decode prog_9_method_3_code 14 = .ok (.getfield 13, 3) := by decide +kernel
theorem d_M_isIt_17 : decode prog_9_method_3_code 17 = .ok (.iload_n 1, 1) := by decide +kernel
theorem d_M_isIt_18 : decode prog_9_method_3_code 18 = .ok (.iaload, 1) := by decide +kernel
theorem d_M_isIt_19 : decode prog_9_method_3_code 19 = .ok (.aload_n 0, 1) := by decide +kernel
theorem d_M_isIt_20 : decode prog_9_method_3_code 20 = .ok (.getfield 76, 3) := by decide +kernel
theorem d_M_isIt_23 : decode prog_9_method_3_code 23 = .ok (.if_icmp .ne 46, 3) := by decide +kernel
theorem d_M_isIt_26 : decode prog_9_method_3_code 26 = .ok (.aload_n 0, 1) := by decide +kernel
theorem d_M_isIt_27 : decode prog_9_method_3_code 27 = .ok (.getfield 16, 3) := by decide +kernel
theorem d_M_isIt_30 : decode prog_9_method_3_code 30 = .ok (.iload_n 1, 1) := by decide +kernel
theorem d_M_isIt_31 : decode prog_9_method_3_code 31 = .ok (.iaload, 1) := by decide +kernel
theorem d_M_isIt_32 : decode prog_9_method_3_code 32 = .ok (.aload_n 0, 1) := by decide +kernel
theorem d_M_isIt_33 : decode prog_9_method_3_code 33 = .ok (.getfield 79, 3) := by decide +kernel
theorem d_M_isIt_36 : decode prog_9_method_3_code 36 = .ok (.if_icmp .ne 33, 3) := by decide +kernel
theorem d_M_isIt_39 : decode prog_9_method_3_code 39 = .ok (.aload_n 0, 1) := by decide +kernel
theorem d_M_isIt_40 : decode prog_9_method_3_code 40 = .ok (.getfield 19, 3) := by decide +kernel
theorem d_M_isIt_43 : decode prog_9_method_3_code 43 = .ok (.iload_n 1, 1) := by decide +kernel
theorem d_M_isIt_44 : decode prog_9_method_3_code 44 = .ok (.iaload, 1) := by decide +kernel
theorem d_M_isIt_45 : decode prog_9_method_3_code 45 = .ok (.aload_n 0, 1) := by decide +kernel
theorem d_M_isIt_46 : decode prog_9_method_3_code 46 = .ok (.getfield 82, 3) := by decide +kernel
theorem d_M_isIt_49 : decode prog_9_method_3_code 49 = .ok (.if_icmp .ne 20, 3) := by decide +kernel
theorem d_M_isIt_52 : decode prog_9_method_3_code 52 = .ok (.aload_n 0, 1) := by decide +kernel
theorem d_M_isIt_53 : decode prog_9_method_3_code 53 = .ok (.getfield 26, 3) := by decide +kernel
theorem d_M_isIt_56 : decode prog_9_method_3_code 56 = .ok (.iload_n 1, 1) := by decide +kernel
theorem d_M_isIt_57 : decode prog_9_method_3_code 57 = .ok (.iaload, 1) := by decide +kernel
theorem d_M_isIt_58 : decode prog_9_method_3_code 58 = .ok (.aload_n 0, 1) := by decide +kernel
theorem d_M_isIt_59 : decode prog_9_method_3_code 59 = .ok (.getfield 85, 3) := by decide +kernel
theorem d_M_isIt_62 : decode prog_9_method_3_code 62 = .ok (.if_icmp .ne 7, 3) := by decide +kernel
theorem d_M_isIt_65 : decode prog_9_method_3_code 65 = .ok (.iconst 1, 1) := by decide +kernel
theorem d_M_isIt_66 : decode prog_9_method_3_code 66 = .ok (.goto 4, 3) := by decide +kernel
theorem d_M_isIt_69 : decode prog_9_method_3_code 69 = .ok (.iconst 0, 1) := by decide +kernel
theorem d_M_isIt_70 : decode prog_9_method_3_code 70 = .ok (.istore_n 2, 1) := by decide +kernel
theorem d_M_isIt_71 : decode prog_9_method_3_code 71 = .ok (.iconst 0, 1) := by decide +kernel
theorem d_M_isIt_72 : decode prog_9_method_3_code 72 = .ok (.istore_n 3, 1) := by decide +kernel
theorem d_M_isIt_73 : decode prog_9_method_3_code 73 = .ok (.iload_n 3, 1) := by decide +kernel
theorem d_M_isIt_74 : decode prog_9_method_3_code 74 = .ok (.bipush 18, 2) := by decide +kernel
theorem d_M_isIt_76 : decode prog_9_method_3_code 76 = .ok (.if_icmp .ge 39, 3) := by decide +kernel
theorem d_M_isIt_79 : decode prog_9_method_3_code 79 = .ok (.iload_n 2, 1) := by decide +kernel
theorem d_M_isIt_80 : decode prog_9_method_3_code 80 = .ok (.ifCond .eq 35, 3) := by decide +kernel
theorem d_M_isIt_83 : decode prog_9_method_3_code 83 = .ok (.aload_n 0, 1) := by decide +kernel
theorem d_M_isIt_84 : decode prog_9_method_3_code 84 = .ok (.getfield 23, 3) := by decide +kernel
theorem d_M_isIt_87 : decode prog_9_method_3_code 87 = .ok (.bipush 18, 2) := by decide +kernel
theorem d_M_isIt_89 : decode prog_9_method_3_code 89 = .ok (.iload_n 1, 1) := by decide +kernel
theorem d_M_isIt_90 : decode prog_9_method_3_code 90 = .ok (.imul, 1) := by decide +kernel
theorem d_M_isIt_91 : decode prog_9_method_3_code 91 = .ok (.iload_n 3, 1) := by decide +kernel
theorem d_M_isIt_92 : decode prog_9_method_3_code 92 = .ok (.iadd, 1) := by decide +kernel
theorem d_M_isIt_93 : decode prog_9_method_3_code 93 = .ok (.iaload, 1) := by decide +kernel
theorem d_M_isIt_94 : decode prog_9_method_3_code 94 = .ok (.aload_n 0, 1) := by decide +kernel
theorem d_M_isIt_95 : decode prog_9_method_3_code 95 = .ok (.getfield 36, 3) := by decide +kernel
theorem d_M_isIt_98 : decode prog_9_method_3_code 98 = .ok (.iload_n 3, 1) := by decide +kernel
theorem d_M_isIt_99 : decode prog_9_method_3_code 99 = .ok (.iaload, 1) := by decide +kernel
theorem d_M_isIt_100 : decode prog_9_method_3_code 100 = .ok (.if_icmp .ne 7, 3) := by decide +kernel
theorem d_M_isIt_103 : decode prog_9_method_3_code 103 = .ok (.iconst 1, 1) := by decide +kernel
theorem d_M_isIt_104 : decode prog_9_method_3_code 104 = .ok (.goto 4, 3) := by decide +kernel
theorem d_M_isIt_107 : decode prog_9_method_3_code 107 = .ok (.iconst 0, 1) := by decide +kernel
theorem d_M_isIt_108 : decode prog_9_method_3_code 108 = .ok (.istore_n 2, 1) := by decide +kernel
theorem d_M_isIt_109 : decode prog_9_method_3_code 109 = .ok (.iinc 3 1, 3) := by decide +kernel
theorem d_M_isIt_112 : decode prog_9_method_3_code 112 = .ok (.goto (-39), 3) := by decide +kernel
theorem d_M_isIt_115 : decode prog_9_method_3_code 115 = .ok (.iconst 0, 1) := by decide +kernel
theorem d_M_isIt_116 : decode prog_9_method_3_code 116 = .ok (.istore_n 3, 1) := by decide +kernel
theorem d_M_isIt_117 : decode prog_9_method_3_code 117 = .ok (.iload_n 3, 1) := by decide +kernel
theorem d_M_isIt_118 : decode prog_9_method_3_code 118 = .ok (.aload_n 0, 1) := by decide +kernel
theorem d_M_isIt_119 : decode prog_9_method_3_code 119 = .ok (.getfield 85, 3) := by decide +kernel
theorem d_M_isIt_122 : decode prog_9_method_3_code 122 = .ok (.if_icmp .ge 39, 3) := by decide +kernel
theorem d_M_isIt_125 : decode prog_9_method_3_code 125 = .ok (.iload_n 2, 1) := by decide +kernel
theorem d_M_isIt_126 : decode prog_9_method_3_code 126 = .ok (.ifCond .eq 35, 3) := by decide +kernel
theorem d_M_isIt_129 : decode prog_9_method_3_code 129 = .ok (.aload_n 0, 1) := by decide +kernel
theorem d_M_isIt_130 : decode prog_9_method_3_code 130 = .ok (.getfield 30, 3) := by decide +kernel
theorem d_M_isIt_133 : decode prog_9_method_3_code 133 = .ok (.bipush 64, 2) := by decide +kernel
theorem d_M_isIt_135 : decode prog_9_method_3_code 135 = .ok (.iload_n 1, 1) := by decide +kernel
theorem d_M_isIt_136 : decode prog_9_method_3_code 136 = .ok (.imul, 1) := by decide +kernel
theorem d_M_isIt_137 : decode prog_9_method_3_code 137 = .ok (.iload_n 3, 1) := by decide +kernel
theorem d_M_isIt_138 : decode prog_9_method_3_code 138 = .ok (.iadd, 1) := by decide +kernel
theorem d_M_isIt_139 : decode prog_9_method_3_code 139 = .ok (.iaload, 1) := by decide +kernel
theorem d_M_isIt_140 : decode prog_9_method_3_code 140 = .ok (.aload_n 0, 1) := by decide +kernel
theorem d_M_isIt_141 : decode prog_9_method_3_code 141 = .ok (.getfield 39, 3) := by decide +kernel
theorem d_M_isIt_144 : decode prog_9_method_3_code 144 = .ok (.iload_n 3, 1) := by decide +kernel
theorem d_M_isIt_145 : decode prog_9_method_3_code 145 = .ok (.iaload, 1) := by decide +kernel
theorem d_M_isIt_146 : decode prog_9_method_3_code 146 = .ok (.if_icmp .ne 7, 3) := by decide +kernel
theorem d_M_isIt_149 : decode prog_9_method_3_code 149 = .ok (.iconst 1, 1) := by decide +kernel
theorem d_M_isIt_150 : decode prog_9_method_3_code 150 = .ok (.goto 4, 3) := by decide +kernel
theorem d_M_isIt_153 : decode prog_9_method_3_code 153 = .ok (.iconst 0, 1) := by decide +kernel
theorem d_M_isIt_154 : decode prog_9_method_3_code 154 = .ok (.istore_n 2, 1) := by decide +kernel
theorem d_M_isIt_155 : decode prog_9_method_3_code 155 = .ok (.iinc 3 1, 3) := by decide +kernel
theorem d_M_isIt_158 : decode prog_9_method_3_code 158 = .ok (.goto (-41), 3) := by decide +kernel
theorem d_M_isIt_161 : decode prog_9_method_3_code 161 = .ok (.iload_n 2, 1) := by decide +kernel
theorem d_M_isIt_162 : decode prog_9_method_3_code 162 = .ok (.ireturn, 1) := by decide +kernel
def m_M_isIt_108 (G : Nat → Nat) (r73 : Nat → Int32 → Int32 → Int32 → hp_H → Option (Int32 × hp_H)) (a0 : Nat) (a1 : Int32) (a3 : Int32) (s0 : Int32) (h : hp_H) : Option (Int32 × hp_H) := hp_nm s0 fun x1 => hp_nm (a3 + 1) fun x2 => r73 a0 a1 x1 x2 h
set_option maxRecDepth 100000 in
set_option maxHeartbeats 4000000 in
theorem j_M_isIt_108 {Z : hp_Z} (r73 : Nat → Int32 → Int32 → Int32 → hp_H → Option (Int32 × hp_H)) (hr73 : ∀ (a0 : Nat) (a1 : Int32) (a2 : Int32) (a3 : Int32) (h : hp_H), hp_J Y_M_isIt Z hp_rI h 73 [(0, .ref a0), (1, .int a1), (2, .int a2), (3, .int a3)] [] (r73 a0 a1 a2 a3  h)) (a0 : Nat) (a1 : Int32) (a3 : Int32) (s0 : Int32) (h : hp_H) : hp_J Y_M_isIt Z hp_rI h 108 [(0, .ref a0), (1, .int a1), (3, .int a3)] [.int s0] (m_M_isIt_108 (hp_G Z) r73 a0 a1 a3 s0 h) := by
  unfold m_M_isIt_108
  refine hp_istore_n (fun x1 => [(2, .int x1), (0, .ref a0), (1, .int a1), (3, .int a3)]) d_M_isIt_108 rfl (by decide) (fun _ => rfl) fun x1 => ?_
  refine hp_iinc (x0 := 3) (d := 1) (fun x2 => [(3, .int x2), (2, .int x1), (0, .ref a0), (1, .int a1)]) d_M_isIt_109 rfl (by decide) (by decide) (fun _ => rfl) fun x2 => ?_
  refine hp_goto (tgt := 73) d_M_isIt_112 (by decide) ?_
  refine hp_sub [2, 3, 1, 0] rfl ?_
  exact hr73 _ _ _ _ _
def m_M_isIt_154 (G : Nat → Nat) (r117 : Nat → Int32 → Int32 → Int32 → hp_H → Option (Int32 × hp_H)) (a0 : Nat) (a1 : Int32) (a3 : Int32) (s0 : Int32) (h : hp_H) : Option (Int32 × hp_H) := hp_nm s0 fun x1 => hp_nm (a3 + 1) fun x2 => r117 a0 a1 x1 x2 h
set_option maxRecDepth 100000 in
set_option maxHeartbeats 4000000 in
theorem j_M_isIt_154 {Z : hp_Z} (r117 : Nat → Int32 → Int32 → Int32 → hp_H → Option (Int32 × hp_H)) (hr117 : ∀ (a0 : Nat) (a1 : Int32) (a2 : Int32) (a3 : Int32) (h : hp_H), hp_J Y_M_isIt Z hp_rI h 117 [(0, .ref a0), (1, .int a1), (2, .int a2), (3, .int a3)] [] (r117 a0 a1 a2 a3  h)) (a0 : Nat) (a1 : Int32) (a3 : Int32) (s0 : Int32) (h : hp_H) : hp_J Y_M_isIt Z hp_rI h 154 [(0, .ref a0), (1, .int a1), (3, .int a3)] [.int s0] (m_M_isIt_154 (hp_G Z) r117 a0 a1 a3 s0 h) := by
  unfold m_M_isIt_154
  refine hp_istore_n (fun x1 => [(2, .int x1), (0, .ref a0), (1, .int a1), (3, .int a3)]) d_M_isIt_154 rfl (by decide) (fun _ => rfl) fun x1 => ?_
  refine hp_iinc (x0 := 3) (d := 1) (fun x2 => [(3, .int x2), (2, .int x1), (0, .ref a0), (1, .int a1)]) d_M_isIt_155 rfl (by decide) (by decide) (fun _ => rfl) fun x2 => ?_
  refine hp_goto (tgt := 117) d_M_isIt_158 (by decide) ?_
  refine hp_sub [2, 3, 1, 0] rfl ?_
  exact hr117 _ _ _ _ _
def m_M_isIt_161 (G : Nat → Nat) (a2 : Int32) (h : hp_H) : Option (Int32 × hp_H) := hp_z a2 h
set_option maxRecDepth 100000 in
set_option maxHeartbeats 4000000 in
theorem j_M_isIt_161 {Z : hp_Z} (a2 : Int32) (h : hp_H) : hp_J Y_M_isIt Z hp_rI h 161 [(2, .int a2)] [] (m_M_isIt_161 (hp_G Z)  a2 h) := by
  unfold m_M_isIt_161
  refine hp_iload_n (x0 := 0) d_M_isIt_161 rfl rfl ?_
  exact hp_zret d_M_isIt_162 rfl
def m_M_isIt_117 (G : Nat → Nat) : Nat → Nat → Int32 → Int32 → Int32 → hp_H → Option (Int32 × hp_H)
  | 0, _, _, _, _, _ => none
  | n + 1, a0, a1, a2, a3, h => (hp_gI h a0 8 16).bind fun x1 => if x1 ≤ a3 then (m_M_isIt_161 G a2 h) else (if a2 = 0 then (m_M_isIt_161 G a2 h) else ((hp_gR h a0 8 7).bind fun x2 => (hp_aI h .int x2 (((64 : Int32) * a1) + a3)).bind fun x3 => (hp_gR h a0 8 15).bind fun x4 => (hp_aI h .int x4 a3).bind fun x5 => if x3 = x5 then (m_M_isIt_154 G (m_M_isIt_117 G  n) a0 a1 a3 (1 : Int32) h) else (m_M_isIt_154 G (m_M_isIt_117 G  n) a0 a1 a3 (0 : Int32) h)))
set_option maxRecDepth 100000 in
set_option maxHeartbeats 4000000 in
theorem j_M_isIt_117 {Z : hp_Z} : ∀ (n : Nat) (a0 : Nat) (a1 : Int32) (a2 : Int32) (a3 : Int32) (h : hp_H), hp_J Y_M_isIt Z hp_rI h 117 [(0, .ref a0), (1, .int a1), (2, .int a2), (3, .int a3)] [] (m_M_isIt_117 (hp_G Z)  n a0 a1 a2 a3 h) := by
  intro n
  induction n with
  | zero => intro a0 a1 a2 a3 h; exact hp_fail
  | succ n ih =>
    intro a0 a1 a2 a3 h
    rw [m_M_isIt_117]
    refine hp_iload_n (x0 := 3) d_M_isIt_117 rfl rfl ?_
    refine hp_aload_n (x0 := 0) d_M_isIt_118 rfl rfl ?_
    refine hp_getI fl_M_85 d_M_isIt_119 fun x1 => ?_
    refine hp_icmp_ge (tgt := 161) d_M_isIt_122 (by decide) ?_ ?_
    · refine hp_sub [2] rfl ?_
      exact j_M_isIt_161  _ _
    · refine hp_iload_n (x0 := 2) d_M_isIt_125 rfl rfl ?_
      refine hp_if_eq (tgt := 161) d_M_isIt_126 (by decide) ?_ ?_
      · refine hp_sub [2] rfl ?_
        exact j_M_isIt_161  _ _
      · refine hp_aload_n (x0 := 0) d_M_isIt_129 rfl rfl ?_
        refine hp_getR fl_M_30 d_M_isIt_130 fun x2 => ?_
        refine hp_bipush (v := 64) d_M_isIt_133 (by decide) ?_
        refine hp_iload_n (x0 := 1) d_M_isIt_135 rfl rfl ?_
        refine hp_imul d_M_isIt_136 ?_
        refine hp_iload_n (x0 := 3) d_M_isIt_137 rfl rfl ?_
        refine hp_iadd d_M_isIt_138 ?_
        refine hp_iald d_M_isIt_139 fun x3 => ?_
        refine hp_aload_n (x0 := 0) d_M_isIt_140 rfl rfl ?_
        refine hp_getR fl_M_39 d_M_isIt_141 fun x4 => ?_
        refine hp_iload_n (x0 := 3) d_M_isIt_144 rfl rfl ?_
        refine hp_iald d_M_isIt_145 fun x5 => ?_
        refine hp_icmp_ne (tgt := 153) d_M_isIt_146 (by decide) ?_ ?_
        · refine hp_iconst (v := 1) d_M_isIt_149 (by decide) ?_
          refine hp_goto (tgt := 154) d_M_isIt_150 (by decide) ?_
          refine hp_sub [0, 1, 3] rfl ?_
          exact j_M_isIt_154 _ ih _ _ _ _ _
        · refine hp_iconst (v := 0) d_M_isIt_153 (by decide) ?_
          refine hp_sub [0, 1, 3] rfl ?_
          exact j_M_isIt_154 _ ih _ _ _ _ _
def m_M_isIt_115 (G : Nat → Nat) (a0 : Nat) (a1 : Int32) (a2 : Int32) (h : hp_H) : Option (Int32 × hp_H) := hp_nm (0 : Int32) fun x1 => m_M_isIt_117 G hp_fu a0 a1 a2 x1 h
set_option maxRecDepth 100000 in
set_option maxHeartbeats 4000000 in
theorem j_M_isIt_115 {Z : hp_Z} (a0 : Nat) (a1 : Int32) (a2 : Int32) (h : hp_H) : hp_J Y_M_isIt Z hp_rI h 115 [(0, .ref a0), (1, .int a1), (2, .int a2)] [] (m_M_isIt_115 (hp_G Z)  a0 a1 a2 h) := by
  unfold m_M_isIt_115
  refine hp_iconst (v := 0) d_M_isIt_115 (by decide) ?_
  refine hp_istore_n (fun x1 => [(3, .int x1), (0, .ref a0), (1, .int a1), (2, .int a2)]) d_M_isIt_116 rfl (by decide) (fun _ => rfl) fun x1 => ?_
  refine hp_sub [1, 2, 3, 0] rfl ?_
  exact j_M_isIt_117  hp_fu _ _ _ _ _
def m_M_isIt_73 (G : Nat → Nat) : Nat → Nat → Int32 → Int32 → Int32 → hp_H → Option (Int32 × hp_H)
  | 0, _, _, _, _, _ => none
  | n + 1, a0, a1, a2, a3, h => if (18 : Int32) ≤ a3 then (m_M_isIt_115 G a0 a1 a2 h) else (if a2 = 0 then (m_M_isIt_115 G a0 a1 a2 h) else ((hp_gR h a0 8 5).bind fun x1 => (hp_aI h .int x1 (((18 : Int32) * a1) + a3)).bind fun x2 => (hp_gR h a0 8 14).bind fun x3 => (hp_aI h .int x3 a3).bind fun x4 => if x2 = x4 then (m_M_isIt_108 G (m_M_isIt_73 G  n) a0 a1 a3 (1 : Int32) h) else (m_M_isIt_108 G (m_M_isIt_73 G  n) a0 a1 a3 (0 : Int32) h)))
set_option maxRecDepth 100000 in
set_option maxHeartbeats 4000000 in
theorem j_M_isIt_73 {Z : hp_Z} : ∀ (n : Nat) (a0 : Nat) (a1 : Int32) (a2 : Int32) (a3 : Int32) (h : hp_H), hp_J Y_M_isIt Z hp_rI h 73 [(0, .ref a0), (1, .int a1), (2, .int a2), (3, .int a3)] [] (m_M_isIt_73 (hp_G Z)  n a0 a1 a2 a3 h) := by
  intro n
  induction n with
  | zero => intro a0 a1 a2 a3 h; exact hp_fail
  | succ n ih =>
    intro a0 a1 a2 a3 h
    rw [m_M_isIt_73]
    refine hp_iload_n (x0 := 3) d_M_isIt_73 rfl rfl ?_
    refine hp_bipush (v := 18) d_M_isIt_74 (by decide) ?_
    refine hp_icmp_ge (tgt := 115) d_M_isIt_76 (by decide) ?_ ?_
    · refine hp_sub [0, 1, 2] rfl ?_
      exact j_M_isIt_115  _ _ _ _
    · refine hp_iload_n (x0 := 2) d_M_isIt_79 rfl rfl ?_
      refine hp_if_eq (tgt := 115) d_M_isIt_80 (by decide) ?_ ?_
      · refine hp_sub [0, 1, 2] rfl ?_
        exact j_M_isIt_115  _ _ _ _
      · refine hp_aload_n (x0 := 0) d_M_isIt_83 rfl rfl ?_
        refine hp_getR fl_M_23 d_M_isIt_84 fun x1 => ?_
        refine hp_bipush (v := 18) d_M_isIt_87 (by decide) ?_
        refine hp_iload_n (x0 := 1) d_M_isIt_89 rfl rfl ?_
        refine hp_imul d_M_isIt_90 ?_
        refine hp_iload_n (x0 := 3) d_M_isIt_91 rfl rfl ?_
        refine hp_iadd d_M_isIt_92 ?_
        refine hp_iald d_M_isIt_93 fun x2 => ?_
        refine hp_aload_n (x0 := 0) d_M_isIt_94 rfl rfl ?_
        refine hp_getR fl_M_36 d_M_isIt_95 fun x3 => ?_
        refine hp_iload_n (x0 := 3) d_M_isIt_98 rfl rfl ?_
        refine hp_iald d_M_isIt_99 fun x4 => ?_
        refine hp_icmp_ne (tgt := 107) d_M_isIt_100 (by decide) ?_ ?_
        · refine hp_iconst (v := 1) d_M_isIt_103 (by decide) ?_
          refine hp_goto (tgt := 108) d_M_isIt_104 (by decide) ?_
          refine hp_sub [0, 1, 3] rfl ?_
          exact j_M_isIt_108 _ ih _ _ _ _ _
        · refine hp_iconst (v := 0) d_M_isIt_107 (by decide) ?_
          refine hp_sub [0, 1, 3] rfl ?_
          exact j_M_isIt_108 _ ih _ _ _ _ _
def m_M_isIt_70 (G : Nat → Nat) (a0 : Nat) (a1 : Int32) (s0 : Int32) (h : hp_H) : Option (Int32 × hp_H) := hp_nm s0 fun x1 => hp_nm (0 : Int32) fun x2 => m_M_isIt_73 G hp_fu a0 a1 x1 x2 h
set_option maxRecDepth 100000 in
set_option maxHeartbeats 4000000 in
theorem j_M_isIt_70 {Z : hp_Z} (a0 : Nat) (a1 : Int32) (s0 : Int32) (h : hp_H) : hp_J Y_M_isIt Z hp_rI h 70 [(0, .ref a0), (1, .int a1)] [.int s0] (m_M_isIt_70 (hp_G Z)  a0 a1 s0 h) := by
  unfold m_M_isIt_70
  refine hp_istore_n (fun x1 => [(2, .int x1), (0, .ref a0), (1, .int a1)]) d_M_isIt_70 rfl (by decide) (fun _ => rfl) fun x1 => ?_
  refine hp_iconst (v := 0) d_M_isIt_71 (by decide) ?_
  refine hp_istore_n (fun x2 => [(3, .int x2), (2, .int x1), (0, .ref a0), (1, .int a1)]) d_M_isIt_72 rfl (by decide) (fun _ => rfl) fun x2 => ?_
  refine hp_sub [2, 3, 1, 0] rfl ?_
  exact j_M_isIt_73  hp_fu _ _ _ _ _
def m_M_isIt_69 (G : Nat → Nat) (a0 : Nat) (a1 : Int32) (h : hp_H) : Option (Int32 × hp_H) := m_M_isIt_70 G a0 a1 (0 : Int32) h
set_option maxRecDepth 100000 in
set_option maxHeartbeats 4000000 in
theorem j_M_isIt_69 {Z : hp_Z} (a0 : Nat) (a1 : Int32) (h : hp_H) : hp_J Y_M_isIt Z hp_rI h 69 [(0, .ref a0), (1, .int a1)] [] (m_M_isIt_69 (hp_G Z)  a0 a1 h) := by
  unfold m_M_isIt_69
  refine hp_iconst (v := 0) d_M_isIt_69 (by decide) ?_
  exact j_M_isIt_70  _ _ _ _
def m_M_isIt (G : Nat → Nat) (a0 : Nat) (a1 : Int32) (h : hp_H) : Option (Int32 × hp_H) := (hp_gR h a0 8 1).bind fun x1 => (hp_aI h .int x1 a1).bind fun x2 => (hp_gI h a0 8 10).bind fun x3 => if x2 = x3 then ((hp_gR h a0 8 2).bind fun x4 => (hp_aI h .int x4 a1).bind fun x5 => (hp_gI h a0 8 11).bind fun x6 => if x5 = x6 then ((hp_gR h a0 8 3).bind fun x7 => (hp_aI h .int x7 a1).bind fun x8 => (hp_gI h a0 8 12).bind fun x9 => if x8 = x9 then ((hp_gR h a0 8 4).bind fun x10 => (hp_aI h .int x10 a1).bind fun x11 => (hp_gI h a0 8 13).bind fun x12 => if x11 = x12 then ((hp_gR h a0 8 6).bind fun x13 => (hp_aI h .int x13 a1).bind fun x14 => (hp_gI h a0 8 16).bind fun x15 => if x14 = x15 then (m_M_isIt_70 G a0 a1 (1 : Int32) h) else (m_M_isIt_69 G a0 a1 h)) else (m_M_isIt_69 G a0 a1 h)) else (m_M_isIt_69 G a0 a1 h)) else (m_M_isIt_69 G a0 a1 h)) else (m_M_isIt_69 G a0 a1 h)
set_option maxRecDepth 100000 in
set_option maxHeartbeats 4000000 in
theorem j_M_isIt_0 {Z : hp_Z} (a0 : Nat) (a1 : Int32) (h : hp_H) : hp_J Y_M_isIt Z hp_rI h 0 [(0, .ref a0), (1, .int a1)] [] (m_M_isIt (hp_G Z)  a0 a1 h) := by
  unfold m_M_isIt
  refine hp_aload_n (x0 := 0) d_M_isIt_0 rfl rfl ?_
  refine hp_getR fl_M_7 d_M_isIt_1 fun x1 => ?_
  refine hp_iload_n (x0 := 1) d_M_isIt_4 rfl rfl ?_
  refine hp_iald d_M_isIt_5 fun x2 => ?_
  refine hp_aload_n (x0 := 0) d_M_isIt_6 rfl rfl ?_
  refine hp_getI fl_M_72 d_M_isIt_7 fun x3 => ?_
  refine hp_icmp_ne (tgt := 69) d_M_isIt_10 (by decide) ?_ ?_
  · refine hp_aload_n (x0 := 0) d_M_isIt_13 rfl rfl ?_
    refine hp_getR fl_M_13 d_M_isIt_14 fun x4 => ?_
    refine hp_iload_n (x0 := 1) d_M_isIt_17 rfl rfl ?_
    refine hp_iald d_M_isIt_18 fun x5 => ?_
    refine hp_aload_n (x0 := 0) d_M_isIt_19 rfl rfl ?_
    refine hp_getI fl_M_76 d_M_isIt_20 fun x6 => ?_
    refine hp_icmp_ne (tgt := 69) d_M_isIt_23 (by decide) ?_ ?_
    · refine hp_aload_n (x0 := 0) d_M_isIt_26 rfl rfl ?_
      refine hp_getR fl_M_16 d_M_isIt_27 fun x7 => ?_
      refine hp_iload_n (x0 := 1) d_M_isIt_30 rfl rfl ?_
      refine hp_iald d_M_isIt_31 fun x8 => ?_
      refine hp_aload_n (x0 := 0) d_M_isIt_32 rfl rfl ?_
      refine hp_getI fl_M_79 d_M_isIt_33 fun x9 => ?_
      refine hp_icmp_ne (tgt := 69) d_M_isIt_36 (by decide) ?_ ?_
      · refine hp_aload_n (x0 := 0) d_M_isIt_39 rfl rfl ?_
        refine hp_getR fl_M_19 d_M_isIt_40 fun x10 => ?_
        refine hp_iload_n (x0 := 1) d_M_isIt_43 rfl rfl ?_
        refine hp_iald d_M_isIt_44 fun x11 => ?_
        refine hp_aload_n (x0 := 0) d_M_isIt_45 rfl rfl ?_
        refine hp_getI fl_M_82 d_M_isIt_46 fun x12 => ?_
        refine hp_icmp_ne (tgt := 69) d_M_isIt_49 (by decide) ?_ ?_
        · refine hp_aload_n (x0 := 0) d_M_isIt_52 rfl rfl ?_
          refine hp_getR fl_M_26 d_M_isIt_53 fun x13 => ?_
          refine hp_iload_n (x0 := 1) d_M_isIt_56 rfl rfl ?_
          refine hp_iald d_M_isIt_57 fun x14 => ?_
          refine hp_aload_n (x0 := 0) d_M_isIt_58 rfl rfl ?_
          refine hp_getI fl_M_85 d_M_isIt_59 fun x15 => ?_
          refine hp_icmp_ne (tgt := 69) d_M_isIt_62 (by decide) ?_ ?_
          · refine hp_iconst (v := 1) d_M_isIt_65 (by decide) ?_
            refine hp_goto (tgt := 70) d_M_isIt_66 (by decide) ?_
            exact j_M_isIt_70  _ _ _ _
          · exact j_M_isIt_69  _ _ _
        · exact j_M_isIt_69  _ _ _
      · exact j_M_isIt_69  _ _ _
    · exact j_M_isIt_69  _ _ _
  · exact j_M_isIt_69  _ _ _
theorem t_M_isIt (l : Launch) (E : hp_E) (a0 : Nat) (a1 : Int32) : hp_M l E y_M_isIt Y_M_isIt hp_rI [.ref a0, .int a1] (m_M_isIt E.2.2.1 a0 a1) := hp_M.of (plainFor_of_name (by decide)) ⟨rfl, rfl⟩ (Nat.le_of_ble_eq_true rfl) (fun Z h hE => by subst hE; exact j_M_isIt_0 _ _ h)
-- M_keep
theorem d_M_keep_0 : decode prog_9_method_4_code 0 = .ok (.aload_n 0, 1) := by decide +kernel
theorem d_M_keep_1 : decode prog_9_method_4_code 1 = .ok (.getfield 85, 3) := by decide +kernel
theorem d_M_keep_4 : decode prog_9_method_4_code 4 = .ok (.bipush 64, 2) := by decide +kernel
theorem d_M_keep_6 : decode prog_9_method_4_code 6 = .ok (.if_icmp .le 6, 3) := by decide +kernel
theorem d_M_keep_9 : decode prog_9_method_4_code 9 = .ok (.bipush (-4), 2) := by decide +kernel
theorem d_M_keep_11 : decode prog_9_method_4_code 11 = .ok (.ireturn, 1) := by decide +kernel
theorem d_M_keep_12 : decode prog_9_method_4_code 12 = .ok (.iconst 1, 1) := by decide +kernel
theorem d_M_keep_13 : decode prog_9_method_4_code 13 = .ok (.istore_n 1, 1) := by decide +kernel
theorem d_M_keep_14 : decode prog_9_method_4_code 14 = .ok (.iload_n 1, 1) := by decide +kernel
theorem d_M_keep_15 : decode prog_9_method_4_code 15 = .ok (.aload_n 0, 1) := by decide +kernel
theorem d_M_keep_16 : decode prog_9_method_4_code 16 = .ok (.getfield 88, 3) := by decide +kernel
theorem d_M_keep_19 : decode prog_9_method_4_code 19 = .ok (.if_icmp .gt 17, 3) := by decide +kernel
theorem d_M_keep_22 : decode prog_9_method_4_code 22 = .ok (.aload_n 0, 1) := by decide +kernel
theorem d_M_keep_23 : decode prog_9_method_4_code 23 = .ok (.iload_n 1, 1) := by decide +kernel
theorem d_M_keep_24 : decode prog_9_method_4_code 24 = .ok (.invokevirtual 91, 3) := by decide +kernel
theorem d_M_keep_27 : decode prog_9_method_4_code 27 = .ok (.ifCond .ne 9, 3) := by decide +kernel
theorem d_M_keep_30 : decode prog_9_method_4_code 30 = .ok (.iinc 1 1, 3) := by decide +kernel
theorem d_M_keep_33 : decode prog_9_method_4_code 33 = .ok (.goto (-19), 3) := by decide +kernel
theorem d_M_keep_36 : decode prog_9_method_4_code 36 = .ok (.iload_n 1, 1) := by decide +kernel
theorem d_M_keep_37 : decode prog_9_method_4_code 37 = .ok (.aload_n 0, 1) := by decide +kernel
theorem d_M_keep_38 : decode prog_9_method_4_code 38 = .ok (.getfield 88, 3) := by decide +kernel
theorem d_M_keep_41 : decode prog_9_method_4_code 41 = .ok (.if_icmp .gt 5, 3) := by decide +kernel
theorem d_M_keep_44 : decode prog_9_method_4_code 44 = .ok (.iload_n 1, 1) := by decide +kernel
theorem d_M_keep_45 : decode prog_9_method_4_code 45 = .ok (.ireturn, 1) := by decide +kernel
theorem d_M_keep_46 : decode prog_9_method_4_code 46 = .ok (.aload_n 0, 1) := by decide +kernel
theorem d_M_keep_47 : decode prog_9_method_4_code 47 = .ok (.getfield 88, 3) := by decide +kernel
theorem d_M_keep_50 : decode prog_9_method_4_code 50 = .ok (.sipush 2000, 3) := by decide +kernel
theorem d_M_keep_53 : decode prog_9_method_4_code 53 = .ok (.if_icmp .ne 6, 3) := by decide +kernel
theorem d_M_keep_56 : decode prog_9_method_4_code 56 = .ok (.bipush (-3), 2) := by decide +kernel
theorem d_M_keep_58 : decode prog_9_method_4_code 58 = .ok (.ireturn, 1) := by decide +kernel
theorem d_M_keep_59 : decode prog_9_method_4_code 59 = .ok (.aload_n 0, 1) := by decide +kernel
theorem d_M_keep_60 : decode prog_9_method_4_code 60 = .ok (.dup, 1) := by decide +kernel
theorem d_M_keep_61 : decode prog_9_method_4_code 61 = .ok (.getfield 88, 3) := by decide +kernel
theorem d_M_keep_64 : decode prog_9_method_4_code 64 = .ok (.iconst 1, 1) := by decide +kernel
theorem d_M_keep_65 : decode prog_9_method_4_code 65 = .ok (.iadd, 1) := by decide +kernel
theorem d_M_keep_66 : decode prog_9_method_4_code 66 = .ok (.putfield 88, 3) := by decide +kernel
theorem d_M_keep_69 : decode prog_9_method_4_code 69 = .ok (.aload_n 0, 1) := by decide +kernel
theorem d_M_keep_70 : decode prog_9_method_4_code 70 = .ok (.getfield 7, 3) := by decide +kernel
theorem d_M_keep_73 : decode prog_9_method_4_code 73 = .ok (.iload_n 1, 1) := by decide +kernel
theorem d_M_keep_74 : decode prog_9_method_4_code 74 = .ok (.aload_n 0, 1) := by decide +kernel
theorem d_M_keep_75 : decode prog_9_method_4_code 75 = .ok (.getfield 72, 3) := by decide +kernel
theorem d_M_keep_78 : decode prog_9_method_4_code 78 = .ok (.iastore, 1) := by decide +kernel
theorem d_M_keep_79 : decode prog_9_method_4_code 79 = .ok (.aload_n 0, 1) := by decide +kernel
theorem d_M_keep_80 : decode prog_9_method_4_code 80 = .ok (.getfield 13, 3) := by decide +kernel
theorem d_M_keep_83 : decode prog_9_method_4_code 83 = .ok (.iload_n 1, 1) := by decide +kernel
theorem d_M_keep_84 : decode prog_9_method_4_code 84 = .ok (.aload_n 0, 1) := by decide +kernel
theorem d_M_keep_85 : decode prog_9_method_4_code 85 = .ok (.getfield 76, 3) := by decide +kernel
theorem d_M_keep_88 : decode prog_9_method_4_code 88 = .ok (.iastore, 1) := by decide +kernel
theorem d_M_keep_89 : decode prog_9_method_4_code 89 = .ok (.aload_n 0, 1) := by decide +kernel
theorem d_M_keep_90 : decode prog_9_method_4_code 90 = .ok (.getfield 16, 3) := by decide +kernel
theorem d_M_keep_93 : decode prog_9_method_4_code 93 = .ok (.iload_n 1, 1) := by decide +kernel
theorem d_M_keep_94 : decode prog_9_method_4_code 94 = .ok (.aload_n 0, 1) := by decide +kernel
theorem d_M_keep_95 : decode prog_9_method_4_code 95 = .ok (.getfield 79, 3) := by decide +kernel
theorem d_M_keep_98 : decode prog_9_method_4_code 98 = .ok (.iastore, 1) := by decide +kernel
theorem d_M_keep_99 : decode prog_9_method_4_code 99 = .ok (.aload_n 0, 1) := by decide +kernel
theorem d_M_keep_100 : decode prog_9_method_4_code 100 = .ok (.getfield 19, 3) := by decide +kernel
theorem d_M_keep_103 : decode prog_9_method_4_code 103 = .ok (.iload_n 1, 1) := by decide +kernel
theorem d_M_keep_104 : decode prog_9_method_4_code 104 = .ok (.aload_n 0, 1) := by decide +kernel
theorem d_M_keep_105 : decode prog_9_method_4_code 105 = .ok (.getfield 82, 3) := by decide +kernel
theorem d_M_keep_108 : decode prog_9_method_4_code 108 = .ok (.iastore, 1) := by decide +kernel
theorem d_M_keep_109 : decode prog_9_method_4_code 109 = .ok (.aload_n 0, 1) := by decide +kernel
theorem d_M_keep_110 : decode prog_9_method_4_code 110 = .ok (.getfield 26, 3) := by decide +kernel
theorem d_M_keep_113 : decode prog_9_method_4_code 113 = .ok (.iload_n 1, 1) := by decide +kernel
theorem d_M_keep_114 : decode prog_9_method_4_code 114 = .ok (.aload_n 0, 1) := by decide +kernel
theorem d_M_keep_115 : decode prog_9_method_4_code 115 = .ok (.getfield 85, 3) := by decide +kernel
theorem d_M_keep_118 : decode prog_9_method_4_code 118 = .ok (.iastore, 1) := by decide +kernel
theorem d_M_keep_119 : decode prog_9_method_4_code 119 = .ok (.iconst 0, 1) := by decide +kernel
theorem d_M_keep_120 : decode prog_9_method_4_code 120 = .ok (.istore_n 2, 1) := by decide +kernel
theorem d_M_keep_121 : decode prog_9_method_4_code 121 = .ok (.iload_n 2, 1) := by decide +kernel
theorem d_M_keep_122 : decode prog_9_method_4_code 122 = .ok (.bipush 18, 2) := by decide +kernel
theorem d_M_keep_124 : decode prog_9_method_4_code 124 = .ok (.if_icmp .ge 26, 3) := by decide +kernel
theorem d_M_keep_127 : decode prog_9_method_4_code 127 = .ok (.aload_n 0, 1) := by decide +kernel
theorem d_M_keep_128 : decode prog_9_method_4_code 128 = .ok (.getfield 23, 3) := by decide +kernel
theorem d_M_keep_131 : decode prog_9_method_4_code 131 = .ok (.bipush 18, 2) := by decide +kernel
theorem d_M_keep_133 : decode prog_9_method_4_code 133 = .ok (.iload_n 1, 1) := by decide +kernel
theorem d_M_keep_134 : decode prog_9_method_4_code 134 = .ok (.imul, 1) := by decide +kernel
theorem d_M_keep_135 : decode prog_9_method_4_code 135 = .ok (.iload_n 2, 1) := by decide +kernel
theorem d_M_keep_136 : decode prog_9_method_4_code 136 = .ok (.iadd, 1) := by decide +kernel
theorem d_M_keep_137 : decode prog_9_method_4_code 137 = .ok (.aload_n 0, 1) := by decide +kernel
theorem d_M_keep_138 : decode prog_9_method_4_code 138 = .ok (.getfield 36, 3) := by decide +kernel
theorem d_M_keep_141 : decode prog_9_method_4_code 141 = .ok (.iload_n 2, 1) := by decide +kernel
theorem d_M_keep_142 : decode prog_9_method_4_code 142 = .ok (.iaload, 1) := by decide +kernel
theorem d_M_keep_143 : decode prog_9_method_4_code 143 = .ok (.iastore, 1) := by decide +kernel
theorem d_M_keep_144 : decode prog_9_method_4_code 144 = .ok (.iinc 2 1, 3) := by decide +kernel
theorem d_M_keep_147 : decode prog_9_method_4_code 147 = .ok (.goto (-26), 3) := by decide +kernel
theorem d_M_keep_150 : decode prog_9_method_4_code 150 = .ok (.iconst 0, 1) := by decide +kernel
theorem d_M_keep_151 : decode prog_9_method_4_code 151 = .ok (.istore_n 2, 1) := by decide +kernel
theorem d_M_keep_152 : decode prog_9_method_4_code 152 = .ok (.iload_n 2, 1) := by decide +kernel
theorem d_M_keep_153 : decode prog_9_method_4_code 153 = .ok (.aload_n 0, 1) := by decide +kernel
theorem d_M_keep_154 : decode prog_9_method_4_code 154 = .ok (.getfield 85, 3) := by decide +kernel
theorem d_M_keep_157 : decode prog_9_method_4_code 157 = .ok (.if_icmp .ge 26, 3) := by decide +kernel
theorem d_M_keep_160 : decode prog_9_method_4_code 160 = .ok (.aload_n 0, 1) := by decide +kernel
theorem d_M_keep_161 : decode prog_9_method_4_code 161 = .ok (.getfield 30, 3) := by decide +kernel
theorem d_M_keep_164 : decode prog_9_method_4_code 164 = .ok (.bipush 64, 2) := by decide +kernel
theorem d_M_keep_166 : decode prog_9_method_4_code 166 = .ok (.iload_n 1, 1) := by decide +kernel
theorem d_M_keep_167 : decode prog_9_method_4_code 167 = .ok (.imul, 1) := by decide +kernel
theorem d_M_keep_168 : decode prog_9_method_4_code 168 = .ok (.iload_n 2, 1) := by decide +kernel
theorem d_M_keep_169 : decode prog_9_method_4_code 169 = .ok (.iadd, 1) := by decide +kernel
theorem d_M_keep_170 : decode prog_9_method_4_code 170 = .ok (.aload_n 0, 1) := by decide +kernel
theorem d_M_keep_171 : decode prog_9_method_4_code 171 = .ok (.getfield 39, 3) := by decide +kernel
theorem d_M_keep_174 : decode prog_9_method_4_code 174 = .ok (.iload_n 2, 1) := by decide +kernel
theorem d_M_keep_175 : decode prog_9_method_4_code 175 = .ok (.iaload, 1) := by decide +kernel
theorem d_M_keep_176 : decode prog_9_method_4_code 176 = .ok (.iastore, 1) := by decide +kernel
theorem d_M_keep_177 : decode prog_9_method_4_code 177 = .ok (.iinc 2 1, 3) := by decide +kernel
theorem d_M_keep_180 : decode prog_9_method_4_code 180 = .ok (.goto (-28), 3) := by decide +kernel
theorem d_M_keep_183 : decode prog_9_method_4_code 183 = .ok (.iload_n 1, 1) := by decide +kernel
theorem d_M_keep_184 : decode prog_9_method_4_code 184 = .ok (.ireturn, 1) := by decide +kernel
def m_M_keep_152 (G : Nat → Nat) : Nat → Nat → Int32 → Int32 → hp_H → Option (Int32 × hp_H)
  | 0, _, _, _, _ => none
  | n + 1, a0, a1, a2, h => (hp_gI h a0 8 16).bind fun x1 => if x1 ≤ a2 then (some (a1, h)) else ((hp_gR h a0 8 7).bind fun x2 => (hp_gR h a0 8 15).bind fun x3 => (hp_aI h .int x3 a2).bind fun x4 => (hp_sI h .int x2 (((64 : Int32) * a1) + a2) x4).bind fun h5 => hp_nm (a2 + 1) fun x6 => (m_M_keep_152 G  n) a0 a1 x6 h5)
set_option maxRecDepth 100000 in
set_option maxHeartbeats 4000000 in
theorem j_M_keep_152 {Z : hp_Z} : ∀ (n : Nat) (a0 : Nat) (a1 : Int32) (a2 : Int32) (h : hp_H), hp_J Y_M_keep Z hp_rI h 152 [(0, .ref a0), (1, .int a1), (2, .int a2)] [] (m_M_keep_152 (hp_G Z)  n a0 a1 a2 h) := by
  intro n
  induction n with
  | zero => intro a0 a1 a2 h; exact hp_fail
  | succ n ih =>
    intro a0 a1 a2 h
    rw [m_M_keep_152]
    refine hp_iload_n (x0 := 2) d_M_keep_152 rfl rfl ?_
    refine hp_aload_n (x0 := 0) d_M_keep_153 rfl rfl ?_
    refine hp_getI fl_M_85 d_M_keep_154 fun x1 => ?_
    refine hp_icmp_ge (tgt := 183) d_M_keep_157 (by decide) ?_ ?_
    · refine hp_iload_n (x0 := 1) d_M_keep_183 rfl rfl ?_
      exact hp_iret d_M_keep_184 rfl
    · refine hp_aload_n (x0 := 0) d_M_keep_160 rfl rfl ?_
      refine hp_getR fl_M_30 d_M_keep_161 fun x2 => ?_
      refine hp_bipush (v := 64) d_M_keep_164 (by decide) ?_
      refine hp_iload_n (x0 := 1) d_M_keep_166 rfl rfl ?_
      refine hp_imul d_M_keep_167 ?_
      refine hp_iload_n (x0 := 2) d_M_keep_168 rfl rfl ?_
      refine hp_iadd d_M_keep_169 ?_
      refine hp_aload_n (x0 := 0) d_M_keep_170 rfl rfl ?_
      refine hp_getR fl_M_39 d_M_keep_171 fun x3 => ?_
      refine hp_iload_n (x0 := 2) d_M_keep_174 rfl rfl ?_
      refine hp_iald d_M_keep_175 fun x4 => ?_
      refine hp_iast d_M_keep_176 fun h5 => ?_
      refine hp_iinc (x0 := 2) (d := 1) (fun x6 => [(2, .int x6), (0, .ref a0), (1, .int a1)]) d_M_keep_177 rfl (by decide) (by decide) (fun _ => rfl) fun x6 => ?_
      refine hp_goto (tgt := 152) d_M_keep_180 (by decide) ?_
      refine hp_sub [1, 2, 0] rfl ?_
      exact ih _ _ _ _
def m_M_keep_121 (G : Nat → Nat) : Nat → Nat → Int32 → Int32 → hp_H → Option (Int32 × hp_H)
  | 0, _, _, _, _ => none
  | n + 1, a0, a1, a2, h => if (18 : Int32) ≤ a2 then (hp_nm (0 : Int32) fun x1 => m_M_keep_152 G hp_fu a0 a1 x1 h) else ((hp_gR h a0 8 5).bind fun x2 => (hp_gR h a0 8 14).bind fun x3 => (hp_aI h .int x3 a2).bind fun x4 => (hp_sI h .int x2 (((18 : Int32) * a1) + a2) x4).bind fun h5 => hp_nm (a2 + 1) fun x6 => (m_M_keep_121 G  n) a0 a1 x6 h5)
set_option maxRecDepth 100000 in
set_option maxHeartbeats 4000000 in
theorem j_M_keep_121 {Z : hp_Z} : ∀ (n : Nat) (a0 : Nat) (a1 : Int32) (a2 : Int32) (h : hp_H), hp_J Y_M_keep Z hp_rI h 121 [(0, .ref a0), (1, .int a1), (2, .int a2)] [] (m_M_keep_121 (hp_G Z)  n a0 a1 a2 h) := by
  intro n
  induction n with
  | zero => intro a0 a1 a2 h; exact hp_fail
  | succ n ih =>
    intro a0 a1 a2 h
    rw [m_M_keep_121]
    refine hp_iload_n (x0 := 2) d_M_keep_121 rfl rfl ?_
    refine hp_bipush (v := 18) d_M_keep_122 (by decide) ?_
    refine hp_icmp_ge (tgt := 150) d_M_keep_124 (by decide) ?_ ?_
    · refine hp_iconst (v := 0) d_M_keep_150 (by decide) ?_
      refine hp_istore_n (fun x1 => [(2, .int x1), (0, .ref a0), (1, .int a1)]) d_M_keep_151 rfl (by decide) (fun _ => rfl) fun x1 => ?_
      refine hp_sub [1, 2, 0] rfl ?_
      exact j_M_keep_152  hp_fu _ _ _ _
    · refine hp_aload_n (x0 := 0) d_M_keep_127 rfl rfl ?_
      refine hp_getR fl_M_23 d_M_keep_128 fun x2 => ?_
      refine hp_bipush (v := 18) d_M_keep_131 (by decide) ?_
      refine hp_iload_n (x0 := 1) d_M_keep_133 rfl rfl ?_
      refine hp_imul d_M_keep_134 ?_
      refine hp_iload_n (x0 := 2) d_M_keep_135 rfl rfl ?_
      refine hp_iadd d_M_keep_136 ?_
      refine hp_aload_n (x0 := 0) d_M_keep_137 rfl rfl ?_
      refine hp_getR fl_M_36 d_M_keep_138 fun x3 => ?_
      refine hp_iload_n (x0 := 2) d_M_keep_141 rfl rfl ?_
      refine hp_iald d_M_keep_142 fun x4 => ?_
      refine hp_iast d_M_keep_143 fun h5 => ?_
      refine hp_iinc (x0 := 2) (d := 1) (fun x6 => [(2, .int x6), (0, .ref a0), (1, .int a1)]) d_M_keep_144 rfl (by decide) (by decide) (fun _ => rfl) fun x6 => ?_
      refine hp_goto (tgt := 121) d_M_keep_147 (by decide) ?_
      refine hp_sub [1, 2, 0] rfl ?_
      exact ih _ _ _ _
def m_M_keep_36 (G : Nat → Nat) (a0 : Nat) (a1 : Int32) (h : hp_H) : Option (Int32 × hp_H) := (hp_gI h a0 8 0).bind fun x1 => if x1 < a1 then ((hp_gI h a0 8 0).bind fun x2 => if x2 = (2000 : Int32) then (some ((-3 : Int32), h)) else ((hp_gI h a0 8 0).bind fun x3 => (hp_p h a0 8 0 (.int (x3 + (1 : Int32)))).bind fun h4 => (hp_gR h4 a0 8 1).bind fun x5 => (hp_gI h4 a0 8 10).bind fun x6 => (hp_sI h4 .int x5 a1 x6).bind fun h7 => (hp_gR h7 a0 8 2).bind fun x8 => (hp_gI h7 a0 8 11).bind fun x9 => (hp_sI h7 .int x8 a1 x9).bind fun h10 => (hp_gR h10 a0 8 3).bind fun x11 => (hp_gI h10 a0 8 12).bind fun x12 => (hp_sI h10 .int x11 a1 x12).bind fun h13 => (hp_gR h13 a0 8 4).bind fun x14 => (hp_gI h13 a0 8 13).bind fun x15 => (hp_sI h13 .int x14 a1 x15).bind fun h16 => (hp_gR h16 a0 8 6).bind fun x17 => (hp_gI h16 a0 8 16).bind fun x18 => (hp_sI h16 .int x17 a1 x18).bind fun h19 => hp_nm (0 : Int32) fun x20 => m_M_keep_121 G hp_fu a0 a1 x20 h19)) else (some (a1, h))
set_option maxRecDepth 100000 in
set_option maxHeartbeats 4000000 in
theorem j_M_keep_36 {Z : hp_Z} (a0 : Nat) (a1 : Int32) (h : hp_H) : hp_J Y_M_keep Z hp_rI h 36 [(0, .ref a0), (1, .int a1)] [] (m_M_keep_36 (hp_G Z)  a0 a1 h) := by
  unfold m_M_keep_36
  refine hp_iload_n (x0 := 1) d_M_keep_36 rfl rfl ?_
  refine hp_aload_n (x0 := 0) d_M_keep_37 rfl rfl ?_
  refine hp_getI fl_M_88 d_M_keep_38 fun x1 => ?_
  refine hp_icmp_gt (tgt := 46) d_M_keep_41 (by decide) ?_ ?_
  · refine hp_aload_n (x0 := 0) d_M_keep_46 rfl rfl ?_
    refine hp_getI fl_M_88 d_M_keep_47 fun x2 => ?_
    refine hp_sipush (v := 2000) d_M_keep_50 (by decide) ?_
    refine hp_icmp_ne (tgt := 59) d_M_keep_53 (by decide) ?_ ?_
    · refine hp_bipush (v := -3) d_M_keep_56 (by decide) ?_
      exact hp_iret d_M_keep_58 rfl
    · refine hp_aload_n (x0 := 0) d_M_keep_59 rfl rfl ?_
      refine hp_dup d_M_keep_60 rfl ?_
      refine hp_getI fl_M_88 d_M_keep_61 fun x3 => ?_
      refine hp_iconst (v := 1) d_M_keep_64 (by decide) ?_
      refine hp_iadd d_M_keep_65 ?_
      refine hp_put fl_M_88 (fun q => by cases q) rfl rfl d_M_keep_66 fun h4 => ?_
      refine hp_aload_n (x0 := 0) d_M_keep_69 rfl rfl ?_
      refine hp_getR fl_M_7 d_M_keep_70 fun x5 => ?_
      refine hp_iload_n (x0 := 1) d_M_keep_73 rfl rfl ?_
      refine hp_aload_n (x0 := 0) d_M_keep_74 rfl rfl ?_
      refine hp_getI fl_M_72 d_M_keep_75 fun x6 => ?_
      refine hp_iast d_M_keep_78 fun h7 => ?_
      refine hp_aload_n (x0 := 0) d_M_keep_79 rfl rfl ?_
      refine hp_getR fl_M_13 d_M_keep_80 fun x8 => ?_
      refine hp_iload_n (x0 := 1) d_M_keep_83 rfl rfl ?_
      refine hp_aload_n (x0 := 0) d_M_keep_84 rfl rfl ?_
      refine hp_getI fl_M_76 d_M_keep_85 fun x9 => ?_
      refine hp_iast d_M_keep_88 fun h10 => ?_
      refine hp_aload_n (x0 := 0) d_M_keep_89 rfl rfl ?_
      refine hp_getR fl_M_16 d_M_keep_90 fun x11 => ?_
      refine hp_iload_n (x0 := 1) d_M_keep_93 rfl rfl ?_
      refine hp_aload_n (x0 := 0) d_M_keep_94 rfl rfl ?_
      refine hp_getI fl_M_79 d_M_keep_95 fun x12 => ?_
      refine hp_iast d_M_keep_98 fun h13 => ?_
      refine hp_aload_n (x0 := 0) d_M_keep_99 rfl rfl ?_
      refine hp_getR fl_M_19 d_M_keep_100 fun x14 => ?_
      refine hp_iload_n (x0 := 1) d_M_keep_103 rfl rfl ?_
      refine hp_aload_n (x0 := 0) d_M_keep_104 rfl rfl ?_
      refine hp_getI fl_M_82 d_M_keep_105 fun x15 => ?_
      refine hp_iast d_M_keep_108 fun h16 => ?_
      refine hp_aload_n (x0 := 0) d_M_keep_109 rfl rfl ?_
      refine hp_getR fl_M_26 d_M_keep_110 fun x17 => ?_
      refine hp_iload_n (x0 := 1) d_M_keep_113 rfl rfl ?_
      refine hp_aload_n (x0 := 0) d_M_keep_114 rfl rfl ?_
      refine hp_getI fl_M_85 d_M_keep_115 fun x18 => ?_
      refine hp_iast d_M_keep_118 fun h19 => ?_
      refine hp_iconst (v := 0) d_M_keep_119 (by decide) ?_
      refine hp_istore_n (fun x20 => [(2, .int x20), (0, .ref a0), (1, .int a1)]) d_M_keep_120 rfl (by decide) (fun _ => rfl) fun x20 => ?_
      refine hp_sub [1, 2, 0] rfl ?_
      exact j_M_keep_121  hp_fu _ _ _ _
  · refine hp_iload_n (x0 := 1) d_M_keep_44 rfl rfl ?_
    exact hp_iret d_M_keep_45 rfl
def m_M_keep_14 (G : Nat → Nat) : Nat → Nat → Int32 → hp_H → Option (Int32 × hp_H)
  | 0, _, _, _ => none
  | n + 1, a0, a1, h => (hp_gI h a0 8 0).bind fun x1 => if x1 < a1 then (m_M_keep_36 G a0 a1 h) else ((hp_vck h a0 8 (m_M_isIt G a0 a1 h)).bind fun q2 => if q2.1 = 0 then (hp_nm (a1 + 1) fun x3 => (m_M_keep_14 G  n) a0 x3 q2.2) else (m_M_keep_36 G a0 a1 q2.2))
set_option maxRecDepth 100000 in
set_option maxHeartbeats 4000000 in
theorem j_M_keep_14 {Z : hp_Z} : ∀ (n : Nat) (a0 : Nat) (a1 : Int32) (h : hp_H), hp_J Y_M_keep Z hp_rI h 14 [(0, .ref a0), (1, .int a1)] [] (m_M_keep_14 (hp_G Z)  n a0 a1 h) := by
  intro n
  induction n with
  | zero => intro a0 a1 h; exact hp_fail
  | succ n ih =>
    intro a0 a1 h
    rw [m_M_keep_14]
    refine hp_iload_n (x0 := 1) d_M_keep_14 rfl rfl ?_
    refine hp_aload_n (x0 := 0) d_M_keep_15 rfl rfl ?_
    refine hp_getI fl_M_88 d_M_keep_16 fun x1 => ?_
    refine hp_icmp_gt (tgt := 36) d_M_keep_19 (by decide) ?_ ?_
    · exact j_M_keep_36  _ _ _
    · refine hp_aload_n (x0 := 0) d_M_keep_22 rfl rfl ?_
      refine hp_iload_n (x0 := 1) d_M_keep_23 rfl rfl ?_
      refine hp_callI (hp_crV (ci := 8) (t_M_isIt _ _ _ _) cw_M_91 rfl ⟨w_996, ws_42⟩ (by decide) rfl rfl (Nat.le_of_ble_eq_true rfl) d_M_keep_24) fun q2 => ?_
      refine hp_if_ne (tgt := 36) d_M_keep_27 (by decide) ?_ ?_
      · refine hp_iinc (x0 := 1) (d := 1) (fun x3 => [(1, .int x3), (0, .ref a0)]) d_M_keep_30 rfl (by decide) (by decide) (fun _ => rfl) fun x3 => ?_
        refine hp_goto (tgt := 14) d_M_keep_33 (by decide) ?_
        refine hp_sub [1, 0] rfl ?_
        exact ih _ _ _
      · exact j_M_keep_36  _ _ _
def m_M_keep (G : Nat → Nat) (a0 : Nat) (h : hp_H) : Option (Int32 × hp_H) := (hp_gI h a0 8 16).bind fun x1 => if x1 ≤ (64 : Int32) then (hp_nm (1 : Int32) fun x2 => m_M_keep_14 G hp_fu a0 x2 h) else (some ((-4 : Int32), h))
set_option maxRecDepth 100000 in
set_option maxHeartbeats 4000000 in
theorem j_M_keep_0 {Z : hp_Z} (a0 : Nat) (h : hp_H) : hp_J Y_M_keep Z hp_rI h 0 [(0, .ref a0)] [] (m_M_keep (hp_G Z)  a0 h) := by
  unfold m_M_keep
  refine hp_aload_n (x0 := 0) d_M_keep_0 rfl rfl ?_
  refine hp_getI fl_M_85 d_M_keep_1 fun x1 => ?_
  refine hp_bipush (v := 64) d_M_keep_4 (by decide) ?_
  refine hp_icmp_le (tgt := 12) d_M_keep_6 (by decide) ?_ ?_
  · refine hp_iconst (v := 1) d_M_keep_12 (by decide) ?_
    refine hp_istore_n (fun x2 => [(1, .int x2), (0, .ref a0)]) d_M_keep_13 rfl (by decide) (fun _ => rfl) fun x2 => ?_
    refine hp_sub [1, 0] rfl ?_
    exact j_M_keep_14  hp_fu _ _ _
  · refine hp_bipush (v := -4) d_M_keep_9 (by decide) ?_
    exact hp_iret d_M_keep_11 rfl
theorem t_M_keep (l : Launch) (E : hp_E) (a0 : Nat) : hp_M l E y_M_keep Y_M_keep hp_rI [.ref a0] (m_M_keep E.2.2.1 a0) := hp_M.of (plainFor_of_name (by decide)) ⟨rfl, rfl⟩ (Nat.le_of_ble_eq_true rfl) (fun Z h hE => by subst hE; exact j_M_keep_0 _ h)
-- M_start
theorem d_M_start_0 : decode prog_9_method_2_code 0 = .ok (.aload_n 0, 1) := by decide +kernel
theorem d_M_start_1 : decode prog_9_method_2_code 1 = .ok (.iload_n 1, 1) := by decide +kernel
theorem d_M_start_2 : decode prog_9_method_2_code 2 = .ok (.putfield 72, 3) := by decide +kernel
theorem d_M_start_5 : decode prog_9_method_2_code 5 = .ok (.aload_n 0, 1) := by decide +kernel
theorem d_M_start_6 : decode prog_9_method_2_code 6 = .ok (.iload_n 2, 1) := by decide +kernel
theorem d_M_start_7 : decode prog_9_method_2_code 7 = .ok (.putfield 76, 3) := by decide +kernel
theorem d_M_start_10 : decode prog_9_method_2_code 10 = .ok (.aload_n 0, 1) := by decide +kernel
theorem d_M_start_11 : decode prog_9_method_2_code 11 = .ok (.iconst 0, 1) := by decide +kernel
theorem d_M_start_12 : decode prog_9_method_2_code 12 = .ok (.putfield 79, 3) := by decide +kernel
theorem d_M_start_15 : decode prog_9_method_2_code 15 = .ok (.aload_n 0, 1) := by decide +kernel
theorem d_M_start_16 : decode prog_9_method_2_code 16 = .ok (.iconst 0, 1) := by decide +kernel
theorem d_M_start_17 : decode prog_9_method_2_code 17 = .ok (.putfield 82, 3) := by decide +kernel
theorem d_M_start_20 : decode prog_9_method_2_code 20 = .ok (.iconst 0, 1) := by decide +kernel
theorem d_M_start_21 : decode prog_9_method_2_code 21 = .ok (.istore_n 3, 1) := by decide +kernel
theorem d_M_start_22 : decode prog_9_method_2_code 22 = .ok (.iload_n 3, 1) := by decide +kernel
theorem d_M_start_23 : decode prog_9_method_2_code 23 = .ok (.bipush 18, 2) := by decide +kernel
theorem d_M_start_25 : decode prog_9_method_2_code 25 = .ok (.if_icmp .ge 16, 3) := by decide +kernel
theorem d_M_start_28 : decode prog_9_method_2_code 28 = .ok (.aload_n 0, 1) := by decide +kernel
theorem d_M_start_29 : decode prog_9_method_2_code 29 = .ok (.getfield 36, 3) := by decide +kernel
theorem d_M_start_32 : decode prog_9_method_2_code 32 = .ok (.iload_n 3, 1) := by decide +kernel
theorem d_M_start_33 : decode prog_9_method_2_code 33 = .ok (.iconst 0, 1) := by decide +kernel
theorem d_M_start_34 : decode prog_9_method_2_code 34 = .ok (.iastore, 1) := by decide +kernel
theorem d_M_start_35 : decode prog_9_method_2_code 35 = .ok (.iinc 3 1, 3) := by decide +kernel
theorem d_M_start_38 : decode prog_9_method_2_code 38 = .ok (.goto (-16), 3) := by decide +kernel
theorem d_M_start_41 : decode prog_9_method_2_code 41 = .ok (.aload_n 0, 1) := by decide +kernel
theorem d_M_start_42 : decode prog_9_method_2_code 42 = .ok (.iconst 0, 1) := by decide +kernel
theorem d_M_start_43 : decode prog_9_method_2_code 43 = .ok (.putfield 85, 3) := by decide +kernel
theorem d_M_start_46 : decode prog_9_method_2_code 46 = .ok (.return_, 1) := by decide +kernel
def m_M_start_22 (G : Nat → Nat) : Nat → Nat → Int32 → hp_H → Option (Unit × hp_H)
  | 0, _, _, _ => none
  | n + 1, a0, a3, h => if (18 : Int32) ≤ a3 then ((hp_p h a0 8 16 (.int (0 : Int32))).bind fun h1 => some ((), h1)) else ((hp_gR h a0 8 14).bind fun x2 => (hp_sI h .int x2 a3 (0 : Int32)).bind fun h3 => hp_nm (a3 + 1) fun x4 => (m_M_start_22 G  n) a0 x4 h3)
set_option maxRecDepth 100000 in
set_option maxHeartbeats 4000000 in
theorem j_M_start_22 {Z : hp_Z} : ∀ (n : Nat) (a0 : Nat) (a3 : Int32) (h : hp_H), hp_J Y_M_start Z hp_rV h 22 [(0, .ref a0), (3, .int a3)] [] (m_M_start_22 (hp_G Z)  n a0 a3 h) := by
  intro n
  induction n with
  | zero => intro a0 a3 h; exact hp_fail
  | succ n ih =>
    intro a0 a3 h
    rw [m_M_start_22]
    refine hp_iload_n (x0 := 1) d_M_start_22 rfl rfl ?_
    refine hp_bipush (v := 18) d_M_start_23 (by decide) ?_
    refine hp_icmp_ge (tgt := 41) d_M_start_25 (by decide) ?_ ?_
    · refine hp_aload_n (x0 := 0) d_M_start_41 rfl rfl ?_
      refine hp_iconst (v := 0) d_M_start_42 (by decide) ?_
      refine hp_put fl_M_85 (fun q => by cases q) rfl rfl d_M_start_43 fun h1 => ?_
      exact hp_vret d_M_start_46 rfl
    · refine hp_aload_n (x0 := 0) d_M_start_28 rfl rfl ?_
      refine hp_getR fl_M_36 d_M_start_29 fun x2 => ?_
      refine hp_iload_n (x0 := 1) d_M_start_32 rfl rfl ?_
      refine hp_iconst (v := 0) d_M_start_33 (by decide) ?_
      refine hp_iast d_M_start_34 fun h3 => ?_
      refine hp_iinc (x0 := 1) (d := 1) (fun x4 => [(3, .int x4), (0, .ref a0)]) d_M_start_35 rfl (by decide) (by decide) (fun _ => rfl) fun x4 => ?_
      refine hp_goto (tgt := 22) d_M_start_38 (by decide) ?_
      refine hp_sub [1, 0] rfl ?_
      exact ih _ _ _
def m_M_start (G : Nat → Nat) (a0 : Nat) (a1 : Int32) (a2 : Int32) (h : hp_H) : Option (Unit × hp_H) := (hp_p h a0 8 10 (.int a1)).bind fun h1 => (hp_p h1 a0 8 11 (.int a2)).bind fun h2 => (hp_p h2 a0 8 12 (.int (0 : Int32))).bind fun h3 => (hp_p h3 a0 8 13 (.int (0 : Int32))).bind fun h4 => hp_nm (0 : Int32) fun x5 => m_M_start_22 G hp_fu a0 x5 h4
set_option maxRecDepth 100000 in
set_option maxHeartbeats 4000000 in
theorem j_M_start_0 {Z : hp_Z} (a0 : Nat) (a1 : Int32) (a2 : Int32) (h : hp_H) : hp_J Y_M_start Z hp_rV h 0 [(0, .ref a0), (1, .int a1), (2, .int a2)] [] (m_M_start (hp_G Z)  a0 a1 a2 h) := by
  unfold m_M_start
  refine hp_aload_n (x0 := 0) d_M_start_0 rfl rfl ?_
  refine hp_iload_n (x0 := 1) d_M_start_1 rfl rfl ?_
  refine hp_put fl_M_72 (fun q => by cases q) rfl rfl d_M_start_2 fun h1 => ?_
  refine hp_aload_n (x0 := 0) d_M_start_5 rfl rfl ?_
  refine hp_iload_n (x0 := 2) d_M_start_6 rfl rfl ?_
  refine hp_put fl_M_76 (fun q => by cases q) rfl rfl d_M_start_7 fun h2 => ?_
  refine hp_aload_n (x0 := 0) d_M_start_10 rfl rfl ?_
  refine hp_iconst (v := 0) d_M_start_11 (by decide) ?_
  refine hp_put fl_M_79 (fun q => by cases q) rfl rfl d_M_start_12 fun h3 => ?_
  refine hp_aload_n (x0 := 0) d_M_start_15 rfl rfl ?_
  refine hp_iconst (v := 0) d_M_start_16 (by decide) ?_
  refine hp_put fl_M_82 (fun q => by cases q) rfl rfl d_M_start_17 fun h4 => ?_
  refine hp_iconst (v := 0) d_M_start_20 (by decide) ?_
  refine hp_istore_n (fun x5 => [(3, .int x5), (0, .ref a0), (1, .int a1), (2, .int a2)]) d_M_start_21 rfl (by decide) (fun _ => rfl) fun x5 => ?_
  refine hp_sub [1, 0] rfl ?_
  exact j_M_start_22  hp_fu _ _ _
theorem t_M_start (l : Launch) (E : hp_E) (a0 : Nat) (a1 : Int32) (a2 : Int32) : hp_M l E y_M_start Y_M_start hp_rV [.ref a0, .int a1, .int a2] (m_M_start E.2.2.1 a0 a1 a2) := hp_M.of (plainFor_of_name (by decide)) ⟨rfl, rfl⟩ (Nat.le_of_ble_eq_true rfl) (fun Z h hE => by subst hE; exact j_M_start_0 _ _ _ h)
-- M_number
theorem d_M_number_0 : decode prog_9_method_13_code 0 = .ok (.bipush 9, 2) := by decide +kernel
theorem d_M_number_2 : decode prog_9_method_13_code 2 = .ok (.istore 4, 2) := by decide +kernel
theorem d_M_number_4 : decode prog_9_method_13_code 4 = .ok (.iload 4, 2) := by decide +kernel
theorem d_M_number_6 : decode prog_9_method_13_code 6 = .ok (.bipush 18, 2) := by decide +kernel
theorem d_M_number_8 : decode prog_9_method_13_code 8 = .ok (.if_icmp .ge 16, 3) := by decide +kernel
theorem d_M_number_11 : decode prog_9_method_13_code 11 = .ok (.aload_n 1, 1) := by decide +kernel
theorem d_M_number_12 : decode prog_9_method_13_code 12 = .ok (.iload 4, 2) := by decide +kernel
theorem d_M_number_14 : decode prog_9_method_13_code 14 = .ok (.iaload, 1) := by decide +kernel
theorem d_M_number_15 : decode prog_9_method_13_code 15 = .ok (.ifCond .ne 9, 3) := by decide +kernel
theorem d_M_number_18 : decode prog_9_method_13_code 18 = .ok (.iinc 4 1, 3) := by decide +kernel
theorem d_M_number_21 : decode prog_9_method_13_code 21 = .ok (.goto (-17), 3) := by decide +kernel
theorem d_M_number_24 : decode prog_9_method_13_code 24 = .ok (.iconst 0, 1) := by decide +kernel
theorem d_M_number_25 : decode prog_9_method_13_code 25 = .ok (.istore 5, 2) := by decide +kernel
theorem d_M_number_27 : decode prog_9_method_13_code 27 = .ok (.iload 4, 2) := by decide +kernel
theorem d_M_number_29 : decode prog_9_method_13_code 29 = .ok (.bipush 18, 2) := by decide +kernel
theorem d_M_number_31 : decode prog_9_method_13_code 31 = .ok (.iadd, 1) := by decide +kernel
theorem d_M_number_32 : decode prog_9_method_13_code 32 = .ok (.istore 6, 2) := by decide +kernel
theorem d_M_number_34 : decode prog_9_method_13_code 34 = .ok (.iload 6, 2) := by decide +kernel
theorem d_M_number_36 : decode prog_9_method_13_code 36 = .ok (.bipush 64, 2) := by decide +kernel
theorem d_M_number_38 : decode prog_9_method_13_code 38 = .ok (.if_icmp .ge 28, 3) := by decide +kernel
theorem d_M_number_41 : decode prog_9_method_13_code 41 = .ok (.iload 5, 2) := by decide +kernel
theorem d_M_number_43 : decode prog_9_method_13_code 43 = .ok (.ifCond .ne 10, 3) := by decide +kernel
theorem d_M_number_46 : decode prog_9_method_13_code 46 = .ok (.aload_n 1, 1) := by decide +kernel
theorem d_M_number_47 : decode prog_9_method_13_code 47 = .ok (.iload 6, 2) := by decide +kernel
theorem d_M_number_49 : decode prog_9_method_13_code 49 = .ok (.iaload, 1) := by decide +kernel
theorem d_M_number_50 : decode prog_9_method_13_code 50 = .ok (.ifCond .eq 7, 3) := by decide +kernel
theorem d_M_number_53 : decode prog_9_method_13_code 53 = .ok (.iconst 1, 1) := by decide +kernel
theorem d_M_number_54 : decode prog_9_method_13_code 54 = .ok (.goto 4, 3) := by decide +kernel
theorem d_M_number_57 : decode prog_9_method_13_code 57 = .ok (.iconst 0, 1) := by decide +kernel
theorem d_M_number_58 : decode prog_9_method_13_code 58 = .ok (.istore 5, 2) := by decide +kernel
theorem d_M_number_60 : decode prog_9_method_13_code 60 = .ok (.iinc 6 1, 3) := by decide +kernel
theorem d_M_number_63 : decode prog_9_method_13_code 63 = .ok (.goto (-29), 3) := by decide +kernel
theorem d_M_number_66 : decode prog_9_method_13_code 66 = .ok (.iload 5, 2) := by decide +kernel
theorem d_M_number_68 : decode prog_9_method_13_code 68 = .ok (.ifCond .eq 6, 3) := by decide +kernel
theorem d_M_number_71 : decode prog_9_method_13_code 71 = .ok (.bipush (-4), 2) := by decide +kernel
theorem d_M_number_73 : decode prog_9_method_13_code 73 = .ok (.ireturn, 1) := by decide +kernel
theorem d_M_number_74 : decode prog_9_method_13_code 74 = .ok (.aload_n 0, 1) := by decide +kernel
theorem d_M_number_75 : decode prog_9_method_13_code 75 = .ok (.iload_n 3, 1) := by decide +kernel
theorem d_M_number_76 : decode prog_9_method_13_code 76 = .ok (.ifCond .eq 7, 3) := by decide +kernel
theorem d_M_number_79 : decode prog_9_method_13_code 79 = .ok (.iconst 3, 1) := by decide +kernel
theorem d_M_number_80 : decode prog_9_method_13_code 80 = .ok (.goto 4, 3) := by decide +kernel
theorem d_M_number_83 : decode prog_9_method_13_code 83 = .ok (.iconst 4, 1) := by decide +kernel
theorem d_M_number_84 : decode prog_9_method_13_code 84 = .ok (.iconst 0, 1) := by decide +kernel
theorem d_M_number_85 : decode prog_9_method_13_code 85 = .ok (.invokevirtual 103, 3) := by decide +kernel
theorem d_M_number_88 : decode prog_9_method_13_code 88 = .ok (.aload_n 0, 1) := by decide +kernel
theorem d_M_number_89 : decode prog_9_method_13_code 89 = .ok (.aload_n 1, 1) := by decide +kernel
theorem d_M_number_90 : decode prog_9_method_13_code 90 = .ok (.invokestatic 107, 3) := by decide +kernel
theorem d_M_number_93 : decode prog_9_method_13_code 93 = .ok (.ifCond .eq 7, 3) := by decide +kernel
theorem d_M_number_96 : decode prog_9_method_13_code 96 = .ok (.iconst 0, 1) := by decide +kernel
theorem d_M_number_97 : decode prog_9_method_13_code 97 = .ok (.goto 4, 3) := by decide +kernel
theorem d_M_number_100 : decode prog_9_method_13_code 100 = .ok (.iload_n 2, 1) := by decide +kernel
theorem d_M_number_101 : decode prog_9_method_13_code 101 = .ok (.putfield 79, 3) := by decide +kernel
theorem d_M_number_104 : decode prog_9_method_13_code 104 = .ok (.aload_n 0, 1) := by decide +kernel
theorem d_M_number_105 : decode prog_9_method_13_code 105 = .ok (.bipush 18, 2) := by decide +kernel
theorem d_M_number_107 : decode prog_9_method_13_code 107 = .ok (.iload 4, 2) := by decide +kernel
theorem d_M_number_109 : decode prog_9_method_13_code 109 = .ok (.isub, 1) := by decide +kernel
theorem d_M_number_110 : decode prog_9_method_13_code 110 = .ok (.putfield 82, 3) := by decide +kernel
theorem d_M_number_113 : decode prog_9_method_13_code 113 = .ok (.iconst 0, 1) := by decide +kernel
theorem d_M_number_114 : decode prog_9_method_13_code 114 = .ok (.istore 6, 2) := by decide +kernel
theorem d_M_number_116 : decode prog_9_method_13_code 116 = .ok (.iload 6, 2) := by decide +kernel
theorem d_M_number_118 : decode prog_9_method_13_code 118 = .ok (.bipush 18, 2) := by decide +kernel
theorem d_M_number_120 : decode prog_9_method_13_code 120 = .ok (.if_icmp .ge 23, 3) := by decide +kernel
theorem d_M_number_123 : decode prog_9_method_13_code 123 = .ok (.aload_n 0, 1) := by decide +kernel
theorem d_M_number_124 : decode prog_9_method_13_code 124 = .ok (.getfield 36, 3) := by decide +kernel
theorem d_M_number_127 : decode prog_9_method_13_code 127 = .ok (.iload 6, 2) := by decide +kernel
theorem d_M_number_129 : decode prog_9_method_13_code 129 = .ok (.aload_n 1, 1) := by decide +kernel
theorem d_M_number_130 : decode prog_9_method_13_code 130 = .ok (.iload 4, 2) := by decide +kernel
theorem d_M_number_132 : decode prog_9_method_13_code 132 = .ok (.iload 6, 2) := by decide +kernel
theorem d_M_number_134 : decode prog_9_method_13_code 134 = .ok (.iadd, 1) := by decide +kernel
theorem d_M_number_135 : decode prog_9_method_13_code 135 = .ok (.iaload, 1) := by decide +kernel
theorem d_M_number_136 : decode prog_9_method_13_code 136 = .ok (.iastore, 1) := by decide +kernel
theorem d_M_number_137 : decode prog_9_method_13_code 137 = .ok (.iinc 6 1, 3) := by decide +kernel
theorem d_M_number_140 : decode prog_9_method_13_code 140 = .ok (.goto (-24), 3) := by decide +kernel
theorem d_M_number_143 : decode prog_9_method_13_code 143 = .ok (.aload_n 0, 1) := by decide +kernel
theorem d_M_number_144 : decode prog_9_method_13_code 144 = .ok (.invokevirtual 111, 3) := by decide +kernel
theorem d_M_number_147 : decode prog_9_method_13_code 147 = .ok (.ireturn, 1) := by decide +kernel
def m_M_number_58 (G : Nat → Nat) (r34 : Nat → Nat → Int32 → Int32 → Int32 → Int32 → Int32 → hp_H → Option (Int32 × hp_H)) (a0 : Nat) (a1 : Nat) (a2 : Int32) (a3 : Int32) (a4 : Int32) (a6 : Int32) (s0 : Int32) (h : hp_H) : Option (Int32 × hp_H) := hp_nm s0 fun x1 => hp_nm (a6 + 1) fun x2 => r34 a0 a1 a2 a3 a4 x1 x2 h
set_option maxRecDepth 100000 in
set_option maxHeartbeats 4000000 in
theorem j_M_number_58 {Z : hp_Z} (r34 : Nat → Nat → Int32 → Int32 → Int32 → Int32 → Int32 → hp_H → Option (Int32 × hp_H)) (hr34 : ∀ (a0 : Nat) (a1 : Nat) (a2 : Int32) (a3 : Int32) (a4 : Int32) (a5 : Int32) (a6 : Int32) (h : hp_H), hp_J Y_M_number Z hp_rI h 34 [(0, .ref a0), (1, .ref a1), (2, .int a2), (3, .int a3), (4, .int a4), (5, .int a5), (6, .int a6)] [] (r34 a0 a1 a2 a3 a4 a5 a6  h)) (a0 : Nat) (a1 : Nat) (a2 : Int32) (a3 : Int32) (a4 : Int32) (a6 : Int32) (s0 : Int32) (h : hp_H) : hp_J Y_M_number Z hp_rI h 58 [(0, .ref a0), (1, .ref a1), (2, .int a2), (3, .int a3), (4, .int a4), (6, .int a6)] [.int s0] (m_M_number_58 (hp_G Z) r34 a0 a1 a2 a3 a4 a6 s0 h) := by
  unfold m_M_number_58
  refine hp_istore (fun x1 => [(5, .int x1), (0, .ref a0), (1, .ref a1), (2, .int a2), (3, .int a3), (4, .int a4), (6, .int a6)]) d_M_number_58 (by decide) (fun _ => rfl) fun x1 => ?_
  refine hp_iinc (x0 := 6) (d := 1) (fun x2 => [(6, .int x2), (5, .int x1), (0, .ref a0), (1, .ref a1), (2, .int a2), (3, .int a3), (4, .int a4)]) d_M_number_60 rfl (by decide) (by decide) (fun _ => rfl) fun x2 => ?_
  refine hp_goto (tgt := 34) d_M_number_63 (by decide) ?_
  refine hp_sub [2, 3, 4, 5, 6, 1, 0] rfl ?_
  exact hr34 _ _ _ _ _ _ _ _
def m_M_number_53 (G : Nat → Nat) (r34 : Nat → Nat → Int32 → Int32 → Int32 → Int32 → Int32 → hp_H → Option (Int32 × hp_H)) (a0 : Nat) (a1 : Nat) (a2 : Int32) (a3 : Int32) (a4 : Int32) (a6 : Int32) (h : hp_H) : Option (Int32 × hp_H) := m_M_number_58 G r34 a0 a1 a2 a3 a4 a6 (1 : Int32) h
set_option maxRecDepth 100000 in
set_option maxHeartbeats 4000000 in
theorem j_M_number_53 {Z : hp_Z} (r34 : Nat → Nat → Int32 → Int32 → Int32 → Int32 → Int32 → hp_H → Option (Int32 × hp_H)) (hr34 : ∀ (a0 : Nat) (a1 : Nat) (a2 : Int32) (a3 : Int32) (a4 : Int32) (a5 : Int32) (a6 : Int32) (h : hp_H), hp_J Y_M_number Z hp_rI h 34 [(0, .ref a0), (1, .ref a1), (2, .int a2), (3, .int a3), (4, .int a4), (5, .int a5), (6, .int a6)] [] (r34 a0 a1 a2 a3 a4 a5 a6  h)) (a0 : Nat) (a1 : Nat) (a2 : Int32) (a3 : Int32) (a4 : Int32) (a6 : Int32) (h : hp_H) : hp_J Y_M_number Z hp_rI h 53 [(0, .ref a0), (1, .ref a1), (2, .int a2), (3, .int a3), (4, .int a4), (6, .int a6)] [] (m_M_number_53 (hp_G Z) r34 a0 a1 a2 a3 a4 a6 h) := by
  unfold m_M_number_53
  refine hp_iconst (v := 1) d_M_number_53 (by decide) ?_
  refine hp_goto (tgt := 58) d_M_number_54 (by decide) ?_
  exact j_M_number_58 _ hr34 _ _ _ _ _ _ _ _
def m_M_number_116 (G : Nat → Nat) : Nat → Nat → Nat → Int32 → Int32 → hp_H → Option (Int32 × hp_H)
  | 0, _, _, _, _, _ => none
  | n + 1, a0, a1, a4, a6, h => if (18 : Int32) ≤ a6 then ((hp_vck h a0 8 (m_M_keep G a0 h)).bind fun q1 => some (q1.1, q1.2)) else ((hp_gR h a0 8 14).bind fun x2 => (hp_aI h .int a1 (a4 + a6)).bind fun x3 => (hp_sI h .int x2 a6 x3).bind fun h4 => hp_nm (a6 + 1) fun x5 => (m_M_number_116 G  n) a0 a1 a4 x5 h4)
set_option maxRecDepth 100000 in
set_option maxHeartbeats 4000000 in
theorem j_M_number_116 {Z : hp_Z} : ∀ (n : Nat) (a0 : Nat) (a1 : Nat) (a4 : Int32) (a6 : Int32) (h : hp_H), hp_J Y_M_number Z hp_rI h 116 [(0, .ref a0), (1, .ref a1), (4, .int a4), (6, .int a6)] [] (m_M_number_116 (hp_G Z)  n a0 a1 a4 a6 h) := by
  intro n
  induction n with
  | zero => intro a0 a1 a4 a6 h; exact hp_fail
  | succ n ih =>
    intro a0 a1 a4 a6 h
    rw [m_M_number_116]
    refine hp_iload (x0 := 3) d_M_number_116 rfl ?_
    refine hp_bipush (v := 18) d_M_number_118 (by decide) ?_
    refine hp_icmp_ge (tgt := 143) d_M_number_120 (by decide) ?_ ?_
    · refine hp_aload_n (x0 := 0) d_M_number_143 rfl rfl ?_
      refine hp_callI (hp_crV (ci := 8) (t_M_keep _ _ _) cw_M_111 rfl ⟨w_992, ws_41⟩ (by decide) rfl rfl (Nat.le_of_ble_eq_true rfl) d_M_number_144) fun q1 => ?_
      exact hp_iret d_M_number_147 rfl
    · refine hp_aload_n (x0 := 0) d_M_number_123 rfl rfl ?_
      refine hp_getR fl_M_36 d_M_number_124 fun x2 => ?_
      refine hp_iload (x0 := 3) d_M_number_127 rfl ?_
      refine hp_aload_n (x0 := 1) d_M_number_129 rfl rfl ?_
      refine hp_iload (x0 := 2) d_M_number_130 rfl ?_
      refine hp_iload (x0 := 3) d_M_number_132 rfl ?_
      refine hp_iadd d_M_number_134 ?_
      refine hp_iald d_M_number_135 fun x3 => ?_
      refine hp_iast d_M_number_136 fun h4 => ?_
      refine hp_iinc (x0 := 3) (d := 1) (fun x5 => [(6, .int x5), (0, .ref a0), (1, .ref a1), (4, .int a4)]) d_M_number_137 rfl (by decide) (by decide) (fun _ => rfl) fun x5 => ?_
      refine hp_goto (tgt := 116) d_M_number_140 (by decide) ?_
      refine hp_sub [1, 2, 3, 0] rfl ?_
      exact ih _ _ _ _ _
def m_M_number_101 (G : Nat → Nat) (a0 : Nat) (a1 : Nat) (a4 : Int32) (s0 : Int32) (s1 : Nat) (h : hp_H) : Option (Int32 × hp_H) := (hp_p h s1 8 12 (.int s0)).bind fun h1 => (hp_p h1 a0 8 13 (.int ((18 : Int32) - a4))).bind fun h2 => hp_nm (0 : Int32) fun x3 => m_M_number_116 G hp_fu a0 a1 a4 x3 h2
set_option maxRecDepth 100000 in
set_option maxHeartbeats 4000000 in
theorem j_M_number_101 {Z : hp_Z} (a0 : Nat) (a1 : Nat) (a4 : Int32) (s0 : Int32) (s1 : Nat) (h : hp_H) : hp_J Y_M_number Z hp_rI h 101 [(0, .ref a0), (1, .ref a1), (4, .int a4)] [.int s0, .ref s1] (m_M_number_101 (hp_G Z)  a0 a1 a4 s0 s1 h) := by
  unfold m_M_number_101
  refine hp_put fl_M_79 (fun q => by cases q) rfl rfl d_M_number_101 fun h1 => ?_
  refine hp_aload_n (x0 := 0) d_M_number_104 rfl rfl ?_
  refine hp_bipush (v := 18) d_M_number_105 (by decide) ?_
  refine hp_iload (x0 := 2) d_M_number_107 rfl ?_
  refine hp_isub d_M_number_109 ?_
  refine hp_put fl_M_82 (fun q => by cases q) rfl rfl d_M_number_110 fun h2 => ?_
  refine hp_iconst (v := 0) d_M_number_113 (by decide) ?_
  refine hp_istore (fun x3 => [(6, .int x3), (0, .ref a0), (1, .ref a1), (4, .int a4)]) d_M_number_114 (by decide) (fun _ => rfl) fun x3 => ?_
  refine hp_sub [1, 2, 3, 0] rfl ?_
  exact j_M_number_116  hp_fu _ _ _ _ _
def m_M_number_84 (G : Nat → Nat) (a0 : Nat) (a1 : Nat) (a2 : Int32) (a4 : Int32) (s0 : Int32) (s1 : Nat) (h : hp_H) : Option (Int32 × hp_H) := (hp_vck h s1 8 (m_M_start G s1 s0 (0 : Int32) h)).bind fun q1 => (m_M_isZero G a1 q1.2).bind fun q2 => if q2.1 = 0 then (m_M_number_101 G a0 a1 a4 a2 a0 q2.2) else (m_M_number_101 G a0 a1 a4 (0 : Int32) a0 q2.2)
set_option maxRecDepth 100000 in
set_option maxHeartbeats 4000000 in
theorem j_M_number_84 {Z : hp_Z} (a0 : Nat) (a1 : Nat) (a2 : Int32) (a4 : Int32) (s0 : Int32) (s1 : Nat) (h : hp_H) : hp_J Y_M_number Z hp_rI h 84 [(0, .ref a0), (1, .ref a1), (2, .int a2), (4, .int a4)] [.int s0, .ref s1] (m_M_number_84 (hp_G Z)  a0 a1 a2 a4 s0 s1 h) := by
  unfold m_M_number_84
  refine hp_iconst (v := 0) d_M_number_84 (by decide) ?_
  refine hp_callU (hp_crV (ci := 8) (t_M_start _ _ _ _ _) cw_M_103 rfl ⟨w_985, ws_40⟩ (by decide) rfl rfl (Nat.le_of_ble_eq_true rfl) d_M_number_85) fun q1 => ?_
  refine hp_aload_n (x0 := 0) d_M_number_88 rfl rfl ?_
  refine hp_aload_n (x0 := 1) d_M_number_89 rfl rfl ?_
  refine hp_callI (hp_crS (t_M_isZero _ _ _) cw_M_107 w_988 (by decide) rfl rfl (Nat.le_of_ble_eq_true rfl) d_M_number_90) fun q2 => ?_
  refine hp_if_eq (tgt := 100) d_M_number_93 (by decide) ?_ ?_
  · refine hp_iload_n (x0 := 2) d_M_number_100 rfl rfl ?_
    refine hp_sub [0, 1, 3] rfl ?_
    exact j_M_number_101  _ _ _ _ _ _
  · refine hp_iconst (v := 0) d_M_number_96 (by decide) ?_
    refine hp_goto (tgt := 101) d_M_number_97 (by decide) ?_
    refine hp_sub [0, 1, 3] rfl ?_
    exact j_M_number_101  _ _ _ _ _ _
def m_M_number_34 (G : Nat → Nat) : Nat → Nat → Nat → Int32 → Int32 → Int32 → Int32 → Int32 → hp_H → Option (Int32 × hp_H)
  | 0, _, _, _, _, _, _, _, _ => none
  | n + 1, a0, a1, a2, a3, a4, a5, a6, h => if (64 : Int32) ≤ a6 then (if a5 = 0 then (if a3 = 0 then (m_M_number_84 G a0 a1 a2 a4 (4 : Int32) a0 h) else (m_M_number_84 G a0 a1 a2 a4 (3 : Int32) a0 h)) else (some ((-4 : Int32), h))) else (if a5 = 0 then ((hp_aI h .int a1 a6).bind fun x1 => if x1 = 0 then (m_M_number_58 G (m_M_number_34 G  n) a0 a1 a2 a3 a4 a6 (0 : Int32) h) else (m_M_number_53 G (m_M_number_34 G  n) a0 a1 a2 a3 a4 a6 h)) else (m_M_number_53 G (m_M_number_34 G  n) a0 a1 a2 a3 a4 a6 h))
set_option maxRecDepth 100000 in
set_option maxHeartbeats 4000000 in
theorem j_M_number_34 {Z : hp_Z} : ∀ (n : Nat) (a0 : Nat) (a1 : Nat) (a2 : Int32) (a3 : Int32) (a4 : Int32) (a5 : Int32) (a6 : Int32) (h : hp_H), hp_J Y_M_number Z hp_rI h 34 [(0, .ref a0), (1, .ref a1), (2, .int a2), (3, .int a3), (4, .int a4), (5, .int a5), (6, .int a6)] [] (m_M_number_34 (hp_G Z)  n a0 a1 a2 a3 a4 a5 a6 h) := by
  intro n
  induction n with
  | zero => intro a0 a1 a2 a3 a4 a5 a6 h; exact hp_fail
  | succ n ih =>
    intro a0 a1 a2 a3 a4 a5 a6 h
    rw [m_M_number_34]
    refine hp_iload (x0 := 6) d_M_number_34 rfl ?_
    refine hp_bipush (v := 64) d_M_number_36 (by decide) ?_
    refine hp_icmp_ge (tgt := 66) d_M_number_38 (by decide) ?_ ?_
    · refine hp_iload (x0 := 5) d_M_number_66 rfl ?_
      refine hp_if_eq (tgt := 74) d_M_number_68 (by decide) ?_ ?_
      · refine hp_aload_n (x0 := 0) d_M_number_74 rfl rfl ?_
        refine hp_iload_n (x0 := 3) d_M_number_75 rfl rfl ?_
        refine hp_if_eq (tgt := 83) d_M_number_76 (by decide) ?_ ?_
        · refine hp_iconst (v := 4) d_M_number_83 (by decide) ?_
          refine hp_sub [0, 1, 2, 4] rfl ?_
          exact j_M_number_84  _ _ _ _ _ _ _
        · refine hp_iconst (v := 3) d_M_number_79 (by decide) ?_
          refine hp_goto (tgt := 84) d_M_number_80 (by decide) ?_
          refine hp_sub [0, 1, 2, 4] rfl ?_
          exact j_M_number_84  _ _ _ _ _ _ _
      · refine hp_bipush (v := -4) d_M_number_71 (by decide) ?_
        exact hp_iret d_M_number_73 rfl
    · refine hp_iload (x0 := 5) d_M_number_41 rfl ?_
      refine hp_if_ne (tgt := 53) d_M_number_43 (by decide) ?_ ?_
      · refine hp_aload_n (x0 := 1) d_M_number_46 rfl rfl ?_
        refine hp_iload (x0 := 6) d_M_number_47 rfl ?_
        refine hp_iald d_M_number_49 fun x1 => ?_
        refine hp_if_eq (tgt := 57) d_M_number_50 (by decide) ?_ ?_
        · refine hp_iconst (v := 0) d_M_number_57 (by decide) ?_
          refine hp_sub [0, 1, 2, 3, 4, 6] rfl ?_
          exact j_M_number_58 _ ih _ _ _ _ _ _ _ _
        · refine hp_sub [0, 1, 2, 3, 4, 6] rfl ?_
          exact j_M_number_53 _ ih _ _ _ _ _ _ _
      · refine hp_sub [0, 1, 2, 3, 4, 6] rfl ?_
        exact j_M_number_53 _ ih _ _ _ _ _ _ _
def m_M_number_24 (G : Nat → Nat) (a0 : Nat) (a1 : Nat) (a2 : Int32) (a3 : Int32) (a4 : Int32) (h : hp_H) : Option (Int32 × hp_H) := hp_nm (0 : Int32) fun x1 => hp_nm (a4 + (18 : Int32)) fun x2 => m_M_number_34 G hp_fu a0 a1 a2 a3 a4 x1 x2 h
set_option maxRecDepth 100000 in
set_option maxHeartbeats 4000000 in
theorem j_M_number_24 {Z : hp_Z} (a0 : Nat) (a1 : Nat) (a2 : Int32) (a3 : Int32) (a4 : Int32) (h : hp_H) : hp_J Y_M_number Z hp_rI h 24 [(0, .ref a0), (1, .ref a1), (2, .int a2), (3, .int a3), (4, .int a4)] [] (m_M_number_24 (hp_G Z)  a0 a1 a2 a3 a4 h) := by
  unfold m_M_number_24
  refine hp_iconst (v := 0) d_M_number_24 (by decide) ?_
  refine hp_istore (fun x1 => [(5, .int x1), (0, .ref a0), (1, .ref a1), (2, .int a2), (3, .int a3), (4, .int a4)]) d_M_number_25 (by decide) (fun _ => rfl) fun x1 => ?_
  refine hp_iload (x0 := 5) d_M_number_27 rfl ?_
  refine hp_bipush (v := 18) d_M_number_29 (by decide) ?_
  refine hp_iadd d_M_number_31 ?_
  refine hp_istore (fun x2 => [(6, .int x2), (5, .int x1), (0, .ref a0), (1, .ref a1), (2, .int a2), (3, .int a3), (4, .int a4)]) d_M_number_32 (by decide) (fun _ => rfl) fun x2 => ?_
  refine hp_sub [2, 3, 4, 5, 6, 1, 0] rfl ?_
  exact j_M_number_34  hp_fu _ _ _ _ _ _ _ _
def m_M_number_4 (G : Nat → Nat) : Nat → Nat → Nat → Int32 → Int32 → Int32 → hp_H → Option (Int32 × hp_H)
  | 0, _, _, _, _, _, _ => none
  | n + 1, a0, a1, a2, a3, a4, h => if (18 : Int32) ≤ a4 then (m_M_number_24 G a0 a1 a2 a3 a4 h) else ((hp_aI h .int a1 a4).bind fun x1 => if x1 = 0 then (hp_nm (a4 + 1) fun x2 => (m_M_number_4 G  n) a0 a1 a2 a3 x2 h) else (m_M_number_24 G a0 a1 a2 a3 a4 h))
set_option maxRecDepth 100000 in
set_option maxHeartbeats 4000000 in
theorem j_M_number_4 {Z : hp_Z} : ∀ (n : Nat) (a0 : Nat) (a1 : Nat) (a2 : Int32) (a3 : Int32) (a4 : Int32) (h : hp_H), hp_J Y_M_number Z hp_rI h 4 [(0, .ref a0), (1, .ref a1), (2, .int a2), (3, .int a3), (4, .int a4)] [] (m_M_number_4 (hp_G Z)  n a0 a1 a2 a3 a4 h) := by
  intro n
  induction n with
  | zero => intro a0 a1 a2 a3 a4 h; exact hp_fail
  | succ n ih =>
    intro a0 a1 a2 a3 a4 h
    rw [m_M_number_4]
    refine hp_iload (x0 := 4) d_M_number_4 rfl ?_
    refine hp_bipush (v := 18) d_M_number_6 (by decide) ?_
    refine hp_icmp_ge (tgt := 24) d_M_number_8 (by decide) ?_ ?_
    · exact j_M_number_24  _ _ _ _ _ _
    · refine hp_aload_n (x0 := 1) d_M_number_11 rfl rfl ?_
      refine hp_iload (x0 := 4) d_M_number_12 rfl ?_
      refine hp_iald d_M_number_14 fun x1 => ?_
      refine hp_if_ne (tgt := 24) d_M_number_15 (by decide) ?_ ?_
      · refine hp_iinc (x0 := 4) (d := 1) (fun x2 => [(4, .int x2), (0, .ref a0), (1, .ref a1), (2, .int a2), (3, .int a3)]) d_M_number_18 rfl (by decide) (by decide) (fun _ => rfl) fun x2 => ?_
        refine hp_goto (tgt := 4) d_M_number_21 (by decide) ?_
        refine hp_sub [1, 2, 3, 4, 0] rfl ?_
        exact ih _ _ _ _ _ _
      · exact j_M_number_24  _ _ _ _ _ _
def m_M_number (G : Nat → Nat) (a0 : Nat) (a1 : Nat) (a2 : Int32) (a3 : Int32) (h : hp_H) : Option (Int32 × hp_H) := hp_nm (9 : Int32) fun x1 => m_M_number_4 G hp_fu a0 a1 a2 a3 x1 h
set_option maxRecDepth 100000 in
set_option maxHeartbeats 4000000 in
theorem j_M_number_0 {Z : hp_Z} (a0 : Nat) (a1 : Nat) (a2 : Int32) (a3 : Int32) (h : hp_H) : hp_J Y_M_number Z hp_rI h 0 [(0, .ref a0), (1, .ref a1), (2, .int a2), (3, .int a3)] [] (m_M_number (hp_G Z)  a0 a1 a2 a3 h) := by
  unfold m_M_number
  refine hp_bipush (v := 9) d_M_number_0 (by decide) ?_
  refine hp_istore (fun x1 => [(4, .int x1), (0, .ref a0), (1, .ref a1), (2, .int a2), (3, .int a3)]) d_M_number_2 (by decide) (fun _ => rfl) fun x1 => ?_
  refine hp_sub [1, 2, 3, 4, 0] rfl ?_
  exact j_M_number_4  hp_fu _ _ _ _ _ _
theorem t_M_number (l : Launch) (E : hp_E) (a0 : Nat) (a1 : Nat) (a2 : Int32) (a3 : Int32) : hp_M l E y_M_number Y_M_number hp_rI [.ref a0, .ref a1, .int a2, .int a3] (m_M_number E.2.2.1 a0 a1 a2 a3) := hp_M.of (plainFor_of_name (by decide)) ⟨rfl, rfl⟩ (Nat.le_of_ble_eq_true rfl) (fun Z h hE => by subst hE; exact j_M_number_0 _ _ _ _ h)
-- M_numbered
theorem d_M_numbered_0 : decode prog_9_method_22_code 0 = .ok (.aload_n 0, 1) := by decide +kernel
theorem d_M_numbered_1 : decode prog_9_method_22_code 1 = .ok (.getfield 42, 3) := by decide +kernel
theorem d_M_numbered_4 : decode prog_9_method_22_code 4 = .ok (.invokestatic 95, 3) := by decide +kernel
theorem d_M_numbered_7 : decode prog_9_method_22_code 7 = .ok (.lload_n 1, 1) := by decide +kernel
theorem d_M_numbered_8 : decode prog_9_method_22_code 8 = .ok (.lconst 0, 1) := by decide +kernel
theorem d_M_numbered_9 : decode prog_9_method_22_code 9 = .ok (.lcmp, 1) := by decide +kernel
theorem d_M_numbered_10 : decode prog_9_method_22_code 10 = .ok (.ifCond .ge 8, 3) := by decide +kernel
theorem d_M_numbered_13 : decode prog_9_method_22_code 13 = .ok (.lload_n 1, 1) := by decide +kernel
theorem d_M_numbered_14 : decode prog_9_method_22_code 14 = .ok (.lneg, 1) := by decide +kernel
theorem d_M_numbered_15 : decode prog_9_method_22_code 15 = .ok (.goto 4, 3) := by decide +kernel
theorem d_M_numbered_18 : decode prog_9_method_22_code 18 = .ok (.lload_n 1, 1) := by decide +kernel
theorem d_M_numbered_19 : decode prog_9_method_22_code 19 = .ok (.lstore 5, 2) := by decide +kernel
theorem d_M_numbered_21 : decode prog_9_method_22_code 21 = .ok (.iconst 0, 1) := by decide +kernel
theorem d_M_numbered_22 : decode prog_9_method_22_code 22 = .ok (.istore 7, 2) := by decide +kernel
theorem d_M_numbered_24 : decode prog_9_method_22_code 24 = .ok (.iload 7, 2) := by decide +kernel
theorem d_M_numbered_26 : decode prog_9_method_22_code 26 = .ok (.bipush 18, 2) := by decide +kernel
theorem d_M_numbered_28 : decode prog_9_method_22_code 28 = .ok (.if_icmp .ge 36, 3) := by decide +kernel
theorem d_M_numbered_31 : decode prog_9_method_22_code 31 = .ok (.aload_n 0, 1) := by decide +kernel
theorem d_M_numbered_32 : decode prog_9_method_22_code 32 = .ok (.getfield 42, 3) := by decide +kernel
theorem d_M_numbered_35 : decode prog_9_method_22_code 35 = .ok (.bipush 18, 2) := by decide +kernel
theorem d_M_numbered_37 : decode prog_9_method_22_code 37 = .ok (.iload_n 3, 1) := by decide +kernel
theorem d_M_numbered_38 : decode prog_9_method_22_code 38 = .ok (.isub, 1) := by decide +kernel
theorem d_M_numbered_39 : decode prog_9_method_22_code 39 = .ok (.iload 7, 2) := by decide +kernel
theorem d_M_numbered_41 : decode prog_9_method_22_code 41 = .ok (.iadd, 1) := by decide +kernel
theorem d_M_numbered_42 : decode prog_9_method_22_code 42 = .ok (.lload 5, 2) := by decide +kernel
theorem d_M_numbered_44 : decode prog_9_method_22_code 44 = .ok (.ldc2_w 138, 3) := by decide +kernel
theorem d_M_numbered_47 : decode prog_9_method_22_code 47 = .ok (.lrem, 1) := by decide +kernel
theorem d_M_numbered_48 : decode prog_9_method_22_code 48 = .ok (.l2i, 1) := by decide +kernel
theorem d_M_numbered_49 : decode prog_9_method_22_code 49 = .ok (.iastore, 1) := by decide +kernel
theorem d_M_numbered_50 : decode prog_9_method_22_code 50 = .ok (.lload 5, 2) := by decide +kernel
theorem d_M_numbered_52 : decode prog_9_method_22_code 52 = .ok (.ldc2_w 138, 3) := by decide +kernel
theorem d_M_numbered_55 : decode prog_9_method_22_code 55 = .ok (.ldiv, 1) := by decide +kernel
theorem d_M_numbered_56 : decode prog_9_method_22_code 56 = .ok (.lstore 5, 2) := by decide +kernel
theorem d_M_numbered_58 : decode prog_9_method_22_code 58 = .ok (.iinc 7 1, 3) := by decide +kernel
theorem d_M_numbered_61 : decode prog_9_method_22_code 61 = .ok (.goto (-37), 3) := by decide +kernel
theorem d_M_numbered_64 : decode prog_9_method_22_code 64 = .ok (.aload_n 0, 1) := by decide +kernel
theorem d_M_numbered_65 : decode prog_9_method_22_code 65 = .ok (.aload_n 0, 1) := by decide +kernel
theorem d_M_numbered_66 : decode prog_9_method_22_code 66 = .ok (.getfield 42, 3) := by decide +kernel
theorem d_M_numbered_69 : decode prog_9_method_22_code 69 = .ok (.lload_n 1, 1) := by decide +kernel
theorem d_M_numbered_70 : decode prog_9_method_22_code 70 = .ok (.lconst 0, 1) := by decide +kernel
theorem d_M_numbered_71 : decode prog_9_method_22_code 71 = .ok (.lcmp, 1) := by decide +kernel
theorem d_M_numbered_72 : decode prog_9_method_22_code 72 = .ok (.ifCond .ge 7, 3) := by decide +kernel
theorem d_M_numbered_75 : decode prog_9_method_22_code 75 = .ok (.iconst (-1), 1) := by decide +kernel
theorem d_M_numbered_76 : decode prog_9_method_22_code 76 = .ok (.goto 4, 3) := by decide +kernel
theorem d_M_numbered_79 : decode prog_9_method_22_code 79 = .ok (.iconst 1, 1) := by decide +kernel
theorem d_M_numbered_80 : decode prog_9_method_22_code 80 = .ok (.iload 4, 2) := by decide +kernel
theorem d_M_numbered_82 : decode prog_9_method_22_code 82 = .ok (.invokevirtual 127, 3) := by decide +kernel
theorem d_M_numbered_85 : decode prog_9_method_22_code 85 = .ok (.ireturn, 1) := by decide +kernel
def m_M_numbered_80 (G : Nat → Nat) (a4 : Int32) (s0 : Int32) (s1 : Nat) (s2 : Nat) (h : hp_H) : Option (Int32 × hp_H) := (hp_vck h s2 8 (m_M_number G s2 s1 s0 a4 h)).bind fun q1 => some (q1.1, q1.2)
set_option maxRecDepth 100000 in
set_option maxHeartbeats 4000000 in
theorem j_M_numbered_80 {Z : hp_Z} (a4 : Int32) (s0 : Int32) (s1 : Nat) (s2 : Nat) (h : hp_H) : hp_J Y_M_numbered Z hp_rI h 80 [(4, .int a4)] [.int s0, .ref s1, .ref s2] (m_M_numbered_80 (hp_G Z)  a4 s0 s1 s2 h) := by
  unfold m_M_numbered_80
  refine hp_iload (x0 := 0) d_M_numbered_80 rfl ?_
  refine hp_callI (hp_crV (ci := 8) (t_M_number _ _ _ _ _ _) cw_M_127 rfl ⟨w_981, ws_39⟩ (by decide) rfl rfl (Nat.le_of_ble_eq_true rfl) d_M_numbered_82) fun q1 => ?_
  exact hp_iret d_M_numbered_85 rfl
def m_M_numbered_24 (G : Nat → Nat) : Nat → Nat → Int64 → Int32 → Int32 → Int64 → Int32 → hp_H → Option (Int32 × hp_H)
  | 0, _, _, _, _, _, _, _ => none
  | n + 1, a0, a1, a3, a4, a5, a7, h => if (18 : Int32) ≤ a7 then ((hp_gR h a0 8 17).bind fun x1 => if 0 ≤ (lg_cmp a1 (0 : Int64)) then (m_M_numbered_80 G a4 (1 : Int32) x1 a0 h) else (m_M_numbered_80 G a4 (-1 : Int32) x1 a0 h)) else ((hp_gR h a0 8 17).bind fun x2 => (hp_mL a5 (10 : Int64)).bind fun x3 => (hp_sI h .int x2 (((18 : Int32) - a3) + a7) x3.toInt32).bind fun h4 => (hp_dL a5 (10 : Int64)).bind fun x5 => hp_nm x5 fun x6 => hp_nm (a7 + 1) fun x7 => (m_M_numbered_24 G  n) a0 a1 a3 a4 x6 x7 h4)
set_option maxRecDepth 100000 in
set_option maxHeartbeats 4000000 in
theorem j_M_numbered_24 {Z : hp_Z} : ∀ (n : Nat) (a0 : Nat) (a1 : Int64) (a3 : Int32) (a4 : Int32) (a5 : Int64) (a7 : Int32) (h : hp_H), hp_J Y_M_numbered Z hp_rI h 24 [(0, .ref a0), (1, .long a1), (3, .int a3), (4, .int a4), (5, .long a5), (7, .int a7)] [] (m_M_numbered_24 (hp_G Z)  n a0 a1 a3 a4 a5 a7 h) := by
  intro n
  induction n with
  | zero => intro a0 a1 a3 a4 a5 a7 h; exact hp_fail
  | succ n ih =>
    intro a0 a1 a3 a4 a5 a7 h
    rw [m_M_numbered_24]
    refine hp_iload (x0 := 5) d_M_numbered_24 rfl ?_
    refine hp_bipush (v := 18) d_M_numbered_26 (by decide) ?_
    refine hp_icmp_ge (tgt := 64) d_M_numbered_28 (by decide) ?_ ?_
    · refine hp_aload_n (x0 := 0) d_M_numbered_64 rfl rfl ?_
      refine hp_aload_n (x0 := 0) d_M_numbered_65 rfl rfl ?_
      refine hp_getR fl_M_42 d_M_numbered_66 fun x1 => ?_
      refine hp_lload_n (x0 := 1) d_M_numbered_69 rfl rfl ?_
      refine hp_lconst (v := 0) d_M_numbered_70 (by decide) ?_
      refine hp_lcmp d_M_numbered_71 ?_
      refine hp_if_ge (tgt := 79) d_M_numbered_72 (by decide) ?_ ?_
      · refine hp_iconst (v := 1) d_M_numbered_79 (by decide) ?_
        refine hp_sub [3] rfl ?_
        exact j_M_numbered_80  _ _ _ _ _
      · refine hp_iconst (v := -1) d_M_numbered_75 (by decide) ?_
        refine hp_goto (tgt := 80) d_M_numbered_76 (by decide) ?_
        refine hp_sub [3] rfl ?_
        exact j_M_numbered_80  _ _ _ _ _
    · refine hp_aload_n (x0 := 0) d_M_numbered_31 rfl rfl ?_
      refine hp_getR fl_M_42 d_M_numbered_32 fun x2 => ?_
      refine hp_bipush (v := 18) d_M_numbered_35 (by decide) ?_
      refine hp_iload_n (x0 := 2) d_M_numbered_37 rfl rfl ?_
      refine hp_isub d_M_numbered_38 ?_
      refine hp_iload (x0 := 5) d_M_numbered_39 rfl ?_
      refine hp_iadd d_M_numbered_41 ?_
      refine hp_lload (x0 := 4) d_M_numbered_42 rfl ?_
      refine hp_ldc2 (v := 10) d_M_numbered_44 w_978 ?_
      refine hp_lrem d_M_numbered_47 fun x3 => ?_
      refine hp_l2i d_M_numbered_48 ?_
      refine hp_iast d_M_numbered_49 fun h4 => ?_
      refine hp_lload (x0 := 4) d_M_numbered_50 rfl ?_
      refine hp_ldc2 (v := 10) d_M_numbered_52 w_978 ?_
      refine hp_ldiv d_M_numbered_55 fun x5 => ?_
      refine hp_lstore (fun x6 => [(5, .long x6), (0, .ref a0), (1, .long a1), (3, .int a3), (4, .int a4), (7, .int a7)]) d_M_numbered_56 (by decide) (fun _ => rfl) fun x6 => ?_
      refine hp_iinc (x0 := 5) (d := 1) (fun x7 => [(7, .int x7), (5, .long x6), (0, .ref a0), (1, .long a1), (3, .int a3), (4, .int a4)]) d_M_numbered_58 rfl (by decide) (by decide) (fun _ => rfl) fun x7 => ?_
      refine hp_goto (tgt := 24) d_M_numbered_61 (by decide) ?_
      refine hp_sub [2, 3, 4, 5, 1, 0] rfl ?_
      exact ih _ _ _ _ _ _ _
def m_M_numbered_19 (G : Nat → Nat) (a0 : Nat) (a1 : Int64) (a3 : Int32) (a4 : Int32) (s0 : Int64) (h : hp_H) : Option (Int32 × hp_H) := hp_nm s0 fun x1 => hp_nm (0 : Int32) fun x2 => m_M_numbered_24 G hp_fu a0 a1 a3 a4 x1 x2 h
set_option maxRecDepth 100000 in
set_option maxHeartbeats 4000000 in
theorem j_M_numbered_19 {Z : hp_Z} (a0 : Nat) (a1 : Int64) (a3 : Int32) (a4 : Int32) (s0 : Int64) (h : hp_H) : hp_J Y_M_numbered Z hp_rI h 19 [(0, .ref a0), (1, .long a1), (3, .int a3), (4, .int a4)] [.long s0] (m_M_numbered_19 (hp_G Z)  a0 a1 a3 a4 s0 h) := by
  unfold m_M_numbered_19
  refine hp_lstore (fun x1 => [(5, .long x1), (0, .ref a0), (1, .long a1), (3, .int a3), (4, .int a4)]) d_M_numbered_19 (by decide) (fun _ => rfl) fun x1 => ?_
  refine hp_iconst (v := 0) d_M_numbered_21 (by decide) ?_
  refine hp_istore (fun x2 => [(7, .int x2), (5, .long x1), (0, .ref a0), (1, .long a1), (3, .int a3), (4, .int a4)]) d_M_numbered_22 (by decide) (fun _ => rfl) fun x2 => ?_
  refine hp_sub [2, 3, 4, 5, 1, 0] rfl ?_
  exact j_M_numbered_24  hp_fu _ _ _ _ _ _ _
def m_M_numbered (G : Nat → Nat) (a0 : Nat) (a1 : Int64) (a3 : Int32) (a4 : Int32) (h : hp_H) : Option (Int32 × hp_H) := (hp_gR h a0 8 17).bind fun x1 => (m_M_clear G x1 h).bind fun q2 => if 0 ≤ (lg_cmp a1 (0 : Int64)) then (m_M_numbered_19 G a0 a1 a3 a4 a1 q2.2) else (m_M_numbered_19 G a0 a1 a3 a4 (-a1) q2.2)
set_option maxRecDepth 100000 in
set_option maxHeartbeats 4000000 in
theorem j_M_numbered_0 {Z : hp_Z} (a0 : Nat) (a1 : Int64) (a3 : Int32) (a4 : Int32) (h : hp_H) : hp_J Y_M_numbered Z hp_rI h 0 [(0, .ref a0), (1, .long a1), (3, .int a3), (4, .int a4)] [] (m_M_numbered (hp_G Z)  a0 a1 a3 a4 h) := by
  unfold m_M_numbered
  refine hp_aload_n (x0 := 0) d_M_numbered_0 rfl rfl ?_
  refine hp_getR fl_M_42 d_M_numbered_1 fun x1 => ?_
  refine hp_callU (hp_crS (t_M_clear _ _ _) cw_M_95 w_976 (by decide) rfl rfl (Nat.le_of_ble_eq_true rfl) d_M_numbered_4) fun q2 => ?_
  refine hp_lload_n (x0 := 1) d_M_numbered_7 rfl rfl ?_
  refine hp_lconst (v := 0) d_M_numbered_8 (by decide) ?_
  refine hp_lcmp d_M_numbered_9 ?_
  refine hp_if_ge (tgt := 18) d_M_numbered_10 (by decide) ?_ ?_
  · refine hp_lload_n (x0 := 1) d_M_numbered_18 rfl rfl ?_
    exact j_M_numbered_19  _ _ _ _ _ _
  · refine hp_lload_n (x0 := 1) d_M_numbered_13 rfl rfl ?_
    refine hp_lneg d_M_numbered_14 ?_
    refine hp_goto (tgt := 19) d_M_numbered_15 (by decide) ?_
    exact j_M_numbered_19  _ _ _ _ _ _
theorem t_M_numbered (l : Launch) (E : hp_E) (a0 : Nat) (a1 : Int64) (a3 : Int32) (a4 : Int32) : hp_M l E y_M_numbered Y_M_numbered hp_rI [.ref a0, .long a1, .int a3, .int a4] (m_M_numbered E.2.2.1 a0 a1 a3 a4) := hp_M.of (plainFor_of_name (by decide)) ⟨rfl, rfl⟩ (Nat.le_of_ble_eq_true rfl) (fun Z h hE => by subst hE; exact j_M_numbered_0 _ _ _ _ h)
-- M_whole
theorem d_M_whole_0 : decode prog_9_method_25_code 0 = .ok (.lload_n 1, 1) := by decide +kernel
theorem d_M_whole_1 : decode prog_9_method_25_code 1 = .ok (.invokestatic 149, 3) := by decide +kernel
theorem d_M_whole_4 : decode prog_9_method_25_code 4 = .ok (.ifCond .eq 7, 3) := by decide +kernel
theorem d_M_whole_7 : decode prog_9_method_25_code 7 = .ok (.iconst (-1), 1) := by decide +kernel
theorem d_M_whole_8 : decode prog_9_method_25_code 8 = .ok (.goto 10, 3) := by decide +kernel
theorem d_M_whole_11 : decode prog_9_method_25_code 11 = .ok (.aload_n 0, 1) := by decide +kernel
theorem d_M_whole_12 : decode prog_9_method_25_code 12 = .ok (.lload_n 1, 1) := by decide +kernel
theorem d_M_whole_13 : decode prog_9_method_25_code 13 = .ok (.iconst 0, 1) := by decide +kernel
theorem d_M_whole_14 : decode prog_9_method_25_code 14 = .ok (.iconst 1, 1) := by decide +kernel
theorem d_M_whole_15 : decode prog_9_method_25_code 15 = .ok (.invokevirtual 153, 3) := by decide +kernel
theorem d_M_whole_18 : decode prog_9_method_25_code 18 = .ok (.ireturn, 1) := by decide +kernel
def m_M_whole_18 (G : Nat → Nat) (s0 : Int32) (h : hp_H) : Option (Int32 × hp_H) := some (s0, h)
set_option maxRecDepth 100000 in
set_option maxHeartbeats 4000000 in
theorem j_M_whole_18 {Z : hp_Z} (s0 : Int32) (h : hp_H) : hp_J Y_M_whole Z hp_rI h 18 [] [.int s0] (m_M_whole_18 (hp_G Z)  s0 h) := by
  unfold m_M_whole_18
  exact hp_iret d_M_whole_18 rfl
def m_M_whole (G : Nat → Nat) (a0 : Nat) (a1 : Int64) (h : hp_H) : Option (Int32 × hp_H) := (m_M_isFar G a1 h).bind fun q1 => if q1.1 = 0 then ((hp_vck q1.2 a0 8 (m_M_numbered G a0 a1 (0 : Int32) (1 : Int32) q1.2)).bind fun q2 => m_M_whole_18 G q2.1 q2.2) else (m_M_whole_18 G (-1 : Int32) q1.2)
set_option maxRecDepth 100000 in
set_option maxHeartbeats 4000000 in
theorem j_M_whole_0 {Z : hp_Z} (a0 : Nat) (a1 : Int64) (h : hp_H) : hp_J Y_M_whole Z hp_rI h 0 [(0, .ref a0), (1, .long a1)] [] (m_M_whole (hp_G Z)  a0 a1 h) := by
  unfold m_M_whole
  refine hp_lload_n (x0 := 1) d_M_whole_0 rfl rfl ?_
  refine hp_callI (hp_crS (t_M_isFar _ _ _) cw_M_149 w_967 (by decide) rfl rfl (Nat.le_of_ble_eq_true rfl) d_M_whole_1) fun q1 => ?_
  refine hp_if_eq (tgt := 11) d_M_whole_4 (by decide) ?_ ?_
  · refine hp_aload_n (x0 := 0) d_M_whole_11 rfl rfl ?_
    refine hp_lload_n (x0 := 1) d_M_whole_12 rfl rfl ?_
    refine hp_iconst (v := 0) d_M_whole_13 (by decide) ?_
    refine hp_iconst (v := 1) d_M_whole_14 (by decide) ?_
    refine hp_callI (hp_crV (ci := 8) (t_M_numbered _ _ _ _ _ _) cw_M_153 rfl ⟨w_973, ws_38⟩ (by decide) rfl rfl (Nat.le_of_ble_eq_true rfl) d_M_whole_15) fun q2 => ?_
    refine hp_sub [] rfl ?_
    exact j_M_whole_18  _ _
  · refine hp_iconst (v := -1) d_M_whole_7 (by decide) ?_
    refine hp_goto (tgt := 18) d_M_whole_8 (by decide) ?_
    refine hp_sub [] rfl ?_
    exact j_M_whole_18  _ _
theorem t_M_whole (l : Launch) (E : hp_E) (a0 : Nat) (a1 : Int64) : hp_M l E y_M_whole Y_M_whole hp_rI [.ref a0, .long a1] (m_M_whole E.2.2.1 a0 a1) := hp_M.of (plainFor_of_name (by decide)) ⟨rfl, rfl⟩ (Nat.le_of_ble_eq_true rfl) (fun Z h hE => by subst hE; exact j_M_whole_0 _ _ h)
