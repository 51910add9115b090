-- M_compare
theorem d_M_compare_0 : decode prog_9_method_8_code 0 = .ok (.bipush 63, 2) := by decide +kernel
theorem d_M_compare_2 : decode prog_9_method_8_code 2 = .ok (.istore_n 2, 1) := by decide +kernel
theorem d_M_compare_3 : decode prog_9_method_8_code 3 = .ok (.iload_n 2, 1) := by decide +kernel
theorem d_M_compare_4 : decode prog_9_method_8_code 4 = .ok (.ifCond .lt 18, 3) := by decide +kernel
theorem d_M_compare_7 : decode prog_9_method_8_code 7 = .ok (.aload_n 0, 1) := by decide +kernel
theorem d_M_compare_8 : decode prog_9_method_8_code 8 = .ok (.iload_n 2, 1) := by decide +kernel
theorem d_M_compare_9 : decode prog_9_method_8_code 9 = .ok (.iaload, 1) := by decide +kernel
theorem d_M_compare_10 : decode prog_9_method_8_code 10 = .ok (.aload_n 1, 1) := by decide +kernel
theorem d_M_compare_11 : decode prog_9_method_8_code 11 = .ok (.iload_n 2, 1) := by decide +kernel
theorem d_M_compare_12 : decode prog_9_method_8_code 12 = .ok (.iaload, 1) := by decide +kernel
theorem d_M_compare_13 : decode prog_9_method_8_code 13 = .ok (.if_icmp .ne 9, 3) := by decide +kernel
theorem d_M_compare_16 : decode prog_9_method_8_code 16 = .ok (.iinc 2 (-1), 3) := by decide +kernel
theorem d_M_compare_19 : decode prog_9_method_8_code 19 = .ok (.goto (-16), 3) := by decide +kernel
theorem d_M_compare_22 : decode prog_9_method_8_code 22 = .ok (.iload_n 2, 1) := by decide +kernel
theorem d_M_compare_23 : decode prog_9_method_8_code 23 = .ok (.ifCond .ge 7, 3) := by decide +kernel
theorem d_M_compare_26 : decode prog_9_method_8_code 26 = .ok (.iconst 0, 1) := by decide +kernel
theorem d_M_compare_27 : decode prog_9_method_8_code 27 = .ok (.goto 17, 3) := by decide +kernel
theorem d_M_compare_30 : decode prog_9_method_8_code 30 = .ok (.aload_n 0, 1) := by decide +kernel
theorem d_M_compare_31 : decode prog_9_method_8_code 31 = .ok (.iload_n 2, 1) := by decide +kernel
theorem d_M_compare_32 : decode prog_9_method_8_code 32 = .ok (.iaload, 1) := by decide +kernel
theorem d_M_compare_33 : decode prog_9_method_8_code 33 = .ok (.aload_n 1, 1) := by decide +kernel
theorem d_M_compare_34 : decode prog_9_method_8_code 34 = .ok (.iload_n 2, 1) := by decide +kernel
theorem d_M_compare_35 : decode prog_9_method_8_code 35 = .ok (.iaload, 1) := by decide +kernel
theorem d_M_compare_36 : decode prog_9_method_8_code 36 = .ok (.if_icmp .ge 7, 3) := by decide +kernel
theorem d_M_compare_39 : decode prog_9_method_8_code 39 = .ok (.iconst (-1), 1) := by decide +kernel
theorem d_M_compare_40 : decode prog_9_method_8_code 40 = .ok (.goto 4, 3) := by decide +kernel
theorem d_M_compare_43 : decode prog_9_method_8_code 43 = .ok (.iconst 1, 1) := by decide +kernel
theorem d_M_compare_44 : decode prog_9_method_8_code 44 = .ok (.ireturn, 1) := by decide +kernel
def m_M_compare_44 (G : Nat → Nat) (s0 : Int32) (h : hp_H) : Option (Int32 × hp_H) := some (s0, h)
set_option maxRecDepth 100000 in
set_option maxHeartbeats 4000000 in
theorem j_M_compare_44 {Z : hp_Z} (s0 : Int32) (h : hp_H) : hp_J Y_M_compare Z hp_rI h 44 [] [.int s0] (m_M_compare_44 (hp_G Z)  s0 h) := by
  unfold m_M_compare_44
  exact hp_iret d_M_compare_44 rfl
def m_M_compare_22 (G : Nat → Nat) (a0 : Nat) (a1 : Nat) (a2 : Int32) (h : hp_H) : Option (Int32 × hp_H) := if 0 ≤ a2 then ((hp_aI h .int a0 a2).bind fun x1 => (hp_aI h .int a1 a2).bind fun x2 => if x2 ≤ x1 then (m_M_compare_44 G (1 : Int32) h) else (m_M_compare_44 G (-1 : Int32) h)) else (m_M_compare_44 G (0 : Int32) h)
set_option maxRecDepth 100000 in
set_option maxHeartbeats 4000000 in
theorem j_M_compare_22 {Z : hp_Z} (a0 : Nat) (a1 : Nat) (a2 : Int32) (h : hp_H) : hp_J Y_M_compare Z hp_rI h 22 [(0, .ref a0), (1, .ref a1), (2, .int a2)] [] (m_M_compare_22 (hp_G Z)  a0 a1 a2 h) := by
  unfold m_M_compare_22
  refine hp_iload_n (x0 := 2) d_M_compare_22 rfl rfl ?_
  refine hp_if_ge (tgt := 30) d_M_compare_23 (by decide) ?_ ?_
  · refine hp_aload_n (x0 := 0) d_M_compare_30 rfl rfl ?_
    refine hp_iload_n (x0 := 2) d_M_compare_31 rfl rfl ?_
    refine hp_iald d_M_compare_32 fun x1 => ?_
    refine hp_aload_n (x0 := 1) d_M_compare_33 rfl rfl ?_
    refine hp_iload_n (x0 := 2) d_M_compare_34 rfl rfl ?_
    refine hp_iald d_M_compare_35 fun x2 => ?_
    refine hp_icmp_ge (tgt := 43) d_M_compare_36 (by decide) ?_ ?_
    · refine hp_iconst (v := 1) d_M_compare_43 (by decide) ?_
      refine hp_sub [] rfl ?_
      exact j_M_compare_44  _ _
    · refine hp_iconst (v := -1) d_M_compare_39 (by decide) ?_
      refine hp_goto (tgt := 44) d_M_compare_40 (by decide) ?_
      refine hp_sub [] rfl ?_
      exact j_M_compare_44  _ _
  · refine hp_iconst (v := 0) d_M_compare_26 (by decide) ?_
    refine hp_goto (tgt := 44) d_M_compare_27 (by decide) ?_
    refine hp_sub [] rfl ?_
    exact j_M_compare_44  _ _
def m_M_compare_3 (G : Nat → Nat) : Nat → Nat → Nat → Int32 → hp_H → Option (Int32 × hp_H)
  | 0, _, _, _, _ => none
  | n + 1, a0, a1, a2, h => if a2 < 0 then (m_M_compare_22 G a0 a1 a2 h) else ((hp_aI h .int a0 a2).bind fun x1 => (hp_aI h .int a1 a2).bind fun x2 => if x1 = x2 then (hp_nm (a2 + (-1)) fun x3 => (m_M_compare_3 G  n) a0 a1 x3 h) else (m_M_compare_22 G a0 a1 a2 h))
set_option maxRecDepth 100000 in
set_option maxHeartbeats 4000000 in
theorem j_M_compare_3 {Z : hp_Z} : ∀ (n : Nat) (a0 : Nat) (a1 : Nat) (a2 : Int32) (h : hp_H), hp_J Y_M_compare Z hp_rI h 3 [(0, .ref a0), (1, .ref a1), (2, .int a2)] [] (m_M_compare_3 (hp_G Z)  n a0 a1 a2 h) := by
  intro n
  induction n with
  | zero => intro a0 a1 a2 h; exact hp_fail
  | succ n ih =>
    intro a0 a1 a2 h
    rw [m_M_compare_3]
    refine hp_iload_n (x0 := 2) d_M_compare_3 rfl rfl ?_
    refine hp_if_lt (tgt := 22) d_M_compare_4 (by decide) ?_ ?_
    · exact j_M_compare_22  _ _ _ _
    · refine hp_aload_n (x0 := 0) d_M_compare_7 rfl rfl ?_
      refine hp_iload_n (x0 := 2) d_M_compare_8 rfl rfl ?_
      refine hp_iald d_M_compare_9 fun x1 => ?_
      refine hp_aload_n (x0 := 1) d_M_compare_10 rfl rfl ?_
      refine hp_iload_n (x0 := 2) d_M_compare_11 rfl rfl ?_
      refine hp_iald d_M_compare_12 fun x2 => ?_
      refine hp_icmp_ne (tgt := 22) d_M_compare_13 (by decide) ?_ ?_
      · refine hp_iinc (x0 := 2) (d := -1) (fun x3 => [(2, .int x3), (0, .ref a0), (1, .ref a1)]) d_M_compare_16 rfl (by decide) (by decide) (fun _ => rfl) fun x3 => ?_
        refine hp_goto (tgt := 3) d_M_compare_19 (by decide) ?_
        refine hp_sub [1, 2, 0] rfl ?_
        exact ih _ _ _ _
      · exact j_M_compare_22  _ _ _ _
def m_M_compare (G : Nat → Nat) (a0 : Nat) (a1 : Nat) (h : hp_H) : Option (Int32 × hp_H) := hp_nm (63 : Int32) fun x1 => m_M_compare_3 G hp_fu a0 a1 x1 h
set_option maxRecDepth 100000 in
set_option maxHeartbeats 4000000 in
theorem j_M_compare_0 {Z : hp_Z} (a0 : Nat) (a1 : Nat) (h : hp_H) : hp_J Y_M_compare Z hp_rI h 0 [(0, .ref a0), (1, .ref a1)] [] (m_M_compare (hp_G Z)  a0 a1 h) := by
  unfold m_M_compare
  refine hp_bipush (v := 63) d_M_compare_0 (by decide) ?_
  refine hp_istore_n (fun x1 => [(2, .int x1), (0, .ref a0), (1, .ref a1)]) d_M_compare_2 rfl (by decide) (fun _ => rfl) fun x1 => ?_
  refine hp_sub [1, 2, 0] rfl ?_
  exact j_M_compare_3  hp_fu _ _ _ _
theorem t_M_compare (l : Launch) (E : hp_E) (a0 : Nat) (a1 : Nat) : hp_M l E y_M_compare Y_M_compare hp_rI [.ref a0, .ref a1] (m_M_compare E.2.2.1 a0 a1) := hp_M.of (by decide +kernel) ⟨rfl, rfl⟩ (Nat.le_of_ble_eq_true rfl) (fun Z h hE => by subst hE; exact j_M_compare_0 _ _ h)
-- M_lay
theorem d_M_lay_0 : decode prog_9_method_7_code 0 = .ok (.aload_n 2, 1) := by decide +kernel
theorem d_M_lay_1 : decode prog_9_method_7_code 1 = .ok (.invokestatic 95, 3) := by decide +kernel
theorem d_M_lay_4 : decode prog_9_method_7_code 4 = .ok (.iconst 0, 1) := by decide +kernel
theorem d_M_lay_5 : decode prog_9_method_7_code 5 = .ok (.istore_n 3, 1) := by decide +kernel
theorem d_M_lay_6 : decode prog_9_method_7_code 6 = .ok (.iload_n 3, 1) := by decide +kernel
theorem d_M_lay_7 : decode prog_9_method_7_code 7 = .ok (.bipush 18, 2) := by decide +kernel
theorem d_M_lay_9 : decode prog_9_method_7_code 9 = .ok (.if_icmp .ge 33, 3) := by decide +kernel
theorem d_M_lay_12 : decode prog_9_method_7_code 12 = .ok (.aload_n 2, 1) := by decide +kernel
theorem d_M_lay_13 : decode prog_9_method_7_code 13 = .ok (.bipush 18, 2) := by decide +kernel
theorem d_M_lay_15 : decode prog_9_method_7_code 15 = .ok (.aload_n 0, 1) := by decide +kernel
theorem d_M_lay_16 : decode prog_9_method_7_code 16 = .ok (.getfield 19, 3) := by decide +kernel
theorem d_M_lay_19 : decode prog_9_method_7_code 19 = .ok (.iload_n 1, 1) := by decide +kernel
theorem d_M_lay_20 : decode prog_9_method_7_code 20 = .ok (.iaload, 1) := by decide +kernel
theorem d_M_lay_21 : decode prog_9_method_7_code 21 = .ok (.isub, 1) := by decide +kernel
theorem d_M_lay_22 : decode prog_9_method_7_code 22 = .ok (.iload_n 3, 1) := by decide +kernel
theorem d_M_lay_23 : decode prog_9_method_7_code 23 = .ok (.iadd, 1) := by decide +kernel
theorem d_M_lay_24 : decode prog_9_method_7_code 24 = .ok (.aload_n 0, 1) := by decide +kernel
theorem d_M_lay_25 : decode prog_9_method_7_code 25 = .ok (.getfield 23, 3) := by decide +kernel
theorem d_M_lay_28 : decode prog_9_method_7_code 28 = .ok (.bipush 18, 2) := by decide +kernel
theorem d_M_lay_30 : decode prog_9_method_7_code 30 = .ok (.iload_n 1, 1) := by decide +kernel
theorem d_M_lay_31 : decode prog_9_method_7_code 31 = .ok (.imul, 1) := by decide +kernel
theorem d_M_lay_32 : decode prog_9_method_7_code 32 = .ok (.iload_n 3, 1) := by decide +kernel
theorem d_M_lay_33 : decode prog_9_method_7_code 33 = .ok (.iadd, 1) := by decide +kernel
theorem d_M_lay_34 : decode prog_9_method_7_code 34 = .ok (.iaload, 1) := by decide +kernel
theorem d_M_lay_35 : decode prog_9_method_7_code 35 = .ok (.iastore, 1) := by decide +kernel
theorem d_M_lay_36 : decode prog_9_method_7_code 36 = .ok (.iinc 3 1, 3) := by decide +kernel
theorem d_M_lay_39 : decode prog_9_method_7_code 39 = .ok (.goto (-33), 3) := by decide +kernel
theorem d_M_lay_42 : decode prog_9_method_7_code 42 = .ok (.return_, 1) := by decide +kernel
def m_M_lay_6 (G : Nat → Nat) : Nat → Nat → Int32 → Nat → Int32 → hp_H → Option (Unit × hp_H)
  | 0, _, _, _, _, _ => none
  | n + 1, a0, a1, a2, a3, h => if (18 : Int32) ≤ a3 then (some ((), h)) else ((hp_gR h a0 8 4).bind fun x1 => (hp_aI h .int x1 a1).bind fun x2 => (hp_gR h a0 8 5).bind fun x3 => (hp_aI h .int x3 (((18 : Int32) * a1) + a3)).bind fun x4 => (hp_sI h .int a2 (((18 : Int32) - x2) + a3) x4).bind fun h5 => hp_nm (a3 + 1) fun x6 => (m_M_lay_6 G  n) a0 a1 a2 x6 h5)
set_option maxRecDepth 100000 in
set_option maxHeartbeats 4000000 in
theorem j_M_lay_6 {Z : hp_Z} : ∀ (n : Nat) (a0 : Nat) (a1 : Int32) (a2 : Nat) (a3 : Int32) (h : hp_H), hp_J Y_M_lay Z hp_rV h 6 [(0, .ref a0), (1, .int a1), (2, .ref a2), (3, .int a3)] [] (m_M_lay_6 (hp_G Z)  n a0 a1 a2 a3 h) := by
  intro n
  induction n with
  | zero => intro a0 a1 a2 a3 h; exact hp_fail
  | succ n ih =>
    intro a0 a1 a2 a3 h
    rw [m_M_lay_6]
    refine hp_iload_n (x0 := 3) d_M_lay_6 rfl rfl ?_
    refine hp_bipush (v := 18) d_M_lay_7 (by decide) ?_
    refine hp_icmp_ge (tgt := 42) d_M_lay_9 (by decide) ?_ ?_
    · exact hp_vret d_M_lay_42 rfl
    · refine hp_aload_n (x0 := 2) d_M_lay_12 rfl rfl ?_
      refine hp_bipush (v := 18) d_M_lay_13 (by decide) ?_
      refine hp_aload_n (x0 := 0) d_M_lay_15 rfl rfl ?_
      refine hp_getR fl_M_19 d_M_lay_16 fun x1 => ?_
      refine hp_iload_n (x0 := 1) d_M_lay_19 rfl rfl ?_
      refine hp_iald d_M_lay_20 fun x2 => ?_
      refine hp_isub d_M_lay_21 ?_
      refine hp_iload_n (x0 := 3) d_M_lay_22 rfl rfl ?_
      refine hp_iadd d_M_lay_23 ?_
      refine hp_aload_n (x0 := 0) d_M_lay_24 rfl rfl ?_
      refine hp_getR fl_M_23 d_M_lay_25 fun x3 => ?_
      refine hp_bipush (v := 18) d_M_lay_28 (by decide) ?_
      refine hp_iload_n (x0 := 1) d_M_lay_30 rfl rfl ?_
      refine hp_imul d_M_lay_31 ?_
      refine hp_iload_n (x0 := 3) d_M_lay_32 rfl rfl ?_
      refine hp_iadd d_M_lay_33 ?_
      refine hp_iald d_M_lay_34 fun x4 => ?_
      refine hp_iast d_M_lay_35 fun h5 => ?_
      refine hp_iinc (x0 := 3) (d := 1) (fun x6 => [(3, .int x6), (0, .ref a0), (1, .int a1), (2, .ref a2)]) d_M_lay_36 rfl (by decide) (by decide) (fun _ => rfl) fun x6 => ?_
      refine hp_goto (tgt := 6) d_M_lay_39 (by decide) ?_
      refine hp_sub [1, 2, 3, 0] rfl ?_
      exact ih _ _ _ _ _
def m_M_lay (G : Nat → Nat) (a0 : Nat) (a1 : Int32) (a2 : Nat) (h : hp_H) : Option (Unit × hp_H) := (m_M_clear G a2 h).bind fun q1 => hp_nm (0 : Int32) fun x2 => m_M_lay_6 G hp_fu a0 a1 a2 x2 q1.2
set_option maxRecDepth 100000 in
set_option maxHeartbeats 4000000 in
theorem j_M_lay_0 {Z : hp_Z} (a0 : Nat) (a1 : Int32) (a2 : Nat) (h : hp_H) : hp_J Y_M_lay Z hp_rV h 0 [(0, .ref a0), (1, .int a1), (2, .ref a2)] [] (m_M_lay (hp_G Z)  a0 a1 a2 h) := by
  unfold m_M_lay
  refine hp_aload_n (x0 := 2) d_M_lay_0 rfl rfl ?_
  refine hp_callU (hp_crS (t_M_clear _ _ _) cw_M_95 w_976 (by decide) rfl rfl (Nat.le_of_ble_eq_true rfl) d_M_lay_1) fun q1 => ?_
  refine hp_iconst (v := 0) d_M_lay_4 (by decide) ?_
  refine hp_istore_n (fun x2 => [(3, .int x2), (0, .ref a0), (1, .int a1), (2, .ref a2)]) d_M_lay_5 rfl (by decide) (fun _ => rfl) fun x2 => ?_
  refine hp_sub [1, 2, 3, 0] rfl ?_
  exact j_M_lay_6  hp_fu _ _ _ _ _
theorem t_M_lay (l : Launch) (E : hp_E) (a0 : Nat) (a1 : Int32) (a2 : Nat) : hp_M l E y_M_lay Y_M_lay hp_rV [.ref a0, .int a1, .ref a2] (m_M_lay E.2.2.1 a0 a1 a2) := hp_M.of (by decide +kernel) ⟨rfl, rfl⟩ (Nat.le_of_ble_eq_true rfl) (fun Z h hE => by subst hE; exact j_M_lay_0 _ _ _ h)
-- M_orderNumbers
theorem d_M_orderNumbers_0 : decode prog_9_method_21_code 0 = .ok (.aload_n 0, 1) := by decide +kernel
theorem d_M_orderNumbers_1 : decode prog_9_method_21_code 1 = .ok (.getfield 16, 3) := by decide +kernel
theorem d_M_orderNumbers_4 : decode prog_9_method_21_code 4 = .ok (.iload_n 1, 1) := by decide +kernel
theorem d_M_orderNumbers_5 : decode prog_9_method_21_code 5 = .ok (.iaload, 1) := by decide +kernel
theorem d_M_orderNumbers_6 : decode prog_9_method_21_code 6 = .ok (.aload_n 0, 1) := by decide +kernel
theorem d_M_orderNumbers_7 : decode prog_9_method_21_code 7 = .ok (.getfield 16, 3) := by decide +kernel
theorem d_M_orderNumbers_10 : decode prog_9_method_21_code 10 = .ok (.iload_n 2, 1) := by decide +kernel
theorem d_M_orderNumbers_11 : decode prog_9_method_21_code 11 = .ok (.iaload, 1) := by decide +kernel
theorem d_M_orderNumbers_12 : decode prog_9_method_21_code 12 = .ok (.if_icmp .eq 24, 3) := by decide +kernel
theorem d_M_orderNumbers_15 : decode prog_9_method_21_code 15 = .ok (.aload_n 0, 1) := by decide +kernel
theorem d_M_orderNumbers_16 : decode prog_9_method_21_code 16 = .ok (.getfield 16, 3) := by decide +kernel
theorem d_M_orderNumbers_19 : decode prog_9_method_21_code 19 = .ok (.iload_n 1, 1) := by decide +kernel
theorem d_M_orderNumbers_20 : decode prog_9_method_21_code 20 = .ok (.iaload, 1) := by decide +kernel
theorem d_M_orderNumbers_21 : decode prog_9_method_21_code 21 = .ok (.aload_n 0, 1) := by decide +kernel
theorem d_M_orderNumbers_22 : decode prog_9_method_21_code 22 = .ok (.getfield 16, 3) := by decide +kernel
theorem d_M_orderNumbers_25 : decode prog_9_method_21_code 25 = .ok (.iload_n 2, 1) := by decide +kernel
theorem d_M_orderNumbers_26 : decode prog_9_method_21_code 26 = .ok (.iaload, 1) := by decide +kernel
theorem d_M_orderNumbers_27 : decode prog_9_method_21_code 27 = .ok (.if_icmp .ge 7, 3) := by decide +kernel
theorem d_M_orderNumbers_30 : decode prog_9_method_21_code 30 = .ok (.iconst (-1), 1) := by decide +kernel
theorem d_M_orderNumbers_31 : decode prog_9_method_21_code 31 = .ok (.goto 4, 3) := by decide +kernel
theorem d_M_orderNumbers_34 : decode prog_9_method_21_code 34 = .ok (.iconst 1, 1) := by decide +kernel
theorem d_M_orderNumbers_35 : decode prog_9_method_21_code 35 = .ok (.ireturn, 1) := by decide +kernel
theorem d_M_orderNumbers_36 : decode prog_9_method_21_code 36 = .ok (.aload_n 0, 1) := by decide +kernel
theorem d_M_orderNumbers_37 : decode prog_9_method_21_code 37 = .ok (.iload_n 1, 1) := by decide +kernel
theorem d_M_orderNumbers_38 : decode prog_9_method_21_code 38 = .ok (.aload_n 0, 1) := by decide +kernel
theorem d_M_orderNumbers_39 : decode prog_9_method_21_code 39 = .ok (.getfield 42, 3) := by decide +kernel
theorem d_M_orderNumbers_42 : decode prog_9_method_21_code 42 = .ok (.invokevirtual 115, 3) := by decide +kernel
theorem d_M_orderNumbers_45 : decode prog_9_method_21_code 45 = .ok (.aload_n 0, 1) := by decide +kernel
theorem d_M_orderNumbers_46 : decode prog_9_method_21_code 46 = .ok (.iload_n 2, 1) := by decide +kernel
theorem d_M_orderNumbers_47 : decode prog_9_method_21_code 47 = .ok (.aload_n 0, 1) := by decide +kernel
theorem d_M_orderNumbers_48 : decode prog_9_method_21_code 48 = .ok (.getfield 45, 3) := by decide +kernel
theorem d_M_orderNumbers_51 : decode prog_9_method_21_code 51 = .ok (.invokevirtual 115, 3) := by decide +kernel
theorem d_M_orderNumbers_54 : decode prog_9_method_21_code 54 = .ok (.aload_n 0, 1) := by decide +kernel
theorem d_M_orderNumbers_55 : decode prog_9_method_21_code 55 = .ok (.getfield 16, 3) := by decide +kernel
theorem d_M_orderNumbers_58 : decode prog_9_method_21_code 58 = .ok (.iload_n 1, 1) := by decide +kernel
theorem d_M_orderNumbers_59 : decode prog_9_method_21_code 59 = .ok (.iaload, 1) := by decide +kernel
theorem d_M_orderNumbers_60 : decode prog_9_method_21_code 60 = .ok (.aload_n 0, 1) := by decide +kernel
theorem d_M_orderNumbers_61 : decode prog_9_method_21_code 61 = .ok (.getfield 42, 3) := by decide +kernel
theorem d_M_orderNumbers_64 : decode prog_9_method_21_code 64 = .ok (.aload_n 0, 1) := by decide +kernel
theorem d_M_orderNumbers_65 : decode prog_9_method_21_code 65 = .ok (.getfield 45, 3) := by decide +kernel
theorem d_M_orderNumbers_68 : decode prog_9_method_21_code 68 = .ok (.invokestatic 131, 3) := by decide +kernel
theorem d_M_orderNumbers_71 : decode prog_9_method_21_code 71 = .ok (.imul, 1) := by decide +kernel
theorem d_M_orderNumbers_72 : decode prog_9_method_21_code 72 = .ok (.ireturn, 1) := by decide +kernel
def m_M_orderNumbers_35 (G : Nat → Nat) (s0 : Int32) (h : hp_H) : Option (Int32 × hp_H) := some (s0, h)
set_option maxRecDepth 100000 in
set_option maxHeartbeats 4000000 in
theorem j_M_orderNumbers_35 {Z : hp_Z} (s0 : Int32) (h : hp_H) : hp_J Y_M_orderNumbers Z hp_rI h 35 [] [.int s0] (m_M_orderNumbers_35 (hp_G Z)  s0 h) := by
  unfold m_M_orderNumbers_35
  exact hp_iret d_M_orderNumbers_35 rfl
def m_M_orderNumbers (G : Nat → Nat) (a0 : Nat) (a1 : Int32) (a2 : Int32) (h : hp_H) : Option (Int32 × hp_H) := (hp_gR h a0 8 3).bind fun x1 => (hp_aI h .int x1 a1).bind fun x2 => (hp_gR h a0 8 3).bind fun x3 => (hp_aI h .int x3 a2).bind fun x4 => if x2 = x4 then ((hp_gR h a0 8 17).bind fun x5 => (hp_vck h a0 8 (m_M_lay G a0 a1 x5 h)).bind fun q6 => (hp_gR q6.2 a0 8 18).bind fun x7 => (hp_vck q6.2 a0 8 (m_M_lay G a0 a2 x7 q6.2)).bind fun q8 => (hp_gR q8.2 a0 8 3).bind fun x9 => (hp_aI q8.2 .int x9 a1).bind fun x10 => (hp_gR q8.2 a0 8 17).bind fun x11 => (hp_gR q8.2 a0 8 18).bind fun x12 => (m_M_compare G x11 x12 q8.2).bind fun q13 => some (x10 * q13.1, q13.2)) else ((hp_gR h a0 8 3).bind fun x14 => (hp_aI h .int x14 a1).bind fun x15 => (hp_gR h a0 8 3).bind fun x16 => (hp_aI h .int x16 a2).bind fun x17 => if x17 ≤ x15 then (m_M_orderNumbers_35 G (1 : Int32) h) else (m_M_orderNumbers_35 G (-1 : Int32) h))
set_option maxRecDepth 100000 in
set_option maxHeartbeats 4000000 in
theorem j_M_orderNumbers_0 {Z : hp_Z} (a0 : Nat) (a1 : Int32) (a2 : Int32) (h : hp_H) : hp_J Y_M_orderNumbers Z hp_rI h 0 [(0, .ref a0), (1, .int a1), (2, .int a2)] [] (m_M_orderNumbers (hp_G Z)  a0 a1 a2 h) := by
  unfold m_M_orderNumbers
  refine hp_aload_n (x0 := 0) d_M_orderNumbers_0 rfl rfl ?_
  refine hp_getR fl_M_16 d_M_orderNumbers_1 fun x1 => ?_
  refine hp_iload_n (x0 := 1) d_M_orderNumbers_4 rfl rfl ?_
  refine hp_iald d_M_orderNumbers_5 fun x2 => ?_
  refine hp_aload_n (x0 := 0) d_M_orderNumbers_6 rfl rfl ?_
  refine hp_getR fl_M_16 d_M_orderNumbers_7 fun x3 => ?_
  refine hp_iload_n (x0 := 2) d_M_orderNumbers_10 rfl rfl ?_
  refine hp_iald d_M_orderNumbers_11 fun x4 => ?_
  refine hp_icmp_eq (tgt := 36) d_M_orderNumbers_12 (by decide) ?_ ?_
  · refine hp_aload_n (x0 := 0) d_M_orderNumbers_36 rfl rfl ?_
    refine hp_iload_n (x0 := 1) d_M_orderNumbers_37 rfl rfl ?_
    refine hp_aload_n (x0 := 0) d_M_orderNumbers_38 rfl rfl ?_
    refine hp_getR fl_M_42 d_M_orderNumbers_39 fun x5 => ?_
    refine hp_callU (hp_crV (ci := 8) (t_M_lay _ _ _ _ _) cw_M_115 rfl ⟨w_1060, ws_49⟩ (by decide) rfl rfl (Nat.le_of_ble_eq_true rfl) d_M_orderNumbers_42) fun q6 => ?_
    refine hp_aload_n (x0 := 0) d_M_orderNumbers_45 rfl rfl ?_
    refine hp_iload_n (x0 := 2) d_M_orderNumbers_46 rfl rfl ?_
    refine hp_aload_n (x0 := 0) d_M_orderNumbers_47 rfl rfl ?_
    refine hp_getR fl_M_45 d_M_orderNumbers_48 fun x7 => ?_
    refine hp_callU (hp_crV (ci := 8) (t_M_lay _ _ _ _ _) cw_M_115 rfl ⟨w_1060, ws_49⟩ (by decide) rfl rfl (Nat.le_of_ble_eq_true rfl) d_M_orderNumbers_51) fun q8 => ?_
    refine hp_aload_n (x0 := 0) d_M_orderNumbers_54 rfl rfl ?_
    refine hp_getR fl_M_16 d_M_orderNumbers_55 fun x9 => ?_
    refine hp_iload_n (x0 := 1) d_M_orderNumbers_58 rfl rfl ?_
    refine hp_iald d_M_orderNumbers_59 fun x10 => ?_
    refine hp_aload_n (x0 := 0) d_M_orderNumbers_60 rfl rfl ?_
    refine hp_getR fl_M_42 d_M_orderNumbers_61 fun x11 => ?_
    refine hp_aload_n (x0 := 0) d_M_orderNumbers_64 rfl rfl ?_
    refine hp_getR fl_M_45 d_M_orderNumbers_65 fun x12 => ?_
    refine hp_callI (hp_crS (t_M_compare _ _ _ _) cw_M_131 w_1063 (by decide) rfl rfl (Nat.le_of_ble_eq_true rfl) d_M_orderNumbers_68) fun q13 => ?_
    refine hp_imul d_M_orderNumbers_71 ?_
    exact hp_iret d_M_orderNumbers_72 rfl
  · refine hp_aload_n (x0 := 0) d_M_orderNumbers_15 rfl rfl ?_
    refine hp_getR fl_M_16 d_M_orderNumbers_16 fun x14 => ?_
    refine hp_iload_n (x0 := 1) d_M_orderNumbers_19 rfl rfl ?_
    refine hp_iald d_M_orderNumbers_20 fun x15 => ?_
    refine hp_aload_n (x0 := 0) d_M_orderNumbers_21 rfl rfl ?_
    refine hp_getR fl_M_16 d_M_orderNumbers_22 fun x16 => ?_
    refine hp_iload_n (x0 := 2) d_M_orderNumbers_25 rfl rfl ?_
    refine hp_iald d_M_orderNumbers_26 fun x17 => ?_
    refine hp_icmp_ge (tgt := 34) d_M_orderNumbers_27 (by decide) ?_ ?_
    · refine hp_iconst (v := 1) d_M_orderNumbers_34 (by decide) ?_
      refine hp_sub [] rfl ?_
      exact j_M_orderNumbers_35  _ _
    · refine hp_iconst (v := -1) d_M_orderNumbers_30 (by decide) ?_
      refine hp_goto (tgt := 35) d_M_orderNumbers_31 (by decide) ?_
      refine hp_sub [] rfl ?_
      exact j_M_orderNumbers_35  _ _
theorem t_M_orderNumbers (l : Launch) (E : hp_E) (a0 : Nat) (a1 : Int32) (a2 : Int32) : hp_M l E y_M_orderNumbers Y_M_orderNumbers hp_rI [.ref a0, .int a1, .int a2] (m_M_orderNumbers E.2.2.1 a0 a1 a2) := hp_M.of (by decide +kernel) ⟨rfl, rfl⟩ (Nat.le_of_ble_eq_true rfl) (fun Z h hE => by subst hE; exact j_M_orderNumbers_0 _ _ _ h)
-- M_rank
theorem d_M_rank_0 : decode prog_9_method_35_code 0 = .ok (.aload_n 0, 1) := by decide +kernel
theorem d_M_rank_1 : decode prog_9_method_35_code 1 = .ok (.getfield 7, 3) := by decide +kernel
theorem d_M_rank_4 : decode prog_9_method_35_code 4 = .ok (.iload_n 1, 1) := by decide +kernel
theorem d_M_rank_5 : decode prog_9_method_35_code 5 = .ok (.iaload, 1) := by decide +kernel
theorem d_M_rank_6 : decode prog_9_method_35_code 6 = .ok (.iconst 4, 1) := by decide +kernel
theorem d_M_rank_7 : decode prog_9_method_35_code 7 = .ok (.if_icmp .ne 7, 3) := by decide +kernel
theorem d_M_rank_10 : decode prog_9_method_35_code 10 = .ok (.iconst 3, 1) := by decide +kernel
theorem d_M_rank_11 : decode prog_9_method_35_code 11 = .ok (.goto 9, 3) := by decide +kernel
theorem d_M_rank_14 : decode prog_9_method_35_code 14 = .ok (.aload_n 0, 1) := by decide +kernel
theorem d_M_rank_15 : decode prog_9_method_35_code 15 = .ok (.getfield 7, 3) := by decide +kernel
theorem d_M_rank_18 : decode prog_9_method_35_code 18 = .ok (.iload_n 1, 1) := by decide +kernel
theorem d_M_rank_19 : decode prog_9_method_35_code 19 = .ok (.iaload, 1) := by decide +kernel
theorem d_M_rank_20 : decode prog_9_method_35_code 20 = .ok (.ireturn, 1) := by decide +kernel
def m_M_rank_20 (G : Nat → Nat) (s0 : Int32) (h : hp_H) : Option (Int32 × hp_H) := some (s0, h)
set_option maxRecDepth 100000 in
set_option maxHeartbeats 4000000 in
theorem j_M_rank_20 {Z : hp_Z} (s0 : Int32) (h : hp_H) : hp_J Y_M_rank Z hp_rI h 20 [] [.int s0] (m_M_rank_20 (hp_G Z)  s0 h) := by
  unfold m_M_rank_20
  exact hp_iret d_M_rank_20 rfl
def m_M_rank (G : Nat → Nat) (a0 : Nat) (a1 : Int32) (h : hp_H) : Option (Int32 × hp_H) := (hp_gR h a0 8 1).bind fun x1 => (hp_aI h .int x1 a1).bind fun x2 => if x2 = (4 : Int32) then (m_M_rank_20 G (3 : Int32) h) else ((hp_gR h a0 8 1).bind fun x3 => (hp_aI h .int x3 a1).bind fun x4 => m_M_rank_20 G x4 h)
set_option maxRecDepth 100000 in
set_option maxHeartbeats 4000000 in
theorem j_M_rank_0 {Z : hp_Z} (a0 : Nat) (a1 : Int32) (h : hp_H) : hp_J Y_M_rank Z hp_rI h 0 [(0, .ref a0), (1, .int a1)] [] (m_M_rank (hp_G Z)  a0 a1 h) := by
  unfold m_M_rank
  refine hp_aload_n (x0 := 0) d_M_rank_0 rfl rfl ?_
  refine hp_getR fl_M_7 d_M_rank_1 fun x1 => ?_
  refine hp_iload_n (x0 := 1) d_M_rank_4 rfl rfl ?_
  refine hp_iald d_M_rank_5 fun x2 => ?_
  refine hp_iconst (v := 4) d_M_rank_6 (by decide) ?_
  refine hp_icmp_ne (tgt := 14) d_M_rank_7 (by decide) ?_ ?_
  · refine hp_iconst (v := 3) d_M_rank_10 (by decide) ?_
    refine hp_goto (tgt := 20) d_M_rank_11 (by decide) ?_
    refine hp_sub [] rfl ?_
    exact j_M_rank_20  _ _
  · refine hp_aload_n (x0 := 0) d_M_rank_14 rfl rfl ?_
    refine hp_getR fl_M_7 d_M_rank_15 fun x3 => ?_
    refine hp_iload_n (x0 := 1) d_M_rank_18 rfl rfl ?_
    refine hp_iald d_M_rank_19 fun x4 => ?_
    refine hp_sub [] rfl ?_
    exact j_M_rank_20  _ _
theorem t_M_rank (l : Launch) (E : hp_E) (a0 : Nat) (a1 : Int32) : hp_M l E y_M_rank Y_M_rank hp_rI [.ref a0, .int a1] (m_M_rank E.2.2.1 a0 a1) := hp_M.of (by decide +kernel) ⟨rfl, rfl⟩ (Nat.le_of_ble_eq_true rfl) (fun Z h hE => by subst hE; exact j_M_rank_0 _ _ h)
-- M_orderOf
theorem d_M_orderOf_0 : decode prog_9_method_37_code 0 = .ok (.aload_n 0, 1) := by decide +kernel
theorem d_M_orderOf_1 : decode prog_9_method_37_code 1 = .ok (.iload_n 1, 1) := by decide +kernel
theorem d_M_orderOf_2 : decode prog_9_method_37_code 2 = .ok (.invokevirtual 164, 3) := by decide +kernel
theorem d_M_orderOf_5 : decode prog_9_method_37_code 5 = .ok (.aload_n 0, 1) := by decide +kernel
theorem d_M_orderOf_6 : decode prog_9_method_37_code 6 = .ok (.iload_n 2, 1) := by decide +kernel
theorem d_M_orderOf_7 : decode prog_9_method_37_code 7 = .ok (.invokevirtual 164, 3) := by decide +kernel
theorem d_M_orderOf_10 : decode prog_9_method_37_code 10 = .ok (.if_icmp .eq 22, 3) := by decide +kernel
theorem d_M_orderOf_13 : decode prog_9_method_37_code 13 = .ok (.aload_n 0, 1) := by decide +kernel
theorem d_M_orderOf_14 : decode prog_9_method_37_code 14 = .ok (.iload_n 1, 1) := by decide +kernel
theorem d_M_orderOf_15 : decode prog_9_method_37_code 15 = .ok (.invokevirtual 164, 3) := by decide +kernel
theorem d_M_orderOf_18 : decode prog_9_method_37_code 18 = .ok (.aload_n 0, 1) := by decide +kernel
theorem d_M_orderOf_19 : decode prog_9_method_37_code 19 = .ok (.iload_n 2, 1) := by decide +kernel
theorem d_M_orderOf_20 : decode prog_9_method_37_code 20 = .ok (.invokevirtual 164, 3) := by decide +kernel
theorem d_M_orderOf_23 : decode prog_9_method_37_code 23 = .ok (.if_icmp .ge 7, 3) := by decide +kernel
theorem d_M_orderOf_26 : decode prog_9_method_37_code 26 = .ok (.iconst (-1), 1) := by decide +kernel
theorem d_M_orderOf_27 : decode prog_9_method_37_code 27 = .ok (.goto 4, 3) := by decide +kernel
theorem d_M_orderOf_30 : decode prog_9_method_37_code 30 = .ok (.iconst 1, 1) := by decide +kernel
theorem d_M_orderOf_31 : decode prog_9_method_37_code 31 = .ok (.ireturn, 1) := by decide +kernel
theorem d_M_orderOf_32 : decode prog_9_method_37_code 32 = .ok (.aload_n 0, 1) := by decide +kernel
theorem d_M_orderOf_33 : decode prog_9_method_37_code 33 = .ok (.iload_n 1, 1) := by decide +kernel
theorem d_M_orderOf_34 : decode prog_9_method_37_code 34 = .ok (.invokevirtual 168, 3) := by decide +kernel
theorem d_M_orderOf_37 : decode prog_9_method_37_code 37 = .ok (.ifCond .eq 12, 3) := by decide +kernel
theorem d_M_orderOf_40 : decode prog_9_method_37_code 40 = .ok (.aload_n 0, 1) := by decide +kernel
theorem d_M_orderOf_41 : decode prog_9_method_37_code 41 = .ok (.iload_n 1, 1) := by decide +kernel
theorem d_M_orderOf_42 : decode prog_9_method_37_code 42 = .ok (.iload_n 2, 1) := by decide +kernel
theorem d_M_orderOf_43 : decode prog_9_method_37_code 43 = .ok (.invokevirtual 171, 3) := by decide +kernel
theorem d_M_orderOf_46 : decode prog_9_method_37_code 46 = .ok (.goto 9, 3) := by decide +kernel
theorem d_M_orderOf_49 : decode prog_9_method_37_code 49 = .ok (.aload_n 0, 1) := by decide +kernel
theorem d_M_orderOf_50 : decode prog_9_method_37_code 50 = .ok (.iload_n 1, 1) := by decide +kernel
theorem d_M_orderOf_51 : decode prog_9_method_37_code 51 = .ok (.iload_n 2, 1) := by decide +kernel
theorem d_M_orderOf_52 : decode prog_9_method_37_code 52 = .ok (.invokevirtual 175, 3) := by decide +kernel
theorem d_M_orderOf_55 : decode prog_9_method_37_code 55 = .ok (.istore_n 3, 1) := by decide +kernel
theorem d_M_orderOf_56 : decode prog_9_method_37_code 56 = .ok (.iload_n 3, 1) := by decide +kernel
theorem d_M_orderOf_57 : decode prog_9_method_37_code 57 = .ok (.ifCond .eq 5, 3) := by decide +kernel
theorem d_M_orderOf_60 : decode prog_9_method_37_code 60 = .ok (.iload_n 3, 1) := by decide +kernel
theorem d_M_orderOf_61 : decode prog_9_method_37_code 61 = .ok (.ireturn, 1) := by decide +kernel
theorem d_M_orderOf_62 : decode prog_9_method_37_code 62 = .ok (.aload_n 0, 1) := by decide +kernel
theorem d_M_orderOf_63 : decode prog_9_method_37_code 63 = .ok (.getfield 7, 3) := by decide +kernel
theorem d_M_orderOf_66 : decode prog_9_method_37_code 66 = .ok (.iload_n 1, 1) := by decide +kernel
theorem d_M_orderOf_67 : decode prog_9_method_37_code 67 = .ok (.iaload, 1) := by decide +kernel
theorem d_M_orderOf_68 : decode prog_9_method_37_code 68 = .ok (.aload_n 0, 1) := by decide +kernel
theorem d_M_orderOf_69 : decode prog_9_method_37_code 69 = .ok (.getfield 7, 3) := by decide +kernel
theorem d_M_orderOf_72 : decode prog_9_method_37_code 72 = .ok (.iload_n 2, 1) := by decide +kernel
theorem d_M_orderOf_73 : decode prog_9_method_37_code 73 = .ok (.iaload, 1) := by decide +kernel
theorem d_M_orderOf_74 : decode prog_9_method_37_code 74 = .ok (.if_icmp .eq 24, 3) := by decide +kernel
theorem d_M_orderOf_77 : decode prog_9_method_37_code 77 = .ok (.aload_n 0, 1) := by decide +kernel
theorem d_M_orderOf_78 : decode prog_9_method_37_code 78 = .ok (.getfield 7, 3) := by decide +kernel
theorem d_M_orderOf_81 : decode prog_9_method_37_code 81 = .ok (.iload_n 1, 1) := by decide +kernel
theorem d_M_orderOf_82 : decode prog_9_method_37_code 82 = .ok (.iaload, 1) := by decide +kernel
theorem d_M_orderOf_83 : decode prog_9_method_37_code 83 = .ok (.aload_n 0, 1) := by decide +kernel
theorem d_M_orderOf_84 : decode prog_9_method_37_code 84 = .ok (.getfield 7, 3) := by decide +kernel
theorem d_M_orderOf_87 : decode prog_9_method_37_code 87 = .ok (.iload_n 2, 1) := by decide +kernel
theorem d_M_orderOf_88 : decode prog_9_method_37_code 88 = .ok (.iaload, 1) := by decide +kernel
theorem d_M_orderOf_89 : decode prog_9_method_37_code 89 = .ok (.if_icmp .ge 7, 3) := by decide +kernel
theorem d_M_orderOf_92 : decode prog_9_method_37_code 92 = .ok (.iconst (-1), 1) := by decide +kernel
theorem d_M_orderOf_93 : decode prog_9_method_37_code 93 = .ok (.goto 4, 3) := by decide +kernel
theorem d_M_orderOf_96 : decode prog_9_method_37_code 96 = .ok (.iconst 1, 1) := by decide +kernel
theorem d_M_orderOf_97 : decode prog_9_method_37_code 97 = .ok (.ireturn, 1) := by decide +kernel
theorem d_M_orderOf_98 : decode prog_9_method_37_code 98 = .ok (.aload_n 0, 1) := by decide +kernel
theorem d_M_orderOf_99 : decode prog_9_method_37_code 99 = .ok (.getfield 13, 3) := by decide +kernel
theorem d_M_orderOf_102 : decode prog_9_method_37_code 102 = .ok (.iload_n 1, 1) := by decide +kernel
theorem d_M_orderOf_103 : decode prog_9_method_37_code 103 = .ok (.iaload, 1) := by decide +kernel
theorem d_M_orderOf_104 : decode prog_9_method_37_code 104 = .ok (.aload_n 0, 1) := by decide +kernel
theorem d_M_orderOf_105 : decode prog_9_method_37_code 105 = .ok (.getfield 13, 3) := by decide +kernel
theorem d_M_orderOf_108 : decode prog_9_method_37_code 108 = .ok (.iload_n 2, 1) := by decide +kernel
theorem d_M_orderOf_109 : decode prog_9_method_37_code 109 = .ok (.iaload, 1) := by decide +kernel
theorem d_M_orderOf_110 : decode prog_9_method_37_code 110 = .ok (.if_icmp .ge 7, 3) := by decide +kernel
theorem d_M_orderOf_113 : decode prog_9_method_37_code 113 = .ok (.iconst (-1), 1) := by decide +kernel
theorem d_M_orderOf_114 : decode prog_9_method_37_code 114 = .ok (.goto 23, 3) := by decide +kernel
theorem d_M_orderOf_117 : decode prog_9_method_37_code 117 = .ok (.aload_n 0, 1) := by decide +kernel
theorem d_M_orderOf_118 : decode prog_9_method_37_code 118 = .ok (.getfield 13, 3) := by decide +kernel
theorem d_M_orderOf_121 : decode prog_9_method_37_code 121 = .ok (.iload_n 1, 1) := by decide +kernel
theorem d_M_orderOf_122 : decode prog_9_method_37_code 122 = .ok (.iaload, 1) := by decide +kernel
theorem d_M_orderOf_123 : decode prog_9_method_37_code 123 = .ok (.aload_n 0, 1) := by decide +kernel
theorem d_M_orderOf_124 : decode prog_9_method_37_code 124 = .ok (.getfield 13, 3) := by decide +kernel
theorem d_M_orderOf_127 : decode prog_9_method_37_code 127 = .ok (.iload_n 2, 1) := by decide +kernel
theorem d_M_orderOf_128 : decode prog_9_method_37_code 128 = .ok (.iaload, 1) := by decide +kernel
theorem d_M_orderOf_129 : decode prog_9_method_37_code 129 = .ok (.if_icmp .le 7, 3) := by decide +kernel
theorem d_M_orderOf_132 : decode prog_9_method_37_code 132 = .ok (.iconst 1, 1) := by decide +kernel
theorem d_M_orderOf_133 : decode prog_9_method_37_code 133 = .ok (.goto 4, 3) := by decide +kernel
theorem d_M_orderOf_136 : decode prog_9_method_37_code 136 = .ok (.iconst 0, 1) := by decide +kernel
theorem d_M_orderOf_137 : decode prog_9_method_37_code 137 = .ok (.ireturn, 1) := by decide +kernel
def m_M_orderOf_31 (G : Nat → Nat) (s0 : Int32) (h : hp_H) : Option (Int32 × hp_H) := some (s0, h)
set_option maxRecDepth 100000 in
set_option maxHeartbeats 4000000 in
theorem j_M_orderOf_31 {Z : hp_Z} (s0 : Int32) (h : hp_H) : hp_J Y_M_orderOf Z hp_rI h 31 [] [.int s0] (m_M_orderOf_31 (hp_G Z)  s0 h) := by
  unfold m_M_orderOf_31
  exact hp_iret d_M_orderOf_31 rfl
def m_M_orderOf_97 (G : Nat → Nat) (s0 : Int32) (h : hp_H) : Option (Int32 × hp_H) := some (s0, h)
set_option maxRecDepth 100000 in
set_option maxHeartbeats 4000000 in
theorem j_M_orderOf_97 {Z : hp_Z} (s0 : Int32) (h : hp_H) : hp_J Y_M_orderOf Z hp_rI h 97 [] [.int s0] (m_M_orderOf_97 (hp_G Z)  s0 h) := by
  unfold m_M_orderOf_97
  exact hp_iret d_M_orderOf_97 rfl
def m_M_orderOf_137 (G : Nat → Nat) (s0 : Int32) (h : hp_H) : Option (Int32 × hp_H) := some (s0, h)
set_option maxRecDepth 100000 in
set_option maxHeartbeats 4000000 in
theorem j_M_orderOf_137 {Z : hp_Z} (s0 : Int32) (h : hp_H) : hp_J Y_M_orderOf Z hp_rI h 137 [] [.int s0] (m_M_orderOf_137 (hp_G Z)  s0 h) := by
  unfold m_M_orderOf_137
  exact hp_iret d_M_orderOf_137 rfl
def m_M_orderOf_55 (G : Nat → Nat) (a0 : Nat) (a1 : Int32) (a2 : Int32) (s0 : Int32) (h : hp_H) : Option (Int32 × hp_H) := hp_nm s0 fun x1 => if x1 = 0 then ((hp_gR h a0 8 1).bind fun x2 => (hp_aI h .int x2 a1).bind fun x3 => (hp_gR h a0 8 1).bind fun x4 => (hp_aI h .int x4 a2).bind fun x5 => if x3 = x5 then ((hp_gR h a0 8 2).bind fun x6 => (hp_aI h .int x6 a1).bind fun x7 => (hp_gR h a0 8 2).bind fun x8 => (hp_aI h .int x8 a2).bind fun x9 => if x9 ≤ x7 then ((hp_gR h a0 8 2).bind fun x10 => (hp_aI h .int x10 a1).bind fun x11 => (hp_gR h a0 8 2).bind fun x12 => (hp_aI h .int x12 a2).bind fun x13 => if x11 ≤ x13 then (m_M_orderOf_137 G (0 : Int32) h) else (m_M_orderOf_137 G (1 : Int32) h)) else (m_M_orderOf_137 G (-1 : Int32) h)) else ((hp_gR h a0 8 1).bind fun x14 => (hp_aI h .int x14 a1).bind fun x15 => (hp_gR h a0 8 1).bind fun x16 => (hp_aI h .int x16 a2).bind fun x17 => if x17 ≤ x15 then (m_M_orderOf_97 G (1 : Int32) h) else (m_M_orderOf_97 G (-1 : Int32) h))) else (some (x1, h))
set_option maxRecDepth 100000 in
set_option maxHeartbeats 4000000 in
theorem j_M_orderOf_55 {Z : hp_Z} (a0 : Nat) (a1 : Int32) (a2 : Int32) (s0 : Int32) (h : hp_H) : hp_J Y_M_orderOf Z hp_rI h 55 [(0, .ref a0), (1, .int a1), (2, .int a2)] [.int s0] (m_M_orderOf_55 (hp_G Z)  a0 a1 a2 s0 h) := by
  unfold m_M_orderOf_55
  refine hp_istore_n (fun x1 => [(3, .int x1), (0, .ref a0), (1, .int a1), (2, .int a2)]) d_M_orderOf_55 rfl (by decide) (fun _ => rfl) fun x1 => ?_
  refine hp_iload_n (x0 := 0) d_M_orderOf_56 rfl rfl ?_
  refine hp_if_eq (tgt := 62) d_M_orderOf_57 (by decide) ?_ ?_
  · refine hp_aload_n (x0 := 1) d_M_orderOf_62 rfl rfl ?_
    refine hp_getR fl_M_7 d_M_orderOf_63 fun x2 => ?_
    refine hp_iload_n (x0 := 2) d_M_orderOf_66 rfl rfl ?_
    refine hp_iald d_M_orderOf_67 fun x3 => ?_
    refine hp_aload_n (x0 := 1) d_M_orderOf_68 rfl rfl ?_
    refine hp_getR fl_M_7 d_M_orderOf_69 fun x4 => ?_
    refine hp_iload_n (x0 := 3) d_M_orderOf_72 rfl rfl ?_
    refine hp_iald d_M_orderOf_73 fun x5 => ?_
    refine hp_icmp_eq (tgt := 98) d_M_orderOf_74 (by decide) ?_ ?_
    · refine hp_aload_n (x0 := 1) d_M_orderOf_98 rfl rfl ?_
      refine hp_getR fl_M_13 d_M_orderOf_99 fun x6 => ?_
      refine hp_iload_n (x0 := 2) d_M_orderOf_102 rfl rfl ?_
      refine hp_iald d_M_orderOf_103 fun x7 => ?_
      refine hp_aload_n (x0 := 1) d_M_orderOf_104 rfl rfl ?_
      refine hp_getR fl_M_13 d_M_orderOf_105 fun x8 => ?_
      refine hp_iload_n (x0 := 3) d_M_orderOf_108 rfl rfl ?_
      refine hp_iald d_M_orderOf_109 fun x9 => ?_
      refine hp_icmp_ge (tgt := 117) d_M_orderOf_110 (by decide) ?_ ?_
      · refine hp_aload_n (x0 := 1) d_M_orderOf_117 rfl rfl ?_
        refine hp_getR fl_M_13 d_M_orderOf_118 fun x10 => ?_
        refine hp_iload_n (x0 := 2) d_M_orderOf_121 rfl rfl ?_
        refine hp_iald d_M_orderOf_122 fun x11 => ?_
        refine hp_aload_n (x0 := 1) d_M_orderOf_123 rfl rfl ?_
        refine hp_getR fl_M_13 d_M_orderOf_124 fun x12 => ?_
        refine hp_iload_n (x0 := 3) d_M_orderOf_127 rfl rfl ?_
        refine hp_iald d_M_orderOf_128 fun x13 => ?_
        refine hp_icmp_le (tgt := 136) d_M_orderOf_129 (by decide) ?_ ?_
        · refine hp_iconst (v := 0) d_M_orderOf_136 (by decide) ?_
          refine hp_sub [] rfl ?_
          exact j_M_orderOf_137  _ _
        · refine hp_iconst (v := 1) d_M_orderOf_132 (by decide) ?_
          refine hp_goto (tgt := 137) d_M_orderOf_133 (by decide) ?_
          refine hp_sub [] rfl ?_
          exact j_M_orderOf_137  _ _
      · refine hp_iconst (v := -1) d_M_orderOf_113 (by decide) ?_
        refine hp_goto (tgt := 137) d_M_orderOf_114 (by decide) ?_
        refine hp_sub [] rfl ?_
        exact j_M_orderOf_137  _ _
    · refine hp_aload_n (x0 := 1) d_M_orderOf_77 rfl rfl ?_
      refine hp_getR fl_M_7 d_M_orderOf_78 fun x14 => ?_
      refine hp_iload_n (x0 := 2) d_M_orderOf_81 rfl rfl ?_
      refine hp_iald d_M_orderOf_82 fun x15 => ?_
      refine hp_aload_n (x0 := 1) d_M_orderOf_83 rfl rfl ?_
      refine hp_getR fl_M_7 d_M_orderOf_84 fun x16 => ?_
      refine hp_iload_n (x0 := 3) d_M_orderOf_87 rfl rfl ?_
      refine hp_iald d_M_orderOf_88 fun x17 => ?_
      refine hp_icmp_ge (tgt := 96) d_M_orderOf_89 (by decide) ?_ ?_
      · refine hp_iconst (v := 1) d_M_orderOf_96 (by decide) ?_
        refine hp_sub [] rfl ?_
        exact j_M_orderOf_97  _ _
      · refine hp_iconst (v := -1) d_M_orderOf_92 (by decide) ?_
        refine hp_goto (tgt := 97) d_M_orderOf_93 (by decide) ?_
        refine hp_sub [] rfl ?_
        exact j_M_orderOf_97  _ _
  · refine hp_iload_n (x0 := 0) d_M_orderOf_60 rfl rfl ?_
    exact hp_iret d_M_orderOf_61 rfl
def m_M_orderOf (G : Nat → Nat) (a0 : Nat) (a1 : Int32) (a2 : Int32) (h : hp_H) : Option (Int32 × hp_H) := (hp_vck h a0 8 (m_M_rank G a0 a1 h)).bind fun q1 => (hp_vck q1.2 a0 8 (m_M_rank G a0 a2 q1.2)).bind fun q2 => if q1.1 = q2.1 then ((hp_vck q2.2 a0 8 (m_M_isNumber G a0 a1 q2.2)).bind fun q3 => if q3.1 = 0 then ((hp_vck q3.2 a0 8 (m_M_orderBytes G a0 a1 a2 q3.2)).bind fun q4 => m_M_orderOf_55 G a0 a1 a2 q4.1 q4.2) else ((hp_vck q3.2 a0 8 (m_M_orderNumbers G a0 a1 a2 q3.2)).bind fun q5 => m_M_orderOf_55 G a0 a1 a2 q5.1 q5.2)) else ((hp_vck q2.2 a0 8 (m_M_rank G a0 a1 q2.2)).bind fun q6 => (hp_vck q6.2 a0 8 (m_M_rank G a0 a2 q6.2)).bind fun q7 => if q7.1 ≤ q6.1 then (m_M_orderOf_31 G (1 : Int32) q7.2) else (m_M_orderOf_31 G (-1 : Int32) q7.2))
set_option maxRecDepth 100000 in
set_option maxHeartbeats 4000000 in
theorem j_M_orderOf_0 {Z : hp_Z} (a0 : Nat) (a1 : Int32) (a2 : Int32) (h : hp_H) : hp_J Y_M_orderOf Z hp_rI h 0 [(0, .ref a0), (1, .int a1), (2, .int a2)] [] (m_M_orderOf (hp_G Z)  a0 a1 a2 h) := by
  unfold m_M_orderOf
  refine hp_aload_n (x0 := 0) d_M_orderOf_0 rfl rfl ?_
  refine hp_iload_n (x0 := 1) d_M_orderOf_1 rfl rfl ?_
  refine hp_callI (hp_crV (ci := 8) (t_M_rank _ _ _ _) cw_M_164 rfl ⟨w_1048, ws_46⟩ (by decide) rfl rfl (Nat.le_of_ble_eq_true rfl) d_M_orderOf_2) fun q1 => ?_
  refine hp_aload_n (x0 := 0) d_M_orderOf_5 rfl rfl ?_
  refine hp_iload_n (x0 := 2) d_M_orderOf_6 rfl rfl ?_
  refine hp_callI (hp_crV (ci := 8) (t_M_rank _ _ _ _) cw_M_164 rfl ⟨w_1048, ws_46⟩ (by decide) rfl rfl (Nat.le_of_ble_eq_true rfl) d_M_orderOf_7) fun q2 => ?_
  refine hp_icmp_eq (tgt := 32) d_M_orderOf_10 (by decide) ?_ ?_
  · refine hp_aload_n (x0 := 0) d_M_orderOf_32 rfl rfl ?_
    refine hp_iload_n (x0 := 1) d_M_orderOf_33 rfl rfl ?_
    refine hp_callI (hp_crV (ci := 8) (t_M_isNumber _ _ _ _) cw_M_168 rfl ⟨w_1052, ws_47⟩ (by decide) rfl rfl (Nat.le_of_ble_eq_true rfl) d_M_orderOf_34) fun q3 => ?_
    refine hp_if_eq (tgt := 49) d_M_orderOf_37 (by decide) ?_ ?_
    · refine hp_aload_n (x0 := 0) d_M_orderOf_49 rfl rfl ?_
      refine hp_iload_n (x0 := 1) d_M_orderOf_50 rfl rfl ?_
      refine hp_iload_n (x0 := 2) d_M_orderOf_51 rfl rfl ?_
      refine hp_callI (hp_crV (ci := 8) (t_M_orderBytes _ _ _ _ _) cw_M_175 rfl ⟨w_1067, ws_50⟩ (by decide) rfl rfl (Nat.le_of_ble_eq_true rfl) d_M_orderOf_52) fun q4 => ?_
      exact j_M_orderOf_55  _ _ _ _ _
    · refine hp_aload_n (x0 := 0) d_M_orderOf_40 rfl rfl ?_
      refine hp_iload_n (x0 := 1) d_M_orderOf_41 rfl rfl ?_
      refine hp_iload_n (x0 := 2) d_M_orderOf_42 rfl rfl ?_
      refine hp_callI (hp_crV (ci := 8) (t_M_orderNumbers _ _ _ _ _) cw_M_171 rfl ⟨w_1056, ws_48⟩ (by decide) rfl rfl (Nat.le_of_ble_eq_true rfl) d_M_orderOf_43) fun q5 => ?_
      refine hp_goto (tgt := 55) d_M_orderOf_46 (by decide) ?_
      exact j_M_orderOf_55  _ _ _ _ _
  · refine hp_aload_n (x0 := 0) d_M_orderOf_13 rfl rfl ?_
    refine hp_iload_n (x0 := 1) d_M_orderOf_14 rfl rfl ?_
    refine hp_callI (hp_crV (ci := 8) (t_M_rank _ _ _ _) cw_M_164 rfl ⟨w_1048, ws_46⟩ (by decide) rfl rfl (Nat.le_of_ble_eq_true rfl) d_M_orderOf_15) fun q6 => ?_
    refine hp_aload_n (x0 := 0) d_M_orderOf_18 rfl rfl ?_
    refine hp_iload_n (x0 := 2) d_M_orderOf_19 rfl rfl ?_
    refine hp_callI (hp_crV (ci := 8) (t_M_rank _ _ _ _) cw_M_164 rfl ⟨w_1048, ws_46⟩ (by decide) rfl rfl (Nat.le_of_ble_eq_true rfl) d_M_orderOf_20) fun q7 => ?_
    refine hp_icmp_ge (tgt := 30) d_M_orderOf_23 (by decide) ?_ ?_
    · refine hp_iconst (v := 1) d_M_orderOf_30 (by decide) ?_
      refine hp_sub [] rfl ?_
      exact j_M_orderOf_31  _ _
    · refine hp_iconst (v := -1) d_M_orderOf_26 (by decide) ?_
      refine hp_goto (tgt := 31) d_M_orderOf_27 (by decide) ?_
      refine hp_sub [] rfl ?_
      exact j_M_orderOf_31  _ _
theorem t_M_orderOf (l : Launch) (E : hp_E) (a0 : Nat) (a1 : Int32) (a2 : Int32) : hp_M l E y_M_orderOf Y_M_orderOf hp_rI [.ref a0, .int a1, .int a2] (m_M_orderOf E.2.2.1 a0 a1 a2) := hp_M.of (by decide +kernel) ⟨rfl, rfl⟩ (Nat.le_of_ble_eq_true rfl) (fun Z h hE => by subst hE; exact j_M_orderOf_0 _ _ _ h)
-- M_order
theorem d_M_order_0 : decode prog_9_method_38_code 0 = .ok (.aload_n 0, 1) := by decide +kernel
theorem d_M_order_1 : decode prog_9_method_38_code 1 = .ok (.iload_n 1, 1) := by decide +kernel
theorem d_M_order_2 : decode prog_9_method_38_code 2 = .ok (.invokevirtual 161, 3) := by decide +kernel
theorem d_M_order_5 : decode prog_9_method_38_code 5 = .ok (.ifCond .eq 20, 3) := by decide +kernel
theorem d_M_order_8 : decode prog_9_method_38_code 8 = .ok (.aload_n 0, 1) := by decide +kernel
theorem d_M_order_9 : decode prog_9_method_38_code 9 = .ok (.iload_n 2, 1) := by decide +kernel
theorem d_M_order_10 : decode prog_9_method_38_code 10 = .ok (.invokevirtual 161, 3) := by decide +kernel
theorem d_M_order_13 : decode prog_9_method_38_code 13 = .ok (.ifCond .eq 12, 3) := by decide +kernel
theorem d_M_order_16 : decode prog_9_method_38_code 16 = .ok (.aload_n 0, 1) := by decide +kernel
theorem d_M_order_17 : decode prog_9_method_38_code 17 = .ok (.iload_n 1, 1) := by decide +kernel
theorem d_M_order_18 : decode prog_9_method_38_code 18 = .ok (.iload_n 2, 1) := by decide +kernel
theorem d_M_order_19 : decode prog_9_method_38_code 19 = .ok (.invokevirtual 178, 3) := by decide +kernel
theorem d_M_order_22 : decode prog_9_method_38_code 22 = .ok (.goto 4, 3) := by decide +kernel
theorem d_M_order_25 : decode prog_9_method_38_code 25 = .ok (.iconst 2, 1) := by decide +kernel
theorem d_M_order_26 : decode prog_9_method_38_code 26 = .ok (.ireturn, 1) := by decide +kernel
def m_M_order_26 (G : Nat → Nat) (s0 : Int32) (h : hp_H) : Option (Int32 × hp_H) := some (s0, h)
set_option maxRecDepth 100000 in
set_option maxHeartbeats 4000000 in
theorem j_M_order_26 {Z : hp_Z} (s0 : Int32) (h : hp_H) : hp_J Y_M_order Z hp_rI h 26 [] [.int s0] (m_M_order_26 (hp_G Z)  s0 h) := by
  unfold m_M_order_26
  exact hp_iret d_M_order_26 rfl
def m_M_order_25 (G : Nat → Nat) (h : hp_H) : Option (Int32 × hp_H) := m_M_order_26 G (2 : Int32) h
set_option maxRecDepth 100000 in
set_option maxHeartbeats 4000000 in
theorem j_M_order_25 {Z : hp_Z} (h : hp_H) : hp_J Y_M_order Z hp_rI h 25 [] [] (m_M_order_25 (hp_G Z)   h) := by
  unfold m_M_order_25
  refine hp_iconst (v := 2) d_M_order_25 (by decide) ?_
  exact j_M_order_26  _ _
def m_M_order (G : Nat → Nat) (a0 : Nat) (a1 : Int32) (a2 : Int32) (h : hp_H) : Option (Int32 × hp_H) := (hp_vck h a0 8 (m_M_isValue G a0 a1 h)).bind fun q1 => if q1.1 = 0 then (m_M_order_25 G q1.2) else ((hp_vck q1.2 a0 8 (m_M_isValue G a0 a2 q1.2)).bind fun q2 => if q2.1 = 0 then (m_M_order_25 G q2.2) else ((hp_vck q2.2 a0 8 (m_M_orderOf G a0 a1 a2 q2.2)).bind fun q3 => m_M_order_26 G q3.1 q3.2))
set_option maxRecDepth 100000 in
set_option maxHeartbeats 4000000 in
theorem j_M_order_0 {Z : hp_Z} (a0 : Nat) (a1 : Int32) (a2 : Int32) (h : hp_H) : hp_J Y_M_order Z hp_rI h 0 [(0, .ref a0), (1, .int a1), (2, .int a2)] [] (m_M_order (hp_G Z)  a0 a1 a2 h) := by
  unfold m_M_order
  refine hp_aload_n (x0 := 0) d_M_order_0 rfl rfl ?_
  refine hp_iload_n (x0 := 1) d_M_order_1 rfl rfl ?_
  refine hp_callI (hp_crV (ci := 8) (t_M_isValue _ _ _ _) cw_M_161 rfl ⟨w_1024, ws_44⟩ (by decide) rfl rfl (Nat.le_of_ble_eq_true rfl) d_M_order_2) fun q1 => ?_
  refine hp_if_eq (tgt := 25) d_M_order_5 (by decide) ?_ ?_
  · refine hp_sub [] rfl ?_
    exact j_M_order_25   _
  · refine hp_aload_n (x0 := 0) d_M_order_8 rfl rfl ?_
    refine hp_iload_n (x0 := 2) d_M_order_9 rfl rfl ?_
    refine hp_callI (hp_crV (ci := 8) (t_M_isValue _ _ _ _) cw_M_161 rfl ⟨w_1024, ws_44⟩ (by decide) rfl rfl (Nat.le_of_ble_eq_true rfl) d_M_order_10) fun q2 => ?_
    refine hp_if_eq (tgt := 25) d_M_order_13 (by decide) ?_ ?_
    · refine hp_sub [] rfl ?_
      exact j_M_order_25   _
    · refine hp_aload_n (x0 := 0) d_M_order_16 rfl rfl ?_
      refine hp_iload_n (x0 := 1) d_M_order_17 rfl rfl ?_
      refine hp_iload_n (x0 := 2) d_M_order_18 rfl rfl ?_
      refine hp_callI (hp_crV (ci := 8) (t_M_orderOf _ _ _ _ _) cw_M_178 rfl ⟨w_1044, ws_45⟩ (by decide) rfl rfl (Nat.le_of_ble_eq_true rfl) d_M_order_19) fun q3 => ?_
      refine hp_goto (tgt := 26) d_M_order_22 (by decide) ?_
      refine hp_sub [] rfl ?_
      exact j_M_order_26  _ _
theorem t_M_order (l : Launch) (E : hp_E) (a0 : Nat) (a1 : Int32) (a2 : Int32) : hp_M l E y_M_order Y_M_order hp_rI [.ref a0, .int a1, .int a2] (m_M_order E.2.2.1 a0 a1 a2) := hp_M.of (by decide +kernel) ⟨rfl, rfl⟩ (Nat.le_of_ble_eq_true rfl) (fun Z h hE => by subst hE; exact j_M_order_0 _ _ _ h)
-- M_word
theorem d_M_word_0 : decode prog_9_method_58_code 0 = .ok (.iload_n 1, 1) := by decide +kernel
theorem d_M_word_1 : decode prog_9_method_58_code 1 = .ok (.ifCond .lt 47, 3) := by decide +kernel
theorem d_M_word_4 : decode prog_9_method_58_code 4 = .ok (.iload_n 1, 1) := by decide +kernel
theorem d_M_word_5 : decode prog_9_method_58_code 5 = .ok (.bipush 41, 2) := by decide +kernel
theorem d_M_word_7 : decode prog_9_method_58_code 7 = .ok (.if_icmp .gt 41, 3) := by decide +kernel
theorem d_M_word_10 : decode prog_9_method_58_code 10 = .ok (.iload_n 1, 1) := by decide +kernel
theorem d_M_word_11 : decode prog_9_method_58_code 11 = .ok (.bipush 23, 2) := by decide +kernel
theorem d_M_word_13 : decode prog_9_method_58_code 13 = .ok (.if_icmp .eq 15, 3) := by decide +kernel
theorem d_M_word_16 : decode prog_9_method_58_code 16 = .ok (.iload_n 1, 1) := by decide +kernel
theorem d_M_word_17 : decode prog_9_method_58_code 17 = .ok (.bipush 24, 2) := by decide +kernel
theorem d_M_word_19 : decode prog_9_method_58_code 19 = .ok (.if_icmp .eq 9, 3) := by decide +kernel
theorem d_M_word_22 : decode prog_9_method_58_code 22 = .ok (.iload_n 1, 1) := by decide +kernel
theorem d_M_word_23 : decode prog_9_method_58_code 23 = .ok (.bipush 29, 2) := by decide +kernel
theorem d_M_word_25 : decode prog_9_method_58_code 25 = .ok (.if_icmp .ne 13, 3) := by decide +kernel
theorem d_M_word_28 : decode prog_9_method_58_code 28 = .ok (.iload_n 2, 1) := by decide +kernel
theorem d_M_word_29 : decode prog_9_method_58_code 29 = .ok (.bipush 20, 2) := by decide +kernel
theorem d_M_word_31 : decode prog_9_method_58_code 31 = .ok (.if_icmp .gt 17, 3) := by decide +kernel
theorem d_M_word_34 : decode prog_9_method_58_code 34 = .ok (.iload_n 2, 1) := by decide +kernel
theorem d_M_word_35 : decode prog_9_method_58_code 35 = .ok (.ifCond .lt 13, 3) := by decide +kernel
theorem d_M_word_38 : decode prog_9_method_58_code 38 = .ok (.iload_n 1, 1) := by decide +kernel
theorem d_M_word_39 : decode prog_9_method_58_code 39 = .ok (.bipush 23, 2) := by decide +kernel
theorem d_M_word_41 : decode prog_9_method_58_code 41 = .ok (.if_icmp .ne 9, 3) := by decide +kernel
theorem d_M_word_44 : decode prog_9_method_58_code 44 = .ok (.iload_n 2, 1) := by decide +kernel
theorem d_M_word_45 : decode prog_9_method_58_code 45 = .ok (.ifCond .ne 5, 3) := by decide +kernel
theorem d_M_word_48 : decode prog_9_method_58_code 48 = .ok (.iconst (-1), 1) := by decide +kernel
theorem d_M_word_49 : decode prog_9_method_58_code 49 = .ok (.ireturn, 1) := by decide +kernel
theorem d_M_word_50 : decode prog_9_method_58_code 50 = .ok (.aload_n 0, 1) := by decide +kernel
theorem d_M_word_51 : decode prog_9_method_58_code 51 = .ok (.getfield 238, 3) := by decide +kernel
theorem d_M_word_54 : decode prog_9_method_58_code 54 = .ok (.bipush 100, 2) := by decide +kernel
theorem d_M_word_56 : decode prog_9_method_58_code 56 = .ok (.if_icmp .ne 6, 3) := by decide +kernel
theorem d_M_word_59 : decode prog_9_method_58_code 59 = .ok (.bipush (-3), 2) := by decide +kernel
theorem d_M_word_61 : decode prog_9_method_58_code 61 = .ok (.ireturn, 1) := by decide +kernel
theorem d_M_word_62 : decode prog_9_method_58_code 62 = .ok (.aload_n 0, 1) := by decide +kernel
theorem d_M_word_63 : decode prog_9_method_58_code 63 = .ok (.getfield 51, 3) := by decide +kernel
theorem d_M_word_66 : decode prog_9_method_58_code 66 = .ok (.aload_n 0, 1) := by decide +kernel
theorem d_M_word_67 : decode prog_9_method_58_code 67 = .ok (.getfield 238, 3) := by decide +kernel
theorem d_M_word_70 : decode prog_9_method_58_code 70 = .ok (.iload_n 1, 1) := by decide +kernel
theorem d_M_word_71 : decode prog_9_method_58_code 71 = .ok (.iastore, 1) := by decide +kernel
theorem d_M_word_72 : decode prog_9_method_58_code 72 = .ok (.aload_n 0, 1) := by decide +kernel
theorem d_M_word_73 : decode prog_9_method_58_code 73 = .ok (.getfield 54, 3) := by decide +kernel
theorem d_M_word_76 : decode prog_9_method_58_code 76 = .ok (.aload_n 0, 1) := by decide +kernel
theorem d_M_word_77 : decode prog_9_method_58_code 77 = .ok (.getfield 238, 3) := by decide +kernel
theorem d_M_word_80 : decode prog_9_method_58_code 80 = .ok (.iload_n 2, 1) := by decide +kernel
theorem d_M_word_81 : decode prog_9_method_58_code 81 = .ok (.iastore, 1) := by decide +kernel
theorem d_M_word_82 : decode prog_9_method_58_code 82 = .ok (.aload_n 0, 1) := by decide +kernel
theorem d_M_word_83 : decode prog_9_method_58_code 83 = .ok (.dup, 1) := by decide +kernel
theorem d_M_word_84 : decode prog_9_method_58_code 84 = .ok (.getfield 238, 3) := by decide +kernel
theorem d_M_word_87 : decode prog_9_method_58_code 87 = .ok (.iconst 1, 1) := by decide +kernel
theorem d_M_word_88 : decode prog_9_method_58_code 88 = .ok (.iadd, 1) := by decide +kernel
theorem d_M_word_89 : decode prog_9_method_58_code 89 = .ok (.putfield 238, 3) := by decide +kernel
theorem d_M_word_92 : decode prog_9_method_58_code 92 = .ok (.aload_n 0, 1) := by decide +kernel
theorem d_M_word_93 : decode prog_9_method_58_code 93 = .ok (.getfield 238, 3) := by decide +kernel
theorem d_M_word_96 : decode prog_9_method_58_code 96 = .ok (.ireturn, 1) := by decide +kernel
def m_M_word_48 (G : Nat → Nat) (h : hp_H) : Option (Int32 × hp_H) := some ((-1 : Int32), h)
set_option maxRecDepth 100000 in
set_option maxHeartbeats 4000000 in
theorem j_M_word_48 {Z : hp_Z} (h : hp_H) : hp_J Y_M_word Z hp_rI h 48 [] [] (m_M_word_48 (hp_G Z)   h) := by
  unfold m_M_word_48
  refine hp_iconst (v := -1) d_M_word_48 (by decide) ?_
  exact hp_iret d_M_word_49 rfl
def m_M_word_50 (G : Nat → Nat) (a0 : Nat) (a1 : Int32) (a2 : Int32) (h : hp_H) : Option (Int32 × hp_H) := (hp_gI h a0 8 22).bind fun x1 => if x1 = (100 : Int32) then (some ((-3 : Int32), h)) else ((hp_gR h a0 8 20).bind fun x2 => (hp_gI h a0 8 22).bind fun x3 => (hp_sI h .int x2 x3 a1).bind fun h4 => (hp_gR h4 a0 8 21).bind fun x5 => (hp_gI h4 a0 8 22).bind fun x6 => (hp_sI h4 .int x5 x6 a2).bind fun h7 => (hp_gI h7 a0 8 22).bind fun x8 => (hp_p h7 a0 8 22 (.int (x8 + (1 : Int32)))).bind fun h9 => (hp_gI h9 a0 8 22).bind fun x10 => some (x10, h9))
set_option maxRecDepth 100000 in
set_option maxHeartbeats 4000000 in
theorem j_M_word_50 {Z : hp_Z} (a0 : Nat) (a1 : Int32) (a2 : Int32) (h : hp_H) : hp_J Y_M_word Z hp_rI h 50 [(0, .ref a0), (1, .int a1), (2, .int a2)] [] (m_M_word_50 (hp_G Z)  a0 a1 a2 h) := by
  unfold m_M_word_50
  refine hp_aload_n (x0 := 0) d_M_word_50 rfl rfl ?_
  refine hp_getI fl_M_238 d_M_word_51 fun x1 => ?_
  refine hp_bipush (v := 100) d_M_word_54 (by decide) ?_
  refine hp_icmp_ne (tgt := 62) d_M_word_56 (by decide) ?_ ?_
  · refine hp_bipush (v := -3) d_M_word_59 (by decide) ?_
    exact hp_iret d_M_word_61 rfl
  · refine hp_aload_n (x0 := 0) d_M_word_62 rfl rfl ?_
    refine hp_getR fl_M_51 d_M_word_63 fun x2 => ?_
    refine hp_aload_n (x0 := 0) d_M_word_66 rfl rfl ?_
    refine hp_getI fl_M_238 d_M_word_67 fun x3 => ?_
    refine hp_iload_n (x0 := 1) d_M_word_70 rfl rfl ?_
    refine hp_iast d_M_word_71 fun h4 => ?_
    refine hp_aload_n (x0 := 0) d_M_word_72 rfl rfl ?_
    refine hp_getR fl_M_54 d_M_word_73 fun x5 => ?_
    refine hp_aload_n (x0 := 0) d_M_word_76 rfl rfl ?_
    refine hp_getI fl_M_238 d_M_word_77 fun x6 => ?_
    refine hp_iload_n (x0 := 2) d_M_word_80 rfl rfl ?_
    refine hp_iast d_M_word_81 fun h7 => ?_
    refine hp_aload_n (x0 := 0) d_M_word_82 rfl rfl ?_
    refine hp_dup d_M_word_83 rfl ?_
    refine hp_getI fl_M_238 d_M_word_84 fun x8 => ?_
    refine hp_iconst (v := 1) d_M_word_87 (by decide) ?_
    refine hp_iadd d_M_word_88 ?_
    refine hp_put fl_M_238 (fun q => by cases q) rfl rfl d_M_word_89 fun h9 => ?_
    refine hp_aload_n (x0 := 0) d_M_word_92 rfl rfl ?_
    refine hp_getI fl_M_238 d_M_word_93 fun x10 => ?_
    exact hp_iret d_M_word_96 rfl
def m_M_word_38 (G : Nat → Nat) (a0 : Nat) (a1 : Int32) (a2 : Int32) (h : hp_H) : Option (Int32 × hp_H) := if a1 = (23 : Int32) then (if a2 = 0 then (m_M_word_48 G h) else (m_M_word_50 G a0 a1 a2 h)) else (m_M_word_50 G a0 a1 a2 h)
set_option maxRecDepth 100000 in
set_option maxHeartbeats 4000000 in
theorem j_M_word_38 {Z : hp_Z} (a0 : Nat) (a1 : Int32) (a2 : Int32) (h : hp_H) : hp_J Y_M_word Z hp_rI h 38 [(0, .ref a0), (1, .int a1), (2, .int a2)] [] (m_M_word_38 (hp_G Z)  a0 a1 a2 h) := by
  unfold m_M_word_38
  refine hp_iload_n (x0 := 1) d_M_word_38 rfl rfl ?_
  refine hp_bipush (v := 23) d_M_word_39 (by decide) ?_
  refine hp_icmp_ne (tgt := 50) d_M_word_41 (by decide) ?_ ?_
  · refine hp_iload_n (x0 := 2) d_M_word_44 rfl rfl ?_
    refine hp_if_ne (tgt := 50) d_M_word_45 (by decide) ?_ ?_
    · refine hp_sub [] rfl ?_
      exact j_M_word_48   _
    · exact j_M_word_50  _ _ _ _
  · exact j_M_word_50  _ _ _ _
def m_M_word_28 (G : Nat → Nat) (a0 : Nat) (a1 : Int32) (a2 : Int32) (h : hp_H) : Option (Int32 × hp_H) := if (20 : Int32) < a2 then (m_M_word_48 G h) else (if a2 < 0 then (m_M_word_48 G h) else (m_M_word_38 G a0 a1 a2 h))
set_option maxRecDepth 100000 in
set_option maxHeartbeats 4000000 in
theorem j_M_word_28 {Z : hp_Z} (a0 : Nat) (a1 : Int32) (a2 : Int32) (h : hp_H) : hp_J Y_M_word Z hp_rI h 28 [(0, .ref a0), (1, .int a1), (2, .int a2)] [] (m_M_word_28 (hp_G Z)  a0 a1 a2 h) := by
  unfold m_M_word_28
  refine hp_iload_n (x0 := 2) d_M_word_28 rfl rfl ?_
  refine hp_bipush (v := 20) d_M_word_29 (by decide) ?_
  refine hp_icmp_gt (tgt := 48) d_M_word_31 (by decide) ?_ ?_
  · refine hp_sub [] rfl ?_
    exact j_M_word_48   _
  · refine hp_iload_n (x0 := 2) d_M_word_34 rfl rfl ?_
    refine hp_if_lt (tgt := 48) d_M_word_35 (by decide) ?_ ?_
    · refine hp_sub [] rfl ?_
      exact j_M_word_48   _
    · exact j_M_word_38  _ _ _ _
def m_M_word (G : Nat → Nat) (a0 : Nat) (a1 : Int32) (a2 : Int32) (h : hp_H) : Option (Int32 × hp_H) := if a1 < 0 then (m_M_word_48 G h) else (if (41 : Int32) < a1 then (m_M_word_48 G h) else (if a1 = (23 : Int32) then (m_M_word_28 G a0 a1 a2 h) else (if a1 = (24 : Int32) then (m_M_word_28 G a0 a1 a2 h) else (if a1 = (29 : Int32) then (m_M_word_28 G a0 a1 a2 h) else (m_M_word_38 G a0 a1 a2 h)))))
set_option maxRecDepth 100000 in
set_option maxHeartbeats 4000000 in
theorem j_M_word_0 {Z : hp_Z} (a0 : Nat) (a1 : Int32) (a2 : Int32) (h : hp_H) : hp_J Y_M_word Z hp_rI h 0 [(0, .ref a0), (1, .int a1), (2, .int a2)] [] (m_M_word (hp_G Z)  a0 a1 a2 h) := by
  unfold m_M_word
  refine hp_iload_n (x0 := 1) d_M_word_0 rfl rfl ?_
  refine hp_if_lt (tgt := 48) d_M_word_1 (by decide) ?_ ?_
  · refine hp_sub [] rfl ?_
    exact j_M_word_48   _
  · refine hp_iload_n (x0 := 1) d_M_word_4 rfl rfl ?_
    refine hp_bipush (v := 41) d_M_word_5 (by decide) ?_
    refine hp_icmp_gt (tgt := 48) d_M_word_7 (by decide) ?_ ?_
    · refine hp_sub [] rfl ?_
      exact j_M_word_48   _
    · refine hp_iload_n (x0 := 1) d_M_word_10 rfl rfl ?_
      refine hp_bipush (v := 23) d_M_word_11 (by decide) ?_
      refine hp_icmp_eq (tgt := 28) d_M_word_13 (by decide) ?_ ?_
      · exact j_M_word_28  _ _ _ _
      · refine hp_iload_n (x0 := 1) d_M_word_16 rfl rfl ?_
        refine hp_bipush (v := 24) d_M_word_17 (by decide) ?_
        refine hp_icmp_eq (tgt := 28) d_M_word_19 (by decide) ?_ ?_
        · exact j_M_word_28  _ _ _ _
        · refine hp_iload_n (x0 := 1) d_M_word_22 rfl rfl ?_
          refine hp_bipush (v := 29) d_M_word_23 (by decide) ?_
          refine hp_icmp_ne (tgt := 38) d_M_word_25 (by decide) ?_ ?_
          · exact j_M_word_28  _ _ _ _
          · exact j_M_word_38  _ _ _ _
theorem t_M_word (l : Launch) (E : hp_E) (a0 : Nat) (a1 : Int32) (a2 : Int32) : hp_M l E y_M_word Y_M_word hp_rI [.ref a0, .int a1, .int a2] (m_M_word E.2.2.1 a0 a1 a2) := hp_M.of (by decide +kernel) ⟨rfl, rfl⟩ (Nat.le_of_ble_eq_true rfl) (fun Z h hE => by subst hE; exact j_M_word_0 _ _ _ h)
-- M_begin
theorem d_M_begin_0 : decode prog_9_method_59_code 0 = .ok (.aload_n 0, 1) := by decide +kernel
theorem d_M_begin_1 : decode prog_9_method_59_code 1 = .ok (.getfield 238, 3) := by decide +kernel
theorem d_M_begin_4 : decode prog_9_method_59_code 4 = .ok (.istore_n 1, 1) := by decide +kernel
theorem d_M_begin_5 : decode prog_9_method_59_code 5 = .ok (.aload_n 0, 1) := by decide +kernel
theorem d_M_begin_6 : decode prog_9_method_59_code 6 = .ok (.iconst 0, 1) := by decide +kernel
theorem d_M_begin_7 : decode prog_9_method_59_code 7 = .ok (.putfield 238, 3) := by decide +kernel
theorem d_M_begin_10 : decode prog_9_method_59_code 10 = .ok (.iload_n 1, 1) := by decide +kernel
theorem d_M_begin_11 : decode prog_9_method_59_code 11 = .ok (.ireturn, 1) := by decide +kernel
def m_M_begin (G : Nat → Nat) (a0 : Nat) (h : hp_H) : Option (Int32 × hp_H) := (hp_gI h a0 8 22).bind fun x1 => hp_nm x1 fun x2 => (hp_p h a0 8 22 (.int (0 : Int32))).bind fun h3 => some (x2, h3)
set_option maxRecDepth 100000 in
set_option maxHeartbeats 4000000 in
theorem j_M_begin_0 {Z : hp_Z} (a0 : Nat) (h : hp_H) : hp_J Y_M_begin Z hp_rI h 0 [(0, .ref a0)] [] (m_M_begin (hp_G Z)  a0 h) := by
  unfold m_M_begin
  refine hp_aload_n (x0 := 0) d_M_begin_0 rfl rfl ?_
  refine hp_getI fl_M_238 d_M_begin_1 fun x1 => ?_
  refine hp_istore_n (fun x2 => [(1, .int x2), (0, .ref a0)]) d_M_begin_4 rfl (by decide) (fun _ => rfl) fun x2 => ?_
  refine hp_aload_n (x0 := 1) d_M_begin_5 rfl rfl ?_
  refine hp_iconst (v := 0) d_M_begin_6 (by decide) ?_
  refine hp_put fl_M_238 (fun q => by cases q) rfl rfl d_M_begin_7 fun h3 => ?_
  refine hp_iload_n (x0 := 0) d_M_begin_10 rfl rfl ?_
  exact hp_iret d_M_begin_11 rfl
theorem t_M_begin (l : Launch) (E : hp_E) (a0 : Nat) : hp_M l E y_M_begin Y_M_begin hp_rI [.ref a0] (m_M_begin E.2.2.1 a0) := hp_M.of (by decide +kernel) ⟨rfl, rfl⟩ (Nat.le_of_ble_eq_true rfl) (fun Z h hE => by subst hE; exact j_M_begin_0 _ h)
-- M_bind
theorem d_M_bind_0 : decode prog_9_method_60_code 0 = .ok (.iload_n 1, 1) := by decide +kernel
theorem d_M_bind_1 : decode prog_9_method_60_code 1 = .ok (.ifCond .lt 21, 3) := by decide +kernel
theorem d_M_bind_4 : decode prog_9_method_60_code 4 = .ok (.iload_n 1, 1) := by decide +kernel
theorem d_M_bind_5 : decode prog_9_method_60_code 5 = .ok (.bipush 9, 2) := by decide +kernel
theorem d_M_bind_7 : decode prog_9_method_60_code 7 = .ok (.if_icmp .gt 15, 3) := by decide +kernel
theorem d_M_bind_10 : decode prog_9_method_60_code 10 = .ok (.iload_n 2, 1) := by decide +kernel
theorem d_M_bind_11 : decode prog_9_method_60_code 11 = .ok (.ifCond .lt 11, 3) := by decide +kernel
theorem d_M_bind_14 : decode prog_9_method_60_code 14 = .ok (.iload_n 2, 1) := by decide +kernel
theorem d_M_bind_15 : decode prog_9_method_60_code 15 = .ok (.aload_n 0, 1) := by decide +kernel
theorem d_M_bind_16 : decode prog_9_method_60_code 16 = .ok (.getfield 88, 3) := by decide +kernel
theorem d_M_bind_19 : decode prog_9_method_60_code 19 = .ok (.if_icmp .le 5, 3) := by decide +kernel
theorem d_M_bind_22 : decode prog_9_method_60_code 22 = .ok (.iconst 0, 1) := by decide +kernel
theorem d_M_bind_23 : decode prog_9_method_60_code 23 = .ok (.ireturn, 1) := by decide +kernel
theorem d_M_bind_24 : decode prog_9_method_60_code 24 = .ok (.aload_n 0, 1) := by decide +kernel
theorem d_M_bind_25 : decode prog_9_method_60_code 25 = .ok (.getfield 57, 3) := by decide +kernel
theorem d_M_bind_28 : decode prog_9_method_60_code 28 = .ok (.iload_n 1, 1) := by decide +kernel
theorem d_M_bind_29 : decode prog_9_method_60_code 29 = .ok (.iload_n 2, 1) := by decide +kernel
theorem d_M_bind_30 : decode prog_9_method_60_code 30 = .ok (.iastore, 1) := by decide +kernel
theorem d_M_bind_31 : decode prog_9_method_60_code 31 = .ok (.iconst 1, 1) := by decide +kernel
theorem d_M_bind_32 : decode prog_9_method_60_code 32 = .ok (.ireturn, 1) := by decide +kernel
def m_M_bind_22 (G : Nat → Nat) (h : hp_H) : Option (Int32 × hp_H) := hp_z (0 : Int32) h
set_option maxRecDepth 100000 in
set_option maxHeartbeats 4000000 in
theorem j_M_bind_22 {Z : hp_Z} (h : hp_H) : hp_J Y_M_bind Z hp_rI h 22 [] [] (m_M_bind_22 (hp_G Z)   h) := by
  unfold m_M_bind_22
  refine hp_iconst (v := 0) d_M_bind_22 (by decide) ?_
  exact hp_zret d_M_bind_23 rfl
def m_M_bind (G : Nat → Nat) (a0 : Nat) (a1 : Int32) (a2 : Int32) (h : hp_H) : Option (Int32 × hp_H) := if a1 < 0 then (m_M_bind_22 G h) else (if (9 : Int32) < a1 then (m_M_bind_22 G h) else (if a2 < 0 then (m_M_bind_22 G h) else ((hp_gI h a0 8 0).bind fun x1 => if a2 ≤ x1 then ((hp_gR h a0 8 23).bind fun x2 => (hp_sI h .int x2 a1 a2).bind fun h3 => hp_z (1 : Int32) h3) else (m_M_bind_22 G h))))
set_option maxRecDepth 100000 in
set_option maxHeartbeats 4000000 in
theorem j_M_bind_0 {Z : hp_Z} (a0 : Nat) (a1 : Int32) (a2 : Int32) (h : hp_H) : hp_J Y_M_bind Z hp_rI h 0 [(0, .ref a0), (1, .int a1), (2, .int a2)] [] (m_M_bind (hp_G Z)  a0 a1 a2 h) := by
  unfold m_M_bind
  refine hp_iload_n (x0 := 1) d_M_bind_0 rfl rfl ?_
  refine hp_if_lt (tgt := 22) d_M_bind_1 (by decide) ?_ ?_
  · refine hp_sub [] rfl ?_
    exact j_M_bind_22   _
  · refine hp_iload_n (x0 := 1) d_M_bind_4 rfl rfl ?_
    refine hp_bipush (v := 9) d_M_bind_5 (by decide) ?_
    refine hp_icmp_gt (tgt := 22) d_M_bind_7 (by decide) ?_ ?_
    · refine hp_sub [] rfl ?_
      exact j_M_bind_22   _
    · refine hp_iload_n (x0 := 2) d_M_bind_10 rfl rfl ?_
      refine hp_if_lt (tgt := 22) d_M_bind_11 (by decide) ?_ ?_
      · refine hp_sub [] rfl ?_
        exact j_M_bind_22   _
      · refine hp_iload_n (x0 := 2) d_M_bind_14 rfl rfl ?_
        refine hp_aload_n (x0 := 0) d_M_bind_15 rfl rfl ?_
        refine hp_getI fl_M_88 d_M_bind_16 fun x1 => ?_
        refine hp_icmp_le (tgt := 24) d_M_bind_19 (by decide) ?_ ?_
        · refine hp_aload_n (x0 := 0) d_M_bind_24 rfl rfl ?_
          refine hp_getR fl_M_57 d_M_bind_25 fun x2 => ?_
          refine hp_iload_n (x0 := 1) d_M_bind_28 rfl rfl ?_
          refine hp_iload_n (x0 := 2) d_M_bind_29 rfl rfl ?_
          refine hp_iast d_M_bind_30 fun h3 => ?_
          refine hp_iconst (v := 1) d_M_bind_31 (by decide) ?_
          exact hp_zret d_M_bind_32 rfl
        · refine hp_sub [] rfl ?_
          exact j_M_bind_22   _
theorem t_M_bind (l : Launch) (E : hp_E) (a0 : Nat) (a1 : Int32) (a2 : Int32) : hp_M l E y_M_bind Y_M_bind hp_rI [.ref a0, .int a1, .int a2] (m_M_bind E.2.2.1 a0 a1 a2) := hp_M.of (by decide +kernel) ⟨rfl, rfl⟩ (Nat.le_of_ble_eq_true rfl) (fun Z h hE => by subst hE; exact j_M_bind_0 _ _ _ h)
-- M_bindingOf
theorem d_M_bindingOf_0 : decode prog_9_method_64_code 0 = .ok (.iload_n 1, 1) := by decide +kernel
theorem d_M_bindingOf_1 : decode prog_9_method_64_code 1 = .ok (.ifCond .lt 18, 3) := by decide +kernel
theorem d_M_bindingOf_4 : decode prog_9_method_64_code 4 = .ok (.iload_n 1, 1) := by decide +kernel
theorem d_M_bindingOf_5 : decode prog_9_method_64_code 5 = .ok (.bipush 10, 2) := by decide +kernel
theorem d_M_bindingOf_7 : decode prog_9_method_64_code 7 = .ok (.if_icmp .ge 12, 3) := by decide +kernel
theorem d_M_bindingOf_10 : decode prog_9_method_64_code 10 = .ok (.aload_n 0, 1) := by decide +kernel
theorem d_M_bindingOf_11 : decode prog_9_method_64_code 11 = .ok (.getfield 57, 3) := by decide +kernel
theorem d_M_bindingOf_14 : decode prog_9_method_64_code 14 = .ok (.iload_n 1, 1) := by decide +kernel
theorem d_M_bindingOf_15 : decode prog_9_method_64_code 15 = .ok (.iaload, 1) := by decide +kernel
theorem d_M_bindingOf_16 : decode prog_9_method_64_code 16 = .ok (.goto 4, 3) := by decide +kernel
theorem d_M_bindingOf_19 : decode prog_9_method_64_code 19 = .ok (.iconst 0, 1) := by decide +kernel
theorem d_M_bindingOf_20 : decode prog_9_method_64_code 20 = .ok (.ireturn, 1) := by decide +kernel
def m_M_bindingOf_20 (G : Nat → Nat) (s0 : Int32) (h : hp_H) : Option (Int32 × hp_H) := some (s0, h)
set_option maxRecDepth 100000 in
set_option maxHeartbeats 4000000 in
theorem j_M_bindingOf_20 {Z : hp_Z} (s0 : Int32) (h : hp_H) : hp_J Y_M_bindingOf Z hp_rI h 20 [] [.int s0] (m_M_bindingOf_20 (hp_G Z)  s0 h) := by
  unfold m_M_bindingOf_20
  exact hp_iret d_M_bindingOf_20 rfl
def m_M_bindingOf_19 (G : Nat → Nat) (h : hp_H) : Option (Int32 × hp_H) := m_M_bindingOf_20 G (0 : Int32) h
set_option maxRecDepth 100000 in
set_option maxHeartbeats 4000000 in
theorem j_M_bindingOf_19 {Z : hp_Z} (h : hp_H) : hp_J Y_M_bindingOf Z hp_rI h 19 [] [] (m_M_bindingOf_19 (hp_G Z)   h) := by
  unfold m_M_bindingOf_19
  refine hp_iconst (v := 0) d_M_bindingOf_19 (by decide) ?_
  exact j_M_bindingOf_20  _ _
def m_M_bindingOf (G : Nat → Nat) (a0 : Nat) (a1 : Int32) (h : hp_H) : Option (Int32 × hp_H) := if a1 < 0 then (m_M_bindingOf_19 G h) else (if (10 : Int32) ≤ a1 then (m_M_bindingOf_19 G h) else ((hp_gR h a0 8 23).bind fun x1 => (hp_aI h .int x1 a1).bind fun x2 => m_M_bindingOf_20 G x2 h))
set_option maxRecDepth 100000 in
set_option maxHeartbeats 4000000 in
theorem j_M_bindingOf_0 {Z : hp_Z} (a0 : Nat) (a1 : Int32) (h : hp_H) : hp_J Y_M_bindingOf Z hp_rI h 0 [(0, .ref a0), (1, .int a1)] [] (m_M_bindingOf (hp_G Z)  a0 a1 h) := by
  unfold m_M_bindingOf
  refine hp_iload_n (x0 := 1) d_M_bindingOf_0 rfl rfl ?_
  refine hp_if_lt (tgt := 19) d_M_bindingOf_1 (by decide) ?_ ?_
  · refine hp_sub [] rfl ?_
    exact j_M_bindingOf_19   _
  · refine hp_iload_n (x0 := 1) d_M_bindingOf_4 rfl rfl ?_
    refine hp_bipush (v := 10) d_M_bindingOf_5 (by decide) ?_
    refine hp_icmp_ge (tgt := 19) d_M_bindingOf_7 (by decide) ?_ ?_
    · refine hp_sub [] rfl ?_
      exact j_M_bindingOf_19   _
    · refine hp_aload_n (x0 := 0) d_M_bindingOf_10 rfl rfl ?_
      refine hp_getR fl_M_57 d_M_bindingOf_11 fun x1 => ?_
      refine hp_iload_n (x0 := 1) d_M_bindingOf_14 rfl rfl ?_
      refine hp_iald d_M_bindingOf_15 fun x2 => ?_
      refine hp_goto (tgt := 20) d_M_bindingOf_16 (by decide) ?_
      refine hp_sub [] rfl ?_
      exact j_M_bindingOf_20  _ _
theorem t_M_bindingOf (l : Launch) (E : hp_E) (a0 : Nat) (a1 : Int32) : hp_M l E y_M_bindingOf Y_M_bindingOf hp_rI [.ref a0, .int a1] (m_M_bindingOf E.2.2.1 a0 a1) := hp_M.of (by decide +kernel) ⟨rfl, rfl⟩ (Nat.le_of_ble_eq_true rfl) (fun Z h hE => by subst hE; exact j_M_bindingOf_0 _ _ h)
-- M_given
theorem d_M_given_0 : decode prog_9_method_44_code 0 = .ok (.iload_n 1, 1) := by decide +kernel
theorem d_M_given_1 : decode prog_9_method_44_code 1 = .ok (.ifCond .ge 8, 3) := by decide +kernel
theorem d_M_given_4 : decode prog_9_method_44_code 4 = .ok (.bipush (-4), 2) := by decide +kernel
theorem d_M_given_6 : decode prog_9_method_44_code 6 = .ok (.goto 17, 3) := by decide +kernel
theorem d_M_given_9 : decode prog_9_method_44_code 9 = .ok (.aload_n 0, 1) := by decide +kernel
theorem d_M_given_10 : decode prog_9_method_44_code 10 = .ok (.iload_n 1, 1) := by decide +kernel
theorem d_M_given_11 : decode prog_9_method_44_code 11 = .ok (.iconst 1, 1) := by decide +kernel
theorem d_M_given_12 : decode prog_9_method_44_code 12 = .ok (.if_icmp .ne 7, 3) := by decide +kernel
theorem d_M_given_15 : decode prog_9_method_44_code 15 = .ok (.iconst 1, 1) := by decide +kernel
theorem d_M_given_16 : decode prog_9_method_44_code 16 = .ok (.goto 4, 3) := by decide +kernel
theorem d_M_given_19 : decode prog_9_method_44_code 19 = .ok (.iconst 0, 1) := by decide +kernel
theorem d_M_given_20 : decode prog_9_method_44_code 20 = .ok (.invokevirtual 185, 3) := by decide +kernel
theorem d_M_given_23 : decode prog_9_method_44_code 23 = .ok (.ireturn, 1) := by decide +kernel
def m_M_given_23 (G : Nat → Nat) (s0 : Int32) (h : hp_H) : Option (Int32 × hp_H) := some (s0, h)
set_option maxRecDepth 100000 in
set_option maxHeartbeats 4000000 in
theorem j_M_given_23 {Z : hp_Z} (s0 : Int32) (h : hp_H) : hp_J Y_M_given Z hp_rI h 23 [] [.int s0] (m_M_given_23 (hp_G Z)  s0 h) := by
  unfold m_M_given_23
  exact hp_iret d_M_given_23 rfl
def m_M_given_20 (G : Nat → Nat) (s0 : Int32) (s1 : Nat) (h : hp_H) : Option (Int32 × hp_H) := (hp_vck h s1 8 (m_M_truth G s1 s0 h)).bind fun q1 => m_M_given_23 G q1.1 q1.2
set_option maxRecDepth 100000 in
set_option maxHeartbeats 4000000 in
theorem j_M_given_20 {Z : hp_Z} (s0 : Int32) (s1 : Nat) (h : hp_H) : hp_J Y_M_given Z hp_rI h 20 [] [.int s0, .ref s1] (m_M_given_20 (hp_G Z)  s0 s1 h) := by
  unfold m_M_given_20
  refine hp_callI (hp_crV (ci := 8) (t_M_truth _ _ _ _) cw_M_185 rfl ⟨w_1003, w_1004⟩ (by decide) rfl rfl (Nat.le_of_ble_eq_true rfl) d_M_given_20) fun q1 => ?_
  exact j_M_given_23  _ _
def m_M_given (G : Nat → Nat) (a0 : Nat) (a1 : Int32) (h : hp_H) : Option (Int32 × hp_H) := if 0 ≤ a1 then (if a1 = (1 : Int32) then (m_M_given_20 G (1 : Int32) a0 h) else (m_M_given_20 G (0 : Int32) a0 h)) else (m_M_given_23 G (-4 : Int32) h)
set_option maxRecDepth 100000 in
set_option maxHeartbeats 4000000 in
theorem j_M_given_0 {Z : hp_Z} (a0 : Nat) (a1 : Int32) (h : hp_H) : hp_J Y_M_given Z hp_rI h 0 [(0, .ref a0), (1, .int a1)] [] (m_M_given (hp_G Z)  a0 a1 h) := by
  unfold m_M_given
  refine hp_iload_n (x0 := 1) d_M_given_0 rfl rfl ?_
  refine hp_if_ge (tgt := 9) d_M_given_1 (by decide) ?_ ?_
  · refine hp_aload_n (x0 := 0) d_M_given_9 rfl rfl ?_
    refine hp_iload_n (x0 := 1) d_M_given_10 rfl rfl ?_
    refine hp_iconst (v := 1) d_M_given_11 (by decide) ?_
    refine hp_icmp_ne (tgt := 19) d_M_given_12 (by decide) ?_ ?_
    · refine hp_iconst (v := 1) d_M_given_15 (by decide) ?_
      refine hp_goto (tgt := 20) d_M_given_16 (by decide) ?_
      refine hp_sub [] rfl ?_
      exact j_M_given_20  _ _ _
    · refine hp_iconst (v := 0) d_M_given_19 (by decide) ?_
      refine hp_sub [] rfl ?_
      exact j_M_given_20  _ _ _
  · refine hp_bipush (v := -4) d_M_given_4 (by decide) ?_
    refine hp_goto (tgt := 23) d_M_given_6 (by decide) ?_
    refine hp_sub [] rfl ?_
    exact j_M_given_23  _ _
theorem t_M_given (l : Launch) (E : hp_E) (a0 : Nat) (a1 : Int32) : hp_M l E y_M_given Y_M_given hp_rI [.ref a0, .int a1] (m_M_given E.2.2.1 a0 a1) := hp_M.of (by decide +kernel) ⟨rfl, rfl⟩ (Nat.le_of_ble_eq_true rfl) (fun Z h hE => by subst hE; exact j_M_given_0 _ _ h)
-- M_bit
theorem d_M_bit_0 : decode prog_9_method_39_code 0 = .ok (.iload_n 0, 1) := by decide +kernel
theorem d_M_bit_1 : decode prog_9_method_39_code 1 = .ok (.ifCond .eq 7, 3) := by decide +kernel
theorem d_M_bit_4 : decode prog_9_method_39_code 4 = .ok (.iconst 1, 1) := by decide +kernel
theorem d_M_bit_5 : decode prog_9_method_39_code 5 = .ok (.goto 4, 3) := by decide +kernel
theorem d_M_bit_8 : decode prog_9_method_39_code 8 = .ok (.iconst 0, 1) := by decide +kernel
theorem d_M_bit_9 : decode prog_9_method_39_code 9 = .ok (.ireturn, 1) := by decide +kernel
def m_M_bit_9 (G : Nat → Nat) (s0 : Int32) (h : hp_H) : Option (Int32 × hp_H) := some (s0, h)
set_option maxRecDepth 100000 in
set_option maxHeartbeats 4000000 in
theorem j_M_bit_9 {Z : hp_Z} (s0 : Int32) (h : hp_H) : hp_J Y_M_bit Z hp_rI h 9 [] [.int s0] (m_M_bit_9 (hp_G Z)  s0 h) := by
  unfold m_M_bit_9
  exact hp_iret d_M_bit_9 rfl
def m_M_bit (G : Nat → Nat) (a0 : Int32) (h : hp_H) : Option (Int32 × hp_H) := if a0 = 0 then (m_M_bit_9 G (0 : Int32) h) else (m_M_bit_9 G (1 : Int32) h)
set_option maxRecDepth 100000 in
set_option maxHeartbeats 4000000 in
theorem j_M_bit_0 {Z : hp_Z} (a0 : Int32) (h : hp_H) : hp_J Y_M_bit Z hp_rI h 0 [(0, .int a0)] [] (m_M_bit (hp_G Z)  a0 h) := by
  unfold m_M_bit
  refine hp_iload_n (x0 := 0) d_M_bit_0 rfl rfl ?_
  refine hp_if_eq (tgt := 8) d_M_bit_1 (by decide) ?_ ?_
  · refine hp_iconst (v := 0) d_M_bit_8 (by decide) ?_
    refine hp_sub [] rfl ?_
    exact j_M_bit_9  _ _
  · refine hp_iconst (v := 1) d_M_bit_4 (by decide) ?_
    refine hp_goto (tgt := 9) d_M_bit_5 (by decide) ?_
    refine hp_sub [] rfl ?_
    exact j_M_bit_9  _ _
theorem t_M_bit (l : Launch) (E : hp_E) (a0 : Int32) : hp_M l E y_M_bit Y_M_bit hp_rI [.int a0] (m_M_bit E.2.2.1 a0) := hp_M.of (by decide +kernel) ⟨rfl, rfl⟩ (Nat.le_of_ble_eq_true rfl) (fun Z h hE => by subst hE; exact j_M_bit_0 _ h)
-- M_truthOf
theorem d_M_truthOf_0 : decode prog_9_method_40_code 0 = .ok (.iload_n 1, 1) := by decide +kernel
theorem d_M_truthOf_1 : decode prog_9_method_40_code 1 = .ok (.ifCond .gt 6, 3) := by decide +kernel
theorem d_M_truthOf_4 : decode prog_9_method_40_code 4 = .ok (.bipush (-4), 2) := by decide +kernel
theorem d_M_truthOf_6 : decode prog_9_method_40_code 6 = .ok (.ireturn, 1) := by decide +kernel
theorem d_M_truthOf_7 : decode prog_9_method_40_code 7 = .ok (.aload_n 0, 1) := by decide +kernel
theorem d_M_truthOf_8 : decode prog_9_method_40_code 8 = .ok (.getfield 7, 3) := by decide +kernel
theorem d_M_truthOf_11 : decode prog_9_method_40_code 11 = .ok (.iload_n 1, 1) := by decide +kernel
theorem d_M_truthOf_12 : decode prog_9_method_40_code 12 = .ok (.iaload, 1) := by decide +kernel
theorem d_M_truthOf_13 : decode prog_9_method_40_code 13 = .ok (.bipush 8, 2) := by decide +kernel
theorem d_M_truthOf_15 : decode prog_9_method_40_code 15 = .ok (.if_icmp .ne 10, 3) := by decide +kernel
theorem d_M_truthOf_18 : decode prog_9_method_40_code 18 = .ok (.aload_n 0, 1) := by decide +kernel
theorem d_M_truthOf_19 : decode prog_9_method_40_code 19 = .ok (.getfield 13, 3) := by decide +kernel
theorem d_M_truthOf_22 : decode prog_9_method_40_code 22 = .ok (.iload_n 1, 1) := by decide +kernel
theorem d_M_truthOf_23 : decode prog_9_method_40_code 23 = .ok (.iaload, 1) := by decide +kernel
theorem d_M_truthOf_24 : decode prog_9_method_40_code 24 = .ok (.ireturn, 1) := by decide +kernel
theorem d_M_truthOf_25 : decode prog_9_method_40_code 25 = .ok (.aload_n 0, 1) := by decide +kernel
theorem d_M_truthOf_26 : decode prog_9_method_40_code 26 = .ok (.iload_n 1, 1) := by decide +kernel
theorem d_M_truthOf_27 : decode prog_9_method_40_code 27 = .ok (.invokevirtual 168, 3) := by decide +kernel
theorem d_M_truthOf_30 : decode prog_9_method_40_code 30 = .ok (.ifCond .eq 21, 3) := by decide +kernel
theorem d_M_truthOf_33 : decode prog_9_method_40_code 33 = .ok (.aload_n 0, 1) := by decide +kernel
theorem d_M_truthOf_34 : decode prog_9_method_40_code 34 = .ok (.getfield 16, 3) := by decide +kernel
theorem d_M_truthOf_37 : decode prog_9_method_40_code 37 = .ok (.iload_n 1, 1) := by decide +kernel
theorem d_M_truthOf_38 : decode prog_9_method_40_code 38 = .ok (.iaload, 1) := by decide +kernel
theorem d_M_truthOf_39 : decode prog_9_method_40_code 39 = .ok (.ifCond .eq 7, 3) := by decide +kernel
theorem d_M_truthOf_42 : decode prog_9_method_40_code 42 = .ok (.iconst 1, 1) := by decide +kernel
theorem d_M_truthOf_43 : decode prog_9_method_40_code 43 = .ok (.goto 4, 3) := by decide +kernel
theorem d_M_truthOf_46 : decode prog_9_method_40_code 46 = .ok (.iconst 0, 1) := by decide +kernel
theorem d_M_truthOf_47 : decode prog_9_method_40_code 47 = .ok (.invokestatic 181, 3) := by decide +kernel
theorem d_M_truthOf_50 : decode prog_9_method_40_code 50 = .ok (.ireturn, 1) := by decide +kernel
theorem d_M_truthOf_51 : decode prog_9_method_40_code 51 = .ok (.aload_n 0, 1) := by decide +kernel
theorem d_M_truthOf_52 : decode prog_9_method_40_code 52 = .ok (.getfield 7, 3) := by decide +kernel
theorem d_M_truthOf_55 : decode prog_9_method_40_code 55 = .ok (.iload_n 1, 1) := by decide +kernel
theorem d_M_truthOf_56 : decode prog_9_method_40_code 56 = .ok (.iaload, 1) := by decide +kernel
theorem d_M_truthOf_57 : decode prog_9_method_40_code 57 = .ok (.iconst 5, 1) := by decide +kernel
theorem d_M_truthOf_58 : decode prog_9_method_40_code 58 = .ok (.if_icmp .ne 23, 3) := by decide +kernel
theorem d_M_truthOf_61 : decode prog_9_method_40_code 61 = .ok (.aload_n 0, 1) := by decide +kernel
theorem d_M_truthOf_62 : decode prog_9_method_40_code 62 = .ok (.getfield 26, 3) := by decide +kernel
theorem d_M_truthOf_65 : decode prog_9_method_40_code 65 = .ok (.iload_n 1, 1) := by decide +kernel
theorem d_M_truthOf_66 : decode prog_9_method_40_code 66 = .ok (.iaload, 1) := by decide +kernel
theorem d_M_truthOf_67 : decode prog_9_method_40_code 67 = .ok (.ifCond .le 7, 3) := by decide +kernel
theorem d_M_truthOf_70 : decode prog_9_method_40_code 70 = .ok (.iconst 1, 1) := by decide +kernel
theorem d_M_truthOf_71 : decode prog_9_method_40_code 71 = .ok (.goto 4, 3) := by decide +kernel
theorem d_M_truthOf_74 : decode prog_9_method_40_code 74 = .ok (.iconst 0, 1) := by decide +kernel
theorem d_M_truthOf_75 : decode prog_9_method_40_code 75 = .ok (.invokestatic 181, 3) := by decide +kernel
theorem d_M_truthOf_78 : decode prog_9_method_40_code 78 = .ok (.goto 5, 3) := by decide +kernel
theorem d_M_truthOf_81 : decode prog_9_method_40_code 81 = .ok (.bipush (-4), 2) := by decide +kernel
theorem d_M_truthOf_83 : decode prog_9_method_40_code 83 = .ok (.ireturn, 1) := by decide +kernel
def m_M_truthOf_47 (G : Nat → Nat) (s0 : Int32) (h : hp_H) : Option (Int32 × hp_H) := (m_M_bit G s0 h).bind fun q1 => some (q1.1, q1.2)
set_option maxRecDepth 100000 in
set_option maxHeartbeats 4000000 in
theorem j_M_truthOf_47 {Z : hp_Z} (s0 : Int32) (h : hp_H) : hp_J Y_M_truthOf Z hp_rI h 47 [] [.int s0] (m_M_truthOf_47 (hp_G Z)  s0 h) := by
  unfold m_M_truthOf_47
  refine hp_callI (hp_crS (t_M_bit _ _ _) cw_M_181 w_1115 (by decide) rfl rfl (Nat.le_of_ble_eq_true rfl) d_M_truthOf_47) fun q1 => ?_
  exact hp_iret d_M_truthOf_50 rfl
def m_M_truthOf_83 (G : Nat → Nat) (s0 : Int32) (h : hp_H) : Option (Int32 × hp_H) := some (s0, h)
set_option maxRecDepth 100000 in
set_option maxHeartbeats 4000000 in
theorem j_M_truthOf_83 {Z : hp_Z} (s0 : Int32) (h : hp_H) : hp_J Y_M_truthOf Z hp_rI h 83 [] [.int s0] (m_M_truthOf_83 (hp_G Z)  s0 h) := by
  unfold m_M_truthOf_83
  exact hp_iret d_M_truthOf_83 rfl
def m_M_truthOf_75 (G : Nat → Nat) (s0 : Int32) (h : hp_H) : Option (Int32 × hp_H) := (m_M_bit G s0 h).bind fun q1 => m_M_truthOf_83 G q1.1 q1.2
set_option maxRecDepth 100000 in
set_option maxHeartbeats 4000000 in
theorem j_M_truthOf_75 {Z : hp_Z} (s0 : Int32) (h : hp_H) : hp_J Y_M_truthOf Z hp_rI h 75 [] [.int s0] (m_M_truthOf_75 (hp_G Z)  s0 h) := by
  unfold m_M_truthOf_75
  refine hp_callI (hp_crS (t_M_bit _ _ _) cw_M_181 w_1115 (by decide) rfl rfl (Nat.le_of_ble_eq_true rfl) d_M_truthOf_75) fun q1 => ?_
  refine hp_goto (tgt := 83) d_M_truthOf_78 (by decide) ?_
  exact j_M_truthOf_83  _ _
def m_M_truthOf (G : Nat → Nat) (a0 : Nat) (a1 : Int32) (h : hp_H) : Option (Int32 × hp_H) := if 0 < a1 then ((hp_gR h a0 8 1).bind fun x1 => (hp_aI h .int x1 a1).bind fun x2 => if x2 = (8 : Int32) then ((hp_gR h a0 8 2).bind fun x10 => (hp_aI h .int x10 a1).bind fun x11 => some (x11, h)) else ((hp_vck h a0 8 (m_M_isNumber G a0 a1 h)).bind fun q3 => if q3.1 = 0 then ((hp_gR q3.2 a0 8 1).bind fun x4 => (hp_aI q3.2 .int x4 a1).bind fun x5 => if x5 = (5 : Int32) then ((hp_gR q3.2 a0 8 6).bind fun x6 => (hp_aI q3.2 .int x6 a1).bind fun x7 => if x7 ≤ 0 then (m_M_truthOf_75 G (0 : Int32) q3.2) else (m_M_truthOf_75 G (1 : Int32) q3.2)) else (m_M_truthOf_83 G (-4 : Int32) q3.2)) else ((hp_gR q3.2 a0 8 3).bind fun x8 => (hp_aI q3.2 .int x8 a1).bind fun x9 => if x9 = 0 then (m_M_truthOf_47 G (0 : Int32) q3.2) else (m_M_truthOf_47 G (1 : Int32) q3.2)))) else (some ((-4 : Int32), h))
set_option maxRecDepth 100000 in
set_option maxHeartbeats 4000000 in
theorem j_M_truthOf_0 {Z : hp_Z} (a0 : Nat) (a1 : Int32) (h : hp_H) : hp_J Y_M_truthOf Z hp_rI h 0 [(0, .ref a0), (1, .int a1)] [] (m_M_truthOf (hp_G Z)  a0 a1 h) := by
  unfold m_M_truthOf
  refine hp_iload_n (x0 := 1) d_M_truthOf_0 rfl rfl ?_
  refine hp_if_gt (tgt := 7) d_M_truthOf_1 (by decide) ?_ ?_
  · refine hp_aload_n (x0 := 0) d_M_truthOf_7 rfl rfl ?_
    refine hp_getR fl_M_7 d_M_truthOf_8 fun x1 => ?_
    refine hp_iload_n (x0 := 1) d_M_truthOf_11 rfl rfl ?_
    refine hp_iald d_M_truthOf_12 fun x2 => ?_
    refine hp_bipush (v := 8) d_M_truthOf_13 (by decide) ?_
    refine hp_icmp_ne (tgt := 25) d_M_truthOf_15 (by decide) ?_ ?_
    · refine hp_aload_n (x0 := 0) d_M_truthOf_18 rfl rfl ?_
      refine hp_getR fl_M_13 d_M_truthOf_19 fun x10 => ?_
      refine hp_iload_n (x0 := 1) d_M_truthOf_22 rfl rfl ?_
      refine hp_iald d_M_truthOf_23 fun x11 => ?_
      exact hp_iret d_M_truthOf_24 rfl
    · refine hp_aload_n (x0 := 0) d_M_truthOf_25 rfl rfl ?_
      refine hp_iload_n (x0 := 1) d_M_truthOf_26 rfl rfl ?_
      refine hp_callI (hp_crV (ci := 8) (t_M_isNumber _ _ _ _) cw_M_168 rfl ⟨w_1052, ws_47⟩ (by decide) rfl rfl (Nat.le_of_ble_eq_true rfl) d_M_truthOf_27) fun q3 => ?_
      refine hp_if_eq (tgt := 51) d_M_truthOf_30 (by decide) ?_ ?_
      · refine hp_aload_n (x0 := 0) d_M_truthOf_51 rfl rfl ?_
        refine hp_getR fl_M_7 d_M_truthOf_52 fun x4 => ?_
        refine hp_iload_n (x0 := 1) d_M_truthOf_55 rfl rfl ?_
        refine hp_iald d_M_truthOf_56 fun x5 => ?_
        refine hp_iconst (v := 5) d_M_truthOf_57 (by decide) ?_
        refine hp_icmp_ne (tgt := 81) d_M_truthOf_58 (by decide) ?_ ?_
        · refine hp_aload_n (x0 := 0) d_M_truthOf_61 rfl rfl ?_
          refine hp_getR fl_M_26 d_M_truthOf_62 fun x6 => ?_
          refine hp_iload_n (x0 := 1) d_M_truthOf_65 rfl rfl ?_
          refine hp_iald d_M_truthOf_66 fun x7 => ?_
          refine hp_if_le (tgt := 74) d_M_truthOf_67 (by decide) ?_ ?_
          · refine hp_iconst (v := 0) d_M_truthOf_74 (by decide) ?_
            refine hp_sub [] rfl ?_
            exact j_M_truthOf_75  _ _
          · refine hp_iconst (v := 1) d_M_truthOf_70 (by decide) ?_
            refine hp_goto (tgt := 75) d_M_truthOf_71 (by decide) ?_
            refine hp_sub [] rfl ?_
            exact j_M_truthOf_75  _ _
        · refine hp_bipush (v := -4) d_M_truthOf_81 (by decide) ?_
          refine hp_sub [] rfl ?_
          exact j_M_truthOf_83  _ _
      · refine hp_aload_n (x0 := 0) d_M_truthOf_33 rfl rfl ?_
        refine hp_getR fl_M_16 d_M_truthOf_34 fun x8 => ?_
        refine hp_iload_n (x0 := 1) d_M_truthOf_37 rfl rfl ?_
        refine hp_iald d_M_truthOf_38 fun x9 => ?_
        refine hp_if_eq (tgt := 46) d_M_truthOf_39 (by decide) ?_ ?_
        · refine hp_iconst (v := 0) d_M_truthOf_46 (by decide) ?_
          refine hp_sub [] rfl ?_
          exact j_M_truthOf_47  _ _
        · refine hp_iconst (v := 1) d_M_truthOf_42 (by decide) ?_
          refine hp_goto (tgt := 47) d_M_truthOf_43 (by decide) ?_
          refine hp_sub [] rfl ?_
          exact j_M_truthOf_47  _ _
  · refine hp_bipush (v := -4) d_M_truthOf_4 (by decide) ?_
    exact hp_iret d_M_truthOf_6 rfl
theorem t_M_truthOf (l : Launch) (E : hp_E) (a0 : Nat) (a1 : Int32) : hp_M l E y_M_truthOf Y_M_truthOf hp_rI [.ref a0, .int a1] (m_M_truthOf E.2.2.1 a0 a1) := hp_M.of (by decide +kernel) ⟨rfl, rfl⟩ (Nat.le_of_ble_eq_true rfl) (fun Z h hE => by subst hE; exact j_M_truthOf_0 _ _ h)
-- M_both
theorem d_M_both_0 : decode prog_9_method_63_code 0 = .ok (.aload_n 0, 1) := by decide +kernel
theorem d_M_both_1 : decode prog_9_method_63_code 1 = .ok (.iload_n 1, 1) := by decide +kernel
theorem d_M_both_2 : decode prog_9_method_63_code 2 = .ok (.invokevirtual 244, 3) := by decide +kernel
theorem d_M_both_5 : decode prog_9_method_63_code 5 = .ok (.istore 4, 2) := by decide +kernel
theorem d_M_both_7 : decode prog_9_method_63_code 7 = .ok (.aload_n 0, 1) := by decide +kernel
theorem d_M_both_8 : decode prog_9_method_63_code 8 = .ok (.iload_n 2, 1) := by decide +kernel
theorem d_M_both_9 : decode prog_9_method_63_code 9 = .ok (.invokevirtual 244, 3) := by decide +kernel
theorem d_M_both_12 : decode prog_9_method_63_code 12 = .ok (.istore 5, 2) := by decide +kernel
theorem d_M_both_14 : decode prog_9_method_63_code 14 = .ok (.iload 4, 2) := by decide +kernel
theorem d_M_both_16 : decode prog_9_method_63_code 16 = .ok (.iload_n 3, 1) := by decide +kernel
theorem d_M_both_17 : decode prog_9_method_63_code 17 = .ok (.if_icmp .eq 9, 3) := by decide +kernel
theorem d_M_both_20 : decode prog_9_method_63_code 20 = .ok (.iload 5, 2) := by decide +kernel
theorem d_M_both_22 : decode prog_9_method_63_code 22 = .ok (.iload_n 3, 1) := by decide +kernel
theorem d_M_both_23 : decode prog_9_method_63_code 23 = .ok (.if_icmp .ne 9, 3) := by decide +kernel
theorem d_M_both_26 : decode prog_9_method_63_code 26 = .ok (.aload_n 0, 1) := by decide +kernel
theorem d_M_both_27 : decode prog_9_method_63_code 27 = .ok (.iload_n 3, 1) := by decide +kernel
theorem d_M_both_28 : decode prog_9_method_63_code 28 = .ok (.invokevirtual 247, 3) := by decide +kernel
theorem d_M_both_31 : decode prog_9_method_63_code 31 = .ok (.ireturn, 1) := by decide +kernel
theorem d_M_both_32 : decode prog_9_method_63_code 32 = .ok (.iload 4, 2) := by decide +kernel
theorem d_M_both_34 : decode prog_9_method_63_code 34 = .ok (.ifCond .lt 8, 3) := by decide +kernel
theorem d_M_both_37 : decode prog_9_method_63_code 37 = .ok (.iload 5, 2) := by decide +kernel
theorem d_M_both_39 : decode prog_9_method_63_code 39 = .ok (.ifCond .ge 8, 3) := by decide +kernel
theorem d_M_both_42 : decode prog_9_method_63_code 42 = .ok (.bipush (-4), 2) := by decide +kernel
theorem d_M_both_44 : decode prog_9_method_63_code 44 = .ok (.goto 10, 3) := by decide +kernel
theorem d_M_both_47 : decode prog_9_method_63_code 47 = .ok (.aload_n 0, 1) := by decide +kernel
theorem d_M_both_48 : decode prog_9_method_63_code 48 = .ok (.iconst 1, 1) := by decide +kernel
theorem d_M_both_49 : decode prog_9_method_63_code 49 = .ok (.iload_n 3, 1) := by decide +kernel
theorem d_M_both_50 : decode prog_9_method_63_code 50 = .ok (.isub, 1) := by decide +kernel
theorem d_M_both_51 : decode prog_9_method_63_code 51 = .ok (.invokevirtual 247, 3) := by decide +kernel
theorem d_M_both_54 : decode prog_9_method_63_code 54 = .ok (.ireturn, 1) := by decide +kernel
def m_M_both_26 (G : Nat → Nat) (a0 : Nat) (a3 : Int32) (h : hp_H) : Option (Int32 × hp_H) := (hp_vck h a0 8 (m_M_given G a0 a3 h)).bind fun q1 => some (q1.1, q1.2)
set_option maxRecDepth 100000 in
set_option maxHeartbeats 4000000 in
theorem j_M_both_26 {Z : hp_Z} (a0 : Nat) (a3 : Int32) (h : hp_H) : hp_J Y_M_both Z hp_rI h 26 [(0, .ref a0), (3, .int a3)] [] (m_M_both_26 (hp_G Z)  a0 a3 h) := by
  unfold m_M_both_26
  refine hp_aload_n (x0 := 0) d_M_both_26 rfl rfl ?_
  refine hp_iload_n (x0 := 1) d_M_both_27 rfl rfl ?_
  refine hp_callI (hp_crV (ci := 8) (t_M_given _ _ _ _) cw_M_247 rfl ⟨w_1119, ws_58⟩ (by decide) rfl rfl (Nat.le_of_ble_eq_true rfl) d_M_both_28) fun q1 => ?_
  exact hp_iret d_M_both_31 rfl
def m_M_both_54 (G : Nat → Nat) (s0 : Int32) (h : hp_H) : Option (Int32 × hp_H) := some (s0, h)
set_option maxRecDepth 100000 in
set_option maxHeartbeats 4000000 in
theorem j_M_both_54 {Z : hp_Z} (s0 : Int32) (h : hp_H) : hp_J Y_M_both Z hp_rI h 54 [] [.int s0] (m_M_both_54 (hp_G Z)  s0 h) := by
  unfold m_M_both_54
  exact hp_iret d_M_both_54 rfl
def m_M_both_42 (G : Nat → Nat) (h : hp_H) : Option (Int32 × hp_H) := m_M_both_54 G (-4 : Int32) h
set_option maxRecDepth 100000 in
set_option maxHeartbeats 4000000 in
theorem j_M_both_42 {Z : hp_Z} (h : hp_H) : hp_J Y_M_both Z hp_rI h 42 [] [] (m_M_both_42 (hp_G Z)   h) := by
  unfold m_M_both_42
  refine hp_bipush (v := -4) d_M_both_42 (by decide) ?_
  refine hp_goto (tgt := 54) d_M_both_44 (by decide) ?_
  exact j_M_both_54  _ _
def m_M_both (G : Nat → Nat) (a0 : Nat) (a1 : Int32) (a2 : Int32) (a3 : Int32) (h : hp_H) : Option (Int32 × hp_H) := (hp_vck h a0 8 (m_M_truthOf G a0 a1 h)).bind fun q1 => hp_nm q1.1 fun x2 => (hp_vck q1.2 a0 8 (m_M_truthOf G a0 a2 q1.2)).bind fun q3 => hp_nm q3.1 fun x4 => if x2 = a3 then (m_M_both_26 G a0 a3 q3.2) else (if x4 = a3 then (m_M_both_26 G a0 a3 q3.2) else (if x2 < 0 then (m_M_both_42 G q3.2) else (if 0 ≤ x4 then ((hp_vck q3.2 a0 8 (m_M_given G a0 ((1 : Int32) - a3) q3.2)).bind fun q5 => m_M_both_54 G q5.1 q5.2) else (m_M_both_42 G q3.2))))
set_option maxRecDepth 100000 in
set_option maxHeartbeats 4000000 in
theorem j_M_both_0 {Z : hp_Z} (a0 : Nat) (a1 : Int32) (a2 : Int32) (a3 : Int32) (h : hp_H) : hp_J Y_M_both Z hp_rI h 0 [(0, .ref a0), (1, .int a1), (2, .int a2), (3, .int a3)] [] (m_M_both (hp_G Z)  a0 a1 a2 a3 h) := by
  unfold m_M_both
  refine hp_aload_n (x0 := 0) d_M_both_0 rfl rfl ?_
  refine hp_iload_n (x0 := 1) d_M_both_1 rfl rfl ?_
  refine hp_callI (hp_crV (ci := 8) (t_M_truthOf _ _ _ _) cw_M_244 rfl ⟨w_1112, ws_57⟩ (by decide) rfl rfl (Nat.le_of_ble_eq_true rfl) d_M_both_2) fun q1 => ?_
  refine hp_istore (fun x2 => [(4, .int x2), (0, .ref a0), (1, .int a1), (2, .int a2), (3, .int a3)]) d_M_both_5 (by decide) (fun _ => rfl) fun x2 => ?_
  refine hp_aload_n (x0 := 1) d_M_both_7 rfl rfl ?_
  refine hp_iload_n (x0 := 3) d_M_both_8 rfl rfl ?_
  refine hp_callI (hp_crV (ci := 8) (t_M_truthOf _ _ _ _) cw_M_244 rfl ⟨w_1112, ws_57⟩ (by decide) rfl rfl (Nat.le_of_ble_eq_true rfl) d_M_both_9) fun q3 => ?_
  refine hp_istore (fun x4 => [(5, .int x4), (4, .int x2), (0, .ref a0), (1, .int a1), (2, .int a2), (3, .int a3)]) d_M_both_12 (by decide) (fun _ => rfl) fun x4 => ?_
  refine hp_iload (x0 := 1) d_M_both_14 rfl ?_
  refine hp_iload_n (x0 := 5) d_M_both_16 rfl rfl ?_
  refine hp_icmp_eq (tgt := 26) d_M_both_17 (by decide) ?_ ?_
  · refine hp_sub [2, 5] rfl ?_
    exact j_M_both_26  _ _ _
  · refine hp_iload (x0 := 0) d_M_both_20 rfl ?_
    refine hp_iload_n (x0 := 5) d_M_both_22 rfl rfl ?_
    refine hp_icmp_ne (tgt := 32) d_M_both_23 (by decide) ?_ ?_
    · refine hp_sub [2, 5] rfl ?_
      exact j_M_both_26  _ _ _
    · refine hp_iload (x0 := 1) d_M_both_32 rfl ?_
      refine hp_if_lt (tgt := 42) d_M_both_34 (by decide) ?_ ?_
      · refine hp_sub [] rfl ?_
        exact j_M_both_42   _
      · refine hp_iload (x0 := 0) d_M_both_37 rfl ?_
        refine hp_if_ge (tgt := 47) d_M_both_39 (by decide) ?_ ?_
        · refine hp_aload_n (x0 := 2) d_M_both_47 rfl rfl ?_
          refine hp_iconst (v := 1) d_M_both_48 (by decide) ?_
          refine hp_iload_n (x0 := 5) d_M_both_49 rfl rfl ?_
          refine hp_isub d_M_both_50 ?_
          refine hp_callI (hp_crV (ci := 8) (t_M_given _ _ _ _) cw_M_247 rfl ⟨w_1119, ws_58⟩ (by decide) rfl rfl (Nat.le_of_ble_eq_true rfl) d_M_both_51) fun q5 => ?_
          refine hp_sub [] rfl ?_
          exact j_M_both_54  _ _
        · refine hp_sub [] rfl ?_
          exact j_M_both_42   _
theorem t_M_both (l : Launch) (E : hp_E) (a0 : Nat) (a1 : Int32) (a2 : Int32) (a3 : Int32) : hp_M l E y_M_both Y_M_both hp_rI [.ref a0, .int a1, .int a2, .int a3] (m_M_both E.2.2.1 a0 a1 a2 a3) := hp_M.of (by decide +kernel) ⟨rfl, rfl⟩ (Nat.le_of_ble_eq_true rfl) (fun Z h hE => by subst hE; exact j_M_both_0 _ _ _ _ h)
-- M_equal
theorem d_M_equal_0 : decode prog_9_method_41_code 0 = .ok (.aload_n 0, 1) := by decide +kernel
theorem d_M_equal_1 : decode prog_9_method_41_code 1 = .ok (.iload_n 1, 1) := by decide +kernel
theorem d_M_equal_2 : decode prog_9_method_41_code 2 = .ok (.invokevirtual 168, 3) := by decide +kernel
theorem d_M_equal_5 : decode prog_9_method_41_code 5 = .ok (.ifCond .eq 29, 3) := by decide +kernel
theorem d_M_equal_8 : decode prog_9_method_41_code 8 = .ok (.aload_n 0, 1) := by decide +kernel
theorem d_M_equal_9 : decode prog_9_method_41_code 9 = .ok (.iload_n 2, 1) := by decide +kernel
theorem d_M_equal_10 : decode prog_9_method_41_code 10 = .ok (.invokevirtual 168, 3) := by decide +kernel
theorem d_M_equal_13 : decode prog_9_method_41_code 13 = .ok (.ifCond .eq 21, 3) := by decide +kernel
theorem d_M_equal_16 : decode prog_9_method_41_code 16 = .ok (.aload_n 0, 1) := by decide +kernel
theorem d_M_equal_17 : decode prog_9_method_41_code 17 = .ok (.iload_n 1, 1) := by decide +kernel
theorem d_M_equal_18 : decode prog_9_method_41_code 18 = .ok (.iload_n 2, 1) := by decide +kernel
theorem d_M_equal_19 : decode prog_9_method_41_code 19 = .ok (.invokevirtual 171, 3) := by decide +kernel
theorem d_M_equal_22 : decode prog_9_method_41_code 22 = .ok (.ifCond .ne 7, 3) := by decide +kernel
theorem d_M_equal_25 : decode prog_9_method_41_code 25 = .ok (.iconst 1, 1) := by decide +kernel
theorem d_M_equal_26 : decode prog_9_method_41_code 26 = .ok (.goto 4, 3) := by decide +kernel
theorem d_M_equal_29 : decode prog_9_method_41_code 29 = .ok (.iconst 0, 1) := by decide +kernel
theorem d_M_equal_30 : decode prog_9_method_41_code 30 = .ok (.invokestatic 181, 3) := by decide +kernel
theorem d_M_equal_33 : decode prog_9_method_41_code 33 = .ok (.ireturn, 1) := by decide +kernel
theorem d_M_equal_34 : decode prog_9_method_41_code 34 = .ok (.iload_n 1, 1) := by decide +kernel
theorem d_M_equal_35 : decode prog_9_method_41_code 35 = .ok (.iload_n 2, 1) := by decide +kernel
theorem d_M_equal_36 : decode prog_9_method_41_code 36 = .ok (.if_icmp .ne 5, 3) := by decide +kernel
theorem d_M_equal_39 : decode prog_9_method_41_code 39 = .ok (.iconst 1, 1) := by decide +kernel
theorem d_M_equal_40 : decode prog_9_method_41_code 40 = .ok (.ireturn, 1) := by decide +kernel
theorem d_M_equal_41 : decode prog_9_method_41_code 41 = .ok (.aload_n 0, 1) := by decide +kernel
theorem d_M_equal_42 : decode prog_9_method_41_code 42 = .ok (.getfield 7, 3) := by decide +kernel
theorem d_M_equal_45 : decode prog_9_method_41_code 45 = .ok (.iload_n 1, 1) := by decide +kernel
theorem d_M_equal_46 : decode prog_9_method_41_code 46 = .ok (.iaload, 1) := by decide +kernel
theorem d_M_equal_47 : decode prog_9_method_41_code 47 = .ok (.bipush 7, 2) := by decide +kernel
theorem d_M_equal_49 : decode prog_9_method_41_code 49 = .ok (.if_icmp .eq 14, 3) := by decide +kernel
theorem d_M_equal_52 : decode prog_9_method_41_code 52 = .ok (.aload_n 0, 1) := by decide +kernel
theorem d_M_equal_53 : decode prog_9_method_41_code 53 = .ok (.getfield 7, 3) := by decide +kernel
theorem d_M_equal_56 : decode prog_9_method_41_code 56 = .ok (.iload_n 2, 1) := by decide +kernel
theorem d_M_equal_57 : decode prog_9_method_41_code 57 = .ok (.iaload, 1) := by decide +kernel
theorem d_M_equal_58 : decode prog_9_method_41_code 58 = .ok (.bipush 7, 2) := by decide +kernel
theorem d_M_equal_60 : decode prog_9_method_41_code 60 = .ok (.if_icmp .ne 28, 3) := by decide +kernel
theorem d_M_equal_63 : decode prog_9_method_41_code 63 = .ok (.aload_n 0, 1) := by decide +kernel
theorem d_M_equal_64 : decode prog_9_method_41_code 64 = .ok (.getfield 7, 3) := by decide +kernel
theorem d_M_equal_67 : decode prog_9_method_41_code 67 = .ok (.iload_n 1, 1) := by decide +kernel
theorem d_M_equal_68 : decode prog_9_method_41_code 68 = .ok (.iaload, 1) := by decide +kernel
theorem d_M_equal_69 : decode prog_9_method_41_code 69 = .ok (.iconst 2, 1) := by decide +kernel
theorem d_M_equal_70 : decode prog_9_method_41_code 70 = .ok (.if_icmp .le 18, 3) := by decide +kernel
theorem d_M_equal_73 : decode prog_9_method_41_code 73 = .ok (.aload_n 0, 1) := by decide +kernel
theorem d_M_equal_74 : decode prog_9_method_41_code 74 = .ok (.getfield 7, 3) := by decide +kernel
theorem d_M_equal_77 : decode prog_9_method_41_code 77 = .ok (.iload_n 2, 1) := by decide +kernel
theorem d_M_equal_78 : decode prog_9_method_41_code 78 = .ok (.iaload, 1) := by decide +kernel
theorem d_M_equal_79 : decode prog_9_method_41_code 79 = .ok (.iconst 2, 1) := by decide +kernel
theorem d_M_equal_80 : decode prog_9_method_41_code 80 = .ok (.if_icmp .le 8, 3) := by decide +kernel
theorem d_M_equal_83 : decode prog_9_method_41_code 83 = .ok (.bipush (-4), 2) := by decide +kernel
theorem d_M_equal_85 : decode prog_9_method_41_code 85 = .ok (.goto 4, 3) := by decide +kernel
theorem d_M_equal_88 : decode prog_9_method_41_code 88 = .ok (.iconst 0, 1) := by decide +kernel
theorem d_M_equal_89 : decode prog_9_method_41_code 89 = .ok (.ireturn, 1) := by decide +kernel
def m_M_equal_30 (G : Nat → Nat) (s0 : Int32) (h : hp_H) : Option (Int32 × hp_H) := (m_M_bit G s0 h).bind fun q1 => some (q1.1, q1.2)
set_option maxRecDepth 100000 in
set_option maxHeartbeats 4000000 in
theorem j_M_equal_30 {Z : hp_Z} (s0 : Int32) (h : hp_H) : hp_J Y_M_equal Z hp_rI h 30 [] [.int s0] (m_M_equal_30 (hp_G Z)  s0 h) := by
  unfold m_M_equal_30
  refine hp_callI (hp_crS (t_M_bit _ _ _) cw_M_181 w_1115 (by decide) rfl rfl (Nat.le_of_ble_eq_true rfl) d_M_equal_30) fun q1 => ?_
  exact hp_iret d_M_equal_33 rfl
def m_M_equal_89 (G : Nat → Nat) (s0 : Int32) (h : hp_H) : Option (Int32 × hp_H) := some (s0, h)
set_option maxRecDepth 100000 in
set_option maxHeartbeats 4000000 in
theorem j_M_equal_89 {Z : hp_Z} (s0 : Int32) (h : hp_H) : hp_J Y_M_equal Z hp_rI h 89 [] [.int s0] (m_M_equal_89 (hp_G Z)  s0 h) := by
  unfold m_M_equal_89
  exact hp_iret d_M_equal_89 rfl
def m_M_equal_88 (G : Nat → Nat) (h : hp_H) : Option (Int32 × hp_H) := m_M_equal_89 G (0 : Int32) h
set_option maxRecDepth 100000 in
set_option maxHeartbeats 4000000 in
theorem j_M_equal_88 {Z : hp_Z} (h : hp_H) : hp_J Y_M_equal Z hp_rI h 88 [] [] (m_M_equal_88 (hp_G Z)   h) := by
  unfold m_M_equal_88
  refine hp_iconst (v := 0) d_M_equal_88 (by decide) ?_
  exact j_M_equal_89  _ _
def m_M_equal_63 (G : Nat → Nat) (a0 : Nat) (a1 : Int32) (a2 : Int32) (h : hp_H) : Option (Int32 × hp_H) := (hp_gR h a0 8 1).bind fun x1 => (hp_aI h .int x1 a1).bind fun x2 => if x2 ≤ (2 : Int32) then (m_M_equal_88 G h) else ((hp_gR h a0 8 1).bind fun x3 => (hp_aI h .int x3 a2).bind fun x4 => if x4 ≤ (2 : Int32) then (m_M_equal_88 G h) else (m_M_equal_89 G (-4 : Int32) h))
set_option maxRecDepth 100000 in
set_option maxHeartbeats 4000000 in
theorem j_M_equal_63 {Z : hp_Z} (a0 : Nat) (a1 : Int32) (a2 : Int32) (h : hp_H) : hp_J Y_M_equal Z hp_rI h 63 [(0, .ref a0), (1, .int a1), (2, .int a2)] [] (m_M_equal_63 (hp_G Z)  a0 a1 a2 h) := by
  unfold m_M_equal_63
  refine hp_aload_n (x0 := 0) d_M_equal_63 rfl rfl ?_
  refine hp_getR fl_M_7 d_M_equal_64 fun x1 => ?_
  refine hp_iload_n (x0 := 1) d_M_equal_67 rfl rfl ?_
  refine hp_iald d_M_equal_68 fun x2 => ?_
  refine hp_iconst (v := 2) d_M_equal_69 (by decide) ?_
  refine hp_icmp_le (tgt := 88) d_M_equal_70 (by decide) ?_ ?_
  · refine hp_sub [] rfl ?_
    exact j_M_equal_88   _
  · refine hp_aload_n (x0 := 0) d_M_equal_73 rfl rfl ?_
    refine hp_getR fl_M_7 d_M_equal_74 fun x3 => ?_
    refine hp_iload_n (x0 := 2) d_M_equal_77 rfl rfl ?_
    refine hp_iald d_M_equal_78 fun x4 => ?_
    refine hp_iconst (v := 2) d_M_equal_79 (by decide) ?_
    refine hp_icmp_le (tgt := 88) d_M_equal_80 (by decide) ?_ ?_
    · refine hp_sub [] rfl ?_
      exact j_M_equal_88   _
    · refine hp_bipush (v := -4) d_M_equal_83 (by decide) ?_
      refine hp_goto (tgt := 89) d_M_equal_85 (by decide) ?_
      refine hp_sub [] rfl ?_
      exact j_M_equal_89  _ _
def m_M_equal_34 (G : Nat → Nat) (a0 : Nat) (a1 : Int32) (a2 : Int32) (h : hp_H) : Option (Int32 × hp_H) := if a1 = a2 then (some ((1 : Int32), h)) else ((hp_gR h a0 8 1).bind fun x1 => (hp_aI h .int x1 a1).bind fun x2 => if x2 = (7 : Int32) then (m_M_equal_63 G a0 a1 a2 h) else ((hp_gR h a0 8 1).bind fun x3 => (hp_aI h .int x3 a2).bind fun x4 => if x4 = (7 : Int32) then (m_M_equal_63 G a0 a1 a2 h) else (m_M_equal_88 G h)))
set_option maxRecDepth 100000 in
set_option maxHeartbeats 4000000 in
theorem j_M_equal_34 {Z : hp_Z} (a0 : Nat) (a1 : Int32) (a2 : Int32) (h : hp_H) : hp_J Y_M_equal Z hp_rI h 34 [(0, .ref a0), (1, .int a1), (2, .int a2)] [] (m_M_equal_34 (hp_G Z)  a0 a1 a2 h) := by
  unfold m_M_equal_34
  refine hp_iload_n (x0 := 1) d_M_equal_34 rfl rfl ?_
  refine hp_iload_n (x0 := 2) d_M_equal_35 rfl rfl ?_
  refine hp_icmp_ne (tgt := 41) d_M_equal_36 (by decide) ?_ ?_
  · refine hp_iconst (v := 1) d_M_equal_39 (by decide) ?_
    exact hp_iret d_M_equal_40 rfl
  · refine hp_aload_n (x0 := 0) d_M_equal_41 rfl rfl ?_
    refine hp_getR fl_M_7 d_M_equal_42 fun x1 => ?_
    refine hp_iload_n (x0 := 1) d_M_equal_45 rfl rfl ?_
    refine hp_iald d_M_equal_46 fun x2 => ?_
    refine hp_bipush (v := 7) d_M_equal_47 (by decide) ?_
    refine hp_icmp_eq (tgt := 63) d_M_equal_49 (by decide) ?_ ?_
    · exact j_M_equal_63  _ _ _ _
    · refine hp_aload_n (x0 := 0) d_M_equal_52 rfl rfl ?_
      refine hp_getR fl_M_7 d_M_equal_53 fun x3 => ?_
      refine hp_iload_n (x0 := 2) d_M_equal_56 rfl rfl ?_
      refine hp_iald d_M_equal_57 fun x4 => ?_
      refine hp_bipush (v := 7) d_M_equal_58 (by decide) ?_
      refine hp_icmp_ne (tgt := 88) d_M_equal_60 (by decide) ?_ ?_
      · exact j_M_equal_63  _ _ _ _
      · refine hp_sub [] rfl ?_
        exact j_M_equal_88   _
def m_M_equal (G : Nat → Nat) (a0 : Nat) (a1 : Int32) (a2 : Int32) (h : hp_H) : Option (Int32 × hp_H) := (hp_vck h a0 8 (m_M_isNumber G a0 a1 h)).bind fun q1 => if q1.1 = 0 then (m_M_equal_34 G a0 a1 a2 q1.2) else ((hp_vck q1.2 a0 8 (m_M_isNumber G a0 a2 q1.2)).bind fun q2 => if q2.1 = 0 then (m_M_equal_34 G a0 a1 a2 q2.2) else ((hp_vck q2.2 a0 8 (m_M_orderNumbers G a0 a1 a2 q2.2)).bind fun q3 => if q3.1 = 0 then (m_M_equal_30 G (1 : Int32) q3.2) else (m_M_equal_30 G (0 : Int32) q3.2)))
set_option maxRecDepth 100000 in
set_option maxHeartbeats 4000000 in
theorem j_M_equal_0 {Z : hp_Z} (a0 : Nat) (a1 : Int32) (a2 : Int32) (h : hp_H) : hp_J Y_M_equal Z hp_rI h 0 [(0, .ref a0), (1, .int a1), (2, .int a2)] [] (m_M_equal (hp_G Z)  a0 a1 a2 h) := by
  unfold m_M_equal
  refine hp_aload_n (x0 := 0) d_M_equal_0 rfl rfl ?_
  refine hp_iload_n (x0 := 1) d_M_equal_1 rfl rfl ?_
  refine hp_callI (hp_crV (ci := 8) (t_M_isNumber _ _ _ _) cw_M_168 rfl ⟨w_1052, ws_47⟩ (by decide) rfl rfl (Nat.le_of_ble_eq_true rfl) d_M_equal_2) fun q1 => ?_
  refine hp_if_eq (tgt := 34) d_M_equal_5 (by decide) ?_ ?_
  · exact j_M_equal_34  _ _ _ _
  · refine hp_aload_n (x0 := 0) d_M_equal_8 rfl rfl ?_
    refine hp_iload_n (x0 := 2) d_M_equal_9 rfl rfl ?_
    refine hp_callI (hp_crV (ci := 8) (t_M_isNumber _ _ _ _) cw_M_168 rfl ⟨w_1052, ws_47⟩ (by decide) rfl rfl (Nat.le_of_ble_eq_true rfl) d_M_equal_10) fun q2 => ?_
    refine hp_if_eq (tgt := 34) d_M_equal_13 (by decide) ?_ ?_
    · exact j_M_equal_34  _ _ _ _
    · refine hp_aload_n (x0 := 0) d_M_equal_16 rfl rfl ?_
      refine hp_iload_n (x0 := 1) d_M_equal_17 rfl rfl ?_
      refine hp_iload_n (x0 := 2) d_M_equal_18 rfl rfl ?_
      refine hp_callI (hp_crV (ci := 8) (t_M_orderNumbers _ _ _ _ _) cw_M_171 rfl ⟨w_1056, ws_48⟩ (by decide) rfl rfl (Nat.le_of_ble_eq_true rfl) d_M_equal_19) fun q3 => ?_
      refine hp_if_ne (tgt := 29) d_M_equal_22 (by decide) ?_ ?_
      · refine hp_iconst (v := 1) d_M_equal_25 (by decide) ?_
        refine hp_goto (tgt := 30) d_M_equal_26 (by decide) ?_
        refine hp_sub [] rfl ?_
        exact j_M_equal_30  _ _
      · refine hp_iconst (v := 0) d_M_equal_29 (by decide) ?_
        refine hp_sub [] rfl ?_
        exact j_M_equal_30  _ _
theorem t_M_equal (l : Launch) (E : hp_E) (a0 : Nat) (a1 : Int32) (a2 : Int32) : hp_M l E y_M_equal Y_M_equal hp_rI [.ref a0, .int a1, .int a2] (m_M_equal E.2.2.1 a0 a1 a2) := hp_M.of (by decide +kernel) ⟨rfl, rfl⟩ (Nat.le_of_ble_eq_true rfl) (fun Z h hE => by subst hE; exact j_M_equal_0 _ _ _ h)
-- M_isIn
theorem d_M_isIn_0 : decode prog_9_method_66_code 0 = .ok (.aload_n 0, 1) := by decide +kernel
theorem d_M_isIn_1 : decode prog_9_method_66_code 1 = .ok (.getfield 60, 3) := by decide +kernel
theorem d_M_isIn_4 : decode prog_9_method_66_code 4 = .ok (.iload_n 1, 1) := by decide +kernel
theorem d_M_isIn_5 : decode prog_9_method_66_code 5 = .ok (.iaload, 1) := by decide +kernel
theorem d_M_isIn_6 : decode prog_9_method_66_code 6 = .ok (.bipush (-4), 2) := by decide +kernel
theorem d_M_isIn_8 : decode prog_9_method_66_code 8 = .ok (.if_icmp .ne 6, 3) := by decide +kernel
theorem d_M_isIn_11 : decode prog_9_method_66_code 11 = .ok (.bipush (-4), 2) := by decide +kernel
theorem d_M_isIn_13 : decode prog_9_method_66_code 13 = .ok (.ireturn, 1) := by decide +kernel
theorem d_M_isIn_14 : decode prog_9_method_66_code 14 = .ok (.iconst 0, 1) := by decide +kernel
theorem d_M_isIn_15 : decode prog_9_method_66_code 15 = .ok (.istore_n 3, 1) := by decide +kernel
theorem d_M_isIn_16 : decode prog_9_method_66_code 16 = .ok (.iconst 0, 1) := by decide +kernel
theorem d_M_isIn_17 : decode prog_9_method_66_code 17 = .ok (.istore 4, 2) := by decide +kernel
theorem d_M_isIn_19 : decode prog_9_method_66_code 19 = .ok (.iconst 1, 1) := by decide +kernel
theorem d_M_isIn_20 : decode prog_9_method_66_code 20 = .ok (.istore 5, 2) := by decide +kernel
theorem d_M_isIn_22 : decode prog_9_method_66_code 22 = .ok (.iload 5, 2) := by decide +kernel
theorem d_M_isIn_24 : decode prog_9_method_66_code 24 = .ok (.iload_n 2, 1) := by decide +kernel
theorem d_M_isIn_25 : decode prog_9_method_66_code 25 = .ok (.if_icmp .gt 84, 3) := by decide +kernel
theorem d_M_isIn_28 : decode prog_9_method_66_code 28 = .ok (.aload_n 0, 1) := by decide +kernel
theorem d_M_isIn_29 : decode prog_9_method_66_code 29 = .ok (.getfield 60, 3) := by decide +kernel
theorem d_M_isIn_32 : decode prog_9_method_66_code 32 = .ok (.iload_n 1, 1) := by decide +kernel
theorem d_M_isIn_33 : decode prog_9_method_66_code 33 = .ok (.iload 5, 2) := by decide +kernel
theorem d_M_isIn_35 : decode prog_9_method_66_code 35 = .ok (.iadd, 1) := by decide +kernel
theorem d_M_isIn_36 : decode prog_9_method_66_code 36 = .ok (.iaload, 1) := by decide +kernel
theorem d_M_isIn_37 : decode prog_9_method_66_code 37 = .ok (.bipush (-4), 2) := by decide +kernel
theorem d_M_isIn_39 : decode prog_9_method_66_code 39 = .ok (.if_icmp .ne 8, 3) := by decide +kernel
theorem d_M_isIn_42 : decode prog_9_method_66_code 42 = .ok (.bipush (-4), 2) := by decide +kernel
theorem d_M_isIn_44 : decode prog_9_method_66_code 44 = .ok (.goto 22, 3) := by decide +kernel
theorem d_M_isIn_47 : decode prog_9_method_66_code 47 = .ok (.aload_n 0, 1) := by decide +kernel
theorem d_M_isIn_48 : decode prog_9_method_66_code 48 = .ok (.aload_n 0, 1) := by decide +kernel
theorem d_M_isIn_49 : decode prog_9_method_66_code 49 = .ok (.getfield 60, 3) := by decide +kernel
theorem d_M_isIn_52 : decode prog_9_method_66_code 52 = .ok (.iload_n 1, 1) := by decide +kernel
theorem d_M_isIn_53 : decode prog_9_method_66_code 53 = .ok (.iaload, 1) := by decide +kernel
theorem d_M_isIn_54 : decode prog_9_method_66_code 54 = .ok (.aload_n 0, 1) := by decide +kernel
theorem d_M_isIn_55 : decode prog_9_method_66_code 55 = .ok (.getfield 60, 3) := by decide +kernel
theorem d_M_isIn_58 : decode prog_9_method_66_code 58 = .ok (.iload_n 1, 1) := by decide +kernel
theorem d_M_isIn_59 : decode prog_9_method_66_code 59 = .ok (.iload 5, 2) := by decide +kernel
theorem d_M_isIn_61 : decode prog_9_method_66_code 61 = .ok (.iadd, 1) := by decide +kernel
theorem d_M_isIn_62 : decode prog_9_method_66_code 62 = .ok (.iaload, 1) := by decide +kernel
theorem d_M_isIn_63 : decode prog_9_method_66_code 63 = .ok (.invokevirtual 259, 3) := by decide +kernel
theorem d_M_isIn_66 : decode prog_9_method_66_code 66 = .ok (.istore 6, 2) := by decide +kernel
theorem d_M_isIn_68 : decode prog_9_method_66_code 68 = .ok (.iload_n 3, 1) := by decide +kernel
theorem d_M_isIn_69 : decode prog_9_method_66_code 69 = .ok (.ifCond .ne 9, 3) := by decide +kernel
theorem d_M_isIn_72 : decode prog_9_method_66_code 72 = .ok (.iload 6, 2) := by decide +kernel
theorem d_M_isIn_74 : decode prog_9_method_66_code 74 = .ok (.iconst 1, 1) := by decide +kernel
theorem d_M_isIn_75 : decode prog_9_method_66_code 75 = .ok (.if_icmp .ne 7, 3) := by decide +kernel
theorem d_M_isIn_78 : decode prog_9_method_66_code 78 = .ok (.iconst 1, 1) := by decide +kernel
theorem d_M_isIn_79 : decode prog_9_method_66_code 79 = .ok (.goto 4, 3) := by decide +kernel
theorem d_M_isIn_82 : decode prog_9_method_66_code 82 = .ok (.iconst 0, 1) := by decide +kernel
theorem d_M_isIn_83 : decode prog_9_method_66_code 83 = .ok (.istore_n 3, 1) := by decide +kernel
theorem d_M_isIn_84 : decode prog_9_method_66_code 84 = .ok (.iload 4, 2) := by decide +kernel
theorem d_M_isIn_86 : decode prog_9_method_66_code 86 = .ok (.ifCond .ne 10, 3) := by decide +kernel
theorem d_M_isIn_89 : decode prog_9_method_66_code 89 = .ok (.iload 6, 2) := by decide +kernel
theorem d_M_isIn_91 : decode prog_9_method_66_code 91 = .ok (.bipush (-4), 2) := by decide +kernel
theorem d_M_isIn_93 : decode prog_9_method_66_code 93 = .ok (.if_icmp .ne 7, 3) := by decide +kernel
theorem d_M_isIn_96 : decode prog_9_method_66_code 96 = .ok (.iconst 1, 1) := by decide +kernel
theorem d_M_isIn_97 : decode prog_9_method_66_code 97 = .ok (.goto 4, 3) := by decide +kernel
theorem d_M_isIn_100 : decode prog_9_method_66_code 100 = .ok (.iconst 0, 1) := by decide +kernel
theorem d_M_isIn_101 : decode prog_9_method_66_code 101 = .ok (.istore 4, 2) := by decide +kernel
theorem d_M_isIn_103 : decode prog_9_method_66_code 103 = .ok (.iinc 5 1, 3) := by decide +kernel
theorem d_M_isIn_106 : decode prog_9_method_66_code 106 = .ok (.goto (-84), 3) := by decide +kernel
theorem d_M_isIn_109 : decode prog_9_method_66_code 109 = .ok (.iload_n 3, 1) := by decide +kernel
theorem d_M_isIn_110 : decode prog_9_method_66_code 110 = .ok (.ifCond .eq 11, 3) := by decide +kernel
theorem d_M_isIn_113 : decode prog_9_method_66_code 113 = .ok (.aload_n 0, 1) := by decide +kernel
theorem d_M_isIn_114 : decode prog_9_method_66_code 114 = .ok (.iconst 1, 1) := by decide +kernel
theorem d_M_isIn_115 : decode prog_9_method_66_code 115 = .ok (.invokevirtual 185, 3) := by decide +kernel
theorem d_M_isIn_118 : decode prog_9_method_66_code 118 = .ok (.goto 18, 3) := by decide +kernel
theorem d_M_isIn_121 : decode prog_9_method_66_code 121 = .ok (.iload 4, 2) := by decide +kernel
theorem d_M_isIn_123 : decode prog_9_method_66_code 123 = .ok (.ifCond .eq 8, 3) := by decide +kernel
theorem d_M_isIn_126 : decode prog_9_method_66_code 126 = .ok (.bipush (-4), 2) := by decide +kernel
theorem d_M_isIn_128 : decode prog_9_method_66_code 128 = .ok (.goto 8, 3) := by decide +kernel
theorem d_M_isIn_131 : decode prog_9_method_66_code 131 = .ok (.aload_n 0, 1) := by decide +kernel
theorem d_M_isIn_132 : decode prog_9_method_66_code 132 = .ok (.iconst 0, 1) := by decide +kernel
theorem d_M_isIn_133 : decode prog_9_method_66_code 133 = .ok (.invokevirtual 185, 3) := by decide +kernel
theorem d_M_isIn_136 : decode prog_9_method_66_code 136 = .ok (.ireturn, 1) := by decide +kernel
def m_M_isIn_101 (G : Nat → Nat) (r22 : Nat → Int32 → Int32 → Int32 → Int32 → Int32 → hp_H → Option (Int32 × hp_H)) (a0 : Nat) (a1 : Int32) (a2 : Int32) (a3 : Int32) (a5 : Int32) (s0 : Int32) (h : hp_H) : Option (Int32 × hp_H) := hp_nm s0 fun x1 => hp_nm (a5 + 1) fun x2 => r22 a0 a1 a2 a3 x1 x2 h
set_option maxRecDepth 100000 in
set_option maxHeartbeats 4000000 in
theorem j_M_isIn_101 {Z : hp_Z} (r22 : Nat → Int32 → Int32 → Int32 → Int32 → Int32 → hp_H → Option (Int32 × hp_H)) (hr22 : ∀ (a0 : Nat) (a1 : Int32) (a2 : Int32) (a3 : Int32) (a4 : Int32) (a5 : Int32) (h : hp_H), hp_J Y_M_isIn Z hp_rI h 22 [(0, .ref a0), (1, .int a1), (2, .int a2), (3, .int a3), (4, .int a4), (5, .int a5)] [] (r22 a0 a1 a2 a3 a4 a5  h)) (a0 : Nat) (a1 : Int32) (a2 : Int32) (a3 : Int32) (a5 : Int32) (s0 : Int32) (h : hp_H) : hp_J Y_M_isIn Z hp_rI h 101 [(0, .ref a0), (1, .int a1), (2, .int a2), (3, .int a3), (5, .int a5)] [.int s0] (m_M_isIn_101 (hp_G Z) r22 a0 a1 a2 a3 a5 s0 h) := by
  unfold m_M_isIn_101
  refine hp_istore (fun x1 => [(4, .int x1), (0, .ref a0), (1, .int a1), (2, .int a2), (3, .int a3), (5, .int a5)]) d_M_isIn_101 (by decide) (fun _ => rfl) fun x1 => ?_
  refine hp_iinc (x0 := 5) (d := 1) (fun x2 => [(5, .int x2), (4, .int x1), (0, .ref a0), (1, .int a1), (2, .int a2), (3, .int a3)]) d_M_isIn_103 rfl (by decide) (by decide) (fun _ => rfl) fun x2 => ?_
  refine hp_goto (tgt := 22) d_M_isIn_106 (by decide) ?_
  refine hp_sub [2, 3, 4, 5, 1, 0] rfl ?_
  exact hr22 _ _ _ _ _ _ _
def m_M_isIn_96 (G : Nat → Nat) (r22 : Nat → Int32 → Int32 → Int32 → Int32 → Int32 → hp_H → Option (Int32 × hp_H)) (a0 : Nat) (a1 : Int32) (a2 : Int32) (a3 : Int32) (a5 : Int32) (h : hp_H) : Option (Int32 × hp_H) := m_M_isIn_101 G r22 a0 a1 a2 a3 a5 (1 : Int32) h
set_option maxRecDepth 100000 in
set_option maxHeartbeats 4000000 in
theorem j_M_isIn_96 {Z : hp_Z} (r22 : Nat → Int32 → Int32 → Int32 → Int32 → Int32 → hp_H → Option (Int32 × hp_H)) (hr22 : ∀ (a0 : Nat) (a1 : Int32) (a2 : Int32) (a3 : Int32) (a4 : Int32) (a5 : Int32) (h : hp_H), hp_J Y_M_isIn Z hp_rI h 22 [(0, .ref a0), (1, .int a1), (2, .int a2), (3, .int a3), (4, .int a4), (5, .int a5)] [] (r22 a0 a1 a2 a3 a4 a5  h)) (a0 : Nat) (a1 : Int32) (a2 : Int32) (a3 : Int32) (a5 : Int32) (h : hp_H) : hp_J Y_M_isIn Z hp_rI h 96 [(0, .ref a0), (1, .int a1), (2, .int a2), (3, .int a3), (5, .int a5)] [] (m_M_isIn_96 (hp_G Z) r22 a0 a1 a2 a3 a5 h) := by
  unfold m_M_isIn_96
  refine hp_iconst (v := 1) d_M_isIn_96 (by decide) ?_
  refine hp_goto (tgt := 101) d_M_isIn_97 (by decide) ?_
  exact j_M_isIn_101 _ hr22 _ _ _ _ _ _ _
def m_M_isIn_83 (G : Nat → Nat) (r22 : Nat → Int32 → Int32 → Int32 → Int32 → Int32 → hp_H → Option (Int32 × hp_H)) (a0 : Nat) (a1 : Int32) (a2 : Int32) (a4 : Int32) (a5 : Int32) (a6 : Int32) (s0 : Int32) (h : hp_H) : Option (Int32 × hp_H) := hp_nm s0 fun x1 => if a4 = 0 then (if a6 = (-4 : Int32) then (m_M_isIn_96 G r22 a0 a1 a2 x1 a5 h) else (m_M_isIn_101 G r22 a0 a1 a2 x1 a5 (0 : Int32) h)) else (m_M_isIn_96 G r22 a0 a1 a2 x1 a5 h)
set_option maxRecDepth 100000 in
set_option maxHeartbeats 4000000 in
theorem j_M_isIn_83 {Z : hp_Z} (r22 : Nat → Int32 → Int32 → Int32 → Int32 → Int32 → hp_H → Option (Int32 × hp_H)) (hr22 : ∀ (a0 : Nat) (a1 : Int32) (a2 : Int32) (a3 : Int32) (a4 : Int32) (a5 : Int32) (h : hp_H), hp_J Y_M_isIn Z hp_rI h 22 [(0, .ref a0), (1, .int a1), (2, .int a2), (3, .int a3), (4, .int a4), (5, .int a5)] [] (r22 a0 a1 a2 a3 a4 a5  h)) (a0 : Nat) (a1 : Int32) (a2 : Int32) (a4 : Int32) (a5 : Int32) (a6 : Int32) (s0 : Int32) (h : hp_H) : hp_J Y_M_isIn Z hp_rI h 83 [(0, .ref a0), (1, .int a1), (2, .int a2), (4, .int a4), (5, .int a5), (6, .int a6)] [.int s0] (m_M_isIn_83 (hp_G Z) r22 a0 a1 a2 a4 a5 a6 s0 h) := by
  unfold m_M_isIn_83
  refine hp_istore_n (fun x1 => [(3, .int x1), (0, .ref a0), (1, .int a1), (2, .int a2), (4, .int a4), (5, .int a5), (6, .int a6)]) d_M_isIn_83 rfl (by decide) (fun _ => rfl) fun x1 => ?_
  refine hp_iload (x0 := 4) d_M_isIn_84 rfl ?_
  refine hp_if_ne (tgt := 96) d_M_isIn_86 (by decide) ?_ ?_
  · refine hp_iload (x0 := 6) d_M_isIn_89 rfl ?_
    refine hp_bipush (v := -4) d_M_isIn_91 (by decide) ?_
    refine hp_icmp_ne (tgt := 100) d_M_isIn_93 (by decide) ?_ ?_
    · refine hp_sub [1, 2, 3, 0, 5] rfl ?_
      exact j_M_isIn_96 _ hr22 _ _ _ _ _ _
    · refine hp_iconst (v := 0) d_M_isIn_100 (by decide) ?_
      refine hp_sub [1, 2, 3, 0, 5] rfl ?_
      exact j_M_isIn_101 _ hr22 _ _ _ _ _ _ _
  · refine hp_sub [1, 2, 3, 0, 5] rfl ?_
    exact j_M_isIn_96 _ hr22 _ _ _ _ _ _
def m_M_isIn_78 (G : Nat → Nat) (r22 : Nat → Int32 → Int32 → Int32 → Int32 → Int32 → hp_H → Option (Int32 × hp_H)) (a0 : Nat) (a1 : Int32) (a2 : Int32) (a4 : Int32) (a5 : Int32) (a6 : Int32) (h : hp_H) : Option (Int32 × hp_H) := m_M_isIn_83 G r22 a0 a1 a2 a4 a5 a6 (1 : Int32) h
set_option maxRecDepth 100000 in
set_option maxHeartbeats 4000000 in
theorem j_M_isIn_78 {Z : hp_Z} (r22 : Nat → Int32 → Int32 → Int32 → Int32 → Int32 → hp_H → Option (Int32 × hp_H)) (hr22 : ∀ (a0 : Nat) (a1 : Int32) (a2 : Int32) (a3 : Int32) (a4 : Int32) (a5 : Int32) (h : hp_H), hp_J Y_M_isIn Z hp_rI h 22 [(0, .ref a0), (1, .int a1), (2, .int a2), (3, .int a3), (4, .int a4), (5, .int a5)] [] (r22 a0 a1 a2 a3 a4 a5  h)) (a0 : Nat) (a1 : Int32) (a2 : Int32) (a4 : Int32) (a5 : Int32) (a6 : Int32) (h : hp_H) : hp_J Y_M_isIn Z hp_rI h 78 [(0, .ref a0), (1, .int a1), (2, .int a2), (4, .int a4), (5, .int a5), (6, .int a6)] [] (m_M_isIn_78 (hp_G Z) r22 a0 a1 a2 a4 a5 a6 h) := by
  unfold m_M_isIn_78
  refine hp_iconst (v := 1) d_M_isIn_78 (by decide) ?_
  refine hp_goto (tgt := 83) d_M_isIn_79 (by decide) ?_
  exact j_M_isIn_83 _ hr22 _ _ _ _ _ _ _ _
def m_M_isIn_66 (G : Nat → Nat) (r22 : Nat → Int32 → Int32 → Int32 → Int32 → Int32 → hp_H → Option (Int32 × hp_H)) (a0 : Nat) (a1 : Int32) (a2 : Int32) (a3 : Int32) (a4 : Int32) (a5 : Int32) (s0 : Int32) (h : hp_H) : Option (Int32 × hp_H) := hp_nm s0 fun x1 => if a3 = 0 then (if x1 = (1 : Int32) then (m_M_isIn_78 G r22 a0 a1 a2 a4 a5 x1 h) else (m_M_isIn_83 G r22 a0 a1 a2 a4 a5 x1 (0 : Int32) h)) else (m_M_isIn_78 G r22 a0 a1 a2 a4 a5 x1 h)
set_option maxRecDepth 100000 in
set_option maxHeartbeats 4000000 in
theorem j_M_isIn_66 {Z : hp_Z} (r22 : Nat → Int32 → Int32 → Int32 → Int32 → Int32 → hp_H → Option (Int32 × hp_H)) (hr22 : ∀ (a0 : Nat) (a1 : Int32) (a2 : Int32) (a3 : Int32) (a4 : Int32) (a5 : Int32) (h : hp_H), hp_J Y_M_isIn Z hp_rI h 22 [(0, .ref a0), (1, .int a1), (2, .int a2), (3, .int a3), (4, .int a4), (5, .int a5)] [] (r22 a0 a1 a2 a3 a4 a5  h)) (a0 : Nat) (a1 : Int32) (a2 : Int32) (a3 : Int32) (a4 : Int32) (a5 : Int32) (s0 : Int32) (h : hp_H) : hp_J Y_M_isIn Z hp_rI h 66 [(0, .ref a0), (1, .int a1), (2, .int a2), (3, .int a3), (4, .int a4), (5, .int a5)] [.int s0] (m_M_isIn_66 (hp_G Z) r22 a0 a1 a2 a3 a4 a5 s0 h) := by
  unfold m_M_isIn_66
  refine hp_istore (fun x1 => [(6, .int x1), (0, .ref a0), (1, .int a1), (2, .int a2), (3, .int a3), (4, .int a4), (5, .int a5)]) d_M_isIn_66 (by decide) (fun _ => rfl) fun x1 => ?_
  refine hp_iload_n (x0 := 4) d_M_isIn_68 rfl rfl ?_
  refine hp_if_ne (tgt := 78) d_M_isIn_69 (by decide) ?_ ?_
  · refine hp_iload (x0 := 0) d_M_isIn_72 rfl ?_
    refine hp_iconst (v := 1) d_M_isIn_74 (by decide) ?_
    refine hp_icmp_ne (tgt := 82) d_M_isIn_75 (by decide) ?_ ?_
    · refine hp_sub [1, 2, 3, 5, 6, 0] rfl ?_
      exact j_M_isIn_78 _ hr22 _ _ _ _ _ _ _
    · refine hp_iconst (v := 0) d_M_isIn_82 (by decide) ?_
      refine hp_sub [1, 2, 3, 5, 6, 0] rfl ?_
      exact j_M_isIn_83 _ hr22 _ _ _ _ _ _ _ _
  · refine hp_sub [1, 2, 3, 5, 6, 0] rfl ?_
    exact j_M_isIn_78 _ hr22 _ _ _ _ _ _ _
def m_M_isIn_136 (G : Nat → Nat) (s0 : Int32) (h : hp_H) : Option (Int32 × hp_H) := some (s0, h)
set_option maxRecDepth 100000 in
set_option maxHeartbeats 4000000 in
theorem j_M_isIn_136 {Z : hp_Z} (s0 : Int32) (h : hp_H) : hp_J Y_M_isIn Z hp_rI h 136 [] [.int s0] (m_M_isIn_136 (hp_G Z)  s0 h) := by
  unfold m_M_isIn_136
  exact hp_iret d_M_isIn_136 rfl
def m_M_isIn_22 (G : Nat → Nat) : Nat → Nat → Int32 → Int32 → Int32 → Int32 → Int32 → hp_H → Option (Int32 × hp_H)
  | 0, _, _, _, _, _, _, _ => none
  | n + 1, a0, a1, a2, a3, a4, a5, h => if a2 < a5 then (if a3 = 0 then (if a4 = 0 then ((hp_vck h a0 8 (m_M_truth G a0 (0 : Int32) h)).bind fun q1 => m_M_isIn_136 G q1.1 q1.2) else (m_M_isIn_136 G (-4 : Int32) h)) else ((hp_vck h a0 8 (m_M_truth G a0 (1 : Int32) h)).bind fun q2 => m_M_isIn_136 G q2.1 q2.2)) else ((hp_gR h a0 8 24).bind fun x3 => (hp_aI h .int x3 (a1 + a5)).bind fun x4 => if x4 = (-4 : Int32) then (m_M_isIn_66 G (m_M_isIn_22 G  n) a0 a1 a2 a3 a4 a5 (-4 : Int32) h) else ((hp_gR h a0 8 24).bind fun x5 => (hp_aI h .int x5 a1).bind fun x6 => (hp_gR h a0 8 24).bind fun x7 => (hp_aI h .int x7 (a1 + a5)).bind fun x8 => (hp_vck h a0 8 (m_M_equal G a0 x6 x8 h)).bind fun q9 => m_M_isIn_66 G (m_M_isIn_22 G  n) a0 a1 a2 a3 a4 a5 q9.1 q9.2))
set_option maxRecDepth 100000 in
set_option maxHeartbeats 4000000 in
theorem j_M_isIn_22 {Z : hp_Z} : ∀ (n : Nat) (a0 : Nat) (a1 : Int32) (a2 : Int32) (a3 : Int32) (a4 : Int32) (a5 : Int32) (h : hp_H), hp_J Y_M_isIn Z hp_rI h 22 [(0, .ref a0), (1, .int a1), (2, .int a2), (3, .int a3), (4, .int a4), (5, .int a5)] [] (m_M_isIn_22 (hp_G Z)  n a0 a1 a2 a3 a4 a5 h) := by
  intro n
  induction n with
  | zero => intro a0 a1 a2 a3 a4 a5 h; exact hp_fail
  | succ n ih =>
    intro a0 a1 a2 a3 a4 a5 h
    rw [m_M_isIn_22]
    refine hp_iload (x0 := 5) d_M_isIn_22 rfl ?_
    refine hp_iload_n (x0 := 2) d_M_isIn_24 rfl rfl ?_
    refine hp_icmp_gt (tgt := 109) d_M_isIn_25 (by decide) ?_ ?_
    · refine hp_iload_n (x0 := 3) d_M_isIn_109 rfl rfl ?_
      refine hp_if_eq (tgt := 121) d_M_isIn_110 (by decide) ?_ ?_
      · refine hp_iload (x0 := 4) d_M_isIn_121 rfl ?_
        refine hp_if_eq (tgt := 131) d_M_isIn_123 (by decide) ?_ ?_
        · refine hp_aload_n (x0 := 0) d_M_isIn_131 rfl rfl ?_
          refine hp_iconst (v := 0) d_M_isIn_132 (by decide) ?_
          refine hp_callI (hp_crV (ci := 8) (t_M_truth _ _ _ _) cw_M_185 rfl ⟨w_1003, w_1004⟩ (by decide) rfl rfl (Nat.le_of_ble_eq_true rfl) d_M_isIn_133) fun q1 => ?_
          refine hp_sub [] rfl ?_
          exact j_M_isIn_136  _ _
        · refine hp_bipush (v := -4) d_M_isIn_126 (by decide) ?_
          refine hp_goto (tgt := 136) d_M_isIn_128 (by decide) ?_
          refine hp_sub [] rfl ?_
          exact j_M_isIn_136  _ _
      · refine hp_aload_n (x0 := 0) d_M_isIn_113 rfl rfl ?_
        refine hp_iconst (v := 1) d_M_isIn_114 (by decide) ?_
        refine hp_callI (hp_crV (ci := 8) (t_M_truth _ _ _ _) cw_M_185 rfl ⟨w_1003, w_1004⟩ (by decide) rfl rfl (Nat.le_of_ble_eq_true rfl) d_M_isIn_115) fun q2 => ?_
        refine hp_goto (tgt := 136) d_M_isIn_118 (by decide) ?_
        refine hp_sub [] rfl ?_
        exact j_M_isIn_136  _ _
    · refine hp_aload_n (x0 := 0) d_M_isIn_28 rfl rfl ?_
      refine hp_getR fl_M_60 d_M_isIn_29 fun x3 => ?_
      refine hp_iload_n (x0 := 1) d_M_isIn_32 rfl rfl ?_
      refine hp_iload (x0 := 5) d_M_isIn_33 rfl ?_
      refine hp_iadd d_M_isIn_35 ?_
      refine hp_iald d_M_isIn_36 fun x4 => ?_
      refine hp_bipush (v := -4) d_M_isIn_37 (by decide) ?_
      refine hp_icmp_ne (tgt := 47) d_M_isIn_39 (by decide) ?_ ?_
      · refine hp_bipush (v := -4) d_M_isIn_42 (by decide) ?_
        refine hp_goto (tgt := 66) d_M_isIn_44 (by decide) ?_
        exact j_M_isIn_66 _ ih _ _ _ _ _ _ _ _
      · refine hp_aload_n (x0 := 0) d_M_isIn_47 rfl rfl ?_
        refine hp_aload_n (x0 := 0) d_M_isIn_48 rfl rfl ?_
        refine hp_getR fl_M_60 d_M_isIn_49 fun x5 => ?_
        refine hp_iload_n (x0 := 1) d_M_isIn_52 rfl rfl ?_
        refine hp_iald d_M_isIn_53 fun x6 => ?_
        refine hp_aload_n (x0 := 0) d_M_isIn_54 rfl rfl ?_
        refine hp_getR fl_M_60 d_M_isIn_55 fun x7 => ?_
        refine hp_iload_n (x0 := 1) d_M_isIn_58 rfl rfl ?_
        refine hp_iload (x0 := 5) d_M_isIn_59 rfl ?_
        refine hp_iadd d_M_isIn_61 ?_
        refine hp_iald d_M_isIn_62 fun x8 => ?_
        refine hp_callI (hp_crV (ci := 8) (t_M_equal _ _ _ _ _) cw_M_259 rfl ⟨w_1127, ws_60⟩ (by decide) rfl rfl (Nat.le_of_ble_eq_true rfl) d_M_isIn_63) fun q9 => ?_
        exact j_M_isIn_66 _ ih _ _ _ _ _ _ _ _
def m_M_isIn (G : Nat → Nat) (a0 : Nat) (a1 : Int32) (a2 : Int32) (h : hp_H) : Option (Int32 × hp_H) := (hp_gR h a0 8 24).bind fun x1 => (hp_aI h .int x1 a1).bind fun x2 => if x2 = (-4 : Int32) then (some ((-4 : Int32), h)) else (hp_nm (0 : Int32) fun x3 => hp_nm (0 : Int32) fun x4 => hp_nm (1 : Int32) fun x5 => m_M_isIn_22 G hp_fu a0 a1 a2 x3 x4 x5 h)
set_option maxRecDepth 100000 in
set_option maxHeartbeats 4000000 in
theorem j_M_isIn_0 {Z : hp_Z} (a0 : Nat) (a1 : Int32) (a2 : Int32) (h : hp_H) : hp_J Y_M_isIn Z hp_rI h 0 [(0, .ref a0), (1, .int a1), (2, .int a2)] [] (m_M_isIn (hp_G Z)  a0 a1 a2 h) := by
  unfold m_M_isIn
  refine hp_aload_n (x0 := 0) d_M_isIn_0 rfl rfl ?_
  refine hp_getR fl_M_60 d_M_isIn_1 fun x1 => ?_
  refine hp_iload_n (x0 := 1) d_M_isIn_4 rfl rfl ?_
  refine hp_iald d_M_isIn_5 fun x2 => ?_
  refine hp_bipush (v := -4) d_M_isIn_6 (by decide) ?_
  refine hp_icmp_ne (tgt := 14) d_M_isIn_8 (by decide) ?_ ?_
  · refine hp_bipush (v := -4) d_M_isIn_11 (by decide) ?_
    exact hp_iret d_M_isIn_13 rfl
  · refine hp_iconst (v := 0) d_M_isIn_14 (by decide) ?_
    refine hp_istore_n (fun x3 => [(3, .int x3), (0, .ref a0), (1, .int a1), (2, .int a2)]) d_M_isIn_15 rfl (by decide) (fun _ => rfl) fun x3 => ?_
    refine hp_iconst (v := 0) d_M_isIn_16 (by decide) ?_
    refine hp_istore (fun x4 => [(4, .int x4), (3, .int x3), (0, .ref a0), (1, .int a1), (2, .int a2)]) d_M_isIn_17 (by decide) (fun _ => rfl) fun x4 => ?_
    refine hp_iconst (v := 1) d_M_isIn_19 (by decide) ?_
    refine hp_istore (fun x5 => [(5, .int x5), (4, .int x4), (3, .int x3), (0, .ref a0), (1, .int a1), (2, .int a2)]) d_M_isIn_20 (by decide) (fun _ => rfl) fun x5 => ?_
    refine hp_sub [3, 4, 5, 2, 1, 0] rfl ?_
    exact j_M_isIn_22  hp_fu _ _ _ _ _ _ _
theorem t_M_isIn (l : Launch) (E : hp_E) (a0 : Nat) (a1 : Int32) (a2 : Int32) : hp_M l E y_M_isIn Y_M_isIn hp_rI [.ref a0, .int a1, .int a2] (m_M_isIn E.2.2.1 a0 a1 a2) := hp_M.of (by decide +kernel) ⟨rfl, rfl⟩ (Nat.le_of_ble_eq_true rfl) (fun Z h hE => by subst hE; exact j_M_isIn_0 _ _ _ h)
