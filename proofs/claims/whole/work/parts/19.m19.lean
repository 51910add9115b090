-- M_isFit
theorem d_M_isFit_0 : decode prog_9_method_76_code 0 = .ok (.bipush 9, 2) := by decide +kernel
theorem d_M_isFit_2 : decode prog_9_method_76_code 2 = .ok (.istore_n 1, 1) := by decide +kernel
theorem d_M_isFit_3 : decode prog_9_method_76_code 3 = .ok (.iload_n 1, 1) := by decide +kernel
theorem d_M_isFit_4 : decode prog_9_method_76_code 4 = .ok (.bipush 18, 2) := by decide +kernel
theorem d_M_isFit_6 : decode prog_9_method_76_code 6 = .ok (.if_icmp .ge 18, 3) := by decide +kernel
theorem d_M_isFit_9 : decode prog_9_method_76_code 9 = .ok (.aload_n 0, 1) := by decide +kernel
theorem d_M_isFit_10 : decode prog_9_method_76_code 10 = .ok (.getfield 66, 3) := by decide +kernel
theorem d_M_isFit_13 : decode prog_9_method_76_code 13 = .ok (.iload_n 1, 1) := by decide +kernel
theorem d_M_isFit_14 : decode prog_9_method_76_code 14 = .ok (.iaload, 1) := by decide +kernel
theorem d_M_isFit_15 : decode prog_9_method_76_code 15 = .ok (.ifCond .ne 9, 3) := by decide +kernel
theorem d_M_isFit_18 : decode prog_9_method_76_code 18 = .ok (.iinc 1 1, 3) := by decide +kernel
theorem d_M_isFit_21 : decode prog_9_method_76_code 21 = .ok (.goto (-18), 3) := by decide +kernel
theorem d_M_isFit_24 : decode prog_9_method_76_code 24 = .ok (.iconst 1, 1) := by decide +kernel
theorem d_M_isFit_25 : decode prog_9_method_76_code 25 = .ok (.istore_n 2, 1) := by decide +kernel
theorem d_M_isFit_26 : decode prog_9_method_76_code 26 = .ok (.iload_n 1, 1) := by decide +kernel
theorem d_M_isFit_27 : decode prog_9_method_76_code 27 = .ok (.bipush 18, 2) := by decide +kernel
theorem d_M_isFit_29 : decode prog_9_method_76_code 29 = .ok (.iadd, 1) := by decide +kernel
theorem d_M_isFit_30 : decode prog_9_method_76_code 30 = .ok (.istore_n 3, 1) := by decide +kernel
theorem d_M_isFit_31 : decode prog_9_method_76_code 31 = .ok (.iload_n 3, 1) := by decide +kernel
theorem d_M_isFit_32 : decode prog_9_method_76_code 32 = .ok (.bipush 64, 2) := by decide +kernel
theorem d_M_isFit_34 : decode prog_9_method_76_code 34 = .ok (.if_icmp .ge 28, 3) := by decide +kernel
theorem d_M_isFit_37 : decode prog_9_method_76_code 37 = .ok (.iload_n 2, 1) := by decide +kernel
theorem d_M_isFit_38 : decode prog_9_method_76_code 38 = .ok (.ifCond .eq 16, 3) := by decide +kernel
theorem d_M_isFit_41 : decode prog_9_method_76_code 41 = .ok (.aload_n 0, 1) := by decide +kernel
theorem d_M_isFit_42 : decode prog_9_method_76_code 42 = .ok (.getfield 66, 3) := by decide +kernel
theorem d_M_isFit_45 : decode prog_9_method_76_code 45 = .ok (.iload_n 3, 1) := by decide +kernel
theorem d_M_isFit_46 : decode prog_9_method_76_code 46 = .ok (.iaload, 1) := by decide +kernel
theorem d_M_isFit_47 : decode prog_9_method_76_code 47 = .ok (.ifCond .ne 7, 3) := by decide +kernel
theorem d_M_isFit_50 : decode prog_9_method_76_code 50 = .ok (.iconst 1, 1) := by decide +kernel
theorem d_M_isFit_51 : decode prog_9_method_76_code 51 = .ok (.goto 4, 3) := by decide +kernel
theorem d_M_isFit_54 : decode prog_9_method_76_code 54 = .ok (.iconst 0, 1) := by decide +kernel
theorem d_M_isFit_55 : decode prog_9_method_76_code 55 = .ok (.istore_n 2, 1) := by decide +kernel
theorem d_M_isFit_56 : decode prog_9_method_76_code 56 = .ok (.iinc 3 1, 3) := by decide +kernel
theorem d_M_isFit_59 : decode prog_9_method_76_code 59 = .ok (.goto (-28), 3) := by decide +kernel
theorem d_M_isFit_62 : decode prog_9_method_76_code 62 = .ok (.iload_n 2, 1) := by decide +kernel
theorem d_M_isFit_63 : decode prog_9_method_76_code 63 = .ok (.ireturn, 1) := by decide +kernel
def m_M_isFit_55 (G : Nat → Nat) (r31 : Nat → Int32 → Int32 → hp_H → Option (Int32 × hp_H)) (a0 : Nat) (a3 : Int32) (s0 : Int32) (h : hp_H) : Option (Int32 × hp_H) := hp_nm s0 fun x1 => hp_nm (a3 + 1) fun x2 => r31 a0 x1 x2 h
set_option maxRecDepth 100000 in
set_option maxHeartbeats 4000000 in
theorem j_M_isFit_55 {Z : hp_Z} (r31 : Nat → Int32 → Int32 → hp_H → Option (Int32 × hp_H)) (hr31 : ∀ (a0 : Nat) (a2 : Int32) (a3 : Int32) (h : hp_H), hp_J Y_M_isFit Z hp_rI h 31 [(0, .ref a0), (2, .int a2), (3, .int a3)] [] (r31 a0 a2 a3  h)) (a0 : Nat) (a3 : Int32) (s0 : Int32) (h : hp_H) : hp_J Y_M_isFit Z hp_rI h 55 [(0, .ref a0), (3, .int a3)] [.int s0] (m_M_isFit_55 (hp_G Z) r31 a0 a3 s0 h) := by
  unfold m_M_isFit_55
  refine hp_istore_n (fun x1 => [(2, .int x1), (0, .ref a0), (3, .int a3)]) d_M_isFit_55 rfl (by decide) (fun _ => rfl) fun x1 => ?_
  refine hp_iinc (x0 := 2) (d := 1) (fun x2 => [(3, .int x2), (2, .int x1), (0, .ref a0)]) d_M_isFit_56 rfl (by decide) (by decide) (fun _ => rfl) fun x2 => ?_
  refine hp_goto (tgt := 31) d_M_isFit_59 (by decide) ?_
  refine hp_sub [2, 1, 0] rfl ?_
  exact hr31 _ _ _ _
def m_M_isFit_54 (G : Nat → Nat) (r31 : Nat → Int32 → Int32 → hp_H → Option (Int32 × hp_H)) (a0 : Nat) (a3 : Int32) (h : hp_H) : Option (Int32 × hp_H) := m_M_isFit_55 G r31 a0 a3 (0 : Int32) h
set_option maxRecDepth 100000 in
set_option maxHeartbeats 4000000 in
theorem j_M_isFit_54 {Z : hp_Z} (r31 : Nat → Int32 → Int32 → hp_H → Option (Int32 × hp_H)) (hr31 : ∀ (a0 : Nat) (a2 : Int32) (a3 : Int32) (h : hp_H), hp_J Y_M_isFit Z hp_rI h 31 [(0, .ref a0), (2, .int a2), (3, .int a3)] [] (r31 a0 a2 a3  h)) (a0 : Nat) (a3 : Int32) (h : hp_H) : hp_J Y_M_isFit Z hp_rI h 54 [(0, .ref a0), (3, .int a3)] [] (m_M_isFit_54 (hp_G Z) r31 a0 a3 h) := by
  unfold m_M_isFit_54
  refine hp_iconst (v := 0) d_M_isFit_54 (by decide) ?_
  exact j_M_isFit_55 _ hr31 _ _ _ _
def m_M_isFit_31 (G : Nat → Nat) : Nat → Nat → Int32 → Int32 → hp_H → Option (Int32 × hp_H)
  | 0, _, _, _, _ => none
  | n + 1, a0, a2, a3, h => if (64 : Int32) ≤ a3 then (hp_z a2 h) else (if a2 = 0 then (m_M_isFit_54 G (m_M_isFit_31 G  n) a0 a3 h) else ((hp_gR h a0 8 30).bind fun x1 => (hp_aI h .int x1 a3).bind fun x2 => if x2 = 0 then (m_M_isFit_55 G (m_M_isFit_31 G  n) a0 a3 (1 : Int32) h) else (m_M_isFit_54 G (m_M_isFit_31 G  n) a0 a3 h)))
set_option maxRecDepth 100000 in
set_option maxHeartbeats 4000000 in
theorem j_M_isFit_31 {Z : hp_Z} : ∀ (n : Nat) (a0 : Nat) (a2 : Int32) (a3 : Int32) (h : hp_H), hp_J Y_M_isFit Z hp_rI h 31 [(0, .ref a0), (2, .int a2), (3, .int a3)] [] (m_M_isFit_31 (hp_G Z)  n a0 a2 a3 h) := by
  intro n
  induction n with
  | zero => intro a0 a2 a3 h; exact hp_fail
  | succ n ih =>
    intro a0 a2 a3 h
    rw [m_M_isFit_31]
    refine hp_iload_n (x0 := 2) d_M_isFit_31 rfl rfl ?_
    refine hp_bipush (v := 64) d_M_isFit_32 (by decide) ?_
    refine hp_icmp_ge (tgt := 62) d_M_isFit_34 (by decide) ?_ ?_
    · refine hp_iload_n (x0 := 1) d_M_isFit_62 rfl rfl ?_
      exact hp_zret d_M_isFit_63 rfl
    · refine hp_iload_n (x0 := 1) d_M_isFit_37 rfl rfl ?_
      refine hp_if_eq (tgt := 54) d_M_isFit_38 (by decide) ?_ ?_
      · refine hp_sub [0, 2] rfl ?_
        exact j_M_isFit_54 _ ih _ _ _
      · refine hp_aload_n (x0 := 0) d_M_isFit_41 rfl rfl ?_
        refine hp_getR fl_M_66 d_M_isFit_42 fun x1 => ?_
        refine hp_iload_n (x0 := 2) d_M_isFit_45 rfl rfl ?_
        refine hp_iald d_M_isFit_46 fun x2 => ?_
        refine hp_if_ne (tgt := 54) d_M_isFit_47 (by decide) ?_ ?_
        · refine hp_iconst (v := 1) d_M_isFit_50 (by decide) ?_
          refine hp_goto (tgt := 55) d_M_isFit_51 (by decide) ?_
          refine hp_sub [0, 2] rfl ?_
          exact j_M_isFit_55 _ ih _ _ _ _
        · refine hp_sub [0, 2] rfl ?_
          exact j_M_isFit_54 _ ih _ _ _
def m_M_isFit_24 (G : Nat → Nat) (a0 : Nat) (a1 : Int32) (h : hp_H) : Option (Int32 × hp_H) := hp_nm (1 : Int32) fun x1 => hp_nm (a1 + (18 : Int32)) fun x2 => m_M_isFit_31 G hp_fu a0 x1 x2 h
set_option maxRecDepth 100000 in
set_option maxHeartbeats 4000000 in
theorem j_M_isFit_24 {Z : hp_Z} (a0 : Nat) (a1 : Int32) (h : hp_H) : hp_J Y_M_isFit Z hp_rI h 24 [(0, .ref a0), (1, .int a1)] [] (m_M_isFit_24 (hp_G Z)  a0 a1 h) := by
  unfold m_M_isFit_24
  refine hp_iconst (v := 1) d_M_isFit_24 (by decide) ?_
  refine hp_istore_n (fun x1 => [(2, .int x1), (0, .ref a0), (1, .int a1)]) d_M_isFit_25 rfl (by decide) (fun _ => rfl) fun x1 => ?_
  refine hp_iload_n (x0 := 2) d_M_isFit_26 rfl rfl ?_
  refine hp_bipush (v := 18) d_M_isFit_27 (by decide) ?_
  refine hp_iadd d_M_isFit_29 ?_
  refine hp_istore_n (fun x2 => [(3, .int x2), (2, .int x1), (0, .ref a0), (1, .int a1)]) d_M_isFit_30 rfl (by decide) (fun _ => rfl) fun x2 => ?_
  refine hp_sub [2, 1, 0] rfl ?_
  exact j_M_isFit_31  hp_fu _ _ _ _
def m_M_isFit_3 (G : Nat → Nat) : Nat → Nat → Int32 → hp_H → Option (Int32 × hp_H)
  | 0, _, _, _ => none
  | n + 1, a0, a1, h => if (18 : Int32) ≤ a1 then (m_M_isFit_24 G a0 a1 h) else ((hp_gR h a0 8 30).bind fun x1 => (hp_aI h .int x1 a1).bind fun x2 => if x2 = 0 then (hp_nm (a1 + 1) fun x3 => (m_M_isFit_3 G  n) a0 x3 h) else (m_M_isFit_24 G a0 a1 h))
set_option maxRecDepth 100000 in
set_option maxHeartbeats 4000000 in
theorem j_M_isFit_3 {Z : hp_Z} : ∀ (n : Nat) (a0 : Nat) (a1 : Int32) (h : hp_H), hp_J Y_M_isFit Z hp_rI h 3 [(0, .ref a0), (1, .int a1)] [] (m_M_isFit_3 (hp_G Z)  n a0 a1 h) := by
  intro n
  induction n with
  | zero => intro a0 a1 h; exact hp_fail
  | succ n ih =>
    intro a0 a1 h
    rw [m_M_isFit_3]
    refine hp_iload_n (x0 := 1) d_M_isFit_3 rfl rfl ?_
    refine hp_bipush (v := 18) d_M_isFit_4 (by decide) ?_
    refine hp_icmp_ge (tgt := 24) d_M_isFit_6 (by decide) ?_ ?_
    · exact j_M_isFit_24  _ _ _
    · refine hp_aload_n (x0 := 0) d_M_isFit_9 rfl rfl ?_
      refine hp_getR fl_M_66 d_M_isFit_10 fun x1 => ?_
      refine hp_iload_n (x0 := 1) d_M_isFit_13 rfl rfl ?_
      refine hp_iald d_M_isFit_14 fun x2 => ?_
      refine hp_if_ne (tgt := 24) d_M_isFit_15 (by decide) ?_ ?_
      · refine hp_iinc (x0 := 1) (d := 1) (fun x3 => [(1, .int x3), (0, .ref a0)]) d_M_isFit_18 rfl (by decide) (by decide) (fun _ => rfl) fun x3 => ?_
        refine hp_goto (tgt := 3) d_M_isFit_21 (by decide) ?_
        refine hp_sub [1, 0] rfl ?_
        exact ih _ _ _
      · exact j_M_isFit_24  _ _ _
def m_M_isFit (G : Nat → Nat) (a0 : Nat) (h : hp_H) : Option (Int32 × hp_H) := hp_nm (9 : Int32) fun x1 => m_M_isFit_3 G hp_fu a0 x1 h
set_option maxRecDepth 100000 in
set_option maxHeartbeats 4000000 in
theorem j_M_isFit_0 {Z : hp_Z} (a0 : Nat) (h : hp_H) : hp_J Y_M_isFit Z hp_rI h 0 [(0, .ref a0)] [] (m_M_isFit (hp_G Z)  a0 h) := by
  unfold m_M_isFit
  refine hp_bipush (v := 9) d_M_isFit_0 (by decide) ?_
  refine hp_istore_n (fun x1 => [(1, .int x1), (0, .ref a0)]) d_M_isFit_2 rfl (by decide) (fun _ => rfl) fun x1 => ?_
  refine hp_sub [1, 0] rfl ?_
  exact j_M_isFit_3  hp_fu _ _ _
theorem t_M_isFit (l : Launch) (E : hp_E) (a0 : Nat) : hp_M l E y_M_isFit Y_M_isFit hp_rI [.ref a0] (m_M_isFit E.2.2.1 a0) := hp_M.of (by decide +kernel) ⟨rfl, rfl⟩ (Nat.le_of_ble_eq_true rfl) (fun Z h hE => by subst hE; exact j_M_isFit_0 _ h)
-- M_sumAll
theorem d_M_sumAll_0 : decode prog_9_method_75_code 0 = .ok (.aload_n 0, 1) := by decide +kernel
theorem d_M_sumAll_1 : decode prog_9_method_75_code 1 = .ok (.getfield 66, 3) := by decide +kernel
theorem d_M_sumAll_4 : decode prog_9_method_75_code 4 = .ok (.invokestatic 95, 3) := by decide +kernel
theorem d_M_sumAll_7 : decode prog_9_method_75_code 7 = .ok (.aload_n 0, 1) := by decide +kernel
theorem d_M_sumAll_8 : decode prog_9_method_75_code 8 = .ok (.iconst 0, 1) := by decide +kernel
theorem d_M_sumAll_9 : decode prog_9_method_75_code 9 = .ok (.putfield 331, 3) := by decide +kernel
theorem d_M_sumAll_12 : decode prog_9_method_75_code 12 = .ok (.aload_n 0, 1) := by decide +kernel
theorem d_M_sumAll_13 : decode prog_9_method_75_code 13 = .ok (.iconst 1, 1) := by decide +kernel
theorem d_M_sumAll_14 : decode prog_9_method_75_code 14 = .ok (.putfield 334, 3) := by decide +kernel
theorem d_M_sumAll_17 : decode prog_9_method_75_code 17 = .ok (.iconst 0, 1) := by decide +kernel
theorem d_M_sumAll_18 : decode prog_9_method_75_code 18 = .ok (.istore_n 1, 1) := by decide +kernel
theorem d_M_sumAll_19 : decode prog_9_method_75_code 19 = .ok (.iload_n 1, 1) := by decide +kernel
theorem d_M_sumAll_20 : decode prog_9_method_75_code 20 = .ok (.aload_n 0, 1) := by decide +kernel
theorem d_M_sumAll_21 : decode prog_9_method_75_code 21 = .ok (.getfield 328, 3) := by decide +kernel
theorem d_M_sumAll_24 : decode prog_9_method_75_code 24 = .ok (.if_icmp .ge 215, 3) := by decide +kernel
theorem d_M_sumAll_27 : decode prog_9_method_75_code 27 = .ok (.aload_n 0, 1) := by decide +kernel
theorem d_M_sumAll_28 : decode prog_9_method_75_code 28 = .ok (.getfield 63, 3) := by decide +kernel
theorem d_M_sumAll_31 : decode prog_9_method_75_code 31 = .ok (.iload_n 1, 1) := by decide +kernel
theorem d_M_sumAll_32 : decode prog_9_method_75_code 32 = .ok (.iaload, 1) := by decide +kernel
theorem d_M_sumAll_33 : decode prog_9_method_75_code 33 = .ok (.istore_n 2, 1) := by decide +kernel
theorem d_M_sumAll_34 : decode prog_9_method_75_code 34 = .ok (.aload_n 0, 1) := by decide +kernel
theorem d_M_sumAll_35 : decode prog_9_method_75_code 35 = .ok (.iload_n 2, 1) := by decide +kernel
theorem d_M_sumAll_36 : decode prog_9_method_75_code 36 = .ok (.invokevirtual 168, 3) := by decide +kernel
theorem d_M_sumAll_39 : decode prog_9_method_75_code 39 = .ok (.ifCond .ne 5, 3) := by decide +kernel
theorem d_M_sumAll_42 : decode prog_9_method_75_code 42 = .ok (.iconst 0, 1) := by decide +kernel
theorem d_M_sumAll_43 : decode prog_9_method_75_code 43 = .ok (.ireturn, 1) := by decide +kernel
theorem d_M_sumAll_44 : decode prog_9_method_75_code 44 = .ok (.aload_n 0, 1) := by decide +kernel
theorem d_M_sumAll_45 : decode prog_9_method_75_code 45 = .ok (.aload_n 0, 1) := by decide +kernel
theorem d_M_sumAll_46 : decode prog_9_method_75_code 46 = .ok (.getfield 334, 3) := by decide +kernel
theorem d_M_sumAll_49 : decode prog_9_method_75_code 49 = .ok (.ifCond .eq 17, 3) := by decide +kernel
theorem d_M_sumAll_52 : decode prog_9_method_75_code 52 = .ok (.aload_n 0, 1) := by decide +kernel
theorem d_M_sumAll_53 : decode prog_9_method_75_code 53 = .ok (.getfield 7, 3) := by decide +kernel
theorem d_M_sumAll_56 : decode prog_9_method_75_code 56 = .ok (.iload_n 2, 1) := by decide +kernel
theorem d_M_sumAll_57 : decode prog_9_method_75_code 57 = .ok (.iaload, 1) := by decide +kernel
theorem d_M_sumAll_58 : decode prog_9_method_75_code 58 = .ok (.iconst 3, 1) := by decide +kernel
theorem d_M_sumAll_59 : decode prog_9_method_75_code 59 = .ok (.if_icmp .ne 7, 3) := by decide +kernel
theorem d_M_sumAll_62 : decode prog_9_method_75_code 62 = .ok (.iconst 1, 1) := by decide +kernel
theorem d_M_sumAll_63 : decode prog_9_method_75_code 63 = .ok (.goto 4, 3) := by decide +kernel
theorem d_M_sumAll_66 : decode prog_9_method_75_code 66 = .ok (.iconst 0, 1) := by decide +kernel
theorem d_M_sumAll_67 : decode prog_9_method_75_code 67 = .ok (.putfield 334, 3) := by decide +kernel
theorem d_M_sumAll_70 : decode prog_9_method_75_code 70 = .ok (.aload_n 0, 1) := by decide +kernel
theorem d_M_sumAll_71 : decode prog_9_method_75_code 71 = .ok (.iload_n 2, 1) := by decide +kernel
theorem d_M_sumAll_72 : decode prog_9_method_75_code 72 = .ok (.aload_n 0, 1) := by decide +kernel
theorem d_M_sumAll_73 : decode prog_9_method_75_code 73 = .ok (.getfield 45, 3) := by decide +kernel
theorem d_M_sumAll_76 : decode prog_9_method_75_code 76 = .ok (.invokevirtual 115, 3) := by decide +kernel
theorem d_M_sumAll_79 : decode prog_9_method_75_code 79 = .ok (.aload_n 0, 1) := by decide +kernel
theorem d_M_sumAll_80 : decode prog_9_method_75_code 80 = .ok (.getfield 331, 3) := by decide +kernel
theorem d_M_sumAll_83 : decode prog_9_method_75_code 83 = .ok (.aload_n 0, 1) := by decide +kernel
theorem d_M_sumAll_84 : decode prog_9_method_75_code 84 = .ok (.getfield 16, 3) := by decide +kernel
theorem d_M_sumAll_87 : decode prog_9_method_75_code 87 = .ok (.iload_n 2, 1) := by decide +kernel
theorem d_M_sumAll_88 : decode prog_9_method_75_code 88 = .ok (.iaload, 1) := by decide +kernel
theorem d_M_sumAll_89 : decode prog_9_method_75_code 89 = .ok (.imul, 1) := by decide +kernel
theorem d_M_sumAll_90 : decode prog_9_method_75_code 90 = .ok (.ifCond .lt 42, 3) := by decide +kernel
theorem d_M_sumAll_93 : decode prog_9_method_75_code 93 = .ok (.aload_n 0, 1) := by decide +kernel
theorem d_M_sumAll_94 : decode prog_9_method_75_code 94 = .ok (.getfield 66, 3) := by decide +kernel
theorem d_M_sumAll_97 : decode prog_9_method_75_code 97 = .ok (.aload_n 0, 1) := by decide +kernel
theorem d_M_sumAll_98 : decode prog_9_method_75_code 98 = .ok (.getfield 45, 3) := by decide +kernel
theorem d_M_sumAll_101 : decode prog_9_method_75_code 101 = .ok (.iconst 1, 1) := by decide +kernel
theorem d_M_sumAll_102 : decode prog_9_method_75_code 102 = .ok (.invokestatic 119, 3) := by decide +kernel
theorem d_M_sumAll_105 : decode prog_9_method_75_code 105 = .ok (.aload_n 0, 1) := by decide +kernel
theorem d_M_sumAll_106 : decode prog_9_method_75_code 106 = .ok (.aload_n 0, 1) := by decide +kernel
theorem d_M_sumAll_107 : decode prog_9_method_75_code 107 = .ok (.getfield 331, 3) := by decide +kernel
theorem d_M_sumAll_110 : decode prog_9_method_75_code 110 = .ok (.ifCond .ne 12, 3) := by decide +kernel
theorem d_M_sumAll_113 : decode prog_9_method_75_code 113 = .ok (.aload_n 0, 1) := by decide +kernel
theorem d_M_sumAll_114 : decode prog_9_method_75_code 114 = .ok (.getfield 16, 3) := by decide +kernel
theorem d_M_sumAll_117 : decode prog_9_method_75_code 117 = .ok (.iload_n 2, 1) := by decide +kernel
theorem d_M_sumAll_118 : decode prog_9_method_75_code 118 = .ok (.iaload, 1) := by decide +kernel
theorem d_M_sumAll_119 : decode prog_9_method_75_code 119 = .ok (.goto 7, 3) := by decide +kernel
theorem d_M_sumAll_122 : decode prog_9_method_75_code 122 = .ok (.aload_n 0, 1) := by decide +kernel
theorem d_M_sumAll_123 : decode prog_9_method_75_code 123 = .ok (.getfield 331, 3) := by decide +kernel
theorem d_M_sumAll_126 : decode prog_9_method_75_code 126 = .ok (.putfield 331, 3) := by decide +kernel
theorem d_M_sumAll_129 : decode prog_9_method_75_code 129 = .ok (.goto 80, 3) := by decide +kernel
theorem d_M_sumAll_132 : decode prog_9_method_75_code 132 = .ok (.aload_n 0, 1) := by decide +kernel
theorem d_M_sumAll_133 : decode prog_9_method_75_code 133 = .ok (.getfield 66, 3) := by decide +kernel
theorem d_M_sumAll_136 : decode prog_9_method_75_code 136 = .ok (.aload_n 0, 1) := by decide +kernel
theorem d_M_sumAll_137 : decode prog_9_method_75_code 137 = .ok (.getfield 45, 3) := by decide +kernel
theorem d_M_sumAll_140 : decode prog_9_method_75_code 140 = .ok (.invokestatic 131, 3) := by decide +kernel
theorem d_M_sumAll_143 : decode prog_9_method_75_code 143 = .ok (.ifCond .lt 18, 3) := by decide +kernel
theorem d_M_sumAll_146 : decode prog_9_method_75_code 146 = .ok (.aload_n 0, 1) := by decide +kernel
theorem d_M_sumAll_147 : decode prog_9_method_75_code 147 = .ok (.getfield 66, 3) := by decide +kernel
theorem d_M_sumAll_150 : decode prog_9_method_75_code 150 = .ok (.aload_n 0, 1) := by decide +kernel
theorem d_M_sumAll_151 : decode prog_9_method_75_code 151 = .ok (.getfield 45, 3) := by decide +kernel
theorem d_M_sumAll_154 : decode prog_9_method_75_code 154 = .ok (.iconst (-1), 1) := by decide +kernel
theorem d_M_sumAll_155 : decode prog_9_method_75_code 155 = .ok (.invokestatic 119, 3) := by decide +kernel
theorem d_M_sumAll_158 : decode prog_9_method_75_code 158 = .ok (.goto 51, 3) := by decide +kernel
theorem d_M_sumAll_161 : decode prog_9_method_75_code 161 = .ok (.aload_n 0, 1) := by decide +kernel
theorem d_M_sumAll_162 : decode prog_9_method_75_code 162 = .ok (.getfield 45, 3) := by decide +kernel
theorem d_M_sumAll_165 : decode prog_9_method_75_code 165 = .ok (.aload_n 0, 1) := by decide +kernel
theorem d_M_sumAll_166 : decode prog_9_method_75_code 166 = .ok (.getfield 66, 3) := by decide +kernel
theorem d_M_sumAll_169 : decode prog_9_method_75_code 169 = .ok (.iconst (-1), 1) := by decide +kernel
theorem d_M_sumAll_170 : decode prog_9_method_75_code 170 = .ok (.invokestatic 119, 3) := by decide +kernel
theorem d_M_sumAll_173 : decode prog_9_method_75_code 173 = .ok (.iconst 0, 1) := by decide +kernel
theorem d_M_sumAll_174 : decode prog_9_method_75_code 174 = .ok (.istore_n 3, 1) := by decide +kernel
theorem d_M_sumAll_175 : decode prog_9_method_75_code 175 = .ok (.iload_n 3, 1) := by decide +kernel
theorem d_M_sumAll_176 : decode prog_9_method_75_code 176 = .ok (.bipush 64, 2) := by decide +kernel
theorem d_M_sumAll_178 : decode prog_9_method_75_code 178 = .ok (.if_icmp .ge 21, 3) := by decide +kernel
theorem d_M_sumAll_181 : decode prog_9_method_75_code 181 = .ok (.aload_n 0, 1) := by decide +kernel
theorem d_M_sumAll_182 : decode prog_9_method_75_code 182 = .ok (.getfield 66, 3) := by decide +kernel
theorem d_M_sumAll_185 : decode prog_9_method_75_code 185 = .ok (.iload_n 3, 1) := by decide +kernel
theorem d_M_sumAll_186 : decode prog_9_method_75_code 186 = .ok (.aload_n 0, 1) := by decide +kernel
theorem d_M_sumAll_187 : decode prog_9_method_75_code 187 = .ok (.getfield 45, 3) := by decide +kernel
theorem d_M_sumAll_190 : decode prog_9_method_75_code 190 = .ok (.iload_n 3, 1) := by decide +kernel
theorem d_M_sumAll_191 : decode prog_9_method_75_code 191 = .ok (.iaload, 1) := by decide +kernel
theorem d_M_sumAll_192 : decode prog_9_method_75_code 192 = .ok (.iastore, 1) := by decide +kernel
theorem d_M_sumAll_193 : decode prog_9_method_75_code 193 = .ok (.iinc 3 1, 3) := by decide +kernel
theorem d_M_sumAll_196 : decode prog_9_method_75_code 196 = .ok (.goto (-21), 3) := by decide +kernel
theorem d_M_sumAll_199 : decode prog_9_method_75_code 199 = .ok (.aload_n 0, 1) := by decide +kernel
theorem d_M_sumAll_200 : decode prog_9_method_75_code 200 = .ok (.aload_n 0, 1) := by decide +kernel
theorem d_M_sumAll_201 : decode prog_9_method_75_code 201 = .ok (.getfield 16, 3) := by decide +kernel
theorem d_M_sumAll_204 : decode prog_9_method_75_code 204 = .ok (.iload_n 2, 1) := by decide +kernel
theorem d_M_sumAll_205 : decode prog_9_method_75_code 205 = .ok (.iaload, 1) := by decide +kernel
theorem d_M_sumAll_206 : decode prog_9_method_75_code 206 = .ok (.putfield 331, 3) := by decide +kernel
theorem d_M_sumAll_209 : decode prog_9_method_75_code 209 = .ok (.aload_n 0, 1) := by decide +kernel
theorem d_M_sumAll_210 : decode prog_9_method_75_code 210 = .ok (.getfield 66, 3) := by decide +kernel
theorem d_M_sumAll_213 : decode prog_9_method_75_code 213 = .ok (.invokestatic 107, 3) := by decide +kernel
theorem d_M_sumAll_216 : decode prog_9_method_75_code 216 = .ok (.ifCond .eq 8, 3) := by decide +kernel
theorem d_M_sumAll_219 : decode prog_9_method_75_code 219 = .ok (.aload_n 0, 1) := by decide +kernel
theorem d_M_sumAll_220 : decode prog_9_method_75_code 220 = .ok (.iconst 0, 1) := by decide +kernel
theorem d_M_sumAll_221 : decode prog_9_method_75_code 221 = .ok (.putfield 331, 3) := by decide +kernel
theorem d_M_sumAll_224 : decode prog_9_method_75_code 224 = .ok (.aload_n 0, 1) := by decide +kernel
theorem d_M_sumAll_225 : decode prog_9_method_75_code 225 = .ok (.invokevirtual 337, 3) := by decide +kernel
theorem d_M_sumAll_228 : decode prog_9_method_75_code 228 = .ok (.ifCond .ne 5, 3) := by decide +kernel
theorem d_M_sumAll_231 : decode prog_9_method_75_code 231 = .ok (.iconst 0, 1) := by decide +kernel
theorem d_M_sumAll_232 : decode prog_9_method_75_code 232 = .ok (.ireturn, 1) := by decide +kernel
theorem d_M_sumAll_233 : decode prog_9_method_75_code 233 = .ok (.iinc 1 1, 3) := by decide +kernel
theorem d_M_sumAll_236 : decode prog_9_method_75_code 236 = .ok (.goto (-217), 3) := by decide +kernel
theorem d_M_sumAll_239 : decode prog_9_method_75_code 239 = .ok (.iconst 1, 1) := by decide +kernel
theorem d_M_sumAll_240 : decode prog_9_method_75_code 240 = .ok (.ireturn, 1) := by decide +kernel
def m_M_sumAll_224 (G : Nat → Nat) (r19 : Nat → Int32 → hp_H → Option (Int32 × hp_H)) (a0 : Nat) (a1 : Int32) (h : hp_H) : Option (Int32 × hp_H) := (hp_vck h a0 8 (m_M_isFit G a0 h)).bind fun q1 => if q1.1 = 0 then (hp_z (0 : Int32) q1.2) else (hp_nm (a1 + 1) fun x2 => r19 a0 x2 q1.2)
set_option maxRecDepth 100000 in
set_option maxHeartbeats 4000000 in
theorem j_M_sumAll_224 {Z : hp_Z} (r19 : Nat → Int32 → hp_H → Option (Int32 × hp_H)) (hr19 : ∀ (a0 : Nat) (a1 : Int32) (h : hp_H), hp_J Y_M_sumAll Z hp_rI h 19 [(0, .ref a0), (1, .int a1)] [] (r19 a0 a1  h)) (a0 : Nat) (a1 : Int32) (h : hp_H) : hp_J Y_M_sumAll Z hp_rI h 224 [(0, .ref a0), (1, .int a1)] [] (m_M_sumAll_224 (hp_G Z) r19 a0 a1 h) := by
  unfold m_M_sumAll_224
  refine hp_aload_n (x0 := 0) d_M_sumAll_224 rfl rfl ?_
  refine hp_callI (hp_crV (ci := 8) (t_M_isFit _ _ _) cw_M_337 rfl ⟨w_1262, ws_85⟩ (by decide) rfl rfl (Nat.le_of_ble_eq_true rfl) d_M_sumAll_225) fun q1 => ?_
  refine hp_if_ne (tgt := 233) d_M_sumAll_228 (by decide) ?_ ?_
  · refine hp_iconst (v := 0) d_M_sumAll_231 (by decide) ?_
    exact hp_zret d_M_sumAll_232 rfl
  · refine hp_iinc (x0 := 1) (d := 1) (fun x2 => [(1, .int x2), (0, .ref a0)]) d_M_sumAll_233 rfl (by decide) (by decide) (fun _ => rfl) fun x2 => ?_
    refine hp_goto (tgt := 19) d_M_sumAll_236 (by decide) ?_
    refine hp_sub [1, 0] rfl ?_
    exact hr19 _ _ _
def m_M_sumAll_209 (G : Nat → Nat) (r19 : Nat → Int32 → hp_H → Option (Int32 × hp_H)) (a0 : Nat) (a1 : Int32) (h : hp_H) : Option (Int32 × hp_H) := (hp_gR h a0 8 30).bind fun x1 => (m_M_isZero G x1 h).bind fun q2 => if q2.1 = 0 then (m_M_sumAll_224 G r19 a0 a1 q2.2) else ((hp_p q2.2 a0 8 31 (.int (0 : Int32))).bind fun h3 => m_M_sumAll_224 G r19 a0 a1 h3)
set_option maxRecDepth 100000 in
set_option maxHeartbeats 4000000 in
theorem j_M_sumAll_209 {Z : hp_Z} (r19 : Nat → Int32 → hp_H → Option (Int32 × hp_H)) (hr19 : ∀ (a0 : Nat) (a1 : Int32) (h : hp_H), hp_J Y_M_sumAll Z hp_rI h 19 [(0, .ref a0), (1, .int a1)] [] (r19 a0 a1  h)) (a0 : Nat) (a1 : Int32) (h : hp_H) : hp_J Y_M_sumAll Z hp_rI h 209 [(0, .ref a0), (1, .int a1)] [] (m_M_sumAll_209 (hp_G Z) r19 a0 a1 h) := by
  unfold m_M_sumAll_209
  refine hp_aload_n (x0 := 0) d_M_sumAll_209 rfl rfl ?_
  refine hp_getR fl_M_66 d_M_sumAll_210 fun x1 => ?_
  refine hp_callI (hp_crS (t_M_isZero _ _ _) cw_M_107 w_988 (by decide) rfl rfl (Nat.le_of_ble_eq_true rfl) d_M_sumAll_213) fun q2 => ?_
  refine hp_if_eq (tgt := 224) d_M_sumAll_216 (by decide) ?_ ?_
  · exact j_M_sumAll_224 _ hr19 _ _ _
  · refine hp_aload_n (x0 := 0) d_M_sumAll_219 rfl rfl ?_
    refine hp_iconst (v := 0) d_M_sumAll_220 (by decide) ?_
    refine hp_put fl_M_331 (fun q => by cases q) rfl rfl d_M_sumAll_221 fun h3 => ?_
    exact j_M_sumAll_224 _ hr19 _ _ _
def m_M_sumAll_126 (G : Nat → Nat) (r19 : Nat → Int32 → hp_H → Option (Int32 × hp_H)) (a0 : Nat) (a1 : Int32) (s0 : Int32) (s1 : Nat) (h : hp_H) : Option (Int32 × hp_H) := (hp_p h s1 8 31 (.int s0)).bind fun h1 => m_M_sumAll_209 G r19 a0 a1 h1
set_option maxRecDepth 100000 in
set_option maxHeartbeats 4000000 in
theorem j_M_sumAll_126 {Z : hp_Z} (r19 : Nat → Int32 → hp_H → Option (Int32 × hp_H)) (hr19 : ∀ (a0 : Nat) (a1 : Int32) (h : hp_H), hp_J Y_M_sumAll Z hp_rI h 19 [(0, .ref a0), (1, .int a1)] [] (r19 a0 a1  h)) (a0 : Nat) (a1 : Int32) (s0 : Int32) (s1 : Nat) (h : hp_H) : hp_J Y_M_sumAll Z hp_rI h 126 [(0, .ref a0), (1, .int a1)] [.int s0, .ref s1] (m_M_sumAll_126 (hp_G Z) r19 a0 a1 s0 s1 h) := by
  unfold m_M_sumAll_126
  refine hp_put fl_M_331 (fun q => by cases q) rfl rfl d_M_sumAll_126 fun h1 => ?_
  refine hp_goto (tgt := 209) d_M_sumAll_129 (by decide) ?_
  exact j_M_sumAll_209 _ hr19 _ _ _
def m_M_sumAll_175 (G : Nat → Nat) (r19 : Nat → Int32 → hp_H → Option (Int32 × hp_H)) : Nat → Nat → Int32 → Int32 → Int32 → hp_H → Option (Int32 × hp_H)
  | 0, _, _, _, _, _ => none
  | n + 1, a0, a1, a2, a3, h => if (64 : Int32) ≤ a3 then ((hp_gR h a0 8 3).bind fun x1 => (hp_aI h .int x1 a2).bind fun x2 => (hp_p h a0 8 31 (.int x2)).bind fun h3 => m_M_sumAll_209 G r19 a0 a1 h3) else ((hp_gR h a0 8 30).bind fun x4 => (hp_gR h a0 8 18).bind fun x5 => (hp_aI h .int x5 a3).bind fun x6 => (hp_sI h .int x4 a3 x6).bind fun h7 => hp_nm (a3 + 1) fun x8 => (m_M_sumAll_175 G r19 n) a0 a1 a2 x8 h7)
set_option maxRecDepth 100000 in
set_option maxHeartbeats 4000000 in
theorem j_M_sumAll_175 {Z : hp_Z} (r19 : Nat → Int32 → hp_H → Option (Int32 × hp_H)) (hr19 : ∀ (a0 : Nat) (a1 : Int32) (h : hp_H), hp_J Y_M_sumAll Z hp_rI h 19 [(0, .ref a0), (1, .int a1)] [] (r19 a0 a1  h)) : ∀ (n : Nat) (a0 : Nat) (a1 : Int32) (a2 : Int32) (a3 : Int32) (h : hp_H), hp_J Y_M_sumAll Z hp_rI h 175 [(0, .ref a0), (1, .int a1), (2, .int a2), (3, .int a3)] [] (m_M_sumAll_175 (hp_G Z) r19 n a0 a1 a2 a3 h) := by
  intro n
  induction n with
  | zero => intro a0 a1 a2 a3 h; exact hp_fail
  | succ n ih =>
    intro a0 a1 a2 a3 h
    rw [m_M_sumAll_175]
    refine hp_iload_n (x0 := 3) d_M_sumAll_175 rfl rfl ?_
    refine hp_bipush (v := 64) d_M_sumAll_176 (by decide) ?_
    refine hp_icmp_ge (tgt := 199) d_M_sumAll_178 (by decide) ?_ ?_
    · refine hp_aload_n (x0 := 0) d_M_sumAll_199 rfl rfl ?_
      refine hp_aload_n (x0 := 0) d_M_sumAll_200 rfl rfl ?_
      refine hp_getR fl_M_16 d_M_sumAll_201 fun x1 => ?_
      refine hp_iload_n (x0 := 2) d_M_sumAll_204 rfl rfl ?_
      refine hp_iald d_M_sumAll_205 fun x2 => ?_
      refine hp_put fl_M_331 (fun q => by cases q) rfl rfl d_M_sumAll_206 fun h3 => ?_
      refine hp_sub [0, 1] rfl ?_
      exact j_M_sumAll_209 _ hr19 _ _ _
    · refine hp_aload_n (x0 := 0) d_M_sumAll_181 rfl rfl ?_
      refine hp_getR fl_M_66 d_M_sumAll_182 fun x4 => ?_
      refine hp_iload_n (x0 := 3) d_M_sumAll_185 rfl rfl ?_
      refine hp_aload_n (x0 := 0) d_M_sumAll_186 rfl rfl ?_
      refine hp_getR fl_M_45 d_M_sumAll_187 fun x5 => ?_
      refine hp_iload_n (x0 := 3) d_M_sumAll_190 rfl rfl ?_
      refine hp_iald d_M_sumAll_191 fun x6 => ?_
      refine hp_iast d_M_sumAll_192 fun h7 => ?_
      refine hp_iinc (x0 := 3) (d := 1) (fun x8 => [(3, .int x8), (0, .ref a0), (1, .int a1), (2, .int a2)]) d_M_sumAll_193 rfl (by decide) (by decide) (fun _ => rfl) fun x8 => ?_
      refine hp_goto (tgt := 175) d_M_sumAll_196 (by decide) ?_
      refine hp_sub [1, 2, 3, 0] rfl ?_
      exact ih _ _ _ _ _
def m_M_sumAll_67 (G : Nat → Nat) (r19 : Nat → Int32 → hp_H → Option (Int32 × hp_H)) (a0 : Nat) (a1 : Int32) (a2 : Int32) (s0 : Int32) (s1 : Nat) (h : hp_H) : Option (Int32 × hp_H) := (hp_pZ h s1 8 32 s0).bind fun h1 => (hp_gR h1 a0 8 18).bind fun x2 => (hp_vck h1 a0 8 (m_M_lay G a0 a2 x2 h1)).bind fun q3 => (hp_gI q3.2 a0 8 31).bind fun x4 => (hp_gR q3.2 a0 8 3).bind fun x5 => (hp_aI q3.2 .int x5 a2).bind fun x6 => if (x4 * x6) < 0 then ((hp_gR q3.2 a0 8 30).bind fun x7 => (hp_gR q3.2 a0 8 18).bind fun x8 => (m_M_compare G x7 x8 q3.2).bind fun q9 => if q9.1 < 0 then ((hp_gR q9.2 a0 8 18).bind fun x10 => (hp_gR q9.2 a0 8 30).bind fun x11 => (m_M_join G x10 x11 (-1 : Int32) q9.2).bind fun q12 => hp_nm (0 : Int32) fun x13 => m_M_sumAll_175 G r19 hp_fu a0 a1 a2 x13 q12.2) else ((hp_gR q9.2 a0 8 30).bind fun x14 => (hp_gR q9.2 a0 8 18).bind fun x15 => (m_M_join G x14 x15 (-1 : Int32) q9.2).bind fun q16 => m_M_sumAll_209 G r19 a0 a1 q16.2)) else ((hp_gR q3.2 a0 8 30).bind fun x17 => (hp_gR q3.2 a0 8 18).bind fun x18 => (m_M_join G x17 x18 (1 : Int32) q3.2).bind fun q19 => (hp_gI q19.2 a0 8 31).bind fun x20 => if x20 = 0 then ((hp_gR q19.2 a0 8 3).bind fun x22 => (hp_aI q19.2 .int x22 a2).bind fun x23 => m_M_sumAll_126 G r19 a0 a1 x23 a0 q19.2) else ((hp_gI q19.2 a0 8 31).bind fun x21 => m_M_sumAll_126 G r19 a0 a1 x21 a0 q19.2))
set_option maxRecDepth 100000 in
set_option maxHeartbeats 4000000 in
theorem j_M_sumAll_67 {Z : hp_Z} (r19 : Nat → Int32 → hp_H → Option (Int32 × hp_H)) (hr19 : ∀ (a0 : Nat) (a1 : Int32) (h : hp_H), hp_J Y_M_sumAll Z hp_rI h 19 [(0, .ref a0), (1, .int a1)] [] (r19 a0 a1  h)) (a0 : Nat) (a1 : Int32) (a2 : Int32) (s0 : Int32) (s1 : Nat) (h : hp_H) : hp_J Y_M_sumAll Z hp_rI h 67 [(0, .ref a0), (1, .int a1), (2, .int a2)] [.int s0, .ref s1] (m_M_sumAll_67 (hp_G Z) r19 a0 a1 a2 s0 s1 h) := by
  unfold m_M_sumAll_67
  refine hp_putZ fl_M_334 (fun q => by cases q) d_M_sumAll_67 fun h1 => ?_
  refine hp_aload_n (x0 := 0) d_M_sumAll_70 rfl rfl ?_
  refine hp_iload_n (x0 := 2) d_M_sumAll_71 rfl rfl ?_
  refine hp_aload_n (x0 := 0) d_M_sumAll_72 rfl rfl ?_
  refine hp_getR fl_M_45 d_M_sumAll_73 fun x2 => ?_
  refine hp_callU (hp_crV (ci := 8) (t_M_lay _ _ _ _ _) cw_M_115 rfl ⟨w_1060, ws_49⟩ (by decide) rfl rfl (Nat.le_of_ble_eq_true rfl) d_M_sumAll_76) fun q3 => ?_
  refine hp_aload_n (x0 := 0) d_M_sumAll_79 rfl rfl ?_
  refine hp_getI fl_M_331 d_M_sumAll_80 fun x4 => ?_
  refine hp_aload_n (x0 := 0) d_M_sumAll_83 rfl rfl ?_
  refine hp_getR fl_M_16 d_M_sumAll_84 fun x5 => ?_
  refine hp_iload_n (x0 := 2) d_M_sumAll_87 rfl rfl ?_
  refine hp_iald d_M_sumAll_88 fun x6 => ?_
  refine hp_imul d_M_sumAll_89 ?_
  refine hp_if_lt (tgt := 132) d_M_sumAll_90 (by decide) ?_ ?_
  · refine hp_aload_n (x0 := 0) d_M_sumAll_132 rfl rfl ?_
    refine hp_getR fl_M_66 d_M_sumAll_133 fun x7 => ?_
    refine hp_aload_n (x0 := 0) d_M_sumAll_136 rfl rfl ?_
    refine hp_getR fl_M_45 d_M_sumAll_137 fun x8 => ?_
    refine hp_callI (hp_crS (t_M_compare _ _ _ _) cw_M_131 w_1063 (by decide) rfl rfl (Nat.le_of_ble_eq_true rfl) d_M_sumAll_140) fun q9 => ?_
    refine hp_if_lt (tgt := 161) d_M_sumAll_143 (by decide) ?_ ?_
    · refine hp_aload_n (x0 := 0) d_M_sumAll_161 rfl rfl ?_
      refine hp_getR fl_M_45 d_M_sumAll_162 fun x10 => ?_
      refine hp_aload_n (x0 := 0) d_M_sumAll_165 rfl rfl ?_
      refine hp_getR fl_M_66 d_M_sumAll_166 fun x11 => ?_
      refine hp_iconst (v := -1) d_M_sumAll_169 (by decide) ?_
      refine hp_callU (hp_crS (t_M_join _ _ _ _ _) cw_M_119 w_1182 (by decide) rfl rfl (Nat.le_of_ble_eq_true rfl) d_M_sumAll_170) fun q12 => ?_
      refine hp_iconst (v := 0) d_M_sumAll_173 (by decide) ?_
      refine hp_istore_n (fun x13 => [(3, .int x13), (0, .ref a0), (1, .int a1), (2, .int a2)]) d_M_sumAll_174 rfl (by decide) (fun _ => rfl) fun x13 => ?_
      refine hp_sub [1, 2, 3, 0] rfl ?_
      exact j_M_sumAll_175 _ hr19 hp_fu _ _ _ _ _
    · refine hp_aload_n (x0 := 0) d_M_sumAll_146 rfl rfl ?_
      refine hp_getR fl_M_66 d_M_sumAll_147 fun x14 => ?_
      refine hp_aload_n (x0 := 0) d_M_sumAll_150 rfl rfl ?_
      refine hp_getR fl_M_45 d_M_sumAll_151 fun x15 => ?_
      refine hp_iconst (v := -1) d_M_sumAll_154 (by decide) ?_
      refine hp_callU (hp_crS (t_M_join _ _ _ _ _) cw_M_119 w_1182 (by decide) rfl rfl (Nat.le_of_ble_eq_true rfl) d_M_sumAll_155) fun q16 => ?_
      refine hp_goto (tgt := 209) d_M_sumAll_158 (by decide) ?_
      refine hp_sub [0, 1] rfl ?_
      exact j_M_sumAll_209 _ hr19 _ _ _
  · refine hp_aload_n (x0 := 0) d_M_sumAll_93 rfl rfl ?_
    refine hp_getR fl_M_66 d_M_sumAll_94 fun x17 => ?_
    refine hp_aload_n (x0 := 0) d_M_sumAll_97 rfl rfl ?_
    refine hp_getR fl_M_45 d_M_sumAll_98 fun x18 => ?_
    refine hp_iconst (v := 1) d_M_sumAll_101 (by decide) ?_
    refine hp_callU (hp_crS (t_M_join _ _ _ _ _) cw_M_119 w_1182 (by decide) rfl rfl (Nat.le_of_ble_eq_true rfl) d_M_sumAll_102) fun q19 => ?_
    refine hp_aload_n (x0 := 0) d_M_sumAll_105 rfl rfl ?_
    refine hp_aload_n (x0 := 0) d_M_sumAll_106 rfl rfl ?_
    refine hp_getI fl_M_331 d_M_sumAll_107 fun x20 => ?_
    refine hp_if_ne (tgt := 122) d_M_sumAll_110 (by decide) ?_ ?_
    · refine hp_aload_n (x0 := 0) d_M_sumAll_113 rfl rfl ?_
      refine hp_getR fl_M_16 d_M_sumAll_114 fun x22 => ?_
      refine hp_iload_n (x0 := 2) d_M_sumAll_117 rfl rfl ?_
      refine hp_iald d_M_sumAll_118 fun x23 => ?_
      refine hp_goto (tgt := 126) d_M_sumAll_119 (by decide) ?_
      refine hp_sub [0, 1] rfl ?_
      exact j_M_sumAll_126 _ hr19 _ _ _ _ _
    · refine hp_aload_n (x0 := 0) d_M_sumAll_122 rfl rfl ?_
      refine hp_getI fl_M_331 d_M_sumAll_123 fun x21 => ?_
      refine hp_sub [0, 1] rfl ?_
      exact j_M_sumAll_126 _ hr19 _ _ _ _ _
def m_M_sumAll_66 (G : Nat → Nat) (r19 : Nat → Int32 → hp_H → Option (Int32 × hp_H)) (a0 : Nat) (a1 : Int32) (a2 : Int32) (s0 : Nat) (h : hp_H) : Option (Int32 × hp_H) := m_M_sumAll_67 G r19 a0 a1 a2 (0 : Int32) s0 h
set_option maxRecDepth 100000 in
set_option maxHeartbeats 4000000 in
theorem j_M_sumAll_66 {Z : hp_Z} (r19 : Nat → Int32 → hp_H → Option (Int32 × hp_H)) (hr19 : ∀ (a0 : Nat) (a1 : Int32) (h : hp_H), hp_J Y_M_sumAll Z hp_rI h 19 [(0, .ref a0), (1, .int a1)] [] (r19 a0 a1  h)) (a0 : Nat) (a1 : Int32) (a2 : Int32) (s0 : Nat) (h : hp_H) : hp_J Y_M_sumAll Z hp_rI h 66 [(0, .ref a0), (1, .int a1), (2, .int a2)] [.ref s0] (m_M_sumAll_66 (hp_G Z) r19 a0 a1 a2 s0 h) := by
  unfold m_M_sumAll_66
  refine hp_iconst (v := 0) d_M_sumAll_66 (by decide) ?_
  exact j_M_sumAll_67 _ hr19 _ _ _ _ _ _
def m_M_sumAll_19 (G : Nat → Nat) : Nat → Nat → Int32 → hp_H → Option (Int32 × hp_H)
  | 0, _, _, _ => none
  | n + 1, a0, a1, h => (hp_gI h a0 8 26).bind fun x1 => if x1 ≤ a1 then (hp_z (1 : Int32) h) else ((hp_gR h a0 8 25).bind fun x2 => (hp_aI h .int x2 a1).bind fun x3 => hp_nm x3 fun x4 => (hp_vck h a0 8 (m_M_isNumber G a0 x4 h)).bind fun q5 => if q5.1 = 0 then (hp_z (0 : Int32) q5.2) else ((hp_gI q5.2 a0 8 32).bind fun x6 => if x6 = 0 then (m_M_sumAll_66 G (m_M_sumAll_19 G  n) a0 a1 x4 a0 q5.2) else ((hp_gR q5.2 a0 8 1).bind fun x7 => (hp_aI q5.2 .int x7 x4).bind fun x8 => if x8 = (3 : Int32) then (m_M_sumAll_67 G (m_M_sumAll_19 G  n) a0 a1 x4 (1 : Int32) a0 q5.2) else (m_M_sumAll_66 G (m_M_sumAll_19 G  n) a0 a1 x4 a0 q5.2))))
set_option maxRecDepth 100000 in
set_option maxHeartbeats 4000000 in
theorem j_M_sumAll_19 {Z : hp_Z} : ∀ (n : Nat) (a0 : Nat) (a1 : Int32) (h : hp_H), hp_J Y_M_sumAll Z hp_rI h 19 [(0, .ref a0), (1, .int a1)] [] (m_M_sumAll_19 (hp_G Z)  n a0 a1 h) := by
  intro n
  induction n with
  | zero => intro a0 a1 h; exact hp_fail
  | succ n ih =>
    intro a0 a1 h
    rw [m_M_sumAll_19]
    refine hp_iload_n (x0 := 1) d_M_sumAll_19 rfl rfl ?_
    refine hp_aload_n (x0 := 0) d_M_sumAll_20 rfl rfl ?_
    refine hp_getI fl_M_328 d_M_sumAll_21 fun x1 => ?_
    refine hp_icmp_ge (tgt := 239) d_M_sumAll_24 (by decide) ?_ ?_
    · refine hp_iconst (v := 1) d_M_sumAll_239 (by decide) ?_
      exact hp_zret d_M_sumAll_240 rfl
    · refine hp_aload_n (x0 := 0) d_M_sumAll_27 rfl rfl ?_
      refine hp_getR fl_M_63 d_M_sumAll_28 fun x2 => ?_
      refine hp_iload_n (x0 := 1) d_M_sumAll_31 rfl rfl ?_
      refine hp_iald d_M_sumAll_32 fun x3 => ?_
      refine hp_istore_n (fun x4 => [(2, .int x4), (0, .ref a0), (1, .int a1)]) d_M_sumAll_33 rfl (by decide) (fun _ => rfl) fun x4 => ?_
      refine hp_aload_n (x0 := 1) d_M_sumAll_34 rfl rfl ?_
      refine hp_iload_n (x0 := 0) d_M_sumAll_35 rfl rfl ?_
      refine hp_callI (hp_crV (ci := 8) (t_M_isNumber _ _ _ _) cw_M_168 rfl ⟨w_1052, ws_47⟩ (by decide) rfl rfl (Nat.le_of_ble_eq_true rfl) d_M_sumAll_36) fun q5 => ?_
      refine hp_if_ne (tgt := 44) d_M_sumAll_39 (by decide) ?_ ?_
      · refine hp_iconst (v := 0) d_M_sumAll_42 (by decide) ?_
        exact hp_zret d_M_sumAll_43 rfl
      · refine hp_aload_n (x0 := 1) d_M_sumAll_44 rfl rfl ?_
        refine hp_aload_n (x0 := 1) d_M_sumAll_45 rfl rfl ?_
        refine hp_getI fl_M_334 d_M_sumAll_46 fun x6 => ?_
        refine hp_if_eq (tgt := 66) d_M_sumAll_49 (by decide) ?_ ?_
        · refine hp_sub [1, 2, 0] rfl ?_
          exact j_M_sumAll_66 _ ih _ _ _ _ _
        · refine hp_aload_n (x0 := 1) d_M_sumAll_52 rfl rfl ?_
          refine hp_getR fl_M_7 d_M_sumAll_53 fun x7 => ?_
          refine hp_iload_n (x0 := 0) d_M_sumAll_56 rfl rfl ?_
          refine hp_iald d_M_sumAll_57 fun x8 => ?_
          refine hp_iconst (v := 3) d_M_sumAll_58 (by decide) ?_
          refine hp_icmp_ne (tgt := 66) d_M_sumAll_59 (by decide) ?_ ?_
          · refine hp_iconst (v := 1) d_M_sumAll_62 (by decide) ?_
            refine hp_goto (tgt := 67) d_M_sumAll_63 (by decide) ?_
            refine hp_sub [1, 2, 0] rfl ?_
            exact j_M_sumAll_67 _ ih _ _ _ _ _ _
          · refine hp_sub [1, 2, 0] rfl ?_
            exact j_M_sumAll_66 _ ih _ _ _ _ _
def m_M_sumAll (G : Nat → Nat) (a0 : Nat) (h : hp_H) : Option (Int32 × hp_H) := (hp_gR h a0 8 30).bind fun x1 => (m_M_clear G x1 h).bind fun q2 => (hp_p q2.2 a0 8 31 (.int (0 : Int32))).bind fun h3 => (hp_pZ h3 a0 8 32 (1 : Int32)).bind fun h4 => hp_nm (0 : Int32) fun x5 => m_M_sumAll_19 G hp_fu a0 x5 h4
set_option maxRecDepth 100000 in
set_option maxHeartbeats 4000000 in
theorem j_M_sumAll_0 {Z : hp_Z} (a0 : Nat) (h : hp_H) : hp_J Y_M_sumAll Z hp_rI h 0 [(0, .ref a0)] [] (m_M_sumAll (hp_G Z)  a0 h) := by
  unfold m_M_sumAll
  refine hp_aload_n (x0 := 0) d_M_sumAll_0 rfl rfl ?_
  refine hp_getR fl_M_66 d_M_sumAll_1 fun x1 => ?_
  refine hp_callU (hp_crS (t_M_clear _ _ _) cw_M_95 w_976 (by decide) rfl rfl (Nat.le_of_ble_eq_true rfl) d_M_sumAll_4) fun q2 => ?_
  refine hp_aload_n (x0 := 0) d_M_sumAll_7 rfl rfl ?_
  refine hp_iconst (v := 0) d_M_sumAll_8 (by decide) ?_
  refine hp_put fl_M_331 (fun q => by cases q) rfl rfl d_M_sumAll_9 fun h3 => ?_
  refine hp_aload_n (x0 := 0) d_M_sumAll_12 rfl rfl ?_
  refine hp_iconst (v := 1) d_M_sumAll_13 (by decide) ?_
  refine hp_putZ fl_M_334 (fun q => by cases q) d_M_sumAll_14 fun h4 => ?_
  refine hp_iconst (v := 0) d_M_sumAll_17 (by decide) ?_
  refine hp_istore_n (fun x5 => [(1, .int x5), (0, .ref a0)]) d_M_sumAll_18 rfl (by decide) (fun _ => rfl) fun x5 => ?_
  refine hp_sub [1, 0] rfl ?_
  exact j_M_sumAll_19  hp_fu _ _ _
theorem t_M_sumAll (l : Launch) (E : hp_E) (a0 : Nat) : hp_M l E y_M_sumAll Y_M_sumAll hp_rI [.ref a0] (m_M_sumAll E.2.2.1 a0) := hp_M.of (by decide +kernel) ⟨rfl, rfl⟩ (Nat.le_of_ble_eq_true rfl) (fun Z h hE => by subst hE; exact j_M_sumAll_0 _ h)
-- M_average
theorem d_M_average_0 : decode prog_9_method_77_code 0 = .ok (.aload_n 0, 1) := by decide +kernel
theorem d_M_average_1 : decode prog_9_method_77_code 1 = .ok (.invokevirtual 340, 3) := by decide +kernel
theorem d_M_average_4 : decode prog_9_method_77_code 4 = .ok (.ifCond .ne 6, 3) := by decide +kernel
theorem d_M_average_7 : decode prog_9_method_77_code 7 = .ok (.bipush (-4), 2) := by decide +kernel
theorem d_M_average_9 : decode prog_9_method_77_code 9 = .ok (.ireturn, 1) := by decide +kernel
theorem d_M_average_10 : decode prog_9_method_77_code 10 = .ok (.aload_n 0, 1) := by decide +kernel
theorem d_M_average_11 : decode prog_9_method_77_code 11 = .ok (.getfield 328, 3) := by decide +kernel
theorem d_M_average_14 : decode prog_9_method_77_code 14 = .ok (.ifCond .ne 11, 3) := by decide +kernel
theorem d_M_average_17 : decode prog_9_method_77_code 17 = .ok (.aload_n 0, 1) := by decide +kernel
theorem d_M_average_18 : decode prog_9_method_77_code 18 = .ok (.lconst 0, 1) := by decide +kernel
theorem d_M_average_19 : decode prog_9_method_77_code 19 = .ok (.iconst 0, 1) := by decide +kernel
theorem d_M_average_20 : decode prog_9_method_77_code 20 = .ok (.iconst 1, 1) := by decide +kernel
theorem d_M_average_21 : decode prog_9_method_77_code 21 = .ok (.invokevirtual 153, 3) := by decide +kernel
theorem d_M_average_24 : decode prog_9_method_77_code 24 = .ok (.ireturn, 1) := by decide +kernel
theorem d_M_average_25 : decode prog_9_method_77_code 25 = .ok (.aload_n 0, 1) := by decide +kernel
theorem d_M_average_26 : decode prog_9_method_77_code 26 = .ok (.getfield 48, 3) := by decide +kernel
theorem d_M_average_29 : decode prog_9_method_77_code 29 = .ok (.invokestatic 95, 3) := by decide +kernel
theorem d_M_average_32 : decode prog_9_method_77_code 32 = .ok (.iconst 0, 1) := by decide +kernel
theorem d_M_average_33 : decode prog_9_method_77_code 33 = .ok (.istore_n 1, 1) := by decide +kernel
theorem d_M_average_34 : decode prog_9_method_77_code 34 = .ok (.bipush 63, 2) := by decide +kernel
theorem d_M_average_36 : decode prog_9_method_77_code 36 = .ok (.istore_n 2, 1) := by decide +kernel
theorem d_M_average_37 : decode prog_9_method_77_code 37 = .ok (.iload_n 2, 1) := by decide +kernel
theorem d_M_average_38 : decode prog_9_method_77_code 38 = .ok (.ifCond .lt 40, 3) := by decide +kernel
theorem d_M_average_41 : decode prog_9_method_77_code 41 = .ok (.bipush 10, 2) := by decide +kernel
theorem d_M_average_43 : decode prog_9_method_77_code 43 = .ok (.iload_n 1, 1) := by decide +kernel
theorem d_M_average_44 : decode prog_9_method_77_code 44 = .ok (.imul, 1) := by decide +kernel
theorem d_M_average_45 : decode prog_9_method_77_code 45 = .ok (.aload_n 0, 1) := by decide +kernel
theorem d_M_average_46 : decode prog_9_method_77_code 46 = .ok (.getfield 66, 3) := by decide +kernel
theorem d_M_average_49 : decode prog_9_method_77_code 49 = .ok (.iload_n 2, 1) := by decide +kernel
theorem d_M_average_50 : decode prog_9_method_77_code 50 = .ok (.iaload, 1) := by decide +kernel
theorem d_M_average_51 : decode prog_9_method_77_code 51 = .ok (.iadd, 1) := by decide +kernel
theorem d_M_average_52 : decode prog_9_method_77_code 52 = .ok (.istore_n 1, 1) := by decide +kernel
theorem d_M_average_53 : decode prog_9_method_77_code 53 = .ok (.aload_n 0, 1) := by decide +kernel
theorem d_M_average_54 : decode prog_9_method_77_code 54 = .ok (.getfield 48, 3) := by decide +kernel
theorem d_M_average_57 : decode prog_9_method_77_code 57 = .ok (.iload_n 2, 1) := by decide +kernel
theorem d_M_average_58 : decode prog_9_method_77_code 58 = .ok (.iload_n 1, 1) := by decide +kernel
theorem d_M_average_59 : decode prog_9_method_77_code 59 = .ok (.aload_n 0, 1) := by decide +kernel
theorem d_M_average_60 : decode prog_9_method_77_code 60 = .ok (.getfield 328, 3) := by decide +kernel
theorem d_M_average_63 : decode prog_9_method_77_code 63 = .ok (.idiv, 1) := by decide +kernel
theorem d_M_average_64 : decode prog_9_method_77_code 64 = .ok (.iastore, 1) := by decide +kernel
theorem d_M_average_65 : decode prog_9_method_77_code 65 = .ok (.iload_n 1, 1) := by decide +kernel
theorem d_M_average_66 : decode prog_9_method_77_code 66 = .ok (.aload_n 0, 1) := by decide +kernel
theorem d_M_average_67 : decode prog_9_method_77_code 67 = .ok (.getfield 328, 3) := by decide +kernel
theorem d_M_average_70 : decode prog_9_method_77_code 70 = .ok (.irem, 1) := by decide +kernel
theorem d_M_average_71 : decode prog_9_method_77_code 71 = .ok (.istore_n 1, 1) := by decide +kernel
theorem d_M_average_72 : decode prog_9_method_77_code 72 = .ok (.iinc 2 (-1), 3) := by decide +kernel
theorem d_M_average_75 : decode prog_9_method_77_code 75 = .ok (.goto (-38), 3) := by decide +kernel
theorem d_M_average_78 : decode prog_9_method_77_code 78 = .ok (.aload_n 0, 1) := by decide +kernel
theorem d_M_average_79 : decode prog_9_method_77_code 79 = .ok (.getfield 48, 3) := by decide +kernel
theorem d_M_average_82 : decode prog_9_method_77_code 82 = .ok (.invokestatic 135, 3) := by decide +kernel
theorem d_M_average_85 : decode prog_9_method_77_code 85 = .ok (.aload_n 0, 1) := by decide +kernel
theorem d_M_average_86 : decode prog_9_method_77_code 86 = .ok (.aload_n 0, 1) := by decide +kernel
theorem d_M_average_87 : decode prog_9_method_77_code 87 = .ok (.getfield 48, 3) := by decide +kernel
theorem d_M_average_90 : decode prog_9_method_77_code 90 = .ok (.aload_n 0, 1) := by decide +kernel
theorem d_M_average_91 : decode prog_9_method_77_code 91 = .ok (.getfield 331, 3) := by decide +kernel
theorem d_M_average_94 : decode prog_9_method_77_code 94 = .ok (.iconst 0, 1) := by decide +kernel
theorem d_M_average_95 : decode prog_9_method_77_code 95 = .ok (.invokevirtual 127, 3) := by decide +kernel
theorem d_M_average_98 : decode prog_9_method_77_code 98 = .ok (.ireturn, 1) := by decide +kernel
def m_M_average_37 (G : Nat → Nat) : Nat → Nat → Int32 → Int32 → hp_H → Option (Int32 × hp_H)
  | 0, _, _, _, _ => none
  | n + 1, a0, a1, a2, h => if a2 < 0 then ((hp_gR h a0 8 19).bind fun x1 => (m_M_round G x1 h).bind fun q2 => (hp_gR q2.2 a0 8 19).bind fun x3 => (hp_gI q2.2 a0 8 31).bind fun x4 => (hp_vck q2.2 a0 8 (m_M_number G a0 x3 x4 (0 : Int32) q2.2)).bind fun q5 => some (q5.1, q5.2)) else ((hp_gR h a0 8 30).bind fun x6 => (hp_aI h .int x6 a2).bind fun x7 => hp_nm (((10 : Int32) * a1) + x7) fun x8 => (hp_gR h a0 8 19).bind fun x9 => (hp_gI h a0 8 26).bind fun x10 => (hp_dI x8 x10).bind fun x11 => (hp_sI h .int x9 a2 x11).bind fun h12 => (hp_gI h12 a0 8 26).bind fun x13 => (hp_mI x8 x13).bind fun x14 => hp_nm x14 fun x15 => hp_nm (a2 + (-1)) fun x16 => (m_M_average_37 G  n) a0 x15 x16 h12)
set_option maxRecDepth 100000 in
set_option maxHeartbeats 4000000 in
theorem j_M_average_37 {Z : hp_Z} : ∀ (n : Nat) (a0 : Nat) (a1 : Int32) (a2 : Int32) (h : hp_H), hp_J Y_M_average Z hp_rI h 37 [(0, .ref a0), (1, .int a1), (2, .int a2)] [] (m_M_average_37 (hp_G Z)  n a0 a1 a2 h) := by
  intro n
  induction n with
  | zero => intro a0 a1 a2 h; exact hp_fail
  | succ n ih =>
    intro a0 a1 a2 h
    rw [m_M_average_37]
    refine hp_iload_n (x0 := 2) d_M_average_37 rfl rfl ?_
    refine hp_if_lt (tgt := 78) d_M_average_38 (by decide) ?_ ?_
    · refine hp_aload_n (x0 := 0) d_M_average_78 rfl rfl ?_
      refine hp_getR fl_M_48 d_M_average_79 fun x1 => ?_
      refine hp_callU (hp_crS (t_M_round _ _ _) cw_M_135 w_1193 (by decide) rfl rfl (Nat.le_of_ble_eq_true rfl) d_M_average_82) fun q2 => ?_
      refine hp_aload_n (x0 := 0) d_M_average_85 rfl rfl ?_
      refine hp_aload_n (x0 := 0) d_M_average_86 rfl rfl ?_
      refine hp_getR fl_M_48 d_M_average_87 fun x3 => ?_
      refine hp_aload_n (x0 := 0) d_M_average_90 rfl rfl ?_
      refine hp_getI fl_M_331 d_M_average_91 fun x4 => ?_
      refine hp_iconst (v := 0) d_M_average_94 (by decide) ?_
      refine hp_callI (hp_crV (ci := 8) (t_M_number _ _ _ _ _ _) cw_M_127 rfl ⟨w_981, ws_39⟩ (by decide) rfl rfl (Nat.le_of_ble_eq_true rfl) d_M_average_95) fun q5 => ?_
      exact hp_iret d_M_average_98 rfl
    · refine hp_bipush (v := 10) d_M_average_41 (by decide) ?_
      refine hp_iload_n (x0 := 1) d_M_average_43 rfl rfl ?_
      refine hp_imul d_M_average_44 ?_
      refine hp_aload_n (x0 := 0) d_M_average_45 rfl rfl ?_
      refine hp_getR fl_M_66 d_M_average_46 fun x6 => ?_
      refine hp_iload_n (x0 := 2) d_M_average_49 rfl rfl ?_
      refine hp_iald d_M_average_50 fun x7 => ?_
      refine hp_iadd d_M_average_51 ?_
      refine hp_istore_n (fun x8 => [(1, .int x8), (0, .ref a0), (2, .int a2)]) d_M_average_52 rfl (by decide) (fun _ => rfl) fun x8 => ?_
      refine hp_aload_n (x0 := 1) d_M_average_53 rfl rfl ?_
      refine hp_getR fl_M_48 d_M_average_54 fun x9 => ?_
      refine hp_iload_n (x0 := 2) d_M_average_57 rfl rfl ?_
      refine hp_iload_n (x0 := 0) d_M_average_58 rfl rfl ?_
      refine hp_aload_n (x0 := 1) d_M_average_59 rfl rfl ?_
      refine hp_getI fl_M_328 d_M_average_60 fun x10 => ?_
      refine hp_idiv d_M_average_63 fun x11 => ?_
      refine hp_iast d_M_average_64 fun h12 => ?_
      refine hp_iload_n (x0 := 0) d_M_average_65 rfl rfl ?_
      refine hp_aload_n (x0 := 1) d_M_average_66 rfl rfl ?_
      refine hp_getI fl_M_328 d_M_average_67 fun x13 => ?_
      refine hp_irem d_M_average_70 fun x14 => ?_
      refine hp_istore_n (fun x15 => [(1, .int x15), (0, .ref a0), (2, .int a2)]) d_M_average_71 rfl (by decide) (fun _ => rfl) fun x15 => ?_
      refine hp_iinc (x0 := 2) (d := -1) (fun x16 => [(2, .int x16), (1, .int x15), (0, .ref a0)]) d_M_average_72 rfl (by decide) (by decide) (fun _ => rfl) fun x16 => ?_
      refine hp_goto (tgt := 37) d_M_average_75 (by decide) ?_
      refine hp_sub [2, 1, 0] rfl ?_
      exact ih _ _ _ _
def m_M_average (G : Nat → Nat) (a0 : Nat) (h : hp_H) : Option (Int32 × hp_H) := (hp_vck h a0 8 (m_M_sumAll G a0 h)).bind fun q1 => if q1.1 = 0 then (some ((-4 : Int32), q1.2)) else ((hp_gI q1.2 a0 8 26).bind fun x2 => if x2 = 0 then ((hp_vck q1.2 a0 8 (m_M_numbered G a0 (0 : Int64) (0 : Int32) (1 : Int32) q1.2)).bind fun q7 => some (q7.1, q7.2)) else ((hp_gR q1.2 a0 8 19).bind fun x3 => (m_M_clear G x3 q1.2).bind fun q4 => hp_nm (0 : Int32) fun x5 => hp_nm (63 : Int32) fun x6 => m_M_average_37 G hp_fu a0 x5 x6 q4.2))
set_option maxRecDepth 100000 in
set_option maxHeartbeats 4000000 in
theorem j_M_average_0 {Z : hp_Z} (a0 : Nat) (h : hp_H) : hp_J Y_M_average Z hp_rI h 0 [(0, .ref a0)] [] (m_M_average (hp_G Z)  a0 h) := by
  unfold m_M_average
  refine hp_aload_n (x0 := 0) d_M_average_0 rfl rfl ?_
  refine hp_callI (hp_crV (ci := 8) (t_M_sumAll _ _ _) cw_M_340 rfl ⟨w_1258, ws_84⟩ (by decide) rfl rfl (Nat.le_of_ble_eq_true rfl) d_M_average_1) fun q1 => ?_
  refine hp_if_ne (tgt := 10) d_M_average_4 (by decide) ?_ ?_
  · refine hp_bipush (v := -4) d_M_average_7 (by decide) ?_
    exact hp_iret d_M_average_9 rfl
  · refine hp_aload_n (x0 := 0) d_M_average_10 rfl rfl ?_
    refine hp_getI fl_M_328 d_M_average_11 fun x2 => ?_
    refine hp_if_ne (tgt := 25) d_M_average_14 (by decide) ?_ ?_
    · refine hp_aload_n (x0 := 0) d_M_average_17 rfl rfl ?_
      refine hp_lconst (v := 0) d_M_average_18 (by decide) ?_
      refine hp_iconst (v := 0) d_M_average_19 (by decide) ?_
      refine hp_iconst (v := 1) d_M_average_20 (by decide) ?_
      refine hp_callI (hp_crV (ci := 8) (t_M_numbered _ _ _ _ _ _) cw_M_153 rfl ⟨w_973, ws_38⟩ (by decide) rfl rfl (Nat.le_of_ble_eq_true rfl) d_M_average_21) fun q7 => ?_
      exact hp_iret d_M_average_24 rfl
    · refine hp_aload_n (x0 := 0) d_M_average_25 rfl rfl ?_
      refine hp_getR fl_M_48 d_M_average_26 fun x3 => ?_
      refine hp_callU (hp_crS (t_M_clear _ _ _) cw_M_95 w_976 (by decide) rfl rfl (Nat.le_of_ble_eq_true rfl) d_M_average_29) fun q4 => ?_
      refine hp_iconst (v := 0) d_M_average_32 (by decide) ?_
      refine hp_istore_n (fun x5 => [(1, .int x5), (0, .ref a0)]) d_M_average_33 rfl (by decide) (fun _ => rfl) fun x5 => ?_
      refine hp_bipush (v := 63) d_M_average_34 (by decide) ?_
      refine hp_istore_n (fun x6 => [(2, .int x6), (1, .int x5), (0, .ref a0)]) d_M_average_36 rfl (by decide) (fun _ => rfl) fun x6 => ?_
      refine hp_sub [2, 1, 0] rfl ?_
      exact j_M_average_37  hp_fu _ _ _ _
theorem t_M_average (l : Launch) (E : hp_E) (a0 : Nat) : hp_M l E y_M_average Y_M_average hp_rI [.ref a0] (m_M_average E.2.2.1 a0) := hp_M.of (by decide +kernel) ⟨rfl, rfl⟩ (Nat.le_of_ble_eq_true rfl) (fun Z h hE => by subst hE; exact j_M_average_0 _ h)
-- M_extreme
theorem d_M_extreme_0 : decode prog_9_method_78_code 0 = .ok (.bipush (-4), 2) := by decide +kernel
theorem d_M_extreme_2 : decode prog_9_method_78_code 2 = .ok (.istore_n 2, 1) := by decide +kernel
theorem d_M_extreme_3 : decode prog_9_method_78_code 3 = .ok (.iconst 0, 1) := by decide +kernel
theorem d_M_extreme_4 : decode prog_9_method_78_code 4 = .ok (.istore_n 3, 1) := by decide +kernel
theorem d_M_extreme_5 : decode prog_9_method_78_code 5 = .ok (.iload_n 3, 1) := by decide +kernel
theorem d_M_extreme_6 : decode prog_9_method_78_code 6 = .ok (.aload_n 0, 1) := by decide +kernel
theorem d_M_extreme_7 : decode prog_9_method_78_code 7 = .ok (.getfield 328, 3) := by decide +kernel
theorem d_M_extreme_10 : decode prog_9_method_78_code 10 = .ok (.if_icmp .ge 42, 3) := by decide +kernel
theorem d_M_extreme_13 : decode prog_9_method_78_code 13 = .ok (.aload_n 0, 1) := by decide +kernel
theorem d_M_extreme_14 : decode prog_9_method_78_code 14 = .ok (.getfield 63, 3) := by decide +kernel
theorem d_M_extreme_17 : decode prog_9_method_78_code 17 = .ok (.iload_n 3, 1) := by decide +kernel
theorem d_M_extreme_18 : decode prog_9_method_78_code 18 = .ok (.iaload, 1) := by decide +kernel
theorem d_M_extreme_19 : decode prog_9_method_78_code 19 = .ok (.istore 4, 2) := by decide +kernel
theorem d_M_extreme_21 : decode prog_9_method_78_code 21 = .ok (.iload 4, 2) := by decide +kernel
theorem d_M_extreme_23 : decode prog_9_method_78_code 23 = .ok (.ifCond .le 23, 3) := by decide +kernel
theorem d_M_extreme_26 : decode prog_9_method_78_code 26 = .ok (.iload_n 2, 1) := by decide +kernel
theorem d_M_extreme_27 : decode prog_9_method_78_code 27 = .ok (.bipush (-4), 2) := by decide +kernel
theorem d_M_extreme_29 : decode prog_9_method_78_code 29 = .ok (.if_icmp .eq 14, 3) := by decide +kernel
theorem d_M_extreme_32 : decode prog_9_method_78_code 32 = .ok (.aload_n 0, 1) := by decide +kernel
theorem d_M_extreme_33 : decode prog_9_method_78_code 33 = .ok (.iload 4, 2) := by decide +kernel
theorem d_M_extreme_35 : decode prog_9_method_78_code 35 = .ok (.iload_n 2, 1) := by decide +kernel
theorem d_M_extreme_36 : decode prog_9_method_78_code 36 = .ok (.invokevirtual 178, 3) := by decide +kernel
theorem d_M_extreme_39 : decode prog_9_method_78_code 39 = .ok (.iload_n 1, 1) := by decide +kernel
theorem d_M_extreme_40 : decode prog_9_method_78_code 40 = .ok (.if_icmp .ne 6, 3) := by decide +kernel
theorem d_M_extreme_43 : decode prog_9_method_78_code 43 = .ok (.iload 4, 2) := by decide +kernel
theorem d_M_extreme_45 : decode prog_9_method_78_code 45 = .ok (.istore_n 2, 1) := by decide +kernel
theorem d_M_extreme_46 : decode prog_9_method_78_code 46 = .ok (.iinc 3 1, 3) := by decide +kernel
theorem d_M_extreme_49 : decode prog_9_method_78_code 49 = .ok (.goto (-44), 3) := by decide +kernel
theorem d_M_extreme_52 : decode prog_9_method_78_code 52 = .ok (.iload_n 2, 1) := by decide +kernel
theorem d_M_extreme_53 : decode prog_9_method_78_code 53 = .ok (.ireturn, 1) := by decide +kernel
def m_M_extreme_46 (G : Nat → Nat) (r5 : Nat → Int32 → Int32 → Int32 → hp_H → Option (Int32 × hp_H)) (a0 : Nat) (a1 : Int32) (a2 : Int32) (a3 : Int32) (h : hp_H) : Option (Int32 × hp_H) := hp_nm (a3 + 1) fun x1 => r5 a0 a1 a2 x1 h
set_option maxRecDepth 100000 in
set_option maxHeartbeats 4000000 in
theorem j_M_extreme_46 {Z : hp_Z} (r5 : Nat → Int32 → Int32 → Int32 → hp_H → Option (Int32 × hp_H)) (hr5 : ∀ (a0 : Nat) (a1 : Int32) (a2 : Int32) (a3 : Int32) (h : hp_H), hp_J Y_M_extreme Z hp_rI h 5 [(0, .ref a0), (1, .int a1), (2, .int a2), (3, .int a3)] [] (r5 a0 a1 a2 a3  h)) (a0 : Nat) (a1 : Int32) (a2 : Int32) (a3 : Int32) (h : hp_H) : hp_J Y_M_extreme Z hp_rI h 46 [(0, .ref a0), (1, .int a1), (2, .int a2), (3, .int a3)] [] (m_M_extreme_46 (hp_G Z) r5 a0 a1 a2 a3 h) := by
  unfold m_M_extreme_46
  refine hp_iinc (x0 := 3) (d := 1) (fun x1 => [(3, .int x1), (0, .ref a0), (1, .int a1), (2, .int a2)]) d_M_extreme_46 rfl (by decide) (by decide) (fun _ => rfl) fun x1 => ?_
  refine hp_goto (tgt := 5) d_M_extreme_49 (by decide) ?_
  refine hp_sub [1, 2, 3, 0] rfl ?_
  exact hr5 _ _ _ _ _
def m_M_extreme_43 (G : Nat → Nat) (r5 : Nat → Int32 → Int32 → Int32 → hp_H → Option (Int32 × hp_H)) (a0 : Nat) (a1 : Int32) (a3 : Int32) (a4 : Int32) (h : hp_H) : Option (Int32 × hp_H) := hp_nm a4 fun x1 => m_M_extreme_46 G r5 a0 a1 x1 a3 h
set_option maxRecDepth 100000 in
set_option maxHeartbeats 4000000 in
theorem j_M_extreme_43 {Z : hp_Z} (r5 : Nat → Int32 → Int32 → Int32 → hp_H → Option (Int32 × hp_H)) (hr5 : ∀ (a0 : Nat) (a1 : Int32) (a2 : Int32) (a3 : Int32) (h : hp_H), hp_J Y_M_extreme Z hp_rI h 5 [(0, .ref a0), (1, .int a1), (2, .int a2), (3, .int a3)] [] (r5 a0 a1 a2 a3  h)) (a0 : Nat) (a1 : Int32) (a3 : Int32) (a4 : Int32) (h : hp_H) : hp_J Y_M_extreme Z hp_rI h 43 [(0, .ref a0), (1, .int a1), (3, .int a3), (4, .int a4)] [] (m_M_extreme_43 (hp_G Z) r5 a0 a1 a3 a4 h) := by
  unfold m_M_extreme_43
  refine hp_iload (x0 := 3) d_M_extreme_43 rfl ?_
  refine hp_istore_n (fun x1 => [(2, .int x1), (0, .ref a0), (1, .int a1), (3, .int a3), (4, .int a4)]) d_M_extreme_45 rfl (by decide) (fun _ => rfl) fun x1 => ?_
  refine hp_sub [1, 2, 0, 3] rfl ?_
  exact j_M_extreme_46 _ hr5 _ _ _ _ _
def m_M_extreme_5 (G : Nat → Nat) : Nat → Nat → Int32 → Int32 → Int32 → hp_H → Option (Int32 × hp_H)
  | 0, _, _, _, _, _ => none
  | n + 1, a0, a1, a2, a3, h => (hp_gI h a0 8 26).bind fun x1 => if x1 ≤ a3 then (some (a2, h)) else ((hp_gR h a0 8 25).bind fun x2 => (hp_aI h .int x2 a3).bind fun x3 => hp_nm x3 fun x4 => if x4 ≤ 0 then (m_M_extreme_46 G (m_M_extreme_5 G  n) a0 a1 a2 a3 h) else (if a2 = (-4 : Int32) then (m_M_extreme_43 G (m_M_extreme_5 G  n) a0 a1 a3 x4 h) else ((hp_vck h a0 8 (m_M_orderOf G a0 x4 a2 h)).bind fun q5 => if q5.1 = a1 then (m_M_extreme_43 G (m_M_extreme_5 G  n) a0 a1 a3 x4 q5.2) else (m_M_extreme_46 G (m_M_extreme_5 G  n) a0 a1 a2 a3 q5.2))))
set_option maxRecDepth 100000 in
set_option maxHeartbeats 4000000 in
theorem j_M_extreme_5 {Z : hp_Z} : ∀ (n : Nat) (a0 : Nat) (a1 : Int32) (a2 : Int32) (a3 : Int32) (h : hp_H), hp_J Y_M_extreme Z hp_rI h 5 [(0, .ref a0), (1, .int a1), (2, .int a2), (3, .int a3)] [] (m_M_extreme_5 (hp_G Z)  n a0 a1 a2 a3 h) := by
  intro n
  induction n with
  | zero => intro a0 a1 a2 a3 h; exact hp_fail
  | succ n ih =>
    intro a0 a1 a2 a3 h
    rw [m_M_extreme_5]
    refine hp_iload_n (x0 := 3) d_M_extreme_5 rfl rfl ?_
    refine hp_aload_n (x0 := 0) d_M_extreme_6 rfl rfl ?_
    refine hp_getI fl_M_328 d_M_extreme_7 fun x1 => ?_
    refine hp_icmp_ge (tgt := 52) d_M_extreme_10 (by decide) ?_ ?_
    · refine hp_iload_n (x0 := 2) d_M_extreme_52 rfl rfl ?_
      exact hp_iret d_M_extreme_53 rfl
    · refine hp_aload_n (x0 := 0) d_M_extreme_13 rfl rfl ?_
      refine hp_getR fl_M_63 d_M_extreme_14 fun x2 => ?_
      refine hp_iload_n (x0 := 3) d_M_extreme_17 rfl rfl ?_
      refine hp_iald d_M_extreme_18 fun x3 => ?_
      refine hp_istore (fun x4 => [(4, .int x4), (0, .ref a0), (1, .int a1), (2, .int a2), (3, .int a3)]) d_M_extreme_19 (by decide) (fun _ => rfl) fun x4 => ?_
      refine hp_iload (x0 := 0) d_M_extreme_21 rfl ?_
      refine hp_if_le (tgt := 46) d_M_extreme_23 (by decide) ?_ ?_
      · refine hp_sub [1, 2, 3, 4] rfl ?_
        exact j_M_extreme_46 _ ih _ _ _ _ _
      · refine hp_iload_n (x0 := 3) d_M_extreme_26 rfl rfl ?_
        refine hp_bipush (v := -4) d_M_extreme_27 (by decide) ?_
        refine hp_icmp_eq (tgt := 43) d_M_extreme_29 (by decide) ?_ ?_
        · refine hp_sub [1, 2, 4, 0] rfl ?_
          exact j_M_extreme_43 _ ih _ _ _ _ _
        · refine hp_aload_n (x0 := 1) d_M_extreme_32 rfl rfl ?_
          refine hp_iload (x0 := 0) d_M_extreme_33 rfl ?_
          refine hp_iload_n (x0 := 3) d_M_extreme_35 rfl rfl ?_
          refine hp_callI (hp_crV (ci := 8) (t_M_orderOf _ _ _ _ _) cw_M_178 rfl ⟨w_1044, ws_45⟩ (by decide) rfl rfl (Nat.le_of_ble_eq_true rfl) d_M_extreme_36) fun q5 => ?_
          refine hp_iload_n (x0 := 2) d_M_extreme_39 rfl rfl ?_
          refine hp_icmp_ne (tgt := 46) d_M_extreme_40 (by decide) ?_ ?_
          · refine hp_sub [1, 2, 4, 0] rfl ?_
            exact j_M_extreme_43 _ ih _ _ _ _ _
          · refine hp_sub [1, 2, 3, 4] rfl ?_
            exact j_M_extreme_46 _ ih _ _ _ _ _
def m_M_extreme (G : Nat → Nat) (a0 : Nat) (a1 : Int32) (h : hp_H) : Option (Int32 × hp_H) := hp_nm (-4 : Int32) fun x1 => hp_nm (0 : Int32) fun x2 => m_M_extreme_5 G hp_fu a0 a1 x1 x2 h
set_option maxRecDepth 100000 in
set_option maxHeartbeats 4000000 in
theorem j_M_extreme_0 {Z : hp_Z} (a0 : Nat) (a1 : Int32) (h : hp_H) : hp_J Y_M_extreme Z hp_rI h 0 [(0, .ref a0), (1, .int a1)] [] (m_M_extreme (hp_G Z)  a0 a1 h) := by
  unfold m_M_extreme
  refine hp_bipush (v := -4) d_M_extreme_0 (by decide) ?_
  refine hp_istore_n (fun x1 => [(2, .int x1), (0, .ref a0), (1, .int a1)]) d_M_extreme_2 rfl (by decide) (fun _ => rfl) fun x1 => ?_
  refine hp_iconst (v := 0) d_M_extreme_3 (by decide) ?_
  refine hp_istore_n (fun x2 => [(3, .int x2), (2, .int x1), (0, .ref a0), (1, .int a1)]) d_M_extreme_4 rfl (by decide) (fun _ => rfl) fun x2 => ?_
  refine hp_sub [2, 3, 1, 0] rfl ?_
  exact j_M_extreme_5  hp_fu _ _ _ _ _
theorem t_M_extreme (l : Launch) (E : hp_E) (a0 : Nat) (a1 : Int32) : hp_M l E y_M_extreme Y_M_extreme hp_rI [.ref a0, .int a1] (m_M_extreme E.2.2.1 a0 a1) := hp_M.of (by decide +kernel) ⟨rfl, rfl⟩ (Nat.le_of_ble_eq_true rfl) (fun Z h hE => by subst hE; exact j_M_extreme_0 _ _ h)
