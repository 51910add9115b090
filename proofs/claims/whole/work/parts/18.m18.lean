-- M_join
theorem d_M_join_0 : decode prog_9_method_10_code 0 = .ok (.iconst 0, 1) := by decide +kernel
theorem d_M_join_1 : decode prog_9_method_10_code 1 = .ok (.istore_n 3, 1) := by decide +kernel
theorem d_M_join_2 : decode prog_9_method_10_code 2 = .ok (.iconst 0, 1) := by decide +kernel
theorem d_M_join_3 : decode prog_9_method_10_code 3 = .ok (.istore 4, 2) := by decide +kernel
theorem d_M_join_5 : decode prog_9_method_10_code 5 = .ok (.iload 4, 2) := by decide +kernel
theorem d_M_join_7 : decode prog_9_method_10_code 7 = .ok (.bipush 64, 2) := by decide +kernel
theorem d_M_join_9 : decode prog_9_method_10_code 9 = .ok (.if_icmp .ge 57, 3) := by decide +kernel
theorem d_M_join_12 : decode prog_9_method_10_code 12 = .ok (.aload_n 0, 1) := by decide +kernel
theorem d_M_join_13 : decode prog_9_method_10_code 13 = .ok (.iload 4, 2) := by decide +kernel
theorem d_M_join_15 : decode prog_9_method_10_code 15 = .ok (.iaload, 1) := by decide +kernel
theorem d_M_join_16 : decode prog_9_method_10_code 16 = .ok (.iload_n 2, 1) := by decide +kernel
theorem d_M_join_17 : decode prog_9_method_10_code 17 = .ok (.aload_n 1, 1) := by decide +kernel
theorem d_M_join_18 : decode prog_9_method_10_code 18 = .ok (.iload 4, 2) := by decide +kernel
theorem d_M_join_20 : decode prog_9_method_10_code 20 = .ok (.iaload, 1) := by decide +kernel
theorem d_M_join_21 : decode prog_9_method_10_code 21 = .ok (.imul, 1) := by decide +kernel
theorem d_M_join_22 : decode prog_9_method_10_code 22 = .ok (.iadd, 1) := by decide +kernel
theorem d_M_join_23 : decode prog_9_method_10_code 23 = .ok (.iload_n 3, 1) := by decide +kernel
theorem d_M_join_24 : decode prog_9_method_10_code 24 = .ok (.iadd, 1) := by decide +kernel
theorem d_M_join_25 : decode prog_9_method_10_code 25 = .ok (.istore 5, 2) := by decide +kernel
theorem d_M_join_27 : decode prog_9_method_10_code 27 = .ok (.iload 5, 2) := by decide +kernel
theorem d_M_join_29 : decode prog_9_method_10_code 29 = .ok (.ifCond .ge 7, 3) := by decide +kernel
theorem d_M_join_32 : decode prog_9_method_10_code 32 = .ok (.iconst (-1), 1) := by decide +kernel
theorem d_M_join_33 : decode prog_9_method_10_code 33 = .ok (.goto 15, 3) := by decide +kernel
theorem d_M_join_36 : decode prog_9_method_10_code 36 = .ok (.iload 5, 2) := by decide +kernel
theorem d_M_join_38 : decode prog_9_method_10_code 38 = .ok (.bipush 9, 2) := by decide +kernel
theorem d_M_join_40 : decode prog_9_method_10_code 40 = .ok (.if_icmp .le 7, 3) := by decide +kernel
theorem d_M_join_43 : decode prog_9_method_10_code 43 = .ok (.iconst 1, 1) := by decide +kernel
theorem d_M_join_44 : decode prog_9_method_10_code 44 = .ok (.goto 4, 3) := by decide +kernel
theorem d_M_join_47 : decode prog_9_method_10_code 47 = .ok (.iconst 0, 1) := by decide +kernel
theorem d_M_join_48 : decode prog_9_method_10_code 48 = .ok (.istore_n 3, 1) := by decide +kernel
theorem d_M_join_49 : decode prog_9_method_10_code 49 = .ok (.aload_n 0, 1) := by decide +kernel
theorem d_M_join_50 : decode prog_9_method_10_code 50 = .ok (.iload 4, 2) := by decide +kernel
theorem d_M_join_52 : decode prog_9_method_10_code 52 = .ok (.iload 5, 2) := by decide +kernel
theorem d_M_join_54 : decode prog_9_method_10_code 54 = .ok (.bipush 10, 2) := by decide +kernel
theorem d_M_join_56 : decode prog_9_method_10_code 56 = .ok (.iload_n 3, 1) := by decide +kernel
theorem d_M_join_57 : decode prog_9_method_10_code 57 = .ok (.imul, 1) := by decide +kernel
theorem d_M_join_58 : decode prog_9_method_10_code 58 = .ok (.isub, 1) := by decide +kernel
theorem d_M_join_59 : decode prog_9_method_10_code 59 = .ok (.iastore, 1) := by decide +kernel
theorem d_M_join_60 : decode prog_9_method_10_code 60 = .ok (.iinc 4 1, 3) := by decide +kernel
theorem d_M_join_63 : decode prog_9_method_10_code 63 = .ok (.goto (-58), 3) := by decide +kernel
theorem d_M_join_66 : decode prog_9_method_10_code 66 = .ok (.return_, 1) := by decide +kernel
def m_M_join_48 (G : Nat → Nat) (r5 : Nat → Nat → Int32 → Int32 → Int32 → hp_H → Option (Unit × hp_H)) (a0 : Nat) (a1 : Nat) (a2 : Int32) (a4 : Int32) (a5 : Int32) (s0 : Int32) (h : hp_H) : Option (Unit × hp_H) := hp_nm s0 fun x1 => (hp_sI h .int a0 a4 (a5 - ((10 : Int32) * x1))).bind fun h2 => hp_nm (a4 + 1) fun x3 => r5 a0 a1 a2 x1 x3 h2
set_option maxRecDepth 100000 in
set_option maxHeartbeats 4000000 in
theorem j_M_join_48 {Z : hp_Z} (r5 : Nat → Nat → Int32 → Int32 → Int32 → hp_H → Option (Unit × hp_H)) (hr5 : ∀ (a0 : Nat) (a1 : Nat) (a2 : Int32) (a3 : Int32) (a4 : Int32) (h : hp_H), hp_J Y_M_join Z hp_rV h 5 [(0, .ref a0), (1, .ref a1), (2, .int a2), (3, .int a3), (4, .int a4)] [] (r5 a0 a1 a2 a3 a4  h)) (a0 : Nat) (a1 : Nat) (a2 : Int32) (a4 : Int32) (a5 : Int32) (s0 : Int32) (h : hp_H) : hp_J Y_M_join Z hp_rV h 48 [(0, .ref a0), (1, .ref a1), (2, .int a2), (4, .int a4), (5, .int a5)] [.int s0] (m_M_join_48 (hp_G Z) r5 a0 a1 a2 a4 a5 s0 h) := by
  unfold m_M_join_48
  refine hp_istore_n (fun x1 => [(3, .int x1), (0, .ref a0), (1, .ref a1), (2, .int a2), (4, .int a4), (5, .int a5)]) d_M_join_48 rfl (by decide) (fun _ => rfl) fun x1 => ?_
  refine hp_aload_n (x0 := 1) d_M_join_49 rfl rfl ?_
  refine hp_iload (x0 := 4) d_M_join_50 rfl ?_
  refine hp_iload (x0 := 5) d_M_join_52 rfl ?_
  refine hp_bipush (v := 10) d_M_join_54 (by decide) ?_
  refine hp_iload_n (x0 := 0) d_M_join_56 rfl rfl ?_
  refine hp_imul d_M_join_57 ?_
  refine hp_isub d_M_join_58 ?_
  refine hp_iast d_M_join_59 fun h2 => ?_
  refine hp_iinc (x0 := 4) (d := 1) (fun x3 => [(4, .int x3), (3, .int x1), (0, .ref a0), (1, .ref a1), (2, .int a2), (5, .int a5)]) d_M_join_60 rfl (by decide) (by decide) (fun _ => rfl) fun x3 => ?_
  refine hp_goto (tgt := 5) d_M_join_63 (by decide) ?_
  refine hp_sub [2, 3, 4, 1, 0] rfl ?_
  exact hr5 _ _ _ _ _ _
def m_M_join_5 (G : Nat → Nat) : Nat → Nat → Nat → Int32 → Int32 → Int32 → hp_H → Option (Unit × hp_H)
  | 0, _, _, _, _, _, _ => none
  | n + 1, a0, a1, a2, a3, a4, h => if (64 : Int32) ≤ a4 then (some ((), h)) else ((hp_aI h .int a0 a4).bind fun x1 => (hp_aI h .int a1 a4).bind fun x2 => hp_nm ((x1 + (a2 * x2)) + a3) fun x3 => if 0 ≤ x3 then (if x3 ≤ (9 : Int32) then (m_M_join_48 G (m_M_join_5 G  n) a0 a1 a2 a4 x3 (0 : Int32) h) else (m_M_join_48 G (m_M_join_5 G  n) a0 a1 a2 a4 x3 (1 : Int32) h)) else (m_M_join_48 G (m_M_join_5 G  n) a0 a1 a2 a4 x3 (-1 : Int32) h))
set_option maxRecDepth 100000 in
set_option maxHeartbeats 4000000 in
theorem j_M_join_5 {Z : hp_Z} : ∀ (n : Nat) (a0 : Nat) (a1 : Nat) (a2 : Int32) (a3 : Int32) (a4 : Int32) (h : hp_H), hp_J Y_M_join Z hp_rV h 5 [(0, .ref a0), (1, .ref a1), (2, .int a2), (3, .int a3), (4, .int a4)] [] (m_M_join_5 (hp_G Z)  n a0 a1 a2 a3 a4 h) := by
  intro n
  induction n with
  | zero => intro a0 a1 a2 a3 a4 h; exact hp_fail
  | succ n ih =>
    intro a0 a1 a2 a3 a4 h
    rw [m_M_join_5]
    refine hp_iload (x0 := 4) d_M_join_5 rfl ?_
    refine hp_bipush (v := 64) d_M_join_7 (by decide) ?_
    refine hp_icmp_ge (tgt := 66) d_M_join_9 (by decide) ?_ ?_
    · exact hp_vret d_M_join_66 rfl
    · refine hp_aload_n (x0 := 0) d_M_join_12 rfl rfl ?_
      refine hp_iload (x0 := 4) d_M_join_13 rfl ?_
      refine hp_iald d_M_join_15 fun x1 => ?_
      refine hp_iload_n (x0 := 2) d_M_join_16 rfl rfl ?_
      refine hp_aload_n (x0 := 1) d_M_join_17 rfl rfl ?_
      refine hp_iload (x0 := 4) d_M_join_18 rfl ?_
      refine hp_iald d_M_join_20 fun x2 => ?_
      refine hp_imul d_M_join_21 ?_
      refine hp_iadd d_M_join_22 ?_
      refine hp_iload_n (x0 := 3) d_M_join_23 rfl rfl ?_
      refine hp_iadd d_M_join_24 ?_
      refine hp_istore (fun x3 => [(5, .int x3), (0, .ref a0), (1, .ref a1), (2, .int a2), (3, .int a3), (4, .int a4)]) d_M_join_25 (by decide) (fun _ => rfl) fun x3 => ?_
      refine hp_iload (x0 := 0) d_M_join_27 rfl ?_
      refine hp_if_ge (tgt := 36) d_M_join_29 (by decide) ?_ ?_
      · refine hp_iload (x0 := 0) d_M_join_36 rfl ?_
        refine hp_bipush (v := 9) d_M_join_38 (by decide) ?_
        refine hp_icmp_le (tgt := 47) d_M_join_40 (by decide) ?_ ?_
        · refine hp_iconst (v := 0) d_M_join_47 (by decide) ?_
          refine hp_sub [1, 2, 3, 5, 0] rfl ?_
          exact j_M_join_48 _ ih _ _ _ _ _ _ _
        · refine hp_iconst (v := 1) d_M_join_43 (by decide) ?_
          refine hp_goto (tgt := 48) d_M_join_44 (by decide) ?_
          refine hp_sub [1, 2, 3, 5, 0] rfl ?_
          exact j_M_join_48 _ ih _ _ _ _ _ _ _
      · refine hp_iconst (v := -1) d_M_join_32 (by decide) ?_
        refine hp_goto (tgt := 48) d_M_join_33 (by decide) ?_
        refine hp_sub [1, 2, 3, 5, 0] rfl ?_
        exact j_M_join_48 _ ih _ _ _ _ _ _ _
def m_M_join (G : Nat → Nat) (a0 : Nat) (a1 : Nat) (a2 : Int32) (h : hp_H) : Option (Unit × hp_H) := hp_nm (0 : Int32) fun x1 => hp_nm (0 : Int32) fun x2 => m_M_join_5 G hp_fu a0 a1 a2 x1 x2 h
set_option maxRecDepth 100000 in
set_option maxHeartbeats 4000000 in
theorem j_M_join_0 {Z : hp_Z} (a0 : Nat) (a1 : Nat) (a2 : Int32) (h : hp_H) : hp_J Y_M_join Z hp_rV h 0 [(0, .ref a0), (1, .ref a1), (2, .int a2)] [] (m_M_join (hp_G Z)  a0 a1 a2 h) := by
  unfold m_M_join
  refine hp_iconst (v := 0) d_M_join_0 (by decide) ?_
  refine hp_istore_n (fun x1 => [(3, .int x1), (0, .ref a0), (1, .ref a1), (2, .int a2)]) d_M_join_1 rfl (by decide) (fun _ => rfl) fun x1 => ?_
  refine hp_iconst (v := 0) d_M_join_2 (by decide) ?_
  refine hp_istore (fun x2 => [(4, .int x2), (3, .int x1), (0, .ref a0), (1, .ref a1), (2, .int a2)]) d_M_join_3 (by decide) (fun _ => rfl) fun x2 => ?_
  refine hp_sub [2, 3, 4, 1, 0] rfl ?_
  exact j_M_join_5  hp_fu _ _ _ _ _ _
theorem t_M_join (l : Launch) (E : hp_E) (a0 : Nat) (a1 : Nat) (a2 : Int32) : hp_M l E y_M_join Y_M_join hp_rV [.ref a0, .ref a1, .int a2] (m_M_join E.2.2.1 a0 a1 a2) := hp_M.of (by decide +kernel) ⟨rfl, rfl⟩ (Nat.le_of_ble_eq_true rfl) (fun Z h hE => by subst hE; exact j_M_join_0 _ _ _ h)
-- M_quotient
theorem d_M_quotient_0 : decode prog_9_method_18_code 0 = .ok (.aload_n 0, 1) := by decide +kernel
theorem d_M_quotient_1 : decode prog_9_method_18_code 1 = .ok (.getfield 16, 3) := by decide +kernel
theorem d_M_quotient_4 : decode prog_9_method_18_code 4 = .ok (.iload_n 2, 1) := by decide +kernel
theorem d_M_quotient_5 : decode prog_9_method_18_code 5 = .ok (.iaload, 1) := by decide +kernel
theorem d_M_quotient_6 : decode prog_9_method_18_code 6 = .ok (.ifCond .ne 6, 3) := by decide +kernel
theorem d_M_quotient_9 : decode prog_9_method_18_code 9 = .ok (.bipush (-4), 2) := by decide +kernel
theorem d_M_quotient_11 : decode prog_9_method_18_code 11 = .ok (.ireturn, 1) := by decide +kernel
theorem d_M_quotient_12 : decode prog_9_method_18_code 12 = .ok (.aload_n 0, 1) := by decide +kernel
theorem d_M_quotient_13 : decode prog_9_method_18_code 13 = .ok (.getfield 45, 3) := by decide +kernel
theorem d_M_quotient_16 : decode prog_9_method_18_code 16 = .ok (.invokestatic 95, 3) := by decide +kernel
theorem d_M_quotient_19 : decode prog_9_method_18_code 19 = .ok (.aload_n 0, 1) := by decide +kernel
theorem d_M_quotient_20 : decode prog_9_method_18_code 20 = .ok (.getfield 48, 3) := by decide +kernel
theorem d_M_quotient_23 : decode prog_9_method_18_code 23 = .ok (.invokestatic 95, 3) := by decide +kernel
theorem d_M_quotient_26 : decode prog_9_method_18_code 26 = .ok (.iconst 0, 1) := by decide +kernel
theorem d_M_quotient_27 : decode prog_9_method_18_code 27 = .ok (.istore_n 3, 1) := by decide +kernel
theorem d_M_quotient_28 : decode prog_9_method_18_code 28 = .ok (.iload_n 3, 1) := by decide +kernel
theorem d_M_quotient_29 : decode prog_9_method_18_code 29 = .ok (.bipush 18, 2) := by decide +kernel
theorem d_M_quotient_31 : decode prog_9_method_18_code 31 = .ok (.if_icmp .ge 26, 3) := by decide +kernel
theorem d_M_quotient_34 : decode prog_9_method_18_code 34 = .ok (.aload_n 0, 1) := by decide +kernel
theorem d_M_quotient_35 : decode prog_9_method_18_code 35 = .ok (.getfield 45, 3) := by decide +kernel
theorem d_M_quotient_38 : decode prog_9_method_18_code 38 = .ok (.iload_n 3, 1) := by decide +kernel
theorem d_M_quotient_39 : decode prog_9_method_18_code 39 = .ok (.aload_n 0, 1) := by decide +kernel
theorem d_M_quotient_40 : decode prog_9_method_18_code 40 = .ok (.getfield 23, 3) := by decide +kernel
theorem d_M_quotient_43 : decode prog_9_method_18_code 43 = .ok (.bipush 18, 2) := by decide +kernel
theorem d_M_quotient_45 : decode prog_9_method_18_code 45 = .ok (.iload_n 2, 1) := by decide +kernel
theorem d_M_quotient_46 : decode prog_9_method_18_code 46 = .ok (.imul, 1) := by decide +kernel
theorem d_M_quotient_47 : decode prog_9_method_18_code 47 = .ok (.iload_n 3, 1) := by decide +kernel
theorem d_M_quotient_48 : decode prog_9_method_18_code 48 = .ok (.iadd, 1) := by decide +kernel
theorem d_M_quotient_49 : decode prog_9_method_18_code 49 = .ok (.iaload, 1) := by decide +kernel
theorem d_M_quotient_50 : decode prog_9_method_18_code 50 = .ok (.iastore, 1) := by decide +kernel
theorem d_M_quotient_51 : decode prog_9_method_18_code 51 = .ok (.iinc 3 1, 3) := by decide +kernel
theorem d_M_quotient_54 : decode prog_9_method_18_code 54 = .ok (.goto (-26), 3) := by decide +kernel
theorem d_M_quotient_57 : decode prog_9_method_18_code 57 = .ok (.aload_n 0, 1) := by decide +kernel
theorem d_M_quotient_58 : decode prog_9_method_18_code 58 = .ok (.getfield 19, 3) := by decide +kernel
theorem d_M_quotient_61 : decode prog_9_method_18_code 61 = .ok (.iload_n 2, 1) := by decide +kernel
theorem d_M_quotient_62 : decode prog_9_method_18_code 62 = .ok (.iaload, 1) := by decide +kernel
theorem d_M_quotient_63 : decode prog_9_method_18_code 63 = .ok (.aload_n 0, 1) := by decide +kernel
theorem d_M_quotient_64 : decode prog_9_method_18_code 64 = .ok (.getfield 19, 3) := by decide +kernel
theorem d_M_quotient_67 : decode prog_9_method_18_code 67 = .ok (.iload_n 1, 1) := by decide +kernel
theorem d_M_quotient_68 : decode prog_9_method_18_code 68 = .ok (.iaload, 1) := by decide +kernel
theorem d_M_quotient_69 : decode prog_9_method_18_code 69 = .ok (.isub, 1) := by decide +kernel
theorem d_M_quotient_70 : decode prog_9_method_18_code 70 = .ok (.istore_n 3, 1) := by decide +kernel
theorem d_M_quotient_71 : decode prog_9_method_18_code 71 = .ok (.aload_n 0, 1) := by decide +kernel
theorem d_M_quotient_72 : decode prog_9_method_18_code 72 = .ok (.getfield 42, 3) := by decide +kernel
theorem d_M_quotient_75 : decode prog_9_method_18_code 75 = .ok (.invokestatic 95, 3) := by decide +kernel
theorem d_M_quotient_78 : decode prog_9_method_18_code 78 = .ok (.bipush 17, 2) := by decide +kernel
theorem d_M_quotient_80 : decode prog_9_method_18_code 80 = .ok (.istore 4, 2) := by decide +kernel
theorem d_M_quotient_82 : decode prog_9_method_18_code 82 = .ok (.iload 4, 2) := by decide +kernel
theorem d_M_quotient_84 : decode prog_9_method_18_code 84 = .ok (.iload_n 3, 1) := by decide +kernel
theorem d_M_quotient_85 : decode prog_9_method_18_code 85 = .ok (.ineg, 1) := by decide +kernel
theorem d_M_quotient_86 : decode prog_9_method_18_code 86 = .ok (.bipush 10, 2) := by decide +kernel
theorem d_M_quotient_88 : decode prog_9_method_18_code 88 = .ok (.isub, 1) := by decide +kernel
theorem d_M_quotient_89 : decode prog_9_method_18_code 89 = .ok (.if_icmp .lt 116, 3) := by decide +kernel
theorem d_M_quotient_92 : decode prog_9_method_18_code 92 = .ok (.bipush 63, 2) := by decide +kernel
theorem d_M_quotient_94 : decode prog_9_method_18_code 94 = .ok (.istore 5, 2) := by decide +kernel
theorem d_M_quotient_96 : decode prog_9_method_18_code 96 = .ok (.iload 5, 2) := by decide +kernel
theorem d_M_quotient_98 : decode prog_9_method_18_code 98 = .ok (.ifCond .le 25, 3) := by decide +kernel
theorem d_M_quotient_101 : decode prog_9_method_18_code 101 = .ok (.aload_n 0, 1) := by decide +kernel
theorem d_M_quotient_102 : decode prog_9_method_18_code 102 = .ok (.getfield 42, 3) := by decide +kernel
theorem d_M_quotient_105 : decode prog_9_method_18_code 105 = .ok (.iload 5, 2) := by decide +kernel
theorem d_M_quotient_107 : decode prog_9_method_18_code 107 = .ok (.aload_n 0, 1) := by decide +kernel
theorem d_M_quotient_108 : decode prog_9_method_18_code 108 = .ok (.getfield 42, 3) := by decide +kernel
theorem d_M_quotient_111 : decode prog_9_method_18_code 111 = .ok (.iload 5, 2) := by decide +kernel
theorem d_M_quotient_113 : decode prog_9_method_18_code 113 = .ok (.iconst 1, 1) := by decide +kernel
theorem d_M_quotient_114 : decode prog_9_method_18_code 114 = .ok (.isub, 1) := by decide +kernel
theorem d_M_quotient_115 : decode prog_9_method_18_code 115 = .ok (.iaload, 1) := by decide +kernel
theorem d_M_quotient_116 : decode prog_9_method_18_code 116 = .ok (.iastore, 1) := by decide +kernel
theorem d_M_quotient_117 : decode prog_9_method_18_code 117 = .ok (.iinc 5 (-1), 3) := by decide +kernel
theorem d_M_quotient_120 : decode prog_9_method_18_code 120 = .ok (.goto (-24), 3) := by decide +kernel
theorem d_M_quotient_123 : decode prog_9_method_18_code 123 = .ok (.aload_n 0, 1) := by decide +kernel
theorem d_M_quotient_124 : decode prog_9_method_18_code 124 = .ok (.getfield 42, 3) := by decide +kernel
theorem d_M_quotient_127 : decode prog_9_method_18_code 127 = .ok (.iconst 0, 1) := by decide +kernel
theorem d_M_quotient_128 : decode prog_9_method_18_code 128 = .ok (.iload 4, 2) := by decide +kernel
theorem d_M_quotient_130 : decode prog_9_method_18_code 130 = .ok (.ifCond .lt 18, 3) := by decide +kernel
theorem d_M_quotient_133 : decode prog_9_method_18_code 133 = .ok (.aload_n 0, 1) := by decide +kernel
theorem d_M_quotient_134 : decode prog_9_method_18_code 134 = .ok (.getfield 23, 3) := by decide +kernel
theorem d_M_quotient_137 : decode prog_9_method_18_code 137 = .ok (.bipush 18, 2) := by decide +kernel
theorem d_M_quotient_139 : decode prog_9_method_18_code 139 = .ok (.iload_n 1, 1) := by decide +kernel
theorem d_M_quotient_140 : decode prog_9_method_18_code 140 = .ok (.imul, 1) := by decide +kernel
theorem d_M_quotient_141 : decode prog_9_method_18_code 141 = .ok (.iload 4, 2) := by decide +kernel
theorem d_M_quotient_143 : decode prog_9_method_18_code 143 = .ok (.iadd, 1) := by decide +kernel
theorem d_M_quotient_144 : decode prog_9_method_18_code 144 = .ok (.iaload, 1) := by decide +kernel
theorem d_M_quotient_145 : decode prog_9_method_18_code 145 = .ok (.goto 4, 3) := by decide +kernel
theorem d_M_quotient_148 : decode prog_9_method_18_code 148 = .ok (.iconst 0, 1) := by decide +kernel
theorem d_M_quotient_149 : decode prog_9_method_18_code 149 = .ok (.iastore, 1) := by decide +kernel
theorem d_M_quotient_150 : decode prog_9_method_18_code 150 = .ok (.iconst 0, 1) := by decide +kernel
theorem d_M_quotient_151 : decode prog_9_method_18_code 151 = .ok (.istore 5, 2) := by decide +kernel
theorem d_M_quotient_153 : decode prog_9_method_18_code 153 = .ok (.aload_n 0, 1) := by decide +kernel
theorem d_M_quotient_154 : decode prog_9_method_18_code 154 = .ok (.getfield 42, 3) := by decide +kernel
theorem d_M_quotient_157 : decode prog_9_method_18_code 157 = .ok (.aload_n 0, 1) := by decide +kernel
theorem d_M_quotient_158 : decode prog_9_method_18_code 158 = .ok (.getfield 45, 3) := by decide +kernel
theorem d_M_quotient_161 : decode prog_9_method_18_code 161 = .ok (.invokestatic 131, 3) := by decide +kernel
theorem d_M_quotient_164 : decode prog_9_method_18_code 164 = .ok (.ifCond .lt 21, 3) := by decide +kernel
theorem d_M_quotient_167 : decode prog_9_method_18_code 167 = .ok (.aload_n 0, 1) := by decide +kernel
theorem d_M_quotient_168 : decode prog_9_method_18_code 168 = .ok (.getfield 42, 3) := by decide +kernel
theorem d_M_quotient_171 : decode prog_9_method_18_code 171 = .ok (.aload_n 0, 1) := by decide +kernel
theorem d_M_quotient_172 : decode prog_9_method_18_code 172 = .ok (.getfield 45, 3) := by decide +kernel
theorem d_M_quotient_175 : decode prog_9_method_18_code 175 = .ok (.iconst (-1), 1) := by decide +kernel
theorem d_M_quotient_176 : decode prog_9_method_18_code 176 = .ok (.invokestatic 119, 3) := by decide +kernel
theorem d_M_quotient_179 : decode prog_9_method_18_code 179 = .ok (.iinc 5 1, 3) := by decide +kernel
theorem d_M_quotient_182 : decode prog_9_method_18_code 182 = .ok (.goto (-29), 3) := by decide +kernel
theorem d_M_quotient_185 : decode prog_9_method_18_code 185 = .ok (.aload_n 0, 1) := by decide +kernel
theorem d_M_quotient_186 : decode prog_9_method_18_code 186 = .ok (.getfield 48, 3) := by decide +kernel
theorem d_M_quotient_189 : decode prog_9_method_18_code 189 = .ok (.bipush 18, 2) := by decide +kernel
theorem d_M_quotient_191 : decode prog_9_method_18_code 191 = .ok (.iload_n 3, 1) := by decide +kernel
theorem d_M_quotient_192 : decode prog_9_method_18_code 192 = .ok (.iadd, 1) := by decide +kernel
theorem d_M_quotient_193 : decode prog_9_method_18_code 193 = .ok (.iload 4, 2) := by decide +kernel
theorem d_M_quotient_195 : decode prog_9_method_18_code 195 = .ok (.iadd, 1) := by decide +kernel
theorem d_M_quotient_196 : decode prog_9_method_18_code 196 = .ok (.iload 5, 2) := by decide +kernel
theorem d_M_quotient_198 : decode prog_9_method_18_code 198 = .ok (.iastore, 1) := by decide +kernel
theorem d_M_quotient_199 : decode prog_9_method_18_code 199 = .ok (.iinc 4 (-1), 3) := by decide +kernel
theorem d_M_quotient_202 : decode prog_9_method_18_code 202 = .ok (.goto (-120), 3) := by decide +kernel
theorem d_M_quotient_205 : decode prog_9_method_18_code 205 = .ok (.aload_n 0, 1) := by decide +kernel
theorem d_M_quotient_206 : decode prog_9_method_18_code 206 = .ok (.getfield 48, 3) := by decide +kernel
theorem d_M_quotient_209 : decode prog_9_method_18_code 209 = .ok (.invokestatic 135, 3) := by decide +kernel
theorem d_M_quotient_212 : decode prog_9_method_18_code 212 = .ok (.aload_n 0, 1) := by decide +kernel
theorem d_M_quotient_213 : decode prog_9_method_18_code 213 = .ok (.aload_n 0, 1) := by decide +kernel
theorem d_M_quotient_214 : decode prog_9_method_18_code 214 = .ok (.getfield 48, 3) := by decide +kernel
theorem d_M_quotient_217 : decode prog_9_method_18_code 217 = .ok (.aload_n 0, 1) := by decide +kernel
theorem d_M_quotient_218 : decode prog_9_method_18_code 218 = .ok (.getfield 16, 3) := by decide +kernel
theorem d_M_quotient_221 : decode prog_9_method_18_code 221 = .ok (.iload_n 1, 1) := by decide +kernel
theorem d_M_quotient_222 : decode prog_9_method_18_code 222 = .ok (.iaload, 1) := by decide +kernel
theorem d_M_quotient_223 : decode prog_9_method_18_code 223 = .ok (.aload_n 0, 1) := by decide +kernel
theorem d_M_quotient_224 : decode prog_9_method_18_code 224 = .ok (.getfield 16, 3) := by decide +kernel
theorem d_M_quotient_227 : decode prog_9_method_18_code 227 = .ok (.iload_n 2, 1) := by decide +kernel
theorem d_M_quotient_228 : decode prog_9_method_18_code 228 = .ok (.iaload, 1) := by decide +kernel
theorem d_M_quotient_229 : decode prog_9_method_18_code 229 = .ok (.imul, 1) := by decide +kernel
theorem d_M_quotient_230 : decode prog_9_method_18_code 230 = .ok (.iconst 0, 1) := by decide +kernel
theorem d_M_quotient_231 : decode prog_9_method_18_code 231 = .ok (.invokevirtual 127, 3) := by decide +kernel
theorem d_M_quotient_234 : decode prog_9_method_18_code 234 = .ok (.ireturn, 1) := by decide +kernel
def m_M_quotient_153 (G : Nat → Nat) (r82 : Nat → Int32 → Int32 → Int32 → Int32 → hp_H → Option (Int32 × hp_H)) : Nat → Nat → Int32 → Int32 → Int32 → Int32 → Int32 → hp_H → Option (Int32 × hp_H)
  | 0, _, _, _, _, _, _, _ => none
  | n + 1, a0, a1, a2, a3, a4, a5, h => (hp_gR h a0 8 17).bind fun x1 => (hp_gR h a0 8 18).bind fun x2 => (m_M_compare G x1 x2 h).bind fun q3 => if q3.1 < 0 then ((hp_gR q3.2 a0 8 19).bind fun x4 => (hp_sI q3.2 .int x4 (((18 : Int32) + a3) + a4) a5).bind fun h5 => hp_nm (a4 + (-1)) fun x6 => r82 a0 a1 a2 a3 x6 h5) else ((hp_gR q3.2 a0 8 17).bind fun x7 => (hp_gR q3.2 a0 8 18).bind fun x8 => (m_M_join G x7 x8 (-1 : Int32) q3.2).bind fun q9 => hp_nm (a5 + 1) fun x10 => (m_M_quotient_153 G r82 n) a0 a1 a2 a3 a4 x10 q9.2)
set_option maxRecDepth 100000 in
set_option maxHeartbeats 4000000 in
theorem j_M_quotient_153 {Z : hp_Z} (r82 : Nat → Int32 → Int32 → Int32 → Int32 → hp_H → Option (Int32 × hp_H)) (hr82 : ∀ (a0 : Nat) (a1 : Int32) (a2 : Int32) (a3 : Int32) (a4 : Int32) (h : hp_H), hp_J Y_M_quotient Z hp_rI h 82 [(0, .ref a0), (1, .int a1), (2, .int a2), (3, .int a3), (4, .int a4)] [] (r82 a0 a1 a2 a3 a4  h)) : ∀ (n : Nat) (a0 : Nat) (a1 : Int32) (a2 : Int32) (a3 : Int32) (a4 : Int32) (a5 : Int32) (h : hp_H), hp_J Y_M_quotient Z hp_rI h 153 [(0, .ref a0), (1, .int a1), (2, .int a2), (3, .int a3), (4, .int a4), (5, .int a5)] [] (m_M_quotient_153 (hp_G Z) r82 n a0 a1 a2 a3 a4 a5 h) := by
  intro n
  induction n with
  | zero => intro a0 a1 a2 a3 a4 a5 h; exact hp_fail
  | succ n ih =>
    intro a0 a1 a2 a3 a4 a5 h
    rw [m_M_quotient_153]
    refine hp_aload_n (x0 := 0) d_M_quotient_153 rfl rfl ?_
    refine hp_getR fl_M_42 d_M_quotient_154 fun x1 => ?_
    refine hp_aload_n (x0 := 0) d_M_quotient_157 rfl rfl ?_
    refine hp_getR fl_M_45 d_M_quotient_158 fun x2 => ?_
    refine hp_callI (hp_crS (t_M_compare _ _ _ _) cw_M_131 w_1063 (by decide) rfl rfl (Nat.le_of_ble_eq_true rfl) d_M_quotient_161) fun q3 => ?_
    refine hp_if_lt (tgt := 185) d_M_quotient_164 (by decide) ?_ ?_
    · refine hp_aload_n (x0 := 0) d_M_quotient_185 rfl rfl ?_
      refine hp_getR fl_M_48 d_M_quotient_186 fun x4 => ?_
      refine hp_bipush (v := 18) d_M_quotient_189 (by decide) ?_
      refine hp_iload_n (x0 := 3) d_M_quotient_191 rfl rfl ?_
      refine hp_iadd d_M_quotient_192 ?_
      refine hp_iload (x0 := 4) d_M_quotient_193 rfl ?_
      refine hp_iadd d_M_quotient_195 ?_
      refine hp_iload (x0 := 5) d_M_quotient_196 rfl ?_
      refine hp_iast d_M_quotient_198 fun h5 => ?_
      refine hp_iinc (x0 := 4) (d := -1) (fun x6 => [(4, .int x6), (0, .ref a0), (1, .int a1), (2, .int a2), (3, .int a3), (5, .int a5)]) d_M_quotient_199 rfl (by decide) (by decide) (fun _ => rfl) fun x6 => ?_
      refine hp_goto (tgt := 82) d_M_quotient_202 (by decide) ?_
      refine hp_sub [1, 2, 3, 4, 0] rfl ?_
      exact hr82 _ _ _ _ _ _
    · refine hp_aload_n (x0 := 0) d_M_quotient_167 rfl rfl ?_
      refine hp_getR fl_M_42 d_M_quotient_168 fun x7 => ?_
      refine hp_aload_n (x0 := 0) d_M_quotient_171 rfl rfl ?_
      refine hp_getR fl_M_45 d_M_quotient_172 fun x8 => ?_
      refine hp_iconst (v := -1) d_M_quotient_175 (by decide) ?_
      refine hp_callU (hp_crS (t_M_join _ _ _ _ _) cw_M_119 w_1182 (by decide) rfl rfl (Nat.le_of_ble_eq_true rfl) d_M_quotient_176) fun q9 => ?_
      refine hp_iinc (x0 := 5) (d := 1) (fun x10 => [(5, .int x10), (0, .ref a0), (1, .int a1), (2, .int a2), (3, .int a3), (4, .int a4)]) d_M_quotient_179 rfl (by decide) (by decide) (fun _ => rfl) fun x10 => ?_
      refine hp_goto (tgt := 153) d_M_quotient_182 (by decide) ?_
      refine hp_sub [1, 2, 3, 4, 5, 0] rfl ?_
      exact ih _ _ _ _ _ _ _
def m_M_quotient_149 (G : Nat → Nat) (r82 : Nat → Int32 → Int32 → Int32 → Int32 → hp_H → Option (Int32 × hp_H)) (a0 : Nat) (a1 : Int32) (a2 : Int32) (a3 : Int32) (a4 : Int32) (s0 : Int32) (s1 : Int32) (s2 : Nat) (h : hp_H) : Option (Int32 × hp_H) := (hp_sI h .int s2 s1 s0).bind fun h1 => hp_nm (0 : Int32) fun x2 => m_M_quotient_153 G r82 hp_fu a0 a1 a2 a3 a4 x2 h1
set_option maxRecDepth 100000 in
set_option maxHeartbeats 4000000 in
theorem j_M_quotient_149 {Z : hp_Z} (r82 : Nat → Int32 → Int32 → Int32 → Int32 → hp_H → Option (Int32 × hp_H)) (hr82 : ∀ (a0 : Nat) (a1 : Int32) (a2 : Int32) (a3 : Int32) (a4 : Int32) (h : hp_H), hp_J Y_M_quotient Z hp_rI h 82 [(0, .ref a0), (1, .int a1), (2, .int a2), (3, .int a3), (4, .int a4)] [] (r82 a0 a1 a2 a3 a4  h)) (a0 : Nat) (a1 : Int32) (a2 : Int32) (a3 : Int32) (a4 : Int32) (s0 : Int32) (s1 : Int32) (s2 : Nat) (h : hp_H) : hp_J Y_M_quotient Z hp_rI h 149 [(0, .ref a0), (1, .int a1), (2, .int a2), (3, .int a3), (4, .int a4)] [.int s0, .int s1, .ref s2] (m_M_quotient_149 (hp_G Z) r82 a0 a1 a2 a3 a4 s0 s1 s2 h) := by
  unfold m_M_quotient_149
  refine hp_iast d_M_quotient_149 fun h1 => ?_
  refine hp_iconst (v := 0) d_M_quotient_150 (by decide) ?_
  refine hp_istore (fun x2 => [(5, .int x2), (0, .ref a0), (1, .int a1), (2, .int a2), (3, .int a3), (4, .int a4)]) d_M_quotient_151 (by decide) (fun _ => rfl) fun x2 => ?_
  refine hp_sub [1, 2, 3, 4, 5, 0] rfl ?_
  exact j_M_quotient_153 _ hr82 hp_fu _ _ _ _ _ _ _
def m_M_quotient_96 (G : Nat → Nat) (r82 : Nat → Int32 → Int32 → Int32 → Int32 → hp_H → Option (Int32 × hp_H)) : Nat → Nat → Int32 → Int32 → Int32 → Int32 → Int32 → hp_H → Option (Int32 × hp_H)
  | 0, _, _, _, _, _, _, _ => none
  | n + 1, a0, a1, a2, a3, a4, a5, h => if a5 ≤ 0 then ((hp_gR h a0 8 17).bind fun x1 => if a4 < 0 then (m_M_quotient_149 G r82 a0 a1 a2 a3 a4 (0 : Int32) (0 : Int32) x1 h) else ((hp_gR h a0 8 5).bind fun x2 => (hp_aI h .int x2 (((18 : Int32) * a1) + a4)).bind fun x3 => m_M_quotient_149 G r82 a0 a1 a2 a3 a4 x3 (0 : Int32) x1 h)) else ((hp_gR h a0 8 17).bind fun x4 => (hp_gR h a0 8 17).bind fun x5 => (hp_aI h .int x5 (a5 - (1 : Int32))).bind fun x6 => (hp_sI h .int x4 a5 x6).bind fun h7 => hp_nm (a5 + (-1)) fun x8 => (m_M_quotient_96 G r82 n) a0 a1 a2 a3 a4 x8 h7)
set_option maxRecDepth 100000 in
set_option maxHeartbeats 4000000 in
theorem j_M_quotient_96 {Z : hp_Z} (r82 : Nat → Int32 → Int32 → Int32 → Int32 → hp_H → Option (Int32 × hp_H)) (hr82 : ∀ (a0 : Nat) (a1 : Int32) (a2 : Int32) (a3 : Int32) (a4 : Int32) (h : hp_H), hp_J Y_M_quotient Z hp_rI h 82 [(0, .ref a0), (1, .int a1), (2, .int a2), (3, .int a3), (4, .int a4)] [] (r82 a0 a1 a2 a3 a4  h)) : ∀ (n : Nat) (a0 : Nat) (a1 : Int32) (a2 : Int32) (a3 : Int32) (a4 : Int32) (a5 : Int32) (h : hp_H), hp_J Y_M_quotient Z hp_rI h 96 [(0, .ref a0), (1, .int a1), (2, .int a2), (3, .int a3), (4, .int a4), (5, .int a5)] [] (m_M_quotient_96 (hp_G Z) r82 n a0 a1 a2 a3 a4 a5 h) := by
  intro n
  induction n with
  | zero => intro a0 a1 a2 a3 a4 a5 h; exact hp_fail
  | succ n ih =>
    intro a0 a1 a2 a3 a4 a5 h
    rw [m_M_quotient_96]
    refine hp_iload (x0 := 5) d_M_quotient_96 rfl ?_
    refine hp_if_le (tgt := 123) d_M_quotient_98 (by decide) ?_ ?_
    · refine hp_aload_n (x0 := 0) d_M_quotient_123 rfl rfl ?_
      refine hp_getR fl_M_42 d_M_quotient_124 fun x1 => ?_
      refine hp_iconst (v := 0) d_M_quotient_127 (by decide) ?_
      refine hp_iload (x0 := 4) d_M_quotient_128 rfl ?_
      refine hp_if_lt (tgt := 148) d_M_quotient_130 (by decide) ?_ ?_
      · refine hp_iconst (v := 0) d_M_quotient_148 (by decide) ?_
        refine hp_sub [0, 1, 2, 3, 4] rfl ?_
        exact j_M_quotient_149 _ hr82 _ _ _ _ _ _ _ _ _
      · refine hp_aload_n (x0 := 0) d_M_quotient_133 rfl rfl ?_
        refine hp_getR fl_M_23 d_M_quotient_134 fun x2 => ?_
        refine hp_bipush (v := 18) d_M_quotient_137 (by decide) ?_
        refine hp_iload_n (x0 := 1) d_M_quotient_139 rfl rfl ?_
        refine hp_imul d_M_quotient_140 ?_
        refine hp_iload (x0 := 4) d_M_quotient_141 rfl ?_
        refine hp_iadd d_M_quotient_143 ?_
        refine hp_iald d_M_quotient_144 fun x3 => ?_
        refine hp_goto (tgt := 149) d_M_quotient_145 (by decide) ?_
        refine hp_sub [0, 1, 2, 3, 4] rfl ?_
        exact j_M_quotient_149 _ hr82 _ _ _ _ _ _ _ _ _
    · refine hp_aload_n (x0 := 0) d_M_quotient_101 rfl rfl ?_
      refine hp_getR fl_M_42 d_M_quotient_102 fun x4 => ?_
      refine hp_iload (x0 := 5) d_M_quotient_105 rfl ?_
      refine hp_aload_n (x0 := 0) d_M_quotient_107 rfl rfl ?_
      refine hp_getR fl_M_42 d_M_quotient_108 fun x5 => ?_
      refine hp_iload (x0 := 5) d_M_quotient_111 rfl ?_
      refine hp_iconst (v := 1) d_M_quotient_113 (by decide) ?_
      refine hp_isub d_M_quotient_114 ?_
      refine hp_iald d_M_quotient_115 fun x6 => ?_
      refine hp_iast d_M_quotient_116 fun h7 => ?_
      refine hp_iinc (x0 := 5) (d := -1) (fun x8 => [(5, .int x8), (0, .ref a0), (1, .int a1), (2, .int a2), (3, .int a3), (4, .int a4)]) d_M_quotient_117 rfl (by decide) (by decide) (fun _ => rfl) fun x8 => ?_
      refine hp_goto (tgt := 96) d_M_quotient_120 (by decide) ?_
      refine hp_sub [1, 2, 3, 4, 5, 0] rfl ?_
      exact ih _ _ _ _ _ _ _
def m_M_quotient_82 (G : Nat → Nat) : Nat → Nat → Int32 → Int32 → Int32 → Int32 → hp_H → Option (Int32 × hp_H)
  | 0, _, _, _, _, _, _ => none
  | n + 1, a0, a1, a2, a3, a4, h => if a4 < ((-a3) - (10 : Int32)) then ((hp_gR h a0 8 19).bind fun x1 => (m_M_round G x1 h).bind fun q2 => (hp_gR q2.2 a0 8 19).bind fun x3 => (hp_gR q2.2 a0 8 3).bind fun x4 => (hp_aI q2.2 .int x4 a1).bind fun x5 => (hp_gR q2.2 a0 8 3).bind fun x6 => (hp_aI q2.2 .int x6 a2).bind fun x7 => (hp_vck q2.2 a0 8 (m_M_number G a0 x3 (x5 * x7) (0 : Int32) q2.2)).bind fun q8 => some (q8.1, q8.2)) else (hp_nm (63 : Int32) fun x9 => m_M_quotient_96 G (m_M_quotient_82 G  n) hp_fu a0 a1 a2 a3 a4 x9 h)
set_option maxRecDepth 100000 in
set_option maxHeartbeats 4000000 in
theorem j_M_quotient_82 {Z : hp_Z} : ∀ (n : Nat) (a0 : Nat) (a1 : Int32) (a2 : Int32) (a3 : Int32) (a4 : Int32) (h : hp_H), hp_J Y_M_quotient Z hp_rI h 82 [(0, .ref a0), (1, .int a1), (2, .int a2), (3, .int a3), (4, .int a4)] [] (m_M_quotient_82 (hp_G Z)  n a0 a1 a2 a3 a4 h) := by
  intro n
  induction n with
  | zero => intro a0 a1 a2 a3 a4 h; exact hp_fail
  | succ n ih =>
    intro a0 a1 a2 a3 a4 h
    rw [m_M_quotient_82]
    refine hp_iload (x0 := 4) d_M_quotient_82 rfl ?_
    refine hp_iload_n (x0 := 3) d_M_quotient_84 rfl rfl ?_
    refine hp_ineg d_M_quotient_85 ?_
    refine hp_bipush (v := 10) d_M_quotient_86 (by decide) ?_
    refine hp_isub d_M_quotient_88 ?_
    refine hp_icmp_lt (tgt := 205) d_M_quotient_89 (by decide) ?_ ?_
    · refine hp_aload_n (x0 := 0) d_M_quotient_205 rfl rfl ?_
      refine hp_getR fl_M_48 d_M_quotient_206 fun x1 => ?_
      refine hp_callU (hp_crS (t_M_round _ _ _) cw_M_135 w_1193 (by decide) rfl rfl (Nat.le_of_ble_eq_true rfl) d_M_quotient_209) fun q2 => ?_
      refine hp_aload_n (x0 := 0) d_M_quotient_212 rfl rfl ?_
      refine hp_aload_n (x0 := 0) d_M_quotient_213 rfl rfl ?_
      refine hp_getR fl_M_48 d_M_quotient_214 fun x3 => ?_
      refine hp_aload_n (x0 := 0) d_M_quotient_217 rfl rfl ?_
      refine hp_getR fl_M_16 d_M_quotient_218 fun x4 => ?_
      refine hp_iload_n (x0 := 1) d_M_quotient_221 rfl rfl ?_
      refine hp_iald d_M_quotient_222 fun x5 => ?_
      refine hp_aload_n (x0 := 0) d_M_quotient_223 rfl rfl ?_
      refine hp_getR fl_M_16 d_M_quotient_224 fun x6 => ?_
      refine hp_iload_n (x0 := 2) d_M_quotient_227 rfl rfl ?_
      refine hp_iald d_M_quotient_228 fun x7 => ?_
      refine hp_imul d_M_quotient_229 ?_
      refine hp_iconst (v := 0) d_M_quotient_230 (by decide) ?_
      refine hp_callI (hp_crV (ci := 8) (t_M_number _ _ _ _ _ _) cw_M_127 rfl ⟨w_981, ws_39⟩ (by decide) rfl rfl (Nat.le_of_ble_eq_true rfl) d_M_quotient_231) fun q8 => ?_
      exact hp_iret d_M_quotient_234 rfl
    · refine hp_bipush (v := 63) d_M_quotient_92 (by decide) ?_
      refine hp_istore (fun x9 => [(5, .int x9), (0, .ref a0), (1, .int a1), (2, .int a2), (3, .int a3), (4, .int a4)]) d_M_quotient_94 (by decide) (fun _ => rfl) fun x9 => ?_
      refine hp_sub [1, 2, 3, 4, 5, 0] rfl ?_
      exact j_M_quotient_96 _ ih hp_fu _ _ _ _ _ _ _
def m_M_quotient_28 (G : Nat → Nat) : Nat → Nat → Int32 → Int32 → Int32 → hp_H → Option (Int32 × hp_H)
  | 0, _, _, _, _, _ => none
  | n + 1, a0, a1, a2, a3, h => if (18 : Int32) ≤ a3 then ((hp_gR h a0 8 4).bind fun x1 => (hp_aI h .int x1 a2).bind fun x2 => (hp_gR h a0 8 4).bind fun x3 => (hp_aI h .int x3 a1).bind fun x4 => hp_nm (x2 - x4) fun x5 => (hp_gR h a0 8 17).bind fun x6 => (m_M_clear G x6 h).bind fun q7 => hp_nm (17 : Int32) fun x8 => m_M_quotient_82 G hp_fu a0 a1 a2 x5 x8 q7.2) else ((hp_gR h a0 8 18).bind fun x9 => (hp_gR h a0 8 5).bind fun x10 => (hp_aI h .int x10 (((18 : Int32) * a2) + a3)).bind fun x11 => (hp_sI h .int x9 a3 x11).bind fun h12 => hp_nm (a3 + 1) fun x13 => (m_M_quotient_28 G  n) a0 a1 a2 x13 h12)
set_option maxRecDepth 100000 in
set_option maxHeartbeats 4000000 in
theorem j_M_quotient_28 {Z : hp_Z} : ∀ (n : Nat) (a0 : Nat) (a1 : Int32) (a2 : Int32) (a3 : Int32) (h : hp_H), hp_J Y_M_quotient Z hp_rI h 28 [(0, .ref a0), (1, .int a1), (2, .int a2), (3, .int a3)] [] (m_M_quotient_28 (hp_G Z)  n a0 a1 a2 a3 h) := by
  intro n
  induction n with
  | zero => intro a0 a1 a2 a3 h; exact hp_fail
  | succ n ih =>
    intro a0 a1 a2 a3 h
    rw [m_M_quotient_28]
    refine hp_iload_n (x0 := 3) d_M_quotient_28 rfl rfl ?_
    refine hp_bipush (v := 18) d_M_quotient_29 (by decide) ?_
    refine hp_icmp_ge (tgt := 57) d_M_quotient_31 (by decide) ?_ ?_
    · refine hp_aload_n (x0 := 0) d_M_quotient_57 rfl rfl ?_
      refine hp_getR fl_M_19 d_M_quotient_58 fun x1 => ?_
      refine hp_iload_n (x0 := 2) d_M_quotient_61 rfl rfl ?_
      refine hp_iald d_M_quotient_62 fun x2 => ?_
      refine hp_aload_n (x0 := 0) d_M_quotient_63 rfl rfl ?_
      refine hp_getR fl_M_19 d_M_quotient_64 fun x3 => ?_
      refine hp_iload_n (x0 := 1) d_M_quotient_67 rfl rfl ?_
      refine hp_iald d_M_quotient_68 fun x4 => ?_
      refine hp_isub d_M_quotient_69 ?_
      refine hp_istore_n (fun x5 => [(3, .int x5), (0, .ref a0), (1, .int a1), (2, .int a2)]) d_M_quotient_70 rfl (by decide) (fun _ => rfl) fun x5 => ?_
      refine hp_aload_n (x0 := 1) d_M_quotient_71 rfl rfl ?_
      refine hp_getR fl_M_42 d_M_quotient_72 fun x6 => ?_
      refine hp_callU (hp_crS (t_M_clear _ _ _) cw_M_95 w_976 (by decide) rfl rfl (Nat.le_of_ble_eq_true rfl) d_M_quotient_75) fun q7 => ?_
      refine hp_bipush (v := 17) d_M_quotient_78 (by decide) ?_
      refine hp_istore (fun x8 => [(4, .int x8), (3, .int x5), (0, .ref a0), (1, .int a1), (2, .int a2)]) d_M_quotient_80 (by decide) (fun _ => rfl) fun x8 => ?_
      refine hp_sub [2, 3, 4, 1, 0] rfl ?_
      exact j_M_quotient_82  hp_fu _ _ _ _ _ _
    · refine hp_aload_n (x0 := 0) d_M_quotient_34 rfl rfl ?_
      refine hp_getR fl_M_45 d_M_quotient_35 fun x9 => ?_
      refine hp_iload_n (x0 := 3) d_M_quotient_38 rfl rfl ?_
      refine hp_aload_n (x0 := 0) d_M_quotient_39 rfl rfl ?_
      refine hp_getR fl_M_23 d_M_quotient_40 fun x10 => ?_
      refine hp_bipush (v := 18) d_M_quotient_43 (by decide) ?_
      refine hp_iload_n (x0 := 2) d_M_quotient_45 rfl rfl ?_
      refine hp_imul d_M_quotient_46 ?_
      refine hp_iload_n (x0 := 3) d_M_quotient_47 rfl rfl ?_
      refine hp_iadd d_M_quotient_48 ?_
      refine hp_iald d_M_quotient_49 fun x11 => ?_
      refine hp_iast d_M_quotient_50 fun h12 => ?_
      refine hp_iinc (x0 := 3) (d := 1) (fun x13 => [(3, .int x13), (0, .ref a0), (1, .int a1), (2, .int a2)]) d_M_quotient_51 rfl (by decide) (by decide) (fun _ => rfl) fun x13 => ?_
      refine hp_goto (tgt := 28) d_M_quotient_54 (by decide) ?_
      refine hp_sub [1, 2, 3, 0] rfl ?_
      exact ih _ _ _ _ _
def m_M_quotient (G : Nat → Nat) (a0 : Nat) (a1 : Int32) (a2 : Int32) (h : hp_H) : Option (Int32 × hp_H) := (hp_gR h a0 8 3).bind fun x1 => (hp_aI h .int x1 a2).bind fun x2 => if x2 = 0 then (some ((-4 : Int32), h)) else ((hp_gR h a0 8 18).bind fun x3 => (m_M_clear G x3 h).bind fun q4 => (hp_gR q4.2 a0 8 19).bind fun x5 => (m_M_clear G x5 q4.2).bind fun q6 => hp_nm (0 : Int32) fun x7 => m_M_quotient_28 G hp_fu a0 a1 a2 x7 q6.2)
set_option maxRecDepth 100000 in
set_option maxHeartbeats 4000000 in
theorem j_M_quotient_0 {Z : hp_Z} (a0 : Nat) (a1 : Int32) (a2 : Int32) (h : hp_H) : hp_J Y_M_quotient Z hp_rI h 0 [(0, .ref a0), (1, .int a1), (2, .int a2)] [] (m_M_quotient (hp_G Z)  a0 a1 a2 h) := by
  unfold m_M_quotient
  refine hp_aload_n (x0 := 0) d_M_quotient_0 rfl rfl ?_
  refine hp_getR fl_M_16 d_M_quotient_1 fun x1 => ?_
  refine hp_iload_n (x0 := 2) d_M_quotient_4 rfl rfl ?_
  refine hp_iald d_M_quotient_5 fun x2 => ?_
  refine hp_if_ne (tgt := 12) d_M_quotient_6 (by decide) ?_ ?_
  · refine hp_bipush (v := -4) d_M_quotient_9 (by decide) ?_
    exact hp_iret d_M_quotient_11 rfl
  · refine hp_aload_n (x0 := 0) d_M_quotient_12 rfl rfl ?_
    refine hp_getR fl_M_45 d_M_quotient_13 fun x3 => ?_
    refine hp_callU (hp_crS (t_M_clear _ _ _) cw_M_95 w_976 (by decide) rfl rfl (Nat.le_of_ble_eq_true rfl) d_M_quotient_16) fun q4 => ?_
    refine hp_aload_n (x0 := 0) d_M_quotient_19 rfl rfl ?_
    refine hp_getR fl_M_48 d_M_quotient_20 fun x5 => ?_
    refine hp_callU (hp_crS (t_M_clear _ _ _) cw_M_95 w_976 (by decide) rfl rfl (Nat.le_of_ble_eq_true rfl) d_M_quotient_23) fun q6 => ?_
    refine hp_iconst (v := 0) d_M_quotient_26 (by decide) ?_
    refine hp_istore_n (fun x7 => [(3, .int x7), (0, .ref a0), (1, .int a1), (2, .int a2)]) d_M_quotient_27 rfl (by decide) (fun _ => rfl) fun x7 => ?_
    refine hp_sub [1, 2, 3, 0] rfl ?_
    exact j_M_quotient_28  hp_fu _ _ _ _ _
theorem t_M_quotient (l : Launch) (E : hp_E) (a0 : Nat) (a1 : Int32) (a2 : Int32) : hp_M l E y_M_quotient Y_M_quotient hp_rI [.ref a0, .int a1, .int a2] (m_M_quotient E.2.2.1 a0 a1 a2) := hp_M.of (by decide +kernel) ⟨rfl, rfl⟩ (Nat.le_of_ble_eq_true rfl) (fun Z h hE => by subst hE; exact j_M_quotient_0 _ _ _ h)
-- M_sum
theorem d_M_sum_0 : decode prog_9_method_16_code 0 = .ok (.aload_n 0, 1) := by decide +kernel
theorem d_M_sum_1 : decode prog_9_method_16_code 1 = .ok (.iload_n 1, 1) := by decide +kernel
theorem d_M_sum_2 : decode prog_9_method_16_code 2 = .ok (.aload_n 0, 1) := by decide +kernel
theorem d_M_sum_3 : decode prog_9_method_16_code 3 = .ok (.getfield 42, 3) := by decide +kernel
theorem d_M_sum_6 : decode prog_9_method_16_code 6 = .ok (.invokevirtual 115, 3) := by decide +kernel
theorem d_M_sum_9 : decode prog_9_method_16_code 9 = .ok (.aload_n 0, 1) := by decide +kernel
theorem d_M_sum_10 : decode prog_9_method_16_code 10 = .ok (.iload_n 2, 1) := by decide +kernel
theorem d_M_sum_11 : decode prog_9_method_16_code 11 = .ok (.aload_n 0, 1) := by decide +kernel
theorem d_M_sum_12 : decode prog_9_method_16_code 12 = .ok (.getfield 45, 3) := by decide +kernel
theorem d_M_sum_15 : decode prog_9_method_16_code 15 = .ok (.invokevirtual 115, 3) := by decide +kernel
theorem d_M_sum_18 : decode prog_9_method_16_code 18 = .ok (.aload_n 0, 1) := by decide +kernel
theorem d_M_sum_19 : decode prog_9_method_16_code 19 = .ok (.getfield 16, 3) := by decide +kernel
theorem d_M_sum_22 : decode prog_9_method_16_code 22 = .ok (.iload_n 2, 1) := by decide +kernel
theorem d_M_sum_23 : decode prog_9_method_16_code 23 = .ok (.iaload, 1) := by decide +kernel
theorem d_M_sum_24 : decode prog_9_method_16_code 24 = .ok (.iload_n 3, 1) := by decide +kernel
theorem d_M_sum_25 : decode prog_9_method_16_code 25 = .ok (.imul, 1) := by decide +kernel
theorem d_M_sum_26 : decode prog_9_method_16_code 26 = .ok (.istore 4, 2) := by decide +kernel
theorem d_M_sum_28 : decode prog_9_method_16_code 28 = .ok (.aload_n 0, 1) := by decide +kernel
theorem d_M_sum_29 : decode prog_9_method_16_code 29 = .ok (.getfield 16, 3) := by decide +kernel
theorem d_M_sum_32 : decode prog_9_method_16_code 32 = .ok (.iload_n 1, 1) := by decide +kernel
theorem d_M_sum_33 : decode prog_9_method_16_code 33 = .ok (.iaload, 1) := by decide +kernel
theorem d_M_sum_34 : decode prog_9_method_16_code 34 = .ok (.iload 4, 2) := by decide +kernel
theorem d_M_sum_36 : decode prog_9_method_16_code 36 = .ok (.imul, 1) := by decide +kernel
theorem d_M_sum_37 : decode prog_9_method_16_code 37 = .ok (.ifCond .lt 50, 3) := by decide +kernel
theorem d_M_sum_40 : decode prog_9_method_16_code 40 = .ok (.aload_n 0, 1) := by decide +kernel
theorem d_M_sum_41 : decode prog_9_method_16_code 41 = .ok (.getfield 42, 3) := by decide +kernel
theorem d_M_sum_44 : decode prog_9_method_16_code 44 = .ok (.aload_n 0, 1) := by decide +kernel
theorem d_M_sum_45 : decode prog_9_method_16_code 45 = .ok (.getfield 45, 3) := by decide +kernel
theorem d_M_sum_48 : decode prog_9_method_16_code 48 = .ok (.iconst 1, 1) := by decide +kernel
theorem d_M_sum_49 : decode prog_9_method_16_code 49 = .ok (.invokestatic 119, 3) := by decide +kernel
theorem d_M_sum_52 : decode prog_9_method_16_code 52 = .ok (.aload_n 0, 1) := by decide +kernel
theorem d_M_sum_53 : decode prog_9_method_16_code 53 = .ok (.aload_n 0, 1) := by decide +kernel
theorem d_M_sum_54 : decode prog_9_method_16_code 54 = .ok (.getfield 42, 3) := by decide +kernel
theorem d_M_sum_57 : decode prog_9_method_16_code 57 = .ok (.aload_n 0, 1) := by decide +kernel
theorem d_M_sum_58 : decode prog_9_method_16_code 58 = .ok (.getfield 16, 3) := by decide +kernel
theorem d_M_sum_61 : decode prog_9_method_16_code 61 = .ok (.iload_n 1, 1) := by decide +kernel
theorem d_M_sum_62 : decode prog_9_method_16_code 62 = .ok (.iaload, 1) := by decide +kernel
theorem d_M_sum_63 : decode prog_9_method_16_code 63 = .ok (.ifCond .ne 8, 3) := by decide +kernel
theorem d_M_sum_66 : decode prog_9_method_16_code 66 = .ok (.iload 4, 2) := by decide +kernel
theorem d_M_sum_68 : decode prog_9_method_16_code 68 = .ok (.goto 9, 3) := by decide +kernel
theorem d_M_sum_71 : decode prog_9_method_16_code 71 = .ok (.aload_n 0, 1) := by decide +kernel
theorem d_M_sum_72 : decode prog_9_method_16_code 72 = .ok (.getfield 16, 3) := by decide +kernel
theorem d_M_sum_75 : decode prog_9_method_16_code 75 = .ok (.iload_n 1, 1) := by decide +kernel
theorem d_M_sum_76 : decode prog_9_method_16_code 76 = .ok (.iaload, 1) := by decide +kernel
theorem d_M_sum_77 : decode prog_9_method_16_code 77 = .ok (.aload_n 0, 1) := by decide +kernel
theorem d_M_sum_78 : decode prog_9_method_16_code 78 = .ok (.iload_n 1, 1) := by decide +kernel
theorem d_M_sum_79 : decode prog_9_method_16_code 79 = .ok (.iload_n 2, 1) := by decide +kernel
theorem d_M_sum_80 : decode prog_9_method_16_code 80 = .ok (.invokevirtual 123, 3) := by decide +kernel
theorem d_M_sum_83 : decode prog_9_method_16_code 83 = .ok (.invokevirtual 127, 3) := by decide +kernel
theorem d_M_sum_86 : decode prog_9_method_16_code 86 = .ok (.ireturn, 1) := by decide +kernel
theorem d_M_sum_87 : decode prog_9_method_16_code 87 = .ok (.aload_n 0, 1) := by decide +kernel
theorem d_M_sum_88 : decode prog_9_method_16_code 88 = .ok (.getfield 42, 3) := by decide +kernel
theorem d_M_sum_91 : decode prog_9_method_16_code 91 = .ok (.aload_n 0, 1) := by decide +kernel
theorem d_M_sum_92 : decode prog_9_method_16_code 92 = .ok (.getfield 45, 3) := by decide +kernel
theorem d_M_sum_95 : decode prog_9_method_16_code 95 = .ok (.invokestatic 131, 3) := by decide +kernel
theorem d_M_sum_98 : decode prog_9_method_16_code 98 = .ok (.ifCond .lt 36, 3) := by decide +kernel
theorem d_M_sum_101 : decode prog_9_method_16_code 101 = .ok (.aload_n 0, 1) := by decide +kernel
theorem d_M_sum_102 : decode prog_9_method_16_code 102 = .ok (.getfield 42, 3) := by decide +kernel
theorem d_M_sum_105 : decode prog_9_method_16_code 105 = .ok (.aload_n 0, 1) := by decide +kernel
theorem d_M_sum_106 : decode prog_9_method_16_code 106 = .ok (.getfield 45, 3) := by decide +kernel
theorem d_M_sum_109 : decode prog_9_method_16_code 109 = .ok (.iconst (-1), 1) := by decide +kernel
theorem d_M_sum_110 : decode prog_9_method_16_code 110 = .ok (.invokestatic 119, 3) := by decide +kernel
theorem d_M_sum_113 : decode prog_9_method_16_code 113 = .ok (.aload_n 0, 1) := by decide +kernel
theorem d_M_sum_114 : decode prog_9_method_16_code 114 = .ok (.aload_n 0, 1) := by decide +kernel
theorem d_M_sum_115 : decode prog_9_method_16_code 115 = .ok (.getfield 42, 3) := by decide +kernel
theorem d_M_sum_118 : decode prog_9_method_16_code 118 = .ok (.aload_n 0, 1) := by decide +kernel
theorem d_M_sum_119 : decode prog_9_method_16_code 119 = .ok (.getfield 16, 3) := by decide +kernel
theorem d_M_sum_122 : decode prog_9_method_16_code 122 = .ok (.iload_n 1, 1) := by decide +kernel
theorem d_M_sum_123 : decode prog_9_method_16_code 123 = .ok (.iaload, 1) := by decide +kernel
theorem d_M_sum_124 : decode prog_9_method_16_code 124 = .ok (.aload_n 0, 1) := by decide +kernel
theorem d_M_sum_125 : decode prog_9_method_16_code 125 = .ok (.iload_n 1, 1) := by decide +kernel
theorem d_M_sum_126 : decode prog_9_method_16_code 126 = .ok (.iload_n 2, 1) := by decide +kernel
theorem d_M_sum_127 : decode prog_9_method_16_code 127 = .ok (.invokevirtual 123, 3) := by decide +kernel
theorem d_M_sum_130 : decode prog_9_method_16_code 130 = .ok (.invokevirtual 127, 3) := by decide +kernel
theorem d_M_sum_133 : decode prog_9_method_16_code 133 = .ok (.ireturn, 1) := by decide +kernel
theorem d_M_sum_134 : decode prog_9_method_16_code 134 = .ok (.aload_n 0, 1) := by decide +kernel
theorem d_M_sum_135 : decode prog_9_method_16_code 135 = .ok (.getfield 45, 3) := by decide +kernel
theorem d_M_sum_138 : decode prog_9_method_16_code 138 = .ok (.aload_n 0, 1) := by decide +kernel
theorem d_M_sum_139 : decode prog_9_method_16_code 139 = .ok (.getfield 42, 3) := by decide +kernel
theorem d_M_sum_142 : decode prog_9_method_16_code 142 = .ok (.iconst (-1), 1) := by decide +kernel
theorem d_M_sum_143 : decode prog_9_method_16_code 143 = .ok (.invokestatic 119, 3) := by decide +kernel
theorem d_M_sum_146 : decode prog_9_method_16_code 146 = .ok (.aload_n 0, 1) := by decide +kernel
theorem d_M_sum_147 : decode prog_9_method_16_code 147 = .ok (.aload_n 0, 1) := by decide +kernel
theorem d_M_sum_148 : decode prog_9_method_16_code 148 = .ok (.getfield 45, 3) := by decide +kernel
theorem d_M_sum_151 : decode prog_9_method_16_code 151 = .ok (.iload 4, 2) := by decide +kernel
theorem d_M_sum_153 : decode prog_9_method_16_code 153 = .ok (.aload_n 0, 1) := by decide +kernel
theorem d_M_sum_154 : decode prog_9_method_16_code 154 = .ok (.iload_n 1, 1) := by decide +kernel
theorem d_M_sum_155 : decode prog_9_method_16_code 155 = .ok (.iload_n 2, 1) := by decide +kernel
theorem d_M_sum_156 : decode prog_9_method_16_code 156 = .ok (.invokevirtual 123, 3) := by decide +kernel
theorem d_M_sum_159 : decode prog_9_method_16_code 159 = .ok (.invokevirtual 127, 3) := by decide +kernel
theorem d_M_sum_162 : decode prog_9_method_16_code 162 = .ok (.ireturn, 1) := by decide +kernel
def m_M_sum_77 (G : Nat → Nat) (a0 : Nat) (a1 : Int32) (a2 : Int32) (s0 : Int32) (s1 : Nat) (s2 : Nat) (h : hp_H) : Option (Int32 × hp_H) := (hp_vck h a0 8 (m_M_areWholes G a0 a1 a2 h)).bind fun q1 => (hp_vck q1.2 s2 8 (m_M_number G s2 s1 s0 q1.1 q1.2)).bind fun q2 => some (q2.1, q2.2)
set_option maxRecDepth 100000 in
set_option maxHeartbeats 4000000 in
theorem j_M_sum_77 {Z : hp_Z} (a0 : Nat) (a1 : Int32) (a2 : Int32) (s0 : Int32) (s1 : Nat) (s2 : Nat) (h : hp_H) : hp_J Y_M_sum Z hp_rI h 77 [(0, .ref a0), (1, .int a1), (2, .int a2)] [.int s0, .ref s1, .ref s2] (m_M_sum_77 (hp_G Z)  a0 a1 a2 s0 s1 s2 h) := by
  unfold m_M_sum_77
  refine hp_aload_n (x0 := 0) d_M_sum_77 rfl rfl ?_
  refine hp_iload_n (x0 := 1) d_M_sum_78 rfl rfl ?_
  refine hp_iload_n (x0 := 2) d_M_sum_79 rfl rfl ?_
  refine hp_callI (hp_crV (ci := 8) (t_M_areWholes _ _ _ _ _) cw_M_123 rfl ⟨w_1186, ws_73⟩ (by decide) rfl rfl (Nat.le_of_ble_eq_true rfl) d_M_sum_80) fun q1 => ?_
  refine hp_callI (hp_crV (ci := 8) (t_M_number _ _ _ _ _ _) cw_M_127 rfl ⟨w_981, ws_39⟩ (by decide) rfl rfl (Nat.le_of_ble_eq_true rfl) d_M_sum_83) fun q2 => ?_
  exact hp_iret d_M_sum_86 rfl
def m_M_sum (G : Nat → Nat) (a0 : Nat) (a1 : Int32) (a2 : Int32) (a3 : Int32) (h : hp_H) : Option (Int32 × hp_H) := (hp_gR h a0 8 17).bind fun x1 => (hp_vck h a0 8 (m_M_lay G a0 a1 x1 h)).bind fun q2 => (hp_gR q2.2 a0 8 18).bind fun x3 => (hp_vck q2.2 a0 8 (m_M_lay G a0 a2 x3 q2.2)).bind fun q4 => (hp_gR q4.2 a0 8 3).bind fun x5 => (hp_aI q4.2 .int x5 a2).bind fun x6 => hp_nm (x6 * a3) fun x7 => (hp_gR q4.2 a0 8 3).bind fun x8 => (hp_aI q4.2 .int x8 a1).bind fun x9 => if (x9 * x7) < 0 then ((hp_gR q4.2 a0 8 17).bind fun x10 => (hp_gR q4.2 a0 8 18).bind fun x11 => (m_M_compare G x10 x11 q4.2).bind fun q12 => if q12.1 < 0 then ((hp_gR q12.2 a0 8 18).bind fun x13 => (hp_gR q12.2 a0 8 17).bind fun x14 => (m_M_join G x13 x14 (-1 : Int32) q12.2).bind fun q15 => (hp_gR q15.2 a0 8 18).bind fun x16 => (hp_vck q15.2 a0 8 (m_M_areWholes G a0 a1 a2 q15.2)).bind fun q17 => (hp_vck q17.2 a0 8 (m_M_number G a0 x16 x7 q17.1 q17.2)).bind fun q18 => some (q18.1, q18.2)) else ((hp_gR q12.2 a0 8 17).bind fun x19 => (hp_gR q12.2 a0 8 18).bind fun x20 => (m_M_join G x19 x20 (-1 : Int32) q12.2).bind fun q21 => (hp_gR q21.2 a0 8 17).bind fun x22 => (hp_gR q21.2 a0 8 3).bind fun x23 => (hp_aI q21.2 .int x23 a1).bind fun x24 => (hp_vck q21.2 a0 8 (m_M_areWholes G a0 a1 a2 q21.2)).bind fun q25 => (hp_vck q25.2 a0 8 (m_M_number G a0 x22 x24 q25.1 q25.2)).bind fun q26 => some (q26.1, q26.2))) else ((hp_gR q4.2 a0 8 17).bind fun x27 => (hp_gR q4.2 a0 8 18).bind fun x28 => (m_M_join G x27 x28 (1 : Int32) q4.2).bind fun q29 => (hp_gR q29.2 a0 8 17).bind fun x30 => (hp_gR q29.2 a0 8 3).bind fun x31 => (hp_aI q29.2 .int x31 a1).bind fun x32 => if x32 = 0 then (m_M_sum_77 G a0 a1 a2 x7 x30 a0 q29.2) else ((hp_gR q29.2 a0 8 3).bind fun x33 => (hp_aI q29.2 .int x33 a1).bind fun x34 => m_M_sum_77 G a0 a1 a2 x34 x30 a0 q29.2))
set_option maxRecDepth 100000 in
set_option maxHeartbeats 4000000 in
theorem j_M_sum_0 {Z : hp_Z} (a0 : Nat) (a1 : Int32) (a2 : Int32) (a3 : Int32) (h : hp_H) : hp_J Y_M_sum Z hp_rI h 0 [(0, .ref a0), (1, .int a1), (2, .int a2), (3, .int a3)] [] (m_M_sum (hp_G Z)  a0 a1 a2 a3 h) := by
  unfold m_M_sum
  refine hp_aload_n (x0 := 0) d_M_sum_0 rfl rfl ?_
  refine hp_iload_n (x0 := 1) d_M_sum_1 rfl rfl ?_
  refine hp_aload_n (x0 := 0) d_M_sum_2 rfl rfl ?_
  refine hp_getR fl_M_42 d_M_sum_3 fun x1 => ?_
  refine hp_callU (hp_crV (ci := 8) (t_M_lay _ _ _ _ _) cw_M_115 rfl ⟨w_1060, ws_49⟩ (by decide) rfl rfl (Nat.le_of_ble_eq_true rfl) d_M_sum_6) fun q2 => ?_
  refine hp_aload_n (x0 := 0) d_M_sum_9 rfl rfl ?_
  refine hp_iload_n (x0 := 2) d_M_sum_10 rfl rfl ?_
  refine hp_aload_n (x0 := 0) d_M_sum_11 rfl rfl ?_
  refine hp_getR fl_M_45 d_M_sum_12 fun x3 => ?_
  refine hp_callU (hp_crV (ci := 8) (t_M_lay _ _ _ _ _) cw_M_115 rfl ⟨w_1060, ws_49⟩ (by decide) rfl rfl (Nat.le_of_ble_eq_true rfl) d_M_sum_15) fun q4 => ?_
  refine hp_aload_n (x0 := 0) d_M_sum_18 rfl rfl ?_
  refine hp_getR fl_M_16 d_M_sum_19 fun x5 => ?_
  refine hp_iload_n (x0 := 2) d_M_sum_22 rfl rfl ?_
  refine hp_iald d_M_sum_23 fun x6 => ?_
  refine hp_iload_n (x0 := 3) d_M_sum_24 rfl rfl ?_
  refine hp_imul d_M_sum_25 ?_
  refine hp_istore (fun x7 => [(4, .int x7), (0, .ref a0), (1, .int a1), (2, .int a2), (3, .int a3)]) d_M_sum_26 (by decide) (fun _ => rfl) fun x7 => ?_
  refine hp_aload_n (x0 := 1) d_M_sum_28 rfl rfl ?_
  refine hp_getR fl_M_16 d_M_sum_29 fun x8 => ?_
  refine hp_iload_n (x0 := 2) d_M_sum_32 rfl rfl ?_
  refine hp_iald d_M_sum_33 fun x9 => ?_
  refine hp_iload (x0 := 0) d_M_sum_34 rfl ?_
  refine hp_imul d_M_sum_36 ?_
  refine hp_if_lt (tgt := 87) d_M_sum_37 (by decide) ?_ ?_
  · refine hp_aload_n (x0 := 1) d_M_sum_87 rfl rfl ?_
    refine hp_getR fl_M_42 d_M_sum_88 fun x10 => ?_
    refine hp_aload_n (x0 := 1) d_M_sum_91 rfl rfl ?_
    refine hp_getR fl_M_45 d_M_sum_92 fun x11 => ?_
    refine hp_callI (hp_crS (t_M_compare _ _ _ _) cw_M_131 w_1063 (by decide) rfl rfl (Nat.le_of_ble_eq_true rfl) d_M_sum_95) fun q12 => ?_
    refine hp_if_lt (tgt := 134) d_M_sum_98 (by decide) ?_ ?_
    · refine hp_aload_n (x0 := 1) d_M_sum_134 rfl rfl ?_
      refine hp_getR fl_M_45 d_M_sum_135 fun x13 => ?_
      refine hp_aload_n (x0 := 1) d_M_sum_138 rfl rfl ?_
      refine hp_getR fl_M_42 d_M_sum_139 fun x14 => ?_
      refine hp_iconst (v := -1) d_M_sum_142 (by decide) ?_
      refine hp_callU (hp_crS (t_M_join _ _ _ _ _) cw_M_119 w_1182 (by decide) rfl rfl (Nat.le_of_ble_eq_true rfl) d_M_sum_143) fun q15 => ?_
      refine hp_aload_n (x0 := 1) d_M_sum_146 rfl rfl ?_
      refine hp_aload_n (x0 := 1) d_M_sum_147 rfl rfl ?_
      refine hp_getR fl_M_45 d_M_sum_148 fun x16 => ?_
      refine hp_iload (x0 := 0) d_M_sum_151 rfl ?_
      refine hp_aload_n (x0 := 1) d_M_sum_153 rfl rfl ?_
      refine hp_iload_n (x0 := 2) d_M_sum_154 rfl rfl ?_
      refine hp_iload_n (x0 := 3) d_M_sum_155 rfl rfl ?_
      refine hp_callI (hp_crV (ci := 8) (t_M_areWholes _ _ _ _ _) cw_M_123 rfl ⟨w_1186, ws_73⟩ (by decide) rfl rfl (Nat.le_of_ble_eq_true rfl) d_M_sum_156) fun q17 => ?_
      refine hp_callI (hp_crV (ci := 8) (t_M_number _ _ _ _ _ _) cw_M_127 rfl ⟨w_981, ws_39⟩ (by decide) rfl rfl (Nat.le_of_ble_eq_true rfl) d_M_sum_159) fun q18 => ?_
      exact hp_iret d_M_sum_162 rfl
    · refine hp_aload_n (x0 := 1) d_M_sum_101 rfl rfl ?_
      refine hp_getR fl_M_42 d_M_sum_102 fun x19 => ?_
      refine hp_aload_n (x0 := 1) d_M_sum_105 rfl rfl ?_
      refine hp_getR fl_M_45 d_M_sum_106 fun x20 => ?_
      refine hp_iconst (v := -1) d_M_sum_109 (by decide) ?_
      refine hp_callU (hp_crS (t_M_join _ _ _ _ _) cw_M_119 w_1182 (by decide) rfl rfl (Nat.le_of_ble_eq_true rfl) d_M_sum_110) fun q21 => ?_
      refine hp_aload_n (x0 := 1) d_M_sum_113 rfl rfl ?_
      refine hp_aload_n (x0 := 1) d_M_sum_114 rfl rfl ?_
      refine hp_getR fl_M_42 d_M_sum_115 fun x22 => ?_
      refine hp_aload_n (x0 := 1) d_M_sum_118 rfl rfl ?_
      refine hp_getR fl_M_16 d_M_sum_119 fun x23 => ?_
      refine hp_iload_n (x0 := 2) d_M_sum_122 rfl rfl ?_
      refine hp_iald d_M_sum_123 fun x24 => ?_
      refine hp_aload_n (x0 := 1) d_M_sum_124 rfl rfl ?_
      refine hp_iload_n (x0 := 2) d_M_sum_125 rfl rfl ?_
      refine hp_iload_n (x0 := 3) d_M_sum_126 rfl rfl ?_
      refine hp_callI (hp_crV (ci := 8) (t_M_areWholes _ _ _ _ _) cw_M_123 rfl ⟨w_1186, ws_73⟩ (by decide) rfl rfl (Nat.le_of_ble_eq_true rfl) d_M_sum_127) fun q25 => ?_
      refine hp_callI (hp_crV (ci := 8) (t_M_number _ _ _ _ _ _) cw_M_127 rfl ⟨w_981, ws_39⟩ (by decide) rfl rfl (Nat.le_of_ble_eq_true rfl) d_M_sum_130) fun q26 => ?_
      exact hp_iret d_M_sum_133 rfl
  · refine hp_aload_n (x0 := 1) d_M_sum_40 rfl rfl ?_
    refine hp_getR fl_M_42 d_M_sum_41 fun x27 => ?_
    refine hp_aload_n (x0 := 1) d_M_sum_44 rfl rfl ?_
    refine hp_getR fl_M_45 d_M_sum_45 fun x28 => ?_
    refine hp_iconst (v := 1) d_M_sum_48 (by decide) ?_
    refine hp_callU (hp_crS (t_M_join _ _ _ _ _) cw_M_119 w_1182 (by decide) rfl rfl (Nat.le_of_ble_eq_true rfl) d_M_sum_49) fun q29 => ?_
    refine hp_aload_n (x0 := 1) d_M_sum_52 rfl rfl ?_
    refine hp_aload_n (x0 := 1) d_M_sum_53 rfl rfl ?_
    refine hp_getR fl_M_42 d_M_sum_54 fun x30 => ?_
    refine hp_aload_n (x0 := 1) d_M_sum_57 rfl rfl ?_
    refine hp_getR fl_M_16 d_M_sum_58 fun x31 => ?_
    refine hp_iload_n (x0 := 2) d_M_sum_61 rfl rfl ?_
    refine hp_iald d_M_sum_62 fun x32 => ?_
    refine hp_if_ne (tgt := 71) d_M_sum_63 (by decide) ?_ ?_
    · refine hp_iload (x0 := 0) d_M_sum_66 rfl ?_
      refine hp_goto (tgt := 77) d_M_sum_68 (by decide) ?_
      refine hp_sub [1, 2, 3] rfl ?_
      exact j_M_sum_77  _ _ _ _ _ _ _
    · refine hp_aload_n (x0 := 1) d_M_sum_71 rfl rfl ?_
      refine hp_getR fl_M_16 d_M_sum_72 fun x33 => ?_
      refine hp_iload_n (x0 := 2) d_M_sum_75 rfl rfl ?_
      refine hp_iald d_M_sum_76 fun x34 => ?_
      refine hp_sub [1, 2, 3] rfl ?_
      exact j_M_sum_77  _ _ _ _ _ _ _
theorem t_M_sum (l : Launch) (E : hp_E) (a0 : Nat) (a1 : Int32) (a2 : Int32) (a3 : Int32) : hp_M l E y_M_sum Y_M_sum hp_rI [.ref a0, .int a1, .int a2, .int a3] (m_M_sum E.2.2.1 a0 a1 a2 a3) := hp_M.of (by decide +kernel) ⟨rfl, rfl⟩ (Nat.le_of_ble_eq_true rfl) (fun Z h hE => by subst hE; exact j_M_sum_0 _ _ _ _ h)
-- M_two
theorem d_M_two_0 : decode prog_9_method_68_code 0 = .ok (.iload_n 1, 1) := by decide +kernel
theorem d_M_two_1 : decode prog_9_method_68_code 1 = .ok (.tableswitch 133 6 12 #[43, 54, 68, 79, 93, 104, 118], 43) := by decide +kernel
theorem d_M_two_44 : decode prog_9_method_68_code 44 = .ok (.aload_n 0, 1) := by decide +kernel
theorem d_M_two_45 : decode prog_9_method_68_code 45 = .ok (.aload_n 0, 1) := by decide +kernel
theorem d_M_two_46 : decode prog_9_method_68_code 46 = .ok (.iload_n 2, 1) := by decide +kernel
theorem d_M_two_47 : decode prog_9_method_68_code 47 = .ok (.iload_n 3, 1) := by decide +kernel
theorem d_M_two_48 : decode prog_9_method_68_code 48 = .ok (.invokevirtual 259, 3) := by decide +kernel
theorem d_M_two_51 : decode prog_9_method_68_code 51 = .ok (.invokevirtual 247, 3) := by decide +kernel
theorem d_M_two_54 : decode prog_9_method_68_code 54 = .ok (.ireturn, 1) := by decide +kernel
theorem d_M_two_55 : decode prog_9_method_68_code 55 = .ok (.aload_n 0, 1) := by decide +kernel
theorem d_M_two_56 : decode prog_9_method_68_code 56 = .ok (.aload_n 0, 1) := by decide +kernel
theorem d_M_two_57 : decode prog_9_method_68_code 57 = .ok (.iload_n 2, 1) := by decide +kernel
theorem d_M_two_58 : decode prog_9_method_68_code 58 = .ok (.iload_n 3, 1) := by decide +kernel
theorem d_M_two_59 : decode prog_9_method_68_code 59 = .ok (.invokevirtual 259, 3) := by decide +kernel
theorem d_M_two_62 : decode prog_9_method_68_code 62 = .ok (.invokestatic 262, 3) := by decide +kernel
theorem d_M_two_65 : decode prog_9_method_68_code 65 = .ok (.invokevirtual 247, 3) := by decide +kernel
theorem d_M_two_68 : decode prog_9_method_68_code 68 = .ok (.ireturn, 1) := by decide +kernel
theorem d_M_two_69 : decode prog_9_method_68_code 69 = .ok (.aload_n 0, 1) := by decide +kernel
theorem d_M_two_70 : decode prog_9_method_68_code 70 = .ok (.aload_n 0, 1) := by decide +kernel
theorem d_M_two_71 : decode prog_9_method_68_code 71 = .ok (.iload_n 2, 1) := by decide +kernel
theorem d_M_two_72 : decode prog_9_method_68_code 72 = .ok (.iload_n 3, 1) := by decide +kernel
theorem d_M_two_73 : decode prog_9_method_68_code 73 = .ok (.invokevirtual 265, 3) := by decide +kernel
theorem d_M_two_76 : decode prog_9_method_68_code 76 = .ok (.invokevirtual 247, 3) := by decide +kernel
theorem d_M_two_79 : decode prog_9_method_68_code 79 = .ok (.ireturn, 1) := by decide +kernel
theorem d_M_two_80 : decode prog_9_method_68_code 80 = .ok (.aload_n 0, 1) := by decide +kernel
theorem d_M_two_81 : decode prog_9_method_68_code 81 = .ok (.aload_n 0, 1) := by decide +kernel
theorem d_M_two_82 : decode prog_9_method_68_code 82 = .ok (.iload_n 3, 1) := by decide +kernel
theorem d_M_two_83 : decode prog_9_method_68_code 83 = .ok (.iload_n 2, 1) := by decide +kernel
theorem d_M_two_84 : decode prog_9_method_68_code 84 = .ok (.invokevirtual 265, 3) := by decide +kernel
theorem d_M_two_87 : decode prog_9_method_68_code 87 = .ok (.invokestatic 262, 3) := by decide +kernel
theorem d_M_two_90 : decode prog_9_method_68_code 90 = .ok (.invokevirtual 247, 3) := by decide +kernel
theorem d_M_two_93 : decode prog_9_method_68_code 93 = .ok (.ireturn, 1) := by decide +kernel
theorem d_M_two_94 : decode prog_9_method_68_code 94 = .ok (.aload_n 0, 1) := by decide +kernel
theorem d_M_two_95 : decode prog_9_method_68_code 95 = .ok (.aload_n 0, 1) := by decide +kernel
theorem d_M_two_96 : decode prog_9_method_68_code 96 = .ok (.iload_n 3, 1) := by decide +kernel
theorem d_M_two_97 : decode prog_9_method_68_code 97 = .ok (.iload_n 2, 1) := by decide +kernel
theorem d_M_two_98 : decode prog_9_method_68_code 98 = .ok (.invokevirtual 265, 3) := by decide +kernel
theorem d_M_two_101 : decode prog_9_method_68_code 101 = .ok (.invokevirtual 247, 3) := by decide +kernel
theorem d_M_two_104 : decode prog_9_method_68_code 104 = .ok (.ireturn, 1) := by decide +kernel
theorem d_M_two_105 : decode prog_9_method_68_code 105 = .ok (.aload_n 0, 1) := by decide +kernel
theorem d_M_two_106 : decode prog_9_method_68_code 106 = .ok (.aload_n 0, 1) := by decide +kernel
theorem d_M_two_107 : decode prog_9_method_68_code 107 = .ok (.iload_n 2, 1) := by decide +kernel
theorem d_M_two_108 : decode prog_9_method_68_code 108 = .ok (.iload_n 3, 1) := by decide +kernel
theorem d_M_two_109 : decode prog_9_method_68_code 109 = .ok (.invokevirtual 265, 3) := by decide +kernel
theorem d_M_two_112 : decode prog_9_method_68_code 112 = .ok (.invokestatic 262, 3) := by decide +kernel
theorem d_M_two_115 : decode prog_9_method_68_code 115 = .ok (.invokevirtual 247, 3) := by decide +kernel
theorem d_M_two_118 : decode prog_9_method_68_code 118 = .ok (.ireturn, 1) := by decide +kernel
theorem d_M_two_119 : decode prog_9_method_68_code 119 = .ok (.aload_n 0, 1) := by decide +kernel
theorem d_M_two_120 : decode prog_9_method_68_code 120 = .ok (.iload_n 2, 1) := by decide +kernel
theorem d_M_two_121 : decode prog_9_method_68_code 121 = .ok (.iload_n 3, 1) := by decide +kernel
theorem d_M_two_122 : decode prog_9_method_68_code 122 = .ok (.if_icmp .ne 7, 3) := by decide +kernel
theorem d_M_two_125 : decode prog_9_method_68_code 125 = .ok (.iconst 1, 1) := by decide +kernel
theorem d_M_two_126 : decode prog_9_method_68_code 126 = .ok (.goto 4, 3) := by decide +kernel
theorem d_M_two_129 : decode prog_9_method_68_code 129 = .ok (.iconst 0, 1) := by decide +kernel
theorem d_M_two_130 : decode prog_9_method_68_code 130 = .ok (.invokevirtual 185, 3) := by decide +kernel
theorem d_M_two_133 : decode prog_9_method_68_code 133 = .ok (.ireturn, 1) := by decide +kernel
theorem d_M_two_134 : decode prog_9_method_68_code 134 = .ok (.iload_n 1, 1) := by decide +kernel
theorem d_M_two_135 : decode prog_9_method_68_code 135 = .ok (.bipush 29, 2) := by decide +kernel
theorem d_M_two_137 : decode prog_9_method_68_code 137 = .ok (.if_icmp .le 11, 3) := by decide +kernel
theorem d_M_two_140 : decode prog_9_method_68_code 140 = .ok (.aload_n 0, 1) := by decide +kernel
theorem d_M_two_141 : decode prog_9_method_68_code 141 = .ok (.iload_n 1, 1) := by decide +kernel
theorem d_M_two_142 : decode prog_9_method_68_code 142 = .ok (.iload_n 2, 1) := by decide +kernel
theorem d_M_two_143 : decode prog_9_method_68_code 143 = .ok (.iload_n 3, 1) := by decide +kernel
theorem d_M_two_144 : decode prog_9_method_68_code 144 = .ok (.invokevirtual 268, 3) := by decide +kernel
theorem d_M_two_147 : decode prog_9_method_68_code 147 = .ok (.ireturn, 1) := by decide +kernel
theorem d_M_two_148 : decode prog_9_method_68_code 148 = .ok (.aload_n 0, 1) := by decide +kernel
theorem d_M_two_149 : decode prog_9_method_68_code 149 = .ok (.iload_n 2, 1) := by decide +kernel
theorem d_M_two_150 : decode prog_9_method_68_code 150 = .ok (.invokevirtual 168, 3) := by decide +kernel
theorem d_M_two_153 : decode prog_9_method_68_code 153 = .ok (.ifCond .eq 11, 3) := by decide +kernel
theorem d_M_two_156 : decode prog_9_method_68_code 156 = .ok (.aload_n 0, 1) := by decide +kernel
theorem d_M_two_157 : decode prog_9_method_68_code 157 = .ok (.iload_n 3, 1) := by decide +kernel
theorem d_M_two_158 : decode prog_9_method_68_code 158 = .ok (.invokevirtual 168, 3) := by decide +kernel
theorem d_M_two_161 : decode prog_9_method_68_code 161 = .ok (.ifCond .ne 6, 3) := by decide +kernel
theorem d_M_two_164 : decode prog_9_method_68_code 164 = .ok (.bipush (-4), 2) := by decide +kernel
theorem d_M_two_166 : decode prog_9_method_68_code 166 = .ok (.ireturn, 1) := by decide +kernel
theorem d_M_two_167 : decode prog_9_method_68_code 167 = .ok (.iload_n 1, 1) := by decide +kernel
theorem d_M_two_168 : decode prog_9_method_68_code 168 = .ok (.bipush 13, 2) := by decide +kernel
theorem d_M_two_170 : decode prog_9_method_68_code 170 = .ok (.if_icmp .ne 13, 3) := by decide +kernel
theorem d_M_two_173 : decode prog_9_method_68_code 173 = .ok (.aload_n 0, 1) := by decide +kernel
theorem d_M_two_174 : decode prog_9_method_68_code 174 = .ok (.iload_n 2, 1) := by decide +kernel
theorem d_M_two_175 : decode prog_9_method_68_code 175 = .ok (.iload_n 3, 1) := by decide +kernel
theorem d_M_two_176 : decode prog_9_method_68_code 176 = .ok (.iconst 1, 1) := by decide +kernel
theorem d_M_two_177 : decode prog_9_method_68_code 177 = .ok (.invokevirtual 271, 3) := by decide +kernel
theorem d_M_two_180 : decode prog_9_method_68_code 180 = .ok (.goto 40, 3) := by decide +kernel
theorem d_M_two_183 : decode prog_9_method_68_code 183 = .ok (.iload_n 1, 1) := by decide +kernel
theorem d_M_two_184 : decode prog_9_method_68_code 184 = .ok (.bipush 14, 2) := by decide +kernel
theorem d_M_two_186 : decode prog_9_method_68_code 186 = .ok (.if_icmp .ne 13, 3) := by decide +kernel
theorem d_M_two_189 : decode prog_9_method_68_code 189 = .ok (.aload_n 0, 1) := by decide +kernel
theorem d_M_two_190 : decode prog_9_method_68_code 190 = .ok (.iload_n 2, 1) := by decide +kernel
theorem d_M_two_191 : decode prog_9_method_68_code 191 = .ok (.iload_n 3, 1) := by decide +kernel
theorem d_M_two_192 : decode prog_9_method_68_code 192 = .ok (.iconst (-1), 1) := by decide +kernel
theorem d_M_two_193 : decode prog_9_method_68_code 193 = .ok (.invokevirtual 271, 3) := by decide +kernel
theorem d_M_two_196 : decode prog_9_method_68_code 196 = .ok (.goto 24, 3) := by decide +kernel
theorem d_M_two_199 : decode prog_9_method_68_code 199 = .ok (.iload_n 1, 1) := by decide +kernel
theorem d_M_two_200 : decode prog_9_method_68_code 200 = .ok (.bipush 15, 2) := by decide +kernel
theorem d_M_two_202 : decode prog_9_method_68_code 202 = .ok (.if_icmp .ne 12, 3) := by decide +kernel
theorem d_M_two_205 : decode prog_9_method_68_code 205 = .ok (.aload_n 0, 1) := by decide +kernel
theorem d_M_two_206 : decode prog_9_method_68_code 206 = .ok (.iload_n 2, 1) := by decide +kernel
theorem d_M_two_207 : decode prog_9_method_68_code 207 = .ok (.iload_n 3, 1) := by decide +kernel
theorem d_M_two_208 : decode prog_9_method_68_code 208 = .ok (.invokevirtual 274, 3) := by decide +kernel
theorem d_M_two_211 : decode prog_9_method_68_code 211 = .ok (.goto 9, 3) := by decide +kernel
theorem d_M_two_214 : decode prog_9_method_68_code 214 = .ok (.aload_n 0, 1) := by decide +kernel
theorem d_M_two_215 : decode prog_9_method_68_code 215 = .ok (.iload_n 2, 1) := by decide +kernel
theorem d_M_two_216 : decode prog_9_method_68_code 216 = .ok (.iload_n 3, 1) := by decide +kernel
theorem d_M_two_217 : decode prog_9_method_68_code 217 = .ok (.invokevirtual 277, 3) := by decide +kernel
theorem d_M_two_220 : decode prog_9_method_68_code 220 = .ok (.ireturn, 1) := by decide +kernel
def m_M_two_130 (G : Nat → Nat) (s0 : Int32) (s1 : Nat) (h : hp_H) : Option (Int32 × hp_H) := (hp_vck h s1 8 (m_M_truth G s1 s0 h)).bind fun q1 => some (q1.1, q1.2)
set_option maxRecDepth 100000 in
set_option maxHeartbeats 4000000 in
theorem j_M_two_130 {Z : hp_Z} (s0 : Int32) (s1 : Nat) (h : hp_H) : hp_J Y_M_two Z hp_rI h 130 [] [.int s0, .ref s1] (m_M_two_130 (hp_G Z)  s0 s1 h) := by
  unfold m_M_two_130
  refine hp_callI (hp_crV (ci := 8) (t_M_truth _ _ _ _) cw_M_185 rfl ⟨w_1003, w_1004⟩ (by decide) rfl rfl (Nat.le_of_ble_eq_true rfl) d_M_two_130) fun q1 => ?_
  exact hp_iret d_M_two_133 rfl
def m_M_two_164 (G : Nat → Nat) (h : hp_H) : Option (Int32 × hp_H) := some ((-4 : Int32), h)
set_option maxRecDepth 100000 in
set_option maxHeartbeats 4000000 in
theorem j_M_two_164 {Z : hp_Z} (h : hp_H) : hp_J Y_M_two Z hp_rI h 164 [] [] (m_M_two_164 (hp_G Z)   h) := by
  unfold m_M_two_164
  refine hp_bipush (v := -4) d_M_two_164 (by decide) ?_
  exact hp_iret d_M_two_166 rfl
def m_M_two_220 (G : Nat → Nat) (s0 : Int32) (h : hp_H) : Option (Int32 × hp_H) := some (s0, h)
set_option maxRecDepth 100000 in
set_option maxHeartbeats 4000000 in
theorem j_M_two_220 {Z : hp_Z} (s0 : Int32) (h : hp_H) : hp_J Y_M_two Z hp_rI h 220 [] [.int s0] (m_M_two_220 (hp_G Z)  s0 h) := by
  unfold m_M_two_220
  exact hp_iret d_M_two_220 rfl
def m_M_two (G : Nat → Nat) (a0 : Nat) (a1 : Int32) (a2 : Int32) (a3 : Int32) (h : hp_H) : Option (Int32 × hp_H) := if a1 = 6 then ((hp_vck h a0 8 (m_M_equal G a0 a2 a3 h)).bind fun q1 => (hp_vck q1.2 a0 8 (m_M_given G a0 q1.1 q1.2)).bind fun q2 => some (q2.1, q2.2)) else (if a1 = 7 then ((hp_vck h a0 8 (m_M_equal G a0 a2 a3 h)).bind fun q3 => (m_M_not G q3.1 q3.2).bind fun q4 => (hp_vck q4.2 a0 8 (m_M_given G a0 q4.1 q4.2)).bind fun q5 => some (q5.1, q5.2)) else (if a1 = 8 then ((hp_vck h a0 8 (m_M_less G a0 a2 a3 h)).bind fun q6 => (hp_vck q6.2 a0 8 (m_M_given G a0 q6.1 q6.2)).bind fun q7 => some (q7.1, q7.2)) else (if a1 = 9 then ((hp_vck h a0 8 (m_M_less G a0 a3 a2 h)).bind fun q8 => (m_M_not G q8.1 q8.2).bind fun q9 => (hp_vck q9.2 a0 8 (m_M_given G a0 q9.1 q9.2)).bind fun q10 => some (q10.1, q10.2)) else (if a1 = 10 then ((hp_vck h a0 8 (m_M_less G a0 a3 a2 h)).bind fun q11 => (hp_vck q11.2 a0 8 (m_M_given G a0 q11.1 q11.2)).bind fun q12 => some (q12.1, q12.2)) else (if a1 = 11 then ((hp_vck h a0 8 (m_M_less G a0 a2 a3 h)).bind fun q13 => (m_M_not G q13.1 q13.2).bind fun q14 => (hp_vck q14.2 a0 8 (m_M_given G a0 q14.1 q14.2)).bind fun q15 => some (q15.1, q15.2)) else (if a1 = 12 then (if a2 = a3 then (m_M_two_130 G (1 : Int32) a0 h) else (m_M_two_130 G (0 : Int32) a0 h)) else (if a1 ≤ (29 : Int32) then ((hp_vck h a0 8 (m_M_isNumber G a0 a2 h)).bind fun q16 => if q16.1 = 0 then (m_M_two_164 G q16.2) else ((hp_vck q16.2 a0 8 (m_M_isNumber G a0 a3 q16.2)).bind fun q17 => if q17.1 = 0 then (m_M_two_164 G q17.2) else (if a1 = (13 : Int32) then ((hp_vck q17.2 a0 8 (m_M_sum G a0 a2 a3 (1 : Int32) q17.2)).bind fun q21 => m_M_two_220 G q21.1 q21.2) else (if a1 = (14 : Int32) then ((hp_vck q17.2 a0 8 (m_M_sum G a0 a2 a3 (-1 : Int32) q17.2)).bind fun q20 => m_M_two_220 G q20.1 q20.2) else (if a1 = (15 : Int32) then ((hp_vck q17.2 a0 8 (m_M_product G a0 a2 a3 q17.2)).bind fun q19 => m_M_two_220 G q19.1 q19.2) else ((hp_vck q17.2 a0 8 (m_M_quotient G a0 a2 a3 q17.2)).bind fun q18 => m_M_two_220 G q18.1 q18.2)))))) else ((hp_vck h a0 8 (m_M_around G a0 a1 a2 a3 h)).bind fun q22 => some (q22.1, q22.2)))))))))
set_option maxRecDepth 100000 in
set_option maxHeartbeats 4000000 in
theorem j_M_two_0 {Z : hp_Z} (a0 : Nat) (a1 : Int32) (a2 : Int32) (a3 : Int32) (h : hp_H) : hp_J Y_M_two Z hp_rI h 0 [(0, .ref a0), (1, .int a1), (2, .int a2), (3, .int a3)] [] (m_M_two (hp_G Z)  a0 a1 a2 a3 h) := by
  unfold m_M_two
  refine hp_iload_n (x0 := 1) d_M_two_0 rfl rfl ?_
  refine hp_ite (fun c0 => ?_) (fun c0 => ?_)
  · refine hp_tabI (tgt := 44) (kv := 6) d_M_two_1 c0 (by decide) (by decide) rfl (by decide) ?_
    refine hp_aload_n (x0 := 0) d_M_two_44 rfl rfl ?_
    refine hp_aload_n (x0 := 0) d_M_two_45 rfl rfl ?_
    refine hp_iload_n (x0 := 2) d_M_two_46 rfl rfl ?_
    refine hp_iload_n (x0 := 3) d_M_two_47 rfl rfl ?_
    refine hp_callI (hp_crV (ci := 8) (t_M_equal _ _ _ _ _) cw_M_259 rfl ⟨w_1127, ws_60⟩ (by decide) rfl rfl (Nat.le_of_ble_eq_true rfl) d_M_two_48) fun q1 => ?_
    refine hp_callI (hp_crV (ci := 8) (t_M_given _ _ _ _) cw_M_247 rfl ⟨w_1119, ws_58⟩ (by decide) rfl rfl (Nat.le_of_ble_eq_true rfl) d_M_two_51) fun q2 => ?_
    exact hp_iret d_M_two_54 rfl
  · skip
    refine hp_ite (fun c1 => ?_) (fun c1 => ?_)
    · refine hp_tabI (tgt := 55) (kv := 7) d_M_two_1 c1 (by decide) (by decide) rfl (by decide) ?_
      refine hp_aload_n (x0 := 0) d_M_two_55 rfl rfl ?_
      refine hp_aload_n (x0 := 0) d_M_two_56 rfl rfl ?_
      refine hp_iload_n (x0 := 2) d_M_two_57 rfl rfl ?_
      refine hp_iload_n (x0 := 3) d_M_two_58 rfl rfl ?_
      refine hp_callI (hp_crV (ci := 8) (t_M_equal _ _ _ _ _) cw_M_259 rfl ⟨w_1127, ws_60⟩ (by decide) rfl rfl (Nat.le_of_ble_eq_true rfl) d_M_two_59) fun q3 => ?_
      refine hp_callI (hp_crS (t_M_not _ _ _) cw_M_262 w_1151 (by decide) rfl rfl (Nat.le_of_ble_eq_true rfl) d_M_two_62) fun q4 => ?_
      refine hp_callI (hp_crV (ci := 8) (t_M_given _ _ _ _) cw_M_247 rfl ⟨w_1119, ws_58⟩ (by decide) rfl rfl (Nat.le_of_ble_eq_true rfl) d_M_two_65) fun q5 => ?_
      exact hp_iret d_M_two_68 rfl
    · skip
      refine hp_ite (fun c2 => ?_) (fun c2 => ?_)
      · refine hp_tabI (tgt := 69) (kv := 8) d_M_two_1 c2 (by decide) (by decide) rfl (by decide) ?_
        refine hp_aload_n (x0 := 0) d_M_two_69 rfl rfl ?_
        refine hp_aload_n (x0 := 0) d_M_two_70 rfl rfl ?_
        refine hp_iload_n (x0 := 2) d_M_two_71 rfl rfl ?_
        refine hp_iload_n (x0 := 3) d_M_two_72 rfl rfl ?_
        refine hp_callI (hp_crV (ci := 8) (t_M_less _ _ _ _ _) cw_M_265 rfl ⟨w_1155, ws_66⟩ (by decide) rfl rfl (Nat.le_of_ble_eq_true rfl) d_M_two_73) fun q6 => ?_
        refine hp_callI (hp_crV (ci := 8) (t_M_given _ _ _ _) cw_M_247 rfl ⟨w_1119, ws_58⟩ (by decide) rfl rfl (Nat.le_of_ble_eq_true rfl) d_M_two_76) fun q7 => ?_
        exact hp_iret d_M_two_79 rfl
      · skip
        refine hp_ite (fun c3 => ?_) (fun c3 => ?_)
        · refine hp_tabI (tgt := 80) (kv := 9) d_M_two_1 c3 (by decide) (by decide) rfl (by decide) ?_
          refine hp_aload_n (x0 := 0) d_M_two_80 rfl rfl ?_
          refine hp_aload_n (x0 := 0) d_M_two_81 rfl rfl ?_
          refine hp_iload_n (x0 := 3) d_M_two_82 rfl rfl ?_
          refine hp_iload_n (x0 := 2) d_M_two_83 rfl rfl ?_
          refine hp_callI (hp_crV (ci := 8) (t_M_less _ _ _ _ _) cw_M_265 rfl ⟨w_1155, ws_66⟩ (by decide) rfl rfl (Nat.le_of_ble_eq_true rfl) d_M_two_84) fun q8 => ?_
          refine hp_callI (hp_crS (t_M_not _ _ _) cw_M_262 w_1151 (by decide) rfl rfl (Nat.le_of_ble_eq_true rfl) d_M_two_87) fun q9 => ?_
          refine hp_callI (hp_crV (ci := 8) (t_M_given _ _ _ _) cw_M_247 rfl ⟨w_1119, ws_58⟩ (by decide) rfl rfl (Nat.le_of_ble_eq_true rfl) d_M_two_90) fun q10 => ?_
          exact hp_iret d_M_two_93 rfl
        · skip
          refine hp_ite (fun c4 => ?_) (fun c4 => ?_)
          · refine hp_tabI (tgt := 94) (kv := 10) d_M_two_1 c4 (by decide) (by decide) rfl (by decide) ?_
            refine hp_aload_n (x0 := 0) d_M_two_94 rfl rfl ?_
            refine hp_aload_n (x0 := 0) d_M_two_95 rfl rfl ?_
            refine hp_iload_n (x0 := 3) d_M_two_96 rfl rfl ?_
            refine hp_iload_n (x0 := 2) d_M_two_97 rfl rfl ?_
            refine hp_callI (hp_crV (ci := 8) (t_M_less _ _ _ _ _) cw_M_265 rfl ⟨w_1155, ws_66⟩ (by decide) rfl rfl (Nat.le_of_ble_eq_true rfl) d_M_two_98) fun q11 => ?_
            refine hp_callI (hp_crV (ci := 8) (t_M_given _ _ _ _) cw_M_247 rfl ⟨w_1119, ws_58⟩ (by decide) rfl rfl (Nat.le_of_ble_eq_true rfl) d_M_two_101) fun q12 => ?_
            exact hp_iret d_M_two_104 rfl
          · skip
            refine hp_ite (fun c5 => ?_) (fun c5 => ?_)
            · refine hp_tabI (tgt := 105) (kv := 11) d_M_two_1 c5 (by decide) (by decide) rfl (by decide) ?_
              refine hp_aload_n (x0 := 0) d_M_two_105 rfl rfl ?_
              refine hp_aload_n (x0 := 0) d_M_two_106 rfl rfl ?_
              refine hp_iload_n (x0 := 2) d_M_two_107 rfl rfl ?_
              refine hp_iload_n (x0 := 3) d_M_two_108 rfl rfl ?_
              refine hp_callI (hp_crV (ci := 8) (t_M_less _ _ _ _ _) cw_M_265 rfl ⟨w_1155, ws_66⟩ (by decide) rfl rfl (Nat.le_of_ble_eq_true rfl) d_M_two_109) fun q13 => ?_
              refine hp_callI (hp_crS (t_M_not _ _ _) cw_M_262 w_1151 (by decide) rfl rfl (Nat.le_of_ble_eq_true rfl) d_M_two_112) fun q14 => ?_
              refine hp_callI (hp_crV (ci := 8) (t_M_given _ _ _ _) cw_M_247 rfl ⟨w_1119, ws_58⟩ (by decide) rfl rfl (Nat.le_of_ble_eq_true rfl) d_M_two_115) fun q15 => ?_
              exact hp_iret d_M_two_118 rfl
            · skip
              refine hp_ite (fun c6 => ?_) (fun c6 => ?_)
              · refine hp_tabI (tgt := 119) (kv := 12) d_M_two_1 c6 (by decide) (by decide) rfl (by decide) ?_
                refine hp_aload_n (x0 := 0) d_M_two_119 rfl rfl ?_
                refine hp_iload_n (x0 := 2) d_M_two_120 rfl rfl ?_
                refine hp_iload_n (x0 := 3) d_M_two_121 rfl rfl ?_
                refine hp_icmp_ne (tgt := 129) d_M_two_122 (by decide) ?_ ?_
                · refine hp_iconst (v := 1) d_M_two_125 (by decide) ?_
                  refine hp_goto (tgt := 130) d_M_two_126 (by decide) ?_
                  refine hp_sub [] rfl ?_
                  exact j_M_two_130  _ _ _
                · refine hp_iconst (v := 0) d_M_two_129 (by decide) ?_
                  refine hp_sub [] rfl ?_
                  exact j_M_two_130  _ _ _
              · skip
                refine hp_tabD (tgt := 134) d_M_two_1 (by have e0 := lv_neT c0 (a := 6) (by decide); have e1 := lv_neT c1 (a := 7) (by decide); have e2 := lv_neT c2 (a := 8) (by decide); have e3 := lv_neT c3 (a := 9) (by decide); have e4 := lv_neT c4 (a := 10) (by decide); have e5 := lv_neT c5 (a := 11) (by decide); have e6 := lv_neT c6 (a := 12) (by decide); omega) (by decide) ?_
                refine hp_iload_n (x0 := 1) d_M_two_134 rfl rfl ?_
                refine hp_bipush (v := 29) d_M_two_135 (by decide) ?_
                refine hp_icmp_le (tgt := 148) d_M_two_137 (by decide) ?_ ?_
                · refine hp_aload_n (x0 := 0) d_M_two_148 rfl rfl ?_
                  refine hp_iload_n (x0 := 2) d_M_two_149 rfl rfl ?_
                  refine hp_callI (hp_crV (ci := 8) (t_M_isNumber _ _ _ _) cw_M_168 rfl ⟨w_1052, ws_47⟩ (by decide) rfl rfl (Nat.le_of_ble_eq_true rfl) d_M_two_150) fun q16 => ?_
                  refine hp_if_eq (tgt := 164) d_M_two_153 (by decide) ?_ ?_
                  · refine hp_sub [] rfl ?_
                    exact j_M_two_164   _
                  · refine hp_aload_n (x0 := 0) d_M_two_156 rfl rfl ?_
                    refine hp_iload_n (x0 := 3) d_M_two_157 rfl rfl ?_
                    refine hp_callI (hp_crV (ci := 8) (t_M_isNumber _ _ _ _) cw_M_168 rfl ⟨w_1052, ws_47⟩ (by decide) rfl rfl (Nat.le_of_ble_eq_true rfl) d_M_two_158) fun q17 => ?_
                    refine hp_if_ne (tgt := 167) d_M_two_161 (by decide) ?_ ?_
                    · refine hp_sub [] rfl ?_
                      exact j_M_two_164   _
                    · refine hp_iload_n (x0 := 1) d_M_two_167 rfl rfl ?_
                      refine hp_bipush (v := 13) d_M_two_168 (by decide) ?_
                      refine hp_icmp_ne (tgt := 183) d_M_two_170 (by decide) ?_ ?_
                      · refine hp_aload_n (x0 := 0) d_M_two_173 rfl rfl ?_
                        refine hp_iload_n (x0 := 2) d_M_two_174 rfl rfl ?_
                        refine hp_iload_n (x0 := 3) d_M_two_175 rfl rfl ?_
                        refine hp_iconst (v := 1) d_M_two_176 (by decide) ?_
                        refine hp_callI (hp_crV (ci := 8) (t_M_sum _ _ _ _ _ _) cw_M_271 rfl ⟨w_1179, ws_72⟩ (by decide) rfl rfl (Nat.le_of_ble_eq_true rfl) d_M_two_177) fun q21 => ?_
                        refine hp_goto (tgt := 220) d_M_two_180 (by decide) ?_
                        refine hp_sub [] rfl ?_
                        exact j_M_two_220  _ _
                      · refine hp_iload_n (x0 := 1) d_M_two_183 rfl rfl ?_
                        refine hp_bipush (v := 14) d_M_two_184 (by decide) ?_
                        refine hp_icmp_ne (tgt := 199) d_M_two_186 (by decide) ?_ ?_
                        · refine hp_aload_n (x0 := 0) d_M_two_189 rfl rfl ?_
                          refine hp_iload_n (x0 := 2) d_M_two_190 rfl rfl ?_
                          refine hp_iload_n (x0 := 3) d_M_two_191 rfl rfl ?_
                          refine hp_iconst (v := -1) d_M_two_192 (by decide) ?_
                          refine hp_callI (hp_crV (ci := 8) (t_M_sum _ _ _ _ _ _) cw_M_271 rfl ⟨w_1179, ws_72⟩ (by decide) rfl rfl (Nat.le_of_ble_eq_true rfl) d_M_two_193) fun q20 => ?_
                          refine hp_goto (tgt := 220) d_M_two_196 (by decide) ?_
                          refine hp_sub [] rfl ?_
                          exact j_M_two_220  _ _
                        · refine hp_iload_n (x0 := 1) d_M_two_199 rfl rfl ?_
                          refine hp_bipush (v := 15) d_M_two_200 (by decide) ?_
                          refine hp_icmp_ne (tgt := 214) d_M_two_202 (by decide) ?_ ?_
                          · refine hp_aload_n (x0 := 0) d_M_two_205 rfl rfl ?_
                            refine hp_iload_n (x0 := 2) d_M_two_206 rfl rfl ?_
                            refine hp_iload_n (x0 := 3) d_M_two_207 rfl rfl ?_
                            refine hp_callI (hp_crV (ci := 8) (t_M_product _ _ _ _ _) cw_M_274 rfl ⟨w_1190, ws_74⟩ (by decide) rfl rfl (Nat.le_of_ble_eq_true rfl) d_M_two_208) fun q19 => ?_
                            refine hp_goto (tgt := 220) d_M_two_211 (by decide) ?_
                            refine hp_sub [] rfl ?_
                            exact j_M_two_220  _ _
                          · refine hp_aload_n (x0 := 0) d_M_two_214 rfl rfl ?_
                            refine hp_iload_n (x0 := 2) d_M_two_215 rfl rfl ?_
                            refine hp_iload_n (x0 := 3) d_M_two_216 rfl rfl ?_
                            refine hp_callI (hp_crV (ci := 8) (t_M_quotient _ _ _ _ _) cw_M_277 rfl ⟨w_1200, ws_75⟩ (by decide) rfl rfl (Nat.le_of_ble_eq_true rfl) d_M_two_217) fun q18 => ?_
                            refine hp_sub [] rfl ?_
                            exact j_M_two_220  _ _
                · refine hp_aload_n (x0 := 0) d_M_two_140 rfl rfl ?_
                  refine hp_iload_n (x0 := 1) d_M_two_141 rfl rfl ?_
                  refine hp_iload_n (x0 := 2) d_M_two_142 rfl rfl ?_
                  refine hp_iload_n (x0 := 3) d_M_two_143 rfl rfl ?_
                  refine hp_callI (hp_crV (ci := 8) (t_M_around _ _ _ _ _ _) cw_M_268 rfl ⟨w_1159, ws_67⟩ (by decide) rfl rfl (Nat.le_of_ble_eq_true rfl) d_M_two_144) fun q22 => ?_
                  exact hp_iret d_M_two_147 rfl
theorem t_M_two (l : Launch) (E : hp_E) (a0 : Nat) (a1 : Int32) (a2 : Int32) (a3 : Int32) : hp_M l E y_M_two Y_M_two hp_rI [.ref a0, .int a1, .int a2, .int a3] (m_M_two E.2.2.1 a0 a1 a2 a3) := hp_M.of (by decide +kernel) ⟨rfl, rfl⟩ (Nat.le_of_ble_eq_true rfl) (fun Z h hE => by subst hE; exact j_M_two_0 _ _ _ _ h)
-- M_isRight
theorem d_M_isRight_0 : decode prog_9_method_62_code 0 = .ok (.iconst 0, 1) := by decide +kernel
theorem d_M_isRight_1 : decode prog_9_method_62_code 1 = .ok (.istore_n 1, 1) := by decide +kernel
theorem d_M_isRight_2 : decode prog_9_method_62_code 2 = .ok (.iconst 0, 1) := by decide +kernel
theorem d_M_isRight_3 : decode prog_9_method_62_code 3 = .ok (.istore_n 2, 1) := by decide +kernel
theorem d_M_isRight_4 : decode prog_9_method_62_code 4 = .ok (.iload_n 2, 1) := by decide +kernel
theorem d_M_isRight_5 : decode prog_9_method_62_code 5 = .ok (.aload_n 0, 1) := by decide +kernel
theorem d_M_isRight_6 : decode prog_9_method_62_code 6 = .ok (.getfield 238, 3) := by decide +kernel
theorem d_M_isRight_9 : decode prog_9_method_62_code 9 = .ok (.if_icmp .ge 30, 3) := by decide +kernel
theorem d_M_isRight_12 : decode prog_9_method_62_code 12 = .ok (.iload_n 1, 1) := by decide +kernel
theorem d_M_isRight_13 : decode prog_9_method_62_code 13 = .ok (.aload_n 0, 1) := by decide +kernel
theorem d_M_isRight_14 : decode prog_9_method_62_code 14 = .ok (.iload_n 2, 1) := by decide +kernel
theorem d_M_isRight_15 : decode prog_9_method_62_code 15 = .ok (.invokevirtual 241, 3) := by decide +kernel
theorem d_M_isRight_18 : decode prog_9_method_62_code 18 = .ok (.if_icmp .ge 5, 3) := by decide +kernel
theorem d_M_isRight_21 : decode prog_9_method_62_code 21 = .ok (.iconst 0, 1) := by decide +kernel
theorem d_M_isRight_22 : decode prog_9_method_62_code 22 = .ok (.ireturn, 1) := by decide +kernel
theorem d_M_isRight_23 : decode prog_9_method_62_code 23 = .ok (.iload_n 1, 1) := by decide +kernel
theorem d_M_isRight_24 : decode prog_9_method_62_code 24 = .ok (.iconst 1, 1) := by decide +kernel
theorem d_M_isRight_25 : decode prog_9_method_62_code 25 = .ok (.aload_n 0, 1) := by decide +kernel
theorem d_M_isRight_26 : decode prog_9_method_62_code 26 = .ok (.iload_n 2, 1) := by decide +kernel
theorem d_M_isRight_27 : decode prog_9_method_62_code 27 = .ok (.invokevirtual 241, 3) := by decide +kernel
theorem d_M_isRight_30 : decode prog_9_method_62_code 30 = .ok (.isub, 1) := by decide +kernel
theorem d_M_isRight_31 : decode prog_9_method_62_code 31 = .ok (.iadd, 1) := by decide +kernel
theorem d_M_isRight_32 : decode prog_9_method_62_code 32 = .ok (.istore_n 1, 1) := by decide +kernel
theorem d_M_isRight_33 : decode prog_9_method_62_code 33 = .ok (.iinc 2 1, 3) := by decide +kernel
theorem d_M_isRight_36 : decode prog_9_method_62_code 36 = .ok (.goto (-32), 3) := by decide +kernel
theorem d_M_isRight_39 : decode prog_9_method_62_code 39 = .ok (.iload_n 1, 1) := by decide +kernel
theorem d_M_isRight_40 : decode prog_9_method_62_code 40 = .ok (.iconst 1, 1) := by decide +kernel
theorem d_M_isRight_41 : decode prog_9_method_62_code 41 = .ok (.if_icmp .ne 7, 3) := by decide +kernel
theorem d_M_isRight_44 : decode prog_9_method_62_code 44 = .ok (.iconst 1, 1) := by decide +kernel
theorem d_M_isRight_45 : decode prog_9_method_62_code 45 = .ok (.goto 4, 3) := by decide +kernel
theorem d_M_isRight_48 : decode prog_9_method_62_code 48 = .ok (.iconst 0, 1) := by decide +kernel
theorem d_M_isRight_49 : decode prog_9_method_62_code 49 = .ok (.ireturn, 1) := by decide +kernel
def m_M_isRight_49 (G : Nat → Nat) (s0 : Int32) (h : hp_H) : Option (Int32 × hp_H) := hp_z s0 h
set_option maxRecDepth 100000 in
set_option maxHeartbeats 4000000 in
theorem j_M_isRight_49 {Z : hp_Z} (s0 : Int32) (h : hp_H) : hp_J Y_M_isRight Z hp_rI h 49 [] [.int s0] (m_M_isRight_49 (hp_G Z)  s0 h) := by
  unfold m_M_isRight_49
  exact hp_zret d_M_isRight_49 rfl
def m_M_isRight_4 (G : Nat → Nat) : Nat → Nat → Int32 → Int32 → hp_H → Option (Int32 × hp_H)
  | 0, _, _, _, _ => none
  | n + 1, a0, a1, a2, h => (hp_gI h a0 8 22).bind fun x1 => if x1 ≤ a2 then (if a1 = (1 : Int32) then (m_M_isRight_49 G (1 : Int32) h) else (m_M_isRight_49 G (0 : Int32) h)) else ((hp_vck h a0 8 (m_M_takes G a0 a2 h)).bind fun q2 => if q2.1 ≤ a1 then ((hp_vck q2.2 a0 8 (m_M_takes G a0 a2 q2.2)).bind fun q3 => hp_nm (a1 + ((1 : Int32) - q3.1)) fun x4 => hp_nm (a2 + 1) fun x5 => (m_M_isRight_4 G  n) a0 x4 x5 q3.2) else (hp_z (0 : Int32) q2.2))
set_option maxRecDepth 100000 in
set_option maxHeartbeats 4000000 in
theorem j_M_isRight_4 {Z : hp_Z} : ∀ (n : Nat) (a0 : Nat) (a1 : Int32) (a2 : Int32) (h : hp_H), hp_J Y_M_isRight Z hp_rI h 4 [(0, .ref a0), (1, .int a1), (2, .int a2)] [] (m_M_isRight_4 (hp_G Z)  n a0 a1 a2 h) := by
  intro n
  induction n with
  | zero => intro a0 a1 a2 h; exact hp_fail
  | succ n ih =>
    intro a0 a1 a2 h
    rw [m_M_isRight_4]
    refine hp_iload_n (x0 := 2) d_M_isRight_4 rfl rfl ?_
    refine hp_aload_n (x0 := 0) d_M_isRight_5 rfl rfl ?_
    refine hp_getI fl_M_238 d_M_isRight_6 fun x1 => ?_
    refine hp_icmp_ge (tgt := 39) d_M_isRight_9 (by decide) ?_ ?_
    · refine hp_iload_n (x0 := 1) d_M_isRight_39 rfl rfl ?_
      refine hp_iconst (v := 1) d_M_isRight_40 (by decide) ?_
      refine hp_icmp_ne (tgt := 48) d_M_isRight_41 (by decide) ?_ ?_
      · refine hp_iconst (v := 1) d_M_isRight_44 (by decide) ?_
        refine hp_goto (tgt := 49) d_M_isRight_45 (by decide) ?_
        refine hp_sub [] rfl ?_
        exact j_M_isRight_49  _ _
      · refine hp_iconst (v := 0) d_M_isRight_48 (by decide) ?_
        refine hp_sub [] rfl ?_
        exact j_M_isRight_49  _ _
    · refine hp_iload_n (x0 := 1) d_M_isRight_12 rfl rfl ?_
      refine hp_aload_n (x0 := 0) d_M_isRight_13 rfl rfl ?_
      refine hp_iload_n (x0 := 2) d_M_isRight_14 rfl rfl ?_
      refine hp_callI (hp_crV (ci := 8) (t_M_takes _ _ _ _) cw_M_241 rfl ⟨w_1091, ws_52⟩ (by decide) rfl rfl (Nat.le_of_ble_eq_true rfl) d_M_isRight_15) fun q2 => ?_
      refine hp_icmp_ge (tgt := 23) d_M_isRight_18 (by decide) ?_ ?_
      · refine hp_iload_n (x0 := 1) d_M_isRight_23 rfl rfl ?_
        refine hp_iconst (v := 1) d_M_isRight_24 (by decide) ?_
        refine hp_aload_n (x0 := 0) d_M_isRight_25 rfl rfl ?_
        refine hp_iload_n (x0 := 2) d_M_isRight_26 rfl rfl ?_
        refine hp_callI (hp_crV (ci := 8) (t_M_takes _ _ _ _) cw_M_241 rfl ⟨w_1091, ws_52⟩ (by decide) rfl rfl (Nat.le_of_ble_eq_true rfl) d_M_isRight_27) fun q3 => ?_
        refine hp_isub d_M_isRight_30 ?_
        refine hp_iadd d_M_isRight_31 ?_
        refine hp_istore_n (fun x4 => [(1, .int x4), (0, .ref a0), (2, .int a2)]) d_M_isRight_32 rfl (by decide) (fun _ => rfl) fun x4 => ?_
        refine hp_iinc (x0 := 2) (d := 1) (fun x5 => [(2, .int x5), (1, .int x4), (0, .ref a0)]) d_M_isRight_33 rfl (by decide) (by decide) (fun _ => rfl) fun x5 => ?_
        refine hp_goto (tgt := 4) d_M_isRight_36 (by decide) ?_
        refine hp_sub [2, 1, 0] rfl ?_
        exact ih _ _ _ _
      · refine hp_iconst (v := 0) d_M_isRight_21 (by decide) ?_
        exact hp_zret d_M_isRight_22 rfl
def m_M_isRight (G : Nat → Nat) (a0 : Nat) (h : hp_H) : Option (Int32 × hp_H) := hp_nm (0 : Int32) fun x1 => hp_nm (0 : Int32) fun x2 => m_M_isRight_4 G hp_fu a0 x1 x2 h
set_option maxRecDepth 100000 in
set_option maxHeartbeats 4000000 in
theorem j_M_isRight_0 {Z : hp_Z} (a0 : Nat) (h : hp_H) : hp_J Y_M_isRight Z hp_rI h 0 [(0, .ref a0)] [] (m_M_isRight (hp_G Z)  a0 h) := by
  unfold m_M_isRight
  refine hp_iconst (v := 0) d_M_isRight_0 (by decide) ?_
  refine hp_istore_n (fun x1 => [(1, .int x1), (0, .ref a0)]) d_M_isRight_1 rfl (by decide) (fun _ => rfl) fun x1 => ?_
  refine hp_iconst (v := 0) d_M_isRight_2 (by decide) ?_
  refine hp_istore_n (fun x2 => [(2, .int x2), (1, .int x1), (0, .ref a0)]) d_M_isRight_3 rfl (by decide) (fun _ => rfl) fun x2 => ?_
  refine hp_sub [2, 1, 0] rfl ?_
  exact j_M_isRight_4  hp_fu _ _ _ _
theorem t_M_isRight (l : Launch) (E : hp_E) (a0 : Nat) : hp_M l E y_M_isRight Y_M_isRight hp_rI [.ref a0] (m_M_isRight E.2.2.1 a0) := hp_M.of (by decide +kernel) ⟨rfl, rfl⟩ (Nat.le_of_ble_eq_true rfl) (fun Z h hE => by subst hE; exact j_M_isRight_0 _ h)
-- M_gather
theorem d_M_gather_0 : decode prog_9_method_73_code 0 = .ok (.iload_n 1, 1) := by decide +kernel
theorem d_M_gather_1 : decode prog_9_method_73_code 1 = .ok (.ifCond .lt 33, 3) := by decide +kernel
theorem d_M_gather_4 : decode prog_9_method_73_code 4 = .ok (.iload_n 1, 1) := by decide +kernel
theorem d_M_gather_5 : decode prog_9_method_73_code 5 = .ok (.bipush 6, 2) := by decide +kernel
theorem d_M_gather_7 : decode prog_9_method_73_code 7 = .ok (.if_icmp .gt 27, 3) := by decide +kernel
theorem d_M_gather_10 : decode prog_9_method_73_code 10 = .ok (.iload_n 1, 1) := by decide +kernel
theorem d_M_gather_11 : decode prog_9_method_73_code 11 = .ok (.bipush 6, 2) := by decide +kernel
theorem d_M_gather_13 : decode prog_9_method_73_code 13 = .ok (.if_icmp .ne 23, 3) := by decide +kernel
theorem d_M_gather_16 : decode prog_9_method_73_code 16 = .ok (.aload_n 0, 1) := by decide +kernel
theorem d_M_gather_17 : decode prog_9_method_73_code 17 = .ok (.iload_n 3, 1) := by decide +kernel
theorem d_M_gather_18 : decode prog_9_method_73_code 18 = .ok (.invokevirtual 161, 3) := by decide +kernel
theorem d_M_gather_21 : decode prog_9_method_73_code 21 = .ok (.ifCond .eq 13, 3) := by decide +kernel
theorem d_M_gather_24 : decode prog_9_method_73_code 24 = .ok (.aload_n 0, 1) := by decide +kernel
theorem d_M_gather_25 : decode prog_9_method_73_code 25 = .ok (.getfield 7, 3) := by decide +kernel
theorem d_M_gather_28 : decode prog_9_method_73_code 28 = .ok (.iload_n 3, 1) := by decide +kernel
theorem d_M_gather_29 : decode prog_9_method_73_code 29 = .ok (.iaload, 1) := by decide +kernel
theorem d_M_gather_30 : decode prog_9_method_73_code 30 = .ok (.iconst 5, 1) := by decide +kernel
theorem d_M_gather_31 : decode prog_9_method_73_code 31 = .ok (.if_icmp .eq 5, 3) := by decide +kernel
theorem d_M_gather_34 : decode prog_9_method_73_code 34 = .ok (.iconst (-1), 1) := by decide +kernel
theorem d_M_gather_35 : decode prog_9_method_73_code 35 = .ok (.ireturn, 1) := by decide +kernel
theorem d_M_gather_36 : decode prog_9_method_73_code 36 = .ok (.aload_n 0, 1) := by decide +kernel
theorem d_M_gather_37 : decode prog_9_method_73_code 37 = .ok (.iload_n 1, 1) := by decide +kernel
theorem d_M_gather_38 : decode prog_9_method_73_code 38 = .ok (.putfield 318, 3) := by decide +kernel
theorem d_M_gather_41 : decode prog_9_method_73_code 41 = .ok (.aload_n 0, 1) := by decide +kernel
theorem d_M_gather_42 : decode prog_9_method_73_code 42 = .ok (.iload_n 2, 1) := by decide +kernel
theorem d_M_gather_43 : decode prog_9_method_73_code 43 = .ok (.putfield 321, 3) := by decide +kernel
theorem d_M_gather_46 : decode prog_9_method_73_code 46 = .ok (.aload_n 0, 1) := by decide +kernel
theorem d_M_gather_47 : decode prog_9_method_73_code 47 = .ok (.iload_n 3, 1) := by decide +kernel
theorem d_M_gather_48 : decode prog_9_method_73_code 48 = .ok (.putfield 325, 3) := by decide +kernel
theorem d_M_gather_51 : decode prog_9_method_73_code 51 = .ok (.aload_n 0, 1) := by decide +kernel
theorem d_M_gather_52 : decode prog_9_method_73_code 52 = .ok (.iconst 0, 1) := by decide +kernel
theorem d_M_gather_53 : decode prog_9_method_73_code 53 = .ok (.putfield 328, 3) := by decide +kernel
theorem d_M_gather_56 : decode prog_9_method_73_code 56 = .ok (.iconst 0, 1) := by decide +kernel
theorem d_M_gather_57 : decode prog_9_method_73_code 57 = .ok (.ireturn, 1) := by decide +kernel
def m_M_gather_34 (G : Nat → Nat) (h : hp_H) : Option (Int32 × hp_H) := some ((-1 : Int32), h)
set_option maxRecDepth 100000 in
set_option maxHeartbeats 4000000 in
theorem j_M_gather_34 {Z : hp_Z} (h : hp_H) : hp_J Y_M_gather Z hp_rI h 34 [] [] (m_M_gather_34 (hp_G Z)   h) := by
  unfold m_M_gather_34
  refine hp_iconst (v := -1) d_M_gather_34 (by decide) ?_
  exact hp_iret d_M_gather_35 rfl
def m_M_gather_36 (G : Nat → Nat) (a0 : Nat) (a1 : Int32) (a2 : Int32) (a3 : Int32) (h : hp_H) : Option (Int32 × hp_H) := (hp_p h a0 8 27 (.int a1)).bind fun h1 => (hp_pZ h1 a0 8 28 a2).bind fun h2 => (hp_p h2 a0 8 29 (.int a3)).bind fun h3 => (hp_p h3 a0 8 26 (.int (0 : Int32))).bind fun h4 => some ((0 : Int32), h4)
set_option maxRecDepth 100000 in
set_option maxHeartbeats 4000000 in
theorem j_M_gather_36 {Z : hp_Z} (a0 : Nat) (a1 : Int32) (a2 : Int32) (a3 : Int32) (h : hp_H) : hp_J Y_M_gather Z hp_rI h 36 [(0, .ref a0), (1, .int a1), (2, .int a2), (3, .int a3)] [] (m_M_gather_36 (hp_G Z)  a0 a1 a2 a3 h) := by
  unfold m_M_gather_36
  refine hp_aload_n (x0 := 0) d_M_gather_36 rfl rfl ?_
  refine hp_iload_n (x0 := 1) d_M_gather_37 rfl rfl ?_
  refine hp_put fl_M_318 (fun q => by cases q) rfl rfl d_M_gather_38 fun h1 => ?_
  refine hp_aload_n (x0 := 0) d_M_gather_41 rfl rfl ?_
  refine hp_iload_n (x0 := 2) d_M_gather_42 rfl rfl ?_
  refine hp_putZ fl_M_321 (fun q => by cases q) d_M_gather_43 fun h2 => ?_
  refine hp_aload_n (x0 := 0) d_M_gather_46 rfl rfl ?_
  refine hp_iload_n (x0 := 3) d_M_gather_47 rfl rfl ?_
  refine hp_put fl_M_325 (fun q => by cases q) rfl rfl d_M_gather_48 fun h3 => ?_
  refine hp_aload_n (x0 := 0) d_M_gather_51 rfl rfl ?_
  refine hp_iconst (v := 0) d_M_gather_52 (by decide) ?_
  refine hp_put fl_M_328 (fun q => by cases q) rfl rfl d_M_gather_53 fun h4 => ?_
  refine hp_iconst (v := 0) d_M_gather_56 (by decide) ?_
  exact hp_iret d_M_gather_57 rfl
def m_M_gather (G : Nat → Nat) (a0 : Nat) (a1 : Int32) (a2 : Int32) (a3 : Int32) (h : hp_H) : Option (Int32 × hp_H) := if a1 < 0 then (m_M_gather_34 G h) else (if (6 : Int32) < a1 then (m_M_gather_34 G h) else (if a1 = (6 : Int32) then ((hp_vck h a0 8 (m_M_isValue G a0 a3 h)).bind fun q1 => if q1.1 = 0 then (m_M_gather_34 G q1.2) else ((hp_gR q1.2 a0 8 1).bind fun x2 => (hp_aI q1.2 .int x2 a3).bind fun x3 => if x3 = (5 : Int32) then (m_M_gather_36 G a0 a1 a2 a3 q1.2) else (m_M_gather_34 G q1.2))) else (m_M_gather_36 G a0 a1 a2 a3 h)))
set_option maxRecDepth 100000 in
set_option maxHeartbeats 4000000 in
theorem j_M_gather_0 {Z : hp_Z} (a0 : Nat) (a1 : Int32) (a2 : Int32) (a3 : Int32) (h : hp_H) : hp_J Y_M_gather Z hp_rI h 0 [(0, .ref a0), (1, .int a1), (2, .int a2), (3, .int a3)] [] (m_M_gather (hp_G Z)  a0 a1 a2 a3 h) := by
  unfold m_M_gather
  refine hp_iload_n (x0 := 1) d_M_gather_0 rfl rfl ?_
  refine hp_if_lt (tgt := 34) d_M_gather_1 (by decide) ?_ ?_
  · refine hp_sub [] rfl ?_
    exact j_M_gather_34   _
  · refine hp_iload_n (x0 := 1) d_M_gather_4 rfl rfl ?_
    refine hp_bipush (v := 6) d_M_gather_5 (by decide) ?_
    refine hp_icmp_gt (tgt := 34) d_M_gather_7 (by decide) ?_ ?_
    · refine hp_sub [] rfl ?_
      exact j_M_gather_34   _
    · refine hp_iload_n (x0 := 1) d_M_gather_10 rfl rfl ?_
      refine hp_bipush (v := 6) d_M_gather_11 (by decide) ?_
      refine hp_icmp_ne (tgt := 36) d_M_gather_13 (by decide) ?_ ?_
      · refine hp_aload_n (x0 := 0) d_M_gather_16 rfl rfl ?_
        refine hp_iload_n (x0 := 3) d_M_gather_17 rfl rfl ?_
        refine hp_callI (hp_crV (ci := 8) (t_M_isValue _ _ _ _) cw_M_161 rfl ⟨w_1024, ws_44⟩ (by decide) rfl rfl (Nat.le_of_ble_eq_true rfl) d_M_gather_18) fun q1 => ?_
        refine hp_if_eq (tgt := 34) d_M_gather_21 (by decide) ?_ ?_
        · refine hp_sub [] rfl ?_
          exact j_M_gather_34   _
        · refine hp_aload_n (x0 := 0) d_M_gather_24 rfl rfl ?_
          refine hp_getR fl_M_7 d_M_gather_25 fun x2 => ?_
          refine hp_iload_n (x0 := 3) d_M_gather_28 rfl rfl ?_
          refine hp_iald d_M_gather_29 fun x3 => ?_
          refine hp_iconst (v := 5) d_M_gather_30 (by decide) ?_
          refine hp_icmp_eq (tgt := 36) d_M_gather_31 (by decide) ?_ ?_
          · exact j_M_gather_36  _ _ _ _ _
          · refine hp_sub [] rfl ?_
            exact j_M_gather_34   _
      · exact j_M_gather_36  _ _ _ _ _
theorem t_M_gather (l : Launch) (E : hp_E) (a0 : Nat) (a1 : Int32) (a2 : Int32) (a3 : Int32) : hp_M l E y_M_gather Y_M_gather hp_rI [.ref a0, .int a1, .int a2, .int a3] (m_M_gather E.2.2.1 a0 a1 a2 a3) := hp_M.of (by decide +kernel) ⟨rfl, rfl⟩ (Nat.le_of_ble_eq_true rfl) (fun Z h hE => by subst hE; exact j_M_gather_0 _ _ _ _ h)
-- M_add
theorem d_M_add_0 : decode prog_9_method_74_code 0 = .ok (.iload_n 1, 1) := by decide +kernel
theorem d_M_add_1 : decode prog_9_method_74_code 1 = .ok (.ifCond .eq 13, 3) := by decide +kernel
theorem d_M_add_4 : decode prog_9_method_74_code 4 = .ok (.aload_n 0, 1) := by decide +kernel
theorem d_M_add_5 : decode prog_9_method_74_code 5 = .ok (.iload_n 1, 1) := by decide +kernel
theorem d_M_add_6 : decode prog_9_method_74_code 6 = .ok (.invokevirtual 161, 3) := by decide +kernel
theorem d_M_add_9 : decode prog_9_method_74_code 9 = .ok (.ifCond .ne 5, 3) := by decide +kernel
theorem d_M_add_12 : decode prog_9_method_74_code 12 = .ok (.iconst (-1), 1) := by decide +kernel
theorem d_M_add_13 : decode prog_9_method_74_code 13 = .ok (.ireturn, 1) := by decide +kernel
theorem d_M_add_14 : decode prog_9_method_74_code 14 = .ok (.iconst 0, 1) := by decide +kernel
theorem d_M_add_15 : decode prog_9_method_74_code 15 = .ok (.istore_n 2, 1) := by decide +kernel
theorem d_M_add_16 : decode prog_9_method_74_code 16 = .ok (.iload_n 2, 1) := by decide +kernel
theorem d_M_add_17 : decode prog_9_method_74_code 17 = .ok (.aload_n 0, 1) := by decide +kernel
theorem d_M_add_18 : decode prog_9_method_74_code 18 = .ok (.getfield 328, 3) := by decide +kernel
theorem d_M_add_21 : decode prog_9_method_74_code 21 = .ok (.if_icmp .ge 31, 3) := by decide +kernel
theorem d_M_add_24 : decode prog_9_method_74_code 24 = .ok (.aload_n 0, 1) := by decide +kernel
theorem d_M_add_25 : decode prog_9_method_74_code 25 = .ok (.getfield 321, 3) := by decide +kernel
theorem d_M_add_28 : decode prog_9_method_74_code 28 = .ok (.ifCond .eq 24, 3) := by decide +kernel
theorem d_M_add_31 : decode prog_9_method_74_code 31 = .ok (.aload_n 0, 1) := by decide +kernel
theorem d_M_add_32 : decode prog_9_method_74_code 32 = .ok (.getfield 63, 3) := by decide +kernel
theorem d_M_add_35 : decode prog_9_method_74_code 35 = .ok (.iload_n 2, 1) := by decide +kernel
theorem d_M_add_36 : decode prog_9_method_74_code 36 = .ok (.iaload, 1) := by decide +kernel
theorem d_M_add_37 : decode prog_9_method_74_code 37 = .ok (.iload_n 1, 1) := by decide +kernel
theorem d_M_add_38 : decode prog_9_method_74_code 38 = .ok (.if_icmp .ne 8, 3) := by decide +kernel
theorem d_M_add_41 : decode prog_9_method_74_code 41 = .ok (.aload_n 0, 1) := by decide +kernel
theorem d_M_add_42 : decode prog_9_method_74_code 42 = .ok (.getfield 328, 3) := by decide +kernel
theorem d_M_add_45 : decode prog_9_method_74_code 45 = .ok (.ireturn, 1) := by decide +kernel
theorem d_M_add_46 : decode prog_9_method_74_code 46 = .ok (.iinc 2 1, 3) := by decide +kernel
theorem d_M_add_49 : decode prog_9_method_74_code 49 = .ok (.goto (-33), 3) := by decide +kernel
theorem d_M_add_52 : decode prog_9_method_74_code 52 = .ok (.aload_n 0, 1) := by decide +kernel
theorem d_M_add_53 : decode prog_9_method_74_code 53 = .ok (.getfield 328, 3) := by decide +kernel
theorem d_M_add_56 : decode prog_9_method_74_code 56 = .ok (.sipush 500, 3) := by decide +kernel
theorem d_M_add_59 : decode prog_9_method_74_code 59 = .ok (.if_icmp .ne 6, 3) := by decide +kernel
theorem d_M_add_62 : decode prog_9_method_74_code 62 = .ok (.bipush (-3), 2) := by decide +kernel
theorem d_M_add_64 : decode prog_9_method_74_code 64 = .ok (.ireturn, 1) := by decide +kernel
theorem d_M_add_65 : decode prog_9_method_74_code 65 = .ok (.aload_n 0, 1) := by decide +kernel
theorem d_M_add_66 : decode prog_9_method_74_code 66 = .ok (.getfield 63, 3) := by decide +kernel
theorem d_M_add_69 : decode prog_9_method_74_code 69 = .ok (.aload_n 0, 1) := by decide +kernel
theorem d_M_add_70 : decode prog_9_method_74_code 70 = .ok (.getfield 328, 3) := by decide +kernel
theorem d_M_add_73 : decode prog_9_method_74_code 73 = .ok (.iload_n 1, 1) := by decide +kernel
theorem d_M_add_74 : decode prog_9_method_74_code 74 = .ok (.iastore, 1) := by decide +kernel
theorem d_M_add_75 : decode prog_9_method_74_code 75 = .ok (.aload_n 0, 1) := by decide +kernel
theorem d_M_add_76 : decode prog_9_method_74_code 76 = .ok (.dup, 1) := by decide +kernel
theorem d_M_add_77 : decode prog_9_method_74_code 77 = .ok (.getfield 328, 3) := by decide +kernel
theorem d_M_add_80 : decode prog_9_method_74_code 80 = .ok (.iconst 1, 1) := by decide +kernel
theorem d_M_add_81 : decode prog_9_method_74_code 81 = .ok (.iadd, 1) := by decide +kernel
theorem d_M_add_82 : decode prog_9_method_74_code 82 = .ok (.putfield 328, 3) := by decide +kernel
theorem d_M_add_85 : decode prog_9_method_74_code 85 = .ok (.aload_n 0, 1) := by decide +kernel
theorem d_M_add_86 : decode prog_9_method_74_code 86 = .ok (.getfield 328, 3) := by decide +kernel
theorem d_M_add_89 : decode prog_9_method_74_code 89 = .ok (.ireturn, 1) := by decide +kernel
def m_M_add_52 (G : Nat → Nat) (a0 : Nat) (a1 : Int32) (h : hp_H) : Option (Int32 × hp_H) := (hp_gI h a0 8 26).bind fun x1 => if x1 = (500 : Int32) then (some ((-3 : Int32), h)) else ((hp_gR h a0 8 25).bind fun x2 => (hp_gI h a0 8 26).bind fun x3 => (hp_sI h .int x2 x3 a1).bind fun h4 => (hp_gI h4 a0 8 26).bind fun x5 => (hp_p h4 a0 8 26 (.int (x5 + (1 : Int32)))).bind fun h6 => (hp_gI h6 a0 8 26).bind fun x7 => some (x7, h6))
set_option maxRecDepth 100000 in
set_option maxHeartbeats 4000000 in
theorem j_M_add_52 {Z : hp_Z} (a0 : Nat) (a1 : Int32) (h : hp_H) : hp_J Y_M_add Z hp_rI h 52 [(0, .ref a0), (1, .int a1)] [] (m_M_add_52 (hp_G Z)  a0 a1 h) := by
  unfold m_M_add_52
  refine hp_aload_n (x0 := 0) d_M_add_52 rfl rfl ?_
  refine hp_getI fl_M_328 d_M_add_53 fun x1 => ?_
  refine hp_sipush (v := 500) d_M_add_56 (by decide) ?_
  refine hp_icmp_ne (tgt := 65) d_M_add_59 (by decide) ?_ ?_
  · refine hp_bipush (v := -3) d_M_add_62 (by decide) ?_
    exact hp_iret d_M_add_64 rfl
  · refine hp_aload_n (x0 := 0) d_M_add_65 rfl rfl ?_
    refine hp_getR fl_M_63 d_M_add_66 fun x2 => ?_
    refine hp_aload_n (x0 := 0) d_M_add_69 rfl rfl ?_
    refine hp_getI fl_M_328 d_M_add_70 fun x3 => ?_
    refine hp_iload_n (x0 := 1) d_M_add_73 rfl rfl ?_
    refine hp_iast d_M_add_74 fun h4 => ?_
    refine hp_aload_n (x0 := 0) d_M_add_75 rfl rfl ?_
    refine hp_dup d_M_add_76 rfl ?_
    refine hp_getI fl_M_328 d_M_add_77 fun x5 => ?_
    refine hp_iconst (v := 1) d_M_add_80 (by decide) ?_
    refine hp_iadd d_M_add_81 ?_
    refine hp_put fl_M_328 (fun q => by cases q) rfl rfl d_M_add_82 fun h6 => ?_
    refine hp_aload_n (x0 := 0) d_M_add_85 rfl rfl ?_
    refine hp_getI fl_M_328 d_M_add_86 fun x7 => ?_
    exact hp_iret d_M_add_89 rfl
def m_M_add_16 (G : Nat → Nat) : Nat → Nat → Int32 → Int32 → hp_H → Option (Int32 × hp_H)
  | 0, _, _, _, _ => none
  | n + 1, a0, a1, a2, h => (hp_gI h a0 8 26).bind fun x1 => if x1 ≤ a2 then (m_M_add_52 G a0 a1 h) else ((hp_gI h a0 8 28).bind fun x2 => if x2 = 0 then (m_M_add_52 G a0 a1 h) else ((hp_gR h a0 8 25).bind fun x3 => (hp_aI h .int x3 a2).bind fun x4 => if x4 = a1 then ((hp_gI h a0 8 26).bind fun x6 => some (x6, h)) else (hp_nm (a2 + 1) fun x5 => (m_M_add_16 G  n) a0 a1 x5 h)))
set_option maxRecDepth 100000 in
set_option maxHeartbeats 4000000 in
theorem j_M_add_16 {Z : hp_Z} : ∀ (n : Nat) (a0 : Nat) (a1 : Int32) (a2 : Int32) (h : hp_H), hp_J Y_M_add Z hp_rI h 16 [(0, .ref a0), (1, .int a1), (2, .int a2)] [] (m_M_add_16 (hp_G Z)  n a0 a1 a2 h) := by
  intro n
  induction n with
  | zero => intro a0 a1 a2 h; exact hp_fail
  | succ n ih =>
    intro a0 a1 a2 h
    rw [m_M_add_16]
    refine hp_iload_n (x0 := 2) d_M_add_16 rfl rfl ?_
    refine hp_aload_n (x0 := 0) d_M_add_17 rfl rfl ?_
    refine hp_getI fl_M_328 d_M_add_18 fun x1 => ?_
    refine hp_icmp_ge (tgt := 52) d_M_add_21 (by decide) ?_ ?_
    · refine hp_sub [0, 1] rfl ?_
      exact j_M_add_52  _ _ _
    · refine hp_aload_n (x0 := 0) d_M_add_24 rfl rfl ?_
      refine hp_getI fl_M_321 d_M_add_25 fun x2 => ?_
      refine hp_if_eq (tgt := 52) d_M_add_28 (by decide) ?_ ?_
      · refine hp_sub [0, 1] rfl ?_
        exact j_M_add_52  _ _ _
      · refine hp_aload_n (x0 := 0) d_M_add_31 rfl rfl ?_
        refine hp_getR fl_M_63 d_M_add_32 fun x3 => ?_
        refine hp_iload_n (x0 := 2) d_M_add_35 rfl rfl ?_
        refine hp_iald d_M_add_36 fun x4 => ?_
        refine hp_iload_n (x0 := 1) d_M_add_37 rfl rfl ?_
        refine hp_icmp_ne (tgt := 46) d_M_add_38 (by decide) ?_ ?_
        · refine hp_aload_n (x0 := 0) d_M_add_41 rfl rfl ?_
          refine hp_getI fl_M_328 d_M_add_42 fun x6 => ?_
          exact hp_iret d_M_add_45 rfl
        · refine hp_iinc (x0 := 2) (d := 1) (fun x5 => [(2, .int x5), (0, .ref a0), (1, .int a1)]) d_M_add_46 rfl (by decide) (by decide) (fun _ => rfl) fun x5 => ?_
          refine hp_goto (tgt := 16) d_M_add_49 (by decide) ?_
          refine hp_sub [1, 2, 0] rfl ?_
          exact ih _ _ _ _
def m_M_add_14 (G : Nat → Nat) (a0 : Nat) (a1 : Int32) (h : hp_H) : Option (Int32 × hp_H) := hp_nm (0 : Int32) fun x1 => m_M_add_16 G hp_fu a0 a1 x1 h
set_option maxRecDepth 100000 in
set_option maxHeartbeats 4000000 in
theorem j_M_add_14 {Z : hp_Z} (a0 : Nat) (a1 : Int32) (h : hp_H) : hp_J Y_M_add Z hp_rI h 14 [(0, .ref a0), (1, .int a1)] [] (m_M_add_14 (hp_G Z)  a0 a1 h) := by
  unfold m_M_add_14
  refine hp_iconst (v := 0) d_M_add_14 (by decide) ?_
  refine hp_istore_n (fun x1 => [(2, .int x1), (0, .ref a0), (1, .int a1)]) d_M_add_15 rfl (by decide) (fun _ => rfl) fun x1 => ?_
  refine hp_sub [1, 2, 0] rfl ?_
  exact j_M_add_16  hp_fu _ _ _ _
def m_M_add (G : Nat → Nat) (a0 : Nat) (a1 : Int32) (h : hp_H) : Option (Int32 × hp_H) := if a1 = 0 then (m_M_add_14 G a0 a1 h) else ((hp_vck h a0 8 (m_M_isValue G a0 a1 h)).bind fun q1 => if q1.1 = 0 then (some ((-1 : Int32), q1.2)) else (m_M_add_14 G a0 a1 q1.2))
set_option maxRecDepth 100000 in
set_option maxHeartbeats 4000000 in
theorem j_M_add_0 {Z : hp_Z} (a0 : Nat) (a1 : Int32) (h : hp_H) : hp_J Y_M_add Z hp_rI h 0 [(0, .ref a0), (1, .int a1)] [] (m_M_add (hp_G Z)  a0 a1 h) := by
  unfold m_M_add
  refine hp_iload_n (x0 := 1) d_M_add_0 rfl rfl ?_
  refine hp_if_eq (tgt := 14) d_M_add_1 (by decide) ?_ ?_
  · exact j_M_add_14  _ _ _
  · refine hp_aload_n (x0 := 0) d_M_add_4 rfl rfl ?_
    refine hp_iload_n (x0 := 1) d_M_add_5 rfl rfl ?_
    refine hp_callI (hp_crV (ci := 8) (t_M_isValue _ _ _ _) cw_M_161 rfl ⟨w_1024, ws_44⟩ (by decide) rfl rfl (Nat.le_of_ble_eq_true rfl) d_M_add_6) fun q1 => ?_
    refine hp_if_ne (tgt := 14) d_M_add_9 (by decide) ?_ ?_
    · refine hp_iconst (v := -1) d_M_add_12 (by decide) ?_
      exact hp_iret d_M_add_13 rfl
    · exact j_M_add_14  _ _ _
theorem t_M_add (l : Launch) (E : hp_E) (a0 : Nat) (a1 : Int32) : hp_M l E y_M_add Y_M_add hp_rI [.ref a0, .int a1] (m_M_add E.2.2.1 a0 a1) := hp_M.of (by decide +kernel) ⟨rfl, rfl⟩ (Nat.le_of_ble_eq_true rfl) (fun Z h hE => by subst hE; exact j_M_add_0 _ _ h)
