-- K_init
theorem d_K_init_0 : decode prog_4_method_1_code 0 = .ok (.aload_n 0, 1) := by decide +kernel
theorem d_K_init_1 : decode prog_4_method_1_code 1 = .ok (.invokespecial 3, 3) := by decide +kernel
theorem d_K_init_4 : decode prog_4_method_1_code 4 = .ok (.return_, 1) := by decide +kernel
def m_K_init (G : Nat → Nat) (a0 : Nat) (h : hp_H) : Option (Unit × hp_H) := some ((), h)
set_option maxRecDepth 100000 in
set_option maxHeartbeats 4000000 in
theorem j_K_init_0 {Z : hp_Z} (a0 : Nat) (h : hp_H) : hp_J Y_K_init Z hp_rV h 0 [(0, .ref a0)] [] (m_K_init (hp_G Z)  a0 h) := by
  unfold m_K_init
  refine hp_aload_n (x0 := 0) d_K_init_0 rfl rfl ?_
  refine hp_objInit ⟨w_166, w_29, w_30⟩ (by decide) (Nat.le_of_ble_eq_true rfl) d_K_init_1 ?_
  exact hp_vret d_K_init_4 rfl
theorem t_K_init (l : Launch) (E : hp_E) (a0 : Nat) : hp_M l E y_K_init Y_K_init hp_rV [.ref a0] (m_K_init E.2.2.1 a0) := hp_M.of (by decide +kernel) ⟨rfl, rfl⟩ (Nat.le_of_ble_eq_true rfl) (fun Z h hE => by subst hE; exact j_K_init_0 _ h)
-- R_init
theorem d_R_init_0 : decode prog_5_method_1_code 0 = .ok (.aload_n 0, 1) := by decide +kernel
theorem d_R_init_1 : decode prog_5_method_1_code 1 = .ok (.invokespecial 3, 3) := by decide +kernel
theorem d_R_init_4 : decode prog_5_method_1_code 4 = .ok (.aload_n 0, 1) := by decide +kernel
theorem d_R_init_5 : decode prog_5_method_1_code 5 = .ok (.bipush 64, 2) := by decide +kernel
theorem d_R_init_7 : decode prog_5_method_1_code 7 = .ok (.newarray .byte, 2) := by decide +kernel
theorem d_R_init_9 : decode prog_5_method_1_code 9 = .ok (.putfield 9, 3) := by decide +kernel
theorem d_R_init_12 : decode prog_5_method_1_code 12 = .ok (.return_, 1) := by decide +kernel
def m_R_init (G : Nat → Nat) (a0 : Nat) (h : hp_H) : Option (Unit × hp_H) := hp_naK h .byte (64 : Int32) (.inl fun _ => 0) fun o1 h2 => (hp_p h2 a0 4 0 (.ref o1)).bind fun h3 => some ((), h3)
set_option maxRecDepth 100000 in
set_option maxHeartbeats 4000000 in
theorem j_R_init_0 {Z : hp_Z} (a0 : Nat) (h : hp_H) : hp_J Y_R_init Z hp_rV h 0 [(0, .ref a0)] [] (m_R_init (hp_G Z)  a0 h) := by
  unfold m_R_init
  refine hp_aload_n (x0 := 0) d_R_init_0 rfl rfl ?_
  refine hp_objInit ⟨w_121, w_29, w_30⟩ (by decide) (Nat.le_of_ble_eq_true rfl) d_R_init_1 ?_
  refine hp_aload_n (x0 := 0) d_R_init_4 rfl rfl ?_
  refine hp_bipush (v := 64) d_R_init_5 (by decide) ?_
  refine hp_newA w_137 rfl (fun _ => rfl) d_R_init_7 fun o1 h2 => ?_
  refine hp_put fl_R_9 (fun _ => ⟨rfl, fun _ q => by cases q; rfl⟩) rfl rfl d_R_init_9 fun h3 => ?_
  exact hp_vret d_R_init_12 rfl
theorem t_R_init (l : Launch) (E : hp_E) (a0 : Nat) : hp_M l E y_R_init Y_R_init hp_rV [.ref a0] (m_R_init E.2.2.1 a0) := hp_M.of (by decide +kernel) ⟨rfl, rfl⟩ (Nat.le_of_ble_eq_true rfl) (fun Z h hE => by subst hE; exact j_R_init_0 _ h)
-- E_init
theorem d_E_init_0 : decode prog_2_method_1_code 0 = .ok (.aload_n 0, 1) := by decide +kernel
theorem d_E_init_1 : decode prog_2_method_1_code 1 = .ok (.invokespecial 3, 3) := by decide +kernel
theorem d_E_init_4 : decode prog_2_method_1_code 4 = .ok (.aload_n 0, 1) := by decide +kernel
theorem d_E_init_5 : decode prog_2_method_1_code 5 = .ok (.bipush 100, 2) := by decide +kernel
theorem d_E_init_7 : decode prog_2_method_1_code 7 = .ok (.newarray .int, 2) := by decide +kernel
theorem d_E_init_9 : decode prog_2_method_1_code 9 = .ok (.putfield 9, 3) := by decide +kernel
theorem d_E_init_12 : decode prog_2_method_1_code 12 = .ok (.aload_n 0, 1) := by decide +kernel
theorem d_E_init_13 : decode prog_2_method_1_code 13 = .ok (.bipush 100, 2) := by decide +kernel
theorem d_E_init_15 : decode prog_2_method_1_code 15 = .ok (.newarray .int, 2) := by decide +kernel
theorem d_E_init_17 : decode prog_2_method_1_code 17 = .ok (.putfield 15, 3) := by decide +kernel
theorem d_E_init_20 : decode prog_2_method_1_code 20 = .ok (.aload_n 0, 1) := by decide +kernel
theorem d_E_init_21 : decode prog_2_method_1_code 21 = .ok (.bipush 10, 2) := by decide +kernel
theorem d_E_init_23 : decode prog_2_method_1_code 23 = .ok (.newarray .int, 2) := by decide +kernel
theorem d_E_init_25 : decode prog_2_method_1_code 25 = .ok (.putfield 18, 3) := by decide +kernel
theorem d_E_init_28 : decode prog_2_method_1_code 28 = .ok (.aload_n 0, 1) := by decide +kernel
theorem d_E_init_29 : decode prog_2_method_1_code 29 = .ok (.bipush 100, 2) := by decide +kernel
theorem d_E_init_31 : decode prog_2_method_1_code 31 = .ok (.newarray .int, 2) := by decide +kernel
theorem d_E_init_33 : decode prog_2_method_1_code 33 = .ok (.putfield 21, 3) := by decide +kernel
theorem d_E_init_36 : decode prog_2_method_1_code 36 = .ok (.aload_n 0, 1) := by decide +kernel
theorem d_E_init_37 : decode prog_2_method_1_code 37 = .ok (.new 24, 3) := by decide +kernel
theorem d_E_init_40 : decode prog_2_method_1_code 40 = .ok (.dup, 1) := by decide +kernel
theorem d_E_init_41 : decode prog_2_method_1_code 41 = .ok (.invokespecial 26, 3) := by decide +kernel
theorem d_E_init_44 : decode prog_2_method_1_code 44 = .ok (.putfield 27, 3) := by decide +kernel
theorem d_E_init_47 : decode prog_2_method_1_code 47 = .ok (.aload_n 0, 1) := by decide +kernel
theorem d_E_init_48 : decode prog_2_method_1_code 48 = .ok (.new 31, 3) := by decide +kernel
theorem d_E_init_51 : decode prog_2_method_1_code 51 = .ok (.dup, 1) := by decide +kernel
theorem d_E_init_52 : decode prog_2_method_1_code 52 = .ok (.invokespecial 33, 3) := by decide +kernel
theorem d_E_init_55 : decode prog_2_method_1_code 55 = .ok (.putfield 34, 3) := by decide +kernel
theorem d_E_init_58 : decode prog_2_method_1_code 58 = .ok (.aload_n 0, 1) := by decide +kernel
theorem d_E_init_59 : decode prog_2_method_1_code 59 = .ok (.aload_n 1, 1) := by decide +kernel
theorem d_E_init_60 : decode prog_2_method_1_code 60 = .ok (.putfield 38, 3) := by decide +kernel
theorem d_E_init_63 : decode prog_2_method_1_code 63 = .ok (.return_, 1) := by decide +kernel
def m_E_init (G : Nat → Nat) (a0 : Nat) (a1 : Nat) (h : hp_H) : Option (Unit × hp_H) := hp_naK h .int (100 : Int32) (.inl fun _ => 0) fun o1 h2 => (hp_p h2 a0 5 1 (.ref o1)).bind fun h3 => hp_naK h3 .int (100 : Int32) (.inl fun _ => 0) fun o4 h5 => (hp_p h5 a0 5 2 (.ref o4)).bind fun h6 => hp_naK h6 .int (10 : Int32) (.inl fun _ => 0) fun o7 h8 => (hp_p h8 a0 5 3 (.ref o7)).bind fun h9 => hp_naK h9 .int (100 : Int32) (.inl fun _ => 0) fun o10 h11 => (hp_p h11 a0 5 4 (.ref o10)).bind fun h12 => hp_nwK h12 4 3 [.null, .int 0, .int 0] fun o13 h14 => (m_R_init G o13 h14).bind fun q15 => (hp_p q15.2 a0 5 5 (.ref o13)).bind fun h16 => hp_nwK h16 6 4 [.int 0, .int 0, .long 0, .int 0] fun o17 h18 => (m_K_init G o17 h18).bind fun q19 => (hp_p q19.2 a0 5 6 (.ref o17)).bind fun h20 => (hp_p h20 a0 5 0 (.ref a1)).bind fun h21 => some ((), h21)
set_option maxRecDepth 100000 in
set_option maxHeartbeats 4000000 in
theorem j_E_init_0 {Z : hp_Z} (a0 : Nat) (a1 : Nat) (h : hp_H) : hp_J Y_E_init Z hp_rV h 0 [(0, .ref a0), (1, .ref a1)] [] (m_E_init (hp_G Z)  a0 a1 h) := by
  unfold m_E_init
  refine hp_aload_n (x0 := 0) d_E_init_0 rfl rfl ?_
  refine hp_objInit ⟨w_158, w_29, w_30⟩ (by decide) (Nat.le_of_ble_eq_true rfl) d_E_init_1 ?_
  refine hp_aload_n (x0 := 0) d_E_init_4 rfl rfl ?_
  refine hp_bipush (v := 100) d_E_init_5 (by decide) ?_
  refine hp_newA w_115 rfl (fun _ => rfl) d_E_init_7 fun o1 h2 => ?_
  refine hp_put fl_E_9 (fun _ => ⟨rfl, fun _ q => by cases q; rfl⟩) rfl rfl d_E_init_9 fun h3 => ?_
  refine hp_aload_n (x0 := 0) d_E_init_12 rfl rfl ?_
  refine hp_bipush (v := 100) d_E_init_13 (by decide) ?_
  refine hp_newA w_115 rfl (fun _ => rfl) d_E_init_15 fun o4 h5 => ?_
  refine hp_put fl_E_15 (fun _ => ⟨rfl, fun _ q => by cases q; rfl⟩) rfl rfl d_E_init_17 fun h6 => ?_
  refine hp_aload_n (x0 := 0) d_E_init_20 rfl rfl ?_
  refine hp_bipush (v := 10) d_E_init_21 (by decide) ?_
  refine hp_newA w_115 rfl (fun _ => rfl) d_E_init_23 fun o7 h8 => ?_
  refine hp_put fl_E_18 (fun _ => ⟨rfl, fun _ q => by cases q; rfl⟩) rfl rfl d_E_init_25 fun h9 => ?_
  refine hp_aload_n (x0 := 0) d_E_init_28 rfl rfl ?_
  refine hp_bipush (v := 100) d_E_init_29 (by decide) ?_
  refine hp_newA w_115 rfl (fun _ => rfl) d_E_init_31 fun o10 h11 => ?_
  refine hp_put fl_E_21 (fun _ => ⟨rfl, fun _ q => by cases q; rfl⟩) rfl rfl d_E_init_33 fun h12 => ?_
  refine hp_aload_n (x0 := 0) d_E_init_36 rfl rfl ?_
  refine hp_newO nw_E_24 d_E_init_37 fun o13 h14 => ?_
  refine hp_dup d_E_init_40 rfl ?_
  refine hp_callU (hp_crIN (t_R_init _ _ _) cw_E_26 ⟨rfl, w_119⟩ rfl (by decide) rfl rfl (Nat.le_of_ble_eq_true rfl) d_E_init_41) fun q15 => ?_
  refine hp_put fl_E_27 (fun _ => ⟨rfl, fun _ q => by cases q; rfl⟩) rfl rfl d_E_init_44 fun h16 => ?_
  refine hp_aload_n (x0 := 0) d_E_init_47 rfl rfl ?_
  refine hp_newO nw_E_31 d_E_init_48 fun o17 h18 => ?_
  refine hp_dup d_E_init_51 rfl ?_
  refine hp_callU (hp_crIN (t_K_init _ _ _) cw_E_33 ⟨rfl, w_164⟩ rfl (by decide) rfl rfl (Nat.le_of_ble_eq_true rfl) d_E_init_52) fun q19 => ?_
  refine hp_put fl_E_34 (fun _ => ⟨rfl, fun _ q => by cases q; rfl⟩) rfl rfl d_E_init_55 fun h20 => ?_
  refine hp_aload_n (x0 := 0) d_E_init_58 rfl rfl ?_
  refine hp_aload_n (x0 := 1) d_E_init_59 rfl rfl ?_
  refine hp_put fl_E_38 (fun _ => ⟨rfl, fun _ q => by cases q; rfl⟩) rfl rfl d_E_init_60 fun h21 => ?_
  exact hp_vret d_E_init_63 rfl
theorem t_E_init (l : Launch) (E : hp_E) (a0 : Nat) (a1 : Nat) : hp_M l E y_E_init Y_E_init hp_rV [.ref a0, .ref a1] (m_E_init E.2.2.1 a0 a1) := hp_M.of (by decide +kernel) ⟨rfl, rfl⟩ (Nat.le_of_ble_eq_true rfl) (fun Z h hE => by subst hE; exact j_E_init_0 _ _ h)
-- G_init
theorem d_G_init_0 : decode prog_3_method_1_code 0 = .ok (.aload_n 0, 1) := by decide +kernel
theorem d_G_init_1 : decode prog_3_method_1_code 1 = .ok (.invokespecial 3, 3) := by decide +kernel
theorem d_G_init_4 : decode prog_3_method_1_code 4 = .ok (.aload_n 0, 1) := by decide +kernel
theorem d_G_init_5 : decode prog_3_method_1_code 5 = .ok (.sipush 500, 3) := by decide +kernel
theorem d_G_init_8 : decode prog_3_method_1_code 8 = .ok (.newarray .int, 2) := by decide +kernel
theorem d_G_init_10 : decode prog_3_method_1_code 10 = .ok (.putfield 9, 3) := by decide +kernel
theorem d_G_init_13 : decode prog_3_method_1_code 13 = .ok (.aload_n 0, 1) := by decide +kernel
theorem d_G_init_14 : decode prog_3_method_1_code 14 = .ok (.sipush 500, 3) := by decide +kernel
theorem d_G_init_17 : decode prog_3_method_1_code 17 = .ok (.newarray .int, 2) := by decide +kernel
theorem d_G_init_19 : decode prog_3_method_1_code 19 = .ok (.putfield 15, 3) := by decide +kernel
theorem d_G_init_22 : decode prog_3_method_1_code 22 = .ok (.aload_n 0, 1) := by decide +kernel
theorem d_G_init_23 : decode prog_3_method_1_code 23 = .ok (.new 18, 3) := by decide +kernel
theorem d_G_init_26 : decode prog_3_method_1_code 26 = .ok (.dup, 1) := by decide +kernel
theorem d_G_init_27 : decode prog_3_method_1_code 27 = .ok (.invokespecial 20, 3) := by decide +kernel
theorem d_G_init_30 : decode prog_3_method_1_code 30 = .ok (.putfield 21, 3) := by decide +kernel
theorem d_G_init_33 : decode prog_3_method_1_code 33 = .ok (.aload_n 0, 1) := by decide +kernel
theorem d_G_init_34 : decode prog_3_method_1_code 34 = .ok (.new 25, 3) := by decide +kernel
theorem d_G_init_37 : decode prog_3_method_1_code 37 = .ok (.dup, 1) := by decide +kernel
theorem d_G_init_38 : decode prog_3_method_1_code 38 = .ok (.invokespecial 27, 3) := by decide +kernel
theorem d_G_init_41 : decode prog_3_method_1_code 41 = .ok (.putfield 28, 3) := by decide +kernel
theorem d_G_init_44 : decode prog_3_method_1_code 44 = .ok (.aload_n 0, 1) := by decide +kernel
theorem d_G_init_45 : decode prog_3_method_1_code 45 = .ok (.iconst 0, 1) := by decide +kernel
theorem d_G_init_46 : decode prog_3_method_1_code 46 = .ok (.putfield 32, 3) := by decide +kernel
theorem d_G_init_49 : decode prog_3_method_1_code 49 = .ok (.aload_n 0, 1) := by decide +kernel
theorem d_G_init_50 : decode prog_3_method_1_code 50 = .ok (.aload_n 1, 1) := by decide +kernel
theorem d_G_init_51 : decode prog_3_method_1_code 51 = .ok (.putfield 36, 3) := by decide +kernel
theorem d_G_init_54 : decode prog_3_method_1_code 54 = .ok (.return_, 1) := by decide +kernel
def m_G_init (G : Nat → Nat) (a0 : Nat) (a1 : Nat) (h : hp_H) : Option (Unit × hp_H) := hp_naK h .int (500 : Int32) (.inl fun _ => 0) fun o1 h2 => (hp_p h2 a0 7 1 (.ref o1)).bind fun h3 => hp_naK h3 .int (500 : Int32) (.inl fun _ => 0) fun o4 h5 => (hp_p h5 a0 7 2 (.ref o4)).bind fun h6 => hp_nwK h6 4 3 [.null, .int 0, .int 0] fun o7 h8 => (m_R_init G o7 h8).bind fun q9 => (hp_p q9.2 a0 7 3 (.ref o7)).bind fun h10 => hp_nwK h10 6 4 [.int 0, .int 0, .long 0, .int 0] fun o11 h12 => (m_K_init G o11 h12).bind fun q13 => (hp_p q13.2 a0 7 4 (.ref o11)).bind fun h14 => (hp_p h14 a0 7 5 (.int (0 : Int32))).bind fun h15 => (hp_p h15 a0 7 0 (.ref a1)).bind fun h16 => some ((), h16)
set_option maxRecDepth 100000 in
set_option maxHeartbeats 4000000 in
theorem j_G_init_0 {Z : hp_Z} (a0 : Nat) (a1 : Nat) (h : hp_H) : hp_J Y_G_init Z hp_rV h 0 [(0, .ref a0), (1, .ref a1)] [] (m_G_init (hp_G Z)  a0 a1 h) := by
  unfold m_G_init
  refine hp_aload_n (x0 := 0) d_G_init_0 rfl rfl ?_
  refine hp_objInit ⟨w_218, w_29, w_30⟩ (by decide) (Nat.le_of_ble_eq_true rfl) d_G_init_1 ?_
  refine hp_aload_n (x0 := 0) d_G_init_4 rfl rfl ?_
  refine hp_sipush (v := 500) d_G_init_5 (by decide) ?_
  refine hp_newA w_115 rfl (fun _ => rfl) d_G_init_8 fun o1 h2 => ?_
  refine hp_put fl_G_9 (fun _ => ⟨rfl, fun _ q => by cases q; rfl⟩) rfl rfl d_G_init_10 fun h3 => ?_
  refine hp_aload_n (x0 := 0) d_G_init_13 rfl rfl ?_
  refine hp_sipush (v := 500) d_G_init_14 (by decide) ?_
  refine hp_newA w_115 rfl (fun _ => rfl) d_G_init_17 fun o4 h5 => ?_
  refine hp_put fl_G_15 (fun _ => ⟨rfl, fun _ q => by cases q; rfl⟩) rfl rfl d_G_init_19 fun h6 => ?_
  refine hp_aload_n (x0 := 0) d_G_init_22 rfl rfl ?_
  refine hp_newO nw_G_18 d_G_init_23 fun o7 h8 => ?_
  refine hp_dup d_G_init_26 rfl ?_
  refine hp_callU (hp_crIN (t_R_init _ _ _) cw_G_20 ⟨rfl, w_119⟩ rfl (by decide) rfl rfl (Nat.le_of_ble_eq_true rfl) d_G_init_27) fun q9 => ?_
  refine hp_put fl_G_21 (fun _ => ⟨rfl, fun _ q => by cases q; rfl⟩) rfl rfl d_G_init_30 fun h10 => ?_
  refine hp_aload_n (x0 := 0) d_G_init_33 rfl rfl ?_
  refine hp_newO nw_G_25 d_G_init_34 fun o11 h12 => ?_
  refine hp_dup d_G_init_37 rfl ?_
  refine hp_callU (hp_crIN (t_K_init _ _ _) cw_G_27 ⟨rfl, w_164⟩ rfl (by decide) rfl rfl (Nat.le_of_ble_eq_true rfl) d_G_init_38) fun q13 => ?_
  refine hp_put fl_G_28 (fun _ => ⟨rfl, fun _ q => by cases q; rfl⟩) rfl rfl d_G_init_41 fun h14 => ?_
  refine hp_aload_n (x0 := 0) d_G_init_44 rfl rfl ?_
  refine hp_iconst (v := 0) d_G_init_45 (by decide) ?_
  refine hp_put fl_G_32 (fun q => by cases q) rfl rfl d_G_init_46 fun h15 => ?_
  refine hp_aload_n (x0 := 0) d_G_init_49 rfl rfl ?_
  refine hp_aload_n (x0 := 1) d_G_init_50 rfl rfl ?_
  refine hp_put fl_G_36 (fun _ => ⟨rfl, fun _ q => by cases q; rfl⟩) rfl rfl d_G_init_51 fun h16 => ?_
  exact hp_vret d_G_init_54 rfl
theorem t_G_init (l : Launch) (E : hp_E) (a0 : Nat) (a1 : Nat) : hp_M l E y_G_init Y_G_init hp_rV [.ref a0, .ref a1] (m_G_init E.2.2.1 a0 a1) := hp_M.of (by decide +kernel) ⟨rfl, rfl⟩ (Nat.le_of_ble_eq_true rfl) (fun Z h hE => by subst hE; exact j_G_init_0 _ _ h)
-- AC_init
theorem d_AC_init_0 : decode prog_20_method_1_code 0 = .ok (.aload_n 0, 1) := by decide +kernel
theorem d_AC_init_1 : decode prog_20_method_1_code 1 = .ok (.invokespecial 1, 3) := by decide +kernel
theorem d_AC_init_4 : decode prog_20_method_1_code 4 = .ok (.return_, 1) := by decide +kernel
def m_AC_init (G : Nat → Nat) (a0 : Nat) (h : hp_H) : Option (Unit × hp_H) := some ((), h)
set_option maxRecDepth 100000 in
set_option maxHeartbeats 4000000 in
theorem j_AC_init_0 {Z : hp_Z} (a0 : Nat) (h : hp_H) : hp_J Y_AC_init Z hp_rV h 0 [(0, .ref a0)] [] (m_AC_init (hp_G Z)  a0 h) := by
  unfold m_AC_init
  refine hp_aload_n (x0 := 0) d_AC_init_0 rfl rfl ?_
  refine hp_objInit ⟨w_48, w_29, w_30⟩ (by decide) (Nat.le_of_ble_eq_true rfl) d_AC_init_1 ?_
  exact hp_vret d_AC_init_4 rfl
theorem t_AC_init (l : Launch) (E : hp_E) (a0 : Nat) : hp_M l E y_AC_init Y_AC_init hp_rV [.ref a0] (m_AC_init E.2.2.1 a0) := hp_M.of (by decide +kernel) ⟨rfl, rfl⟩ (Nat.le_of_ble_eq_true rfl) (fun Z h hE => by subst hE; exact j_AC_init_0 _ h)
-- AB_init
theorem d_AB_init_0 : decode prog_21_method_1_code 0 = .ok (.aload_n 0, 1) := by decide +kernel
theorem d_AB_init_1 : decode prog_21_method_1_code 1 = .ok (.invokespecial 1, 3) := by decide +kernel
theorem d_AB_init_4 : decode prog_21_method_1_code 4 = .ok (.aload_n 0, 1) := by decide +kernel
theorem d_AB_init_5 : decode prog_21_method_1_code 5 = .ok (.iconst 0, 1) := by decide +kernel
theorem d_AB_init_6 : decode prog_21_method_1_code 6 = .ok (.putfield 7, 3) := by decide +kernel
theorem d_AB_init_9 : decode prog_21_method_1_code 9 = .ok (.return_, 1) := by decide +kernel
def m_AB_init (G : Nat → Nat) (a0 : Nat) (h : hp_H) : Option (Unit × hp_H) := (m_AC_init G a0 h).bind fun q1 => (hp_p q1.2 a0 2 2 (.int (0 : Int32))).bind fun h2 => some ((), h2)
set_option maxRecDepth 100000 in
set_option maxHeartbeats 4000000 in
theorem j_AB_init_0 {Z : hp_Z} (a0 : Nat) (h : hp_H) : hp_J Y_AB_init Z hp_rV h 0 [(0, .ref a0)] [] (m_AB_init (hp_G Z)  a0 h) := by
  unfold m_AB_init
  refine hp_aload_n (x0 := 0) d_AB_init_0 rfl rfl ?_
  refine hp_callU (hp_crI (t_AC_init _ _ _) cw_AB_1 ⟨rfl, w_46⟩ rfl (by decide) rfl rfl (Nat.le_of_ble_eq_true rfl) d_AB_init_1) fun q1 => ?_
  refine hp_aload_n (x0 := 0) d_AB_init_4 rfl rfl ?_
  refine hp_iconst (v := 0) d_AB_init_5 (by decide) ?_
  refine hp_put fl_AB_7 (fun q => by cases q) rfl rfl d_AB_init_6 fun h2 => ?_
  exact hp_vret d_AB_init_9 rfl
theorem t_AB_init (l : Launch) (E : hp_E) (a0 : Nat) : hp_M l E y_AB_init Y_AB_init hp_rV [.ref a0] (m_AB_init E.2.2.1 a0) := hp_M.of (by decide +kernel) ⟨rfl, rfl⟩ (Nat.le_of_ble_eq_true rfl) (fun Z h hE => by subst hE; exact j_AB_init_0 _ h)
-- AL_init
theorem d_AL_init_0 : decode prog_22_method_2_code 0 = .ok (.aload_n 0, 1) := by decide +kernel
theorem d_AL_init_1 : decode prog_22_method_2_code 1 = .ok (.invokespecial 1, 3) := by decide +kernel
theorem d_AL_init_4 : decode prog_22_method_2_code 4 = .ok (.aload_n 0, 1) := by decide +kernel
theorem d_AL_init_5 : decode prog_22_method_2_code 5 = .ok (.getstatic 39, 3) := by decide +kernel
theorem d_AL_init_8 : decode prog_22_method_2_code 8 = .ok (.putfield 9, 3) := by decide +kernel
theorem d_AL_init_11 : decode prog_22_method_2_code 11 = .ok (.return_, 1) := by decide +kernel
def m_AL_init (G : Nat → Nat) (a0 : Nat) (h : hp_H) : Option (Unit × hp_H) := (m_AB_init G a0 h).bind fun q1 => (hp_p q1.2 a0 2 0 (.ref (G 4))).bind fun h2 => some ((), h2)
set_option maxRecDepth 100000 in
set_option maxHeartbeats 4000000 in
theorem j_AL_init_0 {Z : hp_Z} (a0 : Nat) (h : hp_H) : hp_J Y_AL_init Z hp_rV h 0 [(0, .ref a0)] [] (m_AL_init (hp_G Z)  a0 h) := by
  unfold m_AL_init
  refine hp_aload_n (x0 := 0) d_AL_init_0 rfl rfl ?_
  refine hp_callU (hp_crI (t_AB_init _ _ _) cw_AL_1 ⟨rfl, w_43⟩ rfl (by decide) rfl rfl (Nat.le_of_ble_eq_true rfl) d_AL_init_1) fun q1 => ?_
  refine hp_aload_n (x0 := 0) d_AL_init_4 rfl rfl ?_
  refine hp_gets (k := 4) rfl w_49 d_AL_init_5 ?_
  refine hp_put fl_AL_9 (fun q => by cases q) rfl rfl d_AL_init_8 fun h2 => ?_
  exact hp_vret d_AL_init_11 rfl
theorem t_AL_init (l : Launch) (E : hp_E) (a0 : Nat) : hp_M l E y_AL_init Y_AL_init hp_rV [.ref a0] (m_AL_init E.2.2.1 a0) := hp_M.of (by decide +kernel) ⟨rfl, rfl⟩ (Nat.le_of_ble_eq_true rfl) (fun Z h hE => by subst hE; exact j_AL_init_0 _ h)
-- V_init
theorem d_V_init_0 : decode prog_7_method_1_code 0 = .ok (.aload_n 0, 1) := by decide +kernel
theorem d_V_init_1 : decode prog_7_method_1_code 1 = .ok (.invokespecial 3, 3) := by decide +kernel
theorem d_V_init_4 : decode prog_7_method_1_code 4 = .ok (.aload_n 0, 1) := by decide +kernel
theorem d_V_init_5 : decode prog_7_method_1_code 5 = .ok (.iload_n 1, 1) := by decide +kernel
theorem d_V_init_6 : decode prog_7_method_1_code 6 = .ok (.putfield 9, 3) := by decide +kernel
theorem d_V_init_9 : decode prog_7_method_1_code 9 = .ok (.aload_n 0, 1) := by decide +kernel
theorem d_V_init_10 : decode prog_7_method_1_code 10 = .ok (.iload_n 2, 1) := by decide +kernel
theorem d_V_init_11 : decode prog_7_method_1_code 11 = .ok (.putfield 15, 3) := by decide +kernel
theorem d_V_init_14 : decode prog_7_method_1_code 14 = .ok (.aload_n 0, 1) := by decide +kernel
theorem d_V_init_15 : decode prog_7_method_1_code 15 = .ok (.lload_n 3, 1) := by decide +kernel
theorem d_V_init_16 : decode prog_7_method_1_code 16 = .ok (.putfield 18, 3) := by decide +kernel
theorem d_V_init_19 : decode prog_7_method_1_code 19 = .ok (.aload_n 0, 1) := by decide +kernel
theorem d_V_init_20 : decode prog_7_method_1_code 20 = .ok (.iload 5, 2) := by decide +kernel
theorem d_V_init_22 : decode prog_7_method_1_code 22 = .ok (.putfield 22, 3) := by decide +kernel
theorem d_V_init_25 : decode prog_7_method_1_code 25 = .ok (.aload_n 0, 1) := by decide +kernel
theorem d_V_init_26 : decode prog_7_method_1_code 26 = .ok (.aload 6, 2) := by decide +kernel
theorem d_V_init_28 : decode prog_7_method_1_code 28 = .ok (.putfield 25, 3) := by decide +kernel
theorem d_V_init_31 : decode prog_7_method_1_code 31 = .ok (.aload_n 0, 1) := by decide +kernel
theorem d_V_init_32 : decode prog_7_method_1_code 32 = .ok (.iload 7, 2) := by decide +kernel
theorem d_V_init_34 : decode prog_7_method_1_code 34 = .ok (.putfield 29, 3) := by decide +kernel
theorem d_V_init_37 : decode prog_7_method_1_code 37 = .ok (.return_, 1) := by decide +kernel
def m_V_init (G : Nat → Nat) (a0 : Nat) (a1 : Int32) (a2 : Int32) (a3 : Int64) (a5 : Int32) (a6 : Nat) (a7 : Int32) (h : hp_H) : Option (Unit × hp_H) := (hp_p h a0 3 0 (.int a1)).bind fun h1 => (hp_p h1 a0 3 1 (.int a2)).bind fun h2 => (hp_p h2 a0 3 2 (.long a3)).bind fun h3 => (hp_p h3 a0 3 3 (.int a5)).bind fun h4 => (hp_p h4 a0 3 4 (.ref a6)).bind fun h5 => (hp_p h5 a0 3 5 (.int a7)).bind fun h6 => some ((), h6)
set_option maxRecDepth 100000 in
set_option maxHeartbeats 4000000 in
theorem j_V_init_0 {Z : hp_Z} (a0 : Nat) (a1 : Int32) (a2 : Int32) (a3 : Int64) (a5 : Int32) (a6 : Nat) (a7 : Int32) (h : hp_H) : hp_J Y_V_init Z hp_rV h 0 [(0, .ref a0), (1, .int a1), (2, .int a2), (3, .long a3), (5, .int a5), (6, .ref a6), (7, .int a7)] [] (m_V_init (hp_G Z)  a0 a1 a2 a3 a5 a6 a7 h) := by
  unfold m_V_init
  refine hp_aload_n (x0 := 0) d_V_init_0 rfl rfl ?_
  refine hp_objInit ⟨w_70, w_29, w_30⟩ (by decide) (Nat.le_of_ble_eq_true rfl) d_V_init_1 ?_
  refine hp_aload_n (x0 := 0) d_V_init_4 rfl rfl ?_
  refine hp_iload_n (x0 := 1) d_V_init_5 rfl rfl ?_
  refine hp_put fl_V_9 (fun _ => ⟨rfl, fun _ q => by cases q; rfl⟩) rfl rfl d_V_init_6 fun h1 => ?_
  refine hp_aload_n (x0 := 0) d_V_init_9 rfl rfl ?_
  refine hp_iload_n (x0 := 2) d_V_init_10 rfl rfl ?_
  refine hp_put fl_V_15 (fun _ => ⟨rfl, fun _ q => by cases q; rfl⟩) rfl rfl d_V_init_11 fun h2 => ?_
  refine hp_aload_n (x0 := 0) d_V_init_14 rfl rfl ?_
  refine hp_lload_n (x0 := 3) d_V_init_15 rfl rfl ?_
  refine hp_put fl_V_18 (fun _ => ⟨rfl, fun _ q => by cases q; rfl⟩) rfl rfl d_V_init_16 fun h3 => ?_
  refine hp_aload_n (x0 := 0) d_V_init_19 rfl rfl ?_
  refine hp_iload (x0 := 4) d_V_init_20 rfl ?_
  refine hp_put fl_V_22 (fun _ => ⟨rfl, fun _ q => by cases q; rfl⟩) rfl rfl d_V_init_22 fun h4 => ?_
  refine hp_aload_n (x0 := 0) d_V_init_25 rfl rfl ?_
  refine hp_aload (x0 := 5) d_V_init_26 rfl ?_
  refine hp_put fl_V_25 (fun _ => ⟨rfl, fun _ q => by cases q; rfl⟩) rfl rfl d_V_init_28 fun h5 => ?_
  refine hp_aload_n (x0 := 0) d_V_init_31 rfl rfl ?_
  refine hp_iload (x0 := 6) d_V_init_32 rfl ?_
  refine hp_put fl_V_29 (fun _ => ⟨rfl, fun _ q => by cases q; rfl⟩) rfl rfl d_V_init_34 fun h6 => ?_
  exact hp_vret d_V_init_37 rfl
theorem t_V_init (l : Launch) (E : hp_E) (a0 : Nat) (a1 : Int32) (a2 : Int32) (a3 : Int64) (a5 : Int32) (a6 : Nat) (a7 : Int32) : hp_M l E y_V_init Y_V_init hp_rV [.ref a0, .int a1, .int a2, .long a3, .int a5, .ref a6, .int a7] (m_V_init E.2.2.1 a0 a1 a2 a3 a5 a6 a7) := hp_M.of (by decide +kernel) ⟨rfl, rfl⟩ (Nat.le_of_ble_eq_true rfl) (fun Z h hE => by subst hE; exact j_V_init_0 _ _ _ _ _ _ _ h)
-- S_init
theorem d_S_init_0 : decode prog_6_method_1_code 0 = .ok (.aload_n 0, 1) := by decide +kernel
theorem d_S_init_1 : decode prog_6_method_1_code 1 = .ok (.invokespecial 3, 3) := by decide +kernel
theorem d_S_init_4 : decode prog_6_method_1_code 4 = .ok (.aload_n 0, 1) := by decide +kernel
theorem d_S_init_5 : decode prog_6_method_1_code 5 = .ok (.new 9, 3) := by decide +kernel
theorem d_S_init_8 : decode prog_6_method_1_code 8 = .ok (.dup, 1) := by decide +kernel
theorem d_S_init_9 : decode prog_6_method_1_code 9 = .ok (.invokespecial 11, 3) := by decide +kernel
theorem d_S_init_12 : decode prog_6_method_1_code 12 = .ok (.putfield 12, 3) := by decide +kernel
theorem d_S_init_15 : decode prog_6_method_1_code 15 = .ok (.aload_n 0, 1) := by decide +kernel
theorem d_S_init_16 : decode prog_6_method_1_code 16 = .ok (.sipush 256, 3) := by decide +kernel
theorem d_S_init_19 : decode prog_6_method_1_code 19 = .ok (.newarray .int, 2) := by decide +kernel
theorem d_S_init_21 : decode prog_6_method_1_code 21 = .ok (.putfield 18, 3) := by decide +kernel
theorem d_S_init_24 : decode prog_6_method_1_code 24 = .ok (.aload_n 0, 1) := by decide +kernel
theorem d_S_init_25 : decode prog_6_method_1_code 25 = .ok (.new 22, 3) := by decide +kernel
theorem d_S_init_28 : decode prog_6_method_1_code 28 = .ok (.dup, 1) := by decide +kernel
theorem d_S_init_29 : decode prog_6_method_1_code 29 = .ok (.iconst 0, 1) := by decide +kernel
theorem d_S_init_30 : decode prog_6_method_1_code 30 = .ok (.iconst 0, 1) := by decide +kernel
theorem d_S_init_31 : decode prog_6_method_1_code 31 = .ok (.lconst 0, 1) := by decide +kernel
theorem d_S_init_32 : decode prog_6_method_1_code 32 = .ok (.iconst 0, 1) := by decide +kernel
theorem d_S_init_33 : decode prog_6_method_1_code 33 = .ok (.getstatic 24, 3) := by decide +kernel
theorem d_S_init_36 : decode prog_6_method_1_code 36 = .ok (.iconst 0, 1) := by decide +kernel
theorem d_S_init_37 : decode prog_6_method_1_code 37 = .ok (.invokespecial 28, 3) := by decide +kernel
theorem d_S_init_40 : decode prog_6_method_1_code 40 = .ok (.putfield 31, 3) := by decide +kernel
theorem d_S_init_43 : decode prog_6_method_1_code 43 = .ok (.aload_n 0, 1) := by decide +kernel
theorem d_S_init_44 : decode prog_6_method_1_code 44 = .ok (.new 35, 3) := by decide +kernel
theorem d_S_init_47 : decode prog_6_method_1_code 47 = .ok (.dup, 1) := by decide +kernel
theorem d_S_init_48 : decode prog_6_method_1_code 48 = .ok (.invokespecial 37, 3) := by decide +kernel
theorem d_S_init_51 : decode prog_6_method_1_code 51 = .ok (.putfield 38, 3) := by decide +kernel
theorem d_S_init_54 : decode prog_6_method_1_code 54 = .ok (.return_, 1) := by decide +kernel
def m_S_init (G : Nat → Nat) (a0 : Nat) (h : hp_H) : Option (Unit × hp_H) := hp_nwK h 2 3 [.null, .int 0, .int 0] fun o1 h2 => (m_AL_init G o1 h2).bind fun q3 => (hp_p q3.2 a0 1 0 (.ref o1)).bind fun h4 => hp_naK h4 .int (256 : Int32) (.inl fun _ => 0) fun o5 h6 => (hp_p h6 a0 1 1 (.ref o5)).bind fun h7 => hp_nwK h7 3 6 [.int 0, .int 0, .long 0, .int 0, .null, .int 0] fun o8 h9 => (m_V_init G o8 (0 : Int32) (0 : Int32) (0 : Int64) (0 : Int32) (G 1) (0 : Int32) h9).bind fun q10 => (hp_p q10.2 a0 1 2 (.ref o8)).bind fun h11 => hp_nwK h11 4 3 [.null, .int 0, .int 0] fun o12 h13 => (m_R_init G o12 h13).bind fun q14 => (hp_p q14.2 a0 1 3 (.ref o12)).bind fun h15 => some ((), h15)
set_option maxRecDepth 100000 in
set_option maxHeartbeats 4000000 in
theorem j_S_init_0 {Z : hp_Z} (a0 : Nat) (h : hp_H) : hp_J Y_S_init Z hp_rV h 0 [(0, .ref a0)] [] (m_S_init (hp_G Z)  a0 h) := by
  unfold m_S_init
  refine hp_aload_n (x0 := 0) d_S_init_0 rfl rfl ?_
  refine hp_objInit ⟨w_36, w_29, w_30⟩ (by decide) (Nat.le_of_ble_eq_true rfl) d_S_init_1 ?_
  refine hp_aload_n (x0 := 0) d_S_init_4 rfl rfl ?_
  refine hp_newO nw_S_9 d_S_init_5 fun o1 h2 => ?_
  refine hp_dup d_S_init_8 rfl ?_
  refine hp_callU (hp_crI (t_AL_init _ _ _) cw_S_11 ⟨rfl, w_40⟩ rfl (by decide) rfl rfl (Nat.le_of_ble_eq_true rfl) d_S_init_9) fun q3 => ?_
  refine hp_put fl_S_12 (fun _ => ⟨rfl, fun _ q => by cases q; rfl⟩) rfl rfl d_S_init_12 fun h4 => ?_
  refine hp_aload_n (x0 := 0) d_S_init_15 rfl rfl ?_
  refine hp_sipush (v := 256) d_S_init_16 (by decide) ?_
  refine hp_newA w_115 rfl (fun _ => rfl) d_S_init_19 fun o5 h6 => ?_
  refine hp_put fl_S_18 (fun _ => ⟨rfl, fun _ q => by cases q; rfl⟩) rfl rfl d_S_init_21 fun h7 => ?_
  refine hp_aload_n (x0 := 0) d_S_init_24 rfl rfl ?_
  refine hp_newO nw_S_22 d_S_init_25 fun o8 h9 => ?_
  refine hp_dup d_S_init_28 rfl ?_
  refine hp_iconst (v := 0) d_S_init_29 (by decide) ?_
  refine hp_iconst (v := 0) d_S_init_30 (by decide) ?_
  refine hp_lconst (v := 0) d_S_init_31 (by decide) ?_
  refine hp_iconst (v := 0) d_S_init_32 (by decide) ?_
  refine hp_getsN (k := 1) rfl w_65 d_S_init_33 ?_
  refine hp_iconst (v := 0) d_S_init_36 (by decide) ?_
  refine hp_callU (hp_crI (t_V_init _ _ _ _ _ _ _ _ _) cw_S_28 ⟨rfl, w_68⟩ rfl (by decide) rfl rfl (Nat.le_of_ble_eq_true rfl) d_S_init_37) fun q10 => ?_
  refine hp_put fl_S_31 (fun _ => ⟨rfl, fun _ q => by cases q; rfl⟩) rfl rfl d_S_init_40 fun h11 => ?_
  refine hp_aload_n (x0 := 0) d_S_init_43 rfl rfl ?_
  refine hp_newO nw_S_35 d_S_init_44 fun o12 h13 => ?_
  refine hp_dup d_S_init_47 rfl ?_
  refine hp_callU (hp_crIN (t_R_init _ _ _) cw_S_37 ⟨rfl, w_119⟩ rfl (by decide) rfl rfl (Nat.le_of_ble_eq_true rfl) d_S_init_48) fun q14 => ?_
  refine hp_put fl_S_38 (fun _ => ⟨rfl, fun _ q => by cases q; rfl⟩) rfl rfl d_S_init_51 fun h15 => ?_
  exact hp_vret d_S_init_54 rfl
theorem t_S_init (l : Launch) (E : hp_E) (a0 : Nat) : hp_M l E y_S_init Y_S_init hp_rV [.ref a0] (m_S_init E.2.2.1 a0) := hp_M.of (by decide +kernel) ⟨rfl, rfl⟩ (Nat.le_of_ble_eq_true rfl) (fun Z h hE => by subst hE; exact j_S_init_0 _ h)
-- D_init
theorem d_D_init_0 : decode prog_1_method_1_code 0 = .ok (.aload_n 0, 1) := by decide +kernel
theorem d_D_init_1 : decode prog_1_method_1_code 1 = .ok (.invokespecial 1, 3) := by decide +kernel
theorem d_D_init_4 : decode prog_1_method_1_code 4 = .ok (.aload_n 0, 1) := by decide +kernel
theorem d_D_init_5 : decode prog_1_method_1_code 5 = .ok (.new 7, 3) := by decide +kernel
theorem d_D_init_8 : decode prog_1_method_1_code 8 = .ok (.dup, 1) := by decide +kernel
theorem d_D_init_9 : decode prog_1_method_1_code 9 = .ok (.invokespecial 9, 3) := by decide +kernel
theorem d_D_init_12 : decode prog_1_method_1_code 12 = .ok (.putfield 10, 3) := by decide +kernel
theorem d_D_init_15 : decode prog_1_method_1_code 15 = .ok (.aload_n 0, 1) := by decide +kernel
theorem d_D_init_16 : decode prog_1_method_1_code 16 = .ok (.new 16, 3) := by decide +kernel
theorem d_D_init_19 : decode prog_1_method_1_code 19 = .ok (.dup, 1) := by decide +kernel
theorem d_D_init_20 : decode prog_1_method_1_code 20 = .ok (.invokespecial 18, 3) := by decide +kernel
theorem d_D_init_23 : decode prog_1_method_1_code 23 = .ok (.putfield 19, 3) := by decide +kernel
theorem d_D_init_26 : decode prog_1_method_1_code 26 = .ok (.aload_n 0, 1) := by decide +kernel
theorem d_D_init_27 : decode prog_1_method_1_code 27 = .ok (.new 23, 3) := by decide +kernel
theorem d_D_init_30 : decode prog_1_method_1_code 30 = .ok (.dup, 1) := by decide +kernel
theorem d_D_init_31 : decode prog_1_method_1_code 31 = .ok (.aload_n 0, 1) := by decide +kernel
theorem d_D_init_32 : decode prog_1_method_1_code 32 = .ok (.getfield 10, 3) := by decide +kernel
theorem d_D_init_35 : decode prog_1_method_1_code 35 = .ok (.invokespecial 25, 3) := by decide +kernel
theorem d_D_init_38 : decode prog_1_method_1_code 38 = .ok (.putfield 28, 3) := by decide +kernel
theorem d_D_init_41 : decode prog_1_method_1_code 41 = .ok (.aload_n 0, 1) := by decide +kernel
theorem d_D_init_42 : decode prog_1_method_1_code 42 = .ok (.new 32, 3) := by decide +kernel
theorem d_D_init_45 : decode prog_1_method_1_code 45 = .ok (.dup, 1) := by decide +kernel
theorem d_D_init_46 : decode prog_1_method_1_code 46 = .ok (.aload_n 0, 1) := by decide +kernel
theorem d_D_init_47 : decode prog_1_method_1_code 47 = .ok (.getfield 10, 3) := by decide +kernel
theorem d_D_init_50 : decode prog_1_method_1_code 50 = .ok (.invokespecial 34, 3) := by decide +kernel
theorem d_D_init_53 : decode prog_1_method_1_code 53 = .ok (.putfield 35, 3) := by decide +kernel
theorem d_D_init_56 : decode prog_1_method_1_code 56 = .ok (.return_, 1) := by decide +kernel
def m_D_init (G : Nat → Nat) (a0 : Nat) (h : hp_H) : Option (Unit × hp_H) := hp_nwK h 1 4 [.null, .null, .null, .null] fun o1 h2 => (m_S_init G o1 h2).bind fun q3 => (hp_p q3.2 a0 0 0 (.ref o1)).bind fun h4 => hp_nwK h4 4 3 [.null, .int 0, .int 0] fun o5 h6 => (m_R_init G o5 h6).bind fun q7 => (hp_p q7.2 a0 0 1 (.ref o5)).bind fun h8 => hp_nwK h8 5 9 [.null, .null, .null, .null, .null, .null, .null, .int 0, .int 0] fun o9 h10 => (hp_gR h10 a0 0 0).bind fun x11 => (m_E_init G o9 x11 h10).bind fun q12 => (hp_p q12.2 a0 0 2 (.ref o9)).bind fun h13 => hp_nwK h13 7 9 [.null, .null, .null, .null, .null, .int 0, .int 0, .int 0, .int 0] fun o14 h15 => (hp_gR h15 a0 0 0).bind fun x16 => (m_G_init G o14 x16 h15).bind fun q17 => (hp_p q17.2 a0 0 3 (.ref o14)).bind fun h18 => some ((), h18)
set_option maxRecDepth 100000 in
set_option maxHeartbeats 4000000 in
theorem j_D_init_0 {Z : hp_Z} (a0 : Nat) (h : hp_H) : hp_J Y_D_init Z hp_rV h 0 [(0, .ref a0)] [] (m_D_init (hp_G Z)  a0 h) := by
  unfold m_D_init
  refine hp_aload_n (x0 := 0) d_D_init_0 rfl rfl ?_
  refine hp_objInit ⟨w_28, w_29, w_30⟩ (by decide) (Nat.le_of_ble_eq_true rfl) d_D_init_1 ?_
  refine hp_aload_n (x0 := 0) d_D_init_4 rfl rfl ?_
  refine hp_newO nw_D_7 d_D_init_5 fun o1 h2 => ?_
  refine hp_dup d_D_init_8 rfl ?_
  refine hp_callU (hp_crIN (t_S_init _ _ _) cw_D_9 ⟨rfl, w_34⟩ rfl (by decide) rfl rfl (Nat.le_of_ble_eq_true rfl) d_D_init_9) fun q3 => ?_
  refine hp_put fl_D_10 (fun _ => ⟨rfl, fun _ q => by cases q; rfl⟩) rfl rfl d_D_init_12 fun h4 => ?_
  refine hp_aload_n (x0 := 0) d_D_init_15 rfl rfl ?_
  refine hp_newO nw_D_16 d_D_init_16 fun o5 h6 => ?_
  refine hp_dup d_D_init_19 rfl ?_
  refine hp_callU (hp_crIN (t_R_init _ _ _) cw_D_18 ⟨rfl, w_119⟩ rfl (by decide) rfl rfl (Nat.le_of_ble_eq_true rfl) d_D_init_20) fun q7 => ?_
  refine hp_put fl_D_19 (fun _ => ⟨rfl, fun _ q => by cases q; rfl⟩) rfl rfl d_D_init_23 fun h8 => ?_
  refine hp_aload_n (x0 := 0) d_D_init_26 rfl rfl ?_
  refine hp_newO nw_D_23 d_D_init_27 fun o9 h10 => ?_
  refine hp_dup d_D_init_30 rfl ?_
  refine hp_aload_n (x0 := 0) d_D_init_31 rfl rfl ?_
  refine hp_getR fl_D_10 d_D_init_32 fun x11 => ?_
  refine hp_callU (hp_crI (t_E_init _ _ _ _) cw_D_25 ⟨rfl, w_156⟩ rfl (by decide) rfl rfl (Nat.le_of_ble_eq_true rfl) d_D_init_35) fun q12 => ?_
  refine hp_put fl_D_28 (fun _ => ⟨rfl, fun _ q => by cases q; rfl⟩) rfl rfl d_D_init_38 fun h13 => ?_
  refine hp_aload_n (x0 := 0) d_D_init_41 rfl rfl ?_
  refine hp_newO nw_D_32 d_D_init_42 fun o14 h15 => ?_
  refine hp_dup d_D_init_45 rfl ?_
  refine hp_aload_n (x0 := 0) d_D_init_46 rfl rfl ?_
  refine hp_getR fl_D_10 d_D_init_47 fun x16 => ?_
  refine hp_callU (hp_crI (t_G_init _ _ _ _) cw_D_34 ⟨rfl, w_216⟩ rfl (by decide) rfl rfl (Nat.le_of_ble_eq_true rfl) d_D_init_50) fun q17 => ?_
  refine hp_put fl_D_35 (fun _ => ⟨rfl, fun _ q => by cases q; rfl⟩) rfl rfl d_D_init_53 fun h18 => ?_
  exact hp_vret d_D_init_56 rfl
theorem t_D_init (l : Launch) (E : hp_E) (a0 : Nat) : hp_M l E y_D_init Y_D_init hp_rV [.ref a0] (m_D_init E.2.2.1 a0) := hp_M.of (by decide +kernel) ⟨rfl, rfl⟩ (Nat.le_of_ble_eq_true rfl) (fun Z h hE => by subst hE; exact j_D_init_0 _ h)
-- R_put
theorem d_R_put_0 : decode prog_5_method_3_code 0 = .ok (.aload_n 0, 1) := by decide +kernel
theorem d_R_put_1 : decode prog_5_method_3_code 1 = .ok (.getfield 15, 3) := by decide +kernel
theorem d_R_put_4 : decode prog_5_method_3_code 4 = .ok (.bipush 64, 2) := by decide +kernel
theorem d_R_put_6 : decode prog_5_method_3_code 6 = .ok (.if_icmp .lt 9, 3) := by decide +kernel
theorem d_R_put_9 : decode prog_5_method_3_code 9 = .ok (.aload_n 0, 1) := by decide +kernel
theorem d_R_put_10 : decode prog_5_method_3_code 10 = .ok (.iconst 1, 1) := by decide +kernel
theorem d_R_put_11 : decode prog_5_method_3_code 11 = .ok (.putfield 19, 3) := by decide +kernel
theorem d_R_put_14 : decode prog_5_method_3_code 14 = .ok (.return_, 1) := by decide +kernel
theorem d_R_put_15 : decode prog_5_method_3_code 15 = .ok (.aload_n 0, 1) := by decide +kernel
theorem d_R_put_16 : decode prog_5_method_3_code 16 = .ok (.getfield 9, 3) := by decide +kernel
theorem d_R_put_19 : decode prog_5_method_3_code 19 = .ok (.aload_n 0, 1) := by decide +kernel
theorem d_R_put_20 : decode prog_5_method_3_code 20 = .ok (.getfield 15, 3) := by decide +kernel
theorem d_R_put_23 : decode prog_5_method_3_code 23 = .ok (.iload_n 1, 1) := by decide +kernel
theorem d_R_put_24 : decode prog_5_method_3_code 24 = .ok (.i2b, 1) := by decide +kernel
theorem d_R_put_25 : decode prog_5_method_3_code 25 = .ok (.bastore, 1) := by decide +kernel
theorem d_R_put_26 : decode prog_5_method_3_code 26 = .ok (.aload_n 0, 1) := by decide +kernel
theorem d_R_put_27 : decode prog_5_method_3_code 27 = .ok (.dup, 1) := by decide +kernel
theorem d_R_put_28 : decode prog_5_method_3_code 28 = .ok (.getfield 15, 3) := by decide +kernel
theorem d_R_put_31 : decode prog_5_method_3_code 31 = .ok (.iconst 1, 1) := by decide +kernel
theorem d_R_put_32 : decode prog_5_method_3_code 32 = .ok (.iadd, 1) := by decide +kernel
theorem d_R_put_33 : decode prog_5_method_3_code 33 = .ok (.putfield 15, 3) := by decide +kernel
theorem d_R_put_36 : decode prog_5_method_3_code 36 = .ok (.return_, 1) := by decide +kernel
def m_R_put (G : Nat → Nat) (a0 : Nat) (a1 : Int32) (h : hp_H) : Option (Unit × hp_H) := (hp_gI h a0 4 1).bind fun x1 => if x1 < (64 : Int32) then ((hp_gR h a0 4 0).bind fun x2 => (hp_gI h a0 4 1).bind fun x3 => (hp_sI h .byte x2 x3 a1.toInt8.toInt32.toInt8.toInt32).bind fun h4 => (hp_gI h4 a0 4 1).bind fun x5 => (hp_p h4 a0 4 1 (.int (x5 + (1 : Int32)))).bind fun h6 => some ((), h6)) else ((hp_pZ h a0 4 2 (1 : Int32)).bind fun h7 => some ((), h7))
set_option maxRecDepth 100000 in
set_option maxHeartbeats 4000000 in
theorem j_R_put_0 {Z : hp_Z} (a0 : Nat) (a1 : Int32) (h : hp_H) : hp_J Y_R_put Z hp_rV h 0 [(0, .ref a0), (1, .int a1)] [] (m_R_put (hp_G Z)  a0 a1 h) := by
  unfold m_R_put
  refine hp_aload_n (x0 := 0) d_R_put_0 rfl rfl ?_
  refine hp_getI fl_R_15 d_R_put_1 fun x1 => ?_
  refine hp_bipush (v := 64) d_R_put_4 (by decide) ?_
  refine hp_icmp_lt (tgt := 15) d_R_put_6 (by decide) ?_ ?_
  · refine hp_aload_n (x0 := 0) d_R_put_15 rfl rfl ?_
    refine hp_getR fl_R_9 d_R_put_16 fun x2 => ?_
    refine hp_aload_n (x0 := 0) d_R_put_19 rfl rfl ?_
    refine hp_getI fl_R_15 d_R_put_20 fun x3 => ?_
    refine hp_iload_n (x0 := 1) d_R_put_23 rfl rfl ?_
    refine hp_i2b d_R_put_24 ?_
    refine hp_bast d_R_put_25 fun h4 => ?_
    refine hp_aload_n (x0 := 0) d_R_put_26 rfl rfl ?_
    refine hp_dup d_R_put_27 rfl ?_
    refine hp_getI fl_R_15 d_R_put_28 fun x5 => ?_
    refine hp_iconst (v := 1) d_R_put_31 (by decide) ?_
    refine hp_iadd d_R_put_32 ?_
    refine hp_put fl_R_15 (fun q => by cases q) rfl rfl d_R_put_33 fun h6 => ?_
    exact hp_vret d_R_put_36 rfl
  · refine hp_aload_n (x0 := 0) d_R_put_9 rfl rfl ?_
    refine hp_iconst (v := 1) d_R_put_10 (by decide) ?_
    refine hp_putZ fl_R_19 (fun q => by cases q) d_R_put_11 fun h7 => ?_
    exact hp_vret d_R_put_14 rfl
theorem t_R_put (l : Launch) (E : hp_E) (a0 : Nat) (a1 : Int32) : hp_M l E y_R_put Y_R_put hp_rV [.ref a0, .int a1] (m_R_put E.2.2.1 a0 a1) := hp_M.of (by decide +kernel) ⟨rfl, rfl⟩ (Nat.le_of_ble_eq_true rfl) (fun Z h hE => by subst hE; exact j_R_put_0 _ _ h)
-- D_type
theorem d_D_type_0 : decode prog_1_method_2_code 0 = .ok (.iload_n 3, 1) := by decide +kernel
theorem d_D_type_1 : decode prog_1_method_2_code 1 = .ok (.iconst 1, 1) := by decide +kernel
theorem d_D_type_2 : decode prog_1_method_2_code 2 = .ok (.if_icmp .lt 9, 3) := by decide +kernel
theorem d_D_type_5 : decode prog_1_method_2_code 5 = .ok (.iload_n 3, 1) := by decide +kernel
theorem d_D_type_6 : decode prog_1_method_2_code 6 = .ok (.bipush 8, 2) := by decide +kernel
theorem d_D_type_8 : decode prog_1_method_2_code 8 = .ok (.if_icmp .le 5, 3) := by decide +kernel
theorem d_D_type_11 : decode prog_1_method_2_code 11 = .ok (.iconst (-1), 1) := by decide +kernel
theorem d_D_type_12 : decode prog_1_method_2_code 12 = .ok (.ireturn, 1) := by decide +kernel
theorem d_D_type_13 : decode prog_1_method_2_code 13 = .ok (.aload_n 0, 1) := by decide +kernel
theorem d_D_type_14 : decode prog_1_method_2_code 14 = .ok (.getfield 19, 3) := by decide +kernel
theorem d_D_type_17 : decode prog_1_method_2_code 17 = .ok (.getfield 39, 3) := by decide +kernel
theorem d_D_type_20 : decode prog_1_method_2_code 20 = .ok (.iload_n 3, 1) := by decide +kernel
theorem d_D_type_21 : decode prog_1_method_2_code 21 = .ok (.iadd, 1) := by decide +kernel
theorem d_D_type_22 : decode prog_1_method_2_code 22 = .ok (.bipush 64, 2) := by decide +kernel
theorem d_D_type_24 : decode prog_1_method_2_code 24 = .ok (.if_icmp .le 6, 3) := by decide +kernel
theorem d_D_type_27 : decode prog_1_method_2_code 27 = .ok (.bipush (-3), 2) := by decide +kernel
theorem d_D_type_29 : decode prog_1_method_2_code 29 = .ok (.ireturn, 1) := by decide +kernel
theorem d_D_type_30 : decode prog_1_method_2_code 30 = .ok (.iload_n 3, 1) := by decide +kernel
theorem d_D_type_31 : decode prog_1_method_2_code 31 = .ok (.iconst 1, 1) := by decide +kernel
theorem d_D_type_32 : decode prog_1_method_2_code 32 = .ok (.isub, 1) := by decide +kernel
theorem d_D_type_33 : decode prog_1_method_2_code 33 = .ok (.istore 4, 2) := by decide +kernel
theorem d_D_type_35 : decode prog_1_method_2_code 35 = .ok (.iload 4, 2) := by decide +kernel
theorem d_D_type_37 : decode prog_1_method_2_code 37 = .ok (.ifCond .lt 24, 3) := by decide +kernel
theorem d_D_type_40 : decode prog_1_method_2_code 40 = .ok (.aload_n 0, 1) := by decide +kernel
theorem d_D_type_41 : decode prog_1_method_2_code 41 = .ok (.getfield 19, 3) := by decide +kernel
theorem d_D_type_44 : decode prog_1_method_2_code 44 = .ok (.lload_n 1, 1) := by decide +kernel
theorem d_D_type_45 : decode prog_1_method_2_code 45 = .ok (.bipush 8, 2) := by decide +kernel
theorem d_D_type_47 : decode prog_1_method_2_code 47 = .ok (.iload 4, 2) := by decide +kernel
theorem d_D_type_49 : decode prog_1_method_2_code 49 = .ok (.imul, 1) := by decide +kernel
theorem d_D_type_50 : decode prog_1_method_2_code 50 = .ok (.lushr, 1) := by decide +kernel
theorem d_D_type_51 : decode prog_1_method_2_code 51 = .ok (.l2i, 1) := by decide +kernel
theorem d_D_type_52 : decode prog_1_method_2_code 52 = .ok (.invokevirtual 43, 3) := by decide +kernel
theorem d_D_type_55 : decode prog_1_method_2_code 55 = .ok (.iinc 4 (-1), 3) := by decide +kernel
theorem d_D_type_58 : decode prog_1_method_2_code 58 = .ok (.goto (-23), 3) := by decide +kernel
theorem d_D_type_61 : decode prog_1_method_2_code 61 = .ok (.aload_n 0, 1) := by decide +kernel
theorem d_D_type_62 : decode prog_1_method_2_code 62 = .ok (.getfield 19, 3) := by decide +kernel
theorem d_D_type_65 : decode prog_1_method_2_code 65 = .ok (.getfield 39, 3) := by decide +kernel
theorem d_D_type_68 : decode prog_1_method_2_code 68 = .ok (.ireturn, 1) := by decide +kernel
def m_D_type_11 (G : Nat → Nat) (h : hp_H) : Option (Int32 × hp_H) := some ((-1 : Int32), h)
set_option maxRecDepth 100000 in
set_option maxHeartbeats 4000000 in
theorem j_D_type_11 {Z : hp_Z} (h : hp_H) : hp_J Y_D_type Z hp_rI h 11 [] [] (m_D_type_11 (hp_G Z)   h) := by
  unfold m_D_type_11
  refine hp_iconst (v := -1) d_D_type_11 (by decide) ?_
  exact hp_iret d_D_type_12 rfl
def m_D_type_35 (G : Nat → Nat) : Nat → Nat → Int64 → Int32 → hp_H → Option (Int32 × hp_H)
  | 0, _, _, _, _ => none
  | n + 1, a0, a1, a4, h => if a4 < 0 then ((hp_gR h a0 0 1).bind fun x1 => (hp_gI h x1 4 1).bind fun x2 => some (x2, h)) else ((hp_gR h a0 0 1).bind fun x3 => (hp_vck h x3 4 (m_R_put G x3 (((a1.toUInt64 >>> (((8 : Int32) * a4).toInt64.toUInt64 &&& Int64.toUInt64 63)).toInt64).toInt32) h)).bind fun q4 => hp_nm (a4 + (-1)) fun x5 => (m_D_type_35 G  n) a0 a1 x5 q4.2)
set_option maxRecDepth 100000 in
set_option maxHeartbeats 4000000 in
theorem j_D_type_35 {Z : hp_Z} : ∀ (n : Nat) (a0 : Nat) (a1 : Int64) (a4 : Int32) (h : hp_H), hp_J Y_D_type Z hp_rI h 35 [(0, .ref a0), (1, .long a1), (4, .int a4)] [] (m_D_type_35 (hp_G Z)  n a0 a1 a4 h) := by
  intro n
  induction n with
  | zero => intro a0 a1 a4 h; exact hp_fail
  | succ n ih =>
    intro a0 a1 a4 h
    rw [m_D_type_35]
    refine hp_iload (x0 := 2) d_D_type_35 rfl ?_
    refine hp_if_lt (tgt := 61) d_D_type_37 (by decide) ?_ ?_
    · refine hp_aload_n (x0 := 0) d_D_type_61 rfl rfl ?_
      refine hp_getR fl_D_19 d_D_type_62 fun x1 => ?_
      refine hp_getI fl_D_39 d_D_type_65 fun x2 => ?_
      exact hp_iret d_D_type_68 rfl
    · refine hp_aload_n (x0 := 0) d_D_type_40 rfl rfl ?_
      refine hp_getR fl_D_19 d_D_type_41 fun x3 => ?_
      refine hp_lload_n (x0 := 1) d_D_type_44 rfl rfl ?_
      refine hp_bipush (v := 8) d_D_type_45 (by decide) ?_
      refine hp_iload (x0 := 2) d_D_type_47 rfl ?_
      refine hp_imul d_D_type_49 ?_
      refine hp_lushr d_D_type_50 ?_
      refine hp_l2i d_D_type_51 ?_
      refine hp_callU (hp_crV (ci := 4) (t_R_put _ _ _ _) cw_D_43 rfl ⟨w_269, w_270⟩ (by decide) rfl rfl (Nat.le_of_ble_eq_true rfl) d_D_type_52) fun q4 => ?_
      refine hp_iinc (x0 := 2) (d := -1) (fun x5 => [(4, .int x5), (0, .ref a0), (1, .long a1)]) d_D_type_55 rfl (by decide) (by decide) (fun _ => rfl) fun x5 => ?_
      refine hp_goto (tgt := 35) d_D_type_58 (by decide) ?_
      refine hp_sub [1, 2, 0] rfl ?_
      exact ih _ _ _ _
def m_D_type (G : Nat → Nat) (a0 : Nat) (a1 : Int64) (a3 : Int32) (h : hp_H) : Option (Int32 × hp_H) := if a3 < (1 : Int32) then (m_D_type_11 G h) else (if a3 ≤ (8 : Int32) then ((hp_gR h a0 0 1).bind fun x1 => (hp_gI h x1 4 1).bind fun x2 => if (x2 + a3) ≤ (64 : Int32) then (hp_nm (a3 - (1 : Int32)) fun x3 => m_D_type_35 G hp_fu a0 a1 x3 h) else (some ((-3 : Int32), h))) else (m_D_type_11 G h))
set_option maxRecDepth 100000 in
set_option maxHeartbeats 4000000 in
theorem j_D_type_0 {Z : hp_Z} (a0 : Nat) (a1 : Int64) (a3 : Int32) (h : hp_H) : hp_J Y_D_type Z hp_rI h 0 [(0, .ref a0), (1, .long a1), (3, .int a3)] [] (m_D_type (hp_G Z)  a0 a1 a3 h) := by
  unfold m_D_type
  refine hp_iload_n (x0 := 2) d_D_type_0 rfl rfl ?_
  refine hp_iconst (v := 1) d_D_type_1 (by decide) ?_
  refine hp_icmp_lt (tgt := 11) d_D_type_2 (by decide) ?_ ?_
  · refine hp_sub [] rfl ?_
    exact j_D_type_11   _
  · refine hp_iload_n (x0 := 2) d_D_type_5 rfl rfl ?_
    refine hp_bipush (v := 8) d_D_type_6 (by decide) ?_
    refine hp_icmp_le (tgt := 13) d_D_type_8 (by decide) ?_ ?_
    · refine hp_aload_n (x0 := 0) d_D_type_13 rfl rfl ?_
      refine hp_getR fl_D_19 d_D_type_14 fun x1 => ?_
      refine hp_getI fl_D_39 d_D_type_17 fun x2 => ?_
      refine hp_iload_n (x0 := 2) d_D_type_20 rfl rfl ?_
      refine hp_iadd d_D_type_21 ?_
      refine hp_bipush (v := 64) d_D_type_22 (by decide) ?_
      refine hp_icmp_le (tgt := 30) d_D_type_24 (by decide) ?_ ?_
      · refine hp_iload_n (x0 := 2) d_D_type_30 rfl rfl ?_
        refine hp_iconst (v := 1) d_D_type_31 (by decide) ?_
        refine hp_isub d_D_type_32 ?_
        refine hp_istore (fun x3 => [(4, .int x3), (0, .ref a0), (1, .long a1), (3, .int a3)]) d_D_type_33 (by decide) (fun _ => rfl) fun x3 => ?_
        refine hp_sub [1, 2, 0] rfl ?_
        exact j_D_type_35  hp_fu _ _ _ _
      · refine hp_bipush (v := -3) d_D_type_27 (by decide) ?_
        exact hp_iret d_D_type_29 rfl
    · refine hp_sub [] rfl ?_
      exact j_D_type_11   _
theorem t_D_type (l : Launch) (E : hp_E) (a0 : Nat) (a1 : Int64) (a3 : Int32) : hp_M l E y_D_type Y_D_type hp_rI [.ref a0, .long a1, .int a3] (m_D_type E.2.2.1 a0 a1 a3) := hp_M.of (by decide +kernel) ⟨rfl, rfl⟩ (Nat.le_of_ble_eq_true rfl) (fun Z h hE => by subst hE; exact j_D_type_0 _ _ _ h)
-- D_isInSize
theorem d_D_isInSize_0 : decode prog_1_method_21_code 0 = .ok (.lload_n 0, 1) := by decide +kernel
theorem d_D_isInSize_1 : decode prog_1_method_21_code 1 = .ok (.ldc2_w 136, 3) := by decide +kernel
theorem d_D_isInSize_4 : decode prog_1_method_21_code 4 = .ok (.lcmp, 1) := by decide +kernel
theorem d_D_isInSize_5 : decode prog_1_method_21_code 5 = .ok (.ifCond .le 15, 3) := by decide +kernel
theorem d_D_isInSize_8 : decode prog_1_method_21_code 8 = .ok (.lload_n 0, 1) := by decide +kernel
theorem d_D_isInSize_9 : decode prog_1_method_21_code 9 = .ok (.ldc2_w 138, 3) := by decide +kernel
theorem d_D_isInSize_12 : decode prog_1_method_21_code 12 = .ok (.lcmp, 1) := by decide +kernel
theorem d_D_isInSize_13 : decode prog_1_method_21_code 13 = .ok (.ifCond .ge 7, 3) := by decide +kernel
theorem d_D_isInSize_16 : decode prog_1_method_21_code 16 = .ok (.iconst 1, 1) := by decide +kernel
theorem d_D_isInSize_17 : decode prog_1_method_21_code 17 = .ok (.goto 4, 3) := by decide +kernel
theorem d_D_isInSize_20 : decode prog_1_method_21_code 20 = .ok (.iconst 0, 1) := by decide +kernel
theorem d_D_isInSize_21 : decode prog_1_method_21_code 21 = .ok (.ireturn, 1) := by decide +kernel
def m_D_isInSize_21 (G : Nat → Nat) (s0 : Int32) (h : hp_H) : Option (Int32 × hp_H) := hp_z s0 h
set_option maxRecDepth 100000 in
set_option maxHeartbeats 4000000 in
theorem j_D_isInSize_21 {Z : hp_Z} (s0 : Int32) (h : hp_H) : hp_J Y_D_isInSize Z hp_rI h 21 [] [.int s0] (m_D_isInSize_21 (hp_G Z)  s0 h) := by
  unfold m_D_isInSize_21
  exact hp_zret d_D_isInSize_21 rfl
def m_D_isInSize_20 (G : Nat → Nat) (h : hp_H) : Option (Int32 × hp_H) := m_D_isInSize_21 G (0 : Int32) h
set_option maxRecDepth 100000 in
set_option maxHeartbeats 4000000 in
theorem j_D_isInSize_20 {Z : hp_Z} (h : hp_H) : hp_J Y_D_isInSize Z hp_rI h 20 [] [] (m_D_isInSize_20 (hp_G Z)   h) := by
  unfold m_D_isInSize_20
  refine hp_iconst (v := 0) d_D_isInSize_20 (by decide) ?_
  exact j_D_isInSize_21  _ _
def m_D_isInSize (G : Nat → Nat) (a0 : Int64) (h : hp_H) : Option (Int32 × hp_H) := if (lg_cmp a0 (-1000000000000000000 : Int64)) ≤ 0 then (m_D_isInSize_20 G h) else (if 0 ≤ (lg_cmp a0 (1000000000000000000 : Int64)) then (m_D_isInSize_20 G h) else (m_D_isInSize_21 G (1 : Int32) h))
set_option maxRecDepth 100000 in
set_option maxHeartbeats 4000000 in
theorem j_D_isInSize_0 {Z : hp_Z} (a0 : Int64) (h : hp_H) : hp_J Y_D_isInSize Z hp_rI h 0 [(0, .long a0)] [] (m_D_isInSize (hp_G Z)  a0 h) := by
  unfold m_D_isInSize
  refine hp_lload_n (x0 := 0) d_D_isInSize_0 rfl rfl ?_
  refine hp_ldc2 (v := -1000000000000000000) d_D_isInSize_1 w_279 ?_
  refine hp_lcmp d_D_isInSize_4 ?_
  refine hp_if_le (tgt := 20) d_D_isInSize_5 (by decide) ?_ ?_
  · refine hp_sub [] rfl ?_
    exact j_D_isInSize_20   _
  · refine hp_lload_n (x0 := 0) d_D_isInSize_8 rfl rfl ?_
    refine hp_ldc2 (v := 1000000000000000000) d_D_isInSize_9 w_280 ?_
    refine hp_lcmp d_D_isInSize_12 ?_
    refine hp_if_ge (tgt := 20) d_D_isInSize_13 (by decide) ?_ ?_
    · refine hp_sub [] rfl ?_
      exact j_D_isInSize_20   _
    · refine hp_iconst (v := 1) d_D_isInSize_16 (by decide) ?_
      refine hp_goto (tgt := 21) d_D_isInSize_17 (by decide) ?_
      refine hp_sub [] rfl ?_
      exact j_D_isInSize_21  _ _
theorem t_D_isInSize (l : Launch) (E : hp_E) (a0 : Int64) : hp_M l E y_D_isInSize Y_D_isInSize hp_rI [.long a0] (m_D_isInSize E.2.2.1 a0) := hp_M.of (by decide +kernel) ⟨rfl, rfl⟩ (Nat.le_of_ble_eq_true rfl) (fun Z h hE => by subst hE; exact j_D_isInSize_0 _ h)
-- AL_elementData
theorem d_AL_elementData_0 : decode prog_22_method_18_code 0 = .ok (.aload_n 0, 1) := by decide +kernel
theorem d_AL_elementData_1 : decode prog_22_method_18_code 1 = .ok (.getfield 9, 3) := by decide +kernel
theorem d_AL_elementData_4 : decode prog_22_method_18_code 4 = .ok (.iload_n 1, 1) := by decide +kernel
theorem d_AL_elementData_5 : decode prog_22_method_18_code 5 = .ok (.aaload, 1) := by decide +kernel
theorem d_AL_elementData_6 : decode prog_22_method_18_code 6 = .ok (.areturn, 1) := by decide +kernel
def m_AL_elementData (G : Nat → Nat) (a0 : Nat) (a1 : Int32) (h : hp_H) : Option (Nat × hp_H) := (hp_gR h a0 2 0).bind fun x1 => (hp_aR h x1 a1).bind fun x2 => some (x2, h)
set_option maxRecDepth 100000 in
set_option maxHeartbeats 4000000 in
theorem j_AL_elementData_0 {Z : hp_Z} (a0 : Nat) (a1 : Int32) (h : hp_H) : hp_J Y_AL_elementData Z hp_rR h 0 [(0, .ref a0), (1, .int a1)] [] (m_AL_elementData (hp_G Z)  a0 a1 h) := by
  unfold m_AL_elementData
  refine hp_aload_n (x0 := 0) d_AL_elementData_0 rfl rfl ?_
  refine hp_getR fl_AL_9 d_AL_elementData_1 fun x1 => ?_
  refine hp_iload_n (x0 := 1) d_AL_elementData_4 rfl rfl ?_
  refine hp_aald d_AL_elementData_5 fun x2 => ?_
  exact hp_aret d_AL_elementData_6 rfl (Or.inl ⟨_, rfl⟩)
theorem t_AL_elementData (l : Launch) (E : hp_E) (a0 : Nat) (a1 : Int32) : hp_M l E y_AL_elementData Y_AL_elementData hp_rR [.ref a0, .int a1] (m_AL_elementData E.2.2.1 a0 a1) := hp_M.of (by decide +kernel) ⟨rfl, rfl⟩ (Nat.le_of_ble_eq_true rfl) (fun Z h hE => by subst hE; exact j_AL_elementData_0 _ _ h)
-- AL_size
theorem d_AL_size_0 : decode prog_22_method_8_code 0 = .ok (.aload_n 0, 1) := by decide +kernel
theorem d_AL_size_1 : decode prog_22_method_8_code 1 = .ok (.getfield 48, 3) := by decide +kernel
theorem d_AL_size_4 : decode prog_22_method_8_code 4 = .ok (.ireturn, 1) := by decide +kernel
def m_AL_size (G : Nat → Nat) (a0 : Nat) (h : hp_H) : Option (Int32 × hp_H) := (hp_gI h a0 2 1).bind fun x1 => some (x1, h)
set_option maxRecDepth 100000 in
set_option maxHeartbeats 4000000 in
theorem j_AL_size_0 {Z : hp_Z} (a0 : Nat) (h : hp_H) : hp_J Y_AL_size Z hp_rI h 0 [(0, .ref a0)] [] (m_AL_size (hp_G Z)  a0 h) := by
  unfold m_AL_size
  refine hp_aload_n (x0 := 0) d_AL_size_0 rfl rfl ?_
  refine hp_getI fl_AL_48 d_AL_size_1 fun x1 => ?_
  exact hp_iret d_AL_size_4 rfl
theorem t_AL_size (l : Launch) (E : hp_E) (a0 : Nat) : hp_M l E y_AL_size Y_AL_size hp_rI [.ref a0] (m_AL_size E.2.2.1 a0) := hp_M.of (by decide +kernel) ⟨rfl, rfl⟩ (Nat.le_of_ble_eq_true rfl) (fun Z h hE => by subst hE; exact j_AL_size_0 _ h)
-- R_holds
theorem d_R_holds_0 : decode prog_5_method_9_code 0 = .ok (.aload_n 0, 1) := by decide +kernel
theorem d_R_holds_1 : decode prog_5_method_9_code 1 = .ok (.getfield 15, 3) := by decide +kernel
theorem d_R_holds_4 : decode prog_5_method_9_code 4 = .ok (.aload_n 1, 1) := by decide +kernel
theorem d_R_holds_5 : decode prog_5_method_9_code 5 = .ok (.arraylength, 1) := by decide +kernel
theorem d_R_holds_6 : decode prog_5_method_9_code 6 = .ok (.if_icmp .eq 5, 3) := by decide +kernel
theorem d_R_holds_9 : decode prog_5_method_9_code 9 = .ok (.iconst 0, 1) := by decide +kernel
theorem d_R_holds_10 : decode prog_5_method_9_code 10 = .ok (.ireturn, 1) := by decide +kernel
theorem d_R_holds_11 : decode prog_5_method_9_code 11 = .ok (.iconst 0, 1) := by decide +kernel
theorem d_R_holds_12 : decode prog_5_method_9_code 12 = .ok (.istore_n 2, 1) := by decide +kernel
theorem d_R_holds_13 : decode prog_5_method_9_code 13 = .ok (.iload_n 2, 1) := by decide +kernel
theorem d_R_holds_14 : decode prog_5_method_9_code 14 = .ok (.aload_n 0, 1) := by decide +kernel
theorem d_R_holds_15 : decode prog_5_method_9_code 15 = .ok (.getfield 15, 3) := by decide +kernel
theorem d_R_holds_18 : decode prog_5_method_9_code 18 = .ok (.if_icmp .ge 29, 3) := by decide +kernel
theorem d_R_holds_21 : decode prog_5_method_9_code 21 = .ok (.iload_n 2, 1) := by decide +kernel
theorem d_R_holds_22 : decode prog_5_method_9_code 22 = .ok (.aload_n 1, 1) := by decide +kernel
theorem d_R_holds_23 : decode prog_5_method_9_code 23 = .ok (.arraylength, 1) := by decide +kernel
theorem d_R_holds_24 : decode prog_5_method_9_code 24 = .ok (.if_icmp .ge 23, 3) := by decide +kernel
theorem d_R_holds_27 : decode prog_5_method_9_code 27 = .ok (.aload_n 0, 1) := by decide +kernel
theorem d_R_holds_28 : decode prog_5_method_9_code 28 = .ok (.getfield 9, 3) := by decide +kernel
theorem d_R_holds_31 : decode prog_5_method_9_code 31 = .ok (.iload_n 2, 1) := by decide +kernel
theorem d_R_holds_32 : decode prog_5_method_9_code 32 = .ok (.baload, 1) := by decide +kernel
theorem d_R_holds_33 : decode prog_5_method_9_code 33 = .ok (.aload_n 1, 1) := by decide +kernel
theorem d_R_holds_34 : decode prog_5_method_9_code 34 = .ok (.iload_n 2, 1) := by decide +kernel
theorem d_R_holds_35 : decode prog_5_method_9_code 35 = .ok (.baload, 1) := by decide +kernel
theorem d_R_holds_36 : decode prog_5_method_9_code 36 = .ok (.if_icmp .eq 5, 3) := by decide +kernel
theorem d_R_holds_39 : decode prog_5_method_9_code 39 = .ok (.iconst 0, 1) := by decide +kernel
theorem d_R_holds_40 : decode prog_5_method_9_code 40 = .ok (.ireturn, 1) := by decide +kernel
theorem d_R_holds_41 : decode prog_5_method_9_code 41 = .ok (.iinc 2 1, 3) := by decide +kernel
theorem d_R_holds_44 : decode prog_5_method_9_code 44 = .ok (.goto (-31), 3) := by decide +kernel
theorem d_R_holds_47 : decode prog_5_method_9_code 47 = .ok (.iconst 1, 1) := by decide +kernel
theorem d_R_holds_48 : decode prog_5_method_9_code 48 = .ok (.ireturn, 1) := by decide +kernel
def m_R_holds_47 (G : Nat → Nat) (h : hp_H) : Option (Int32 × hp_H) := hp_z (1 : Int32) h
set_option maxRecDepth 100000 in
set_option maxHeartbeats 4000000 in
theorem j_R_holds_47 {Z : hp_Z} (h : hp_H) : hp_J Y_R_holds Z hp_rI h 47 [] [] (m_R_holds_47 (hp_G Z)   h) := by
  unfold m_R_holds_47
  refine hp_iconst (v := 1) d_R_holds_47 (by decide) ?_
  exact hp_zret d_R_holds_48 rfl
def m_R_holds_13 (G : Nat → Nat) : Nat → Nat → Nat → Int32 → hp_H → Option (Int32 × hp_H)
  | 0, _, _, _, _ => none
  | n + 1, a0, a1, a2, h => (hp_gI h a0 4 1).bind fun x1 => if x1 ≤ a2 then (m_R_holds_47 G h) else ((hp_len h a1).bind fun x2 => if x2 ≤ a2 then (m_R_holds_47 G h) else ((hp_gR h a0 4 0).bind fun x3 => (hp_aI h .byte x3 a2).bind fun x4 => (hp_aI h .byte a1 a2).bind fun x5 => if x4 = x5 then (hp_nm (a2 + 1) fun x6 => (m_R_holds_13 G  n) a0 a1 x6 h) else (hp_z (0 : Int32) h)))
set_option maxRecDepth 100000 in
set_option maxHeartbeats 4000000 in
theorem j_R_holds_13 {Z : hp_Z} : ∀ (n : Nat) (a0 : Nat) (a1 : Nat) (a2 : Int32) (h : hp_H), hp_J Y_R_holds Z hp_rI h 13 [(0, .ref a0), (1, .ref a1), (2, .int a2)] [] (m_R_holds_13 (hp_G Z)  n a0 a1 a2 h) := by
  intro n
  induction n with
  | zero => intro a0 a1 a2 h; exact hp_fail
  | succ n ih =>
    intro a0 a1 a2 h
    rw [m_R_holds_13]
    refine hp_iload_n (x0 := 2) d_R_holds_13 rfl rfl ?_
    refine hp_aload_n (x0 := 0) d_R_holds_14 rfl rfl ?_
    refine hp_getI fl_R_15 d_R_holds_15 fun x1 => ?_
    refine hp_icmp_ge (tgt := 47) d_R_holds_18 (by decide) ?_ ?_
    · refine hp_sub [] rfl ?_
      exact j_R_holds_47   _
    · refine hp_iload_n (x0 := 2) d_R_holds_21 rfl rfl ?_
      refine hp_aload_n (x0 := 1) d_R_holds_22 rfl rfl ?_
      refine hp_alen d_R_holds_23 fun x2 => ?_
      refine hp_icmp_ge (tgt := 47) d_R_holds_24 (by decide) ?_ ?_
      · refine hp_sub [] rfl ?_
        exact j_R_holds_47   _
      · refine hp_aload_n (x0 := 0) d_R_holds_27 rfl rfl ?_
        refine hp_getR fl_R_9 d_R_holds_28 fun x3 => ?_
        refine hp_iload_n (x0 := 2) d_R_holds_31 rfl rfl ?_
        refine hp_bald d_R_holds_32 fun x4 => ?_
        refine hp_aload_n (x0 := 1) d_R_holds_33 rfl rfl ?_
        refine hp_iload_n (x0 := 2) d_R_holds_34 rfl rfl ?_
        refine hp_bald d_R_holds_35 fun x5 => ?_
        refine hp_icmp_eq (tgt := 41) d_R_holds_36 (by decide) ?_ ?_
        · refine hp_iinc (x0 := 2) (d := 1) (fun x6 => [(2, .int x6), (0, .ref a0), (1, .ref a1)]) d_R_holds_41 rfl (by decide) (by decide) (fun _ => rfl) fun x6 => ?_
          refine hp_goto (tgt := 13) d_R_holds_44 (by decide) ?_
          refine hp_sub [1, 2, 0] rfl ?_
          exact ih _ _ _ _
        · refine hp_iconst (v := 0) d_R_holds_39 (by decide) ?_
          exact hp_zret d_R_holds_40 rfl
def m_R_holds (G : Nat → Nat) (a0 : Nat) (a1 : Nat) (h : hp_H) : Option (Int32 × hp_H) := (hp_gI h a0 4 1).bind fun x1 => (hp_len h a1).bind fun x2 => if x1 = x2 then (hp_nm (0 : Int32) fun x3 => m_R_holds_13 G hp_fu a0 a1 x3 h) else (hp_z (0 : Int32) h)
set_option maxRecDepth 100000 in
set_option maxHeartbeats 4000000 in
theorem j_R_holds_0 {Z : hp_Z} (a0 : Nat) (a1 : Nat) (h : hp_H) : hp_J Y_R_holds Z hp_rI h 0 [(0, .ref a0), (1, .ref a1)] [] (m_R_holds (hp_G Z)  a0 a1 h) := by
  unfold m_R_holds
  refine hp_aload_n (x0 := 0) d_R_holds_0 rfl rfl ?_
  refine hp_getI fl_R_15 d_R_holds_1 fun x1 => ?_
  refine hp_aload_n (x0 := 1) d_R_holds_4 rfl rfl ?_
  refine hp_alen d_R_holds_5 fun x2 => ?_
  refine hp_icmp_eq (tgt := 11) d_R_holds_6 (by decide) ?_ ?_
  · refine hp_iconst (v := 0) d_R_holds_11 (by decide) ?_
    refine hp_istore_n (fun x3 => [(2, .int x3), (0, .ref a0), (1, .ref a1)]) d_R_holds_12 rfl (by decide) (fun _ => rfl) fun x3 => ?_
    refine hp_sub [1, 2, 0] rfl ?_
    exact j_R_holds_13  hp_fu _ _ _ _
  · refine hp_iconst (v := 0) d_R_holds_9 (by decide) ?_
    exact hp_zret d_R_holds_10 rfl
theorem t_R_holds (l : Launch) (E : hp_E) (a0 : Nat) (a1 : Nat) : hp_M l E y_R_holds Y_R_holds hp_rI [.ref a0, .ref a1] (m_R_holds E.2.2.1 a0 a1) := hp_M.of (by decide +kernel) ⟨rfl, rfl⟩ (Nat.le_of_ble_eq_true rfl) (fun Z h hE => by subst hE; exact j_R_holds_0 _ _ h)
-- S_chainOf
theorem d_S_chainOf_0 : decode prog_6_method_10_code 0 = .ok (.iload_n 0, 1) := by decide +kernel
theorem d_S_chainOf_1 : decode prog_6_method_10_code 1 = .ok (.i2l, 1) := by decide +kernel
theorem d_S_chainOf_2 : decode prog_6_method_10_code 2 = .ok (.ldc2_w 113, 3) := by decide +kernel
theorem d_S_chainOf_5 : decode prog_6_method_10_code 5 = .ok (.lmul, 1) := by decide +kernel
theorem d_S_chainOf_6 : decode prog_6_method_10_code 6 = .ok (.iload_n 1, 1) := by decide +kernel
theorem d_S_chainOf_7 : decode prog_6_method_10_code 7 = .ok (.i2l, 1) := by decide +kernel
theorem d_S_chainOf_8 : decode prog_6_method_10_code 8 = .ok (.ladd, 1) := by decide +kernel
theorem d_S_chainOf_9 : decode prog_6_method_10_code 9 = .ok (.ldc2_w 113, 3) := by decide +kernel
theorem d_S_chainOf_12 : decode prog_6_method_10_code 12 = .ok (.lmul, 1) := by decide +kernel
theorem d_S_chainOf_13 : decode prog_6_method_10_code 13 = .ok (.iload 4, 2) := by decide +kernel
theorem d_S_chainOf_15 : decode prog_6_method_10_code 15 = .ok (.i2l, 1) := by decide +kernel
theorem d_S_chainOf_16 : decode prog_6_method_10_code 16 = .ok (.ladd, 1) := by decide +kernel
theorem d_S_chainOf_17 : decode prog_6_method_10_code 17 = .ok (.ldc2_w 113, 3) := by decide +kernel
theorem d_S_chainOf_20 : decode prog_6_method_10_code 20 = .ok (.lmul, 1) := by decide +kernel
theorem d_S_chainOf_21 : decode prog_6_method_10_code 21 = .ok (.lload_n 2, 1) := by decide +kernel
theorem d_S_chainOf_22 : decode prog_6_method_10_code 22 = .ok (.ladd, 1) := by decide +kernel
theorem d_S_chainOf_23 : decode prog_6_method_10_code 23 = .ok (.lstore 6, 2) := by decide +kernel
theorem d_S_chainOf_25 : decode prog_6_method_10_code 25 = .ok (.iconst 0, 1) := by decide +kernel
theorem d_S_chainOf_26 : decode prog_6_method_10_code 26 = .ok (.istore 8, 2) := by decide +kernel
theorem d_S_chainOf_28 : decode prog_6_method_10_code 28 = .ok (.iload 8, 2) := by decide +kernel
theorem d_S_chainOf_30 : decode prog_6_method_10_code 30 = .ok (.aload 5, 2) := by decide +kernel
theorem d_S_chainOf_32 : decode prog_6_method_10_code 32 = .ok (.getfield 99, 3) := by decide +kernel
theorem d_S_chainOf_35 : decode prog_6_method_10_code 35 = .ok (.if_icmp .ge 34, 3) := by decide +kernel
theorem d_S_chainOf_38 : decode prog_6_method_10_code 38 = .ok (.iload 8, 2) := by decide +kernel
theorem d_S_chainOf_40 : decode prog_6_method_10_code 40 = .ok (.bipush 64, 2) := by decide +kernel
theorem d_S_chainOf_42 : decode prog_6_method_10_code 42 = .ok (.if_icmp .ge 27, 3) := by decide +kernel
theorem d_S_chainOf_45 : decode prog_6_method_10_code 45 = .ok (.lload 6, 2) := by decide +kernel
theorem d_S_chainOf_47 : decode prog_6_method_10_code 47 = .ok (.ldc2_w 113, 3) := by decide +kernel
theorem d_S_chainOf_50 : decode prog_6_method_10_code 50 = .ok (.lmul, 1) := by decide +kernel
theorem d_S_chainOf_51 : decode prog_6_method_10_code 51 = .ok (.aload 5, 2) := by decide +kernel
theorem d_S_chainOf_53 : decode prog_6_method_10_code 53 = .ok (.getfield 102, 3) := by decide +kernel
theorem d_S_chainOf_56 : decode prog_6_method_10_code 56 = .ok (.iload 8, 2) := by decide +kernel
theorem d_S_chainOf_58 : decode prog_6_method_10_code 58 = .ok (.baload, 1) := by decide +kernel
theorem d_S_chainOf_59 : decode prog_6_method_10_code 59 = .ok (.i2l, 1) := by decide +kernel
theorem d_S_chainOf_60 : decode prog_6_method_10_code 60 = .ok (.ladd, 1) := by decide +kernel
theorem d_S_chainOf_61 : decode prog_6_method_10_code 61 = .ok (.lstore 6, 2) := by decide +kernel
theorem d_S_chainOf_63 : decode prog_6_method_10_code 63 = .ok (.iinc 8 1, 3) := by decide +kernel
theorem d_S_chainOf_66 : decode prog_6_method_10_code 66 = .ok (.goto (-38), 3) := by decide +kernel
theorem d_S_chainOf_69 : decode prog_6_method_10_code 69 = .ok (.lload 6, 2) := by decide +kernel
theorem d_S_chainOf_71 : decode prog_6_method_10_code 71 = .ok (.lload 6, 2) := by decide +kernel
theorem d_S_chainOf_73 : decode prog_6_method_10_code 73 = .ok (.bipush 21, 2) := by decide +kernel
theorem d_S_chainOf_75 : decode prog_6_method_10_code 75 = .ok (.lushr, 1) := by decide +kernel
theorem d_S_chainOf_76 : decode prog_6_method_10_code 76 = .ok (.lxor, 1) := by decide +kernel
theorem d_S_chainOf_77 : decode prog_6_method_10_code 77 = .ok (.lload 6, 2) := by decide +kernel
theorem d_S_chainOf_79 : decode prog_6_method_10_code 79 = .ok (.bipush 42, 2) := by decide +kernel
theorem d_S_chainOf_81 : decode prog_6_method_10_code 81 = .ok (.lushr, 1) := by decide +kernel
theorem d_S_chainOf_82 : decode prog_6_method_10_code 82 = .ok (.lxor, 1) := by decide +kernel
theorem d_S_chainOf_83 : decode prog_6_method_10_code 83 = .ok (.l2i, 1) := by decide +kernel
theorem d_S_chainOf_84 : decode prog_6_method_10_code 84 = .ok (.sipush 255, 3) := by decide +kernel
theorem d_S_chainOf_87 : decode prog_6_method_10_code 87 = .ok (.iand, 1) := by decide +kernel
theorem d_S_chainOf_88 : decode prog_6_method_10_code 88 = .ok (.ireturn, 1) := by decide +kernel
def m_S_chainOf_69 (G : Nat → Nat) (a6 : Int64) (h : hp_H) : Option (Int32 × hp_H) := some ((((a6 ^^^ ((a6.toUInt64 >>> ((21 : Int32).toInt64.toUInt64 &&& Int64.toUInt64 63)).toInt64)) ^^^ ((a6.toUInt64 >>> ((42 : Int32).toInt64.toUInt64 &&& Int64.toUInt64 63)).toInt64)).toInt32) &&& (255 : Int32), h)
set_option maxRecDepth 100000 in
set_option maxHeartbeats 4000000 in
theorem j_S_chainOf_69 {Z : hp_Z} (a6 : Int64) (h : hp_H) : hp_J Y_S_chainOf Z hp_rI h 69 [(6, .long a6)] [] (m_S_chainOf_69 (hp_G Z)  a6 h) := by
  unfold m_S_chainOf_69
  refine hp_lload (x0 := 0) d_S_chainOf_69 rfl ?_
  refine hp_lload (x0 := 0) d_S_chainOf_71 rfl ?_
  refine hp_bipush (v := 21) d_S_chainOf_73 (by decide) ?_
  refine hp_lushr d_S_chainOf_75 ?_
  refine hp_lxor d_S_chainOf_76 ?_
  refine hp_lload (x0 := 0) d_S_chainOf_77 rfl ?_
  refine hp_bipush (v := 42) d_S_chainOf_79 (by decide) ?_
  refine hp_lushr d_S_chainOf_81 ?_
  refine hp_lxor d_S_chainOf_82 ?_
  refine hp_l2i d_S_chainOf_83 ?_
  refine hp_sipush (v := 255) d_S_chainOf_84 (by decide) ?_
  refine hp_iand d_S_chainOf_87 ?_
  exact hp_iret d_S_chainOf_88 rfl
def m_S_chainOf_28 (G : Nat → Nat) : Nat → Nat → Int64 → Int32 → hp_H → Option (Int32 × hp_H)
  | 0, _, _, _, _ => none
  | n + 1, a5, a6, a8, h => (hp_gI h a5 4 1).bind fun x1 => if x1 ≤ a8 then (m_S_chainOf_69 G a6 h) else (if (64 : Int32) ≤ a8 then (m_S_chainOf_69 G a6 h) else ((hp_gR h a5 4 0).bind fun x2 => (hp_aI h .byte x2 a8).bind fun x3 => hp_nm ((a6 * (31 : Int64)) + x3.toInt64) fun x4 => hp_nm (a8 + 1) fun x5 => (m_S_chainOf_28 G  n) a5 x4 x5 h))
set_option maxRecDepth 100000 in
set_option maxHeartbeats 4000000 in
theorem j_S_chainOf_28 {Z : hp_Z} : ∀ (n : Nat) (a5 : Nat) (a6 : Int64) (a8 : Int32) (h : hp_H), hp_J Y_S_chainOf Z hp_rI h 28 [(5, .ref a5), (6, .long a6), (8, .int a8)] [] (m_S_chainOf_28 (hp_G Z)  n a5 a6 a8 h) := by
  intro n
  induction n with
  | zero => intro a5 a6 a8 h; exact hp_fail
  | succ n ih =>
    intro a5 a6 a8 h
    rw [m_S_chainOf_28]
    refine hp_iload (x0 := 2) d_S_chainOf_28 rfl ?_
    refine hp_aload (x0 := 0) d_S_chainOf_30 rfl ?_
    refine hp_getI fl_S_99 d_S_chainOf_32 fun x1 => ?_
    refine hp_icmp_ge (tgt := 69) d_S_chainOf_35 (by decide) ?_ ?_
    · refine hp_sub [1] rfl ?_
      exact j_S_chainOf_69  _ _
    · refine hp_iload (x0 := 2) d_S_chainOf_38 rfl ?_
      refine hp_bipush (v := 64) d_S_chainOf_40 (by decide) ?_
      refine hp_icmp_ge (tgt := 69) d_S_chainOf_42 (by decide) ?_ ?_
      · refine hp_sub [1] rfl ?_
        exact j_S_chainOf_69  _ _
      · refine hp_lload (x0 := 1) d_S_chainOf_45 rfl ?_
        refine hp_ldc2 (v := 31) d_S_chainOf_47 w_292 ?_
        refine hp_lmul d_S_chainOf_50 ?_
        refine hp_aload (x0 := 0) d_S_chainOf_51 rfl ?_
        refine hp_getR fl_S_102 d_S_chainOf_53 fun x2 => ?_
        refine hp_iload (x0 := 2) d_S_chainOf_56 rfl ?_
        refine hp_bald d_S_chainOf_58 fun x3 => ?_
        refine hp_i2l d_S_chainOf_59 ?_
        refine hp_ladd d_S_chainOf_60 ?_
        refine hp_lstore (fun x4 => [(6, .long x4), (5, .ref a5), (8, .int a8)]) d_S_chainOf_61 (by decide) (fun _ => rfl) fun x4 => ?_
        refine hp_iinc (x0 := 2) (d := 1) (fun x5 => [(8, .int x5), (6, .long x4), (5, .ref a5)]) d_S_chainOf_63 rfl (by decide) (by decide) (fun _ => rfl) fun x5 => ?_
        refine hp_goto (tgt := 28) d_S_chainOf_66 (by decide) ?_
        refine hp_sub [2, 1, 0] rfl ?_
        exact ih _ _ _ _
def m_S_chainOf (G : Nat → Nat) (a0 : Int32) (a1 : Int32) (a2 : Int64) (a4 : Int32) (a5 : Nat) (h : hp_H) : Option (Int32 × hp_H) := hp_nm ((((((a0.toInt64 * (31 : Int64)) + a1.toInt64) * (31 : Int64)) + a4.toInt64) * (31 : Int64)) + a2) fun x1 => hp_nm (0 : Int32) fun x2 => m_S_chainOf_28 G hp_fu a5 x1 x2 h
set_option maxRecDepth 100000 in
set_option maxHeartbeats 4000000 in
theorem j_S_chainOf_0 {Z : hp_Z} (a0 : Int32) (a1 : Int32) (a2 : Int64) (a4 : Int32) (a5 : Nat) (h : hp_H) : hp_J Y_S_chainOf Z hp_rI h 0 [(0, .int a0), (1, .int a1), (2, .long a2), (4, .int a4), (5, .ref a5)] [] (m_S_chainOf (hp_G Z)  a0 a1 a2 a4 a5 h) := by
  unfold m_S_chainOf
  refine hp_iload_n (x0 := 0) d_S_chainOf_0 rfl rfl ?_
  refine hp_i2l d_S_chainOf_1 ?_
  refine hp_ldc2 (v := 31) d_S_chainOf_2 w_292 ?_
  refine hp_lmul d_S_chainOf_5 ?_
  refine hp_iload_n (x0 := 1) d_S_chainOf_6 rfl rfl ?_
  refine hp_i2l d_S_chainOf_7 ?_
  refine hp_ladd d_S_chainOf_8 ?_
  refine hp_ldc2 (v := 31) d_S_chainOf_9 w_292 ?_
  refine hp_lmul d_S_chainOf_12 ?_
  refine hp_iload (x0 := 3) d_S_chainOf_13 rfl ?_
  refine hp_i2l d_S_chainOf_15 ?_
  refine hp_ladd d_S_chainOf_16 ?_
  refine hp_ldc2 (v := 31) d_S_chainOf_17 w_292 ?_
  refine hp_lmul d_S_chainOf_20 ?_
  refine hp_lload_n (x0 := 2) d_S_chainOf_21 rfl rfl ?_
  refine hp_ladd d_S_chainOf_22 ?_
  refine hp_lstore (fun x1 => [(6, .long x1), (0, .int a0), (1, .int a1), (2, .long a2), (4, .int a4), (5, .ref a5)]) d_S_chainOf_23 (by decide) (fun _ => rfl) fun x1 => ?_
  refine hp_iconst (v := 0) d_S_chainOf_25 (by decide) ?_
  refine hp_istore (fun x2 => [(8, .int x2), (6, .long x1), (0, .int a0), (1, .int a1), (2, .long a2), (4, .int a4), (5, .ref a5)]) d_S_chainOf_26 (by decide) (fun _ => rfl) fun x2 => ?_
  refine hp_sub [6, 1, 0] rfl ?_
  exact j_S_chainOf_28  hp_fu _ _ _ _
theorem t_S_chainOf (l : Launch) (E : hp_E) (a0 : Int32) (a1 : Int32) (a2 : Int64) (a4 : Int32) (a5 : Nat) : hp_M l E y_S_chainOf Y_S_chainOf hp_rI [.int a0, .int a1, .long a2, .int a4, .ref a5] (m_S_chainOf E.2.2.1 a0 a1 a2 a4 a5) := hp_M.of (by decide +kernel) ⟨rfl, rfl⟩ (Nat.le_of_ble_eq_true rfl) (fun Z h hE => by subst hE; exact j_S_chainOf_0 _ _ _ _ _ h)
-- MA_min
theorem d_MA_min_0 : decode prog_15_method_69_code 0 = .ok (.iload_n 0, 1) := by decide +kernel
theorem d_MA_min_1 : decode prog_15_method_69_code 1 = .ok (.iload_n 1, 1) := by decide +kernel
theorem d_MA_min_2 : decode prog_15_method_69_code 2 = .ok (.if_icmp .gt 7, 3) := by decide +kernel
theorem d_MA_min_5 : decode prog_15_method_69_code 5 = .ok (.iload_n 0, 1) := by decide +kernel
theorem d_MA_min_6 : decode prog_15_method_69_code 6 = .ok (.goto 4, 3) := by decide +kernel
theorem d_MA_min_9 : decode prog_15_method_69_code 9 = .ok (.iload_n 1, 1) := by decide +kernel
theorem d_MA_min_10 : decode prog_15_method_69_code 10 = .ok (.ireturn, 1) := by decide +kernel
def m_MA_min_10 (G : Nat → Nat) (s0 : Int32) (h : hp_H) : Option (Int32 × hp_H) := some (s0, h)
set_option maxRecDepth 100000 in
set_option maxHeartbeats 4000000 in
theorem j_MA_min_10 {Z : hp_Z} (s0 : Int32) (h : hp_H) : hp_J Y_MA_min Z hp_rI h 10 [] [.int s0] (m_MA_min_10 (hp_G Z)  s0 h) := by
  unfold m_MA_min_10
  exact hp_iret d_MA_min_10 rfl
def m_MA_min (G : Nat → Nat) (a0 : Int32) (a1 : Int32) (h : hp_H) : Option (Int32 × hp_H) := if a1 < a0 then (m_MA_min_10 G a1 h) else (m_MA_min_10 G a0 h)
set_option maxRecDepth 100000 in
set_option maxHeartbeats 4000000 in
theorem j_MA_min_0 {Z : hp_Z} (a0 : Int32) (a1 : Int32) (h : hp_H) : hp_J Y_MA_min Z hp_rI h 0 [(0, .int a0), (1, .int a1)] [] (m_MA_min (hp_G Z)  a0 a1 h) := by
  unfold m_MA_min
  refine hp_iload_n (x0 := 0) d_MA_min_0 rfl rfl ?_
  refine hp_iload_n (x0 := 1) d_MA_min_1 rfl rfl ?_
  refine hp_icmp_gt (tgt := 9) d_MA_min_2 (by decide) ?_ ?_
  · refine hp_iload_n (x0 := 1) d_MA_min_9 rfl rfl ?_
    refine hp_sub [] rfl ?_
    exact j_MA_min_10  _ _
  · refine hp_iload_n (x0 := 0) d_MA_min_5 rfl rfl ?_
    refine hp_goto (tgt := 10) d_MA_min_6 (by decide) ?_
    refine hp_sub [] rfl ?_
    exact j_MA_min_10  _ _
theorem t_MA_min (l : Launch) (E : hp_E) (a0 : Int32) (a1 : Int32) : hp_M l E y_MA_min Y_MA_min hp_rI [.int a0, .int a1] (m_MA_min E.2.2.1 a0 a1) := hp_M.of (by decide +kernel) ⟨rfl, rfl⟩ (Nat.le_of_ble_eq_true rfl) (fun Z h hE => by subst hE; exact j_MA_min_0 _ _ h)
-- MA_max
theorem d_MA_max_0 : decode prog_15_method_65_code 0 = .ok (.iload_n 0, 1) := by decide +kernel
theorem d_MA_max_1 : decode prog_15_method_65_code 1 = .ok (.iload_n 1, 1) := by decide +kernel
theorem d_MA_max_2 : decode prog_15_method_65_code 2 = .ok (.if_icmp .lt 7, 3) := by decide +kernel
theorem d_MA_max_5 : decode prog_15_method_65_code 5 = .ok (.iload_n 0, 1) := by decide +kernel
theorem d_MA_max_6 : decode prog_15_method_65_code 6 = .ok (.goto 4, 3) := by decide +kernel
theorem d_MA_max_9 : decode prog_15_method_65_code 9 = .ok (.iload_n 1, 1) := by decide +kernel
theorem d_MA_max_10 : decode prog_15_method_65_code 10 = .ok (.ireturn, 1) := by decide +kernel
def m_MA_max_10 (G : Nat → Nat) (s0 : Int32) (h : hp_H) : Option (Int32 × hp_H) := some (s0, h)
set_option maxRecDepth 100000 in
set_option maxHeartbeats 4000000 in
theorem j_MA_max_10 {Z : hp_Z} (s0 : Int32) (h : hp_H) : hp_J Y_MA_max Z hp_rI h 10 [] [.int s0] (m_MA_max_10 (hp_G Z)  s0 h) := by
  unfold m_MA_max_10
  exact hp_iret d_MA_max_10 rfl
def m_MA_max (G : Nat → Nat) (a0 : Int32) (a1 : Int32) (h : hp_H) : Option (Int32 × hp_H) := if a0 < a1 then (m_MA_max_10 G a1 h) else (m_MA_max_10 G a0 h)
set_option maxRecDepth 100000 in
set_option maxHeartbeats 4000000 in
theorem j_MA_max_0 {Z : hp_Z} (a0 : Int32) (a1 : Int32) (h : hp_H) : hp_J Y_MA_max Z hp_rI h 0 [(0, .int a0), (1, .int a1)] [] (m_MA_max (hp_G Z)  a0 a1 h) := by
  unfold m_MA_max
  refine hp_iload_n (x0 := 0) d_MA_max_0 rfl rfl ?_
  refine hp_iload_n (x0 := 1) d_MA_max_1 rfl rfl ?_
  refine hp_icmp_lt (tgt := 9) d_MA_max_2 (by decide) ?_ ?_
  · refine hp_iload_n (x0 := 1) d_MA_max_9 rfl rfl ?_
    refine hp_sub [] rfl ?_
    exact j_MA_max_10  _ _
  · refine hp_iload_n (x0 := 0) d_MA_max_5 rfl rfl ?_
    refine hp_goto (tgt := 10) d_MA_max_6 (by decide) ?_
    refine hp_sub [] rfl ?_
    exact j_MA_max_10  _ _
theorem t_MA_max (l : Launch) (E : hp_E) (a0 : Int32) (a1 : Int32) : hp_M l E y_MA_max Y_MA_max hp_rI [.int a0, .int a1] (m_MA_max E.2.2.1 a0 a1) := hp_M.of (by decide +kernel) ⟨rfl, rfl⟩ (Nat.le_of_ble_eq_true rfl) (fun Z h hE => by subst hE; exact j_MA_max_0 _ _ h)
-- D_isTextKind
theorem d_D_isTextKind_0 : decode prog_1_method_22_code 0 = .ok (.iload_n 0, 1) := by decide +kernel
theorem d_D_isTextKind_1 : decode prog_1_method_22_code 1 = .ok (.iconst 5, 1) := by decide +kernel
theorem d_D_isTextKind_2 : decode prog_1_method_22_code 2 = .ok (.if_icmp .ne 13, 3) := by decide +kernel
theorem d_D_isTextKind_5 : decode prog_1_method_22_code 5 = .ok (.iload_n 1, 1) := by decide +kernel
theorem d_D_isTextKind_6 : decode prog_1_method_22_code 6 = .ok (.ifCond .ne 7, 3) := by decide +kernel
theorem d_D_isTextKind_9 : decode prog_1_method_22_code 9 = .ok (.iconst 1, 1) := by decide +kernel
theorem d_D_isTextKind_10 : decode prog_1_method_22_code 10 = .ok (.goto 4, 3) := by decide +kernel
theorem d_D_isTextKind_13 : decode prog_1_method_22_code 13 = .ok (.iconst 0, 1) := by decide +kernel
theorem d_D_isTextKind_14 : decode prog_1_method_22_code 14 = .ok (.ireturn, 1) := by decide +kernel
theorem d_D_isTextKind_15 : decode prog_1_method_22_code 15 = .ok (.iload_n 0, 1) := by decide +kernel
theorem d_D_isTextKind_16 : decode prog_1_method_22_code 16 = .ok (.bipush 6, 2) := by decide +kernel
theorem d_D_isTextKind_18 : decode prog_1_method_22_code 18 = .ok (.if_icmp .eq 9, 3) := by decide +kernel
theorem d_D_isTextKind_21 : decode prog_1_method_22_code 21 = .ok (.iload_n 0, 1) := by decide +kernel
theorem d_D_isTextKind_22 : decode prog_1_method_22_code 22 = .ok (.bipush 7, 2) := by decide +kernel
theorem d_D_isTextKind_24 : decode prog_1_method_22_code 24 = .ok (.if_icmp .ne 17, 3) := by decide +kernel
theorem d_D_isTextKind_27 : decode prog_1_method_22_code 27 = .ok (.iload_n 1, 1) := by decide +kernel
theorem d_D_isTextKind_28 : decode prog_1_method_22_code 28 = .ok (.ifCond .lt 13, 3) := by decide +kernel
theorem d_D_isTextKind_31 : decode prog_1_method_22_code 31 = .ok (.iload_n 1, 1) := by decide +kernel
theorem d_D_isTextKind_32 : decode prog_1_method_22_code 32 = .ok (.bipush 99, 2) := by decide +kernel
theorem d_D_isTextKind_34 : decode prog_1_method_22_code 34 = .ok (.if_icmp .gt 7, 3) := by decide +kernel
theorem d_D_isTextKind_37 : decode prog_1_method_22_code 37 = .ok (.iconst 1, 1) := by decide +kernel
theorem d_D_isTextKind_38 : decode prog_1_method_22_code 38 = .ok (.goto 4, 3) := by decide +kernel
theorem d_D_isTextKind_41 : decode prog_1_method_22_code 41 = .ok (.iconst 0, 1) := by decide +kernel
theorem d_D_isTextKind_42 : decode prog_1_method_22_code 42 = .ok (.ireturn, 1) := by decide +kernel
def m_D_isTextKind_14 (G : Nat → Nat) (s0 : Int32) (h : hp_H) : Option (Int32 × hp_H) := hp_z s0 h
set_option maxRecDepth 100000 in
set_option maxHeartbeats 4000000 in
theorem j_D_isTextKind_14 {Z : hp_Z} (s0 : Int32) (h : hp_H) : hp_J Y_D_isTextKind Z hp_rI h 14 [] [.int s0] (m_D_isTextKind_14 (hp_G Z)  s0 h) := by
  unfold m_D_isTextKind_14
  exact hp_zret d_D_isTextKind_14 rfl
def m_D_isTextKind_42 (G : Nat → Nat) (s0 : Int32) (h : hp_H) : Option (Int32 × hp_H) := hp_z s0 h
set_option maxRecDepth 100000 in
set_option maxHeartbeats 4000000 in
theorem j_D_isTextKind_42 {Z : hp_Z} (s0 : Int32) (h : hp_H) : hp_J Y_D_isTextKind Z hp_rI h 42 [] [.int s0] (m_D_isTextKind_42 (hp_G Z)  s0 h) := by
  unfold m_D_isTextKind_42
  exact hp_zret d_D_isTextKind_42 rfl
def m_D_isTextKind_41 (G : Nat → Nat) (h : hp_H) : Option (Int32 × hp_H) := m_D_isTextKind_42 G (0 : Int32) h
set_option maxRecDepth 100000 in
set_option maxHeartbeats 4000000 in
theorem j_D_isTextKind_41 {Z : hp_Z} (h : hp_H) : hp_J Y_D_isTextKind Z hp_rI h 41 [] [] (m_D_isTextKind_41 (hp_G Z)   h) := by
  unfold m_D_isTextKind_41
  refine hp_iconst (v := 0) d_D_isTextKind_41 (by decide) ?_
  exact j_D_isTextKind_42  _ _
def m_D_isTextKind_27 (G : Nat → Nat) (a1 : Int32) (h : hp_H) : Option (Int32 × hp_H) := if a1 < 0 then (m_D_isTextKind_41 G h) else (if (99 : Int32) < a1 then (m_D_isTextKind_41 G h) else (m_D_isTextKind_42 G (1 : Int32) h))
set_option maxRecDepth 100000 in
set_option maxHeartbeats 4000000 in
theorem j_D_isTextKind_27 {Z : hp_Z} (a1 : Int32) (h : hp_H) : hp_J Y_D_isTextKind Z hp_rI h 27 [(1, .int a1)] [] (m_D_isTextKind_27 (hp_G Z)  a1 h) := by
  unfold m_D_isTextKind_27
  refine hp_iload_n (x0 := 0) d_D_isTextKind_27 rfl rfl ?_
  refine hp_if_lt (tgt := 41) d_D_isTextKind_28 (by decide) ?_ ?_
  · refine hp_sub [] rfl ?_
    exact j_D_isTextKind_41   _
  · refine hp_iload_n (x0 := 0) d_D_isTextKind_31 rfl rfl ?_
    refine hp_bipush (v := 99) d_D_isTextKind_32 (by decide) ?_
    refine hp_icmp_gt (tgt := 41) d_D_isTextKind_34 (by decide) ?_ ?_
    · refine hp_sub [] rfl ?_
      exact j_D_isTextKind_41   _
    · refine hp_iconst (v := 1) d_D_isTextKind_37 (by decide) ?_
      refine hp_goto (tgt := 42) d_D_isTextKind_38 (by decide) ?_
      refine hp_sub [] rfl ?_
      exact j_D_isTextKind_42  _ _
def m_D_isTextKind (G : Nat → Nat) (a0 : Int32) (a1 : Int32) (h : hp_H) : Option (Int32 × hp_H) := if a0 = (5 : Int32) then (if a1 = 0 then (m_D_isTextKind_14 G (1 : Int32) h) else (m_D_isTextKind_14 G (0 : Int32) h)) else (if a0 = (6 : Int32) then (m_D_isTextKind_27 G a1 h) else (if a0 = (7 : Int32) then (m_D_isTextKind_27 G a1 h) else (m_D_isTextKind_41 G h)))
set_option maxRecDepth 100000 in
set_option maxHeartbeats 4000000 in
theorem j_D_isTextKind_0 {Z : hp_Z} (a0 : Int32) (a1 : Int32) (h : hp_H) : hp_J Y_D_isTextKind Z hp_rI h 0 [(0, .int a0), (1, .int a1)] [] (m_D_isTextKind (hp_G Z)  a0 a1 h) := by
  unfold m_D_isTextKind
  refine hp_iload_n (x0 := 0) d_D_isTextKind_0 rfl rfl ?_
  refine hp_iconst (v := 5) d_D_isTextKind_1 (by decide) ?_
  refine hp_icmp_ne (tgt := 15) d_D_isTextKind_2 (by decide) ?_ ?_
  · refine hp_iload_n (x0 := 1) d_D_isTextKind_5 rfl rfl ?_
    refine hp_if_ne (tgt := 13) d_D_isTextKind_6 (by decide) ?_ ?_
    · refine hp_iconst (v := 1) d_D_isTextKind_9 (by decide) ?_
      refine hp_goto (tgt := 14) d_D_isTextKind_10 (by decide) ?_
      refine hp_sub [] rfl ?_
      exact j_D_isTextKind_14  _ _
    · refine hp_iconst (v := 0) d_D_isTextKind_13 (by decide) ?_
      refine hp_sub [] rfl ?_
      exact j_D_isTextKind_14  _ _
  · refine hp_iload_n (x0 := 0) d_D_isTextKind_15 rfl rfl ?_
    refine hp_bipush (v := 6) d_D_isTextKind_16 (by decide) ?_
    refine hp_icmp_eq (tgt := 27) d_D_isTextKind_18 (by decide) ?_ ?_
    · refine hp_sub [1] rfl ?_
      exact j_D_isTextKind_27  _ _
    · refine hp_iload_n (x0 := 0) d_D_isTextKind_21 rfl rfl ?_
      refine hp_bipush (v := 7) d_D_isTextKind_22 (by decide) ?_
      refine hp_icmp_ne (tgt := 41) d_D_isTextKind_24 (by decide) ?_ ?_
      · refine hp_sub [1] rfl ?_
        exact j_D_isTextKind_27  _ _
      · refine hp_sub [] rfl ?_
        exact j_D_isTextKind_41   _
theorem t_D_isTextKind (l : Launch) (E : hp_E) (a0 : Int32) (a1 : Int32) : hp_M l E y_D_isTextKind Y_D_isTextKind hp_rI [.int a0, .int a1] (m_D_isTextKind E.2.2.1 a0 a1) := hp_M.of (by decide +kernel) ⟨rfl, rfl⟩ (Nat.le_of_ble_eq_true rfl) (fun Z h hE => by subst hE; exact j_D_isTextKind_0 _ _ h)
-- R_clear
theorem d_R_clear_0 : decode prog_5_method_2_code 0 = .ok (.aload_n 0, 1) := by decide +kernel
theorem d_R_clear_1 : decode prog_5_method_2_code 1 = .ok (.iconst 0, 1) := by decide +kernel
theorem d_R_clear_2 : decode prog_5_method_2_code 2 = .ok (.putfield 15, 3) := by decide +kernel
theorem d_R_clear_5 : decode prog_5_method_2_code 5 = .ok (.aload_n 0, 1) := by decide +kernel
theorem d_R_clear_6 : decode prog_5_method_2_code 6 = .ok (.iconst 0, 1) := by decide +kernel
theorem d_R_clear_7 : decode prog_5_method_2_code 7 = .ok (.putfield 19, 3) := by decide +kernel
theorem d_R_clear_10 : decode prog_5_method_2_code 10 = .ok (.return_, 1) := by decide +kernel
def m_R_clear (G : Nat → Nat) (a0 : Nat) (h : hp_H) : Option (Unit × hp_H) := (hp_p h a0 4 1 (.int (0 : Int32))).bind fun h1 => (hp_pZ h1 a0 4 2 (0 : Int32)).bind fun h2 => some ((), h2)
set_option maxRecDepth 100000 in
set_option maxHeartbeats 4000000 in
theorem j_R_clear_0 {Z : hp_Z} (a0 : Nat) (h : hp_H) : hp_J Y_R_clear Z hp_rV h 0 [(0, .ref a0)] [] (m_R_clear (hp_G Z)  a0 h) := by
  unfold m_R_clear
  refine hp_aload_n (x0 := 0) d_R_clear_0 rfl rfl ?_
  refine hp_iconst (v := 0) d_R_clear_1 (by decide) ?_
  refine hp_put fl_R_15 (fun q => by cases q) rfl rfl d_R_clear_2 fun h1 => ?_
  refine hp_aload_n (x0 := 0) d_R_clear_5 rfl rfl ?_
  refine hp_iconst (v := 0) d_R_clear_6 (by decide) ?_
  refine hp_putZ fl_R_19 (fun q => by cases q) d_R_clear_7 fun h2 => ?_
  exact hp_vret d_R_clear_10 rfl
theorem t_R_clear (l : Launch) (E : hp_E) (a0 : Nat) : hp_M l E y_R_clear Y_R_clear hp_rV [.ref a0] (m_R_clear E.2.2.1 a0) := hp_M.of (by decide +kernel) ⟨rfl, rfl⟩ (Nat.le_of_ble_eq_true rfl) (fun Z h hE => by subst hE; exact j_R_clear_0 _ h)
-- R_isText
theorem d_R_isText_0 : decode prog_5_method_8_code 0 = .ok (.iconst 0, 1) := by decide +kernel
theorem d_R_isText_1 : decode prog_5_method_8_code 1 = .ok (.istore_n 1, 1) := by decide +kernel
theorem d_R_isText_2 : decode prog_5_method_8_code 2 = .ok (.iload_n 1, 1) := by decide +kernel
theorem d_R_isText_3 : decode prog_5_method_8_code 3 = .ok (.aload_n 0, 1) := by decide +kernel
theorem d_R_isText_4 : decode prog_5_method_8_code 4 = .ok (.getfield 15, 3) := by decide +kernel
theorem d_R_isText_7 : decode prog_5_method_8_code 7 = .ok (.if_icmp .ge 26, 3) := by decide +kernel
theorem d_R_isText_10 : decode prog_5_method_8_code 10 = .ok (.iload_n 1, 1) := by decide +kernel
theorem d_R_isText_11 : decode prog_5_method_8_code 11 = .ok (.bipush 64, 2) := by decide +kernel
theorem d_R_isText_13 : decode prog_5_method_8_code 13 = .ok (.if_icmp .ge 20, 3) := by decide +kernel
theorem d_R_isText_16 : decode prog_5_method_8_code 16 = .ok (.aload_n 0, 1) := by decide +kernel
theorem d_R_isText_17 : decode prog_5_method_8_code 17 = .ok (.getfield 9, 3) := by decide +kernel
theorem d_R_isText_20 : decode prog_5_method_8_code 20 = .ok (.iload_n 1, 1) := by decide +kernel
theorem d_R_isText_21 : decode prog_5_method_8_code 21 = .ok (.baload, 1) := by decide +kernel
theorem d_R_isText_22 : decode prog_5_method_8_code 22 = .ok (.ifCond .gt 5, 3) := by decide +kernel
theorem d_R_isText_25 : decode prog_5_method_8_code 25 = .ok (.iconst 0, 1) := by decide +kernel
theorem d_R_isText_26 : decode prog_5_method_8_code 26 = .ok (.ireturn, 1) := by decide +kernel
theorem d_R_isText_27 : decode prog_5_method_8_code 27 = .ok (.iinc 1 1, 3) := by decide +kernel
theorem d_R_isText_30 : decode prog_5_method_8_code 30 = .ok (.goto (-28), 3) := by decide +kernel
theorem d_R_isText_33 : decode prog_5_method_8_code 33 = .ok (.iconst 1, 1) := by decide +kernel
theorem d_R_isText_34 : decode prog_5_method_8_code 34 = .ok (.ireturn, 1) := by decide +kernel
def m_R_isText_33 (G : Nat → Nat) (h : hp_H) : Option (Int32 × hp_H) := hp_z (1 : Int32) h
set_option maxRecDepth 100000 in
set_option maxHeartbeats 4000000 in
theorem j_R_isText_33 {Z : hp_Z} (h : hp_H) : hp_J Y_R_isText Z hp_rI h 33 [] [] (m_R_isText_33 (hp_G Z)   h) := by
  unfold m_R_isText_33
  refine hp_iconst (v := 1) d_R_isText_33 (by decide) ?_
  exact hp_zret d_R_isText_34 rfl
def m_R_isText_2 (G : Nat → Nat) : Nat → Nat → Int32 → hp_H → Option (Int32 × hp_H)
  | 0, _, _, _ => none
  | n + 1, a0, a1, h => (hp_gI h a0 4 1).bind fun x1 => if x1 ≤ a1 then (m_R_isText_33 G h) else (if (64 : Int32) ≤ a1 then (m_R_isText_33 G h) else ((hp_gR h a0 4 0).bind fun x2 => (hp_aI h .byte x2 a1).bind fun x3 => if 0 < x3 then (hp_nm (a1 + 1) fun x4 => (m_R_isText_2 G  n) a0 x4 h) else (hp_z (0 : Int32) h)))
set_option maxRecDepth 100000 in
set_option maxHeartbeats 4000000 in
theorem j_R_isText_2 {Z : hp_Z} : ∀ (n : Nat) (a0 : Nat) (a1 : Int32) (h : hp_H), hp_J Y_R_isText Z hp_rI h 2 [(0, .ref a0), (1, .int a1)] [] (m_R_isText_2 (hp_G Z)  n a0 a1 h) := by
  intro n
  induction n with
  | zero => intro a0 a1 h; exact hp_fail
  | succ n ih =>
    intro a0 a1 h
    rw [m_R_isText_2]
    refine hp_iload_n (x0 := 1) d_R_isText_2 rfl rfl ?_
    refine hp_aload_n (x0 := 0) d_R_isText_3 rfl rfl ?_
    refine hp_getI fl_R_15 d_R_isText_4 fun x1 => ?_
    refine hp_icmp_ge (tgt := 33) d_R_isText_7 (by decide) ?_ ?_
    · refine hp_sub [] rfl ?_
      exact j_R_isText_33   _
    · refine hp_iload_n (x0 := 1) d_R_isText_10 rfl rfl ?_
      refine hp_bipush (v := 64) d_R_isText_11 (by decide) ?_
      refine hp_icmp_ge (tgt := 33) d_R_isText_13 (by decide) ?_ ?_
      · refine hp_sub [] rfl ?_
        exact j_R_isText_33   _
      · refine hp_aload_n (x0 := 0) d_R_isText_16 rfl rfl ?_
        refine hp_getR fl_R_9 d_R_isText_17 fun x2 => ?_
        refine hp_iload_n (x0 := 1) d_R_isText_20 rfl rfl ?_
        refine hp_bald d_R_isText_21 fun x3 => ?_
        refine hp_if_gt (tgt := 27) d_R_isText_22 (by decide) ?_ ?_
        · refine hp_iinc (x0 := 1) (d := 1) (fun x4 => [(1, .int x4), (0, .ref a0)]) d_R_isText_27 rfl (by decide) (by decide) (fun _ => rfl) fun x4 => ?_
          refine hp_goto (tgt := 2) d_R_isText_30 (by decide) ?_
          refine hp_sub [1, 0] rfl ?_
          exact ih _ _ _
        · refine hp_iconst (v := 0) d_R_isText_25 (by decide) ?_
          exact hp_zret d_R_isText_26 rfl
def m_R_isText (G : Nat → Nat) (a0 : Nat) (h : hp_H) : Option (Int32 × hp_H) := hp_nm (0 : Int32) fun x1 => m_R_isText_2 G hp_fu a0 x1 h
set_option maxRecDepth 100000 in
set_option maxHeartbeats 4000000 in
theorem j_R_isText_0 {Z : hp_Z} (a0 : Nat) (h : hp_H) : hp_J Y_R_isText Z hp_rI h 0 [(0, .ref a0)] [] (m_R_isText (hp_G Z)  a0 h) := by
  unfold m_R_isText
  refine hp_iconst (v := 0) d_R_isText_0 (by decide) ?_
  refine hp_istore_n (fun x1 => [(1, .int x1), (0, .ref a0)]) d_R_isText_1 rfl (by decide) (fun _ => rfl) fun x1 => ?_
  refine hp_sub [1, 0] rfl ?_
  exact j_R_isText_2  hp_fu _ _ _
theorem t_R_isText (l : Launch) (E : hp_E) (a0 : Nat) : hp_M l E y_R_isText Y_R_isText hp_rI [.ref a0] (m_R_isText E.2.2.1 a0) := hp_M.of (by decide +kernel) ⟨rfl, rfl⟩ (Nat.le_of_ble_eq_true rfl) (fun Z h hE => by subst hE; exact j_R_isText_0 _ h)
-- S_count
theorem d_S_count_0 : decode prog_6_method_2_code 0 = .ok (.aload_n 0, 1) := by decide +kernel
theorem d_S_count_1 : decode prog_6_method_2_code 1 = .ok (.getfield 12, 3) := by decide +kernel
theorem d_S_count_4 : decode prog_6_method_2_code 4 = .ok (.invokevirtual 42, 3) := by decide +kernel
theorem d_S_count_7 : decode prog_6_method_2_code 7 = .ok (.ireturn, 1) := by decide +kernel
def m_S_count (G : Nat → Nat) (a0 : Nat) (h : hp_H) : Option (Int32 × hp_H) := (hp_gR h a0 1 0).bind fun x1 => (hp_vck h x1 2 (m_AL_size G x1 h)).bind fun q2 => some (q2.1, q2.2)
set_option maxRecDepth 100000 in
set_option maxHeartbeats 4000000 in
theorem j_S_count_0 {Z : hp_Z} (a0 : Nat) (h : hp_H) : hp_J Y_S_count Z hp_rI h 0 [(0, .ref a0)] [] (m_S_count (hp_G Z)  a0 h) := by
  unfold m_S_count
  refine hp_aload_n (x0 := 0) d_S_count_0 rfl rfl ?_
  refine hp_getR fl_S_12 d_S_count_1 fun x1 => ?_
  refine hp_callI (hp_crV (ci := 2) (t_AL_size _ _ _) cw_S_42 rfl ⟨w_294, w_295⟩ (by decide) rfl rfl (Nat.le_of_ble_eq_true rfl) d_S_count_4) fun q2 => ?_
  exact hp_iret d_S_count_7 rfl
theorem t_S_count (l : Launch) (E : hp_E) (a0 : Nat) : hp_M l E y_S_count Y_S_count hp_rI [.ref a0] (m_S_count E.2.2.1 a0) := hp_M.of (by decide +kernel) ⟨rfl, rfl⟩ (Nat.le_of_ble_eq_true rfl) (fun Z h hE => by subst hE; exact j_S_count_0 _ h)
-- D_values
theorem d_D_values_0 : decode prog_1_method_11_code 0 = .ok (.aload_n 0, 1) := by decide +kernel
theorem d_D_values_1 : decode prog_1_method_11_code 1 = .ok (.getfield 10, 3) := by decide +kernel
theorem d_D_values_4 : decode prog_1_method_11_code 4 = .ok (.invokevirtual 103, 3) := by decide +kernel
theorem d_D_values_7 : decode prog_1_method_11_code 7 = .ok (.ireturn, 1) := by decide +kernel
def m_D_values (G : Nat → Nat) (a0 : Nat) (h : hp_H) : Option (Int32 × hp_H) := (hp_gR h a0 0 0).bind fun x1 => (hp_vck h x1 1 (m_S_count G x1 h)).bind fun q2 => some (q2.1, q2.2)
set_option maxRecDepth 100000 in
set_option maxHeartbeats 4000000 in
theorem j_D_values_0 {Z : hp_Z} (a0 : Nat) (h : hp_H) : hp_J Y_D_values Z hp_rI h 0 [(0, .ref a0)] [] (m_D_values (hp_G Z)  a0 h) := by
  unfold m_D_values
  refine hp_aload_n (x0 := 0) d_D_values_0 rfl rfl ?_
  refine hp_getR fl_D_10 d_D_values_1 fun x1 => ?_
  refine hp_callI (hp_crV (ci := 1) (t_S_count _ _ _) cw_D_103 rfl ⟨w_442, w_443⟩ (by decide) rfl rfl (Nat.le_of_ble_eq_true rfl) d_D_values_4) fun q2 => ?_
  exact hp_iret d_D_values_7 rfl
theorem t_D_values (l : Launch) (E : hp_E) (a0 : Nat) : hp_M l E y_D_values Y_D_values hp_rI [.ref a0] (m_D_values E.2.2.1 a0) := hp_M.of (by decide +kernel) ⟨rfl, rfl⟩ (Nat.le_of_ble_eq_true rfl) (fun Z h hE => by subst hE; exact j_D_values_0 _ h)
-- IN_compare
theorem d_IN_compare_0 : decode prog_12_method_40_code 0 = .ok (.iload_n 0, 1) := by decide +kernel
theorem d_IN_compare_1 : decode prog_12_method_40_code 1 = .ok (.iload_n 1, 1) := by decide +kernel
theorem d_IN_compare_2 : decode prog_12_method_40_code 2 = .ok (.if_icmp .ge 7, 3) := by decide +kernel
theorem d_IN_compare_5 : decode prog_12_method_40_code 5 = .ok (.iconst (-1), 1) := by decide +kernel
theorem d_IN_compare_6 : decode prog_12_method_40_code 6 = .ok (.goto 13, 3) := by decide +kernel
theorem d_IN_compare_9 : decode prog_12_method_40_code 9 = .ok (.iload_n 0, 1) := by decide +kernel
theorem d_IN_compare_10 : decode prog_12_method_40_code 10 = .ok (.iload_n 1, 1) := by decide +kernel
theorem d_IN_compare_11 : decode prog_12_method_40_code 11 = .ok (.if_icmp .ne 7, 3) := by decide +kernel
theorem d_IN_compare_14 : decode prog_12_method_40_code 14 = .ok (.iconst 0, 1) := by decide +kernel
theorem d_IN_compare_15 : decode prog_12_method_40_code 15 = .ok (.goto 4, 3) := by decide +kernel
theorem d_IN_compare_18 : decode prog_12_method_40_code 18 = .ok (.iconst 1, 1) := by decide +kernel
theorem d_IN_compare_19 : decode prog_12_method_40_code 19 = .ok (.ireturn, 1) := by decide +kernel
def m_IN_compare_19 (G : Nat → Nat) (s0 : Int32) (h : hp_H) : Option (Int32 × hp_H) := some (s0, h)
set_option maxRecDepth 100000 in
set_option maxHeartbeats 4000000 in
theorem j_IN_compare_19 {Z : hp_Z} (s0 : Int32) (h : hp_H) : hp_J Y_IN_compare Z hp_rI h 19 [] [.int s0] (m_IN_compare_19 (hp_G Z)  s0 h) := by
  unfold m_IN_compare_19
  exact hp_iret d_IN_compare_19 rfl
def m_IN_compare (G : Nat → Nat) (a0 : Int32) (a1 : Int32) (h : hp_H) : Option (Int32 × hp_H) := if a1 ≤ a0 then (if a0 = a1 then (m_IN_compare_19 G (0 : Int32) h) else (m_IN_compare_19 G (1 : Int32) h)) else (m_IN_compare_19 G (-1 : Int32) h)
set_option maxRecDepth 100000 in
set_option maxHeartbeats 4000000 in
theorem j_IN_compare_0 {Z : hp_Z} (a0 : Int32) (a1 : Int32) (h : hp_H) : hp_J Y_IN_compare Z hp_rI h 0 [(0, .int a0), (1, .int a1)] [] (m_IN_compare (hp_G Z)  a0 a1 h) := by
  unfold m_IN_compare
  refine hp_iload_n (x0 := 0) d_IN_compare_0 rfl rfl ?_
  refine hp_iload_n (x0 := 1) d_IN_compare_1 rfl rfl ?_
  refine hp_icmp_ge (tgt := 9) d_IN_compare_2 (by decide) ?_ ?_
  · refine hp_iload_n (x0 := 0) d_IN_compare_9 rfl rfl ?_
    refine hp_iload_n (x0 := 1) d_IN_compare_10 rfl rfl ?_
    refine hp_icmp_ne (tgt := 18) d_IN_compare_11 (by decide) ?_ ?_
    · refine hp_iconst (v := 0) d_IN_compare_14 (by decide) ?_
      refine hp_goto (tgt := 19) d_IN_compare_15 (by decide) ?_
      refine hp_sub [] rfl ?_
      exact j_IN_compare_19  _ _
    · refine hp_iconst (v := 1) d_IN_compare_18 (by decide) ?_
      refine hp_sub [] rfl ?_
      exact j_IN_compare_19  _ _
  · refine hp_iconst (v := -1) d_IN_compare_5 (by decide) ?_
    refine hp_goto (tgt := 19) d_IN_compare_6 (by decide) ?_
    refine hp_sub [] rfl ?_
    exact j_IN_compare_19  _ _
theorem t_IN_compare (l : Launch) (E : hp_E) (a0 : Int32) (a1 : Int32) : hp_M l E y_IN_compare Y_IN_compare hp_rI [.int a0, .int a1] (m_IN_compare E.2.2.1 a0 a1) := hp_M.of (by decide +kernel) ⟨rfl, rfl⟩ (Nat.le_of_ble_eq_true rfl) (fun Z h hE => by subst hE; exact j_IN_compare_0 _ _ h)
-- D_power
theorem d_D_power_0 : decode prog_1_method_23_code 0 = .ok (.iload_n 0, 1) := by decide +kernel
theorem d_D_power_1 : decode prog_1_method_23_code 1 = .ok (.ifCond .lt 19, 3) := by decide +kernel
theorem d_D_power_4 : decode prog_1_method_23_code 4 = .ok (.iload_n 0, 1) := by decide +kernel
theorem d_D_power_5 : decode prog_1_method_23_code 5 = .ok (.getstatic 140, 3) := by decide +kernel
theorem d_D_power_8 : decode prog_1_method_23_code 8 = .ok (.arraylength, 1) := by decide +kernel
theorem d_D_power_9 : decode prog_1_method_23_code 9 = .ok (.if_icmp .ge 11, 3) := by decide +kernel
theorem d_D_power_12 : decode prog_1_method_23_code 12 = .ok (.getstatic 140, 3) := by decide +kernel
theorem d_D_power_15 : decode prog_1_method_23_code 15 = .ok (.iload_n 0, 1) := by decide +kernel
theorem d_D_power_16 : decode prog_1_method_23_code 16 = .ok (.laload, 1) := by decide +kernel
theorem d_D_power_17 : decode prog_1_method_23_code 17 = .ok (.goto 4, 3) := by decide +kernel
theorem d_D_power_20 : decode prog_1_method_23_code 20 = .ok (.lconst 1, 1) := by decide +kernel
theorem d_D_power_21 : decode prog_1_method_23_code 21 = .ok (.lreturn, 1) := by decide +kernel
def m_D_power_21 (G : Nat → Nat) (s0 : Int64) (h : hp_H) : Option (Int64 × hp_H) := some (s0, h)
set_option maxRecDepth 100000 in
set_option maxHeartbeats 4000000 in
theorem j_D_power_21 {Z : hp_Z} (s0 : Int64) (h : hp_H) : hp_J Y_D_power Z hp_rL h 21 [] [.long s0] (m_D_power_21 (hp_G Z)  s0 h) := by
  unfold m_D_power_21
  exact hp_lret d_D_power_21 rfl
def m_D_power_20 (G : Nat → Nat) (h : hp_H) : Option (Int64 × hp_H) := m_D_power_21 G (1 : Int64) h
set_option maxRecDepth 100000 in
set_option maxHeartbeats 4000000 in
theorem j_D_power_20 {Z : hp_Z} (h : hp_H) : hp_J Y_D_power Z hp_rL h 20 [] [] (m_D_power_20 (hp_G Z)   h) := by
  unfold m_D_power_20
  refine hp_lconst (v := 1) d_D_power_20 (by decide) ?_
  exact j_D_power_21  _ _
def m_D_power (G : Nat → Nat) (a0 : Int32) (h : hp_H) : Option (Int64 × hp_H) := if a0 < 0 then (m_D_power_20 G h) else ((hp_len h (G 0)).bind fun x1 => if x1 ≤ a0 then (m_D_power_20 G h) else ((hp_aL h (G 0) a0).bind fun x2 => m_D_power_21 G x2 h))
set_option maxRecDepth 100000 in
set_option maxHeartbeats 4000000 in
theorem j_D_power_0 {Z : hp_Z} (a0 : Int32) (h : hp_H) : hp_J Y_D_power Z hp_rL h 0 [(0, .int a0)] [] (m_D_power (hp_G Z)  a0 h) := by
  unfold m_D_power
  refine hp_iload_n (x0 := 0) d_D_power_0 rfl rfl ?_
  refine hp_if_lt (tgt := 20) d_D_power_1 (by decide) ?_ ?_
  · refine hp_sub [] rfl ?_
    exact j_D_power_20   _
  · refine hp_iload_n (x0 := 0) d_D_power_4 rfl rfl ?_
    refine hp_gets (k := 0) rfl w_464 d_D_power_5 ?_
    refine hp_alen d_D_power_8 fun x1 => ?_
    refine hp_icmp_ge (tgt := 20) d_D_power_9 (by decide) ?_ ?_
    · refine hp_sub [] rfl ?_
      exact j_D_power_20   _
    · refine hp_gets (k := 0) rfl w_464 d_D_power_12 ?_
      refine hp_iload_n (x0 := 0) d_D_power_15 rfl rfl ?_
      refine hp_lald d_D_power_16 fun x2 => ?_
      refine hp_goto (tgt := 21) d_D_power_17 (by decide) ?_
      refine hp_sub [] rfl ?_
      exact j_D_power_21  _ _
theorem t_D_power (l : Launch) (E : hp_E) (a0 : Int32) : hp_M l E y_D_power Y_D_power hp_rL [.int a0] (m_D_power E.2.2.1 a0) := hp_M.of (by decide +kernel) ⟨rfl, rfl⟩ (Nat.le_of_ble_eq_true rfl) (fun Z h hE => by subst hE; exact j_D_power_0 _ h)
-- MA_floorMod
theorem d_MA_floorMod_0 : decode prog_15_method_52_code 0 = .ok (.lload_n 0, 1) := by decide +kernel
theorem d_MA_floorMod_1 : decode prog_15_method_52_code 1 = .ok (.lload_n 2, 1) := by decide +kernel
theorem d_MA_floorMod_2 : decode prog_15_method_52_code 2 = .ok (.lrem, 1) := by decide +kernel
theorem d_MA_floorMod_3 : decode prog_15_method_52_code 3 = .ok (.lstore 4, 2) := by decide +kernel
theorem d_MA_floorMod_5 : decode prog_15_method_52_code 5 = .ok (.lload_n 0, 1) := by decide +kernel
theorem d_MA_floorMod_6 : decode prog_15_method_52_code 6 = .ok (.lload_n 2, 1) := by decide +kernel
theorem d_MA_floorMod_7 : decode prog_15_method_52_code 7 = .ok (.lxor, 1) := by decide +kernel
theorem d_MA_floorMod_8 : decode prog_15_method_52_code 8 = .ok (.lconst 0, 1) := by decide +kernel
theorem d_MA_floorMod_9 : decode prog_15_method_52_code 9 = .ok (.lcmp, 1) := by decide +kernel
theorem d_MA_floorMod_10 : decode prog_15_method_52_code 10 = .ok (.ifCond .ge 15, 3) := by decide +kernel
theorem d_MA_floorMod_13 : decode prog_15_method_52_code 13 = .ok (.lload 4, 2) := by decide +kernel
theorem d_MA_floorMod_15 : decode prog_15_method_52_code 15 = .ok (.lconst 0, 1) := by decide +kernel
theorem d_MA_floorMod_16 : decode prog_15_method_52_code 16 = .ok (.lcmp, 1) := by decide +kernel
theorem d_MA_floorMod_17 : decode prog_15_method_52_code 17 = .ok (.ifCond .eq 8, 3) := by decide +kernel
theorem d_MA_floorMod_20 : decode prog_15_method_52_code 20 = .ok (.lload 4, 2) := by decide +kernel
theorem d_MA_floorMod_22 : decode prog_15_method_52_code 22 = .ok (.lload_n 2, 1) := by decide +kernel
theorem d_MA_floorMod_23 : decode prog_15_method_52_code 23 = .ok (.ladd, 1) := by decide +kernel
theorem d_MA_floorMod_24 : decode prog_15_method_52_code 24 = .ok (.lreturn, 1) := by decide +kernel
theorem d_MA_floorMod_25 : decode prog_15_method_52_code 25 = .ok (.lload 4, 2) := by decide +kernel
theorem d_MA_floorMod_27 : decode prog_15_method_52_code 27 = .ok (.lreturn, 1) := by decide +kernel
def m_MA_floorMod_25 (G : Nat → Nat) (a4 : Int64) (h : hp_H) : Option (Int64 × hp_H) := some (a4, h)
set_option maxRecDepth 100000 in
set_option maxHeartbeats 4000000 in
theorem j_MA_floorMod_25 {Z : hp_Z} (a4 : Int64) (h : hp_H) : hp_J Y_MA_floorMod Z hp_rL h 25 [(4, .long a4)] [] (m_MA_floorMod_25 (hp_G Z)  a4 h) := by
  unfold m_MA_floorMod_25
  refine hp_lload (x0 := 0) d_MA_floorMod_25 rfl ?_
  exact hp_lret d_MA_floorMod_27 rfl
def m_MA_floorMod (G : Nat → Nat) (a0 : Int64) (a2 : Int64) (h : hp_H) : Option (Int64 × hp_H) := (hp_mL a0 a2).bind fun x1 => hp_nm x1 fun x2 => if 0 ≤ (lg_cmp (a0 ^^^ a2) (0 : Int64)) then (m_MA_floorMod_25 G x2 h) else (if (lg_cmp x2 (0 : Int64)) = 0 then (m_MA_floorMod_25 G x2 h) else (some (x2 + a2, h)))
set_option maxRecDepth 100000 in
set_option maxHeartbeats 4000000 in
theorem j_MA_floorMod_0 {Z : hp_Z} (a0 : Int64) (a2 : Int64) (h : hp_H) : hp_J Y_MA_floorMod Z hp_rL h 0 [(0, .long a0), (2, .long a2)] [] (m_MA_floorMod (hp_G Z)  a0 a2 h) := by
  unfold m_MA_floorMod
  refine hp_lload_n (x0 := 0) d_MA_floorMod_0 rfl rfl ?_
  refine hp_lload_n (x0 := 1) d_MA_floorMod_1 rfl rfl ?_
  refine hp_lrem d_MA_floorMod_2 fun x1 => ?_
  refine hp_lstore (fun x2 => [(4, .long x2), (0, .long a0), (2, .long a2)]) d_MA_floorMod_3 (by decide) (fun _ => rfl) fun x2 => ?_
  refine hp_lload_n (x0 := 1) d_MA_floorMod_5 rfl rfl ?_
  refine hp_lload_n (x0 := 2) d_MA_floorMod_6 rfl rfl ?_
  refine hp_lxor d_MA_floorMod_7 ?_
  refine hp_lconst (v := 0) d_MA_floorMod_8 (by decide) ?_
  refine hp_lcmp d_MA_floorMod_9 ?_
  refine hp_if_ge (tgt := 25) d_MA_floorMod_10 (by decide) ?_ ?_
  · refine hp_sub [0] rfl ?_
    exact j_MA_floorMod_25  _ _
  · refine hp_lload (x0 := 0) d_MA_floorMod_13 rfl ?_
    refine hp_lconst (v := 0) d_MA_floorMod_15 (by decide) ?_
    refine hp_lcmp d_MA_floorMod_16 ?_
    refine hp_if_eq (tgt := 25) d_MA_floorMod_17 (by decide) ?_ ?_
    · refine hp_sub [0] rfl ?_
      exact j_MA_floorMod_25  _ _
    · refine hp_lload (x0 := 0) d_MA_floorMod_20 rfl ?_
      refine hp_lload_n (x0 := 2) d_MA_floorMod_22 rfl rfl ?_
      refine hp_ladd d_MA_floorMod_23 ?_
      exact hp_lret d_MA_floorMod_24 rfl
theorem t_MA_floorMod (l : Launch) (E : hp_E) (a0 : Int64) (a2 : Int64) : hp_M l E y_MA_floorMod Y_MA_floorMod hp_rL [.long a0, .long a2] (m_MA_floorMod E.2.2.1 a0 a2) := hp_M.of (by decide +kernel) ⟨rfl, rfl⟩ (Nat.le_of_ble_eq_true rfl) (fun Z h hE => by subst hE; exact j_MA_floorMod_0 _ _ h)
-- D_billionths
theorem d_D_billionths_0 : decode prog_1_method_24_code 0 = .ok (.lload_n 0, 1) := by decide +kernel
theorem d_D_billionths_1 : decode prog_1_method_24_code 1 = .ok (.iload_n 2, 1) := by decide +kernel
theorem d_D_billionths_2 : decode prog_1_method_24_code 2 = .ok (.invokestatic 144, 3) := by decide +kernel
theorem d_D_billionths_5 : decode prog_1_method_24_code 5 = .ok (.invokestatic 148, 3) := by decide +kernel
theorem d_D_billionths_8 : decode prog_1_method_24_code 8 = .ok (.bipush 9, 2) := by decide +kernel
theorem d_D_billionths_10 : decode prog_1_method_24_code 10 = .ok (.iload_n 2, 1) := by decide +kernel
theorem d_D_billionths_11 : decode prog_1_method_24_code 11 = .ok (.isub, 1) := by decide +kernel
theorem d_D_billionths_12 : decode prog_1_method_24_code 12 = .ok (.invokestatic 144, 3) := by decide +kernel
theorem d_D_billionths_15 : decode prog_1_method_24_code 15 = .ok (.lmul, 1) := by decide +kernel
theorem d_D_billionths_16 : decode prog_1_method_24_code 16 = .ok (.lreturn, 1) := by decide +kernel
def m_D_billionths (G : Nat → Nat) (a0 : Int64) (a2 : Int32) (h : hp_H) : Option (Int64 × hp_H) := (m_D_power G a2 h).bind fun q1 => (m_MA_floorMod G a0 q1.1 q1.2).bind fun q2 => (m_D_power G ((9 : Int32) - a2) q2.2).bind fun q3 => some (q2.1 * q3.1, q3.2)
set_option maxRecDepth 100000 in
set_option maxHeartbeats 4000000 in
theorem j_D_billionths_0 {Z : hp_Z} (a0 : Int64) (a2 : Int32) (h : hp_H) : hp_J Y_D_billionths Z hp_rL h 0 [(0, .long a0), (2, .int a2)] [] (m_D_billionths (hp_G Z)  a0 a2 h) := by
  unfold m_D_billionths
  refine hp_lload_n (x0 := 0) d_D_billionths_0 rfl rfl ?_
  refine hp_iload_n (x0 := 1) d_D_billionths_1 rfl rfl ?_
  refine hp_callL (hp_crS (t_D_power _ _ _) cw_D_144 w_462 (by decide) rfl rfl (Nat.le_of_ble_eq_true rfl) d_D_billionths_2) fun q1 => ?_
  refine hp_callL (hp_crS (t_MA_floorMod _ _ _ _) cw_D_148 w_477 (by decide) rfl rfl (Nat.le_of_ble_eq_true rfl) d_D_billionths_5) fun q2 => ?_
  refine hp_bipush (v := 9) d_D_billionths_8 (by decide) ?_
  refine hp_iload_n (x0 := 1) d_D_billionths_10 rfl rfl ?_
  refine hp_isub d_D_billionths_11 ?_
  refine hp_callL (hp_crS (t_D_power _ _ _) cw_D_144 w_462 (by decide) rfl rfl (Nat.le_of_ble_eq_true rfl) d_D_billionths_12) fun q3 => ?_
  refine hp_lmul d_D_billionths_15 ?_
  exact hp_lret d_D_billionths_16 rfl
theorem t_D_billionths (l : Launch) (E : hp_E) (a0 : Int64) (a2 : Int32) : hp_M l E y_D_billionths Y_D_billionths hp_rL [.long a0, .int a2] (m_D_billionths E.2.2.1 a0 a2) := hp_M.of (by decide +kernel) ⟨rfl, rfl⟩ (Nat.le_of_ble_eq_true rfl) (fun Z h hE => by subst hE; exact j_D_billionths_0 _ _ h)
-- LO_compare
theorem d_LO_compare_0 : decode prog_14_method_42_code 0 = .ok (.lload_n 0, 1) := by decide +kernel
theorem d_LO_compare_1 : decode prog_14_method_42_code 1 = .ok (.lload_n 2, 1) := by decide +kernel
theorem d_LO_compare_2 : decode prog_14_method_42_code 2 = .ok (.lcmp, 1) := by decide +kernel
theorem d_LO_compare_3 : decode prog_14_method_42_code 3 = .ok (.ifCond .ge 7, 3) := by decide +kernel
theorem d_LO_compare_6 : decode prog_14_method_42_code 6 = .ok (.iconst (-1), 1) := by decide +kernel
theorem d_LO_compare_7 : decode prog_14_method_42_code 7 = .ok (.goto 14, 3) := by decide +kernel
theorem d_LO_compare_10 : decode prog_14_method_42_code 10 = .ok (.lload_n 0, 1) := by decide +kernel
theorem d_LO_compare_11 : decode prog_14_method_42_code 11 = .ok (.lload_n 2, 1) := by decide +kernel
theorem d_LO_compare_12 : decode prog_14_method_42_code 12 = .ok (.lcmp, 1) := by decide +kernel
theorem d_LO_compare_13 : decode prog_14_method_42_code 13 = .ok (.ifCond .ne 7, 3) := by decide +kernel
theorem d_LO_compare_16 : decode prog_14_method_42_code 16 = .ok (.iconst 0, 1) := by decide +kernel
theorem d_LO_compare_17 : decode prog_14_method_42_code 17 = .ok (.goto 4, 3) := by decide +kernel
theorem d_LO_compare_20 : decode prog_14_method_42_code 20 = .ok (.iconst 1, 1) := by decide +kernel
theorem d_LO_compare_21 : decode prog_14_method_42_code 21 = .ok (.ireturn, 1) := by decide +kernel
def m_LO_compare_21 (G : Nat → Nat) (s0 : Int32) (h : hp_H) : Option (Int32 × hp_H) := some (s0, h)
set_option maxRecDepth 100000 in
set_option maxHeartbeats 4000000 in
theorem j_LO_compare_21 {Z : hp_Z} (s0 : Int32) (h : hp_H) : hp_J Y_LO_compare Z hp_rI h 21 [] [.int s0] (m_LO_compare_21 (hp_G Z)  s0 h) := by
  unfold m_LO_compare_21
  exact hp_iret d_LO_compare_21 rfl
def m_LO_compare (G : Nat → Nat) (a0 : Int64) (a2 : Int64) (h : hp_H) : Option (Int32 × hp_H) := if 0 ≤ (lg_cmp a0 a2) then (if (lg_cmp a0 a2) = 0 then (m_LO_compare_21 G (0 : Int32) h) else (m_LO_compare_21 G (1 : Int32) h)) else (m_LO_compare_21 G (-1 : Int32) h)
set_option maxRecDepth 100000 in
set_option maxHeartbeats 4000000 in
theorem j_LO_compare_0 {Z : hp_Z} (a0 : Int64) (a2 : Int64) (h : hp_H) : hp_J Y_LO_compare Z hp_rI h 0 [(0, .long a0), (2, .long a2)] [] (m_LO_compare (hp_G Z)  a0 a2 h) := by
  unfold m_LO_compare
  refine hp_lload_n (x0 := 0) d_LO_compare_0 rfl rfl ?_
  refine hp_lload_n (x0 := 1) d_LO_compare_1 rfl rfl ?_
  refine hp_lcmp d_LO_compare_2 ?_
  refine hp_if_ge (tgt := 10) d_LO_compare_3 (by decide) ?_ ?_
  · refine hp_lload_n (x0 := 0) d_LO_compare_10 rfl rfl ?_
    refine hp_lload_n (x0 := 1) d_LO_compare_11 rfl rfl ?_
    refine hp_lcmp d_LO_compare_12 ?_
    refine hp_if_ne (tgt := 20) d_LO_compare_13 (by decide) ?_ ?_
    · refine hp_iconst (v := 0) d_LO_compare_16 (by decide) ?_
      refine hp_goto (tgt := 21) d_LO_compare_17 (by decide) ?_
      refine hp_sub [] rfl ?_
      exact j_LO_compare_21  _ _
    · refine hp_iconst (v := 1) d_LO_compare_20 (by decide) ?_
      refine hp_sub [] rfl ?_
      exact j_LO_compare_21  _ _
  · refine hp_iconst (v := -1) d_LO_compare_6 (by decide) ?_
    refine hp_goto (tgt := 21) d_LO_compare_7 (by decide) ?_
    refine hp_sub [] rfl ?_
    exact j_LO_compare_21  _ _
theorem t_LO_compare (l : Launch) (E : hp_E) (a0 : Int64) (a2 : Int64) : hp_M l E y_LO_compare Y_LO_compare hp_rI [.long a0, .long a2] (m_LO_compare E.2.2.1 a0 a2) := hp_M.of (by decide +kernel) ⟨rfl, rfl⟩ (Nat.le_of_ble_eq_true rfl) (fun Z h hE => by subst hE; exact j_LO_compare_0 _ _ h)
