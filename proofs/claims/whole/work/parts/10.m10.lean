-- K_init
theorem d_K_init_0 : decode prog_4_method_1_code 0 = .ok (.aload_n 0, 1) := by decide +kernel
theorem d_K_init_1 : decode prog_4_method_1_code 1 = .ok (.invokespecial 3, 3) := by decide +kernel
theorem d_K_init_4 : decode prog_4_method_1_code 4 = .ok (.return_, 1) := by decide +kernel
def m_K_init (G : Nat → Nat) (a0 : Nat) (h : hp_H) : Option (Unit × hp_H) := some ((), h)
set_option maxRecDepth 100000 in
set_option maxHeartbeats 4000000 in
theorem j_K_init_0 {Z : hp_Z} (a0 : Nat) (h : hp_H) : hp_J Y_K_init Z hp_rV h 0 [(0, .ref a0)] [] (m_K_init (hp_G Z)  a0 h) := by
  unfold m_K_init
  refine hp_aload_n (x0 := 0) d_K_init_0 rfl rfl ?_
  refine hp_objInit ⟨w_166, w_29, w_30⟩ (by decide) (Nat.le_of_ble_eq_true rfl) d_K_init_1 ?_
  exact hp_vret d_K_init_4 rfl
theorem t_K_init (l : Launch) (E : hp_E) (a0 : Nat) : hp_M l E y_K_init Y_K_init hp_rV [.ref a0] (m_K_init E.2.2.1 a0) := hp_M.of (plainFor_of_name (by decide)) ⟨rfl, rfl⟩ (Nat.le_of_ble_eq_true rfl) (fun Z h hE => by subst hE; exact j_K_init_0 _ h)
-- R_init
theorem d_R_init_0 : decode prog_5_method_1_code 0 = .ok (.aload_n 0, 1) := by decide +kernel
theorem d_R_init_1 : decode prog_5_method_1_code 1 = .ok (.invokespecial 3, 3) := by decide +kernel
theorem d_R_init_4 : decode prog_5_method_1_code 4 = .ok (.aload_n 0, 1) := by decide +kernel
theorem d_R_init_5 : decode prog_5_method_1_code 5 = .ok (.bipush 64, 2) := by decide +kernel
theorem d_R_init_7 : decode prog_5_method_1_code 7 = .ok (.newarray .byte, 2) := by decide +kernel
theorem d_R_init_9 : decode prog_5_method_1_code 9 = .ok (.putfield 9, 3) := by decide +kernel
theorem d_R_init_12 : decode prog_5_method_1_code 12 = .ok (.return_, 1) := by decide +kernel
def m_R_init (G : Nat → Nat) (a0 : Nat) (h : hp_H) : Option (Unit × hp_H) := hp_naK h .byte (64 : Int32) (.inl fun _ => 0) fun o1 h2 => (hp_p h2 a0 4 0 (.ref o1)).bind fun h3 => some ((), h3)
set_option maxRecDepth 100000 in
set_option maxHeartbeats 4000000 in
theorem j_R_init_0 {Z : hp_Z} (a0 : Nat) (h : hp_H) : hp_J Y_R_init Z hp_rV h 0 [(0, .ref a0)] [] (m_R_init (hp_G Z)  a0 h) := by
  unfold m_R_init
  refine hp_aload_n (x0 := 0) d_R_init_0 rfl rfl ?_
  refine hp_objInit ⟨w_121, w_29, w_30⟩ (by decide) (Nat.le_of_ble_eq_true rfl) d_R_init_1 ?_
  refine hp_aload_n (x0 := 0) d_R_init_4 rfl rfl ?_
  refine hp_bipush (v := 64) d_R_init_5 (by decide) ?_
  refine hp_newA w_137 rfl (fun _ => rfl) d_R_init_7 fun o1 h2 => ?_
  refine hp_put fl_R_9 (fun _ => ⟨rfl, fun _ q => by cases q; rfl⟩) rfl rfl d_R_init_9 fun h3 => ?_
  exact hp_vret d_R_init_12 rfl
theorem t_R_init (l : Launch) (E : hp_E) (a0 : Nat) : hp_M l E y_R_init Y_R_init hp_rV [.ref a0] (m_R_init E.2.2.1 a0) := hp_M.of (plainFor_of_name (by decide)) ⟨rfl, rfl⟩ (Nat.le_of_ble_eq_true rfl) (fun Z h hE => by subst hE; exact j_R_init_0 _ h)
-- E_init
theorem d_E_init_0 : decode prog_2_method_1_code 0 = .ok (.aload_n 0, 1) := by decide +kernel
theorem d_E_init_1 : decode prog_2_method_1_code 1 = .ok (.invokespecial 3, 3) := by decide +kernel
theorem d_E_init_4 : decode prog_2_method_1_code 4 = .ok (.aload_n 0, 1) := by decide +kernel
theorem d_E_init_5 : decode prog_2_method_1_code 5 = .ok (.bipush 100, 2) := by decide +kernel
theorem d_E_init_7 : decode prog_2_method_1_code 7 = .ok (.newarray .int, 2) := by decide +kernel
theorem d_E_init_9 : decode prog_2_method_1_code 9 = .ok (.putfield 9, 3) := by decide +kernel
theorem d_E_init_12 : decode prog_2_method_1_code 12 = .ok (.aload_n 0, 1) := by decide +kernel
theorem d_E_init_13 : decode prog_2_method_1_code 13 = .ok (.bipush 100, 2) := by decide +kernel
theorem d_E_init_15 : decode prog_2_method_1_code 15 = .ok (.newarray .int, 2) := by decide +kernel
theorem d_E_init_17 : decode prog_2_method_1_code 17 = .ok (.putfield 15, 3) := by decide +kernel
theorem d_E_init_20 : decode prog_2_method_1_code 20 = .ok (.aload_n 0, 1) := by decide +kernel
theorem d_E_init_21 : decode prog_2_method_1_code 21 = .ok (.bipush 10, 2) := by decide +kernel
theorem d_E_init_23 : decode prog_2_method_1_code 23 = .ok (.newarray .int, 2) := by decide +kernel
theorem d_E_init_25 : decode prog_2_method_1_code 25 = .ok (.putfield 18, 3) := by decide +kernel
theorem d_E_init_28 : decode prog_2_method_1_code 28 = .ok (.aload_n 0, 1) := by decide +kernel
theorem d_E_init_29 : decode prog_2_method_1_code 29 = .ok (.bipush 100, 2) := by decide +kernel
theorem d_E_init_31 : decode prog_2_method_1_code 31 = .ok (.newarray .int, 2) := by decide +kernel
theorem d_E_init_33 : decode prog_2_method_1_code 33 = .ok (.putfield 21, 3) := by decide +kernel
theorem d_E_init_36 : decode prog_2_method_1_code 36 = .ok (.aload_n 0, 1) := by decide +kernel
theorem d_E_init_37 : decode prog_2_method_1_code 37 = .ok (.new 24, 3) := by decide +kernel
theorem d_E_init_40 : decode prog_2_method_1_code 40 = .ok (.dup, 1) := by decide +kernel
theorem d_E_init_41 : decode prog_2_method_1_code 41 = .ok (.invokespecial 26, 3) := by decide +kernel
theorem d_E_init_44 : decode prog_2_method_1_code 44 = .ok (.putfield 27, 3) := by decide +kernel
theorem d_E_init_47 : decode prog_2_method_1_code 47 = .ok (.aload_n 0, 1) := by decide +kernel
theorem d_E_init_48 : decode prog_2_method_1_code 48 = .ok (.new 31, 3) := by decide +kernel
theorem d_E_init_51 : decode prog_2_method_1_code 51 = .ok (.dup, 1) := by decide +kernel
theorem d_E_init_52 : decode prog_2_method_1_code 52 = .ok (.invokespecial 33, 3) := by decide +kernel
theorem d_E_init_55 : decode prog_2_method_1_code 55 = .ok (.putfield 34, 3) := by decide +kernel
theorem d_E_init_58 : decode prog_2_method_1_code 58 = .ok (.aload_n 0, 1) := by decide +kernel
theorem d_E_init_59 : decode prog_2_method_1_code 59 = .ok (.aload_n 1, 1) := by decide +kernel
theorem d_E_init_60 : decode prog_2_method_1_code 60 = .ok (.putfield 38, 3) := by decide +kernel
theorem d_E_init_63 : decode prog_2_method_1_code 63 = .ok (.return_, 1) := by decide +kernel
def m_E_init (G : Nat → Nat) (a0 : Nat) (a1 : Nat) (h : hp_H) : Option (Unit × hp_H) := hp_naK h .int (100 : Int32) (.inl fun _ => 0) fun o1 h2 => (hp_p h2 a0 5 1 (.ref o1)).bind fun h3 => hp_naK h3 .int (100 : Int32) (.inl fun _ => 0) fun o4 h5 => (hp_p h5 a0 5 2 (.ref o4)).bind fun h6 => hp_naK h6 .int (10 : Int32) (.inl fun _ => 0) fun o7 h8 => (hp_p h8 a0 5 3 (.ref o7)).bind fun h9 => hp_naK h9 .int (100 : Int32) (.inl fun _ => 0) fun o10 h11 => (hp_p h11 a0 5 4 (.ref o10)).bind fun h12 => hp_nwK h12 4 3 [.null, .int 0, .int 0] fun o13 h14 => (m_R_init G o13 h14).bind fun q15 => (hp_p q15.2 a0 5 5 (.ref o13)).bind fun h16 => hp_nwK h16 6 4 [.int 0, .int 0, .long 0, .int 0] fun o17 h18 => (m_K_init G o17 h18).bind fun q19 => (hp_p q19.2 a0 5 6 (.ref o17)).bind fun h20 => (hp_p h20 a0 5 0 (.ref a1)).bind fun h21 => some ((), h21)
set_option maxRecDepth 100000 in
set_option maxHeartbeats 4000000 in
theorem j_E_init_0 {Z : hp_Z} (a0 : Nat) (a1 : Nat) (h : hp_H) : hp_J Y_E_init Z hp_rV h 0 [(0, .ref a0), (1, .ref a1)] [] (m_E_init (hp_G Z)  a0 a1 h) := by
  unfold m_E_init
  refine hp_aload_n (x0 := 0) d_E_init_0 rfl rfl ?_
  refine hp_objInit ⟨w_158, w_29, w_30⟩ (by decide) (Nat.le_of_ble_eq_true rfl) d_E_init_1 ?_
  refine hp_aload_n (x0 := 0) d_E_init_4 rfl rfl ?_
  refine hp_bipush (v := 100) d_E_init_5 (by decide) ?_
  refine hp_newA w_115 rfl (fun _ => rfl) d_E_init_7 fun o1 h2 => ?_
  refine hp_put fl_E_9 (fun _ => ⟨rfl, fun _ q => by cases q; rfl⟩) rfl rfl d_E_init_9 fun h3 => ?_
  refine hp_aload_n (x0 := 0) d_E_init_12 rfl rfl ?_
  refine hp_bipush (v := 100) d_E_init_13 (by decide) ?_
  refine hp_newA w_115 rfl (fun _ => rfl) d_E_init_15 fun o4 h5 => ?_
  refine hp_put fl_E_15 (fun _ => ⟨rfl, fun _ q => by cases q; rfl⟩) rfl rfl d_E_init_17 fun h6 => ?_
  refine hp_aload_n (x0 := 0) d_E_init_20 rfl rfl ?_
  refine hp_bipush (v := 10) d_E_init_21 (by decide) ?_
  refine hp_newA w_115 rfl (fun _ => rfl) d_E_init_23 fun o7 h8 => ?_
  refine hp_put fl_E_18 (fun _ => ⟨rfl, fun _ q => by cases q; rfl⟩) rfl rfl d_E_init_25 fun h9 => ?_
  refine hp_aload_n (x0 := 0) d_E_init_28 rfl rfl ?_
  refine hp_bipush (v := 100) d_E_init_29 (by decide) ?_
  refine hp_newA w_115 rfl (fun _ => rfl) d_E_init_31 fun o10 h11 => ?_
  refine hp_put fl_E_21 (fun _ => ⟨rfl, fun _ q => by cases q; rfl⟩) rfl rfl d_E_init_33 fun h12 => ?_
  refine hp_aload_n (x0 := 0) d_E_init_36 rfl rfl ?_
  refine hp_newO nw_E_24 d_E_init_37 fun o13 h14 => ?_
  refine hp_dup d_E_init_40 rfl ?_
  refine hp_callU (hp_crIN (t_R_init _ _ _) cw_E_26 ⟨rfl, w_119⟩ rfl (by decide) rfl rfl (Nat.le_of_ble_eq_true rfl) d_E_init_41) fun q15 => ?_
  refine hp_put fl_E_27 (fun _ => ⟨rfl, fun _ q => by cases q; rfl⟩) rfl rfl d_E_init_44 fun h16 => ?_
  refine hp_aload_n (x0 := 0) d_E_init_47 rfl rfl ?_
  refine hp_newO nw_E_31 d_E_init_48 fun o17 h18 => ?_
  refine hp_dup d_E_init_51 rfl ?_
  refine hp_callU (hp_crIN (t_K_init _ _ _) cw_E_33 ⟨rfl, w_164⟩ rfl (by decide) rfl rfl (Nat.le_of_ble_eq_true rfl) d_E_init_52) fun q19 => ?_
  refine hp_put fl_E_34 (fun _ => ⟨rfl, fun _ q => by cases q; rfl⟩) rfl rfl d_E_init_55 fun h20 => ?_
  refine hp_aload_n (x0 := 0) d_E_init_58 rfl rfl ?_
  refine hp_aload_n (x0 := 1) d_E_init_59 rfl rfl ?_
  refine hp_put fl_E_38 (fun _ => ⟨rfl, fun _ q => by cases q; rfl⟩) rfl rfl d_E_init_60 fun h21 => ?_
  exact hp_vret d_E_init_63 rfl
theorem t_E_init (l : Launch) (E : hp_E) (a0 : Nat) (a1 : Nat) : hp_M l E y_E_init Y_E_init hp_rV [.ref a0, .ref a1] (m_E_init E.2.2.1 a0 a1) := hp_M.of (plainFor_of_name (by decide)) ⟨rfl, rfl⟩ (Nat.le_of_ble_eq_true rfl) (fun Z h hE => by subst hE; exact j_E_init_0 _ _ h)
-- G_init
theorem d_G_init_0 : decode prog_3_method_1_code 0 = .ok (.aload_n 0, 1) := by decide +kernel
theorem d_G_init_1 : decode prog_3_method_1_code 1 = .ok (.invokespecial 3, 3) := by decide +kernel
theorem d_G_init_4 : decode prog_3_method_1_code 4 = .ok (.aload_n 0, 1) := by decide +kernel
theorem d_G_init_5 : decode prog_3_method_1_code 5 = .ok (.sipush 500, 3) := by decide +kernel
theorem d_G_init_8 : decode prog_3_method_1_code 8 = .ok (.newarray .int, 2) := by decide +kernel
theorem d_G_init_10 : decode prog_3_method_1_code 10 = .ok (.putfield 9, 3) := by decide +kernel
theorem d_G_init_13 : decode prog_3_method_1_code 13 = .ok (.aload_n 0, 1) := by decide +kernel
theorem d_G_init_14 : decode prog_3_method_1_code 14 = .ok (.sipush 500, 3) := by decide +kernel
theorem d_G_init_17 : decode prog_3_method_1_code 17 = .ok (.newarray .int, 2) := by decide +kernel
theorem d_G_init_19 : decode prog_3_method_1_code 19 = .ok (.putfield 15, 3) := by decide +kernel
theorem d_G_init_22 : decode prog_3_method_1_code 22 = .ok (.aload_n 0, 1) := by decide +kernel
theorem d_G_init_23 : decode prog_3_method_1_code 23 = .ok (.new 18, 3) := by decide +kernel
theorem d_G_init_26 : decode prog_3_method_1_code 26 = .ok (.dup, 1) := by decide +kernel
theorem d_G_init_27 : decode prog_3_method_1_code 27 = .ok (.invokespecial 20, 3) := by decide +kernel
theorem d_G_init_30 : decode prog_3_method_1_code 30 = .ok (.putfield 21, 3) := by decide +kernel
theorem d_G_init_33 : decode prog_3_method_1_code 33 = .ok (.aload_n 0, 1) := by decide +kernel
theorem d_G_init_34 : decode prog_3_method_1_code 34 = .ok (.new 25, 3) := by decide +kernel
theorem d_G_init_37 : decode prog_3_method_1_code 37 = .ok (.dup, 1) := by decide +kernel
theorem d_G_init_38 : decode prog_3_method_1_code 38 = .ok (.invokespecial 27, 3) := by decide +kernel
theorem d_G_init_41 : decode prog_3_method_1_code 41 = .ok (.putfield 28, 3) := by decide +kernel
theorem d_G_init_44 : decode prog_3_method_1_code 44 = .ok (.aload_n 0, 1) := by decide +kernel
theorem d_G_init_45 : decode prog_3_method_1_code 45 = .ok (.iconst 0, 1) := by decide +kernel
theorem d_G_init_46 : decode prog_3_method_1_code 46 = .ok (.putfield 32, 3) := by decide +kernel
theorem d_G_init_49 : decode prog_3_method_1_code 49 = .ok (.aload_n 0, 1) := by decide +kernel
theorem d_G_init_50 : decode prog_3_method_1_code 50 = .ok (.aload_n 1, 1) := by decide +kernel
theorem d_G_init_51 : decode prog_3_method_1_code 51 = .ok (.putfield 36, 3) := by decide +kernel
theorem d_G_init_54 : decode prog_3_method_1_code 54 = .ok (.return_, 1) := by decide +kernel
def m_G_init (G : Nat → Nat) (a0 : Nat) (a1 : Nat) (h : hp_H) : Option (Unit × hp_H) := hp_naK h .int (500 : Int32) (.inl fun _ => 0) fun o1 h2 => (hp_p h2 a0 7 1 (.ref o1)).bind fun h3 => hp_naK h3 .int (500 : Int32) (.inl fun _ => 0) fun o4 h5 => (hp_p h5 a0 7 2 (.ref o4)).bind fun h6 => hp_nwK h6 4 3 [.null, .int 0, .int 0] fun o7 h8 => (m_R_init G o7 h8).bind fun q9 => (hp_p q9.2 a0 7 3 (.ref o7)).bind fun h10 => hp_nwK h10 6 4 [.int 0, .int 0, .long 0, .int 0] fun o11 h12 => (m_K_init G o11 h12).bind fun q13 => (hp_p q13.2 a0 7 4 (.ref o11)).bind fun h14 => (hp_p h14 a0 7 5 (.int (0 : Int32))).bind fun h15 => (hp_p h15 a0 7 0 (.ref a1)).bind fun h16 => some ((), h16)
set_option maxRecDepth 100000 in
set_option maxHeartbeats 4000000 in
theorem j_G_init_0 {Z : hp_Z} (a0 : Nat) (a1 : Nat) (h : hp_H) : hp_J Y_G_init Z hp_rV h 0 [(0, .ref a0), (1, .ref a1)] [] (m_G_init (hp_G Z)  a0 a1 h) := by
  unfold m_G_init
  refine hp_aload_n (x0 := 0) d_G_init_0 rfl rfl ?_
  refine hp_objInit ⟨w_218, w_29, w_30⟩ (by decide) (Nat.le_of_ble_eq_true rfl) d_G_init_1 ?_
  refine hp_aload_n (x0 := 0) d_G_init_4 rfl rfl ?_
  refine hp_sipush (v := 500) d_G_init_5 (by decide) ?_
  refine hp_newA w_115 rfl (fun _ => rfl) d_G_init_8 fun o1 h2 => ?_
  refine hp_put fl_G_9 (fun _ => ⟨rfl, fun _ q => by cases q; rfl⟩) rfl rfl d_G_init_10 fun h3 => ?_
  refine hp_aload_n (x0 := 0) d_G_init_13 rfl rfl ?_
  refine hp_sipush (v := 500) d_G_init_14 (by decide) ?_
  refine hp_newA w_115 rfl (fun _ => rfl) d_G_init_17 fun o4 h5 => ?_
  refine hp_put fl_G_15 (fun _ => ⟨rfl, fun _ q => by cases q; rfl⟩) rfl rfl d_G_init_19 fun h6 => ?_
  refine hp_aload_n (x0 := 0) d_G_init_22 rfl rfl ?_
  refine hp_newO nw_G_18 d_G_init_23 fun o7 h8 => ?_
  refine hp_dup d_G_init_26 rfl ?_
  refine hp_callU (hp_crIN (t_R_init _ _ _) cw_G_20 ⟨rfl, w_119⟩ rfl (by decide) rfl rfl (Nat.le_of_ble_eq_true rfl) d_G_init_27) fun q9 => ?_
  refine hp_put fl_G_21 (fun _ => ⟨rfl, fun _ q => by cases q; rfl⟩) rfl rfl d_G_init_30 fun h10 => ?_
  refine hp_aload_n (x0 := 0) d_G_init_33 rfl rfl ?_
  refine hp_newO nw_G_25 d_G_init_34 fun o11 h12 => ?_
  refine hp_dup d_G_init_37 rfl ?_
  refine hp_callU (hp_crIN (t_K_init _ _ _) cw_G_27 ⟨rfl, w_164⟩ rfl (by decide) rfl rfl (Nat.le_of_ble_eq_true rfl) d_G_init_38) fun q13 => ?_
  refine hp_put fl_G_28 (fun _ => ⟨rfl, fun _ q => by cases q; rfl⟩) rfl rfl d_G_init_41 fun h14 => ?_
  refine hp_aload_n (x0 := 0) d_G_init_44 rfl rfl ?_
  refine hp_iconst (v := 0) d_G_init_45 (by decide) ?_
  refine hp_put fl_G_32 (fun q => by cases q) rfl rfl d_G_init_46 fun h15 => ?_
  refine hp_aload_n (x0 := 0) d_G_init_49 rfl rfl ?_
  refine hp_aload_n (x0 := 1) d_G_init_50 rfl rfl ?_
  refine hp_put fl_G_36 (fun _ => ⟨rfl, fun _ q => by cases q; rfl⟩) rfl rfl d_G_init_51 fun h16 => ?_
  exact hp_vret d_G_init_54 rfl
theorem t_G_init (l : Launch) (E : hp_E) (a0 : Nat) (a1 : Nat) : hp_M l E y_G_init Y_G_init hp_rV [.ref a0, .ref a1] (m_G_init E.2.2.1 a0 a1) := hp_M.of (plainFor_of_name (by decide)) ⟨rfl, rfl⟩ (Nat.le_of_ble_eq_true rfl) (fun Z h hE => by subst hE; exact j_G_init_0 _ _ h)
-- AC_init
theorem d_AC_init_0 : decode prog_20_method_1_code 0 = .ok (.aload_n 0, 1) := by decide +kernel
theorem d_AC_init_1 : decode prog_20_method_1_code 1 = .ok (.invokespecial 1, 3) := by decide +kernel
theorem d_AC_init_4 : decode prog_20_method_1_code 4 = .ok (.return_, 1) := by decide +kernel
def m_AC_init (G : Nat → Nat) (a0 : Nat) (h : hp_H) : Option (Unit × hp_H) := some ((), h)
set_option maxRecDepth 100000 in
set_option maxHeartbeats 4000000 in
theorem j_AC_init_0 {Z : hp_Z} (a0 : Nat) (h : hp_H) : hp_J Y_AC_init Z hp_rV h 0 [(0, .ref a0)] [] (m_AC_init (hp_G Z)  a0 h) := by
  unfold m_AC_init
  refine hp_aload_n (x0 := 0) d_AC_init_0 rfl rfl ?_
  refine hp_objInit ⟨w_48, w_29, w_30⟩ (by decide) (Nat.le_of_ble_eq_true rfl) d_AC_init_1 ?_
  exact hp_vret d_AC_init_4 rfl
theorem t_AC_init (l : Launch) (E : hp_E) (a0 : Nat) : hp_M l E y_AC_init Y_AC_init hp_rV [.ref a0] (m_AC_init E.2.2.1 a0) := hp_M.of (by decide +kernel) ⟨rfl, rfl⟩ (Nat.le_of_ble_eq_true rfl) (fun Z h hE => by subst hE; exact j_AC_init_0 _ h)
-- AB_init
theorem d_AB_init_0 : decode prog_21_method_1_code 0 = .ok (.aload_n 0, 1) := by decide +kernel
theorem d_AB_init_1 : decode prog_21_method_1_code 1 = .ok (.invokespecial 1, 3) := by decide +kernel
theorem d_AB_init_4 : decode prog_21_method_1_code 4 = .ok (.aload_n 0, 1) := by decide +kernel
theorem d_AB_init_5 : decode prog_21_method_1_code 5 = .ok (.iconst 0, 1) := by decide +kernel
theorem d_AB_init_6 : decode prog_21_method_1_code 6 = .ok (.putfield 7, 3) := by decide +kernel
theorem d_AB_init_9 : decode prog_21_method_1_code 9 = .ok (.return_, 1) := by decide +kernel
def m_AB_init (G : Nat → Nat) (a0 : Nat) (h : hp_H) : Option (Unit × hp_H) := (m_AC_init G a0 h).bind fun q1 => (hp_p q1.2 a0 2 2 (.int (0 : Int32))).bind fun h2 => some ((), h2)
set_option maxRecDepth 100000 in
set_option maxHeartbeats 4000000 in
theorem j_AB_init_0 {Z : hp_Z} (a0 : Nat) (h : hp_H) : hp_J Y_AB_init Z hp_rV h 0 [(0, .ref a0)] [] (m_AB_init (hp_G Z)  a0 h) := by
  unfold m_AB_init
  refine hp_aload_n (x0 := 0) d_AB_init_0 rfl rfl ?_
  refine hp_callU (hp_crI (t_AC_init _ _ _) cw_AB_1 ⟨rfl, w_46⟩ rfl (by decide) rfl rfl (Nat.le_of_ble_eq_true rfl) d_AB_init_1) fun q1 => ?_
  refine hp_aload_n (x0 := 0) d_AB_init_4 rfl rfl ?_
  refine hp_iconst (v := 0) d_AB_init_5 (by decide) ?_
  refine hp_put fl_AB_7 (fun q => by cases q) rfl rfl d_AB_init_6 fun h2 => ?_
  exact hp_vret d_AB_init_9 rfl
theorem t_AB_init (l : Launch) (E : hp_E) (a0 : Nat) : hp_M l E y_AB_init Y_AB_init hp_rV [.ref a0] (m_AB_init E.2.2.1 a0) := hp_M.of (by decide +kernel) ⟨rfl, rfl⟩ (Nat.le_of_ble_eq_true rfl) (fun Z h hE => by subst hE; exact j_AB_init_0 _ h)
-- AL_init
theorem d_AL_init_0 : decode prog_22_method_2_code 0 = .ok (.aload_n 0, 1) := by decide +kernel
theorem d_AL_init_1 : decode prog_22_method_2_code 1 = .ok (.invokespecial 1, 3) := by decide +kernel
theorem d_AL_init_4 : decode prog_22_method_2_code 4 = .ok (.aload_n 0, 1) := by decide +kernel
theorem d_AL_init_5 : decode prog_22_method_2_code 5 = .ok (.getstatic 39, 3) := by decide +kernel
theorem d_AL_init_8 : decode prog_22_method_2_code 8 = .ok (.putfield 9, 3) := by decide +kernel
theorem d_AL_init_11 : decode prog_22_method_2_code 11 = .ok (.return_, 1) := by decide +kernel
def m_AL_init (G : Nat → Nat) (a0 : Nat) (h : hp_H) : Option (Unit × hp_H) := (m_AB_init G a0 h).bind fun q1 => (hp_p q1.2 a0 2 0 (.ref (G 4))).bind fun h2 => some ((), h2)
set_option maxRecDepth 100000 in
set_option maxHeartbeats 4000000 in
theorem j_AL_init_0 {Z : hp_Z} (a0 : Nat) (h : hp_H) : hp_J Y_AL_init Z hp_rV h 0 [(0, .ref a0)] [] (m_AL_init (hp_G Z)  a0 h) := by
  unfold m_AL_init
  refine hp_aload_n (x0 := 0) d_AL_init_0 rfl rfl ?_
  refine hp_callU (hp_crI (t_AB_init _ _ _) cw_AL_1 ⟨rfl, w_43⟩ rfl (by decide) rfl rfl (Nat.le_of_ble_eq_true rfl) d_AL_init_1) fun q1 => ?_
  refine hp_aload_n (x0 := 0) d_AL_init_4 rfl rfl ?_
  refine hp_gets (k := 4) rfl w_49 d_AL_init_5 ?_
  refine hp_put fl_AL_9 (fun q => by cases q) rfl rfl d_AL_init_8 fun h2 => ?_
  exact hp_vret d_AL_init_11 rfl
theorem t_AL_init (l : Launch) (E : hp_E) (a0 : Nat) : hp_M l E y_AL_init Y_AL_init hp_rV [.ref a0] (m_AL_init E.2.2.1 a0) := hp_M.of (by decide +kernel) ⟨rfl, rfl⟩ (Nat.le_of_ble_eq_true rfl) (fun Z h hE => by subst hE; exact j_AL_init_0 _ h)
-- V_init
theorem d_V_init_0 : decode prog_7_method_1_code 0 = .ok (.aload_n 0, 1) := by decide +kernel
theorem d_V_init_1 : decode prog_7_method_1_code 1 = .ok (.invokespecial 3, 3) := by decide +kernel
theorem d_V_init_4 : decode prog_7_method_1_code 4 = .ok (.aload_n 0, 1) := by decide +kernel
theorem d_V_init_5 : decode prog_7_method_1_code 5 = .ok (.iload_n 1, 1) := by decide +kernel
theorem d_V_init_6 : decode prog_7_method_1_code 6 = .ok (.putfield 9, 3) := by decide +kernel
theorem d_V_init_9 : decode prog_7_method_1_code 9 = .ok (.aload_n 0, 1) := by decide +kernel
theorem d_V_init_10 : decode prog_7_method_1_code 10 = .ok (.iload_n 2, 1) := by decide +kernel
theorem d_V_init_11 : decode prog_7_method_1_code 11 = .ok (.putfield 15, 3) := by decide +kernel
theorem d_V_init_14 : decode prog_7_method_1_code 14 = .ok (.aload_n 0, 1) := by decide +kernel
theorem d_V_init_15 : decode prog_7_method_1_code 15 = .ok (.lload_n 3, 1) := by decide +kernel
theorem d_V_init_16 : decode prog_7_method_1_code 16 = .ok (.putfield 18, 3) := by decide +kernel
theorem d_V_init_19 : decode prog_7_method_1_code 19 = .ok (.aload_n 0, 1) := by decide +kernel
theorem d_V_init_20 : decode prog_7_method_1_code 20 = .ok (.iload 5, 2) := by decide +kernel
theorem d_V_init_22 : decode prog_7_method_1_code 22 = .ok (.putfield 22, 3) := by decide +kernel
theorem d_V_init_25 : decode prog_7_method_1_code 25 = .ok (.aload_n 0, 1) := by decide +kernel
theorem d_V_init_26 : decode prog_7_method_1_code 26 = .ok (.aload 6, 2) := by decide +kernel
theorem d_V_init_28 : decode prog_7_method_1_code 28 = .ok (.putfield 25, 3) := by decide +kernel
theorem d_V_init_31 : decode prog_7_method_1_code 31 = .ok (.aload_n 0, 1) := by decide +kernel
theorem d_V_init_32 : decode prog_7_method_1_code 32 = .ok (.iload 7, 2) := by decide +kernel
theorem d_V_init_34 : decode prog_7_method_1_code 34 = .ok (.putfield 29, 3) := by decide +kernel
theorem d_V_init_37 : decode prog_7_method_1_code 37 = .ok (.return_, 1) := by decide +kernel
def m_V_init (G : Nat → Nat) (a0 : Nat) (a1 : Int32) (a2 : Int32) (a3 : Int64) (a5 : Int32) (a6 : Nat) (a7 : Int32) (h : hp_H) : Option (Unit × hp_H) := (hp_p h a0 3 0 (.int a1)).bind fun h1 => (hp_p h1 a0 3 1 (.int a2)).bind fun h2 => (hp_p h2 a0 3 2 (.long a3)).bind fun h3 => (hp_p h3 a0 3 3 (.int a5)).bind fun h4 => (hp_p h4 a0 3 4 (.ref a6)).bind fun h5 => (hp_p h5 a0 3 5 (.int a7)).bind fun h6 => some ((), h6)
set_option maxRecDepth 100000 in
set_option maxHeartbeats 4000000 in
theorem j_V_init_0 {Z : hp_Z} (a0 : Nat) (a1 : Int32) (a2 : Int32) (a3 : Int64) (a5 : Int32) (a6 : Nat) (a7 : Int32) (h : hp_H) : hp_J Y_V_init Z hp_rV h 0 [(0, .ref a0), (1, .int a1), (2, .int a2), (3, .long a3), (5, .int a5), (6, .ref a6), (7, .int a7)] [] (m_V_init (hp_G Z)  a0 a1 a2 a3 a5 a6 a7 h) := by
  unfold m_V_init
  refine hp_aload_n (x0 := 0) d_V_init_0 rfl rfl ?_
  refine hp_objInit ⟨w_70, w_29, w_30⟩ (by decide) (Nat.le_of_ble_eq_true rfl) d_V_init_1 ?_
  refine hp_aload_n (x0 := 0) d_V_init_4 rfl rfl ?_
  refine hp_iload_n (x0 := 1) d_V_init_5 rfl rfl ?_
  refine hp_put fl_V_9 (fun _ => ⟨rfl, fun _ q => by cases q; rfl⟩) rfl rfl d_V_init_6 fun h1 => ?_
  refine hp_aload_n (x0 := 0) d_V_init_9 rfl rfl ?_
  refine hp_iload_n (x0 := 2) d_V_init_10 rfl rfl ?_
  refine hp_put fl_V_15 (fun _ => ⟨rfl, fun _ q => by cases q; rfl⟩) rfl rfl d_V_init_11 fun h2 => ?_
  refine hp_aload_n (x0 := 0) d_V_init_14 rfl rfl ?_
  refine hp_lload_n (x0 := 3) d_V_init_15 rfl rfl ?_
  refine hp_put fl_V_18 (fun _ => ⟨rfl, fun _ q => by cases q; rfl⟩) rfl rfl d_V_init_16 fun h3 => ?_
  refine hp_aload_n (x0 := 0) d_V_init_19 rfl rfl ?_
  refine hp_iload (x0 := 4) d_V_init_20 rfl ?_
  refine hp_put fl_V_22 (fun _ => ⟨rfl, fun _ q => by cases q; rfl⟩) rfl rfl d_V_init_22 fun h4 => ?_
  refine hp_aload_n (x0 := 0) d_V_init_25 rfl rfl ?_
  refine hp_aload (x0 := 5) d_V_init_26 rfl ?_
  refine hp_put fl_V_25 (fun _ => ⟨rfl, fun _ q => by cases q; rfl⟩) rfl rfl d_V_init_28 fun h5 => ?_
  refine hp_aload_n (x0 := 0) d_V_init_31 rfl rfl ?_
  refine hp_iload (x0 := 6) d_V_init_32 rfl ?_
  refine hp_put fl_V_29 (fun _ => ⟨rfl, fun _ q => by cases q; rfl⟩) rfl rfl d_V_init_34 fun h6 => ?_
  exact hp_vret d_V_init_37 rfl
theorem t_V_init (l : Launch) (E : hp_E) (a0 : Nat) (a1 : Int32) (a2 : Int32) (a3 : Int64) (a5 : Int32) (a6 : Nat) (a7 : Int32) : hp_M l E y_V_init Y_V_init hp_rV [.ref a0, .int a1, .int a2, .long a3, .int a5, .ref a6, .int a7] (m_V_init E.2.2.1 a0 a1 a2 a3 a5 a6 a7) := hp_M.of (plainFor_of_name (by decide)) ⟨rfl, rfl⟩ (Nat.le_of_ble_eq_true rfl) (fun Z h hE => by subst hE; exact j_V_init_0 _ _ _ _ _ _ _ h)
-- S_init
theorem d_S_init_0 : decode prog_6_method_1_code 0 = .ok (.aload_n 0, 1) := by decide +kernel
theorem d_S_init_1 : decode prog_6_method_1_code 1 = .ok (.invokespecial 3, 3) := by decide +kernel
theorem d_S_init_4 : decode prog_6_method_1_code 4 = .ok (.aload_n 0, 1) := by decide +kernel
theorem d_S_init_5 : decode prog_6_method_1_code 5 = .ok (.new 9, 3) := by decide +kernel
theorem d_S_init_8 : decode prog_6_method_1_code 8 = .ok (.dup, 1) := by decide +kernel
theorem d_S_init_9 : decode prog_6_method_1_code 9 = .ok (.invokespecial 11, 3) := by decide +kernel
theorem d_S_init_12 : decode prog_6_method_1_code 12 = .ok (.putfield 12, 3) := by decide +kernel
theorem d_S_init_15 : decode prog_6_method_1_code 15 = .ok (.aload_n 0, 1) := by decide +kernel
theorem d_S_init_16 : decode prog_6_method_1_code 16 = .ok (.sipush 256, 3) := by decide +kernel
theorem d_S_init_19 : decode prog_6_method_1_code 19 = .ok (.newarray .int, 2) := by decide +kernel
theorem d_S_init_21 : decode prog_6_method_1_code 21 = .ok (.putfield 18, 3) := by decide +kernel
theorem d_S_init_24 : decode prog_6_method_1_code 24 = .ok (.aload_n 0, 1) := by decide +kernel
theorem d_S_init_25 : decode prog_6_method_1_code 25 = .ok (.new 22, 3) := by decide +kernel
theorem d_S_init_28 : decode prog_6_method_1_code 28 = .ok (.dup, 1) := by decide +kernel
theorem d_S_init_29 : decode prog_6_method_1_code 29 = .ok (.iconst 0, 1) := by decide +kernel
theorem d_S_init_30 : decode prog_6_method_1_code 30 = .ok (.iconst 0, 1) := by decide +kernel
theorem d_S_init_31 : decode prog_6_method_1_code 31 = .ok (.lconst 0, 1) := by decide +kernel
theorem d_S_init_32 : decode prog_6_method_1_code 32 = .ok (.iconst 0, 1) := by decide +kernel
theorem d_S_init_33 : decode prog_6_method_1_code 33 = .ok (.getstatic 24, 3) := by decide +kernel
theorem d_S_init_36 : decode prog_6_method_1_code 36 = .ok (.iconst 0, 1) := by decide +kernel
theorem d_S_init_37 : decode prog_6_method_1_code 37 = .ok (.invokespecial 28, 3) := by decide +kernel
theorem d_S_init_40 : decode prog_6_method_1_code 40 = .ok (.putfield 31, 3) := by decide +kernel
theorem d_S_init_43 : decode prog_6_method_1_code 43 = .ok (.aload_n 0, 1) := by decide +kernel
theorem d_S_init_44 : decode prog_6_method_1_code 44 = .ok (.new 35, 3) := by decide +kernel
theorem d_S_init_47 : decode prog_6_method_1_code 47 = .ok (.dup, 1) := by decide +kernel
theorem d_S_init_48 : decode prog_6_method_1_code 48 = .ok (.invokespecial 37, 3) := by decide +kernel
theorem d_S_init_51 : decode prog_6_method_1_code 51 = .ok (.putfield 38, 3) := by decide +kernel
theorem d_S_init_54 : decode prog_6_method_1_code 54 = .ok (.return_, 1) := by decide +kernel
def m_S_init (G : Nat → Nat) (a0 : Nat) (h : hp_H) : Option (Unit × hp_H) := hp_nwK h 2 3 [.null, .int 0, .int 0] fun o1 h2 => (m_AL_init G o1 h2).bind fun q3 => (hp_p q3.2 a0 1 0 (.ref o1)).bind fun h4 => hp_naK h4 .int (256 : Int32) (.inl fun _ => 0) fun o5 h6 => (hp_p h6 a0 1 1 (.ref o5)).bind fun h7 => hp_nwK h7 3 6 [.int 0, .int 0, .long 0, .int 0, .null, .int 0] fun o8 h9 => (m_V_init G o8 (0 : Int32) (0 : Int32) (0 : Int64) (0 : Int32) (G 1) (0 : Int32) h9).bind fun q10 => (hp_p q10.2 a0 1 2 (.ref o8)).bind fun h11 => hp_nwK h11 4 3 [.null, .int 0, .int 0] fun o12 h13 => (m_R_init G o12 h13).bind fun q14 => (hp_p q14.2 a0 1 3 (.ref o12)).bind fun h15 => some ((), h15)
set_option maxRecDepth 100000 in
set_option maxHeartbeats 4000000 in
theorem j_S_init_0 {Z : hp_Z} (a0 : Nat) (h : hp_H) : hp_J Y_S_init Z hp_rV h 0 [(0, .ref a0)] [] (m_S_init (hp_G Z)  a0 h) := by
  unfold m_S_init
  refine hp_aload_n (x0 := 0) d_S_init_0 rfl rfl ?_
  refine hp_objInit ⟨w_36, w_29, w_30⟩ (by decide) (Nat.le_of_ble_eq_true rfl) d_S_init_1 ?_
  refine hp_aload_n (x0 := 0) d_S_init_4 rfl rfl ?_
  refine hp_newO nw_S_9 d_S_init_5 fun o1 h2 => ?_
  refine hp_dup d_S_init_8 rfl ?_
  refine hp_callU (hp_crI (t_AL_init _ _ _) cw_S_11 ⟨rfl, w_40⟩ rfl (by decide) rfl rfl (Nat.le_of_ble_eq_true rfl) d_S_init_9) fun q3 => ?_
  refine hp_put fl_S_12 (fun _ => ⟨rfl, fun _ q => by cases q; rfl⟩) rfl rfl d_S_init_12 fun h4 => ?_
  refine hp_aload_n (x0 := 0) d_S_init_15 rfl rfl ?_
  refine hp_sipush (v := 256) d_S_init_16 (by decide) ?_
  refine hp_newA w_115 rfl (fun _ => rfl) d_S_init_19 fun o5 h6 => ?_
  refine hp_put fl_S_18 (fun _ => ⟨rfl, fun _ q => by cases q; rfl⟩) rfl rfl d_S_init_21 fun h7 => ?_
  refine hp_aload_n (x0 := 0) d_S_init_24 rfl rfl ?_
  refine hp_newO nw_S_22 d_S_init_25 fun o8 h9 => ?_
  refine hp_dup d_S_init_28 rfl ?_
  refine hp_iconst (v := 0) d_S_init_29 (by decide) ?_
  refine hp_iconst (v := 0) d_S_init_30 (by decide) ?_
  refine hp_lconst (v := 0) d_S_init_31 (by decide) ?_
  refine hp_iconst (v := 0) d_S_init_32 (by decide) ?_
  refine hp_getsN (k := 1) rfl w_65 d_S_init_33 ?_
  refine hp_iconst (v := 0) d_S_init_36 (by decide) ?_
  refine hp_callU (hp_crI (t_V_init _ _ _ _ _ _ _ _ _) cw_S_28 ⟨rfl, w_68⟩ rfl (by decide) rfl rfl (Nat.le_of_ble_eq_true rfl) d_S_init_37) fun q10 => ?_
  refine hp_put fl_S_31 (fun _ => ⟨rfl, fun _ q => by cases q; rfl⟩) rfl rfl d_S_init_40 fun h11 => ?_
  refine hp_aload_n (x0 := 0) d_S_init_43 rfl rfl ?_
  refine hp_newO nw_S_35 d_S_init_44 fun o12 h13 => ?_
  refine hp_dup d_S_init_47 rfl ?_
  refine hp_callU (hp_crIN (t_R_init _ _ _) cw_S_37 ⟨rfl, w_119⟩ rfl (by decide) rfl rfl (Nat.le_of_ble_eq_true rfl) d_S_init_48) fun q14 => ?_
  refine hp_put fl_S_38 (fun _ => ⟨rfl, fun _ q => by cases q; rfl⟩) rfl rfl d_S_init_51 fun h15 => ?_
  exact hp_vret d_S_init_54 rfl
theorem t_S_init (l : Launch) (E : hp_E) (a0 : Nat) : hp_M l E y_S_init Y_S_init hp_rV [.ref a0] (m_S_init E.2.2.1 a0) := hp_M.of (plainFor_of_name (by decide)) ⟨rfl, rfl⟩ (Nat.le_of_ble_eq_true rfl) (fun Z h hE => by subst hE; exact j_S_init_0 _ h)
-- D_init
theorem d_D_init_0 : decode prog_1_method_1_code 0 = .ok (.aload_n 0, 1) := by decide +kernel
theorem d_D_init_1 : decode prog_1_method_1_code 1 = .ok (.invokespecial 1, 3) := by decide +kernel
theorem d_D_init_4 : decode prog_1_method_1_code 4 = .ok (.aload_n 0, 1) := by decide +kernel
theorem d_D_init_5 : decode prog_1_method_1_code 5 = .ok (.new 7, 3) := by decide +kernel
theorem d_D_init_8 : decode prog_1_method_1_code 8 = .ok (.dup, 1) := by decide +kernel
theorem d_D_init_9 : decode prog_1_method_1_code 9 = .ok (.invokespecial 9, 3) := by decide +kernel
theorem d_D_init_12 : decode prog_1_method_1_code 12 = .ok (.putfield 10, 3) := by decide +kernel
theorem d_D_init_15 : decode prog_1_method_1_code 15 = .ok (.aload_n 0, 1) := by decide +kernel
theorem d_D_init_16 : decode prog_1_method_1_code 16 = .ok (.new 16, 3) := by decide +kernel
theorem d_D_init_19 : decode prog_1_method_1_code 19 = .ok (.dup, 1) := by decide +kernel
theorem d_D_init_20 : decode prog_1_method_1_code 20 = .ok (.invokespecial 18, 3) := by decide +kernel
theorem d_D_init_23 : decode prog_1_method_1_code 23 = .ok (.putfield 19, 3) := by decide +kernel
theorem d_D_init_26 : decode prog_1_method_1_code 26 = .ok (.aload_n 0, 1) := by decide +kernel
theorem d_D_init_27 : decode prog_1_method_1_code 27 = .ok (.new 23, 3) := by decide +kernel
theorem d_D_init_30 : decode prog_1_method_1_code 30 = .ok (.dup, 1) := by decide +kernel
theorem d_D_init_31 : decode prog_1_method_1_code 31 = .ok (.aload_n 0, 1) := by decide +kernel
theorem d_D_init_32 : decode prog_1_method_1_code 32 = .ok (.getfield 10, 3) := by decide +kernel
theorem d_D_init_35 : decode prog_1_method_1_code 35 = .ok (.invokespecial 25, 3) := by decide +kernel
theorem d_D_init_38 : decode prog_1_method_1_code 38 = .ok (.putfield 28, 3) := by decide +kernel
theorem d_D_init_41 : decode prog_1_method_1_code 41 = .ok (.aload_n 0, 1) := by decide +kernel
theorem d_D_init_42 : decode prog_1_method_1_code 42 = .ok (.new 32, 3) := by decide +kernel
theorem d_D_init_45 : decode prog_1_method_1_code 45 = .ok (.dup, 1) := by decide +kernel
theorem d_D_init_46 : decode prog_1_method_1_code 46 = .ok (.aload_n 0, 1) := by decide +kernel
theorem d_D_init_47 : decode prog_1_method_1_code 47 = .ok (.getfield 10, 3) := by decide +kernel
theorem d_D_init_50 : decode prog_1_method_1_code 50 = .ok (.invokespecial 34, 3) := by decide +kernel
theorem d_D_init_53 : decode prog_1_method_1_code 53 = .ok (.putfield 35, 3) := by decide +kernel
theorem d_D_init_56 : decode prog_1_method_1_code 56 = .ok (.return_, 1) := by decide +kernel
def m_D_init (G : Nat → Nat) (a0 : Nat) (h : hp_H) : Option (Unit × hp_H) := hp_nwK h 1 4 [.null, .null, .null, .null] fun o1 h2 => (m_S_init G o1 h2).bind fun q3 => (hp_p q3.2 a0 0 0 (.ref o1)).bind fun h4 => hp_nwK h4 4 3 [.null, .int 0, .int 0] fun o5 h6 => (m_R_init G o5 h6).bind fun q7 => (hp_p q7.2 a0 0 1 (.ref o5)).bind fun h8 => hp_nwK h8 5 9 [.null, .null, .null, .null, .null, .null, .null, .int 0, .int 0] fun o9 h10 => (hp_gR h10 a0 0 0).bind fun x11 => (m_E_init G o9 x11 h10).bind fun q12 => (hp_p q12.2 a0 0 2 (.ref o9)).bind fun h13 => hp_nwK h13 7 9 [.null, .null, .null, .null, .null, .int 0, .int 0, .int 0, .int 0] fun o14 h15 => (hp_gR h15 a0 0 0).bind fun x16 => (m_G_init G o14 x16 h15).bind fun q17 => (hp_p q17.2 a0 0 3 (.ref o14)).bind fun h18 => some ((), h18)
set_option maxRecDepth 100000 in
set_option maxHeartbeats 4000000 in
theorem j_D_init_0 {Z : hp_Z} (a0 : Nat) (h : hp_H) : hp_J Y_D_init Z hp_rV h 0 [(0, .ref a0)] [] (m_D_init (hp_G Z)  a0 h) := by
  unfold m_D_init
  refine hp_aload_n (x0 := 0) d_D_init_0 rfl rfl ?_
  refine hp_objInit ⟨w_28, w_29, w_30⟩ (by decide) (Nat.le_of_ble_eq_true rfl) d_D_init_1 ?_
  refine hp_aload_n (x0 := 0) d_D_init_4 rfl rfl ?_
  refine hp_newO nw_D_7 d_D_init_5 fun o1 h2 => ?_
  refine hp_dup d_D_init_8 rfl ?_
  refine hp_callU (hp_crIN (t_S_init _ _ _) cw_D_9 ⟨rfl, w_34⟩ rfl (by decide) rfl rfl (Nat.le_of_ble_eq_true rfl) d_D_init_9) fun q3 => ?_
  refine hp_put fl_D_10 (fun _ => ⟨rfl, fun _ q => by cases q; rfl⟩) rfl rfl d_D_init_12 fun h4 => ?_
  refine hp_aload_n (x0 := 0) d_D_init_15 rfl rfl ?_
  refine hp_newO nw_D_16 d_D_init_16 fun o5 h6 => ?_
  refine hp_dup d_D_init_19 rfl ?_
  refine hp_callU (hp_crIN (t_R_init _ _ _) cw_D_18 ⟨rfl, w_119⟩ rfl (by decide) rfl rfl (Nat.le_of_ble_eq_true rfl) d_D_init_20) fun q7 => ?_
  refine hp_put fl_D_19 (fun _ => ⟨rfl, fun _ q => by cases q; rfl⟩) rfl rfl d_D_init_23 fun h8 => ?_
  refine hp_aload_n (x0 := 0) d_D_init_26 rfl rfl ?_
  refine hp_newO nw_D_23 d_D_init_27 fun o9 h10 => ?_
  refine hp_dup d_D_init_30 rfl ?_
  refine hp_aload_n (x0 := 0) d_D_init_31 rfl rfl ?_
  refine hp_getR fl_D_10 d_D_init_32 fun x11 => ?_
  refine hp_callU (hp_crI (t_E_init _ _ _ _) cw_D_25 ⟨rfl, w_156⟩ rfl (by decide) rfl rfl (Nat.le_of_ble_eq_true rfl) d_D_init_35) fun q12 => ?_
  refine hp_put fl_D_28 (fun _ => ⟨rfl, fun _ q => by cases q; rfl⟩) rfl rfl d_D_init_38 fun h13 => ?_
  refine hp_aload_n (x0 := 0) d_D_init_41 rfl rfl ?_
  refine hp_newO nw_D_32 d_D_init_42 fun o14 h15 => ?_
  refine hp_dup d_D_init_45 rfl ?_
  refine hp_aload_n (x0 := 0) d_D_init_46 rfl rfl ?_
  refine hp_getR fl_D_10 d_D_init_47 fun x16 => ?_
  refine hp_callU (hp_crI (t_G_init _ _ _ _) cw_D_34 ⟨rfl, w_216⟩ rfl (by decide) rfl rfl (Nat.le_of_ble_eq_true rfl) d_D_init_50) fun q17 => ?_
  refine hp_put fl_D_35 (fun _ => ⟨rfl, fun _ q => by cases q; rfl⟩) rfl rfl d_D_init_53 fun h18 => ?_
  exact hp_vret d_D_init_56 rfl
theorem t_D_init (l : Launch) (E : hp_E) (a0 : Nat) : hp_M l E y_D_init Y_D_init hp_rV [.ref a0] (m_D_init E.2.2.1 a0) := hp_M.of (plainFor_of_name (by decide)) ⟨rfl, rfl⟩ (Nat.le_of_ble_eq_true rfl) (fun Z h hE => by subst hE; exact j_D_init_0 _ h)
-- R_put
theorem d_R_put_0 : decode prog_5_method_3_code 0 = .ok (.aload_n 0, 1) := by decide +kernel
theorem d_R_put_1 : decode prog_5_method_3_code 1 = .ok (.getfield 15, 3) := by decide +kernel
theorem d_R_put_4 : decode prog_5_method_3_code 4 = .ok (.bipush 64, 2) := by decide +kernel
theorem d_R_put_6 : decode prog_5_method_3_code 6 = .ok (.if_icmp .lt 9, 3) := by decide +kernel
theorem d_R_put_9 : decode prog_5_method_3_code 9 = .ok (.aload_n 0, 1) := by decide +kernel
theorem d_R_put_10 : decode prog_5_method_3_code 10 = .ok (.iconst 1, 1) := by decide +kernel
theorem d_R_put_11 : decode prog_5_method_3_code 11 = .ok (.putfield 19, 3) := by decide +kernel
theorem d_R_put_14 : decode prog_5_method_3_code 14 = .ok (.return_, 1) := by decide +kernel
theorem d_R_put_15 : decode prog_5_method_3_code 15 = .ok (.aload_n 0, 1) := by decide +kernel
theorem d_R_put_16 : decode prog_5_method_3_code 16 = .ok (.getfield 9, 3) := by decide +kernel
theorem d_R_put_19 : decode prog_5_method_3_code 19 = .ok (.aload_n 0, 1) := by decide +kernel
theorem d_R_put_20 : decode prog_5_method_3_code 20 = .ok (.getfield 15, 3) := by decide +kernel
theorem d_R_put_23 : decode prog_5_method_3_code 23 = .ok (.iload_n 1, 1) := by decide +kernel
theorem d_R_put_24 : decode prog_5_method_3_code 24 = .ok (.i2b, 1) := by decide +kernel
theorem d_R_put_25 : decode prog_5_method_3_code 25 = .ok (.bastore, 1) := by decide +kernel
theorem d_R_put_26 : decode prog_5_method_3_code 26 = .ok (.aload_n 0, 1) := by decide +kernel
theorem d_R_put_27 : decode prog_5_method_3_code 27 = .ok (.dup, 1) := by decide +kernel
theorem d_R_put_28 : decode prog_5_method_3_code 28 = .ok (.getfield 15, 3) := by decide +kernel
theorem d_R_put_31 : decode prog_5_method_3_code 31 = .ok (.iconst 1, 1) := by decide +kernel
theorem d_R_put_32 : decode prog_5_method_3_code 32 = .ok (.iadd, 1) := by decide +kernel
theorem d_R_put_33 : decode prog_5_method_3_code 33 = .ok (.putfield 15, 3) := by decide +kernel
theorem d_R_put_36 : decode prog_5_method_3_code 36 = .ok (.return_, 1) := by decide +kernel
def m_R_put (G : Nat → Nat) (a0 : Nat) (a1 : Int32) (h : hp_H) : Option (Unit × hp_H) := (hp_gI h a0 4 1).bind fun x1 => if x1 < (64 : Int32) then ((hp_gR h a0 4 0).bind fun x2 => (hp_gI h a0 4 1).bind fun x3 => (hp_sI h .byte x2 x3 a1.toInt8.toInt32.toInt8.toInt32).bind fun h4 => (hp_gI h4 a0 4 1).bind fun x5 => (hp_p h4 a0 4 1 (.int (x5 + (1 : Int32)))).bind fun h6 => some ((), h6)) else ((hp_pZ h a0 4 2 (1 : Int32)).bind fun h7 => some ((), h7))
set_option maxRecDepth 100000 in
set_option maxHeartbeats 4000000 in
theorem j_R_put_0 {Z : hp_Z} (a0 : Nat) (a1 : Int32) (h : hp_H) : hp_J Y_R_put Z hp_rV h 0 [(0, .ref a0), (1, .int a1)] [] (m_R_put (hp_G Z)  a0 a1 h) := by
  unfold m_R_put
  refine hp_aload_n (x0 := 0) d_R_put_0 rfl rfl ?_
  refine hp_getI fl_R_15 d_R_put_1 fun x1 => ?_
  refine hp_bipush (v := 64) d_R_put_4 (by decide) ?_
  refine hp_icmp_lt (tgt := 15) d_R_put_6 (by decide) ?_ ?_
  · refine hp_aload_n (x0 := 0) d_R_put_15 rfl rfl ?_
    refine hp_getR fl_R_9 d_R_put_16 fun x2 => ?_
    refine hp_aload_n (x0 := 0) d_R_put_19 rfl rfl ?_
    refine hp_getI fl_R_15 d_R_put_20 fun x3 => ?_
    refine hp_iload_n (x0 := 1) d_R_put_23 rfl rfl ?_
    refine hp_i2b d_R_put_24 ?_
    refine hp_bast d_R_put_25 fun h4 => ?_
    refine hp_aload_n (x0 := 0) d_R_put_26 rfl rfl ?_
    refine hp_dup d_R_put_27 rfl ?_
    refine hp_getI fl_R_15 d_R_put_28 fun x5 => ?_
    refine hp_iconst (v := 1) d_R_put_31 (by decide) ?_
    refine hp_iadd d_R_put_32 ?_
    refine hp_put fl_R_15 (fun q => by cases q) rfl rfl d_R_put_33 fun h6 => ?_
    exact hp_vret d_R_put_36 rfl
  · refine hp_aload_n (x0 := 0) d_R_put_9 rfl rfl ?_
    refine hp_iconst (v := 1) d_R_put_10 (by decide) ?_
    refine hp_putZ fl_R_19 (fun q => by cases q) d_R_put_11 fun h7 => ?_
    exact hp_vret d_R_put_14 rfl
theorem t_R_put (l : Launch) (E : hp_E) (a0 : Nat) (a1 : Int32) : hp_M l E y_R_put Y_R_put hp_rV [.ref a0, .int a1] (m_R_put E.2.2.1 a0 a1) := hp_M.of (plainFor_of_name (by decide)) ⟨rfl, rfl⟩ (Nat.le_of_ble_eq_true rfl) (fun Z h hE => by subst hE; exact j_R_put_0 _ _ h)
-- D_type
theorem d_D_type_0 : decode prog_1_method_2_code 0 = .ok (.iload_n 3, 1) := by decide +kernel
theorem d_D_type_1 : decode prog_1_method_2_code 1 = .ok (.iconst 1, 1) := by decide +kernel
theorem d_D_type_2 : decode prog_1_method_2_code 2 = .ok (.if_icmp .lt 9, 3) := by decide +kernel
theorem d_D_type_5 : decode prog_1_method_2_code 5 = .ok (.iload_n 3, 1) := by decide +kernel
theorem d_D_type_6 : decode prog_1_method_2_code 6 = .ok (.bipush 8, 2) := by decide +kernel
theorem d_D_type_8 : decode prog_1_method_2_code 8 = .ok (.if_icmp .le 5, 3) := by decide +kernel
theorem d_D_type_11 : decode prog_1_method_2_code 11 = .ok (.iconst (-1), 1) := by decide +kernel
theorem d_D_type_12 : decode prog_1_method_2_code 12 = .ok (.ireturn, 1) := by decide +kernel
theorem d_D_type_13 : decode prog_1_method_2_code 13 = .ok (.aload_n 0, 1) := by decide +kernel
theorem d_D_type_14 : decode prog_1_method_2_code 14 = .ok (.getfield 19, 3) := by decide +kernel
theorem d_D_type_17 : decode prog_1_method_2_code 17 = .ok (.getfield 39, 3) := by decide +kernel
theorem d_D_type_20 : decode prog_1_method_2_code 20 = .ok (.iload_n 3, 1) := by decide +kernel
theorem d_D_type_21 : decode prog_1_method_2_code 21 = .ok (.iadd, 1) := by decide +kernel
theorem d_D_type_22 : decode prog_1_method_2_code 22 = .ok (.bipush 64, 2) := by decide +kernel
theorem d_D_type_24 : decode prog_1_method_2_code 24 = .ok (.if_icmp .le 6, 3) := by decide +kernel
theorem d_D_type_27 : decode prog_1_method_2_code 27 = .ok (.bipush (-3), 2) := by decide +kernel
theorem d_D_type_29 : decode prog_1_method_2_code 29 = .ok (.ireturn, 1) := by decide +kernel
theorem d_D_type_30 : decode prog_1_method_2_code 30 = .ok (.iload_n 3, 1) := by decide +kernel
theorem d_D_type_31 : decode prog_1_method_2_code 31 = .ok (.iconst 1, 1) := by decide +kernel
theorem d_D_type_32 : decode prog_1_method_2_code 32 = .ok (.isub, 1) := by decide +kernel
theorem d_D_type_33 : decode prog_1_method_2_code 33 = .ok (.istore 4, 2) := by decide +kernel
theorem d_D_type_35 : decode prog_1_method_2_code 35 = .ok (.iload 4, 2) := by decide +kernel
theorem d_D_type_37 : decode prog_1_method_2_code 37 = .ok (.ifCond .lt 24, 3) := by decide +kernel
theorem d_D_type_40 : decode prog_1_method_2_code 40 = .ok (.aload_n 0, 1) := by decide +kernel
theorem d_D_type_41 : decode prog_1_method_2_code 41 = .ok (.getfield 19, 3) := by decide +kernel
theorem d_D_type_44 : decode prog_1_method_2_code 44 = .ok (.lload_n 1, 1) := by decide +kernel
theorem d_D_type_45 : decode prog_1_method_2_code 45 = .ok (.bipush 8, 2) := by decide +kernel
theorem d_D_type_47 : decode prog_1_method_2_code 47 = .ok (.iload 4, 2) := by decide +kernel
theorem d_D_type_49 : decode prog_1_method_2_code 49 = .ok (.imul, 1) := by decide +kernel
theorem d_D_type_50 : decode prog_1_method_2_code 50 = .ok (.lushr, 1) := by decide +kernel
theorem d_D_type_51 : decode prog_1_method_2_code 51 = .ok (.l2i, 1) := by decide +kernel
theorem d_D_type_52 : decode prog_1_method_2_code 52 = .ok (.invokevirtual 43, 3) := by decide +kernel
theorem d_D_type_55 : decode prog_1_method_2_code 55 = .ok (.iinc 4 (-1), 3) := by decide +kernel
theorem d_D_type_58 : decode prog_1_method_2_code 58 = .ok (.goto (-23), 3) := by decide +kernel
theorem d_D_type_61 : decode prog_1_method_2_code 61 = .ok (.aload_n 0, 1) := by decide +kernel
theorem d_D_type_62 : decode prog_1_method_2_code 62 = .ok (.getfield 19, 3) := by decide +kernel
theorem d_D_type_65 : decode prog_1_method_2_code 65 = .ok (.getfield 39, 3) := by decide +kernel
theorem d_D_type_68 : decode prog_1_method_2_code 68 = .ok (.ireturn, 1) := by decide +kernel
def m_D_type_11 (G : Nat → Nat) (h : hp_H) : Option (Int32 × hp_H) := some ((-1 : Int32), h)
set_option maxRecDepth 100000 in
set_option maxHeartbeats 4000000 in
theorem j_D_type_11 {Z : hp_Z} (h : hp_H) : hp_J Y_D_type Z hp_rI h 11 [] [] (m_D_type_11 (hp_G Z)   h) := by
  unfold m_D_type_11
  refine hp_iconst (v := -1) d_D_type_11 (by decide) ?_
  exact hp_iret d_D_type_12 rfl
def m_D_type_35 (G : Nat → Nat) : Nat → Nat → Int64 → Int32 → hp_H → Option (Int32 × hp_H)
  | 0, _, _, _, _ => none
  | n + 1, a0, a1, a4, h => if a4 < 0 then ((hp_gR h a0 0 1).bind fun x1 => (hp_gI h x1 4 1).bind fun x2 => some (x2, h)) else ((hp_gR h a0 0 1).bind fun x3 => (hp_vck h x3 4 (m_R_put G x3 (((a1.toUInt64 >>> (((8 : Int32) * a4).toInt64.toUInt64 &&& Int64.toUInt64 63)).toInt64).toInt32) h)).bind fun q4 => hp_nm (a4 + (-1)) fun x5 => (m_D_type_35 G  n) a0 a1 x5 q4.2)
set_option maxRecDepth 100000 in
set_option maxHeartbeats 4000000 in
theorem j_D_type_35 {Z : hp_Z} : ∀ (n : Nat) (a0 : Nat) (a1 : Int64) (a4 : Int32) (h : hp_H), hp_J Y_D_type Z hp_rI h 35 [(0, .ref a0), (1, .long a1), (4, .int a4)] [] (m_D_type_35 (hp_G Z)  n a0 a1 a4 h) := by
  intro n
  induction n with
  | zero => intro a0 a1 a4 h; exact hp_fail
  | succ n ih =>
    intro a0 a1 a4 h
    rw [m_D_type_35]
    refine hp_iload (x0 := 2) d_D_type_35 rfl ?_
    refine hp_if_lt (tgt := 61) d_D_type_37 (by decide) ?_ ?_
    · refine hp_aload_n (x0 := 0) d_D_type_61 rfl rfl ?_
      refine hp_getR fl_D_19 d_D_type_62 fun x1 => ?_
      refine hp_getI fl_D_39 d_D_type_65 fun x2 => ?_
      exact hp_iret d_D_type_68 rfl
    · refine hp_aload_n (x0 := 0) d_D_type_40 rfl rfl ?_
      refine hp_getR fl_D_19 d_D_type_41 fun x3 => ?_
      refine hp_lload_n (x0 := 1) d_D_type_44 rfl rfl ?_
      refine hp_bipush (v := 8) d_D_type_45 (by decide) ?_
      refine hp_iload (x0 := 2) d_D_type_47 rfl ?_
      refine hp_imul d_D_type_49 ?_
      refine hp_lushr d_D_type_50 ?_
      refine hp_l2i d_D_type_51 ?_
      refine hp_callU (hp_crV (ci := 4) (t_R_put _ _ _ _) cw_D_43 rfl ⟨w_269, w_270⟩ (by decide) rfl rfl (Nat.le_of_ble_eq_true rfl) d_D_type_52) fun q4 => ?_
      refine hp_iinc (x0 := 2) (d := -1) (fun x5 => [(4, .int x5), (0, .ref a0), (1, .long a1)]) d_D_type_55 rfl (by decide) (by decide) (fun _ => rfl) fun x5 => ?_
      refine hp_goto (tgt := 35) d_D_type_58 (by decide) ?_
      refine hp_sub [1, 2, 0] rfl ?_
      exact ih _ _ _ _
def m_D_type (G : Nat → Nat) (a0 : Nat) (a1 : Int64) (a3 : Int32) (h : hp_H) : Option (Int32 × hp_H) := if a3 < (1 : Int32) then (m_D_type_11 G h) else (if a3 ≤ (8 : Int32) then ((hp_gR h a0 0 1).bind fun x1 => (hp_gI h x1 4 1).bind fun x2 => if (x2 + a3) ≤ (64 : Int32) then (hp_nm (a3 - (1 : Int32)) fun x3 => m_D_type_35 G hp_fu a0 a1 x3 h) else (some ((-3 : Int32), h))) else (m_D_type_11 G h))
set_option maxRecDepth 100000 in
set_option maxHeartbeats 4000000 in
theorem j_D_type_0 {Z : hp_Z} (a0 : Nat) (a1 : Int64) (a3 : Int32) (h : hp_H) : hp_J Y_D_type Z hp_rI h 0 [(0, .ref a0), (1, .long a1), (3, .int a3)] [] (m_D_type (hp_G Z)  a0 a1 a3 h) := by
  unfold m_D_type
  refine hp_iload_n (x0 := 2) d_D_type_0 rfl rfl ?_
  refine hp_iconst (v := 1) d_D_type_1 (by decide) ?_
  refine hp_icmp_lt (tgt := 11) d_D_type_2 (by decide) ?_ ?_
  · refine hp_sub [] rfl ?_
    exact j_D_type_11   _
  · refine hp_iload_n (x0 := 2) d_D_type_5 rfl rfl ?_
    refine hp_bipush (v := 8) d_D_type_6 (by decide) ?_
    refine hp_icmp_le (tgt := 13) d_D_type_8 (by decide) ?_ ?_
    · refine hp_aload_n (x0 := 0) d_D_type_13 rfl rfl ?_
      refine hp_getR fl_D_19 d_D_type_14 fun x1 => ?_
      refine hp_getI fl_D_39 d_D_type_17 fun x2 => ?_
      refine hp_iload_n (x0 := 2) d_D_type_20 rfl rfl ?_
      refine hp_iadd d_D_type_21 ?_
      refine hp_bipush (v := 64) d_D_type_22 (by decide) ?_
      refine hp_icmp_le (tgt := 30) d_D_type_24 (by decide) ?_ ?_
      · refine hp_iload_n (x0 := 2) d_D_type_30 rfl rfl ?_
        refine hp_iconst (v := 1) d_D_type_31 (by decide) ?_
        refine hp_isub d_D_type_32 ?_
        refine hp_istore (fun x3 => [(4, .int x3), (0, .ref a0), (1, .long a1), (3, .int a3)]) d_D_type_33 (by decide) (fun _ => rfl) fun x3 => ?_
        refine hp_sub [1, 2, 0] rfl ?_
        exact j_D_type_35  hp_fu _ _ _ _
      · refine hp_bipush (v := -3) d_D_type_27 (by decide) ?_
        exact hp_iret d_D_type_29 rfl
    · refine hp_sub [] rfl ?_
      exact j_D_type_11   _
theorem t_D_type (l : Launch) (E : hp_E) (a0 : Nat) (a1 : Int64) (a3 : Int32) : hp_M l E y_D_type Y_D_type hp_rI [.ref a0, .long a1, .int a3] (m_D_type E.2.2.1 a0 a1 a3) := hp_M.of (plainFor_of_name (by decide)) ⟨rfl, rfl⟩ (Nat.le_of_ble_eq_true rfl) (fun Z h hE => by subst hE; exact j_D_type_0 _ _ _ h)
-- D_isInSize
theorem d_D_isInSize_0 : decode prog_1_method_21_code 0 = .ok (.lload_n 0, 1) := by decide +kernel
theorem d_D_isInSize_1 : decode prog_1_method_21_code 1 = .ok (.ldc2_w 136, 3) := by decide +kernel
theorem d_D_isInSize_4 : decode prog_1_method_21_code 4 = .ok (.lcmp, 1) := by decide +kernel
theorem d_D_isInSize_5 : decode prog_1_method_21_code 5 = .ok (.ifCond .le 15, 3) := by decide +kernel
theorem d_D_isInSize_8 : decode prog_1_method_21_code 8 = .ok (.lload_n 0, 1) := by decide +kernel
theorem d_D_isInSize_9 : decode prog_1_method_21_code 9 = .ok (.ldc2_w 138, 3) := by decide +kernel
theorem d_D_isInSize_12 : decode prog_1_method_21_code 12 = .ok (.lcmp, 1) := by decide +kernel
theorem d_D_isInSize_13 : decode prog_1_method_21_code 13 = .ok (.ifCond .ge 7, 3) := by decide +kernel
theorem d_D_isInSize_16 : decode prog_1_method_21_code 16 = .ok (.iconst 1, 1) := by decide +kernel
theorem d_D_isInSize_17 : decode prog_1_method_21_code 17 = .ok (.goto 4, 3) := by decide +kernel
theorem d_D_isInSize_20 : decode prog_1_method_21_code 20 = .ok (.iconst 0, 1) := by decide +kernel
theorem d_D_isInSize_21 : decode prog_1_method_21_code 21 = .ok (.ireturn, 1) := by decide +kernel
def m_D_isInSize_21 (G : Nat → Nat) (s0 : Int32) (h : hp_H) : Option (Int32 × hp_H) := hp_z s0 h
set_option maxRecDepth 100000 in
set_option maxHeartbeats 4000000 in
theorem j_D_isInSize_21 {Z : hp_Z} (s0 : Int32) (h : hp_H) : hp_J Y_D_isInSize Z hp_rI h 21 [] [.int s0] (m_D_isInSize_21 (hp_G Z)  s0 h) := by
  unfold m_D_isInSize_21
  exact hp_zret d_D_isInSize_21 rfl
def m_D_isInSize_20 (G : Nat → Nat) (h : hp_H) : Option (Int32 × hp_H) := m_D_isInSize_21 G (0 : Int32) h
set_option maxRecDepth 100000 in
set_option maxHeartbeats 4000000 in
theorem j_D_isInSize_20 {Z : hp_Z} (h : hp_H) : hp_J Y_D_isInSize Z hp_rI h 20 [] [] (m_D_isInSize_20 (hp_G Z)   h) := by
  unfold m_D_isInSize_20
  refine hp_iconst (v := 0) d_D_isInSize_20 (by decide) ?_
  exact j_D_isInSize_21  _ _
def m_D_isInSize (G : Nat → Nat) (a0 : Int64) (h : hp_H) : Option (Int32 × hp_H) := if (lg_cmp a0 (-1000000000000000000 : Int64)) ≤ 0 then (m_D_isInSize_20 G h) else (if 0 ≤ (lg_cmp a0 (1000000000000000000 : Int64)) then (m_D_isInSize_20 G h) else (m_D_isInSize_21 G (1 : Int32) h))
set_option maxRecDepth 100000 in
set_option maxHeartbeats 4000000 in
theorem j_D_isInSize_0 {Z : hp_Z} (a0 : Int64) (h : hp_H) : hp_J Y_D_isInSize Z hp_rI h 0 [(0, .long a0)] [] (m_D_isInSize (hp_G Z)  a0 h) := by
  unfold m_D_isInSize
  refine hp_lload_n (x0 := 0) d_D_isInSize_0 rfl rfl ?_
  refine hp_ldc2 (v := -1000000000000000000) d_D_isInSize_1 w_279 ?_
  refine hp_lcmp d_D_isInSize_4 ?_
  refine hp_if_le (tgt := 20) d_D_isInSize_5 (by decide) ?_ ?_
  · refine hp_sub [] rfl ?_
    exact j_D_isInSize_20   _
  · refine hp_lload_n (x0 := 0) d_D_isInSize_8 rfl rfl ?_
    refine hp_ldc2 (v := 1000000000000000000) d_D_isInSize_9 w_280 ?_
    refine hp_lcmp d_D_isInSize_12 ?_
    refine hp_if_ge (tgt := 20) d_D_isInSize_13 (by decide) ?_ ?_
    · refine hp_sub [] rfl ?_
      exact j_D_isInSize_20   _
    · refine hp_iconst (v := 1) d_D_isInSize_16 (by decide) ?_
      refine hp_goto (tgt := 21) d_D_isInSize_17 (by decide) ?_
      refine hp_sub [] rfl ?_
      exact j_D_isInSize_21  _ _
theorem t_D_isInSize (l : Launch) (E : hp_E) (a0 : Int64) : hp_M l E y_D_isInSize Y_D_isInSize hp_rI [.long a0] (m_D_isInSize E.2.2.1 a0) := hp_M.of (plainFor_of_name (by decide)) ⟨rfl, rfl⟩ (Nat.le_of_ble_eq_true rfl) (fun Z h hE => by subst hE; exact j_D_isInSize_0 _ h)
-- MA_min
theorem d_MA_min_0 : decode prog_15_method_69_code 0 = .ok (.iload_n 0, 1) := by decide +kernel
theorem d_MA_min_1 : decode prog_15_method_69_code 1 = .ok (.iload_n 1, 1) := by decide +kernel
theorem d_MA_min_2 : decode prog_15_method_69_code 2 = .ok (.if_icmp .gt 7, 3) := by decide +kernel
theorem d_MA_min_5 : decode prog_15_method_69_code 5 = .ok (.iload_n 0, 1) := by decide +kernel
theorem d_MA_min_6 : decode prog_15_method_69_code 6 = .ok (.goto 4, 3) := by decide +kernel
theorem d_MA_min_9 : decode prog_15_method_69_code 9 = .ok (.iload_n 1, 1) := by decide +kernel
theorem d_MA_min_10 : decode prog_15_method_69_code 10 = .ok (.ireturn, 1) := by decide +kernel
def m_MA_min_10 (G : Nat → Nat) (s0 : Int32) (h : hp_H) : Option (Int32 × hp_H) := some (s0, h)
set_option maxRecDepth 100000 in
set_option maxHeartbeats 4000000 in
theorem j_MA_min_10 {Z : hp_Z} (s0 : Int32) (h : hp_H) : hp_J Y_MA_min Z hp_rI h 10 [] [.int s0] (m_MA_min_10 (hp_G Z)  s0 h) := by
  unfold m_MA_min_10
  exact hp_iret d_MA_min_10 rfl
def m_MA_min (G : Nat → Nat) (a0 : Int32) (a1 : Int32) (h : hp_H) : Option (Int32 × hp_H) := if a1 < a0 then (m_MA_min_10 G a1 h) else (m_MA_min_10 G a0 h)
set_option maxRecDepth 100000 in
set_option maxHeartbeats 4000000 in
theorem j_MA_min_0 {Z : hp_Z} (a0 : Int32) (a1 : Int32) (h : hp_H) : hp_J Y_MA_min Z hp_rI h 0 [(0, .int a0), (1, .int a1)] [] (m_MA_min (hp_G Z)  a0 a1 h) := by
  unfold m_MA_min
  refine hp_iload_n (x0 := 0) d_MA_min_0 rfl rfl ?_
  refine hp_iload_n (x0 := 1) d_MA_min_1 rfl rfl ?_
  refine hp_icmp_gt (tgt := 9) d_MA_min_2 (by decide) ?_ ?_
  · refine hp_iload_n (x0 := 1) d_MA_min_9 rfl rfl ?_
    refine hp_sub [] rfl ?_
    exact j_MA_min_10  _ _
  · refine hp_iload_n (x0 := 0) d_MA_min_5 rfl rfl ?_
    refine hp_goto (tgt := 10) d_MA_min_6 (by decide) ?_
    refine hp_sub [] rfl ?_
    exact j_MA_min_10  _ _
theorem t_MA_min (l : Launch) (E : hp_E) (a0 : Int32) (a1 : Int32) : hp_M l E y_MA_min Y_MA_min hp_rI [.int a0, .int a1] (m_MA_min E.2.2.1 a0 a1) := hp_M.of (by decide +kernel) ⟨rfl, rfl⟩ (Nat.le_of_ble_eq_true rfl) (fun Z h hE => by subst hE; exact j_MA_min_0 _ _ h)
-- AR_copyOf3
theorem d_AR_copyOf3_0 : decode prog_23_method_120_code 0 = .ok (.aload_n 2, 1) := by decide +kernel
theorem d_AR_copyOf3_1 : decode prog_23_method_120_code 1 = .ok (.ldc 110, 2) := by decide +kernel
theorem d_AR_copyOf3_3 : decode prog_23_method_120_code 3 = .ok (.if_acmp .ne 10, 3) := by decide +kernel
theorem d_AR_copyOf3_6 : decode prog_23_method_120_code 6 = .ok (.iload_n 1, 1) := by decide +kernel
theorem d_AR_copyOf3_7 : decode prog_23_method_120_code 7 = .ok (.anewarray 2, 3) := by decide +kernel
theorem d_AR_copyOf3_10 : decode prog_23_method_120_code 10 = .ok (.goto 14, 3) := by decide +kernel
theorem d_AR_copyOf3_13 : decode prog_23_method_120_code 13 = .ok (.aload_n 2, 1) := by decide +kernel
theorem d_AR_copyOf3_14 : decode prog_23_method_120_code 14 = .ok (.invokevirtual 90, 3) := by decide +kernel
theorem d_AR_copyOf3_17 : decode prog_23_method_120_code 17 = .ok (.iload_n 1, 1) := by decide +kernel
theorem d_AR_copyOf3_18 : decode prog_23_method_120_code 18 = .ok (.invokestatic 95, 3) := by decide +kernel
theorem d_AR_copyOf3_21 : decode prog_23_method_120_code 21 = .ok (.checkcast 110, 3) := by decide +kernel
theorem d_AR_copyOf3_24 : decode prog_23_method_120_code 24 = .ok (.astore_n 3, 1) := by decide +kernel
theorem d_AR_copyOf3_25 : decode prog_23_method_120_code 25 = .ok (.aload_n 0, 1) := by decide +kernel
theorem d_AR_copyOf3_26 : decode prog_23_method_120_code 26 = .ok (.iconst 0, 1) := by decide +kernel
theorem d_AR_copyOf3_27 : decode prog_23_method_120_code 27 = .ok (.aload_n 3, 1) := by decide +kernel
theorem d_AR_copyOf3_28 : decode prog_23_method_120_code 28 = .ok (.iconst 0, 1) := by decide +kernel
theorem d_AR_copyOf3_29 : decode prog_23_method_120_code 29 = .ok (.aload_n 0, 1) := by decide +kernel
theorem d_AR_copyOf3_30 : decode prog_23_method_120_code 30 = .ok (.arraylength, 1) := by decide +kernel
theorem d_AR_copyOf3_31 : decode prog_23_method_120_code 31 = .ok (.iload_n 1, 1) := by decide +kernel
theorem d_AR_copyOf3_32 : decode prog_23_method_120_code 32 = .ok (.invokestatic 304, 3) := by decide +kernel
theorem d_AR_copyOf3_35 : decode prog_23_method_120_code 35 = .ok (.invokestatic 150, 3) := by decide +kernel
theorem d_AR_copyOf3_38 : decode prog_23_method_120_code 38 = .ok (.aload_n 3, 1) := by decide +kernel
theorem d_AR_copyOf3_39 : decode prog_23_method_120_code 39 = .ok (.areturn, 1) := by decide +kernel
def m_AR_copyOf3_24 (G : Nat → Nat) (a0 : Nat) (a1 : Int32) (s0 : Nat) (h : hp_H) : Option (Nat × hp_H) := hp_nm s0 fun x1 => (hp_len h a0).bind fun x2 => (m_MA_min G x2 a1 h).bind fun q3 => (hp_cpR q3.2 a0 (0 : Int32) x1 (0 : Int32) q3.1).bind fun h4 => some (x1, h4)
set_option maxRecDepth 100000 in
set_option maxHeartbeats 4000000 in
theorem j_AR_copyOf3_24 {Z : hp_Z} (a0 : Nat) (a1 : Int32) (s0 : Nat) (h : hp_H) : hp_J Y_AR_copyOf3 Z hp_rR h 24 [(0, .ref a0), (1, .int a1)] [.ref s0] (m_AR_copyOf3_24 (hp_G Z)  a0 a1 s0 h) := by
  unfold m_AR_copyOf3_24
  refine hp_astore_n (fun x1 => [(3, .ref x1), (0, .ref a0), (1, .int a1)]) d_AR_copyOf3_24 rfl (by decide) (fun _ => rfl) fun x1 => ?_
  refine hp_aload_n (x0 := 1) d_AR_copyOf3_25 rfl rfl ?_
  refine hp_iconst (v := 0) d_AR_copyOf3_26 (by decide) ?_
  refine hp_aload_n (x0 := 0) d_AR_copyOf3_27 rfl rfl ?_
  refine hp_iconst (v := 0) d_AR_copyOf3_28 (by decide) ?_
  refine hp_aload_n (x0 := 1) d_AR_copyOf3_29 rfl rfl ?_
  refine hp_alen d_AR_copyOf3_30 fun x2 => ?_
  refine hp_iload_n (x0 := 2) d_AR_copyOf3_31 rfl rfl ?_
  refine hp_callI (hp_crS (t_MA_min _ _ _ _) cw_AR_304 w_326 (by decide) rfl rfl (Nat.le_of_ble_eq_true rfl) d_AR_copyOf3_32) fun q3 => ?_
  refine hp_acpR ⟨w_328, w_330, w_329, w_16⟩ w_1283 (by decide +kernel) (Nat.le_of_ble_eq_true rfl) d_AR_copyOf3_35 fun h4 => ?_
  refine hp_aload_n (x0 := 0) d_AR_copyOf3_38 rfl rfl ?_
  exact hp_aret d_AR_copyOf3_39 rfl (Or.inr ⟨_, rfl⟩)
def m_AR_copyOf3 (G : Nat → Nat) (a0 : Nat) (a1 : Int32) (a2 : Nat) (h : hp_H) : Option (Nat × hp_H) := if a2 = (G 11) then (hp_nqK h a1 fun o1 h2 => m_AR_copyOf3_24 G a0 a1 o1 h2) else (none)
set_option maxRecDepth 100000 in
set_option maxHeartbeats 4000000 in
theorem j_AR_copyOf3_0 {Z : hp_Z} (a0 : Nat) (a1 : Int32) (a2 : Nat) (h : hp_H) : hp_J Y_AR_copyOf3 Z hp_rR h 0 [(0, .ref a0), (1, .int a1), (2, .ref a2)] [] (m_AR_copyOf3 (hp_G Z)  a0 a1 a2 h) := by
  unfold m_AR_copyOf3
  refine hp_aload_n (x0 := 2) d_AR_copyOf3_0 rfl rfl ?_
  refine hp_ldcC w_376 d_AR_copyOf3_1 ?_
  refine hp_acmp_ne (tgt := 13) d_AR_copyOf3_3 (by decide) ?_ ?_
  · refine hp_iload_n (x0 := 1) d_AR_copyOf3_6 rfl rfl ?_
    refine hp_newQ w_378 w_377 d_AR_copyOf3_7 fun o1 h2 => ?_
    refine hp_goto (tgt := 24) d_AR_copyOf3_10 (by decide) ?_
    refine hp_sub [0, 1] rfl ?_
    exact j_AR_copyOf3_24  _ _ _ _
  · exact hp_fail
theorem t_AR_copyOf3 (l : Launch) (E : hp_E) (a0 : Nat) (a1 : Int32) (a2 : Nat) : hp_M l E y_AR_copyOf3 Y_AR_copyOf3 hp_rR [.ref a0, .int a1, .ref a2] (m_AR_copyOf3 E.2.2.1 a0 a1 a2) := hp_M.of (by decide +kernel) ⟨rfl, rfl⟩ (Nat.le_of_ble_eq_true rfl) (fun Z h hE => by subst hE; exact j_AR_copyOf3_0 _ _ _ h)
-- AR_copyOf2
theorem d_AR_copyOf2_0 : decode prog_23_method_119_code 0 = .ok (.aload_n 0, 1) := by decide +kernel
theorem d_AR_copyOf2_1 : decode prog_23_method_119_code 1 = .ok (.iload_n 1, 1) := by decide +kernel
theorem d_AR_copyOf2_2 : decode prog_23_method_119_code 2 = .ok (.aload_n 0, 1) := by decide +kernel
theorem d_AR_copyOf2_3 : decode prog_23_method_119_code 3 = .ok (.invokevirtual 86, 3) := by decide +kernel
theorem d_AR_copyOf2_6 : decode prog_23_method_119_code 6 = .ok (.invokestatic 300, 3) := by decide +kernel
theorem d_AR_copyOf2_9 : decode prog_23_method_119_code 9 = .ok (.areturn, 1) := by decide +kernel
def m_AR_copyOf2 (G : Nat → Nat) (a0 : Nat) (a1 : Int32) (h : hp_H) : Option (Nat × hp_H) := hp_gck h a0 <| (m_AR_copyOf3 G a0 a1 (G 11) h).bind fun q1 => some (q1.1, q1.2)
set_option maxRecDepth 100000 in
set_option maxHeartbeats 4000000 in
theorem j_AR_copyOf2_0 {Z : hp_Z} (a0 : Nat) (a1 : Int32) (h : hp_H) : hp_J Y_AR_copyOf2 Z hp_rR h 0 [(0, .ref a0), (1, .int a1)] [] (m_AR_copyOf2 (hp_G Z)  a0 a1 h) := by
  unfold m_AR_copyOf2
  refine hp_aload_n (x0 := 0) d_AR_copyOf2_0 rfl rfl ?_
  refine hp_iload_n (x0 := 1) d_AR_copyOf2_1 rfl rfl ?_
  refine hp_aload_n (x0 := 0) d_AR_copyOf2_2 rfl rfl ?_
  refine hp_getC ⟨w_360, w_1279, w_361, w_372⟩ (by decide) (Nat.le_of_ble_eq_true rfl) d_AR_copyOf2_3 ?_
  refine hp_callR (hp_crS (t_AR_copyOf3 _ _ _ _ _) cw_AR_300 w_374 (by decide) rfl rfl (Nat.le_of_ble_eq_true rfl) d_AR_copyOf2_6) fun q1 => ?_
  exact hp_aret d_AR_copyOf2_9 rfl (Or.inr ⟨_, rfl⟩)
theorem t_AR_copyOf2 (l : Launch) (E : hp_E) (a0 : Nat) (a1 : Int32) : hp_M l E y_AR_copyOf2 Y_AR_copyOf2 hp_rR [.ref a0, .int a1] (m_AR_copyOf2 E.2.2.1 a0 a1) := hp_M.of (by decide +kernel) ⟨rfl, rfl⟩ (Nat.le_of_ble_eq_true rfl) (fun Z h hE => by subst hE; exact j_AR_copyOf2_0 _ _ h)
-- AS_hugeLength
theorem d_AS_hugeLength_0 : decode prog_29_method_28_code 0 = .ok (.iload_n 0, 1) := by decide +kernel
theorem d_AS_hugeLength_1 : decode prog_29_method_28_code 1 = .ok (.iload_n 1, 1) := by decide +kernel
theorem d_AS_hugeLength_2 : decode prog_29_method_28_code 2 = .ok (.iadd, 1) := by decide +kernel
theorem d_AS_hugeLength_3 : decode prog_29_method_28_code 3 = .ok (.istore_n 2, 1) := by decide +kernel
theorem d_AS_hugeLength_4 : decode prog_29_method_28_code 4 = .ok (.iload_n 2, 1) := by decide +kernel
theorem d_AS_hugeLength_5 : decode prog_29_method_28_code 5 = .ok (.ifCond .ge 44, 3) := by decide +kernel
theorem d_AS_hugeLength_8 : decode prog_29_method_28_code 8 = .ok (.new 204, 3) := by decide +kernel
theorem d_AS_hugeLength_11 : decode prog_29_method_28_code 11 = .ok (.dup, 1) := by decide +kernel
theorem d_AS_hugeLength_12 : decode prog_29_method_28_code 12 = .ok (.new 89, 3) := by decide +kernel
theorem d_AS_hugeLength_15 : decode prog_29_method_28_code 15 = .ok (.dup, 1) := by decide +kernel
theorem d_AS_hugeLength_16 : decode prog_29_method_28_code 16 = .ok (.invokespecial 91, 3) := by decide +kernel
theorem d_AS_hugeLength_19 : decode prog_29_method_28_code 19 = .ok (.ldc 206, 2) := by decide +kernel
theorem d_AS_hugeLength_21 : decode prog_29_method_28_code 21 = .ok (.invokevirtual 94, 3) := by decide +kernel
theorem d_AS_hugeLength_24 : decode prog_29_method_28_code 24 = .ok (.iload_n 0, 1) := by decide +kernel
theorem d_AS_hugeLength_25 : decode prog_29_method_28_code 25 = .ok (.invokevirtual 98, 3) := by decide +kernel
theorem d_AS_hugeLength_28 : decode prog_29_method_28_code 28 = .ok (.ldc 208, 2) := by decide +kernel
theorem d_AS_hugeLength_30 : decode prog_29_method_28_code 30 = .ok (.invokevirtual 94, 3) := by decide +kernel
theorem d_AS_hugeLength_33 : decode prog_29_method_28_code 33 = .ok (.iload_n 1, 1) := by decide +kernel
theorem d_AS_hugeLength_34 : decode prog_29_method_28_code 34 = .ok (.invokevirtual 98, 3) := by decide +kernel
theorem d_AS_hugeLength_37 : decode prog_29_method_28_code 37 = .ok (.ldc 210, 2) := by decide +kernel
theorem d_AS_hugeLength_39 : decode prog_29_method_28_code 39 = .ok (.invokevirtual 94, 3) := by decide +kernel
theorem d_AS_hugeLength_42 : decode prog_29_method_28_code 42 = .ok (.invokevirtual 101, 3) := by decide +kernel
theorem d_AS_hugeLength_45 : decode prog_29_method_28_code 45 = .ok (.invokespecial 212, 3) := by decide +kernel
theorem d_AS_hugeLength_48 : decode prog_29_method_28_code 48 = .ok (.athrow, 1) := by decide +kernel
theorem d_AS_hugeLength_49 : decode prog_29_method_28_code 49 = .ok (.iload_n 2, 1) := by decide +kernel
theorem d_AS_hugeLength_50 : decode prog_29_method_28_code 50 = .ok (.ldc 200, 2) := by decide +kernel
theorem d_AS_hugeLength_52 : decode prog_29_method_28_code 52 = .ok (.if_icmp .gt 6, 3) := by decide +kernel
theorem d_AS_hugeLength_55 : decode prog_29_method_28_code 55 = .ok (.ldc 200, 2) := by decide +kernel
theorem d_AS_hugeLength_57 : decode prog_29_method_28_code 57 = .ok (.ireturn, 1) := by decide +kernel
theorem d_AS_hugeLength_58 : decode prog_29_method_28_code 58 = .ok (.iload_n 2, 1) := by decide +kernel
theorem d_AS_hugeLength_59 : decode prog_29_method_28_code 59 = .ok (.ireturn, 1) := by decide +kernel
def m_AS_hugeLength (G : Nat → Nat) (a0 : Int32) (a1 : Int32) (h : hp_H) : Option (Int32 × hp_H) := hp_nm (a0 + a1) fun x1 => if 0 ≤ x1 then (if (2147483639 : Int32) < x1 then (some (x1, h)) else (some ((2147483639 : Int32), h))) else (none)
set_option maxRecDepth 100000 in
set_option maxHeartbeats 4000000 in
theorem j_AS_hugeLength_0 {Z : hp_Z} (a0 : Int32) (a1 : Int32) (h : hp_H) : hp_J Y_AS_hugeLength Z hp_rI h 0 [(0, .int a0), (1, .int a1)] [] (m_AS_hugeLength (hp_G Z)  a0 a1 h) := by
  unfold m_AS_hugeLength
  refine hp_iload_n (x0 := 0) d_AS_hugeLength_0 rfl rfl ?_
  refine hp_iload_n (x0 := 1) d_AS_hugeLength_1 rfl rfl ?_
  refine hp_iadd d_AS_hugeLength_2 ?_
  refine hp_istore_n (fun x1 => [(2, .int x1), (0, .int a0), (1, .int a1)]) d_AS_hugeLength_3 rfl (by decide) (fun _ => rfl) fun x1 => ?_
  refine hp_iload_n (x0 := 0) d_AS_hugeLength_4 rfl rfl ?_
  refine hp_if_ge (tgt := 49) d_AS_hugeLength_5 (by decide) ?_ ?_
  · refine hp_iload_n (x0 := 0) d_AS_hugeLength_49 rfl rfl ?_
    refine hp_ldc (v := 2147483639) d_AS_hugeLength_50 w_353 ?_
    refine hp_icmp_gt (tgt := 58) d_AS_hugeLength_52 (by decide) ?_ ?_
    · refine hp_iload_n (x0 := 0) d_AS_hugeLength_58 rfl rfl ?_
      exact hp_iret d_AS_hugeLength_59 rfl
    · refine hp_ldc (v := 2147483639) d_AS_hugeLength_55 w_353 ?_
      exact hp_iret d_AS_hugeLength_57 rfl
  · exact hp_fail
theorem t_AS_hugeLength (l : Launch) (E : hp_E) (a0 : Int32) (a1 : Int32) : hp_M l E y_AS_hugeLength Y_AS_hugeLength hp_rI [.int a0, .int a1] (m_AS_hugeLength E.2.2.1 a0 a1) := hp_M.of (by decide +kernel) ⟨rfl, rfl⟩ (Nat.le_of_ble_eq_true rfl) (fun Z h hE => by subst hE; exact j_AS_hugeLength_0 _ _ h)
-- MA_max
theorem d_MA_max_0 : decode prog_15_method_65_code 0 = .ok (.iload_n 0, 1) := by decide +kernel
theorem d_MA_max_1 : decode prog_15_method_65_code 1 = .ok (.iload_n 1, 1) := by decide +kernel
theorem d_MA_max_2 : decode prog_15_method_65_code 2 = .ok (.if_icmp .lt 7, 3) := by decide +kernel
theorem d_MA_max_5 : decode prog_15_method_65_code 5 = .ok (.iload_n 0, 1) := by decide +kernel
theorem d_MA_max_6 : decode prog_15_method_65_code 6 = .ok (.goto 4, 3) := by decide +kernel
theorem d_MA_max_9 : decode prog_15_method_65_code 9 = .ok (.iload_n 1, 1) := by decide +kernel
theorem d_MA_max_10 : decode prog_15_method_65_code 10 = .ok (.ireturn, 1) := by decide +kernel
def m_MA_max_10 (G : Nat → Nat) (s0 : Int32) (h : hp_H) : Option (Int32 × hp_H) := some (s0, h)
set_option maxRecDepth 100000 in
set_option maxHeartbeats 4000000 in
theorem j_MA_max_10 {Z : hp_Z} (s0 : Int32) (h : hp_H) : hp_J Y_MA_max Z hp_rI h 10 [] [.int s0] (m_MA_max_10 (hp_G Z)  s0 h) := by
  unfold m_MA_max_10
  exact hp_iret d_MA_max_10 rfl
def m_MA_max (G : Nat → Nat) (a0 : Int32) (a1 : Int32) (h : hp_H) : Option (Int32 × hp_H) := if a0 < a1 then (m_MA_max_10 G a1 h) else (m_MA_max_10 G a0 h)
set_option maxRecDepth 100000 in
set_option maxHeartbeats 4000000 in
theorem j_MA_max_0 {Z : hp_Z} (a0 : Int32) (a1 : Int32) (h : hp_H) : hp_J Y_MA_max Z hp_rI h 0 [(0, .int a0), (1, .int a1)] [] (m_MA_max (hp_G Z)  a0 a1 h) := by
  unfold m_MA_max
  refine hp_iload_n (x0 := 0) d_MA_max_0 rfl rfl ?_
  refine hp_iload_n (x0 := 1) d_MA_max_1 rfl rfl ?_
  refine hp_icmp_lt (tgt := 9) d_MA_max_2 (by decide) ?_ ?_
  · refine hp_iload_n (x0 := 1) d_MA_max_9 rfl rfl ?_
    refine hp_sub [] rfl ?_
    exact j_MA_max_10  _ _
  · refine hp_iload_n (x0 := 0) d_MA_max_5 rfl rfl ?_
    refine hp_goto (tgt := 10) d_MA_max_6 (by decide) ?_
    refine hp_sub [] rfl ?_
    exact j_MA_max_10  _ _
theorem t_MA_max (l : Launch) (E : hp_E) (a0 : Int32) (a1 : Int32) : hp_M l E y_MA_max Y_MA_max hp_rI [.int a0, .int a1] (m_MA_max E.2.2.1 a0 a1) := hp_M.of (by decide +kernel) ⟨rfl, rfl⟩ (Nat.le_of_ble_eq_true rfl) (fun Z h hE => by subst hE; exact j_MA_max_0 _ _ h)
-- AS_newLength
theorem d_AS_newLength_0 : decode prog_29_method_27_code 0 = .ok (.iload_n 0, 1) := by decide +kernel
theorem d_AS_newLength_1 : decode prog_29_method_27_code 1 = .ok (.iload_n 1, 1) := by decide +kernel
theorem d_AS_newLength_2 : decode prog_29_method_27_code 2 = .ok (.iload_n 2, 1) := by decide +kernel
theorem d_AS_newLength_3 : decode prog_29_method_27_code 3 = .ok (.invokestatic 194, 3) := by decide +kernel
theorem d_AS_newLength_6 : decode prog_29_method_27_code 6 = .ok (.iadd, 1) := by decide +kernel
theorem d_AS_newLength_7 : decode prog_29_method_27_code 7 = .ok (.istore_n 3, 1) := by decide +kernel
theorem d_AS_newLength_8 : decode prog_29_method_27_code 8 = .ok (.iconst 0, 1) := by decide +kernel
theorem d_AS_newLength_9 : decode prog_29_method_27_code 9 = .ok (.iload_n 3, 1) := by decide +kernel
theorem d_AS_newLength_10 : decode prog_29_method_27_code 10 = .ok (.if_icmp .ge 11, 3) := by decide +kernel
theorem d_AS_newLength_13 : decode prog_29_method_27_code 13 = .ok (.iload_n 3, 1) := by decide +kernel
theorem d_AS_newLength_14 : decode prog_29_method_27_code 14 = .ok (.ldc 200, 2) := by decide +kernel
theorem d_AS_newLength_16 : decode prog_29_method_27_code 16 = .ok (.if_icmp .gt 5, 3) := by decide +kernel
theorem d_AS_newLength_19 : decode prog_29_method_27_code 19 = .ok (.iload_n 3, 1) := by decide +kernel
theorem d_AS_newLength_20 : decode prog_29_method_27_code 20 = .ok (.ireturn, 1) := by decide +kernel
theorem d_AS_newLength_21 : decode prog_29_method_27_code 21 = .ok (.iload_n 0, 1) := by decide +kernel
theorem d_AS_newLength_22 : decode prog_29_method_27_code 22 = .ok (.iload_n 1, 1) := by decide +kernel
theorem d_AS_newLength_23 : decode prog_29_method_27_code 23 = .ok (.invokestatic 201, 3) := by decide +kernel
theorem d_AS_newLength_26 : decode prog_29_method_27_code 26 = .ok (.ireturn, 1) := by decide +kernel
def m_AS_newLength_21 (G : Nat → Nat) (a0 : Int32) (a1 : Int32) (h : hp_H) : Option (Int32 × hp_H) := (m_AS_hugeLength G a0 a1 h).bind fun q1 => some (q1.1, q1.2)
set_option maxRecDepth 100000 in
set_option maxHeartbeats 4000000 in
theorem j_AS_newLength_21 {Z : hp_Z} (a0 : Int32) (a1 : Int32) (h : hp_H) : hp_J Y_AS_newLength Z hp_rI h 21 [(0, .int a0), (1, .int a1)] [] (m_AS_newLength_21 (hp_G Z)  a0 a1 h) := by
  unfold m_AS_newLength_21
  refine hp_iload_n (x0 := 0) d_AS_newLength_21 rfl rfl ?_
  refine hp_iload_n (x0 := 1) d_AS_newLength_22 rfl rfl ?_
  refine hp_callI (hp_crS (t_AS_hugeLength _ _ _ _) cw_AS_201 w_355 (by decide) rfl rfl (Nat.le_of_ble_eq_true rfl) d_AS_newLength_23) fun q1 => ?_
  exact hp_iret d_AS_newLength_26 rfl
def m_AS_newLength (G : Nat → Nat) (a0 : Int32) (a1 : Int32) (a2 : Int32) (h : hp_H) : Option (Int32 × hp_H) := (m_MA_max G a1 a2 h).bind fun q1 => hp_nm (a0 + q1.1) fun x2 => if x2 ≤ (0 : Int32) then (m_AS_newLength_21 G a0 a1 q1.2) else (if (2147483639 : Int32) < x2 then (m_AS_newLength_21 G a0 a1 q1.2) else (some (x2, q1.2)))
set_option maxRecDepth 100000 in
set_option maxHeartbeats 4000000 in
theorem j_AS_newLength_0 {Z : hp_Z} (a0 : Int32) (a1 : Int32) (a2 : Int32) (h : hp_H) : hp_J Y_AS_newLength Z hp_rI h 0 [(0, .int a0), (1, .int a1), (2, .int a2)] [] (m_AS_newLength (hp_G Z)  a0 a1 a2 h) := by
  unfold m_AS_newLength
  refine hp_iload_n (x0 := 0) d_AS_newLength_0 rfl rfl ?_
  refine hp_iload_n (x0 := 1) d_AS_newLength_1 rfl rfl ?_
  refine hp_iload_n (x0 := 2) d_AS_newLength_2 rfl rfl ?_
  refine hp_callI (hp_crS (t_MA_max _ _ _ _) cw_AS_194 w_351 (by decide) rfl rfl (Nat.le_of_ble_eq_true rfl) d_AS_newLength_3) fun q1 => ?_
  refine hp_iadd d_AS_newLength_6 ?_
  refine hp_istore_n (fun x2 => [(3, .int x2), (0, .int a0), (1, .int a1), (2, .int a2)]) d_AS_newLength_7 rfl (by decide) (fun _ => rfl) fun x2 => ?_
  refine hp_iconst (v := 0) d_AS_newLength_8 (by decide) ?_
  refine hp_iload_n (x0 := 0) d_AS_newLength_9 rfl rfl ?_
  refine hp_icmp_ge (tgt := 21) d_AS_newLength_10 (by decide) ?_ ?_
  · refine hp_sub [1, 2] rfl ?_
    exact j_AS_newLength_21  _ _ _
  · refine hp_iload_n (x0 := 0) d_AS_newLength_13 rfl rfl ?_
    refine hp_ldc (v := 2147483639) d_AS_newLength_14 w_353 ?_
    refine hp_icmp_gt (tgt := 21) d_AS_newLength_16 (by decide) ?_ ?_
    · refine hp_sub [1, 2] rfl ?_
      exact j_AS_newLength_21  _ _ _
    · refine hp_iload_n (x0 := 0) d_AS_newLength_19 rfl rfl ?_
      exact hp_iret d_AS_newLength_20 rfl
theorem t_AS_newLength (l : Launch) (E : hp_E) (a0 : Int32) (a1 : Int32) (a2 : Int32) : hp_M l E y_AS_newLength Y_AS_newLength hp_rI [.int a0, .int a1, .int a2] (m_AS_newLength E.2.2.1 a0 a1 a2) := hp_M.of (by decide +kernel) ⟨rfl, rfl⟩ (Nat.le_of_ble_eq_true rfl) (fun Z h hE => by subst hE; exact j_AS_newLength_0 _ _ _ h)
-- AL_grow2
theorem d_AL_grow2_0 : decode prog_22_method_6_code 0 = .ok (.aload_n 0, 1) := by decide +kernel
theorem d_AL_grow2_1 : decode prog_22_method_6_code 1 = .ok (.getfield 9, 3) := by decide +kernel
theorem d_AL_grow2_4 : decode prog_22_method_6_code 4 = .ok (.arraylength, 1) := by decide +kernel
theorem d_AL_grow2_5 : decode prog_22_method_6_code 5 = .ok (.istore_n 2, 1) := by decide +kernel
theorem d_AL_grow2_6 : decode prog_22_method_6_code 6 = .ok (.iload_n 2, 1) := by decide +kernel
theorem d_AL_grow2_7 : decode prog_22_method_6_code 7 = .ok (.ifCond .gt 13, 3) := by decide +kernel
theorem d_AL_grow2_10 : decode prog_22_method_6_code 10 = .ok (.aload_n 0, 1) := by decide +kernel
theorem d_AL_grow2_11 : decode prog_22_method_6_code 11 = .ok (.getfield 9, 3) := by decide +kernel
theorem d_AL_grow2_14 : decode prog_22_method_6_code 14 = .ok (.getstatic 39, 3) := by decide +kernel
theorem d_AL_grow2_17 : decode prog_22_method_6_code 17 = .ok (.if_acmp .eq 28, 3) := by decide +kernel
theorem d_AL_grow2_20 : decode prog_22_method_6_code 20 = .ok (.iload_n 2, 1) := by decide +kernel
theorem d_AL_grow2_21 : decode prog_22_method_6_code 21 = .ok (.iload_n 1, 1) := by decide +kernel
theorem d_AL_grow2_22 : decode prog_22_method_6_code 22 = .ok (.iload_n 2, 1) := by decide +kernel
theorem d_AL_grow2_23 : decode prog_22_method_6_code 23 = .ok (.isub, 1) := by decide +kernel
theorem d_AL_grow2_24 : decode prog_22_method_6_code 24 = .ok (.iload_n 2, 1) := by decide +kernel
theorem d_AL_grow2_25 : decode prog_22_method_6_code 25 = .ok (.iconst 1, 1) := by decide +kernel
theorem d_AL_grow2_26 : decode prog_22_method_6_code 26 = .ok (.ishr, 1) := by decide +kernel
theorem d_AL_grow2_27 : decode prog_22_method_6_code 27 = .ok (.invokestatic 73, 3) := by decide +kernel
theorem d_AL_grow2_30 : decode prog_22_method_6_code 30 = .ok (.istore_n 3, 1) := by decide +kernel
theorem d_AL_grow2_31 : decode prog_22_method_6_code 31 = .ok (.aload_n 0, 1) := by decide +kernel
theorem d_AL_grow2_32 : decode prog_22_method_6_code 32 = .ok (.aload_n 0, 1) := by decide +kernel
theorem d_AL_grow2_33 : decode prog_22_method_6_code 33 = .ok (.getfield 9, 3) := by decide +kernel
theorem d_AL_grow2_36 : decode prog_22_method_6_code 36 = .ok (.iload_n 3, 1) := by decide +kernel
theorem d_AL_grow2_37 : decode prog_22_method_6_code 37 = .ok (.invokestatic 66, 3) := by decide +kernel
theorem d_AL_grow2_40 : decode prog_22_method_6_code 40 = .ok (.dup_x1, 1) := by decide +kernel
theorem d_AL_grow2_41 : decode prog_22_method_6_code 41 = .ok (.putfield 9, 3) := by decide +kernel
theorem d_AL_grow2_44 : decode prog_22_method_6_code 44 = .ok (.areturn, 1) := by decide +kernel
theorem d_AL_grow2_45 : decode prog_22_method_6_code 45 = .ok (.aload_n 0, 1) := by decide +kernel
theorem d_AL_grow2_46 : decode prog_22_method_6_code 46 = .ok (.bipush 10, 2) := by decide +kernel
theorem d_AL_grow2_48 : decode prog_22_method_6_code 48 = .ok (.iload_n 1, 1) := by decide +kernel
theorem d_AL_grow2_49 : decode prog_22_method_6_code 49 = .ok (.invokestatic 79, 3) := by decide +kernel
theorem d_AL_grow2_52 : decode prog_22_method_6_code 52 = .ok (.anewarray 7, 3) := by decide +kernel
theorem d_AL_grow2_55 : decode prog_22_method_6_code 55 = .ok (.dup_x1, 1) := by decide +kernel
theorem d_AL_grow2_56 : decode prog_22_method_6_code 56 = .ok (.putfield 9, 3) := by decide +kernel
theorem d_AL_grow2_59 : decode prog_22_method_6_code 59 = .ok (.areturn, 1) := by decide +kernel
def m_AL_grow2_20 (G : Nat → Nat) (a0 : Nat) (a1 : Int32) (a2 : Int32) (h : hp_H) : Option (Nat × hp_H) := (m_AS_newLength G a2 (a1 - a2) (a2 >>> ((1 : Int32) &&& 31)) h).bind fun q1 => hp_nm q1.1 fun x2 => (hp_gR q1.2 a0 2 0).bind fun x3 => (m_AR_copyOf2 G x3 x2 q1.2).bind fun q4 => (hp_p q4.2 a0 2 0 (.ref q4.1)).bind fun h5 => some (q4.1, h5)
set_option maxRecDepth 100000 in
set_option maxHeartbeats 4000000 in
theorem j_AL_grow2_20 {Z : hp_Z} (a0 : Nat) (a1 : Int32) (a2 : Int32) (h : hp_H) : hp_J Y_AL_grow2 Z hp_rR h 20 [(0, .ref a0), (1, .int a1), (2, .int a2)] [] (m_AL_grow2_20 (hp_G Z)  a0 a1 a2 h) := by
  unfold m_AL_grow2_20
  refine hp_iload_n (x0 := 2) d_AL_grow2_20 rfl rfl ?_
  refine hp_iload_n (x0 := 1) d_AL_grow2_21 rfl rfl ?_
  refine hp_iload_n (x0 := 2) d_AL_grow2_22 rfl rfl ?_
  refine hp_isub d_AL_grow2_23 ?_
  refine hp_iload_n (x0 := 2) d_AL_grow2_24 rfl rfl ?_
  refine hp_iconst (v := 1) d_AL_grow2_25 (by decide) ?_
  refine hp_ishr d_AL_grow2_26 ?_
  refine hp_callI (hp_crS (t_AS_newLength _ _ _ _ _) cw_AL_73 w_348 (by decide) rfl rfl (Nat.le_of_ble_eq_true rfl) d_AL_grow2_27) fun q1 => ?_
  refine hp_istore_n (fun x2 => [(3, .int x2), (0, .ref a0), (1, .int a1), (2, .int a2)]) d_AL_grow2_30 rfl (by decide) (fun _ => rfl) fun x2 => ?_
  refine hp_aload_n (x0 := 1) d_AL_grow2_31 rfl rfl ?_
  refine hp_aload_n (x0 := 1) d_AL_grow2_32 rfl rfl ?_
  refine hp_getR fl_AL_9 d_AL_grow2_33 fun x3 => ?_
  refine hp_iload_n (x0 := 0) d_AL_grow2_36 rfl rfl ?_
  refine hp_callR (hp_crS (t_AR_copyOf2 _ _ _ _) cw_AL_66 w_358 (by decide) rfl rfl (Nat.le_of_ble_eq_true rfl) d_AL_grow2_37) fun q4 => ?_
  refine hp_dup_x1 d_AL_grow2_40 rfl rfl ?_
  refine hp_put fl_AL_9 (fun q => by cases q) rfl rfl d_AL_grow2_41 fun h5 => ?_
  exact hp_aret d_AL_grow2_44 rfl (Or.inr ⟨_, rfl⟩)
def m_AL_grow2 (G : Nat → Nat) (a0 : Nat) (a1 : Int32) (h : hp_H) : Option (Nat × hp_H) := (hp_gR h a0 2 0).bind fun x1 => (hp_len h x1).bind fun x2 => hp_nm x2 fun x3 => if 0 < x3 then (m_AL_grow2_20 G a0 a1 x3 h) else ((hp_gR h a0 2 0).bind fun x4 => if x4 = (G 4) then ((m_MA_max G (10 : Int32) a1 h).bind fun q5 => hp_nqK q5.2 q5.1 fun o6 h7 => (hp_p h7 a0 2 0 (.ref o6)).bind fun h8 => some (o6, h8)) else (m_AL_grow2_20 G a0 a1 x3 h))
set_option maxRecDepth 100000 in
set_option maxHeartbeats 4000000 in
theorem j_AL_grow2_0 {Z : hp_Z} (a0 : Nat) (a1 : Int32) (h : hp_H) : hp_J Y_AL_grow2 Z hp_rR h 0 [(0, .ref a0), (1, .int a1)] [] (m_AL_grow2 (hp_G Z)  a0 a1 h) := by
  unfold m_AL_grow2
  refine hp_aload_n (x0 := 0) d_AL_grow2_0 rfl rfl ?_
  refine hp_getR fl_AL_9 d_AL_grow2_1 fun x1 => ?_
  refine hp_alen d_AL_grow2_4 fun x2 => ?_
  refine hp_istore_n (fun x3 => [(2, .int x3), (0, .ref a0), (1, .int a1)]) d_AL_grow2_5 rfl (by decide) (fun _ => rfl) fun x3 => ?_
  refine hp_iload_n (x0 := 0) d_AL_grow2_6 rfl rfl ?_
  refine hp_if_gt (tgt := 20) d_AL_grow2_7 (by decide) ?_ ?_
  · refine hp_sub [1, 2, 0] rfl ?_
    exact j_AL_grow2_20  _ _ _ _
  · refine hp_aload_n (x0 := 1) d_AL_grow2_10 rfl rfl ?_
    refine hp_getR fl_AL_9 d_AL_grow2_11 fun x4 => ?_
    refine hp_gets (k := 4) rfl w_49 d_AL_grow2_14 ?_
    refine hp_acmp_eq (tgt := 45) d_AL_grow2_17 (by decide) ?_ ?_
    · refine hp_aload_n (x0 := 1) d_AL_grow2_45 rfl rfl ?_
      refine hp_bipush (v := 10) d_AL_grow2_46 (by decide) ?_
      refine hp_iload_n (x0 := 2) d_AL_grow2_48 rfl rfl ?_
      refine hp_callI (hp_crS (t_MA_max _ _ _ _) cw_AL_79 w_351 (by decide) rfl rfl (Nat.le_of_ble_eq_true rfl) d_AL_grow2_49) fun q5 => ?_
      refine hp_newQ w_380 w_377 d_AL_grow2_52 fun o6 h7 => ?_
      refine hp_dup_x1 d_AL_grow2_55 rfl rfl ?_
      refine hp_put fl_AL_9 (fun q => by cases q) rfl rfl d_AL_grow2_56 fun h8 => ?_
      exact hp_aret d_AL_grow2_59 rfl (Or.inr ⟨_, rfl⟩)
    · refine hp_sub [1, 2, 0] rfl ?_
      exact j_AL_grow2_20  _ _ _ _
theorem t_AL_grow2 (l : Launch) (E : hp_E) (a0 : Nat) (a1 : Int32) : hp_M l E y_AL_grow2 Y_AL_grow2 hp_rR [.ref a0, .int a1] (m_AL_grow2 E.2.2.1 a0 a1) := hp_M.of (by decide +kernel) ⟨rfl, rfl⟩ (Nat.le_of_ble_eq_true rfl) (fun Z h hE => by subst hE; exact j_AL_grow2_0 _ _ h)
-- AL_grow
theorem d_AL_grow_0 : decode prog_22_method_7_code 0 = .ok (.aload_n 0, 1) := by decide +kernel
theorem d_AL_grow_1 : decode prog_22_method_7_code 1 = .ok (.aload_n 0, 1) := by decide +kernel
theorem d_AL_grow_2 : decode prog_22_method_7_code 2 = .ok (.getfield 48, 3) := by decide +kernel
theorem d_AL_grow_5 : decode prog_22_method_7_code 5 = .ok (.iconst 1, 1) := by decide +kernel
theorem d_AL_grow_6 : decode prog_22_method_7_code 6 = .ok (.iadd, 1) := by decide +kernel
theorem d_AL_grow_7 : decode prog_22_method_7_code 7 = .ok (.invokevirtual 69, 3) := by decide +kernel
theorem d_AL_grow_10 : decode prog_22_method_7_code 10 = .ok (.areturn, 1) := by decide +kernel
def m_AL_grow (G : Nat → Nat) (a0 : Nat) (h : hp_H) : Option (Nat × hp_H) := (hp_gI h a0 2 1).bind fun x1 => (hp_vck h a0 2 (m_AL_grow2 G a0 (x1 + (1 : Int32)) h)).bind fun q2 => some (q2.1, q2.2)
set_option maxRecDepth 100000 in
set_option maxHeartbeats 4000000 in
theorem j_AL_grow_0 {Z : hp_Z} (a0 : Nat) (h : hp_H) : hp_J Y_AL_grow Z hp_rR h 0 [(0, .ref a0)] [] (m_AL_grow (hp_G Z)  a0 h) := by
  unfold m_AL_grow
  refine hp_aload_n (x0 := 0) d_AL_grow_0 rfl rfl ?_
  refine hp_aload_n (x0 := 0) d_AL_grow_1 rfl rfl ?_
  refine hp_getI fl_AL_48 d_AL_grow_2 fun x1 => ?_
  refine hp_iconst (v := 1) d_AL_grow_5 (by decide) ?_
  refine hp_iadd d_AL_grow_6 ?_
  refine hp_callR (hp_crV (ci := 2) (t_AL_grow2 _ _ _ _) cw_AL_69 rfl ⟨w_345, ws_3⟩ (by decide) rfl rfl (Nat.le_of_ble_eq_true rfl) d_AL_grow_7) fun q2 => ?_
  exact hp_aret d_AL_grow_10 rfl (Or.inr ⟨_, rfl⟩)
theorem t_AL_grow (l : Launch) (E : hp_E) (a0 : Nat) : hp_M l E y_AL_grow Y_AL_grow hp_rR [.ref a0] (m_AL_grow E.2.2.1 a0) := hp_M.of (by decide +kernel) ⟨rfl, rfl⟩ (Nat.le_of_ble_eq_true rfl) (fun Z h hE => by subst hE; exact j_AL_grow_0 _ h)
-- AL_add2
theorem d_AL_add2_0 : decode prog_22_method_24_code 0 = .ok (.iload_n 3, 1) := by decide +kernel
theorem d_AL_add2_1 : decode prog_22_method_24_code 1 = .ok (.aload_n 2, 1) := by decide +kernel
theorem d_AL_add2_2 : decode prog_22_method_24_code 2 = .ok (.arraylength, 1) := by decide +kernel
theorem d_AL_add2_3 : decode prog_22_method_24_code 3 = .ok (.if_icmp .ne 8, 3) := by decide +kernel
theorem d_AL_add2_6 : decode prog_22_method_24_code 6 = .ok (.aload_n 0, 1) := by decide +kernel
theorem d_AL_add2_7 : decode prog_22_method_24_code 7 = .ok (.invokevirtual 129, 3) := by decide +kernel
theorem d_AL_add2_10 : decode prog_22_method_24_code 10 = .ok (.astore_n 2, 1) := by decide +kernel
theorem d_AL_add2_11 : decode prog_22_method_24_code 11 = .ok (.aload_n 2, 1) := by decide +kernel
theorem d_AL_add2_12 : decode prog_22_method_24_code 12 = .ok (.iload_n 3, 1) := by decide +kernel
theorem d_AL_add2_13 : decode prog_22_method_24_code 13 = .ok (.aload_n 1, 1) := by decide +kernel
theorem d_AL_add2_14 : decode prog_22_method_24_code 14 = .ok (.aastore, 1) := by decide +kernel
theorem d_AL_add2_15 : decode prog_22_method_24_code 15 = .ok (.aload_n 0, 1) := by decide +kernel
theorem d_AL_add2_16 : decode prog_22_method_24_code 16 = .ok (.iload_n 3, 1) := by decide +kernel
theorem d_AL_add2_17 : decode prog_22_method_24_code 17 = .ok (.iconst 1, 1) := by decide +kernel
theorem d_AL_add2_18 : decode prog_22_method_24_code 18 = .ok (.iadd, 1) := by decide +kernel
theorem d_AL_add2_19 : decode prog_22_method_24_code 19 = .ok (.putfield 48, 3) := by decide +kernel
theorem d_AL_add2_22 : decode prog_22_method_24_code 22 = .ok (.return_, 1) := by decide +kernel
def m_AL_add2_11 (G : Nat → Nat) (a0 : Nat) (a1 : Nat) (a2 : Nat) (a3 : Int32) (h : hp_H) : Option (Unit × hp_H) := (hp_sR h a2 a3 a1).bind fun h1 => (hp_p h1 a0 2 1 (.int (a3 + (1 : Int32)))).bind fun h2 => some ((), h2)
set_option maxRecDepth 100000 in
set_option maxHeartbeats 4000000 in
theorem j_AL_add2_11 {Z : hp_Z} (a0 : Nat) (a1 : Nat) (a2 : Nat) (a3 : Int32) (h : hp_H) : hp_J Y_AL_add2 Z hp_rV h 11 [(0, .ref a0), (1, .ref a1), (2, .ref a2), (3, .int a3)] [] (m_AL_add2_11 (hp_G Z)  a0 a1 a2 a3 h) := by
  unfold m_AL_add2_11
  refine hp_aload_n (x0 := 2) d_AL_add2_11 rfl rfl ?_
  refine hp_iload_n (x0 := 3) d_AL_add2_12 rfl rfl ?_
  refine hp_aload_n (x0 := 1) d_AL_add2_13 rfl rfl ?_
  refine hp_aast w_1283 d_AL_add2_14 fun h1 => ?_
  refine hp_aload_n (x0 := 0) d_AL_add2_15 rfl rfl ?_
  refine hp_iload_n (x0 := 3) d_AL_add2_16 rfl rfl ?_
  refine hp_iconst (v := 1) d_AL_add2_17 (by decide) ?_
  refine hp_iadd d_AL_add2_18 ?_
  refine hp_put fl_AL_48 (fun q => by cases q) rfl rfl d_AL_add2_19 fun h2 => ?_
  exact hp_vret d_AL_add2_22 rfl
def m_AL_add2 (G : Nat → Nat) (a0 : Nat) (a1 : Nat) (a2 : Nat) (a3 : Int32) (h : hp_H) : Option (Unit × hp_H) := (hp_len h a2).bind fun x1 => if a3 = x1 then ((hp_vck h a0 2 (m_AL_grow G a0 h)).bind fun q2 => hp_nm q2.1 fun x3 => m_AL_add2_11 G a0 a1 x3 a3 q2.2) else (m_AL_add2_11 G a0 a1 a2 a3 h)
set_option maxRecDepth 100000 in
set_option maxHeartbeats 4000000 in
theorem j_AL_add2_0 {Z : hp_Z} (a0 : Nat) (a1 : Nat) (a2 : Nat) (a3 : Int32) (h : hp_H) : hp_J Y_AL_add2 Z hp_rV h 0 [(0, .ref a0), (1, .ref a1), (2, .ref a2), (3, .int a3)] [] (m_AL_add2 (hp_G Z)  a0 a1 a2 a3 h) := by
  unfold m_AL_add2
  refine hp_iload_n (x0 := 3) d_AL_add2_0 rfl rfl ?_
  refine hp_aload_n (x0 := 2) d_AL_add2_1 rfl rfl ?_
  refine hp_alen d_AL_add2_2 fun x1 => ?_
  refine hp_icmp_ne (tgt := 11) d_AL_add2_3 (by decide) ?_ ?_
  · refine hp_aload_n (x0 := 0) d_AL_add2_6 rfl rfl ?_
    refine hp_callR (hp_crV (ci := 2) (t_AL_grow _ _ _) cw_AL_129 rfl ⟨w_341, ws_2⟩ (by decide) rfl rfl (Nat.le_of_ble_eq_true rfl) d_AL_add2_7) fun q2 => ?_
    refine hp_astore_n (fun x3 => [(2, .ref x3), (0, .ref a0), (1, .ref a1), (3, .int a3)]) d_AL_add2_10 rfl (by decide) (fun _ => rfl) fun x3 => ?_
    refine hp_sub [1, 2, 0, 3] rfl ?_
    exact j_AL_add2_11  _ _ _ _ _
  · exact j_AL_add2_11  _ _ _ _ _
theorem t_AL_add2 (l : Launch) (E : hp_E) (a0 : Nat) (a1 : Nat) (a2 : Nat) (a3 : Int32) : hp_M l E y_AL_add2 Y_AL_add2 hp_rV [.ref a0, .ref a1, .ref a2, .int a3] (m_AL_add2 E.2.2.1 a0 a1 a2 a3) := hp_M.of (by decide +kernel) ⟨rfl, rfl⟩ (Nat.le_of_ble_eq_true rfl) (fun Z h hE => by subst hE; exact j_AL_add2_0 _ _ _ _ h)
-- AL_add
theorem d_AL_add_0 : decode prog_22_method_25_code 0 = .ok (.aload_n 0, 1) := by decide +kernel
theorem d_AL_add_1 : decode prog_22_method_25_code 1 = .ok (.dup, 1) := by decide +kernel
theorem d_AL_add_2 : decode prog_22_method_25_code 2 = .ok (.getfield 63, 3) := by decide +kernel
theorem d_AL_add_5 : decode prog_22_method_25_code 5 = .ok (.iconst 1, 1) := by decide +kernel
theorem d_AL_add_6 : decode prog_22_method_25_code 6 = .ok (.iadd, 1) := by decide +kernel
theorem d_AL_add_7 : decode prog_22_method_25_code 7 = .ok (.putfield 63, 3) := by decide +kernel
theorem d_AL_add_10 : decode prog_22_method_25_code 10 = .ok (.aload_n 0, 1) := by decide +kernel
theorem d_AL_add_11 : decode prog_22_method_25_code 11 = .ok (.aload_n 1, 1) := by decide +kernel
theorem d_AL_add_12 : decode prog_22_method_25_code 12 = .ok (.aload_n 0, 1) := by decide +kernel
theorem d_AL_add_13 : decode prog_22_method_25_code 13 = .ok (.getfield 9, 3) := by decide +kernel
theorem d_AL_add_16 : decode prog_22_method_25_code 16 = .ok (.aload_n 0, 1) := by decide +kernel
theorem d_AL_add_17 : decode prog_22_method_25_code 17 = .ok (.getfield 48, 3) := by decide +kernel
theorem d_AL_add_20 : decode prog_22_method_25_code 20 = .ok (.invokevirtual 131, 3) := by decide +kernel
theorem d_AL_add_23 : decode prog_22_method_25_code 23 = .ok (.iconst 1, 1) := by decide +kernel
theorem d_AL_add_24 : decode prog_22_method_25_code 24 = .ok (.ireturn, 1) := by decide +kernel
def m_AL_add (G : Nat → Nat) (a0 : Nat) (a1 : Nat) (h : hp_H) : Option (Int32 × hp_H) := (hp_gI h a0 2 2).bind fun x1 => (hp_p h a0 2 2 (.int (x1 + (1 : Int32)))).bind fun h2 => (hp_gR h2 a0 2 0).bind fun x3 => (hp_gI h2 a0 2 1).bind fun x4 => (hp_vck h2 a0 2 (m_AL_add2 G a0 a1 x3 x4 h2)).bind fun q5 => hp_z (1 : Int32) q5.2
set_option maxRecDepth 100000 in
set_option maxHeartbeats 4000000 in
theorem j_AL_add_0 {Z : hp_Z} (a0 : Nat) (a1 : Nat) (h : hp_H) : hp_J Y_AL_add Z hp_rI h 0 [(0, .ref a0), (1, .ref a1)] [] (m_AL_add (hp_G Z)  a0 a1 h) := by
  unfold m_AL_add
  refine hp_aload_n (x0 := 0) d_AL_add_0 rfl rfl ?_
  refine hp_dup d_AL_add_1 rfl ?_
  refine hp_getI fl_AL_63 d_AL_add_2 fun x1 => ?_
  refine hp_iconst (v := 1) d_AL_add_5 (by decide) ?_
  refine hp_iadd d_AL_add_6 ?_
  refine hp_put fl_AL_63 (fun q => by cases q) rfl rfl d_AL_add_7 fun h2 => ?_
  refine hp_aload_n (x0 := 0) d_AL_add_10 rfl rfl ?_
  refine hp_aload_n (x0 := 1) d_AL_add_11 rfl rfl ?_
  refine hp_aload_n (x0 := 0) d_AL_add_12 rfl rfl ?_
  refine hp_getR fl_AL_9 d_AL_add_13 fun x3 => ?_
  refine hp_aload_n (x0 := 0) d_AL_add_16 rfl rfl ?_
  refine hp_getI fl_AL_48 d_AL_add_17 fun x4 => ?_
  refine hp_callU (hp_crV (ci := 2) (t_AL_add2 _ _ _ _ _ _) cw_AL_131 rfl ⟨w_337, ws_1⟩ (by decide) rfl rfl (Nat.le_of_ble_eq_true rfl) d_AL_add_20) fun q5 => ?_
  refine hp_iconst (v := 1) d_AL_add_23 (by decide) ?_
  exact hp_zret d_AL_add_24 rfl
theorem t_AL_add (l : Launch) (E : hp_E) (a0 : Nat) (a1 : Nat) : hp_M l E y_AL_add Y_AL_add hp_rI [.ref a0, .ref a1] (m_AL_add E.2.2.1 a0 a1) := hp_M.of (by decide +kernel) ⟨rfl, rfl⟩ (Nat.le_of_ble_eq_true rfl) (fun Z h hE => by subst hE; exact j_AL_add_0 _ _ h)
-- AL_elementData
theorem d_AL_elementData_0 : decode prog_22_method_18_code 0 = .ok (.aload_n 0, 1) := by decide +kernel
theorem d_AL_elementData_1 : decode prog_22_method_18_code 1 = .ok (.getfield 9, 3) := by decide +kernel
theorem d_AL_elementData_4 : decode prog_22_method_18_code 4 = .ok (.iload_n 1, 1) := by decide +kernel
theorem d_AL_elementData_5 : decode prog_22_method_18_code 5 = .ok (.aaload, 1) := by decide +kernel
theorem d_AL_elementData_6 : decode prog_22_method_18_code 6 = .ok (.areturn, 1) := by decide +kernel
def m_AL_elementData (G : Nat → Nat) (a0 : Nat) (a1 : Int32) (h : hp_H) : Option (Nat × hp_H) := (hp_gR h a0 2 0).bind fun x1 => (hp_aR h x1 a1).bind fun x2 => some (x2, h)
set_option maxRecDepth 100000 in
set_option maxHeartbeats 4000000 in
theorem j_AL_elementData_0 {Z : hp_Z} (a0 : Nat) (a1 : Int32) (h : hp_H) : hp_J Y_AL_elementData Z hp_rR h 0 [(0, .ref a0), (1, .int a1)] [] (m_AL_elementData (hp_G Z)  a0 a1 h) := by
  unfold m_AL_elementData
  refine hp_aload_n (x0 := 0) d_AL_elementData_0 rfl rfl ?_
  refine hp_getR fl_AL_9 d_AL_elementData_1 fun x1 => ?_
  refine hp_iload_n (x0 := 1) d_AL_elementData_4 rfl rfl ?_
  refine hp_aald d_AL_elementData_5 fun x2 => ?_
  exact hp_aret d_AL_elementData_6 rfl (Or.inl ⟨_, rfl⟩)
theorem t_AL_elementData (l : Launch) (E : hp_E) (a0 : Nat) (a1 : Int32) : hp_M l E y_AL_elementData Y_AL_elementData hp_rR [.ref a0, .int a1] (m_AL_elementData E.2.2.1 a0 a1) := hp_M.of (by decide +kernel) ⟨rfl, rfl⟩ (Nat.le_of_ble_eq_true rfl) (fun Z h hE => by subst hE; exact j_AL_elementData_0 _ _ h)
-- PR_checkIndex
theorem d_PR_checkIndex_0 : decode prog_30_method_11_code 0 = .ok (.iload_n 0, 1) := by decide +kernel
theorem d_PR_checkIndex_1 : decode prog_30_method_11_code 1 = .ok (.ifCond .lt 8, 3) := by decide +kernel
theorem d_PR_checkIndex_4 : decode prog_30_method_11_code 4 = .ok (.iload_n 0, 1) := by decide +kernel
theorem d_PR_checkIndex_5 : decode prog_30_method_11_code 5 = .ok (.iload_n 1, 1) := by decide +kernel
theorem d_PR_checkIndex_6 : decode prog_30_method_11_code 6 = .ok (.if_icmp .lt 10, 3) := by decide +kernel
theorem d_PR_checkIndex_9 : decode prog_30_method_11_code 9 = .ok (.aload_n 2, 1) := by decide +kernel
theorem d_PR_checkIndex_10 : decode prog_30_method_11_code 10 = .ok (.iload_n 0, 1) := by decide +kernel
theorem d_PR_checkIndex_11 : decode prog_30_method_11_code 11 = .ok (.iload_n 1, 1) := by decide +kernel
theorem d_PR_checkIndex_12 : decode prog_30_method_11_code 12 = .ok (.invokestatic 95, 3) := by decide +kernel
theorem d_PR_checkIndex_15 : decode prog_30_method_11_code 15 = .ok (.athrow, 1) := by decide +kernel
theorem d_PR_checkIndex_16 : decode prog_30_method_11_code 16 = .ok (.iload_n 0, 1) := by decide +kernel
theorem d_PR_checkIndex_17 : decode prog_30_method_11_code 17 = .ok (.ireturn, 1) := by decide +kernel
def m_PR_checkIndex (G : Nat → Nat) (a0 : Int32) (a1 : Int32) (h : hp_H) : Option (Int32 × hp_H) := if a0 < 0 then (none) else (if a0 < a1 then (some (a0, h)) else (none))
set_option maxRecDepth 100000 in
set_option maxHeartbeats 4000000 in
theorem j_PR_checkIndex_0 {Z : hp_Z} (a0 : Int32) (a1 : Int32) (a2 : Option Nat) (h : hp_H) : hp_J Y_PR_checkIndex Z hp_rI h 0 [(0, .int a0), (1, .int a1), (2, va_rf a2)] [] (m_PR_checkIndex (hp_G Z)  a0 a1 h) := by
  unfold m_PR_checkIndex
  refine hp_iload_n (x0 := 0) d_PR_checkIndex_0 rfl rfl ?_
  refine hp_if_lt (tgt := 9) d_PR_checkIndex_1 (by decide) ?_ ?_
  · exact hp_fail
  · refine hp_iload_n (x0 := 0) d_PR_checkIndex_4 rfl rfl ?_
    refine hp_iload_n (x0 := 1) d_PR_checkIndex_5 rfl rfl ?_
    refine hp_icmp_lt (tgt := 16) d_PR_checkIndex_6 (by decide) ?_ ?_
    · refine hp_iload_n (x0 := 0) d_PR_checkIndex_16 rfl rfl ?_
      exact hp_iret d_PR_checkIndex_17 rfl
    · exact hp_fail
theorem t_PR_checkIndex (l : Launch) (E : hp_E) (a0 : Int32) (a1 : Int32) (a2 : Option Nat) : hp_M l E y_PR_checkIndex Y_PR_checkIndex hp_rI [.int a0, .int a1, va_rf a2] (m_PR_checkIndex E.2.2.1 a0 a1) := hp_M.of (by decide +kernel) ⟨rfl, rfl⟩ (by cases a2 <;> exact Nat.le_of_ble_eq_true rfl) (fun Z h hE => by subst hE; exact j_PR_checkIndex_0 _ _ _ h)
-- OB_checkIndex
theorem d_OB_checkIndex_0 : decode prog_26_method_17_code 0 = .ok (.iload_n 0, 1) := by decide +kernel
theorem d_OB_checkIndex_1 : decode prog_26_method_17_code 1 = .ok (.iload_n 1, 1) := by decide +kernel
theorem d_OB_checkIndex_2 : decode prog_26_method_17_code 2 = .ok (.aconst_null, 1) := by decide +kernel
theorem d_OB_checkIndex_3 : decode prog_26_method_17_code 3 = .ok (.invokestatic 105, 3) := by decide +kernel
theorem d_OB_checkIndex_6 : decode prog_26_method_17_code 6 = .ok (.ireturn, 1) := by decide +kernel
def m_OB_checkIndex (G : Nat → Nat) (a0 : Int32) (a1 : Int32) (h : hp_H) : Option (Int32 × hp_H) := (m_PR_checkIndex G a0 a1 h).bind fun q1 => some (q1.1, q1.2)
set_option maxRecDepth 100000 in
set_option maxHeartbeats 4000000 in
theorem j_OB_checkIndex_0 {Z : hp_Z} (a0 : Int32) (a1 : Int32) (h : hp_H) : hp_J Y_OB_checkIndex Z hp_rI h 0 [(0, .int a0), (1, .int a1)] [] (m_OB_checkIndex (hp_G Z)  a0 a1 h) := by
  unfold m_OB_checkIndex
  refine hp_iload_n (x0 := 0) d_OB_checkIndex_0 rfl rfl ?_
  refine hp_iload_n (x0 := 1) d_OB_checkIndex_1 rfl rfl ?_
  refine hp_null d_OB_checkIndex_2 ?_
  refine hp_callI (hp_crS (t_PR_checkIndex _ _ _ _ _) cw_OB_105 w_305 (by decide) rfl rfl (Nat.le_of_ble_eq_true rfl) d_OB_checkIndex_3) fun q1 => ?_
  exact hp_iret d_OB_checkIndex_6 rfl
theorem t_OB_checkIndex (l : Launch) (E : hp_E) (a0 : Int32) (a1 : Int32) : hp_M l E y_OB_checkIndex Y_OB_checkIndex hp_rI [.int a0, .int a1] (m_OB_checkIndex E.2.2.1 a0 a1) := hp_M.of (by decide +kernel) ⟨rfl, rfl⟩ (Nat.le_of_ble_eq_true rfl) (fun Z h hE => by subst hE; exact j_OB_checkIndex_0 _ _ h)
-- AL_get
theorem d_AL_get_0 : decode prog_22_method_20_code 0 = .ok (.iload_n 1, 1) := by decide +kernel
theorem d_AL_get_1 : decode prog_22_method_20_code 1 = .ok (.aload_n 0, 1) := by decide +kernel
theorem d_AL_get_2 : decode prog_22_method_20_code 2 = .ok (.getfield 48, 3) := by decide +kernel
theorem d_AL_get_5 : decode prog_22_method_20_code 5 = .ok (.invokestatic 118, 3) := by decide +kernel
theorem d_AL_get_8 : decode prog_22_method_20_code 8 = .ok (.pop, 1) := by decide +kernel
theorem d_AL_get_9 : decode prog_22_method_20_code 9 = .ok (.aload_n 0, 1) := by decide +kernel
theorem d_AL_get_10 : decode prog_22_method_20_code 10 = .ok (.iload_n 1, 1) := by decide +kernel
theorem d_AL_get_11 : decode prog_22_method_20_code 11 = .ok (.invokevirtual 123, 3) := by decide +kernel
theorem d_AL_get_14 : decode prog_22_method_20_code 14 = .ok (.areturn, 1) := by decide +kernel
def m_AL_get (G : Nat → Nat) (a0 : Nat) (a1 : Int32) (h : hp_H) : Option (Nat × hp_H) := (hp_gI h a0 2 1).bind fun x1 => (m_OB_checkIndex G a1 x1 h).bind fun q2 => (hp_vck q2.2 a0 2 (m_AL_elementData G a0 a1 q2.2)).bind fun q3 => some (q3.1, q3.2)
set_option maxRecDepth 100000 in
set_option maxHeartbeats 4000000 in
theorem j_AL_get_0 {Z : hp_Z} (a0 : Nat) (a1 : Int32) (h : hp_H) : hp_J Y_AL_get Z hp_rR h 0 [(0, .ref a0), (1, .int a1)] [] (m_AL_get (hp_G Z)  a0 a1 h) := by
  unfold m_AL_get
  refine hp_iload_n (x0 := 1) d_AL_get_0 rfl rfl ?_
  refine hp_aload_n (x0 := 0) d_AL_get_1 rfl rfl ?_
  refine hp_getI fl_AL_48 d_AL_get_2 fun x1 => ?_
  refine hp_callI (hp_crS (t_OB_checkIndex _ _ _ _) cw_AL_118 w_302 (by decide) rfl rfl (Nat.le_of_ble_eq_true rfl) d_AL_get_5) fun q2 => ?_
  refine hp_pop d_AL_get_8 rfl ?_
  refine hp_aload_n (x0 := 0) d_AL_get_9 rfl rfl ?_
  refine hp_iload_n (x0 := 1) d_AL_get_10 rfl rfl ?_
  refine hp_callR (hp_crV (ci := 2) (t_AL_elementData _ _ _ _) cw_AL_123 rfl ⟨w_308, w_309⟩ (by decide) rfl rfl (Nat.le_of_ble_eq_true rfl) d_AL_get_11) fun q3 => ?_
  exact hp_aret d_AL_get_14 rfl (Or.inl ⟨_, rfl⟩)
theorem t_AL_get (l : Launch) (E : hp_E) (a0 : Nat) (a1 : Int32) : hp_M l E y_AL_get Y_AL_get hp_rR [.ref a0, .int a1] (m_AL_get E.2.2.1 a0 a1) := hp_M.of (by decide +kernel) ⟨rfl, rfl⟩ (Nat.le_of_ble_eq_true rfl) (fun Z h hE => by subst hE; exact j_AL_get_0 _ _ h)
-- AL_size
theorem d_AL_size_0 : decode prog_22_method_8_code 0 = .ok (.aload_n 0, 1) := by decide +kernel
theorem d_AL_size_1 : decode prog_22_method_8_code 1 = .ok (.getfield 48, 3) := by decide +kernel
theorem d_AL_size_4 : decode prog_22_method_8_code 4 = .ok (.ireturn, 1) := by decide +kernel
def m_AL_size (G : Nat → Nat) (a0 : Nat) (h : hp_H) : Option (Int32 × hp_H) := (hp_gI h a0 2 1).bind fun x1 => some (x1, h)
set_option maxRecDepth 100000 in
set_option maxHeartbeats 4000000 in
theorem j_AL_size_0 {Z : hp_Z} (a0 : Nat) (h : hp_H) : hp_J Y_AL_size Z hp_rI h 0 [(0, .ref a0)] [] (m_AL_size (hp_G Z)  a0 h) := by
  unfold m_AL_size
  refine hp_aload_n (x0 := 0) d_AL_size_0 rfl rfl ?_
  refine hp_getI fl_AL_48 d_AL_size_1 fun x1 => ?_
  exact hp_iret d_AL_size_4 rfl
theorem t_AL_size (l : Launch) (E : hp_E) (a0 : Nat) : hp_M l E y_AL_size Y_AL_size hp_rI [.ref a0] (m_AL_size E.2.2.1 a0) := hp_M.of (by decide +kernel) ⟨rfl, rfl⟩ (Nat.le_of_ble_eq_true rfl) (fun Z h hE => by subst hE; exact j_AL_size_0 _ h)
-- AR_copyOf
theorem d_AR_copyOf_0 : decode prog_23_method_121_code 0 = .ok (.iload_n 1, 1) := by decide +kernel
theorem d_AR_copyOf_1 : decode prog_23_method_121_code 1 = .ok (.aload_n 0, 1) := by decide +kernel
theorem d_AR_copyOf_2 : decode prog_23_method_121_code 2 = .ok (.arraylength, 1) := by decide +kernel
theorem d_AR_copyOf_3 : decode prog_23_method_121_code 3 = .ok (.if_icmp .ne 11, 3) := by decide +kernel
theorem d_AR_copyOf_6 : decode prog_23_method_121_code 6 = .ok (.aload_n 0, 1) := by decide +kernel
theorem d_AR_copyOf_7 : decode prog_23_method_121_code 7 = .ok (.invokevirtual 310, 3) := by decide +kernel
theorem d_AR_copyOf_10 : decode prog_23_method_121_code 10 = .ok (.checkcast 311, 3) := by decide +kernel
theorem d_AR_copyOf_13 : decode prog_23_method_121_code 13 = .ok (.areturn, 1) := by decide +kernel
theorem d_AR_copyOf_14 : decode prog_23_method_121_code 14 = .ok (.iload_n 1, 1) := by decide +kernel
theorem d_AR_copyOf_15 : decode prog_23_method_121_code 15 = .ok (.newarray .byte, 2) := by decide +kernel
theorem d_AR_copyOf_17 : decode prog_23_method_121_code 17 = .ok (.astore_n 2, 1) := by decide +kernel
theorem d_AR_copyOf_18 : decode prog_23_method_121_code 18 = .ok (.aload_n 0, 1) := by decide +kernel
theorem d_AR_copyOf_19 : decode prog_23_method_121_code 19 = .ok (.iconst 0, 1) := by decide +kernel
theorem d_AR_copyOf_20 : decode prog_23_method_121_code 20 = .ok (.aload_n 2, 1) := by decide +kernel
theorem d_AR_copyOf_21 : decode prog_23_method_121_code 21 = .ok (.iconst 0, 1) := by decide +kernel
theorem d_AR_copyOf_22 : decode prog_23_method_121_code 22 = .ok (.aload_n 0, 1) := by decide +kernel
theorem d_AR_copyOf_23 : decode prog_23_method_121_code 23 = .ok (.arraylength, 1) := by decide +kernel
theorem d_AR_copyOf_24 : decode prog_23_method_121_code 24 = .ok (.iload_n 1, 1) := by decide +kernel
theorem d_AR_copyOf_25 : decode prog_23_method_121_code 25 = .ok (.invokestatic 304, 3) := by decide +kernel
theorem d_AR_copyOf_28 : decode prog_23_method_121_code 28 = .ok (.invokestatic 150, 3) := by decide +kernel
theorem d_AR_copyOf_31 : decode prog_23_method_121_code 31 = .ok (.aload_n 2, 1) := by decide +kernel
theorem d_AR_copyOf_32 : decode prog_23_method_121_code 32 = .ok (.areturn, 1) := by decide +kernel
def m_AR_copyOf (G : Nat → Nat) (a0 : Nat) (a1 : Int32) (h : hp_H) : Option (Nat × hp_H) := (hp_len h a0).bind fun x1 => if a1 = x1 then (hp_clK h a0 fun o8 h9 => hp_bck h9 o8 <| some (o8, h9)) else (hp_naK h .byte a1 (.inl fun _ => 0) fun o2 h3 => hp_nm o2 fun x4 => (hp_len h3 a0).bind fun x5 => (m_MA_min G x5 a1 h3).bind fun q6 => (hp_cpB q6.2 a0 (0 : Int32) x4 (0 : Int32) q6.1).bind fun h7 => some (x4, h7))
set_option maxRecDepth 100000 in
set_option maxHeartbeats 4000000 in
theorem j_AR_copyOf_0 {Z : hp_Z} (a0 : Nat) (a1 : Int32) (h : hp_H) : hp_J Y_AR_copyOf Z hp_rR h 0 [(0, .ref a0), (1, .int a1)] [] (m_AR_copyOf (hp_G Z)  a0 a1 h) := by
  unfold m_AR_copyOf
  refine hp_iload_n (x0 := 1) d_AR_copyOf_0 rfl rfl ?_
  refine hp_aload_n (x0 := 0) d_AR_copyOf_1 rfl rfl ?_
  refine hp_alen d_AR_copyOf_2 fun x1 => ?_
  refine hp_icmp_ne (tgt := 14) d_AR_copyOf_3 (by decide) ?_ ?_
  · refine hp_aload_n (x0 := 0) d_AR_copyOf_6 rfl rfl ?_
    refine hp_clone ⟨w_318, w_319, w_320, w_321, w_322, w_323⟩ (by decide) (Nat.le_of_ble_eq_true rfl) d_AR_copyOf_7 fun o8 h9 => ?_
    refine hp_castB w_324 d_AR_copyOf_10 ?_
    exact hp_aret d_AR_copyOf_13 rfl (Or.inr ⟨_, rfl⟩)
  · refine hp_iload_n (x0 := 1) d_AR_copyOf_14 rfl rfl ?_
    refine hp_newA w_137 rfl (fun _ => rfl) d_AR_copyOf_15 fun o2 h3 => ?_
    refine hp_astore_n (fun x4 => [(2, .ref x4), (0, .ref a0), (1, .int a1)]) d_AR_copyOf_17 rfl (by decide) (fun _ => rfl) fun x4 => ?_
    refine hp_aload_n (x0 := 1) d_AR_copyOf_18 rfl rfl ?_
    refine hp_iconst (v := 0) d_AR_copyOf_19 (by decide) ?_
    refine hp_aload_n (x0 := 0) d_AR_copyOf_20 rfl rfl ?_
    refine hp_iconst (v := 0) d_AR_copyOf_21 (by decide) ?_
    refine hp_aload_n (x0 := 1) d_AR_copyOf_22 rfl rfl ?_
    refine hp_alen d_AR_copyOf_23 fun x5 => ?_
    refine hp_iload_n (x0 := 2) d_AR_copyOf_24 rfl rfl ?_
    refine hp_callI (hp_crS (t_MA_min _ _ _ _) cw_AR_304 w_326 (by decide) rfl rfl (Nat.le_of_ble_eq_true rfl) d_AR_copyOf_25) fun q6 => ?_
    refine hp_acpB ⟨w_328, w_330, w_329, w_16⟩ (by decide +kernel) (Nat.le_of_ble_eq_true rfl) d_AR_copyOf_28 fun h7 => ?_
    refine hp_aload_n (x0 := 0) d_AR_copyOf_31 rfl rfl ?_
    exact hp_aret d_AR_copyOf_32 rfl (Or.inr ⟨_, rfl⟩)
theorem t_AR_copyOf (l : Launch) (E : hp_E) (a0 : Nat) (a1 : Int32) : hp_M l E y_AR_copyOf Y_AR_copyOf hp_rR [.ref a0, .int a1] (m_AR_copyOf E.2.2.1 a0 a1) := hp_M.of (by decide +kernel) ⟨rfl, rfl⟩ (Nat.le_of_ble_eq_true rfl) (fun Z h hE => by subst hE; exact j_AR_copyOf_0 _ _ h)
