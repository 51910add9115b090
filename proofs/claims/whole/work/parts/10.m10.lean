-- R_clear
theorem d_R_clear_0 : decode prog_5_method_2_code 0 = .ok (.aload_n 0, 1) := by decide +kernel
theorem d_R_clear_1 : decode prog_5_method_2_code 1 = .ok (.iconst 0, 1) := by decide +kernel
theorem d_R_clear_2 : decode prog_5_method_2_code 2 = .ok (.putfield 15, 3) := by decide +kernel
theorem d_R_clear_5 : decode prog_5_method_2_code 5 = .ok (.aload_n 0, 1) := by decide +kernel
theorem d_R_clear_6 : decode prog_5_method_2_code 6 = .ok (.iconst 0, 1) := by decide +kernel
theorem d_R_clear_7 : decode prog_5_method_2_code 7 = .ok (.putfield 19, 3) := by decide +kernel
theorem d_R_clear_10 : decode prog_5_method_2_code 10 = .ok (.return_, 1) := by decide +kernel
def m_R_clear (G : Nat → Nat) (a0 : Nat) (h : hp_H) : Option (Unit × hp_H) := (hp_p h a0 4 1 (.int (0 : Int32))).bind fun h1 => (hp_pZ h1 a0 4 2 (0 : Int32)).bind fun h2 => some ((), h2)
set_option maxRecDepth 100000 in
set_option maxHeartbeats 4000000 in
theorem j_R_clear_0 {Z : hp_Z} (a0 : Nat) (h : hp_H) : hp_J Y_R_clear Z hp_rV h 0 [(0, .ref a0)] [] (m_R_clear (hp_G Z)  a0 h) := by
  unfold m_R_clear
  refine hp_aload_n (x0 := 0) d_R_clear_0 rfl rfl ?_
  refine hp_iconst (v := 0) d_R_clear_1 (by decide) ?_
  refine hp_put fl_R_15 (fun q => by cases q) rfl rfl d_R_clear_2 fun h1 => ?_
  refine hp_aload_n (x0 := 0) d_R_clear_5 rfl rfl ?_
  refine hp_iconst (v := 0) d_R_clear_6 (by decide) ?_
  refine hp_putZ fl_R_19 (fun q => by cases q) d_R_clear_7 fun h2 => ?_
  exact hp_vret d_R_clear_10 rfl
theorem t_R_clear (l : Launch) (E : hp_E) (a0 : Nat) : hp_M l E y_R_clear Y_R_clear hp_rV [.ref a0] (m_R_clear E.2.2.1 a0) := hp_M.of (by decide +kernel) ⟨rfl, rfl⟩ (Nat.le_of_ble_eq_true rfl) (fun Z h hE => by subst hE; exact j_R_clear_0 _ h)
