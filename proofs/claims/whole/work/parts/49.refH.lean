/-! product -/
theorem hp_nmE {α β : Type} (x : α) (k : α → β) : hp_nm x k = k x := Eq.trans rfl rfl
theorem mod_s (B j : Nat) : B % 10 ^ (j + 1) = B % 10 ^ j + dg B j * 10 ^ j := by
  rw [Nat.pow_succ, Nat.mod_mul, dg_e, Nat.mul_comm (10 ^ j)]
theorem pr_step {r r' c da db w e P Bm d v : Nat} (h : r + c * (w * e) = P + da * Bm * w) (hv : v = d + c + da * db) (h' : r' + d * (w * e) = r + v % 10 * (w * e)) : r' + v / 10 * (w * e * 10) = P + da * (Bm + db * e) * w := by
  have h1 : v % 10 * (w * e) + v / 10 * (w * e * 10) = v * (w * e) := by
    rw [show v / 10 * (w * e * 10) = (10 * (v / 10)) * (w * e) by rw [Nat.mul_comm (w * e) 10, ← Nat.mul_assoc, Nat.mul_comm (v / 10) 10], ← Nat.add_mul, show v % 10 + 10 * (v / 10) = v by omega]
  have h2 : v * (w * e) = d * (w * e) + c * (w * e) + da * db * (w * e) := by rw [hv, Nat.add_mul, Nat.add_mul]
  have h3 : da * (Bm + db * e) * w = da * Bm * w + da * db * (w * e) := by
    rw [Nat.mul_add, Nat.add_mul, ← Nat.mul_assoc da db e, Nat.mul_assoc (da * db) e w, Nat.mul_comm e w]
  omega
theorem rm_product_40 (G : Nat → Nat) (o : Nat) (h : hp_H) (r27 : Nat → Int32 → Int32 → Int32 → Int32 → hp_H → Option (Int32 × hp_H)) (ia ib at_ i A B P : Nat) (hia : ia ≤ 2000) (hib : ib ≤ 2000) (hat : at_ ≤ 18) (hi : i < 18) (lB : B < 10 ^ 18) (lQ : P + dg A i * B * 10 ^ (at_ + i) < 10 ^ 54) : ∀ (n j c r : Nat) (S : lm_S), (∀ k, k < 18 → S.2 5 (18 * ia + k) = nI (dg A k)) → (∀ k, k < 18 → S.2 5 (18 * ib + k) = nI (dg B k)) → RV (S.2 11) r → r < 10 ^ 64 → c ≤ 9 → at_ + i + j ≤ 63 → 64 - (at_ + i + j) < n → r + c * 10 ^ (at_ + i + j) = P + dg A i * (B % 10 ^ j) * 10 ^ (at_ + i) → ∃ f, m_M_product_40 G r27 n o (nI ia) (nI ib) (nI at_) (nI i) (nI c) (nI j) (lm_w o h S) = r27 o (nI ia) (nI ib) (nI at_) (nI (i + 1)) (lm_w o h (S.1, lm_up S.2 11 f)) ∧ RV f (P + dg A i * B * 10 ^ (at_ + i))
  | 0, j, c, r, S, _, _, _, _, _, _, hn, _ => by omega
  | n + 1, j, c, r, S, hA, hB, hr, lr, hc, hp, hn, he => by
    have dA := dg_lt A i
    have dB := dg_lt B j
    have dr := dg_lt r (at_ + i + j)
    rw [m_M_product_40]
    have step : ∀ v, v = dg r (at_ + i + j) + c + dg A i * dg B j → v ≤ 99 → at_ + i + j < 54 → ∃ f, m_M_product_40 G r27 n o (nI ia) (nI ib) (nI at_) (nI i) (nI (v / 10)) (nI (j + 1)) (lm_w o h (S.1, lm_up S.2 11 (upd (S.2 11) (at_ + i + j) (nI (v % 10))))) = r27 o (nI ia) (nI ib) (nI at_) (nI (i + 1)) (lm_w o h (S.1, lm_up S.2 11 f)) ∧ RV f (P + dg A i * B * 10 ^ (at_ + i)) := fun v hv lv hp2 => by
      obtain ⟨r', z1, z2, z3⟩ := RV_upd hr lr (show at_ + i + j < 64 by omega) (show v % 10 < 10 by omega)
      have hs := pr_step (w := 10 ^ (at_ + i)) (e := 10 ^ j) (by rw [← Nat.pow_add]; exact he) hv (by rw [← Nat.pow_add]; exact z2)
      obtain ⟨f, e1, e2⟩ := rm_product_40 G o h r27 ia ib at_ i A B P hia hib hat hi lB lQ n (j + 1) (v / 10) r' (S.1, lm_up S.2 11 (upd (S.2 11) (at_ + i + j) (nI (v % 10)))) (fun k hk => by simp (disch := omega) only [lm_upn]; exact hA k hk) (fun k hk => by simp (disch := omega) only [lm_upn]; exact hB k hk) (by simp only [lm_ups]; exact z1) z3 (by omega) (by omega) (by omega) (by rw [mod_s, show at_ + i + (j + 1) = at_ + i + j + 1 by omega, Nat.pow_succ, Nat.pow_add]; exact hs)
      exact ⟨f, by rw [e1]; simp only [lm_upu], e2⟩
    by_cases cj : j < 18
    · have cjj : ¬ 18 ≤ j := by omega
      simp (disch := omega) only [lm_g0, lm_g1, lm_g2, lm_g3, lm_g4, lm_g5, lm_g6, lm_g7, lm_g8, lm_g9, lm_g10, lm_g11, lm_g12, lm_g13, lm_g14, lm_g15, lm_g16, lm_g17, lm_g18, lm_g19, lm_g20, lm_g21, lm_g22, lm_g23, lm_g24, lm_g25, lm_g26, lm_g27, lm_g28, lm_g29, lm_g30, lm_g31, lm_g32, lm_g33, lm_p0, lm_p9, lm_p10, lm_p11, lm_p12, lm_p13, lm_p16, lm_p22, lm_p26, lm_p27, lm_p28, lm_p29, lm_p31, lm_p32, lm_a1, lm_a2, lm_a3, lm_a4, lm_a5, lm_a6, lm_a7, lm_a8, lm_a9, lm_a10, lm_a11, lm_a12, lm_a13, lm_a14, lm_a15, lm_a16, lm_a17, lm_a18, lm_a19, lm_a20, lm_s1, lm_s2, lm_s3, lm_s4, lm_s5, lm_s6, lm_s7, lm_s8, lm_s9, lm_s10, lm_s11, lm_s12, lm_s13, lm_s14, lm_s15, lm_s16, lm_s17, lm_s18, lm_s19, lm_s20, lm_vck, lm_ups, lm_upn, upd_s, upd_n, Option.bind_some, hp_nmE, hp_z1, hp_z0, bq, reduceIte, il_0, il_1, il_2, il_3, il_4, il_5, il_6, il_7, il_8, il_9, il_10, il_11, il_12, il_13, il_14, il_15, il_16, il_17, il_18, il_19, il_20, il_21, il_22, il_23, il_24, il_25, il_26, il_27, il_28, il_29, il_30, il_31, il_32, il_33, il_34, il_35, il_36, il_37, il_38, il_39, il_40, il_41, il_45, il_46, il_48, il_63, il_64, il_65, il_90, il_97, il_99, il_100, il_122, il_127, il_128, il_255, il_500, il_1000, il_1001, il_1002, il_1003, il_1004, il_2000, il_9999, nI_add, pk_mul, pk_sub, nI_leI, nI_ltI, nI_eq, hp_dI_n, hp_mI_n]
      rw [if_pos cj]
      unfold m_M_product_52 m_M_product_103
      simp (disch := omega) only [lm_g0, lm_g1, lm_g2, lm_g3, lm_g4, lm_g5, lm_g6, lm_g7, lm_g8, lm_g9, lm_g10, lm_g11, lm_g12, lm_g13, lm_g14, lm_g15, lm_g16, lm_g17, lm_g18, lm_g19, lm_g20, lm_g21, lm_g22, lm_g23, lm_g24, lm_g25, lm_g26, lm_g27, lm_g28, lm_g29, lm_g30, lm_g31, lm_g32, lm_g33, lm_p0, lm_p9, lm_p10, lm_p11, lm_p12, lm_p13, lm_p16, lm_p22, lm_p26, lm_p27, lm_p28, lm_p29, lm_p31, lm_p32, lm_a1, lm_a2, lm_a3, lm_a4, lm_a5, lm_a6, lm_a7, lm_a8, lm_a9, lm_a10, lm_a11, lm_a12, lm_a13, lm_a14, lm_a15, lm_a16, lm_a17, lm_a18, lm_a19, lm_a20, lm_s1, lm_s2, lm_s3, lm_s4, lm_s5, lm_s6, lm_s7, lm_s8, lm_s9, lm_s10, lm_s11, lm_s12, lm_s13, lm_s14, lm_s15, lm_s16, lm_s17, lm_s18, lm_s19, lm_s20, lm_vck, lm_ups, lm_upn, upd_s, upd_n, Option.bind_some, hp_nmE, hp_z1, hp_z0, bq, reduceIte, il_0, il_1, il_2, il_3, il_4, il_5, il_6, il_7, il_8, il_9, il_10, il_11, il_12, il_13, il_14, il_15, il_16, il_17, il_18, il_19, il_20, il_21, il_22, il_23, il_24, il_25, il_26, il_27, il_28, il_29, il_30, il_31, il_32, il_33, il_34, il_35, il_36, il_37, il_38, il_39, il_40, il_41, il_45, il_46, il_48, il_63, il_64, il_65, il_90, il_97, il_99, il_100, il_122, il_127, il_128, il_255, il_500, il_1000, il_1001, il_1002, il_1003, il_1004, il_2000, il_9999, nI_add, pk_mul, pk_sub, nI_leI, nI_ltI, nI_eq, hp_dI_n, hp_mI_n, hA i hi, hB j cj, hr _ (show at_ + i + j < 64 by omega)]
      rw [if_neg cjj]
      have lm : dg A i * dg B j ≤ 9 * 9 := Nat.mul_le_mul (by omega) (by omega)
      simp (disch := omega) only [lm_g0, lm_g1, lm_g2, lm_g3, lm_g4, lm_g5, lm_g6, lm_g7, lm_g8, lm_g9, lm_g10, lm_g11, lm_g12, lm_g13, lm_g14, lm_g15, lm_g16, lm_g17, lm_g18, lm_g19, lm_g20, lm_g21, lm_g22, lm_g23, lm_g24, lm_g25, lm_g26, lm_g27, lm_g28, lm_g29, lm_g30, lm_g31, lm_g32, lm_g33, lm_p0, lm_p9, lm_p10, lm_p11, lm_p12, lm_p13, lm_p16, lm_p22, lm_p26, lm_p27, lm_p28, lm_p29, lm_p31, lm_p32, lm_a1, lm_a2, lm_a3, lm_a4, lm_a5, lm_a6, lm_a7, lm_a8, lm_a9, lm_a10, lm_a11, lm_a12, lm_a13, lm_a14, lm_a15, lm_a16, lm_a17, lm_a18, lm_a19, lm_a20, lm_s1, lm_s2, lm_s3, lm_s4, lm_s5, lm_s6, lm_s7, lm_s8, lm_s9, lm_s10, lm_s11, lm_s12, lm_s13, lm_s14, lm_s15, lm_s16, lm_s17, lm_s18, lm_s19, lm_s20, lm_vck, lm_ups, lm_upn, upd_s, upd_n, Option.bind_some, hp_nmE, hp_z1, hp_z0, bq, reduceIte, il_0, il_1, il_2, il_3, il_4, il_5, il_6, il_7, il_8, il_9, il_10, il_11, il_12, il_13, il_14, il_15, il_16, il_17, il_18, il_19, il_20, il_21, il_22, il_23, il_24, il_25, il_26, il_27, il_28, il_29, il_30, il_31, il_32, il_33, il_34, il_35, il_36, il_37, il_38, il_39, il_40, il_41, il_45, il_46, il_48, il_63, il_64, il_65, il_90, il_97, il_99, il_100, il_122, il_127, il_128, il_255, il_500, il_1000, il_1001, il_1002, il_1003, il_1004, il_2000, il_9999, nI_add, pk_mul, pk_sub, nI_leI, nI_ltI, nI_eq, hp_dI_n, hp_mI_n]
      exact step _ rfl (by omega) (by omega)
    · have hm : B % 10 ^ j = B := Nat.mod_eq_of_lt (Nat.lt_of_lt_of_le lB (Nat.pow_le_pow_right (by decide) (by omega)))
      have h0 : dg B j = 0 := dg_big lB (by omega)
      rw [hm] at he
      simp (disch := omega) only [lm_g0, lm_g1, lm_g2, lm_g3, lm_g4, lm_g5, lm_g6, lm_g7, lm_g8, lm_g9, lm_g10, lm_g11, lm_g12, lm_g13, lm_g14, lm_g15, lm_g16, lm_g17, lm_g18, lm_g19, lm_g20, lm_g21, lm_g22, lm_g23, lm_g24, lm_g25, lm_g26, lm_g27, lm_g28, lm_g29, lm_g30, lm_g31, lm_g32, lm_g33, lm_p0, lm_p9, lm_p10, lm_p11, lm_p12, lm_p13, lm_p16, lm_p22, lm_p26, lm_p27, lm_p28, lm_p29, lm_p31, lm_p32, lm_a1, lm_a2, lm_a3, lm_a4, lm_a5, lm_a6, lm_a7, lm_a8, lm_a9, lm_a10, lm_a11, lm_a12, lm_a13, lm_a14, lm_a15, lm_a16, lm_a17, lm_a18, lm_a19, lm_a20, lm_s1, lm_s2, lm_s3, lm_s4, lm_s5, lm_s6, lm_s7, lm_s8, lm_s9, lm_s10, lm_s11, lm_s12, lm_s13, lm_s14, lm_s15, lm_s16, lm_s17, lm_s18, lm_s19, lm_s20, lm_vck, lm_ups, lm_upn, upd_s, upd_n, Option.bind_some, hp_nmE, hp_z1, hp_z0, bq, reduceIte, il_0, il_1, il_2, il_3, il_4, il_5, il_6, il_7, il_8, il_9, il_10, il_11, il_12, il_13, il_14, il_15, il_16, il_17, il_18, il_19, il_20, il_21, il_22, il_23, il_24, il_25, il_26, il_27, il_28, il_29, il_30, il_31, il_32, il_33, il_34, il_35, il_36, il_37, il_38, il_39, il_40, il_41, il_45, il_46, il_48, il_63, il_64, il_65, il_90, il_97, il_99, il_100, il_122, il_127, il_128, il_255, il_500, il_1000, il_1001, il_1002, il_1003, il_1004, il_2000, il_9999, nI_add, pk_mul, pk_sub, nI_leI, nI_ltI, nI_eq, hp_dI_n, hp_mI_n]
      rw [if_neg cj]
      by_cases c0 : c = 0
      · rw [if_pos (by omega)]
        rw [c0, Nat.zero_mul, Nat.add_zero] at he
        exact ⟨S.2 11, by rw [lm_upi], by rw [← he]; exact hr⟩
      · rw [if_neg (by omega)]
        have hp2 : at_ + i + j < 54 := by
          refine Nat.lt_of_not_le fun q => ?_
          have q1 : 10 ^ 54 ≤ 10 ^ (at_ + i + j) := Nat.pow_le_pow_right (by decide) q
          have q2 : 1 * 10 ^ (at_ + i + j) ≤ c * 10 ^ (at_ + i + j) := Nat.mul_le_mul_right _ (by omega)
          clear lr
          omega
        unfold m_M_product_52 m_M_product_103
        simp (disch := omega) only [lm_g0, lm_g1, lm_g2, lm_g3, lm_g4, lm_g5, lm_g6, lm_g7, lm_g8, lm_g9, lm_g10, lm_g11, lm_g12, lm_g13, lm_g14, lm_g15, lm_g16, lm_g17, lm_g18, lm_g19, lm_g20, lm_g21, lm_g22, lm_g23, lm_g24, lm_g25, lm_g26, lm_g27, lm_g28, lm_g29, lm_g30, lm_g31, lm_g32, lm_g33, lm_p0, lm_p9, lm_p10, lm_p11, lm_p12, lm_p13, lm_p16, lm_p22, lm_p26, lm_p27, lm_p28, lm_p29, lm_p31, lm_p32, lm_a1, lm_a2, lm_a3, lm_a4, lm_a5, lm_a6, lm_a7, lm_a8, lm_a9, lm_a10, lm_a11, lm_a12, lm_a13, lm_a14, lm_a15, lm_a16, lm_a17, lm_a18, lm_a19, lm_a20, lm_s1, lm_s2, lm_s3, lm_s4, lm_s5, lm_s6, lm_s7, lm_s8, lm_s9, lm_s10, lm_s11, lm_s12, lm_s13, lm_s14, lm_s15, lm_s16, lm_s17, lm_s18, lm_s19, lm_s20, lm_vck, lm_ups, lm_upn, upd_s, upd_n, Option.bind_some, hp_nmE, hp_z1, hp_z0, bq, reduceIte, il_0, il_1, il_2, il_3, il_4, il_5, il_6, il_7, il_8, il_9, il_10, il_11, il_12, il_13, il_14, il_15, il_16, il_17, il_18, il_19, il_20, il_21, il_22, il_23, il_24, il_25, il_26, il_27, il_28, il_29, il_30, il_31, il_32, il_33, il_34, il_35, il_36, il_37, il_38, il_39, il_40, il_41, il_45, il_46, il_48, il_63, il_64, il_65, il_90, il_97, il_99, il_100, il_122, il_127, il_128, il_255, il_500, il_1000, il_1001, il_1002, il_1003, il_1004, il_2000, il_9999, nI_add, pk_mul, pk_sub, nI_leI, nI_ltI, nI_eq, hp_dI_n, hp_mI_n, hr _ (show at_ + i + j < 64 by omega)]
        rw [if_pos (by omega)]
        have := step (dg r (at_ + i + j) + c) (by rw [h0, Nat.mul_zero, Nat.add_zero]) (by omega) hp2
        simp (disch := omega) only [nI_add, Nat.add_zero, hp_mI_n, hp_dI_n, Option.bind_some, lm_s11, hp_nm]
        exact this
theorem pr_lt {A B at_ : Nat} (i : Nat) (hat : at_ ≤ 18) (lA : A < 10 ^ 18) (lB : B < 10 ^ 18) : A % 10 ^ i * B * 10 ^ at_ < 10 ^ 54 := by
  have h1 : A % 10 ^ i ≤ A := Nat.mod_le _ _
  have h2 : A % 10 ^ i * B ≤ A * B := Nat.mul_le_mul_right _ h1
  have h3 : A * B < 10 ^ 18 * 10 ^ 18 := Nat.mul_lt_mul'' lA lB
  have h4 : 10 ^ at_ ≤ 10 ^ 18 := Nat.pow_le_pow_right (by decide) hat
  calc A % 10 ^ i * B * 10 ^ at_ < 10 ^ 18 * 10 ^ 18 * 10 ^ at_ := Nat.mul_lt_mul_of_pos_right (Nat.lt_of_le_of_lt h2 h3) (pw_pos _)
    _ ≤ 10 ^ 18 * 10 ^ 18 * 10 ^ 18 := Nat.mul_le_mul_left _ h4
    _ = 10 ^ 54 := by rw [← Nat.pow_add, ← Nat.pow_add]
theorem pr_next (A B at_ i : Nat) : A % 10 ^ i * B * 10 ^ at_ + dg A i * B * 10 ^ (at_ + i) = A % 10 ^ (i + 1) * B * 10 ^ at_ := by
  rw [mod_s, Nat.add_mul, Nat.add_mul, Nat.pow_add, Nat.mul_comm (10 ^ at_) (10 ^ i), ← Nat.mul_assoc, Nat.mul_assoc (dg A i) B, Nat.mul_comm B (10 ^ i), ← Nat.mul_assoc (dg A i)]
def pr9 (p t : Int) : Int := (p * t).sign * (((p.natAbs * t.natAbs + 500000000) / 10 ^ 9 : Nat) : Int)
theorem pr9_sg (p t : Int) : (pr9 p t ≠ 0 → sgI (p * t) = sgI (pr9 p t)) ∧ (pr9 p t).natAbs = (p.natAbs * t.natAbs + 500000000) / 10 ^ 9 := by
  unfold pr9
  generalize hq : (p.natAbs * t.natAbs + 500000000) / 10 ^ 9 = q
  rcases Int.lt_trichotomy (p * t) 0 with e | e | e
  · rw [Int.sign_eq_neg_one_of_neg e]
    exact ⟨fun c => sgI_cg (by omega) (by omega), by omega⟩
  · have : p.natAbs * t.natAbs = 0 := by rw [← Int.natAbs_mul, e]; rfl
    rw [this] at hq
    have : q = 0 := by rw [← hq]
    rw [e, this]
    exact ⟨fun c => absurd rfl c, rfl⟩
  · rw [Int.sign_eq_one_of_pos e]
    exact ⟨fun c => sgI_cg (by omega) (by omega), by omega⟩
theorem b54 {N : Nat} (h : N < 10 ^ 54) : N + 10 ^ 9 < 10 ^ 64 ∧ (N + 500000000) / 10 ^ 9 < 10 ^ 55 ∧ N < 10 ^ 64 := by omega
theorem rm_product_27 (G : Nat → Nat) (o : Nat) (h : hp_H) (S : lm_S) (vs : List vV) (ia ib : Nat) (x y : vV) (hA : rm_A S vs) (hx : vs[ia]? = some x) (hy : vs[ib]? = some y) : ∀ (n i : Nat) (f : Nat → Int32), i ≤ 18 → 18 - i < n → RV f (x.2.2.1.natAbs % 10 ^ i * y.2.2.1.natAbs * 10 ^ (18 - x.2.2.2.1 - y.2.2.2.1)) → RK o h S vs (m_M_product_27 G n o (nI (ia + 1)) (nI (ib + 1)) (nI (18 - x.2.2.2.1 - y.2.2.2.1)) (nI i) (lm_w o h (S.1, lm_up S.2 11 f))) (nmI (pr9 (am9 x) (am9 y)) (x.1 == 3 && y.1 == 3))
  | 0, i, f, _, hn, _ => by omega
  | n + 1, i, f, hi, hn, hr => by
    obtain ⟨⟨r1, r2, r3, r4, r5, r6, r7⟩, wx, li, -⟩ := rm_at hA hx
    obtain ⟨⟨s1, s2, s3, s4, s5, s6, s7⟩, wy, lk, -⟩ := rm_at hA hy
    have wx4 := wx.2.2.2.1
    have wy4 := wy.2.2.2.1
    have wx3 := wx.2.2.1
    have wy3 := wy.2.2.1
    have l54 := pr_lt (at_ := 18 - x.2.2.2.1 - y.2.2.2.1) i (by omega) wx3 wy3
    rw [m_M_product_27]
    by_cases e : i = 18
    · subst e
      rw [Nat.mod_eq_of_lt wx3] at hr l54
      have hN : x.2.2.1.natAbs * y.2.2.1.natAbs * 10 ^ (18 - x.2.2.2.1 - y.2.2.2.1) = (am9 x).natAbs * (am9 y).natAbs := by
        rw [am9_abs, am9_abs, show 18 - x.2.2.2.1 - y.2.2.2.1 = (9 - x.2.2.2.1) + (9 - y.2.2.2.1) by omega, Nat.pow_add]
        simp only [Nat.mul_assoc, Nat.mul_comm, Nat.mul_left_comm]
      rw [hN] at hr l54
      obtain ⟨b1, b2, b3⟩ := b54 l54
      rw [if_pos (by decide)]
      obtain ⟨g, e1, e2⟩ := rm_round G o h (S.1, lm_up S.2 11 f) 11 (by unfold RJ; omega) _ b1 (by simp only [lm_ups]; exact hr)
      simp only [lm_upu] at e1
      obtain ⟨p1, p2⟩ := pr9_sg (am9 x) (am9 y)
      clear l54 b1 b3 hN hr
      have hA' : rm_A (S.1, lm_up S.2 11 g) vs := hA.keep rfl (fun c _ h7 => by clear b2 wx3 wy3; simp (disch := omega) only [lm_upn])
      clear wx3 wy3
      simp (disch := (clear b2; omega)) only [lm_g17, Option.bind_some, e1, lm_g3, lm_a3, lm_upn, r3, s3, lm_vck, bq]
      rw [rm_areWholes G o h _ (ia + 1) (ib + 1) x.1 y.1 (by clear b2; omega) (by clear b2; omega) (by clear b2; simp (disch := omega) only [lm_upn]; exact r1) (by clear b2; simp (disch := omega) only [lm_upn]; exact s1) wx.1 wy.1]
      simp only [Option.bind_some, lm_vck]
      rw [← am9_sg x, ← am9_sg y, sgI_mul]
      refine RK.from ?_ (rm_number G o h _ vs 11 (by unfold RJ; clear b2; omega) (pr9 (am9 x) (am9 y)) _ _ (by rw [p2]; exact b2) p1 hA' (by simp only [lm_ups]; rw [p2]; exact e2))
      clear b2
      simp (disch := omega) only [fS, lm_upn, and_self]
    · rw [if_neg (show ¬ (18 : Int32) ≤ nI i from nI_ge (a := i) (b := 18) (by omega) (by decide))]
      simp only [hp_nm]
      have l54' := pr_lt (at_ := 18 - x.2.2.2.1 - y.2.2.2.1) (i + 1) (by omega) wx3 wy3
      rw [← pr_next] at l54'
      obtain ⟨g, e1, e2⟩ := rm_product_40 G o h (m_M_product_27 G n) (ia + 1) (ib + 1) (18 - x.2.2.2.1 - y.2.2.2.1) i x.2.2.1.natAbs y.2.2.1.natAbs (x.2.2.1.natAbs % 10 ^ i * y.2.2.1.natAbs * 10 ^ (18 - x.2.2.2.1 - y.2.2.2.1)) (by omega) (by omega) (by omega) (by omega) wy3 l54' hp_fu 0 0 _ (S.1, lm_up S.2 11 f) (fun k hk => by simp (disch := omega) only [lm_upn]; exact r6 k hk) (fun k hk => by simp (disch := omega) only [lm_upn]; exact s6 k hk) (by simp only [lm_ups]; exact hr) (b54 l54).2.2 (by omega) (by omega) (by unfold hp_fu; omega) (by simp [Nat.mod_one])
      simp only [lm_upu] at e1
      rw [show (0 : Int32) = nI 0 from rfl, e1]
      rw [pr_next] at e2
      exact rm_product_27 G o h S vs ia ib x y hA hx hy n (i + 1) g (by omega) (by omega) e2
theorem rm_product (G : Nat → Nat) (o : Nat) (h : hp_H) (S : lm_S) (vs : List vV) (ia ib : Nat) (x y : vV) (hA : rm_A S vs) (hx : vs[ia]? = some x) (hy : vs[ib]? = some y) : RK o h S vs (m_M_product G o (nI (ia + 1)) (nI (ib + 1)) (lm_w o h S)) (nmI (pr9 (am9 x) (am9 y)) (x.1 == 3 && y.1 == 3)) := by
  obtain ⟨⟨r1, r2, r3, r4, r5, r6, r7⟩, wx, li, -⟩ := rm_at hA hx
  obtain ⟨⟨s1, s2, s3, s4, s5, s6, s7⟩, wy, lk, -⟩ := rm_at hA hy
  have wx4 := wx.2.2.2.1
  have wy4 := wy.2.2.2.1
  unfold m_M_product
  obtain ⟨f, e1, e2⟩ := rm_clear G o h S 11 (by unfold RJ; omega)
  rw [lm_g17]
  simp only [Option.bind_some, e1]
  have hR : RV f (x.2.2.1.natAbs % 10 ^ 0 * y.2.2.1.natAbs * 10 ^ (18 - x.2.2.2.1 - y.2.2.2.1)) := by
    rw [Nat.pow_zero, Nat.mod_one, Nat.zero_mul, Nat.zero_mul]
    exact e2
  simp (disch := omega) only [lm_g4, lm_a4, lm_upn, Option.bind_some, r4, s4]
  have hs : (18 : Int32) - nI x.2.2.2.1 - nI y.2.2.2.1 = nI (18 - x.2.2.2.1 - y.2.2.2.1) := by rw [il_18, pk_sub (by omega), pk_sub (by omega)]
  rw [hs, hp_nmE, hp_nmE]
  exact rm_product_27 G o h S vs ia ib x y hA hx hy hp_fu 0 f (by decide) (by decide) hR
