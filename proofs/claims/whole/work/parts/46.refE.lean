/-! join, raise, round, number -/
theorem rm_joinP_5 (G : Nat → Nat) (o : Nat) (h : hp_H) (i j : Nat) (hi : RJ i) (hj : RJ j) (hij : j ≠ i) (a b : Nat) (lab : a + b < 10 ^ 64) : ∀ (n k c : Nat) (S : lm_S), k ≤ 64 → 64 - k < n → RV (S.2 j) b → (∀ t, t < k → S.2 i t = nI (dg (a + b) t)) → (∀ t, k ≤ t → t < 64 → S.2 i t = nI (dg a t)) → c ≤ 1 → (a + b) / 10 ^ k = a / 10 ^ k + b / 10 ^ k + c → ∃ f, m_M_join_5 G n (o + i) (o + j) (nI 1) (nI c) (nI k) (lm_w o h S) = some ((), lm_w o h (S.1, lm_up S.2 i f)) ∧ RV f (a + b)
  | 0, k, c, S, _, hn, _, _, _, _, _ => by omega
  | n + 1, k, c, S, hk, hn, hb, h1, h2, hc, he => by
    rw [m_M_join_5]
    simp (disch := omega) only [lm_g0, lm_g1, lm_g2, lm_g3, lm_g4, lm_g5, lm_g6, lm_g7, lm_g8, lm_g9, lm_g10, lm_g11, lm_g12, lm_g13, lm_g14, lm_g15, lm_g16, lm_g17, lm_g18, lm_g19, lm_g20, lm_g21, lm_g22, lm_g23, lm_g24, lm_g25, lm_g26, lm_g27, lm_g28, lm_g29, lm_g30, lm_g31, lm_g32, lm_g33, lm_p0, lm_p9, lm_p10, lm_p11, lm_p12, lm_p13, lm_p16, lm_p22, lm_p26, lm_p27, lm_p28, lm_p29, lm_p31, lm_p32, lm_a1, lm_a2, lm_a3, lm_a4, lm_a5, lm_a6, lm_a7, lm_a8, lm_a9, lm_a10, lm_a11, lm_a12, lm_a13, lm_a14, lm_a15, lm_a16, lm_a17, lm_a18, lm_a19, lm_a20, lm_s1, lm_s2, lm_s3, lm_s4, lm_s5, lm_s6, lm_s7, lm_s8, lm_s9, lm_s10, lm_s11, lm_s12, lm_s13, lm_s14, lm_s15, lm_s16, lm_s17, lm_s18, lm_s19, lm_s20, lm_vck, lm_ups, lm_upn, upd_s, upd_n, Option.bind_some, hp_nm, hp_z1, hp_z0, bq, reduceIte, il_0, il_1, il_2, il_3, il_4, il_5, il_6, il_7, il_8, il_9, il_10, il_11, il_12, il_13, il_14, il_15, il_16, il_17, il_18, il_19, il_20, il_21, il_22, il_23, il_24, il_25, il_26, il_27, il_28, il_29, il_30, il_31, il_32, il_33, il_34, il_35, il_36, il_37, il_38, il_39, il_40, il_41, il_45, il_46, il_48, il_63, il_64, il_65, il_90, il_97, il_99, il_100, il_122, il_127, il_128, il_255, il_500, il_1000, il_1001, il_1002, il_1003, il_1004, il_2000, il_9999, nI_add, pk_mul, pk_sub, nI_leI, nI_ltI, nI_eq, hp_dI_n, hp_mI_n]
    by_cases e : k = 64
    · rw [if_pos (by omega)]
      subst e
      exact ⟨S.2 i, by rw [lm_upi], h1⟩
    · rw [if_neg (by omega), lm_rJ o h S hi (by omega), lm_rJ o h S hj (by omega), h2 k (Nat.le_refl _) (by omega), hb k (by omega)]
      have d1 := dg_lt a k
      have d2 := dg_lt b k
      have p0 := dv_s a k
      have p1 := dv_s b k
      have p2 := dv_s (a + b) k
      have q0 := dg_e a k
      have q1 := dg_e b k
      have q2 := dg_e (a + b) k
      simp (disch := omega) only [Option.bind_some, nI_add, pk_mul, Nat.one_mul, nI_leI, Nat.zero_le, reduceIte]
      have go : ∀ (c' d : Nat), d = dg (a + b) k → c' ≤ 1 → (a + b) / 10 ^ (k + 1) = a / 10 ^ (k + 1) + b / 10 ^ (k + 1) + c' → ∃ f, m_M_join_5 G n (o + i) (o + j) (nI 1) (nI c') (nI (k + 1)) (lm_w o h (S.1, lm_up S.2 i (upd (S.2 i) k (nI d)))) = some ((), lm_w o h (S.1, lm_up S.2 i f)) ∧ RV f (a + b) := fun c' d hd hc' he' => by
        obtain ⟨f, e1, e2⟩ := rm_joinP_5 G o h i j hi hj hij a b lab n (k + 1) c' (S.1, lm_up S.2 i (upd (S.2 i) k (nI d))) (by omega) (by omega) (by show RV (lm_up _ _ _ j) b; rw [lm_upn _ _ hij]; exact hb) (fun t ht => by
          show lm_up S.2 i (upd (S.2 i) k (nI d)) i t = _
          rw [lm_ups]
          by_cases et : t = k
          · subst et; rw [upd_s, hd]
          · rw [upd_n _ _ et]; exact h1 t (by omega)) (fun t ht ht2 => by
          show lm_up S.2 i (upd (S.2 i) k (nI d)) i t = _
          rw [lm_ups, upd_n _ _ (by omega)]
          exact h2 t (by omega) ht2) hc' he'
        exact ⟨f, by rw [e1]; simp only [lm_upu], e2⟩
      by_cases c9 : dg a k + dg b k + c ≤ 9
      · rw [if_pos c9, m_M_join_48]
        simp (disch := omega) only [hp_nm, Option.bind_some, lm_wJ o h S _ hi, il_10, pk_mul, pk_sub, Nat.mul_zero, Nat.sub_zero, nI_1]
        exact go 0 _ (by omega) (by omega) (by omega)
      · rw [if_neg c9, m_M_join_48]
        simp (disch := omega) only [hp_nm, Option.bind_some, lm_wJ o h S _ hi, il_10, pk_mul, pk_sub, Nat.mul_one, nI_1]
        exact go 1 _ (by omega) (by omega) (by omega)
theorem rm_joinP (G : Nat → Nat) (o : Nat) (h : hp_H) (S : lm_S) (i j : Nat) (hi : RJ i) (hj : RJ j) (hij : j ≠ i) (a b : Nat) (lab : a + b < 10 ^ 64) (ha : RV (S.2 i) a) (hb : RV (S.2 j) b) : ∃ f, m_M_join G (o + i) (o + j) 1 (lm_w o h S) = some ((), lm_w o h (S.1, lm_up S.2 i f)) ∧ RV f (a + b) := by
  unfold m_M_join
  exact rm_joinP_5 G o h i j hi hj hij a b lab hp_fu 0 0 S (by omega) (by decide) hb (fun t ht => by omega) (fun t _ ht => ha t ht) (by omega) (by simp)
def bwI (c : Nat) : Int32 := if c = 0 then 0 else -1
theorem bw_ge : ∀ a, a < 10 → ∀ b, b < 10 → ∀ c, c < 2 → b + c ≤ a → (0 ≤ nI a + -1 * nI b + bwI c) ∧ (nI a + -1 * nI b + bwI c ≤ 9) ∧ nI a + -1 * nI b + bwI c - 10 * 0 = nI (a - b - c) := by decide +kernel
theorem bw_lt : ∀ a, a < 10 → ∀ b, b < 10 → ∀ c, c < 2 → a < b + c → (¬ 0 ≤ nI a + -1 * nI b + bwI c) ∧ nI a + -1 * nI b + bwI c - 10 * -1 = nI (10 + a - b - c) := by decide +kernel
theorem rm_joinM_5 (G : Nat → Nat) (o : Nat) (h : hp_H) (i j : Nat) (hi : RJ i) (hj : RJ j) (hij : j ≠ i) (a b : Nat) (la : a < 10 ^ 64) (lab : b ≤ a) : ∀ (n k c : Nat) (S : lm_S), k ≤ 64 → 64 - k < n → RV (S.2 j) b → (∀ t, t < k → S.2 i t = nI (dg (a - b) t)) → (∀ t, k ≤ t → t < 64 → S.2 i t = nI (dg a t)) → c ≤ 1 → a / 10 ^ k = (a - b) / 10 ^ k + b / 10 ^ k + c → ∃ f, m_M_join_5 G n (o + i) (o + j) (-1) (bwI c) (nI k) (lm_w o h S) = some ((), lm_w o h (S.1, lm_up S.2 i f)) ∧ RV f (a - b)
  | 0, k, c, S, _, hn, _, _, _, _, _ => by omega
  | n + 1, k, c, S, hk, hn, hb, h1, h2, hc, he => by
    rw [m_M_join_5]
    by_cases e : k = 64
    · subst e
      rw [if_pos (by decide)]
      exact ⟨S.2 i, by rw [lm_upi], h1⟩
    · rw [if_neg (show ¬ (64 : Int32) ≤ nI k from nI_ge (a := k) (b := 64) (by omega) (by decide)), lm_rJ o h S hi (by omega), lm_rJ o h S hj (by omega), h2 k (Nat.le_refl _) (by omega), hb k (by omega)]
      have d1 := dg_lt a k
      have d2 := dg_lt b k
      have p0 := dv_s a k
      have p1 := dv_s b k
      have p2 := dv_s (a - b) k
      have q0 := dg_e a k
      have q1 := dg_e b k
      have q2 := dg_e (a - b) k
      simp only [Option.bind_some, hp_nm]
      have go : ∀ (c' d : Nat), d = dg (a - b) k → c' ≤ 1 → a / 10 ^ (k + 1) = (a - b) / 10 ^ (k + 1) + b / 10 ^ (k + 1) + c' → ∃ f, m_M_join_5 G n (o + i) (o + j) (-1) (bwI c') (nI (k + 1)) (lm_w o h (S.1, lm_up S.2 i (upd (S.2 i) k (nI d)))) = some ((), lm_w o h (S.1, lm_up S.2 i f)) ∧ RV f (a - b) := fun c' d hd hc' he' => by
        obtain ⟨f, e1, e2⟩ := rm_joinM_5 G o h i j hi hj hij a b la lab n (k + 1) c' (S.1, lm_up S.2 i (upd (S.2 i) k (nI d))) (by omega) (by omega) (by show RV (lm_up _ _ _ j) b; rw [lm_upn _ _ hij]; exact hb) (fun t ht => by
          show lm_up S.2 i (upd (S.2 i) k (nI d)) i t = _
          rw [lm_ups]
          by_cases et : t = k
          · subst et; rw [upd_s, hd]
          · rw [upd_n _ _ et]; exact h1 t (by omega)) (fun t ht ht2 => by
          show lm_up S.2 i (upd (S.2 i) k (nI d)) i t = _
          rw [lm_ups, upd_n _ _ (by omega)]
          exact h2 t (by omega) ht2) hc' he'
        exact ⟨f, by rw [e1]; simp only [lm_upu], e2⟩
      by_cases c9 : dg b k + c ≤ dg a k
      · obtain ⟨z1, z2, z3⟩ := bw_ge _ d1 _ d2 c (by omega) c9
        rw [if_pos z1, if_pos z2, m_M_join_48]
        simp only [hp_nm]
        rw [z3, lm_wJ o h S _ hi (by omega)]
        simp only [Option.bind_some, nI_1]
        exact go 0 _ (by omega) (by omega) (by omega)
      · obtain ⟨z1, z3⟩ := bw_lt _ d1 _ d2 c (by omega) (by omega)
        rw [if_neg z1, m_M_join_48]
        simp only [hp_nm]
        rw [z3, lm_wJ o h S _ hi (by omega)]
        simp only [Option.bind_some, nI_1]
        exact go 1 _ (by omega) (by omega) (by omega)
theorem rm_joinM (G : Nat → Nat) (o : Nat) (h : hp_H) (S : lm_S) (i j : Nat) (hi : RJ i) (hj : RJ j) (hij : j ≠ i) (a b : Nat) (la : a < 10 ^ 64) (lab : b ≤ a) (ha : RV (S.2 i) a) (hb : RV (S.2 j) b) : ∃ f, m_M_join G (o + i) (o + j) (-1) (lm_w o h S) = some ((), lm_w o h (S.1, lm_up S.2 i f)) ∧ RV f (a - b) := by
  unfold m_M_join
  exact rm_joinM_5 G o h i j hi hj hij a b la lab hp_fu 0 0 S (by omega) (by decide) hb (fun t ht => by omega) (fun t _ ht => ha t ht) (by omega) (by simp; omega)
theorem rm_raise_2 (G : Nat → Nat) (o : Nat) (h : hp_H) (j : Nat) (hj : RJ j) (a b : Nat) (lb : b < 10 ^ 64) : ∀ (n k : Nat) (S : lm_S), k ≤ 64 → 64 - k < n → (∀ t, t < k → S.2 j t = nI (dg b t)) → (∀ t, k ≤ t → t < 64 → S.2 j t = nI (dg a t)) → b / 10 ^ k = a / 10 ^ k + 1 → ∃ f, m_M_raise_2 G n (o + j) (nI k) (lm_w o h S) = some ((), lm_w o h (S.1, lm_up S.2 j f)) ∧ RV f b
  | 0, k, S, _, hn, _, _, _ => by omega
  | n + 1, k, S, hk, hn, h1, h2, he => by
    have k6 : k < 64 := by
      by_cases e : k = 64
      · subst e
        have := Nat.div_eq_of_lt lb
        omega
      · omega
    have d1 := dg_lt a k
    have p0 := dv_s a k
    have p2 := dv_s b k
    have q0 := dg_e a k
    have q2 := dg_e b k
    rw [m_M_raise_2, lm_rJ o h S hj k6, h2 k (Nat.le_refl _) k6]
    simp (disch := omega) only [lm_g0, lm_g1, lm_g2, lm_g3, lm_g4, lm_g5, lm_g6, lm_g7, lm_g8, lm_g9, lm_g10, lm_g11, lm_g12, lm_g13, lm_g14, lm_g15, lm_g16, lm_g17, lm_g18, lm_g19, lm_g20, lm_g21, lm_g22, lm_g23, lm_g24, lm_g25, lm_g26, lm_g27, lm_g28, lm_g29, lm_g30, lm_g31, lm_g32, lm_g33, lm_p0, lm_p9, lm_p10, lm_p11, lm_p12, lm_p13, lm_p16, lm_p22, lm_p26, lm_p27, lm_p28, lm_p29, lm_p31, lm_p32, lm_a1, lm_a2, lm_a3, lm_a4, lm_a5, lm_a6, lm_a7, lm_a8, lm_a9, lm_a10, lm_a11, lm_a12, lm_a13, lm_a14, lm_a15, lm_a16, lm_a17, lm_a18, lm_a19, lm_a20, lm_s1, lm_s2, lm_s3, lm_s4, lm_s5, lm_s6, lm_s7, lm_s8, lm_s9, lm_s10, lm_s11, lm_s12, lm_s13, lm_s14, lm_s15, lm_s16, lm_s17, lm_s18, lm_s19, lm_s20, lm_vck, lm_ups, lm_upn, upd_s, upd_n, Option.bind_some, hp_nm, hp_z1, hp_z0, bq, reduceIte, il_0, il_1, il_2, il_3, il_4, il_5, il_6, il_7, il_8, il_9, il_10, il_11, il_12, il_13, il_14, il_15, il_16, il_17, il_18, il_19, il_20, il_21, il_22, il_23, il_24, il_25, il_26, il_27, il_28, il_29, il_30, il_31, il_32, il_33, il_34, il_35, il_36, il_37, il_38, il_39, il_40, il_41, il_45, il_46, il_48, il_63, il_64, il_65, il_90, il_97, il_99, il_100, il_122, il_127, il_128, il_255, il_500, il_1000, il_1001, il_1002, il_1003, il_1004, il_2000, il_9999, nI_add, pk_mul, pk_sub, nI_leI, nI_ltI, nI_eq, hp_dI_n, hp_mI_n]
    by_cases e : dg a k = 9
    · rw [if_pos e, lm_wJ o h S _ hj k6]
      simp only [Option.bind_some]
      obtain ⟨f, e1, e2⟩ := rm_raise_2 G o h j hj a b lb n (k + 1) (S.1, lm_up S.2 j (upd (S.2 j) k (nI 0))) (by omega) (by omega) (fun t ht => by
        show lm_up S.2 j (upd (S.2 j) k (nI 0)) j t = _
        rw [lm_ups]
        by_cases et : t = k
        · subst et; rw [upd_s]; exact congrArg nI (by omega)
        · rw [upd_n _ _ et]; exact h1 t (by omega)) (fun t ht ht2 => by
        show lm_up S.2 j (upd (S.2 j) k (nI 0)) j t = _
        rw [lm_ups, upd_n _ _ (by omega)]
        exact h2 t (by omega) ht2) (by omega)
      exact ⟨f, by rw [e1]; simp only [lm_upu], e2⟩
    · rw [if_neg e, lm_wJ o h S _ hj k6]
      refine ⟨_, rfl, fun t ht => ?_⟩
      by_cases et : t = k
      · subst et; rw [upd_s]; exact congrArg nI (by omega)
      · rw [upd_n _ _ et]
        by_cases lt : t < k
        · exact h1 t lt
        · rw [h2 t (by omega) ht]
          refine congrArg nI ?_
          obtain ⟨d, rfl⟩ : ∃ d, t = k + 1 + d := ⟨t - (k + 1), by omega⟩
          rw [dg_e, dg_e, Nat.pow_add, ← Nat.div_div_eq_div_mul, ← Nat.div_div_eq_div_mul, show a / 10 ^ (k + 1) = b / 10 ^ (k + 1) by omega]
theorem rm_raise (G : Nat → Nat) (o : Nat) (h : hp_H) (S : lm_S) (j : Nat) (hj : RJ j) (p a : Nat) (hp : p ≤ 64) (la : a + 10 ^ p < 10 ^ 64) (ha : RV (S.2 j) a) (hd : a % 10 ^ p = 0) : ∃ f, m_M_raise G (o + j) (nI p) (lm_w o h S) = some ((), lm_w o h (S.1, lm_up S.2 j f)) ∧ RV f (a + 10 ^ p) := by
  unfold m_M_raise
  refine rm_raise_2 G o h j hj a (a + 10 ^ p) la hp_fu p S hp (by unfold hp_fu; omega) (fun t ht => ?_) (fun t _ ht => ha t ht) (by rw [Nat.add_div_right _ (pw_pos p)])
  rw [ha t (by omega)]
  refine congrArg nI ?_
  obtain ⟨q, rfl⟩ : ∃ q, a = q * 10 ^ p := ⟨a / 10 ^ p, by have := Nat.div_add_mod a (10 ^ p); rw [Nat.mul_comm]; omega⟩
  rw [show q * 10 ^ p + 10 ^ p = (q + 1) * 10 ^ p by rw [Nat.succ_mul], dg_shift, dg_shift, if_neg (by omega), if_neg (by omega)]
theorem rm_round_16 (G : Nat → Nat) (o : Nat) (h : hp_H) (j : Nat) (hj : RJ j) (u : Nat) (hu : u ≤ 1) (a : Nat) (la : a + 10 ^ 9 < 10 ^ 64) : ∀ (n k : Nat) (S : lm_S), k ≤ 9 → 9 - k < n → (∀ t, t < k → S.2 j t = nI 0) → (∀ t, k ≤ t → t < 64 → S.2 j t = nI (dg a t)) → ∃ f, m_M_round_16 G n (o + j) (nI u) (nI k) (lm_w o h S) = some ((), lm_w o h (S.1, lm_up S.2 j f)) ∧ RV f (a / 10 ^ 9 * 10 ^ 9 + u * 10 ^ 9)
  | 0, k, S, _, hn, _, _ => by omega
  | n + 1, k, S, hk, hn, h1, h2 => by
    rw [m_M_round_16]
    simp (disch := omega) only [lm_g0, lm_g1, lm_g2, lm_g3, lm_g4, lm_g5, lm_g6, lm_g7, lm_g8, lm_g9, lm_g10, lm_g11, lm_g12, lm_g13, lm_g14, lm_g15, lm_g16, lm_g17, lm_g18, lm_g19, lm_g20, lm_g21, lm_g22, lm_g23, lm_g24, lm_g25, lm_g26, lm_g27, lm_g28, lm_g29, lm_g30, lm_g31, lm_g32, lm_g33, lm_p0, lm_p9, lm_p10, lm_p11, lm_p12, lm_p13, lm_p16, lm_p22, lm_p26, lm_p27, lm_p28, lm_p29, lm_p31, lm_p32, lm_a1, lm_a2, lm_a3, lm_a4, lm_a5, lm_a6, lm_a7, lm_a8, lm_a9, lm_a10, lm_a11, lm_a12, lm_a13, lm_a14, lm_a15, lm_a16, lm_a17, lm_a18, lm_a19, lm_a20, lm_s1, lm_s2, lm_s3, lm_s4, lm_s5, lm_s6, lm_s7, lm_s8, lm_s9, lm_s10, lm_s11, lm_s12, lm_s13, lm_s14, lm_s15, lm_s16, lm_s17, lm_s18, lm_s19, lm_s20, lm_vck, lm_ups, lm_upn, upd_s, upd_n, Option.bind_some, hp_nm, hp_z1, hp_z0, bq, reduceIte, il_0, il_1, il_2, il_3, il_4, il_5, il_6, il_7, il_8, il_9, il_10, il_11, il_12, il_13, il_14, il_15, il_16, il_17, il_18, il_19, il_20, il_21, il_22, il_23, il_24, il_25, il_26, il_27, il_28, il_29, il_30, il_31, il_32, il_33, il_34, il_35, il_36, il_37, il_38, il_39, il_40, il_41, il_45, il_46, il_48, il_63, il_64, il_65, il_90, il_97, il_99, il_100, il_122, il_127, il_128, il_255, il_500, il_1000, il_1001, il_1002, il_1003, il_1004, il_2000, il_9999, nI_add, pk_mul, pk_sub, nI_leI, nI_ltI, nI_eq, hp_dI_n, hp_mI_n]
    by_cases e : k = 9
    · subst e
      rw [if_pos (by omega)]
      have hr : RV (S.2 j) (a / 10 ^ 9 * 10 ^ 9) := fun t ht => by
        rw [dg_shift]
        by_cases c : 9 ≤ t
        · rw [h2 t c ht, if_pos c]
          refine congrArg nI ?_
          obtain ⟨d, rfl⟩ : ∃ d, t = 9 + d := ⟨t - 9, by omega⟩
          rw [dg_e, dg_e, Nat.add_sub_cancel_left, Nat.pow_add, ← Nat.div_div_eq_div_mul]
        · rw [h1 t (by omega), if_neg c]
      by_cases eu : u = 0
      · rw [if_pos eu]
        exact ⟨S.2 j, by rw [lm_upi]; rfl, by rw [eu, Nat.zero_mul, Nat.add_zero]; exact hr⟩
      · rw [if_neg eu]
        obtain ⟨f, e1, e2⟩ := rm_raise G o h S j hj 9 (a / 10 ^ 9 * 10 ^ 9) (by decide) (by omega) hr (Nat.mul_mod_left _ _)
        rw [e1]
        exact ⟨f, rfl, by rw [show u = 1 by omega, Nat.one_mul]; exact e2⟩
    · rw [if_neg (by omega), lm_wJ o h S _ hj (by omega)]
      simp only [Option.bind_some]
      obtain ⟨f, e1, e2⟩ := rm_round_16 G o h j hj u hu a la n (k + 1) (S.1, lm_up S.2 j (upd (S.2 j) k (nI 0))) (by omega) (by omega) (fun t ht => by
        show lm_up S.2 j (upd (S.2 j) k (nI 0)) j t = _
        rw [lm_ups]
        by_cases et : t = k
        · subst et; rw [upd_s]
        · rw [upd_n _ _ et]; exact h1 t (by omega)) (fun t ht ht2 => by
        show lm_up S.2 j (upd (S.2 j) k (nI 0)) j t = _
        rw [lm_ups, upd_n _ _ (by omega)]
        exact h2 t (by omega) ht2)
      exact ⟨f, by rw [e1]; simp only [lm_upu], e2⟩
theorem rm_round (G : Nat → Nat) (o : Nat) (h : hp_H) (S : lm_S) (j : Nat) (hj : RJ j) (a : Nat) (la : a + 10 ^ 9 < 10 ^ 64) (ha : RV (S.2 j) a) : ∃ f, m_M_round G (o + j) (lm_w o h S) = some ((), lm_w o h (S.1, lm_up S.2 j f)) ∧ RV f ((a + 500000000) / 10 ^ 9 * 10 ^ 9) := by
  unfold m_M_round
  have d1 := dg_lt a 8
  have q0 := dg_e a 8
  rw [show (8 : Int32) = nI 8 from rfl, lm_rJ o h S hj (by decide), ha 8 (by decide)]
  simp (disch := omega) only [lm_g0, lm_g1, lm_g2, lm_g3, lm_g4, lm_g5, lm_g6, lm_g7, lm_g8, lm_g9, lm_g10, lm_g11, lm_g12, lm_g13, lm_g14, lm_g15, lm_g16, lm_g17, lm_g18, lm_g19, lm_g20, lm_g21, lm_g22, lm_g23, lm_g24, lm_g25, lm_g26, lm_g27, lm_g28, lm_g29, lm_g30, lm_g31, lm_g32, lm_g33, lm_p0, lm_p9, lm_p10, lm_p11, lm_p12, lm_p13, lm_p16, lm_p22, lm_p26, lm_p27, lm_p28, lm_p29, lm_p31, lm_p32, lm_a1, lm_a2, lm_a3, lm_a4, lm_a5, lm_a6, lm_a7, lm_a8, lm_a9, lm_a10, lm_a11, lm_a12, lm_a13, lm_a14, lm_a15, lm_a16, lm_a17, lm_a18, lm_a19, lm_a20, lm_s1, lm_s2, lm_s3, lm_s4, lm_s5, lm_s6, lm_s7, lm_s8, lm_s9, lm_s10, lm_s11, lm_s12, lm_s13, lm_s14, lm_s15, lm_s16, lm_s17, lm_s18, lm_s19, lm_s20, lm_vck, lm_ups, lm_upn, upd_s, upd_n, Option.bind_some, hp_nm, hp_z1, hp_z0, bq, reduceIte, il_0, il_1, il_2, il_3, il_4, il_5, il_6, il_7, il_8, il_9, il_10, il_11, il_12, il_13, il_14, il_15, il_16, il_17, il_18, il_19, il_20, il_21, il_22, il_23, il_24, il_25, il_26, il_27, il_28, il_29, il_30, il_31, il_32, il_33, il_34, il_35, il_36, il_37, il_38, il_39, il_40, il_41, il_45, il_46, il_48, il_63, il_64, il_65, il_90, il_97, il_99, il_100, il_122, il_127, il_128, il_255, il_500, il_1000, il_1001, il_1002, il_1003, il_1004, il_2000, il_9999, nI_add, pk_mul, pk_sub, nI_leI, nI_ltI, nI_eq, hp_dI_n, hp_mI_n]
  by_cases e : dg a 8 < 5
  · rw [if_pos e]
    obtain ⟨f, e1, e2⟩ := rm_round_16 G o h j hj 0 (by decide) a la hp_fu 0 S (by decide) (by decide) (fun t ht => by omega) (fun t _ ht => ha t ht)
    refine ⟨f, e1, ?_⟩
    rw [show (a + 500000000) / 10 ^ 9 * 10 ^ 9 = a / 10 ^ 9 * 10 ^ 9 + 0 * 10 ^ 9 by omega]
    exact e2
  · rw [if_neg e]
    obtain ⟨f, e1, e2⟩ := rm_round_16 G o h j hj 1 (by decide) a la hp_fu 0 S (by decide) (by decide) (fun t ht => by omega) (fun t _ ht => ha t ht)
    refine ⟨f, e1, ?_⟩
    rw [show (a + 500000000) / 10 ^ 9 * 10 ^ 9 = a / 10 ^ 9 * 10 ^ 9 + 1 * 10 ^ 9 by omega]
    exact e2
