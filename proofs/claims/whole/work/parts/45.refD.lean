/-! THE REFERENCE'S ROWS OF 64 DIGITS: x, y, z and total are its arrays 11, 12, 13 and 19 -/
def RJ (j : Nat) : Prop := j = 11 ∨ j = 12 ∨ j = 13 ∨ j = 19
theorem lm_rJ (o : Nat) (h : hp_H) (S : lm_S) {j n : Nat} (hj : RJ j) (hn : n < 64) : hp_aI (lm_w o h S) .int (o + j) (nI n) = some (S.2 j n) := by
  have hl : lm_len j = 64 := by rcases hj with e | e | e | e <;> subst e <;> rfl
  exact lm_aN o h S j n (by unfold RJ at hj; omega) (by unfold RJ at hj; omega) (by omega)
theorem lm_wJ (o : Nat) (h : hp_H) (S : lm_S) {j n : Nat} (x : Int32) (hj : RJ j) (hn : n < 64) : hp_sI (lm_w o h S) .int (o + j) (nI n) x = some (lm_w o h (S.1, lm_up S.2 j (upd (S.2 j) n x))) := by
  have hl : lm_len j = 64 := by rcases hj with e | e | e | e <;> subst e <;> rfl
  exact lm_sN o h S j n x (by unfold RJ at hj; omega) (by unfold RJ at hj; omega) (by omega)
def RV (f : Nat → Int32) (n : Nat) : Prop := ∀ k, k < 64 → f k = nI (dg n k)
theorem pw_pos (k : Nat) : 0 < 10 ^ k := Nat.pow_pos (by decide)
theorem dv_s (n k : Nat) : n / 10 ^ (k + 1) = n / 10 ^ k / 10 := by rw [Nat.pow_succ, Nat.div_div_eq_div_mul]
theorem dg_e (n k : Nat) : dg n k = n / 10 ^ k % 10 := rfl
theorem rm_clear_2 (G : Nat → Nat) (o : Nat) (h : hp_H) (j : Nat) (hj : RJ j) : ∀ (n k : Nat) (S : lm_S), k ≤ 64 → 64 - k < n → (∀ i, i < k → S.2 j i = 0) → ∃ f, m_M_clear_2 G n (o + j) (nI k) (lm_w o h S) = some ((), lm_w o h (S.1, lm_up S.2 j f)) ∧ RV f 0
  | 0, k, S, _, hn, _ => by omega
  | n + 1, k, S, hk, hn, hz => by
    rw [m_M_clear_2]
    simp (disch := omega) only [lm_g0, lm_g1, lm_g2, lm_g3, lm_g4, lm_g5, lm_g6, lm_g7, lm_g8, lm_g9, lm_g10, lm_g11, lm_g12, lm_g13, lm_g14, lm_g15, lm_g16, lm_g17, lm_g18, lm_g19, lm_g20, lm_g21, lm_g22, lm_g23, lm_g24, lm_g25, lm_g26, lm_g27, lm_g28, lm_g29, lm_g30, lm_g31, lm_g32, lm_g33, lm_p0, lm_p9, lm_p10, lm_p11, lm_p12, lm_p13, lm_p16, lm_p22, lm_p26, lm_p27, lm_p28, lm_p29, lm_p31, lm_p32, lm_a1, lm_a2, lm_a3, lm_a4, lm_a5, lm_a6, lm_a7, lm_a8, lm_a9, lm_a10, lm_a11, lm_a12, lm_a13, lm_a14, lm_a15, lm_a16, lm_a17, lm_a18, lm_a19, lm_a20, lm_s1, lm_s2, lm_s3, lm_s4, lm_s5, lm_s6, lm_s7, lm_s8, lm_s9, lm_s10, lm_s11, lm_s12, lm_s13, lm_s14, lm_s15, lm_s16, lm_s17, lm_s18, lm_s19, lm_s20, lm_vck, lm_ups, lm_upn, upd_s, upd_n, Option.bind_some, hp_nm, hp_z1, hp_z0, bq, reduceIte, il_0, il_1, il_2, il_3, il_4, il_5, il_6, il_7, il_8, il_9, il_10, il_11, il_12, il_13, il_14, il_15, il_16, il_17, il_18, il_19, il_20, il_21, il_22, il_23, il_24, il_25, il_26, il_27, il_28, il_29, il_30, il_31, il_32, il_33, il_34, il_35, il_36, il_37, il_38, il_39, il_40, il_41, il_45, il_46, il_48, il_63, il_64, il_65, il_90, il_97, il_99, il_100, il_122, il_127, il_128, il_255, il_500, il_1000, il_1001, il_1002, il_1003, il_1004, il_2000, il_9999, nI_add, pk_mul, pk_sub, nI_leI, nI_ltI, nI_eq, hp_dI_n, hp_mI_n]
    by_cases e : k = 64
    · rw [if_pos (by omega)]
      exact ⟨S.2 j, by rw [lm_upi], fun i hi => by rw [hz i (by omega), dg_zero]; rfl⟩
    · rw [if_neg (by omega), lm_wJ o h S _ hj (by omega)]
      simp only [Option.bind_some]
      obtain ⟨f, e1, e2⟩ := rm_clear_2 G o h j hj n (k + 1) (S.1, lm_up S.2 j (upd (S.2 j) k 0)) (by omega) (by omega) (fun i hi => by
        show lm_up S.2 j (upd (S.2 j) k 0) j i = 0
        rw [lm_ups]
        by_cases ei : i = k
        · subst ei; exact upd_s _ _ _
        · rw [upd_n _ _ ei]; exact hz i (by omega))
      exact ⟨f, by rw [show nI 0 = (0 : Int32) from rfl, e1]; simp only [lm_upu], e2⟩
theorem rm_clear (G : Nat → Nat) (o : Nat) (h : hp_H) (S : lm_S) (j : Nat) (hj : RJ j) : ∃ f, m_M_clear G (o + j) (lm_w o h S) = some ((), lm_w o h (S.1, lm_up S.2 j f)) ∧ RV f 0 := by
  unfold m_M_clear
  exact rm_clear_2 G o h j hj hp_fu 0 S (by omega) (by decide) (fun i hi => by omega)
theorem rm_lay_6 (G : Nat → Nat) (o : Nat) (h : hp_H) (j : Nat) (hj : RJ j) (v s a : Nat) (hv : v ≤ 2000) (hs : s ≤ 18) : ∀ (n k : Nat) (S : lm_S), S.2 4 v = nI s → (∀ k, k < 18 → S.2 5 (18 * v + k) = nI (dg a k)) → k ≤ 18 → 18 - k < n → (∀ i, i < 64 → S.2 j i = nI (if 18 - s ≤ i ∧ i < 18 - s + k then dg a (i - (18 - s)) else 0)) → ∃ f, m_M_lay_6 G n o (nI v) (o + j) (nI k) (lm_w o h S) = some ((), lm_w o h (S.1, lm_up S.2 j f)) ∧ ∀ i, i < 64 → f i = nI (if 18 - s ≤ i ∧ i < 18 - s + 18 then dg a (i - (18 - s)) else 0)
  | 0, k, S, _, _, _, hn, _ => by omega
  | n + 1, k, S, h4, h5, hk, hn, hz => by
    rw [m_M_lay_6]
    simp (disch := omega) only [lm_g0, lm_g1, lm_g2, lm_g3, lm_g4, lm_g5, lm_g6, lm_g7, lm_g8, lm_g9, lm_g10, lm_g11, lm_g12, lm_g13, lm_g14, lm_g15, lm_g16, lm_g17, lm_g18, lm_g19, lm_g20, lm_g21, lm_g22, lm_g23, lm_g24, lm_g25, lm_g26, lm_g27, lm_g28, lm_g29, lm_g30, lm_g31, lm_g32, lm_g33, lm_p0, lm_p9, lm_p10, lm_p11, lm_p12, lm_p13, lm_p16, lm_p22, lm_p26, lm_p27, lm_p28, lm_p29, lm_p31, lm_p32, lm_a1, lm_a2, lm_a3, lm_a4, lm_a5, lm_a6, lm_a7, lm_a8, lm_a9, lm_a10, lm_a11, lm_a12, lm_a13, lm_a14, lm_a15, lm_a16, lm_a17, lm_a18, lm_a19, lm_a20, lm_s1, lm_s2, lm_s3, lm_s4, lm_s5, lm_s6, lm_s7, lm_s8, lm_s9, lm_s10, lm_s11, lm_s12, lm_s13, lm_s14, lm_s15, lm_s16, lm_s17, lm_s18, lm_s19, lm_s20, lm_vck, lm_ups, lm_upn, upd_s, upd_n, Option.bind_some, hp_nm, hp_z1, hp_z0, bq, reduceIte, il_0, il_1, il_2, il_3, il_4, il_5, il_6, il_7, il_8, il_9, il_10, il_11, il_12, il_13, il_14, il_15, il_16, il_17, il_18, il_19, il_20, il_21, il_22, il_23, il_24, il_25, il_26, il_27, il_28, il_29, il_30, il_31, il_32, il_33, il_34, il_35, il_36, il_37, il_38, il_39, il_40, il_41, il_45, il_46, il_48, il_63, il_64, il_65, il_90, il_97, il_99, il_100, il_122, il_127, il_128, il_255, il_500, il_1000, il_1001, il_1002, il_1003, il_1004, il_2000, il_9999, nI_add, pk_mul, pk_sub, nI_leI, nI_ltI, nI_eq, hp_dI_n, hp_mI_n, h4]
    by_cases e : k = 18
    · rw [if_pos (by omega)]
      subst e
      exact ⟨S.2 j, by rw [lm_upi], hz⟩
    · rw [if_neg (by omega), lm_wJ o h S _ hj (by omega), h5 k (by omega)]
      simp only [Option.bind_some]
      have j4 : (4 : Nat) ≠ j := by unfold RJ at hj; omega
      have j5 : (5 : Nat) ≠ j := by unfold RJ at hj; omega
      obtain ⟨f, e1, e2⟩ := rm_lay_6 G o h j hj v s a hv hs n (k + 1) (S.1, lm_up S.2 j (upd (S.2 j) (18 - s + k) (nI (dg a k)))) (by show lm_up _ _ _ 4 v = _; rw [lm_upn _ _ j4]; exact h4) (fun k hk => by show lm_up _ _ _ 5 _ = _; rw [lm_upn _ _ j5]; exact h5 k hk) (by omega) (by omega) (fun i hi => by
        show lm_up S.2 j (upd (S.2 j) (18 - s + k) (nI (dg a k))) j i = _
        rw [lm_ups]
        by_cases ei : i = 18 - s + k
        · subst ei; rw [upd_s, if_pos (by omega), show 18 - s + k - (18 - s) = k by omega]
        · rw [upd_n _ _ ei, hz i hi]
          refine congrArg nI ?_
          by_cases c : 18 - s ≤ i ∧ i < 18 - s + k
          · rw [if_pos c, if_pos (by omega)]
          · rw [if_neg c, if_neg (by omega)])
      exact ⟨f, by rw [e1]; simp only [lm_upu], e2⟩
theorem dg_shift (a p i : Nat) : dg (a * 10 ^ p) i = if p ≤ i then dg a (i - p) else 0 := by
  by_cases e : p ≤ i
  · rw [if_pos e]
    obtain ⟨d, rfl⟩ : ∃ d, i = p + d := ⟨i - p, by omega⟩
    rw [dg_e, dg_e, Nat.add_sub_cancel_left, Nat.pow_add, ← Nat.div_div_eq_div_mul, Nat.mul_div_cancel _ (pw_pos p)]
  · rw [if_neg e]
    obtain ⟨d, rfl⟩ : ∃ d, p = i + (d + 1) := ⟨p - i - 1, by omega⟩
    rw [dg_e, Nat.pow_add, Nat.mul_comm (10 ^ i), ← Nat.mul_assoc, Nat.mul_div_cancel _ (pw_pos i), Nat.pow_succ, ← Nat.mul_assoc, Nat.mul_mod_left]
theorem rm_lay (G : Nat → Nat) (o : Nat) (h : hp_H) (S : lm_S) (j : Nat) (hj : RJ j) (v s a : Nat) (hv : v ≤ 2000) (hs : s ≤ 18) (ha : a < 10 ^ 18) (h4 : S.2 4 v = nI s) (h5 : ∀ k, k < 18 → S.2 5 (18 * v + k) = nI (dg a k)) : ∃ f, m_M_lay G o (nI v) (o + j) (lm_w o h S) = some ((), lm_w o h (S.1, lm_up S.2 j f)) ∧ RV f (a * 10 ^ (18 - s)) := by
  unfold m_M_lay
  obtain ⟨f, e1, e2⟩ := rm_clear G o h S j hj
  rw [e1]
  simp only [Option.bind_some, hp_nm]
  have j4 : (4 : Nat) ≠ j := by unfold RJ at hj; omega
  have j5 : (5 : Nat) ≠ j := by unfold RJ at hj; omega
  obtain ⟨g, e3, e4⟩ := rm_lay_6 G o h j hj v s a hv hs hp_fu 0 (S.1, lm_up S.2 j f) (by show lm_up _ _ _ 4 v = _; rw [lm_upn _ _ j4]; exact h4) (fun k hk => by show lm_up _ _ _ 5 _ = _; rw [lm_upn _ _ j5]; exact h5 k hk) (by omega) (by decide) (fun i hi => by
    show lm_up S.2 j f j i = _
    rw [lm_ups, e2 i hi, dg_zero, if_neg (by omega)])
  refine ⟨g, ?_, ?_⟩
  · rw [show (0 : Int32) = nI 0 from rfl, e3]; simp only [lm_upu]
  · intro i hi
    rw [e4 i hi, dg_shift]
    refine congrArg nI ?_
    by_cases c : 18 - s ≤ i
    · by_cases c2 : i < 18 - s + 18
      · rw [if_pos ⟨c, c2⟩, if_pos c]
      · rw [if_neg (by omega), if_pos c, dg_big ha (by omega)]
    · rw [if_neg (by omega), if_neg c]
/-- what compare answers of two rows -/
def cmN (a b : Nat) : Int32 := if a < b then -1 else if a = b then 0 else 1
theorem rm_compare_3 (G : Nat → Nat) (o : Nat) (h : hp_H) (S : lm_S) (i j : Nat) (hi : RJ i) (hj : RJ j) (a b : Nat) (ha : RV (S.2 i) a) (hb : RV (S.2 j) b) : ∀ (n k : Nat), k < 64 → k + 1 < n → a / 10 ^ (k + 1) = b / 10 ^ (k + 1) → m_M_compare_3 G n (o + i) (o + j) (nI k) (lm_w o h S) = some (cmN a b, lm_w o h S)
  | 0, k, _, hn, _ => by omega
  | n + 1, k, hk, hn, hz => by
    rw [m_M_compare_3]
    rw [if_neg (nI_pos (by omega)), lm_rJ o h S hi hk, lm_rJ o h S hj hk, ha k hk, hb k hk]
    simp only [Option.bind_some, hp_nm]
    have d1 := dg_lt a k
    have d2 := dg_lt b k
    have p0 := dv_s a k
    have p1 := dv_s b k
    have q0 := dg_e a k
    have q1 := dg_e b k
    by_cases e : dg a k = dg b k
    · rw [if_pos (by rw [e])]
      cases k with
      | zero =>
        obtain ⟨n', rfl⟩ : ∃ n', n = n' + 1 := ⟨n - 1, by omega⟩
        rw [show nI 0 + -1 = (-1 : Int32) from rfl, m_M_compare_3, if_pos (by decide), m_M_compare_22, if_neg (by decide), m_M_compare_44]
        have : a = b := by
          simp only [Nat.pow_zero, Nat.div_one] at p0 p1 q0 q1
          omega
        unfold cmN
        rw [if_neg (by omega), if_pos this]
      | succ k =>
        rw [pk_m1]
        exact rm_compare_3 G o h S i j hi hj a b ha hb n k (by omega) (by omega) (by omega)
    · rw [if_neg (fun q => e ((nI_eq (by omega) (by omega)).mp q))]
      unfold m_M_compare_22
      rw [if_pos (nI_pos' (by omega)), lm_rJ o h S hi hk, lm_rJ o h S hj hk, ha k hk, hb k hk]
      simp only [Option.bind_some]
      unfold cmN
      by_cases c : dg b k < dg a k
      · rw [if_pos (nI_le (by omega) (by omega)), m_M_compare_44]
        have : b / 10 ^ k < a / 10 ^ k := by omega
        have : ¬ a ≤ b := fun q => by have := Nat.div_le_div_right (c := 10 ^ k) q; omega
        rw [if_neg (by omega), if_neg (by omega)]
      · rw [if_neg (nI_ge (by omega) (by omega)), m_M_compare_44]
        have : a / 10 ^ k < b / 10 ^ k := by omega
        have : ¬ b ≤ a := fun q => by have := Nat.div_le_div_right (c := 10 ^ k) q; omega
        rw [if_pos (by omega)]
theorem rm_compare (G : Nat → Nat) (o : Nat) (h : hp_H) (S : lm_S) (i j : Nat) (hi : RJ i) (hj : RJ j) (a b : Nat) (ha : RV (S.2 i) a) (hb : RV (S.2 j) b) (la : a < 10 ^ 64) (lb : b < 10 ^ 64) : m_M_compare G (o + i) (o + j) (lm_w o h S) = some (cmN a b, lm_w o h S) := by
  unfold m_M_compare
  exact rm_compare_3 G o h S i j hi hj a b ha hb hp_fu 63 (by decide) (by decide) (by rw [Nat.div_eq_of_lt la, Nat.div_eq_of_lt lb])
theorem rm_isZero_2 (G : Nat → Nat) (o : Nat) (h : hp_H) (S : lm_S) (j : Nat) (hj : RJ j) (a : Nat) (ha : RV (S.2 j) a) (la : a < 10 ^ 64) : ∀ (n k : Nat), k ≤ 64 → 64 - k < n → (∀ t, t < k → dg a t = 0) → m_M_isZero_2 G n (o + j) (nI k) (lm_w o h S) = some (if a = 0 then 1 else 0, lm_w o h S)
  | 0, k, _, hn, _ => by omega
  | n + 1, k, hk, hn, hz => by
    rw [m_M_isZero_2]
    simp (disch := omega) only [lm_g0, lm_g1, lm_g2, lm_g3, lm_g4, lm_g5, lm_g6, lm_g7, lm_g8, lm_g9, lm_g10, lm_g11, lm_g12, lm_g13, lm_g14, lm_g15, lm_g16, lm_g17, lm_g18, lm_g19, lm_g20, lm_g21, lm_g22, lm_g23, lm_g24, lm_g25, lm_g26, lm_g27, lm_g28, lm_g29, lm_g30, lm_g31, lm_g32, lm_g33, lm_p0, lm_p9, lm_p10, lm_p11, lm_p12, lm_p13, lm_p16, lm_p22, lm_p26, lm_p27, lm_p28, lm_p29, lm_p31, lm_p32, lm_a1, lm_a2, lm_a3, lm_a4, lm_a5, lm_a6, lm_a7, lm_a8, lm_a9, lm_a10, lm_a11, lm_a12, lm_a13, lm_a14, lm_a15, lm_a16, lm_a17, lm_a18, lm_a19, lm_a20, lm_s1, lm_s2, lm_s3, lm_s4, lm_s5, lm_s6, lm_s7, lm_s8, lm_s9, lm_s10, lm_s11, lm_s12, lm_s13, lm_s14, lm_s15, lm_s16, lm_s17, lm_s18, lm_s19, lm_s20, lm_vck, lm_ups, lm_upn, upd_s, upd_n, Option.bind_some, hp_nm, hp_z1, hp_z0, bq, reduceIte, il_0, il_1, il_2, il_3, il_4, il_5, il_6, il_7, il_8, il_9, il_10, il_11, il_12, il_13, il_14, il_15, il_16, il_17, il_18, il_19, il_20, il_21, il_22, il_23, il_24, il_25, il_26, il_27, il_28, il_29, il_30, il_31, il_32, il_33, il_34, il_35, il_36, il_37, il_38, il_39, il_40, il_41, il_45, il_46, il_48, il_63, il_64, il_65, il_90, il_97, il_99, il_100, il_122, il_127, il_128, il_255, il_500, il_1000, il_1001, il_1002, il_1003, il_1004, il_2000, il_9999, nI_add, pk_mul, pk_sub, nI_leI, nI_ltI, nI_eq, hp_dI_n, hp_mI_n]
    by_cases e : k = 64
    · subst e
      have : a = 0 := dg_ext la (by exact pw_pos 64) (fun t ht => by rw [hz t ht, dg_zero])
      rw [if_pos (by omega), if_pos this]
      unfold m_M_isZero_20 m_M_isZero_31
      simp (disch := omega) only [lm_g0, lm_g1, lm_g2, lm_g3, lm_g4, lm_g5, lm_g6, lm_g7, lm_g8, lm_g9, lm_g10, lm_g11, lm_g12, lm_g13, lm_g14, lm_g15, lm_g16, lm_g17, lm_g18, lm_g19, lm_g20, lm_g21, lm_g22, lm_g23, lm_g24, lm_g25, lm_g26, lm_g27, lm_g28, lm_g29, lm_g30, lm_g31, lm_g32, lm_g33, lm_p0, lm_p9, lm_p10, lm_p11, lm_p12, lm_p13, lm_p16, lm_p22, lm_p26, lm_p27, lm_p28, lm_p29, lm_p31, lm_p32, lm_a1, lm_a2, lm_a3, lm_a4, lm_a5, lm_a6, lm_a7, lm_a8, lm_a9, lm_a10, lm_a11, lm_a12, lm_a13, lm_a14, lm_a15, lm_a16, lm_a17, lm_a18, lm_a19, lm_a20, lm_s1, lm_s2, lm_s3, lm_s4, lm_s5, lm_s6, lm_s7, lm_s8, lm_s9, lm_s10, lm_s11, lm_s12, lm_s13, lm_s14, lm_s15, lm_s16, lm_s17, lm_s18, lm_s19, lm_s20, lm_vck, lm_ups, lm_upn, upd_s, upd_n, Option.bind_some, hp_nm, hp_z1, hp_z0, bq, reduceIte, il_0, il_1, il_2, il_3, il_4, il_5, il_6, il_7, il_8, il_9, il_10, il_11, il_12, il_13, il_14, il_15, il_16, il_17, il_18, il_19, il_20, il_21, il_22, il_23, il_24, il_25, il_26, il_27, il_28, il_29, il_30, il_31, il_32, il_33, il_34, il_35, il_36, il_37, il_38, il_39, il_40, il_41, il_45, il_46, il_48, il_63, il_64, il_65, il_90, il_97, il_99, il_100, il_122, il_127, il_128, il_255, il_500, il_1000, il_1001, il_1002, il_1003, il_1004, il_2000, il_9999, nI_add, pk_mul, pk_sub, nI_leI, nI_ltI, nI_eq, hp_dI_n, hp_mI_n]
    · rw [if_neg (by omega), lm_rJ o h S hj (by omega), ha k (by omega)]
      simp only [Option.bind_some]
      have d1 := dg_lt a k
      by_cases c : dg a k = 0
      · rw [if_pos (by rw [c])]
        exact rm_isZero_2 G o h S j hj a ha la n (k + 1) (by omega) (by omega) (fun t ht => by
          by_cases et : t = k
          · subst et; exact c
          · exact hz t (by omega))
      · rw [if_neg (fun q => c ((nI_eq (by omega) (by omega)).mp q)), if_neg (fun q => c (by rw [q, dg_zero]))]
        unfold m_M_isZero_20 m_M_isZero_31
        simp (disch := omega) only [lm_g0, lm_g1, lm_g2, lm_g3, lm_g4, lm_g5, lm_g6, lm_g7, lm_g8, lm_g9, lm_g10, lm_g11, lm_g12, lm_g13, lm_g14, lm_g15, lm_g16, lm_g17, lm_g18, lm_g19, lm_g20, lm_g21, lm_g22, lm_g23, lm_g24, lm_g25, lm_g26, lm_g27, lm_g28, lm_g29, lm_g30, lm_g31, lm_g32, lm_g33, lm_p0, lm_p9, lm_p10, lm_p11, lm_p12, lm_p13, lm_p16, lm_p22, lm_p26, lm_p27, lm_p28, lm_p29, lm_p31, lm_p32, lm_a1, lm_a2, lm_a3, lm_a4, lm_a5, lm_a6, lm_a7, lm_a8, lm_a9, lm_a10, lm_a11, lm_a12, lm_a13, lm_a14, lm_a15, lm_a16, lm_a17, lm_a18, lm_a19, lm_a20, lm_s1, lm_s2, lm_s3, lm_s4, lm_s5, lm_s6, lm_s7, lm_s8, lm_s9, lm_s10, lm_s11, lm_s12, lm_s13, lm_s14, lm_s15, lm_s16, lm_s17, lm_s18, lm_s19, lm_s20, lm_vck, lm_ups, lm_upn, upd_s, upd_n, Option.bind_some, hp_nm, hp_z1, hp_z0, bq, reduceIte, il_0, il_1, il_2, il_3, il_4, il_5, il_6, il_7, il_8, il_9, il_10, il_11, il_12, il_13, il_14, il_15, il_16, il_17, il_18, il_19, il_20, il_21, il_22, il_23, il_24, il_25, il_26, il_27, il_28, il_29, il_30, il_31, il_32, il_33, il_34, il_35, il_36, il_37, il_38, il_39, il_40, il_41, il_45, il_46, il_48, il_63, il_64, il_65, il_90, il_97, il_99, il_100, il_122, il_127, il_128, il_255, il_500, il_1000, il_1001, il_1002, il_1003, il_1004, il_2000, il_9999, nI_add, pk_mul, pk_sub, nI_leI, nI_ltI, nI_eq, hp_dI_n, hp_mI_n]
        rw [if_neg e]
theorem rm_isZero (G : Nat → Nat) (o : Nat) (h : hp_H) (S : lm_S) (j : Nat) (hj : RJ j) (a : Nat) (ha : RV (S.2 j) a) (la : a < 10 ^ 64) : m_M_isZero G (o + j) (lm_w o h S) = some (if a = 0 then 1 else 0, lm_w o h S) := by
  unfold m_M_isZero
  exact rm_isZero_2 G o h S j hj a ha la hp_fu 0 (by decide) (by decide) (fun t ht => by omega)
