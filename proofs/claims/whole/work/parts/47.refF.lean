/-! number: 't' is the amount in units of 10^-9 -/
def rd : Nat → Nat → Nat × Nat
  | 0, q => (q, 0)
  | d + 1, q => if q % 10 = 0 then rd d (q / 10) else (q, d + 1)
theorem rd_s (d q : Nat) : rd (d + 1) q = if q % 10 = 0 then rd d (q / 10) else (q, d + 1) := by rw [rd]
def bI (w : Bool) : Int32 := if w then 1 else 0
theorem bI_0 (w : Bool) : bI w = nI 0 ↔ w = false := by cases w <;> decide
def nmI (t : Int) (w : Bool) : Option vV := if 10 ^ 18 ≤ (rd 9 t.natAbs).1 then none else some (if w then 3 else 4, 0, t.sign * ((rd 9 t.natAbs).1 : Int), (rd 9 t.natAbs).2, [])
theorem rd_le : ∀ (d q : Nat), (rd d q).2 ≤ d
  | 0, q => Nat.le_refl _
  | d + 1, q => by
    rw [rd]
    by_cases e : q % 10 = 0
    · rw [if_pos e]; have := rd_le d (q / 10); omega
    · rw [if_neg e]; exact Nat.le_refl _
theorem rd_v : ∀ (d q : Nat), q = (rd d q).1 * 10 ^ (d - (rd d q).2)
  | 0, q => by simp [rd]
  | d + 1, q => by
    rw [rd]
    by_cases e : q % 10 = 0
    · rw [if_pos e]
      have h1 := rd_v d (q / 10)
      have h2 := rd_le d (q / 10)
      rw [show d + 1 - (rd d (q / 10)).2 = d - (rd d (q / 10)).2 + 1 by omega, Nat.pow_succ, ← Nat.mul_assoc, ← h1]
      omega
    · rw [if_neg e]; simp
theorem rd_m : ∀ (d q : Nat), (rd d q).2 = 0 ∨ (rd d q).1 % 10 ≠ 0
  | 0, q => Or.inl rfl
  | d + 1, q => by
    rw [rd]
    by_cases e : q % 10 = 0
    · rw [if_pos e]; exact rd_m d (q / 10)
    · rw [if_neg e]; exact Or.inr e
theorem rd_0 (d q : Nat) : (rd d q).1 = 0 ↔ q = 0 := by
  have h := rd_v d q
  constructor
  · intro e; rw [e, Nat.zero_mul] at h; exact h
  · intro e
    rw [e] at h
    rw [e]
    have := pw_pos (d - (rd d 0).2)
    rcases Nat.mul_eq_zero.mp h.symm with q | q <;> omega
theorem sg_mul (t : Int) (u : Nat) (h : u = 0 ↔ t = 0) : sgI (t.sign * (u : Int)) = sgI t ∧ (t.sign * (u : Int)).natAbs = u := by
  rcases Int.lt_trichotomy t 0 with e | e | e
  · rw [Int.sign_eq_neg_one_of_neg e]
    unfold sgI
    refine ⟨?_, by omega⟩
    rw [if_pos e, if_pos (by omega)]
  · subst e
    rw [h.mpr rfl]
    exact ⟨rfl, rfl⟩
  · rw [Int.sign_eq_one_of_pos e]
    unfold sgI
    refine ⟨?_, by omega⟩
    rw [if_neg (by omega), if_neg (by omega), if_neg (by omega), if_neg (by omega)]
theorem rm_number_116 (G : Nat → Nat) (o : Nat) (h : hp_H) (S : lm_S) (vs : List vV) (x : vV) (j : Nat) (hj : RJ j) (u sc : Nat) (hsc : sc ≤ 9) (hA : rm_A S vs) (hx : vW x) (hr : RV (S.2 j) (u * 10 ^ (18 - sc))) (hC : ∀ f : Nat → Int32, (∀ i, i < 18 → f i = nI (dg u i)) → rm_C (S.1, lm_up S.2 9 f) x) : ∀ (n k : Nat) (f : Nat → Int32), k ≤ 18 → 18 - k < n → (∀ i, i < k → f i = nI (dg u i)) → ∃ S', m_M_number_116 G n o (o + j) (nI (18 - sc)) (nI k) (lm_w o h (S.1, lm_up S.2 9 f)) = some ((kp vs x).1, lm_w o h S') ∧ rm_A S' (kp vs x).2 ∧ fS S S'
  | 0, k, f, _, hn, _ => by omega
  | n + 1, k, f, hk, hn, hz => by
    have j9 : j ≠ 9 := by unfold RJ at hj; omega
    rw [m_M_number_116]
    by_cases e : k = 18
    · subst e
      simp (disch := omega) only [lm_g0, lm_g1, lm_g2, lm_g3, lm_g4, lm_g5, lm_g6, lm_g7, lm_g8, lm_g9, lm_g10, lm_g11, lm_g12, lm_g13, lm_g14, lm_g15, lm_g16, lm_g17, lm_g18, lm_g19, lm_g20, lm_g21, lm_g22, lm_g23, lm_g24, lm_g25, lm_g26, lm_g27, lm_g28, lm_g29, lm_g30, lm_g31, lm_g32, lm_g33, lm_p0, lm_p9, lm_p10, lm_p11, lm_p12, lm_p13, lm_p16, lm_p22, lm_p26, lm_p27, lm_p28, lm_p29, lm_p31, lm_p32, lm_a1, lm_a2, lm_a3, lm_a4, lm_a5, lm_a6, lm_a7, lm_a8, lm_a9, lm_a10, lm_a11, lm_a12, lm_a13, lm_a14, lm_a15, lm_a16, lm_a17, lm_a18, lm_a19, lm_a20, lm_s1, lm_s2, lm_s3, lm_s4, lm_s5, lm_s6, lm_s7, lm_s8, lm_s9, lm_s10, lm_s11, lm_s12, lm_s13, lm_s14, lm_s15, lm_s16, lm_s17, lm_s18, lm_s19, lm_s20, lm_vck, lm_ups, lm_upn, upd_s, upd_n, Option.bind_some, hp_nm, hp_z1, hp_z0, bq, reduceIte, il_0, il_1, il_2, il_3, il_4, il_5, il_6, il_7, il_8, il_9, il_10, il_11, il_12, il_13, il_14, il_15, il_16, il_17, il_18, il_19, il_20, il_21, il_22, il_23, il_24, il_25, il_26, il_27, il_28, il_29, il_30, il_31, il_32, il_33, il_34, il_35, il_36, il_37, il_38, il_39, il_40, il_41, il_45, il_46, il_48, il_63, il_64, il_65, il_90, il_97, il_99, il_100, il_122, il_127, il_128, il_255, il_500, il_1000, il_1001, il_1002, il_1003, il_1004, il_2000, il_9999, nI_add, pk_mul, pk_sub, nI_leI, nI_ltI, nI_eq, hp_dI_n, hp_mI_n, Nat.le_refl]
      have hA' : rm_A (S.1, lm_up S.2 9 f) vs := hA.keep rfl (fun i _ h7 => lm_upn _ _ (by omega))
      obtain ⟨S', e1, e2, e3⟩ := rm_keep G o h _ vs x hA' (hC f hz) (by have := hx.2.2.2.2.1; omega) (fun _ => hx)
      refine ⟨S', e1, e2, fS.tr ?_ e3⟩
      simp (disch := omega) only [fS, lm_upn, and_self]
    · simp (disch := omega) only [lm_g0, lm_g1, lm_g2, lm_g3, lm_g4, lm_g5, lm_g6, lm_g7, lm_g8, lm_g9, lm_g10, lm_g11, lm_g12, lm_g13, lm_g14, lm_g15, lm_g16, lm_g17, lm_g18, lm_g19, lm_g20, lm_g21, lm_g22, lm_g23, lm_g24, lm_g25, lm_g26, lm_g27, lm_g28, lm_g29, lm_g30, lm_g31, lm_g32, lm_g33, lm_p0, lm_p9, lm_p10, lm_p11, lm_p12, lm_p13, lm_p16, lm_p22, lm_p26, lm_p27, lm_p28, lm_p29, lm_p31, lm_p32, lm_a1, lm_a2, lm_a3, lm_a4, lm_a5, lm_a6, lm_a7, lm_a8, lm_a9, lm_a10, lm_a11, lm_a12, lm_a13, lm_a14, lm_a15, lm_a16, lm_a17, lm_a18, lm_a19, lm_a20, lm_s1, lm_s2, lm_s3, lm_s4, lm_s5, lm_s6, lm_s7, lm_s8, lm_s9, lm_s10, lm_s11, lm_s12, lm_s13, lm_s14, lm_s15, lm_s16, lm_s17, lm_s18, lm_s19, lm_s20, lm_vck, lm_ups, lm_upn, upd_s, upd_n, Option.bind_some, hp_nm, hp_z1, hp_z0, bq, reduceIte, il_0, il_1, il_2, il_3, il_4, il_5, il_6, il_7, il_8, il_9, il_10, il_11, il_12, il_13, il_14, il_15, il_16, il_17, il_18, il_19, il_20, il_21, il_22, il_23, il_24, il_25, il_26, il_27, il_28, il_29, il_30, il_31, il_32, il_33, il_34, il_35, il_36, il_37, il_38, il_39, il_40, il_41, il_45, il_46, il_48, il_63, il_64, il_65, il_90, il_97, il_99, il_100, il_122, il_127, il_128, il_255, il_500, il_1000, il_1001, il_1002, il_1003, il_1004, il_2000, il_9999, nI_add, pk_mul, pk_sub, nI_leI, nI_ltI, nI_eq, hp_dI_n, hp_mI_n]
      rw [if_neg (by omega), lm_rJ o h _ hj (by omega)]
      simp (disch := omega) only [lm_g0, lm_g1, lm_g2, lm_g3, lm_g4, lm_g5, lm_g6, lm_g7, lm_g8, lm_g9, lm_g10, lm_g11, lm_g12, lm_g13, lm_g14, lm_g15, lm_g16, lm_g17, lm_g18, lm_g19, lm_g20, lm_g21, lm_g22, lm_g23, lm_g24, lm_g25, lm_g26, lm_g27, lm_g28, lm_g29, lm_g30, lm_g31, lm_g32, lm_g33, lm_p0, lm_p9, lm_p10, lm_p11, lm_p12, lm_p13, lm_p16, lm_p22, lm_p26, lm_p27, lm_p28, lm_p29, lm_p31, lm_p32, lm_a1, lm_a2, lm_a3, lm_a4, lm_a5, lm_a6, lm_a7, lm_a8, lm_a9, lm_a10, lm_a11, lm_a12, lm_a13, lm_a14, lm_a15, lm_a16, lm_a17, lm_a18, lm_a19, lm_a20, lm_s1, lm_s2, lm_s3, lm_s4, lm_s5, lm_s6, lm_s7, lm_s8, lm_s9, lm_s10, lm_s11, lm_s12, lm_s13, lm_s14, lm_s15, lm_s16, lm_s17, lm_s18, lm_s19, lm_s20, lm_vck, lm_ups, lm_upn, upd_s, upd_n, Option.bind_some, hp_nm, hp_z1, hp_z0, bq, reduceIte]
      rw [hr _ (by omega), dg_shift, if_pos (by omega), show 18 - sc + k - (18 - sc) = k by omega, lm_upu]
      exact rm_number_116 G o h S vs x j hj u sc hsc hA hx hr hC n (k + 1) (upd f k (nI (dg u k))) (by omega) (by omega) (fun i hi => by
        by_cases ei : i = k
        · subst ei; rw [upd_s]
        · rw [upd_n _ _ ei]; exact hz i (by omega))
theorem rm_number_84 (G : Nat → Nat) (o : Nat) (h : hp_H) (S : lm_S) (vs : List vV) (j : Nat) (hj : RJ j) (t : Int) (u sc : Nat) (kd : Nat) (hkd : kd ≤ 8) (s : Int32) (hsc : sc ≤ 9) (hu : u < 10 ^ 18) (hu0 : u = 0 ↔ t = 0) (hs : t ≠ 0 → s = sgI t) (hA : rm_A S vs) (hr : RV (S.2 j) (u * 10 ^ (18 - sc))) : ∃ S', m_M_number_84 G o (o + j) s (nI (18 - sc)) (nI kd) o (lm_w o h S) = some ((kp vs (kd, 0, t.sign * (u : Int), sc, [])).1, lm_w o h S') ∧ rm_A S' (kp vs (kd, 0, t.sign * (u : Int), sc, [])).2 ∧ fS S S' := by
  have j9 : j ≠ 9 := by unfold RJ at hj; omega
  obtain ⟨m1, m2⟩ := sg_mul t u hu0
  have lr : u * 10 ^ (18 - sc) < 10 ^ 64 := by
    have : 10 ^ (18 - sc) ≤ 10 ^ 18 := Nat.pow_le_pow_right (by decide) (by omega)
    have : u * 10 ^ (18 - sc) ≤ 10 ^ 18 * 10 ^ 18 := Nat.mul_le_mul (by omega) this
    omega
  unfold m_M_number_84
  obtain ⟨S1, e1, e2, e3⟩ := rm_start G o h S kd 0
  obtain ⟨c1, c2, c3, c4, c5, c6, c7⟩ := e2
  have r1 : RV (S1.2 j) (u * 10 ^ (18 - sc)) := by rw [e3.2 j (by simp; exact j9)]; exact hr
  rw [lm_vck, show (0 : Int32) = nI 0 from rfl, e1]
  simp only [Option.bind_some]
  rw [rm_isZero G o h S1 j hj _ r1 lr]
  simp only [Option.bind_some]
  have hz : (if (if u * 10 ^ (18 - sc) = 0 then (1 : Int32) else 0) = nI 0 then m_M_number_101 G o (o + j) (nI (18 - sc)) s o (lm_w o h S1) else m_M_number_101 G o (o + j) (nI (18 - sc)) (nI 0) o (lm_w o h S1)) = m_M_number_101 G o (o + j) (nI (18 - sc)) (sgI t) o (lm_w o h S1) := by
    by_cases e0 : u = 0
    · rw [if_pos (show u * 10 ^ (18 - sc) = 0 by rw [e0, Nat.zero_mul]), if_neg (by decide), hu0.mp e0]; rfl
    · have : 0 < u * 10 ^ (18 - sc) := Nat.mul_pos (by omega) (pw_pos _)
      rw [if_neg (show ¬ u * 10 ^ (18 - sc) = 0 by omega), if_pos (show (0 : Int32) = nI 0 from rfl), hs (fun q => e0 (hu0.mpr q))]
  rw [hz]
  unfold m_M_number_101
  simp (disch := omega) only [lm_g0, lm_g1, lm_g2, lm_g3, lm_g4, lm_g5, lm_g6, lm_g7, lm_g8, lm_g9, lm_g10, lm_g11, lm_g12, lm_g13, lm_g14, lm_g15, lm_g16, lm_g17, lm_g18, lm_g19, lm_g20, lm_g21, lm_g22, lm_g23, lm_g24, lm_g25, lm_g26, lm_g27, lm_g28, lm_g29, lm_g30, lm_g31, lm_g32, lm_g33, lm_p0, lm_p9, lm_p10, lm_p11, lm_p12, lm_p13, lm_p16, lm_p22, lm_p26, lm_p27, lm_p28, lm_p29, lm_p31, lm_p32, lm_a1, lm_a2, lm_a3, lm_a4, lm_a5, lm_a6, lm_a7, lm_a8, lm_a9, lm_a10, lm_a11, lm_a12, lm_a13, lm_a14, lm_a15, lm_a16, lm_a17, lm_a18, lm_a19, lm_a20, lm_s1, lm_s2, lm_s3, lm_s4, lm_s5, lm_s6, lm_s7, lm_s8, lm_s9, lm_s10, lm_s11, lm_s12, lm_s13, lm_s14, lm_s15, lm_s16, lm_s17, lm_s18, lm_s19, lm_s20, lm_vck, lm_ups, lm_upn, upd_s, upd_n, Option.bind_some, hp_nm, hp_z1, hp_z0, bq, reduceIte, il_0, il_1, il_2, il_3, il_4, il_5, il_6, il_7, il_8, il_9, il_10, il_11, il_12, il_13, il_14, il_15, il_16, il_17, il_18, il_19, il_20, il_21, il_22, il_23, il_24, il_25, il_26, il_27, il_28, il_29, il_30, il_31, il_32, il_33, il_34, il_35, il_36, il_37, il_38, il_39, il_40, il_41, il_45, il_46, il_48, il_63, il_64, il_65, il_90, il_97, il_99, il_100, il_122, il_127, il_128, il_255, il_500, il_1000, il_1001, il_1002, il_1003, il_1004, il_2000, il_9999, nI_add, pk_mul, pk_sub, nI_leI, nI_ltI, nI_eq, hp_dI_n, hp_mI_n]
  rw [show 18 - (18 - sc) = sc by omega]
  have hA1 : rm_A (upd (upd S1.1 12 (sgI t)) 13 (nI sc), S1.2) vs := hA.keep (e3.1 0 (by simp)) (fun i h1 h7 => e3.2 i (by simp; omega))
  obtain ⟨S', q1, q2, q3⟩ := rm_number_116 G o h (upd (upd S1.1 12 (sgI t)) 13 (nI sc), S1.2) vs (kd, 0, t.sign * (u : Int), sc, []) j hj u sc hsc hA1 ⟨hkd, by simp, by rw [m2]; exact hu, hsc, by simp, by simp⟩ r1 (fun f hf => ⟨by simp (disch := omega) only [upd_n]; exact c1, by simp (disch := omega) only [upd_n]; exact c2, by simp (disch := omega) only [upd_n, upd_s]; exact m1.symm, by simp only [upd_s], by simp (disch := omega) only [upd_n]; exact c5, fun k hk => by simp only [lm_ups, m2]; exact hf k hk, fun k hk => absurd hk (Nat.not_lt_zero k)⟩) hp_fu 0 (S1.2 9) (by decide) (by decide) (fun i hi => by omega)
  rw [lm_upi] at q1
  refine ⟨S', q1, q2, fS.tr ?_ q3⟩
  refine ⟨⟨?_, ?_, ?_, ?_, ?_, ?_⟩, ?_, ?_, ?_, ?_, ?_, ?_⟩
  · simp (disch := omega) only [upd_n]; exact e3.1 9 (by simp)
  · simp (disch := omega) only [upd_n]; exact e3.1 22 (by simp)
  · simp (disch := omega) only [upd_n]; exact e3.1 26 (by simp)
  · simp (disch := omega) only [upd_n]; exact e3.1 27 (by simp)
  · simp (disch := omega) only [upd_n]; exact e3.1 28 (by simp)
  · simp (disch := omega) only [upd_n]; exact e3.1 29 (by simp)
  · exact e3.2 8 (by simp)
  · exact e3.2 14 (by simp)
  · exact e3.2 15 (by simp)
  · exact e3.2 16 (by simp)
  · exact e3.2 17 (by simp)
  · exact e3.2 18 (by simp)
theorem rm_number_34_1 (G : Nat → Nat) (o : Nat) (h : hp_H) (S : lm_S) (a1 : Nat) (s a3 a4 : Int32) : ∀ (n k : Nat), k ≤ 64 → 64 - k < n → m_M_number_34 G n o a1 s a3 a4 (nI 1) (nI k) (lm_w o h S) = some (-4, lm_w o h S)
  | 0, k, _, hn => by omega
  | n + 1, k, hk, hn => by
    rw [m_M_number_34]
    by_cases e : k = 64
    · subst e
      rw [if_pos (by decide), if_neg (by decide)]
    · rw [if_neg (show ¬ (64 : Int32) ≤ nI k from nI_ge (a := k) (b := 64) (by omega) (by decide)), if_neg (by decide), m_M_number_53, m_M_number_58]
      simp only [hp_nm, nI_1]
      exact rm_number_34_1 G o h S a1 s a3 a4 n (k + 1) (by omega) (by omega)
theorem rm_number_34 (G : Nat → Nat) (o : Nat) (h : hp_H) (S : lm_S) (j : Nat) (hj : RJ j) (s : Int32) (w : Bool) (u sc : Nat) (hsc : sc ≤ 9) (lu : u * 10 ^ (18 - sc) < 10 ^ 64) (hr : RV (S.2 j) (u * 10 ^ (18 - sc))) : ∀ (n k : Nat), 18 - sc + 18 ≤ k → k ≤ 64 → 64 - k < n → (∀ i, 18 ≤ i → i < k - (18 - sc) → dg u i = 0) → m_M_number_34 G n o (o + j) s (bI w) (nI (18 - sc)) (nI 0) (nI k) (lm_w o h S) = if 10 ^ 18 ≤ u then some (-4, lm_w o h S) else m_M_number_84 G o (o + j) s (nI (18 - sc)) (nI (if w then 3 else 4)) o (lm_w o h S)
  | 0, k, _, _, hn, _ => by omega
  | n + 1, k, hl, hk, hn, hz => by
    rw [m_M_number_34]
    by_cases e : k = 64
    · subst e
      rw [if_pos (by decide), if_pos (show nI 0 = 0 from rfl)]
      have : u < 10 ^ 18 := by
        have e1 : u / 10 ^ 18 < 10 ^ (28 + sc) := by
          have : u < 10 ^ (46 + sc) := by
            refine Nat.lt_of_mul_lt_mul_right (a := 10 ^ (18 - sc)) ?_
            rw [← Nat.pow_add, show 46 + sc + (18 - sc) = 64 by omega]
            exact lu
          rw [Nat.div_lt_iff_lt_mul (pw_pos 18), ← Nat.pow_add, show 28 + sc + 18 = 46 + sc by omega]
          exact this
        have e2 : u / 10 ^ 18 = 0 := dg_ext e1 (pw_pos _) (fun i hi => by
          rw [dg_zero, dg_e, Nat.div_div_eq_div_mul, ← Nat.pow_add]
          exact hz (18 + i) (by omega) (by omega))
        exact (Nat.div_eq_zero_iff_lt (pw_pos 18)).mp e2
      rw [if_neg (show ¬ 10 ^ 18 ≤ u by omega)]
      cases w with
      | false => rw [if_pos (by decide)]; rfl
      | true => rw [if_neg (by decide)]; rfl
    · rw [if_neg (show ¬ (64 : Int32) ≤ nI k from nI_ge (a := k) (b := 64) (by omega) (by decide)), if_pos (by decide), lm_rJ o h S hj (by omega), hr k (by omega), dg_shift, if_pos (by omega)]
      simp only [Option.bind_some]
      have d1 := dg_lt u (k - (18 - sc))
      by_cases c : dg u (k - (18 - sc)) = 0
      · rw [if_pos (by rw [c]; rfl), m_M_number_58]
        simp only [hp_nm, nI_1]
        exact rm_number_34 G o h S j hj s w u sc hsc lu hr n (k + 1) (by omega) (by omega) (by omega) (fun i h1 h2 => by
          by_cases ei : i = k - (18 - sc)
          · subst ei; exact c
          · exact hz i h1 (by omega))
      · rw [if_neg (nI_ne0 (by omega) (by omega)), m_M_number_53, m_M_number_58]
        simp only [hp_nm, nI_1]
        rw [show (1 : Int32) = nI 1 from rfl, rm_number_34_1 G o h S _ _ _ _ n (k + 1) (by omega) (by omega), if_pos]
        refine Nat.le_of_not_lt fun q => c (dg_big q (by omega))
theorem rm_number_4 (G : Nat → Nat) (o : Nat) (h : hp_H) (S : lm_S) (j : Nat) (hj : RJ j) (s a3 : Int32) (N q : Nat) (hr : RV (S.2 j) N) : ∀ (n d p : Nat), d ≤ 9 → d < n → N = p * 10 ^ (18 - d) → rd 9 q = rd d p → m_M_number_4 G n o (o + j) s a3 (nI (18 - d)) (lm_w o h S) = m_M_number_24 G o (o + j) s a3 (nI (18 - (rd 9 q).2)) (lm_w o h S)
  | 0, d, p, _, hn, _, _ => by omega
  | n + 1, d, p, hd, hn, hN, he => by
    rw [m_M_number_4, he]
    cases d with
    | zero => rw [if_pos (by decide)]; rfl
    | succ d =>
      rw [if_neg (show ¬ (18 : Int32) ≤ nI (18 - (d + 1)) from nI_ge (a := 18 - (d + 1)) (b := 18) (by omega) (by decide)), lm_rJ o h S hj (by omega), hr _ (by omega), hN, dg_shift, if_pos (Nat.le_refl _), Nat.sub_self, dg_0]
      simp only [Option.bind_some, hp_nm, nI_1]
      rw [rd_s] at he ⊢
      by_cases c : p % 10 = 0
      · rw [if_pos (by rw [c]; rfl), if_pos c, ← (he.trans (if_pos c)), show 18 - (d + 1) + 1 = 18 - d by omega]
        refine rm_number_4 G o h S j hj s a3 N q hr n d (p / 10) (by omega) (by omega) ?_ (he.trans (if_pos c))
        rw [hN, show 18 - d = 18 - (d + 1) + 1 by omega, Nat.pow_succ, Nat.mul_comm (10 ^ (18 - (d + 1))) 10, ← Nat.mul_assoc, show p / 10 * 10 = p by omega]
      · rw [if_neg (nI_ne0 (by omega) (by omega)), if_neg c]
/-- what a method that makes a value does: it keeps 'ox' or answers ERROR, and leaves what is not on the way as it was -/
def RK (o : Nat) (h : hp_H) (S : lm_S) (vs : List vV) (m : Option (Int32 × hp_H)) (ox : Option vV) : Prop := ∃ S', m = some ((kq vs ox).1, lm_w o h S') ∧ rm_A S' (kq vs ox).2 ∧ fS S S'
theorem rm_number (G : Nat → Nat) (o : Nat) (h : hp_H) (S : lm_S) (vs : List vV) (j : Nat) (hj : RJ j) (t : Int) (s : Int32) (w : Bool) (ht : t.natAbs < 10 ^ 55) (hs : t ≠ 0 → s = sgI t) (hA : rm_A S vs) (hr : RV (S.2 j) (t.natAbs * 10 ^ 9)) : RK o h S vs (m_M_number G o (o + j) s (bI w) (lm_w o h S)) (nmI t w) := by
  have e9 := rd_le 9 t.natAbs
  have ev := rd_v 9 t.natAbs
  have hN : t.natAbs * 10 ^ 9 = (rd 9 t.natAbs).1 * 10 ^ (18 - (rd 9 t.natAbs).2) := by
    rw [show 18 - (rd 9 t.natAbs).2 = 9 - (rd 9 t.natAbs).2 + 9 by omega, Nat.pow_add, ← Nat.mul_assoc, ← ev]
  have h0 : (rd 9 t.natAbs).1 = 0 ↔ t = 0 := (rd_0 9 t.natAbs).trans (by omega)
  have lN : t.natAbs * 10 ^ 9 < 10 ^ 64 := by omega
  unfold m_M_number
  simp only [hp_nm]
  rw [show (9 : Int32) = nI (18 - 9) from rfl, rm_number_4 G o h S j hj s (bI w) _ t.natAbs hr hp_fu 9 t.natAbs (by decide) (by decide) rfl rfl]
  unfold nmI
  generalize rd 9 t.natAbs = r at *
  unfold m_M_number_24
  simp only [hp_nm]
  rw [show (0 : Int32) = nI 0 from rfl, show (18 : Int32) = nI 18 from rfl, nI_add]
  rw [hN] at lN hr
  rw [rm_number_34 G o h S j hj s w r.1 r.2 e9 lN hr hp_fu (18 - r.2 + 18) (Nat.le_refl _) (by omega) (by unfold hp_fu; omega) (fun i h1 h2 => by omega)]
  by_cases c : 10 ^ 18 ≤ r.1
  · rw [if_pos c, if_pos c]
    exact ⟨S, rfl, hA, fS.rf⟩
  · rw [if_neg c, if_neg c]
    exact rm_number_84 G o h S vs j hj t r.1 r.2 (if w then 3 else 4) (by cases w <;> decide) s e9 (by omega) h0 hs hA hr
