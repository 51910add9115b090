/-! quotient -/
theorem rm_quo_153 (G : Nat → Nat) (o : Nat) (h : hp_H) (r82 : Nat → Int32 → Int32 → Int32 → Int32 → hp_H → Option (Int32 × hp_H)) (a1 a2 a3 a4 : Int32) (p B : Nat) (hp : p < 64) (hB : 0 < B) (lB : B < 10 ^ 18) (h4 : (18 : Int32) + a3 + a4 = nI p) : ∀ (n m X : Nat) (S : lm_S), X < 10 ^ 19 → RV (S.2 11) X → RV (S.2 12) B → m + X / B ≤ 9 → X / B + 1 ≤ n → ∃ f, m_M_quotient_153 G r82 n o a1 a2 a3 a4 (nI m) (lm_w o h S) = r82 o a1 a2 a3 (a4 + -1) (lm_w o h (S.1, lm_up (lm_up S.2 11 f) 13 (upd (S.2 13) p (nI (m + X / B))))) ∧ RV f (X % B)
  | 0, m, X, S, _, _, _, _, hn => absurd hn (Nat.not_succ_le_zero _)
  | n + 1, m, X, S, lX, hX, hb, hm, hn => by
    rw [m_M_quotient_153]
    have c1 : X < 10 ^ 64 := by omega
    have c2 : B < 10 ^ 64 := by omega
    simp only [lm_g17, lm_g18, Option.bind_some, rm_compare G o h S 11 12 (by unfold RJ; omega) (by unfold RJ; omega) X B hX hb c1 c2]
    by_cases c : X < B
    · rw [if_pos ((cmN_lt _ _).mpr c), h4, Nat.mod_eq_of_lt c, Nat.div_eq_of_lt c]
      simp only [lm_g19, Option.bind_some, lm_s13 o h S p _ hp, hp_nmE, Nat.add_zero]
      exact ⟨S.2 11, by rw [lm_upi], hX⟩
    · rw [if_neg (fun q => c ((cmN_lt _ _).mp q))]
      obtain ⟨f, e1, e2⟩ := rm_joinM G o h S 11 12 (by unfold RJ; omega) (by unfold RJ; omega) (by omega) X B c1 (by omega) hX hb
      have d1 : X / B = (X - B) / B + 1 := by rw [Nat.div_eq_sub_div hB (by omega)]
      have d2 : (X - B) % B = X % B := by rw [← Nat.mod_eq_sub_mod (by omega)]
      simp only [lm_g17, lm_g18, Option.bind_some, e1, hp_nmE, nI_1]
      obtain ⟨g, e3, e4⟩ := rm_quo_153 G o h r82 a1 a2 a3 a4 p B hp hB lB h4 n (m + 1) (X - B) (S.1, lm_up S.2 11 f) (by omega) (by simp only [lm_ups]; exact e2) (by simp (disch := omega) only [lm_upn]; exact hb) (by omega) (by omega)
      refine ⟨g, ?_, by rw [← d2]; exact e4⟩
      rw [e3, d1, show m + 1 + (X - B) / B = m + ((X - B) / B + 1) by omega]
      simp (disch := omega) only [lm_upu, lm_upn]
theorem rm_quo_96 (G : Nat → Nat) (o : Nat) (h : hp_H) (r82 : Nat → Int32 → Int32 → Int32 → Int32 → hp_H → Option (Int32 × hp_H)) (ia : Nat) (a2 a3 a4 : Int32) (p A B R D : Nat) (hia : ia ≤ 2000) (hp : p < 64) (hB : 0 < B) (lB : B < 10 ^ 18) (h4 : (18 : Int32) + a3 + a4 = nI p) (hR : R < B) (hd : D < 10) (hD : a4 < 0 ∧ D = 0 ∨ ¬ a4 < 0 ∧ ∃ k, k < 18 ∧ (18 : Int32) * nI ia + a4 = nI (18 * ia + k) ∧ D = dg A k) : ∀ (n i : Nat) (S : lm_S), i < 64 → i < n → (∀ k, k < 18 → S.2 5 (18 * ia + k) = nI (dg A k)) → RV (S.2 12) B → (∀ t, t ≤ i → S.2 11 t = nI (dg R t)) → (∀ t, i ≤ t → t + 1 < 64 → S.2 11 (t + 1) = nI (dg R t)) → ∃ f, m_M_quotient_96 G r82 n o (nI ia) a2 a3 a4 (nI i) (lm_w o h S) = r82 o (nI ia) a2 a3 (a4 + -1) (lm_w o h (S.1, lm_up (lm_up S.2 11 f) 13 (upd (S.2 13) p (nI ((10 * R + D) / B))))) ∧ RV f ((10 * R + D) % B)
  | 0, i, S, _, hn, _, _, _, _ => by omega
  | n + 1, i, S, hi, hn, h5, hb, h1, h2 => by
    rw [m_M_quotient_96]
    cases i with
    | zero =>
      rw [if_pos (by decide)]
      have fin : ∀ S1 : lm_S, S1 = (S.1, lm_up S.2 11 (upd (S.2 11) 0 (nI D))) → ∃ f, m_M_quotient_153 G r82 hp_fu o (nI ia) a2 a3 a4 (nI 0) (lm_w o h S1) = r82 o (nI ia) a2 a3 (a4 + -1) (lm_w o h (S.1, lm_up (lm_up S.2 11 f) 13 (upd (S.2 13) p (nI ((10 * R + D) / B))))) ∧ RV f ((10 * R + D) % B) := fun S1 hS1 => by
        have q9 : (10 * R + D) / B ≤ 9 := by
          have : 10 * R + D < 10 * B := by omega
          have := Nat.div_lt_of_lt_mul (m := 10 * R + D) (n := B) (k := 10) (by omega)
          omega
        obtain ⟨f, e1, e2⟩ := rm_quo_153 G o h r82 (nI ia) a2 a3 a4 p B hp hB lB h4 hp_fu 0 (10 * R + D) S1 (by omega) (fun t ht => by
          rw [hS1]
          simp only [lm_ups]
          cases t with
          | zero => rw [upd_s]; exact congrArg nI (by rw [dg_0]; omega)
          | succ t => rw [upd_n _ _ (by omega), h2 t (by omega) (by omega), dg_s, show (10 * R + D) / 10 = R by omega]) (by rw [hS1]; simp (disch := omega) only [lm_upn]; exact hb) (by omega) (by unfold hp_fu; omega)
        refine ⟨f, ?_, e2⟩
        rw [e1, hS1, Nat.zero_add]
        simp (disch := omega) only [lm_upu, lm_upn]
      simp only [lm_g17, Option.bind_some]
      rcases hD with ⟨q1, q2⟩ | ⟨q1, k, q2, q3, q4⟩
      · rw [if_pos q1, m_M_quotient_149, show (0 : Int32) = nI 0 from rfl, lm_s11 o h S 0 _ (by omega)]
        simp only [Option.bind_some, hp_nmE]
        exact fin _ (by rw [q2])
      · rw [if_neg q1, q3]
        simp only [lm_g5, Option.bind_some, lm_a5 o h S _ (show 18 * ia + k < 36018 by omega), h5 k q2]
        rw [m_M_quotient_149, show (0 : Int32) = nI 0 from rfl, lm_s11 o h S 0 _ (by omega)]
        simp only [Option.bind_some, hp_nmE]
        exact fin _ (by rw [q4])
    | succ i =>
      rw [if_neg (nI_nle (by omega) (by omega))]
      simp only [lm_g17, Option.bind_some, show (1 : Int32) = nI 1 from rfl, pk_sub (show 1 ≤ i + 1 by omega), Nat.add_sub_cancel]
      rw [lm_a11 o h S i (by omega)]
      simp only [Option.bind_some, lm_s11 o h S (i + 1) _ hi, hp_nmE]
      rw [show nI (i + 1) + -nI 1 = nI i from pk_m1 i, h1 i (by omega)]
      obtain ⟨f, e1, e2⟩ := rm_quo_96 G o h r82 ia a2 a3 a4 p A B R D hia hp hB lB h4 hR hd hD n i (S.1, lm_up S.2 11 (upd (S.2 11) (i + 1) (nI (dg R i)))) (by omega) (by omega) (fun k hk => by simp (disch := omega) only [lm_upn]; exact h5 k hk) (by simp (disch := omega) only [lm_upn]; exact hb) (fun t ht => by simp (disch := omega) only [lm_ups, upd_n]; exact h1 t (by omega)) (fun t ht ht2 => by
        simp only [lm_ups]
        by_cases et : t = i
        · subst et; rw [upd_s]
        · rw [upd_n _ _ (by omega)]; exact h2 t (by omega) ht2)
      refine ⟨f, ?_, e2⟩
      rw [e1]
      simp (disch := omega) only [lm_upu, lm_upn]
      rfl
def qt9 (x y : vV) : Int := (x.2.2.1 * y.2.2.1).sign * (((x.2.2.1.natAbs * 10 ^ (10 + y.2.2.2.1 - x.2.2.2.1) / y.2.2.1.natAbs + 5) / 10 : Nat) : Int)
theorem qt9_sg (x y : vV) : (qt9 x y ≠ 0 → sgI (x.2.2.1 * y.2.2.1) = sgI (qt9 x y)) ∧ (qt9 x y).natAbs = (x.2.2.1.natAbs * 10 ^ (10 + y.2.2.2.1 - x.2.2.2.1) / y.2.2.1.natAbs + 5) / 10 := by
  unfold qt9
  generalize hq : (x.2.2.1.natAbs * 10 ^ (10 + y.2.2.2.1 - x.2.2.2.1) / y.2.2.1.natAbs + 5) / 10 = q
  rcases Int.lt_trichotomy (x.2.2.1 * y.2.2.1) 0 with e | e | e
  · rw [Int.sign_eq_neg_one_of_neg e]
    exact ⟨fun c => sgI_cg (by omega) (by omega), by omega⟩
  · have : q = 0 := by
      rw [← hq]
      rcases Int.mul_eq_zero.mp e with e0 | e0
      · rw [e0]; simp
      · rw [e0]; simp
    rw [e, this]
    exact ⟨fun c => absurd rfl c, rfl⟩
  · rw [Int.sign_eq_one_of_pos e]
    exact ⟨fun c => sgI_cg (by omega) (by omega), by omega⟩
theorem qz_lt {A e B c : Nat} (lA : A < 10 ^ 18) (he : e ≤ 19) : A * 10 ^ e / 10 ^ c / B * 10 ^ (c + 8) < 10 ^ 45 := by
  have h1 : A * 10 ^ e / 10 ^ c / B ≤ A * 10 ^ e / 10 ^ c := Nat.div_le_self _ _
  have h2 : A * 10 ^ e / 10 ^ c * 10 ^ c ≤ A * 10 ^ e := Nat.div_mul_le_self _ _
  have h3 : A * 10 ^ e / 10 ^ c / B * 10 ^ c ≤ A * 10 ^ e := Nat.le_trans (Nat.mul_le_mul_right _ h1) h2
  have h4 : A * 10 ^ e < 10 ^ 18 * 10 ^ 19 := Nat.lt_of_lt_of_le (Nat.mul_lt_mul_of_pos_right lA (pw_pos e)) (Nat.mul_le_mul_left _ (Nat.pow_le_pow_right (by decide) he))
  rw [Nat.pow_add, ← Nat.mul_assoc]
  calc _ ≤ A * 10 ^ e * 10 ^ 8 := Nat.mul_le_mul_right _ h3
    _ < 10 ^ 18 * 10 ^ 19 * 10 ^ 8 := Nat.mul_lt_mul_of_pos_right h4 (pw_pos 8)
    _ = 10 ^ 45 := by rw [← Nat.pow_add, ← Nat.pow_add]
theorem b45 {z : Nat} (h : z < 10 ^ 45) : z < 10 ^ 64 ∧ z + 10 ^ 9 < 10 ^ 64 ∧ (z + 500000000) / 10 ^ 9 < 10 ^ 55 := by omega
theorem q_end (T : Nat) : (T * 10 ^ 8 + 500000000) / 10 ^ 9 = (T + 5) / 10 := by omega
theorem q_step {N B c : Nat} (hB : 0 < B) : N / 10 ^ c / B = 10 * (N / 10 ^ (c + 1) / B) + (10 * (N / 10 ^ (c + 1) % B) + dg N c) / B ∧ N / 10 ^ c % B = (10 * (N / 10 ^ (c + 1) % B) + dg N c) % B := by
  have h1 : N / 10 ^ c = 10 * (N / 10 ^ (c + 1)) + dg N c := by
    have := dv_s N c
    have := dg_e N c
    omega
  have h2 := Nat.div_add_mod (N / 10 ^ (c + 1)) B
  generalize N / 10 ^ (c + 1) = M at *
  have h3 : 10 * M + dg N c = 10 * (M % B) + dg N c + B * (10 * (M / B)) := by
    rw [show B * (10 * (M / B)) = 10 * (B * (M / B)) by rw [← Nat.mul_assoc, Nat.mul_comm B 10, Nat.mul_assoc]]
    omega
  rw [h1, h3]
  constructor
  · rw [Nat.add_mul_div_left _ _ hB]; omega
  · rw [Nat.add_mul_mod_self_left]
theorem rm_quo_82 (G : Nat → Nat) (o : Nat) (h : hp_H) (vs : List vV) (ia ib : Nat) (x y : vV) (e : Nat) (he : e = 10 + y.2.2.2.1 - x.2.2.2.1) (hx : vs[ia]? = some x) (hy : vs[ib]? = some y) (hB : 0 < y.2.2.1.natAbs) : ∀ (n c : Nat) (S : lm_S), c ≤ 18 + e → c < n → rm_A S vs → RV (S.2 11) (x.2.2.1.natAbs * 10 ^ e / 10 ^ c % y.2.2.1.natAbs) → RV (S.2 12) y.2.2.1.natAbs → RV (S.2 13) (x.2.2.1.natAbs * 10 ^ e / 10 ^ c / y.2.2.1.natAbs * 10 ^ (c + 8)) → RK o h S vs (m_M_quotient_82 G n o (nI (ia + 1)) (nI (ib + 1)) (iI ((y.2.2.2.1 : Int) - x.2.2.2.1)) (iI ((c : Int) - 1 - e)) (lm_w o h S)) (nmI (qt9 x y) false)
  | 0, c, S, _, hn, _, _, _, _ => by omega
  | n + 1, c, S, hc, hn, hA, r11, r12, r13 => by
    obtain ⟨⟨r1, r2, r3, r4, r5, r6, r7⟩, wx, li, -⟩ := rm_at hA hx
    obtain ⟨⟨s1, s2, s3, s4, s5, s6, s7⟩, wy, lk, -⟩ := rm_at hA hy
    have wx4 := wx.2.2.2.1
    have wy4 := wy.2.2.2.1
    have lA := wx.2.2.1
    have lB := wy.2.2.1
    have lz := qz_lt (A := x.2.2.1.natAbs) (e := e) (B := y.2.2.1.natAbs) (c := c) lA (by omega)
    obtain ⟨b1, b2, b3⟩ := b45 lz
    rw [m_M_quotient_82]
    have cond : (iI ((c : Int) - 1 - e) < -iI ((y.2.2.2.1 : Int) - x.2.2.2.1) - 10) ↔ c = 0 := by
      rw [show (10 : Int32) = iI 10 from rfl, iI_neg, iI_sub, iI_lt (by omega) (by omega) (by omega) (by omega)]
      omega
    cases c with
    | zero =>
      rw [if_pos (cond.mpr rfl)]
      obtain ⟨f, e1, e2⟩ := rm_round G o h S 13 (by unfold RJ; omega) _ b2 r13
      rw [Nat.pow_zero, Nat.div_one, Nat.zero_add, q_end] at e2
      rw [Nat.pow_zero, Nat.div_one, Nat.zero_add, q_end] at b3
      rw [he] at e2 b3
      obtain ⟨p1, p2⟩ := qt9_sg x y
      rw [← p2] at e2 b3
      clear lz b1 b2 r13 r11 lA lB
      have hA' : rm_A (S.1, lm_up S.2 13 f) vs := hA.keep rfl (fun c _ h7 => by clear b3; simp (disch := omega) only [lm_upn])
      simp (disch := (clear b3; omega)) only [lm_g19, lm_g3, lm_a3, e1, Option.bind_some, lm_upn, r3, s3, lm_vck, bq, sgI_mul]
      refine RK.from ?_ (rm_number G o h _ vs 13 (by unfold RJ; clear b3; omega) (qt9 x y) _ false b3 p1 hA' (by simp only [lm_ups]; exact e2))
      clear b3
      simp (disch := omega) only [fS, lm_upn, and_self]
    | succ c =>
      rw [if_neg (fun q => by have := cond.mp q; omega)]
      simp only [hp_nmE]
      have dd := dg_lt (x.2.2.1.natAbs * 10 ^ e) c
      obtain ⟨z1, z2⟩ := q_step (N := x.2.2.1.natAbs * 10 ^ e) (B := y.2.2.1.natAbs) (c := c) hB
      have hRB : x.2.2.1.natAbs * 10 ^ e / 10 ^ (c + 1) % y.2.2.1.natAbs < y.2.2.1.natAbs := Nat.mod_lt _ hB
      obtain ⟨f, e1, e2⟩ := rm_quo_96 G o h (m_M_quotient_82 G n) (ia + 1) (nI (ib + 1)) (iI ((y.2.2.2.1 : Int) - x.2.2.2.1)) (iI (((c + 1 : Nat) : Int) - 1 - e)) (8 + c) x.2.2.1.natAbs y.2.2.1.natAbs (x.2.2.1.natAbs * 10 ^ e / 10 ^ (c + 1) % y.2.2.1.natAbs) (dg (x.2.2.1.natAbs * 10 ^ e) c) (by omega) (by omega) hB lB (by
        rw [show (18 : Int32) = iI 18 from rfl, iI_add, iI_add]
        exact iI_nat (by omega)) hRB dd (by
        rw [dg_shift]
        by_cases ce : e ≤ c
        · refine Or.inr ⟨?_, c - e, by omega, ?_, by rw [if_pos ce]⟩
          · rw [show (0 : Int32) = iI 0 from rfl, iI_lt (by omega) (by omega) (by omega) (by omega)]; omega
          · rw [show (18 : Int32) = iI 18 from rfl, nI_iI, iI_mul, iI_add]
            exact iI_nat (by omega)
        · refine Or.inl ⟨?_, by rw [if_neg ce]⟩
          rw [show (0 : Int32) = iI 0 from rfl, iI_lt (by omega) (by omega) (by omega) (by omega)]; omega) hp_fu 63 S (by decide) (by decide) r6 r12 (fun t ht => r11 t (by omega)) (fun t h1 h2 => by omega)
      rw [show (63 : Int32) = nI 63 from rfl, e1, show iI (((c + 1 : Nat) : Int) - 1 - e) + -1 = iI ((c : Int) - 1 - e) by
        rw [show (-1 : Int32) = iI (-1) from rfl, iI_add]; exact congrArg iI (by omega)]
      have q9 : (10 * (x.2.2.1.natAbs * 10 ^ e / 10 ^ (c + 1) % y.2.2.1.natAbs) + dg (x.2.2.1.natAbs * 10 ^ e) c) / y.2.2.1.natAbs < 10 := by
        refine Nat.div_lt_of_lt_mul ?_
        clear lz b1 b2 b3 lA lB z1 z2
        generalize x.2.2.1.natAbs * 10 ^ e / 10 ^ (c + 1) % y.2.2.1.natAbs = R at *
        omega
      obtain ⟨w, w1, w2, w3⟩ := RV_upd r13 b1 (show 8 + c < 64 by omega) q9
      have w4 : w = x.2.2.1.natAbs * 10 ^ e / 10 ^ c / y.2.2.1.natAbs * 10 ^ (c + 8) := by
        rw [dg_shift, if_neg (by omega), Nat.zero_mul, Nat.add_zero] at w2
        rw [w2, z1, Nat.add_mul, show 10 ^ (c + 1 + 8) = 10 * 10 ^ (c + 8) by rw [show c + 1 + 8 = c + 8 + 1 by omega, Nat.pow_succ, Nat.mul_comm], show 8 + c = c + 8 by omega]
        rw [← Nat.mul_assoc, Nat.mul_comm _ 10]
      rw [w4] at w1
      rw [← z2] at e2
      have hA' : rm_A (S.1, lm_up (lm_up S.2 11 f) 13 (upd (S.2 13) (8 + c) (nI ((10 * (x.2.2.1.natAbs * 10 ^ e / 10 ^ (c + 1) % y.2.2.1.natAbs) + dg (x.2.2.1.natAbs * 10 ^ e) c) / y.2.2.1.natAbs)))) vs := hA.keep rfl (fun c _ h7 => by
        clear lz b1 b2 b3 lA lB z1 z2
        simp (disch := omega) only [lm_upn])
      refine RK.from ?_ (rm_quo_82 G o h vs ia ib x y e he hx hy hB n c _ (by omega) (by omega) hA' (by simp (disch := omega) only [lm_upn, lm_ups]; exact e2) (by simp (disch := omega) only [lm_upn]; exact r12) (by simp only [lm_ups]; exact w1))
      clear lz b1 b2 b3 lA lB z1 z2
      simp (disch := omega) only [fS, lm_upn, and_self]
theorem rm_quo_28 (G : Nat → Nat) (o : Nat) (h : hp_H) (S : lm_S) (vs : List vV) (ia ib : Nat) (x y : vV) (hA : rm_A S vs) (hx : vs[ia]? = some x) (hy : vs[ib]? = some y) (hB : 0 < y.2.2.1.natAbs) (z : Nat → Int32) (hz : RV z 0) : ∀ (n k : Nat) (g : Nat → Int32), k ≤ 18 → 18 - k < n → (∀ t, t < 64 → g t = nI (if t < k then dg y.2.2.1.natAbs t else 0)) → RK o h S vs (m_M_quotient_28 G n o (nI (ia + 1)) (nI (ib + 1)) (nI k) (lm_w o h (S.1, lm_up (lm_up S.2 13 z) 12 g))) (nmI (qt9 x y) false)
  | 0, k, g, _, hn, _ => by omega
  | n + 1, k, g, hk, hn, hg => by
    obtain ⟨⟨r1, r2, r3, r4, r5, r6, r7⟩, wx, li, -⟩ := rm_at hA hx
    obtain ⟨⟨s1, s2, s3, s4, s5, s6, s7⟩, wy, lk, -⟩ := rm_at hA hy
    have wx4 := wx.2.2.2.1
    have wy4 := wy.2.2.2.1
    rw [m_M_quotient_28]
    by_cases e : k = 18
    · subst e
      rw [if_pos (by decide)]
      simp (disch := omega) only [lm_g4, lm_a4, lm_upn, Option.bind_some, r4, s4, hp_nmE, lm_g17]
      obtain ⟨f, e1, e2⟩ := rm_clear G o h (S.1, lm_up (lm_up S.2 13 z) 12 g) 11 (by unfold RJ; omega)
      simp only [e1, Option.bind_some]
      have hA' : rm_A (S.1, lm_up (lm_up (lm_up S.2 13 z) 12 g) 11 f) vs := hA.keep rfl (fun c _ h7 => by simp (disch := omega) only [lm_upn])
      have lA := wx.2.2.1
      have lB := wy.2.2.1
      have z0 : x.2.2.1.natAbs * 10 ^ (10 + y.2.2.2.1 - x.2.2.2.1) / 10 ^ (18 + (10 + y.2.2.2.1 - x.2.2.2.1)) = 0 := by
        refine Nat.div_eq_of_lt ?_
        rw [Nat.pow_add]
        exact Nat.mul_lt_mul_of_pos_right lA (pw_pos _)
      have key := rm_quo_82 G o h vs ia ib x y (10 + y.2.2.2.1 - x.2.2.2.1) rfl hx hy hB hp_fu (18 + (10 + y.2.2.2.1 - x.2.2.2.1)) _ (Nat.le_refl _) (by unfold hp_fu; clear lA lB z0; omega) hA' (by rw [z0, Nat.zero_mod]; simp only [lm_ups]; exact e2) (fun t ht => by
        clear z0
        simp (disch := omega) only [lm_upn, lm_ups]
        rw [hg t ht]
        refine congrArg nI ?_
        by_cases c : t < 18
        · rw [if_pos c]
        · rw [if_neg c, dg_big lB (by omega)]) (by rw [z0, Nat.zero_div, Nat.zero_mul]; clear z0 lA lB; simp (disch := omega) only [lm_upn, lm_ups]; exact hz)
      clear z0 lA lB
      rw [show iI (((18 + (10 + y.2.2.2.1 - x.2.2.2.1) : Nat) : Int) - 1 - ((10 + y.2.2.2.1 - x.2.2.2.1 : Nat) : Int)) = 17 from by rw [show (17 : Int32) = iI 17 from rfl]; exact congrArg iI (by omega)] at key
      rw [show nI y.2.2.2.1 - nI x.2.2.2.1 = iI ((y.2.2.2.1 : Int) - x.2.2.2.1) by rw [nI_iI, nI_iI, iI_sub]]
      refine RK.from ?_ key
      simp (disch := omega) only [fS, lm_upn, and_self]
    · rw [if_neg (show ¬ (18 : Int32) ≤ nI k from nI_ge (a := k) (b := 18) (by omega) (by decide))]
      simp (disch := omega) only [lm_g18, lm_g5, Option.bind_some, nI_18, lm_a5, lm_s12, lm_upn, lm_ups, lm_upu, s6 k (by omega), hp_nmE, nI_1]
      exact rm_quo_28 G o h S vs ia ib x y hA hx hy hB z hz n (k + 1) (upd g k (nI (dg y.2.2.1.natAbs k))) (by omega) (by omega) (fun t ht => by
        by_cases et : t = k
        · subst et; rw [upd_s, if_pos (by omega)]
        · rw [upd_n _ _ et, hg t ht]
          refine congrArg nI ?_
          by_cases c : t < k
          · rw [if_pos c, if_pos (by omega)]
          · rw [if_neg c, if_neg (by omega)])
theorem rm_quotient (G : Nat → Nat) (o : Nat) (h : hp_H) (S : lm_S) (vs : List vV) (ia ib : Nat) (x y : vV) (hA : rm_A S vs) (hx : vs[ia]? = some x) (hy : vs[ib]? = some y) : RK o h S vs (m_M_quotient G o (nI (ia + 1)) (nI (ib + 1)) (lm_w o h S)) (if y.2.2.1 = 0 then none else nmI (qt9 x y) false) := by
  obtain ⟨⟨r1, r2, r3, r4, r5, r6, r7⟩, wx, li, -⟩ := rm_at hA hx
  obtain ⟨⟨s1, s2, s3, s4, s5, s6, s7⟩, wy, lk, -⟩ := rm_at hA hy
  unfold m_M_quotient
  simp (disch := omega) only [lm_g3, lm_a3, Option.bind_some, s3]
  by_cases c : y.2.2.1 = 0
  · rw [if_pos ((sgI_0 _).mpr c), if_pos c]
    exact ⟨S, rfl, hA, fS.rf⟩
  · rw [if_neg (fun q => c ((sgI_0 _).mp q)), if_neg c]
    obtain ⟨g, e1, e2⟩ := rm_clear G o h S 12 (by unfold RJ; omega)
    obtain ⟨z, e3, e4⟩ := rm_clear G o h (S.1, lm_up S.2 12 g) 13 (by unfold RJ; omega)
    simp only [lm_g18, lm_g19, Option.bind_some, e1, e3, hp_nmE]
    have hsw : lm_up (lm_up S.2 12 g) 13 z = lm_up (lm_up S.2 13 z) 12 g := by
      funext j
      by_cases j1 : j = 12
      · subst j1; simp (disch := omega) only [lm_upn, lm_ups]
      · by_cases j2 : j = 13
        · subst j2; simp (disch := omega) only [lm_upn, lm_ups]
        · simp (disch := omega) only [lm_upn]
    rw [hsw]
    exact rm_quo_28 G o h S vs ia ib x y hA hx hy (by omega) z e4 hp_fu 0 g (by decide) (by decide) (fun t ht => by rw [e2 t ht, dg_zero, if_neg (by omega)])
