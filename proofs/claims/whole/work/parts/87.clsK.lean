/-! THE CLASS: over -/
theorem rnd10 {N B : Nat} (hB : 0 < B) : (N * 10 / B + 5) / 10 = N / B + (if B - N % B ≤ N % B then 1 else 0) := by
  have h1 := Nat.div_add_mod N B
  have h2 := Nat.mod_lt N hB
  generalize N / B = q at *
  generalize N % B = r at *
  have e : N * 10 = 10 * r + B * (10 * q) := by rw [← h1]; grind
  rw [e, Nat.add_mul_div_left _ _ hB]
  have b1 : 10 * r / B < 10 := Nat.div_lt_of_lt_mul (by rw [Nat.mul_comm B 10]; omega)
  have b2 : 5 ≤ 10 * r / B ↔ 5 * B ≤ 10 * r := Nat.le_div_iff_mul_le hB
  generalize 10 * r / B = t at *
  split <;> omega
theorem rnd9 {N B : Nat} (hB : 0 < B) : (N * 10 ^ 9 / B + 500000000) / 10 ^ 9 = N / B + (if B - N % B ≤ N % B then 1 else 0) := by
  have h1 := Nat.div_add_mod N B
  have h2 := Nat.mod_lt N hB
  generalize N / B = q at *
  generalize N % B = r at *
  have e : N * 10 ^ 9 = 10 ^ 9 * r + B * (10 ^ 9 * q) := by rw [← h1]; grind
  rw [e, Nat.add_mul_div_left _ _ hB]
  have b1 : 10 ^ 9 * r / B < 10 ^ 9 := Nat.div_lt_of_lt_mul (by rw [Nat.mul_comm B (10 ^ 9)]; omega)
  have b2 : 500000000 ≤ 10 ^ 9 * r / B ↔ 500000000 * B ≤ 10 ^ 9 * r := Nat.le_div_iff_mul_le hB
  generalize 10 ^ 9 * r / B = t at *
  split <;> omega
theorem ovs {A B i dig tf : Nat} (hB : 0 < B) (h : dig * B + tf = 10 * (A * 10 ^ i % B)) (ht : tf < B) : A * 10 ^ (i + 1) / B = 10 * (A * 10 ^ i / B) + dig ∧ A * 10 ^ (i + 1) % B = tf := by
  have h1 := Nat.div_add_mod (A * 10 ^ i) B
  generalize A * 10 ^ i / B = q at *
  generalize A * 10 ^ i % B = r at *
  refine (Nat.div_mod_unique hB).mpr ⟨?_, ht⟩
  rw [Nat.pow_succ, ← Nat.mul_assoc, ← h1]
  grind
theorem ov_mono {A B : Nat} (hB : 0 < B) (i : Nat) : ∀ d, A * 10 ^ i / B * 10 ^ d ≤ A * 10 ^ (i + d) / B
  | 0 => by rw [Nat.pow_zero, Nat.mul_one, Nat.add_zero]; exact Nat.le_refl _
  | d + 1 => by
    have h1 := ov_mono (A := A) (B := B) hB i d
    have h2 : A * 10 ^ (i + d) / B * 10 ≤ A * 10 ^ (i + d) * 10 / B := (Nat.le_div_iff_mul_le hB).mpr (by rw [Nat.mul_right_comm]; exact Nat.mul_le_mul_right 10 (Nat.div_mul_le_self _ _))
    rw [Nat.pow_succ, ← Nat.mul_assoc, ← Nat.add_assoc, Nat.pow_succ, ← Nat.mul_assoc]
    exact Nat.le_trans (Nat.mul_le_mul_right 10 h1) h2
theorem ov_n (hi lo dig : Nat) : (hi * 10 + (lo * 10 + dig) / 1000000000) * 1000000000 + (lo * 10 + dig) % 1000000000 = 10 * (hi * 1000000000 + lo) + dig := by omega
section
variable (G : Nat → Nat) {c k : Nat} {h : hp_H}
theorem cl_over_108 (r77 : Nat → Int64 → Int64 → Int64 → Int64 → Int64 → Int32 → Int32 → hp_H → Option (Unit × hp_H)) (p : Nat) (a1 : Int64) (B rest hi lo i : Nat) (a14 : Int32) (hB : 0 < B) (lB : B ≤ 1000000000000000000) (hr : rest < B) (hhi : hi < 100000000000000000) (hlo : lo < 1000000000) : ∀ (n j dig tf : Nat), 10 - j < n → j ≤ 10 → tf < B → dig * B + tf = j * rest → ∃ dig' tf' : Nat, m_K_over_108 G r77 n p a1 (jL (B : Int)) (jL (rest : Int)) (jL (hi : Int)) (jL (lo : Int)) a14 (nI i) (nI dig) (jL (tf : Int)) (nI j) h = r77 p a1 (jL (B : Int)) (jL (tf' : Int)) (jL ((hi * 10 + (lo * 10 + dig') / 1000000000 : Nat) : Int)) (jL (((lo * 10 + dig') % 1000000000 : Nat) : Int)) a14 (nI (i + 1)) h ∧ dig' * B + tf' = 10 * rest ∧ tf' < B ∧ dig' < 10
  | 0, j, dig, tf, hn, _, _, _ => by omega
  | n + 1, j, dig, tf, hn, hj, ht, he => by
    have dl : dig < 11 := by
      refine Nat.lt_of_not_le (fun q => ?_)
      have h1 : 11 * B ≤ dig * B := Nat.mul_le_mul_right B q
      have h2 : j * rest ≤ 10 * rest := Nat.mul_le_mul_right rest hj
      generalize dig * B = z at *
      generalize j * rest = y at *
      omega
    rw [m_K_over_108]
    by_cases e : j = 10
    · subst e
      have dl2 : dig < 10 := by
        refine Nat.lt_of_not_le (fun q => ?_)
        have h1 : 10 * B ≤ dig * B := Nat.mul_le_mul_right B q
        generalize dig * B = z at *
        omega
      rw [if_pos (by decide), hp_nmE, hp_nmE, nI_64L dig (by omega), show (10 : Int64) = jL ((10 : Nat) : Int) from rfl, jN_mul, jN_add, dL9 (by omega), bs, hp_nmE, jN_mul, jN_add, mL9 (by omega), bs, hp_nmE, hp_nmE, nI_1]
      exact ⟨dig, tf, rfl, he, ht, dl2⟩
    · rw [if_neg (show ¬ (10 : Int32) ≤ nI j from nI_ge (a := j) (b := 10) (by omega) (by decide)), hp_nmE, jN_add]
      have cnd : lg_cmp (jL ((tf + rest : Nat) : Int)) (jL (B : Int)) < 0 ↔ tf + rest < B := by
        rw [lgc_lt, jL_lt (iL_n (by omega)) (iL_n (by omega))]; omega
      have he2 : dig * B + (tf + rest) = (j + 1) * rest := by rw [Nat.add_mul, Nat.one_mul]; omega
      by_cases q : tf + rest < B
      · rw [if_pos (cnd.mpr q), m_K_over_140, hp_nmE, nI_1]
        exact cl_over_108 r77 p a1 B rest hi lo i a14 hB lB hr hhi hlo n (j + 1) dig (tf + rest) (by omega) (by omega) q he2
      · rw [if_neg (fun y => q (cnd.mp y)), hp_nmE, hp_nmE, nI_1, m_K_over_140, hp_nmE, nI_1, jL_sub, show ((tf + rest : Nat) : Int) - (B : Int) = ((tf + rest - B : Nat) : Int) by omega]
        exact cl_over_108 r77 p a1 B rest hi lo i a14 hB lB hr hhi hlo n (j + 1) (dig + 1) (tf + rest - B) (by omega) (by omega) (by omega) (by rw [Nat.add_mul, Nat.one_mul]; omega)
def qtz (a : Int) (s : Nat) (b : Int) (s2 : Nat) : Int := (a * b).sign * (((a.natAbs * 10 ^ (10 + s2 - s) / b.natAbs + 5) / 10 : Nat) : Int)
theorem qtz_sg (a : Int) (s : Nat) (b : Int) (s2 : Nat) : (qtz a s b s2 ≠ 0 → sgI (a * b) = sgI (qtz a s b s2)) ∧ (qtz a s b s2).natAbs = (a.natAbs * 10 ^ (10 + s2 - s) / b.natAbs + 5) / 10 := by
  unfold qtz
  generalize hq : (a.natAbs * 10 ^ (10 + s2 - s) / b.natAbs + 5) / 10 = q
  rcases Int.lt_trichotomy (a * b) 0 with e | e | e
  · rw [Int.sign_eq_neg_one_of_neg e]
    exact ⟨fun c => sgI_cg (by omega) (by omega), by omega⟩
  · have : q = 0 := by
      rw [← hq]
      rcases Int.mul_eq_zero.mp e with e0 | e0
      · rw [e0]; simp
      · rw [e0]; simp
    rw [e, this]
    exact ⟨fun c => absurd rfl c, rfl⟩
  · rw [Int.sign_eq_one_of_pos e]
    exact ⟨fun c => sgI_cg (by omega) (by omega), by omega⟩
/-- over: g tells whether it was good before -/
def KO (c : Nat) (h : hp_H) (k : Nat) (g : Bool) (T : Int) : Prop := (g = true → KN c h k false T) ∧ (g = false → ∃ a s, KR c h k false false a s)
theorem cl_over_77 {g : Bool} {a : Int} {s : Nat} (hs : SC G c h) (r : KR c h k g false a s) (b : Int) (s2 : Nat) (hb : b.natAbs < 10 ^ 18) (hb0 : b ≠ 0) (hs2 : s2 ≤ 9) : ∀ (n i hi lo : Nat), 9 + s2 - s - i < n → i ≤ 9 + s2 - s → hi * 1000000000 + lo = a.natAbs * 10 ^ i / b.natAbs → lo < 1000000000 → hi < 1000000000000000000 → ∃ h', m_K_over_77 G n (c + k) (jL b) (jL ((b.natAbs : Nat) : Int)) (jL ((a.natAbs * 10 ^ i % b.natAbs : Nat) : Int)) (jL (hi : Int)) (jL (lo : Int)) (nI (9 + s2 - s)) (nI i) h = some ((), h') ∧ chg c [k] h h' ∧ KO c h' k g (qtz a s b s2) := by
  intro n
  induction n with
  | zero => exact fun i hi lo hn _ _ _ _ => absurd hn (Nat.not_lt_zero _)
  | succ n ih =>
    intro i hi lo hn hi_ hq hlo hh18
    obtain ⟨r1, ra, rs⟩ := id r
    have ia : iM a := by unfold iM; omega
    have ib : iM b := by unfold iM; omega
    have hB : 0 < b.natAbs := by omega
    have lB : b.natAbs ≤ 1000000000000000000 := by omega
    have hr := Nat.mod_lt (a.natAbs * 10 ^ i) hB
    obtain ⟨sg1, sg2⟩ := qtz_sg a s b s2
    have rn := rnd10 (N := a.natAbs * 10 ^ (9 + s2 - s)) hB
    rw [Nat.mul_assoc, ← Nat.pow_succ, show (9 + s2 - s).succ = 10 + s2 - s by omega, ← sg2] at rn
    rw [m_K_over_77]
    simp only [nI_leI (show 9 + s2 - s < 2 ^ 31 by omega) (show i < 2 ^ 31 by omega)]
    by_cases e : 9 + s2 - s ≤ i
    · have ei : i = 9 + s2 - s := by omega
      subst ei
      rw [if_pos e, jL_sub, show ((b.natAbs : Nat) : Int) - ((a.natAbs * 10 ^ (9 + s2 - s) % b.natAbs : Nat) : Int) = ((b.natAbs - a.natAbs * 10 ^ (9 + s2 - s) % b.natAbs : Nat) : Int) by omega]
      generalize a.natAbs * 10 ^ (9 + s2 - s) % b.natAbs = rest at *
      rw [← hq] at rn
      have cnd : lg_cmp (jL (rest : Int)) (jL ((b.natAbs - rest : Nat) : Int)) < 0 ↔ ¬ b.natAbs - rest ≤ rest := by
        rw [lgc_lt, jL_lt (iL_n (by omega)) (iL_n (by omega))]; omega
      have fin : ∀ up : Nat, up ≤ 1 → (qtz a s b s2).natAbs = hi * 1000000000 + lo + up → ∃ h', m_K_over_207 G (c + k) (jL b) (jL (hi : Int)) (jL (lo : Int)) (nI up) h = some ((), h') ∧ chg c [k] h h' ∧ KO c h' k g (qtz a s b s2) := fun up hup hT => by
        unfold m_K_over_207
        rw [hp_nmE, gL_e (k := 2) r1 rfl, bs]
        have ca : 0 ≤ lg_cmp (jL a) 0 ↔ 0 ≤ a := by rw [lgc_ge, ← jL_0, jL_le iL_0 ia.L]
        have cb : 0 ≤ lg_cmp (jL b) 0 ↔ 0 ≤ b := by rw [lgc_ge, ← jL_0, jL_le iL_0 ib.L]
        have set_ : ∃ h', m_K_over_243 G (jL (hi : Int)) (jL (lo : Int)) (nI up) (bI (decide (a < 0) != decide (b < 0))) (c + k) h = some ((), h') ∧ chg c [k] h h' ∧ KO c h' k g (qtz a s b s2) := by
          have lo2 : ∃ h', m_K_over_259 G (jL ((lo + up : Nat) : Int)) (jL (hi : Int)) (bI (decide (a < 0) != decide (b < 0))) (c + k) h = some ((), h') ∧ chg c [k] h h' ∧ KO c h' k g (qtz a s b s2) := by
            unfold m_K_over_259
            rw [r.k1]
            cases g with
            | true =>
              obtain ⟨h', g1, g2, g3⟩ := cl_settleN G hs r (decide (a < 0) != decide (b < 0)) hi (lo + up) (by omega) (by omega) (qtz a s b s2) (by show (qtz a s b s2).natAbs = hi * 1000000000 + (lo + up); rw [hT, Nat.add_assoc]) (fun z => sgn_iff sg1 z)
              rw [g1, bs]
              exact ⟨h', rfl, g2, fun _ => g3, fun q => by cases q⟩
            | false =>
              obtain ⟨h', g1, g2, g3, g4⟩ := cl_settle G hs r (decide (a < 0) != decide (b < 0)) hi (lo + up) (by omega) (by omega)
              rw [g1, bs]
              refine ⟨h', rfl, g2, (fun q => by cases q), fun _ => ?_⟩
              cases f : ftB (hi * 10 ^ 9 + (lo + up)) with
              | true => exact ⟨_, _, g3 f⟩
              | false => exact ⟨_, _, g4 f⟩
          unfold m_K_over_243
          rcases (show up = 0 ∨ up = 1 by omega) with u | u
          · rw [u, if_pos (by decide)]; rw [u, Nat.add_zero] at lo2; exact lo2
          · rw [u, if_neg (by decide), show (1 : Int64) = jL ((1 : Nat) : Int) from rfl, jN_add]; rw [u] at lo2; exact lo2
        unfold m_K_over_224 m_K_over_235
        by_cases qa : a < 0 <;> by_cases qb : b < 0
        · rw [if_neg (fun y => by have := ca.mp y; omega), if_neg (fun y => by have := cb.mp y; omega), if_pos (show (1 : Int32) = 1 from rfl)]
          simp only [qa, qb, decide_true] at set_
          exact set_
        · rw [if_neg (fun y => by have := ca.mp y; omega), if_pos (cb.mpr (by omega)), if_neg (show ¬ (1 : Int32) = 0 by decide)]
          simp only [qa, qb, decide_true, decide_false] at set_
          exact set_
        · rw [if_pos (ca.mpr (by omega)), if_neg (fun y => by have := cb.mp y; omega), if_neg (show ¬ (0 : Int32) = 1 by decide)]
          simp only [qa, qb, decide_true, decide_false] at set_
          exact set_
        · rw [if_pos (ca.mpr (by omega)), if_pos (cb.mpr (by omega)), if_pos (show (0 : Int32) = 0 from rfl)]
          simp only [qa, qb, decide_false] at set_
          exact set_
      by_cases u : b.natAbs - rest ≤ rest
      · rw [if_neg (fun y => cnd.mp y u)]
        rw [if_pos u] at rn
        exact fin 1 (by omega) rn
      · rw [if_pos (cnd.mpr u)]
        rw [if_neg u] at rn
        exact fin 0 (by omega) rn
    · rw [if_neg e]
      have cnd : lg_cmp (jL (hi : Int)) 100000000000000000 < 0 ↔ hi < 100000000000000000 := by
        rw [lgc_lt, show (100000000000000000 : Int64) = jL ((100000000000000000 : Nat) : Int) from rfl, jL_lt (iL_n (by omega)) (iL_n (by omega))]; omega
      by_cases q : hi < 100000000000000000
      · rw [if_pos (cnd.mpr q), hp_nmE, hp_nmE, hp_nmE]
        obtain ⟨dig, tf, t1, t2, t3, t4⟩ := cl_over_108 G (h := h) (m_K_over_77 G n) (c + k) (jL b) b.natAbs (a.natAbs * 10 ^ i % b.natAbs) hi lo i (nI (9 + s2 - s)) hB lB hr q hlo hp_fu 0 0 0 (by decide) (by omega) hB (by omega)
        rw [show (0 : Int32) = nI 0 from rfl, show (0 : Int64) = jL ((0 : Nat) : Int) from rfl, t1]
        obtain ⟨o1, o2⟩ := ovs hB t2 t3
        rw [← o2]
        refine ih (i + 1) _ _ (by omega) (by omega) ?_ (by omega) (by omega)
        rw [o1, ← hq]
        exact ov_n hi lo dig
      · rw [if_neg (fun y => q (cnd.mp y)), show hp_pZ h (c + k) 6 0 0 = _ from pZ_e (k := 0) r1 false (by simp), bs]
        have big : 10 ^ 27 ≤ (qtz a s b s2).natAbs := by
          rw [rn]
          have m1 := ov_mono (A := a.natAbs) (B := b.natAbs) hB i (9 + s2 - s - i)
          rw [show i + (9 + s2 - s - i) = 9 + s2 - s by omega, ← hq] at m1
          have m2 : (hi * 1000000000 + lo) * 10 ≤ (hi * 1000000000 + lo) * 10 ^ (9 + s2 - s - i) := Nat.mul_le_mul_left _ (by
            rw [show 9 + s2 - s - i = (9 + s2 - s - i - 1) + 1 by omega, Nat.pow_succ]
            exact Nat.le_mul_of_pos_left 10 (pw_pos _))
          generalize (hi * 1000000000 + lo) * 10 ^ (9 + s2 - s - i) = y at *
          generalize a.natAbs * 10 ^ (9 + s2 - s) / b.natAbs = z at *
          generalize (if b.natAbs - a.natAbs * 10 ^ (9 + s2 - s) % b.natAbs ≤ a.natAbs * 10 ^ (9 + s2 - s) % b.natAbs then 1 else 0) = v at *
          clear rn sg2 ra hb
          omega
        have fb := ft_big big
        refine ⟨_, rfl, chg_st _ (by simp), fun _ => ⟨a, s, by rw [fb]; exact ⟨stC_s _ _ _, ra, rs⟩, fun y => by rw [fb] at y; cases y⟩, fun _ => ⟨a, s, stC_s _ _ _, ra, rs⟩⟩
theorem cl_over {g w : Bool} {a : Int} {s : Nat} (hs : SC G c h) (r : KR c h k g w a s) (b : Int) (s2 : Nat) (hb : b.natAbs < 10 ^ 18) (hs2 : s2 ≤ 9) : ∃ h', m_K_over G (c + k) (jL b) (nI s2) h = some ((), h') ∧ chg c [k] h h' ∧ (b = 0 → KR c h' k false false a s) ∧ (b ≠ 0 → KO c h' k g (qtz a s b s2)) := by
  obtain ⟨r1, ra, rs⟩ := id r
  have ia : iM a := by unfold iM; omega
  have ib : iM b := by unfold iM; omega
  unfold m_K_over
  rw [show hp_pZ h (c + k) 6 1 0 = _ from pZ_e (k := 1) r1 false (by simp), bs]
  have R1 : KR c (stC h (c + k) (.inl (6, [Value.int (bI g), .int (bI w), .long (jL a), .int (nI s)].set 1 (.int (bI false))))) k g false a s := ⟨stC_s _ _ _, ra, rs⟩
  have C1 : chg c [k] h (stC h (c + k) (.inl (6, [Value.int (bI g), .int (bI w), .long (jL a), .int (nI s)].set 1 (.int (bI false))))) := chg_st _ (by simp)
  generalize stC h (c + k) (.inl (6, [Value.int (bI g), .int (bI w), .long (jL a), .int (nI s)].set 1 (.int (bI false)))) = h1 at R1 C1
  have S1 := hs.c C1
  have c0 : lg_cmp (jL b) 0 = 0 ↔ b = 0 := by rw [lgc_eq, ← jL_0, jL_eq ib.L iL_0]
  by_cases b0 : b = 0
  · rw [if_pos (c0.mpr b0), show hp_pZ h1 (c + k) 6 0 0 = _ from pZ_e (k := 0) R1.1 false (by simp), bs]
    exact ⟨_, rfl, C1.tr (chg_st _ (by simp)), fun _ => ⟨stC_s _ _ _, ra, rs⟩, fun q => absurd b0 q⟩
  · have hB : 0 < b.natAbs := by clear ra hb; omega
    have la : a.natAbs < 9223372036854775808 := by unfold iM at ia; omega
    have lb : b.natAbs < 9223372036854775808 := by unfold iM at ib; omega
    have dq : a.natAbs / b.natAbs ≤ a.natAbs := Nat.div_le_self _ _
    have ra' : a.natAbs ≤ 1000000000000000000 := by omega
    rw [if_neg (fun y => b0 (c0.mp y)), cl_abs G h1 ib, bs, hp_nmE, gL_e (k := 2) R1.1 rfl, bs, cl_abs G h1 ia, bs, hp_mL_j (iL_n la) (iL_n lb) (by omega) (by omega), bs, hp_nmE, gL_e (k := 2) R1.1 rfl, bs, cl_abs G h1 ia, bs, hp_dL_j (iL_n la) (iL_n lb) (by omega) (by omega), bs, hp_nmE, tdN, tmN, dL9 (by omega), bs, hp_nmE, mL9 (by omega), bs, hp_nmE, gI_e (k := 3) R1.1 rfl, bs, hp_nmE, hp_nmE, show (9 : Int32) = nI 9 from rfl, nI_add, pk_sub (show s ≤ 9 + s2 by omega)]
    obtain ⟨h', g1, g2, g3⟩ := cl_over_77 G S1 R1 b s2 hb b0 hs2 hp_fu 0 (a.natAbs / b.natAbs / 1000000000) (a.natAbs / b.natAbs % 1000000000) (by unfold hp_fu; omega) (by omega) (by rw [Nat.pow_zero, Nat.mul_one]; omega) (by omega) (by omega)
    rw [Nat.pow_zero, Nat.mul_one] at g1
    exact ⟨h', g1, C1.tr g2, fun q => absurd q b0, fun _ => g3⟩
end
