/-! THE CLASS: plus, times -/
theorem mul3 (a b c x y z : Nat) : (a*1000000000000000000+b*1000000000+c)*(x*1000000000000000000+y*1000000000+z) = c*z + 1000000000*(c*y + b*z) + 1000000000000000000*(c*x + b*y + a*z) + 1000000000000000000000000000*(b*x+a*y) + 1000000000000000000000000000000000000*(a*x) := by
  grind
theorem tm_e (tp mi lo tp' mi' lo' p1 p2 p3 : Nat) (h1 : p1 = (lo * lo' + 500000000) / 1000000000 + lo * mi' + mi * lo') (h2 : p2 = p1 / 1000000000 + lo * tp' + mi * mi' + tp * lo') (h3 : p3 = p2 / 1000000000 + mi * tp' + tp * mi') : ((tp*1000000000000000000+mi*1000000000+lo)*(tp'*1000000000000000000+mi'*1000000000+lo') + 500000000) / 1000000000 = (p3 / 1000000000 + tp * tp') * 1000000000000000000000000000 + (p3 % 1000000000 * 1000000000 + p2 % 1000000000) * 1000000000 + p1 % 1000000000 := by
  rw [mul3]
  generalize lo * lo' = x1 at *
  generalize lo * mi' = x2 at *
  generalize mi * lo' = x3 at *
  generalize lo * tp' = x4 at *
  generalize mi * mi' = x5 at *
  generalize tp * lo' = x6 at *
  generalize mi * tp' = x7 at *
  generalize tp * mi' = x8 at *
  generalize tp * tp' = x9 at *
  omega
theorem ft_big {N : Nat} (h : 10 ^ 27 ≤ N) : ftB N = false := by
  refine decide_eq_false (fun q => ?_)
  have h1 := rd_v 9 N
  have h2 : 10 ^ (9 - (rd 9 N).2) ≤ 10 ^ 9 := Nat.pow_le_pow_right (by decide) (by omega)
  have h3 : (rd 9 N).1 * 10 ^ (9 - (rd 9 N).2) ≤ (rd 9 N).1 * 10 ^ 9 := Nat.mul_le_mul_left _ h2
  have h4 : (rd 9 N).1 * 10 ^ 9 < 10 ^ 18 * 10 ^ 9 := Nat.mul_lt_mul_of_pos_right q (pw_pos 9)
  rw [← Nat.pow_add] at h4
  rw [← h1] at h3
  exact absurd (Nat.lt_of_le_of_lt h3 h4) (Nat.not_lt_of_le h)
theorem pq_lt {a b : Nat} (ha : a < 1000000000) (hb : b < 1000000000) : a * b ≤ 999999998000000001 := by
  have := Nat.mul_le_mul (show a ≤ 999999999 by omega) (show b ≤ 999999999 by omega)
  omega
theorem iL_n {n : Nat} (h : n < 9223372036854775808) : iL (n : Int) := by unfold iL; omega
theorem dL9 {n : Nat} (h : n < 9223372036854775808) : hp_dL (jL (n : Int)) 1000000000 = some (jL ((n / 1000000000 : Nat) : Int)) := by
  rw [show (1000000000 : Int64) = jL 1000000000 from rfl, hp_dL_j (iL_n h) (by unfold iL; omega) (by decide) (by decide)]
  exact congrArg (fun z => some (jL z)) (Int.ofNat_tdiv n 1000000000)
theorem mL9 {n : Nat} (h : n < 9223372036854775808) : hp_mL (jL (n : Int)) 1000000000 = some (jL ((n % 1000000000 : Nat) : Int)) := by
  rw [show (1000000000 : Int64) = jL 1000000000 from rfl, hp_mL_j (iL_n h) (by unfold iL; omega) (by decide) (by decide)]
  exact congrArg (fun z => some (jL z)) (Int.ofNat_tmod n 1000000000)
theorem tdN (a b : Nat) : ((a : Nat) : Int).tdiv ((b : Nat) : Int) = ((a / b : Nat) : Int) := (Int.ofNat_tdiv a b).symm
theorem tmN (a b : Nat) : ((a : Nat) : Int).tmod ((b : Nat) : Int) = ((a % b : Nat) : Int) := (Int.ofNat_tmod a b).symm
theorem jN_add (a b : Nat) : jL (a : Int) + jL (b : Int) = jL ((a + b : Nat) : Int) := by rw [jL_add, Int.natCast_add]
theorem jN_mul (a b : Nat) : jL (a : Int) * jL (b : Int) = jL ((a * b : Nat) : Int) := by rw [jL_mul, Int.natCast_mul]
section
variable (G : Nat → Nat) {c k : Nat} {h : hp_H}
theorem cl_plus_89 {w : Bool} {a : Int} {s : Nat} (hs : SC G c h) (r : KR c h k true w a s) (H L : Int) (hH : H.natAbs ≤ 3000000000000000000) (h0 : 0 ≤ L) (h1 : L < 1000000000) : ∃ h', m_K_plus_89 G (c + k) (jL H) (jL L) h = some ((), h') ∧ chg c [k] h h' ∧ KN c h' k w (H * 1000000000 + L) := by
  have cH : lg_cmp (jL H) 0 < 0 ↔ H < 0 := by rw [lgc_lt, ← jL_0, jL_lt (by unfold iL; omega) iL_0]
  have cL : lg_cmp (jL L) 0 = 0 ↔ L = 0 := by rw [lgc_eq, ← jL_0, jL_eq (by unfold iL; omega) iL_0]
  unfold m_K_plus_89 m_K_plus_143
  obtain ⟨l, rfl⟩ : ∃ l : Nat, L = l := ⟨L.toNat, by omega⟩
  by_cases q : H < 0
  · rw [if_pos (cH.mpr q)]
    by_cases z : (l : Int) = 0
    · rw [if_pos (cL.mpr z), r.k1, jL_neg]
      obtain ⟨m, hm⟩ : ∃ m : Nat, -H = m := ⟨(-H).toNat, by omega⟩
      rw [hm, show (0 : Int64) = jL ((0 : Nat) : Int) from rfl, show (1 : Int32) = bI true from rfl]
      obtain ⟨h', e1, e2, e3⟩ := cl_settleN G hs r true m 0 (by omega) (by omega) (H * 1000000000 + l) (by omega) (fun _ => by simp; omega)
      rw [e1, bs]
      exact ⟨h', rfl, e2, e3⟩
    · rw [if_neg (fun y => z (cL.mp y)), r.k1, ← jL_1, jL_add, jL_neg]
      obtain ⟨m, hm⟩ : ∃ m : Nat, -(H + 1) = m := ⟨(-(H + 1)).toNat, by omega⟩
      rw [hm, show (1000000000 : Int64) = jL ((1000000000 : Nat) : Int) from rfl, jL_sub, show ((1000000000 : Nat) : Int) - (l : Int) = ((1000000000 - l : Nat) : Int) by omega, show (1 : Int32) = bI true from rfl]
      obtain ⟨h', e1, e2, e3⟩ := cl_settleN G hs r true m (1000000000 - l) (by omega) (by omega) (H * 1000000000 + l) (by omega) (fun _ => by simp; omega)
      rw [e1, bs]
      exact ⟨h', rfl, e2, e3⟩
  · rw [if_neg (fun y => q (cH.mp y)), r.k1]
    obtain ⟨m, rfl⟩ : ∃ m : Nat, H = m := ⟨H.toNat, by omega⟩
    rw [show (0 : Int32) = bI false from rfl]
    obtain ⟨h', e1, e2, e3⟩ := cl_settleN G hs r false m l (by omega) (by omega) ((m : Int) * 1000000000 + l) (by omega) (fun _ => by simp; omega)
    rw [e1, bs]
    exact ⟨h', rfl, e2, e3⟩
theorem cl_plus {w : Bool} {a : Int} {s : Nat} (hs : SC G c h) (r : KR c h k true w a s) (w2 : Bool) (b : Int) (s2 : Nat) (hb : b.natAbs < 10 ^ 18) (hs2 : s2 ≤ 9) : ∃ h', m_K_plus G (c + k) (bI w2) (jL b) (nI s2) h = some ((), h') ∧ chg c [k] h h' ∧ KN c h' k (w && w2) (am9 (0, 0, a, s, []) + am9 (0, 0, b, s2, [])) := by
  obtain ⟨r1, ra, rs⟩ := id r
  have ia : iM a := by unfold iM; omega
  have ib : iM b := by unfold iM; omega
  have ra' : a.natAbs ≤ 1000000000000000000 := by omega
  have hb' : b.natAbs ≤ 1000000000000000000 := by omega
  have go : ∀ z : Bool, ∃ h', m_K_plus_17 G (c + k) (jL b) (nI s2) (bI z) (c + k) h = some ((), h') ∧ chg c [k] h h' ∧ KN c h' k z (am9 (0, 0, a, s, []) + am9 (0, 0, b, s2, [])) := fun z => by
    unfold m_K_plus_17
    rw [pZ_e (k := 1) r1 z (by simp), bs]
    have R1 : KR c (stC h (c + k) (.inl (6, [Value.int (bI true), .int (bI w), .long (jL a), .int (nI s)].set 1 (.int (bI z))))) k true z a s := ⟨stC_s _ _ _, ra, rs⟩
    have C1 : chg c [k] h (stC h (c + k) (.inl (6, [Value.int (bI true), .int (bI w), .long (jL a), .int (nI s)].set 1 (.int (bI z))))) := chg_st _ (by simp)
    generalize stC h (c + k) (.inl (6, [Value.int (bI true), .int (bI w), .long (jL a), .int (nI s)].set 1 (.int (bI z)))) = h1 at R1 C1
    have S1 := hs.c C1
    obtain ⟨ex, ex0, ex1⟩ := am9_hl (0, 0, a, s, []) rs
    obtain ⟨ey, ey0, ey1⟩ := am9_hl (0, 0, b, s2, []) hs2
    have ix := td_b ia (iP_k (k := s) (by omega))
    have iy := td_b ib (iP_k (k := s2) (by omega))
    have bx : (a / ((10 ^ s : Nat) : Int)).natAbs ≤ a.natAbs := Int.natAbs_ediv_le_natAbs _ _
    have by_ : (b / ((10 ^ s2 : Nat) : Int)).natAbs ≤ b.natAbs := Int.natAbs_ediv_le_natAbs _ _
    rw [gL_e (k := 2) R1.1 rfl, bs, gI_e (k := 3) R1.1 rfl, bs, cl_power G h1 S1 (by omega), bs, cl_floorDiv G h1 ia (iP_k (by omega)), bs, cl_power G h1 S1 (by omega), bs, cl_floorDiv G h1 ib (iP_k (by omega)), bs, hp_nmE, gL_e (k := 2) R1.1 rfl, bs, gI_e (k := 3) R1.1 rfl, bs, cl_billionths G h1 S1 ia rs, bs, cl_billionths G h1 S1 ib hs2, bs, hp_nmE, jL_add, jL_add]
    rw [ex, ey]
    simp only [] at ex0 ex1 ey0 ey1 ⊢
    generalize a % ((10 ^ s : Nat) : Int) * ((10 ^ (9 - s) : Nat) : Int) = lx at *
    generalize b % ((10 ^ s2 : Nat) : Int) * ((10 ^ (9 - s2) : Nat) : Int) = ly at *
    generalize a / ((10 ^ s : Nat) : Int) = hx at *
    generalize b / ((10 ^ s2 : Nat) : Int) = hy at *
    clear ra hb ix iy ia ib
    have cnd : lg_cmp (jL (lx + ly)) 1000000000 < 0 ↔ lx + ly < 1000000000 := by
      rw [lgc_lt, show (1000000000 : Int64) = jL 1000000000 from rfl, jL_lt (by unfold iL; omega) (by unfold iL; omega)]
    by_cases q : lx + ly < 1000000000
    · rw [if_pos (cnd.mpr q)]
      obtain ⟨h', e1, e2, e3⟩ := cl_plus_89 G S1 R1 (hx + hy) (lx + ly) (by omega) (by omega) q
      refine ⟨h', e1, C1.tr e2, ?_⟩
      rw [show hx * 1000000000 + lx + (hy * 1000000000 + ly) = (hx + hy) * 1000000000 + (lx + ly) by omega]
      exact e3
    · rw [if_neg (fun y => q (cnd.mp y)), hp_nmE, hp_nmE, show (1000000000 : Int64) = jL 1000000000 from rfl, jL_sub, ← jL_1, jL_add]
      obtain ⟨h', e1, e2, e3⟩ := cl_plus_89 G S1 R1 (hx + hy + 1) (lx + ly - 1000000000) (by omega) (by omega) (by omega)
      refine ⟨h', e1, C1.tr e2, ?_⟩
      rw [show hx * 1000000000 + lx + (hy * 1000000000 + ly) = (hx + hy + 1) * 1000000000 + (lx + ly - 1000000000) by omega]
      exact e3
  unfold m_K_plus m_K_plus_16
  rw [gI_e (k := 1) r1 rfl, bs]
  cases w with
  | false => rw [if_pos (show bI false = 0 from rfl)]; exact go false
  | true =>
    rw [if_neg (show ¬ bI true = 0 by decide)]
    cases w2 with
    | false => rw [if_pos (show bI false = 0 from rfl)]; exact go false
    | true => rw [if_neg (show ¬ bI true = 0 by decide)]; exact go true
theorem sgn_ne {a b : Int} : ((decide (a < 0) != decide (b < 0)) = true) → a ≠ 0 → b ≠ 0 → a * b < 0 := by
  intro h ha hb
  by_cases p : a < 0 <;> by_cases q : b < 0
  · simp [p, q] at h
  · exact Int.mul_neg_of_neg_of_pos p (by omega)
  · exact Int.mul_neg_of_pos_of_neg (by omega) q
  · simp [p, q] at h
theorem sgn_iff {a b T : Int} (hT : T ≠ 0 → sgI (a * b) = sgI T) (h0 : T ≠ 0) : (decide (a < 0) != decide (b < 0)) = true ↔ T < 0 := by
  have e := hT h0
  have e1 : a * b < 0 ↔ T < 0 := by rw [← sgI_lt, e, sgI_lt]
  have e2 : a * b ≠ 0 := fun q => h0 ((sgI_0 _).mp (by rw [← e]; exact (sgI_0 _).mpr q))
  have a0 : a ≠ 0 := fun q => e2 (by rw [q, Int.zero_mul])
  have b0 : b ≠ 0 := fun q => e2 (by rw [q, Int.mul_zero])
  rw [← e1]
  constructor
  · exact fun q => sgn_ne q a0 b0
  · intro q
    by_cases p : a < 0 <;> by_cases z : b < 0
    · have := Int.mul_pos_of_neg_of_neg p z; omega
    · simp [p, z]
    · simp [p, z]
    · have := Int.mul_pos (show 0 < a by omega) (show 0 < b by omega); omega
theorem hl_n (A s : Nat) (hs : s ≤ 9) : A * 10 ^ (9 - s) = A / 10 ^ s / 1000000000 * 1000000000000000000 + A / 10 ^ s % 1000000000 * 1000000000 + A % 10 ^ s * 10 ^ (9 - s) ∧ A % 10 ^ s * 10 ^ (9 - s) < 1000000000 := by
  have e : 10 ^ s * 10 ^ (9 - s) = 1000000000 := by rw [← Nat.pow_add, show s + (9 - s) = 9 by omega]
  have h1 := Nat.div_add_mod A (10 ^ s)
  have h2 := Nat.mod_lt A (Nat.pow_pos (n := s) (show 0 < 10 by decide))
  have p2 := Nat.pow_pos (n := 9 - s) (show 0 < 10 by decide)
  constructor
  · have : A * 10 ^ (9 - s) = A / 10 ^ s * 1000000000 + A % 10 ^ s * 10 ^ (9 - s) := by
      conv => lhs; rw [← h1]
      rw [Nat.add_mul, Nat.mul_comm (10 ^ s), Nat.mul_assoc, e]
    rw [this]
    generalize A % 10 ^ s * 10 ^ (9 - s) = z
    omega
  · rw [← e]; exact Nat.mul_lt_mul_of_pos_right h2 p2
theorem cl_times {w : Bool} {a : Int} {s : Nat} (hs : SC G c h) (r : KR c h k true w a s) (w2 : Bool) (b : Int) (s2 : Nat) (hb : b.natAbs < 10 ^ 18) (hs2 : s2 ≤ 9) : ∃ h', m_K_times G (c + k) (bI w2) (jL b) (nI s2) h = some ((), h') ∧ chg c [k] h h' ∧ KN c h' k (w && w2) (pr9 (am9 (0, 0, a, s, [])) (am9 (0, 0, b, s2, []))) := by
  obtain ⟨r1, ra, rs⟩ := id r
  have ia : iM a := by unfold iM; omega
  have ib : iM b := by unfold iM; omega
  have ia2 : iM ((a.natAbs : Nat) : Int) := by unfold iM; omega
  have ib2 : iM ((b.natAbs : Nat) : Int) := by unfold iM; omega
  obtain ⟨sg1, sg2⟩ := pr9_sg (am9 (0, 0, a, s, [])) (am9 (0, 0, b, s2, []))
  have sgn : pr9 (am9 (0, 0, a, s, [])) (am9 (0, 0, b, s2, [])) ≠ 0 → ((decide (a < 0) != decide (b < 0)) = true ↔ pr9 (am9 (0, 0, a, s, [])) (am9 (0, 0, b, s2, [])) < 0) := fun z => by
    have := sgn_iff sg1 z
    have x1 : am9 (0, 0, a, s, []) < 0 ↔ a < 0 := by rw [← sgI_lt, am9_sg, sgI_lt]
    have x2 : am9 (0, 0, b, s2, []) < 0 ↔ b < 0 := by rw [← sgI_lt, am9_sg, sgI_lt]
    rw [show decide (am9 (0, 0, a, s, []) < 0) = decide (a < 0) from decide_eq_decide.mpr x1, show decide (am9 (0, 0, b, s2, []) < 0) = decide (b < 0) from decide_eq_decide.mpr x2] at this
    exact this
  have am1 : (am9 (0, 0, a, s, [])).natAbs = a.natAbs * 10 ^ (9 - s) := am9_abs _
  have am2 : (am9 (0, 0, b, s2, [])).natAbs = b.natAbs * 10 ^ (9 - s2) := am9_abs _
  obtain ⟨n1, n2⟩ := hl_n a.natAbs s rs
  obtain ⟨m1, m2⟩ := hl_n b.natAbs s2 hs2
  rw [am1, am2, n1, m1] at sg2
  have d1 : a.natAbs / 10 ^ s < 1000000000000000000 := Nat.lt_of_le_of_lt (Nat.div_le_self _ _) ra
  have d2 : b.natAbs / 10 ^ s2 < 1000000000000000000 := Nat.lt_of_le_of_lt (Nat.div_le_self _ _) hb
  have go : ∀ z : Bool, ∃ h', m_K_times_17 G (c + k) (jL b) (nI s2) (bI z) (c + k) h = some ((), h') ∧ chg c [k] h h' ∧ KN c h' k z (pr9 (am9 (0, 0, a, s, [])) (am9 (0, 0, b, s2, []))) := fun z => by
    unfold m_K_times_17
    rw [pZ_e (k := 1) r1 z (by simp), bs]
    have R1 : KR c (stC h (c + k) (.inl (6, [Value.int (bI true), .int (bI w), .long (jL a), .int (nI s)].set 1 (.int (bI z))))) k true z a s := ⟨stC_s _ _ _, ra, rs⟩
    have C1 : chg c [k] h (stC h (c + k) (.inl (6, [Value.int (bI true), .int (bI w), .long (jL a), .int (nI s)].set 1 (.int (bI z))))) := chg_st _ (by simp)
    generalize stC h (c + k) (.inl (6, [Value.int (bI true), .int (bI w), .long (jL a), .int (nI s)].set 1 (.int (bI z)))) = h1 at R1 C1
    have S1 := hs.c C1
    have bl : ∀ (A t : Nat), (((A : Int) % ((10 ^ t : Nat) : Int) * ((10 ^ (9 - t) : Nat) : Int))) = ((A % 10 ^ t * 10 ^ (9 - t) : Nat) : Int) := fun A t => by rw [Int.natCast_mul, Int.natCast_emod]
    rw [gL_e (k := 2) R1.1 rfl, bs, cl_abs G h1 ia, bs, hp_nmE, gI_e (k := 3) R1.1 rfl, bs, cl_power G h1 S1 (by omega), bs, hp_dL_j ia2.L (iP_k (by omega)).L (by have := (iP_k (k := s) (by omega)).1; omega) (by have := (iP_k (k := s) (by omega)).1; omega), bs, hp_nmE, tdN, gI_e (k := 3) R1.1 rfl, bs, cl_billionths G h1 S1 ia2 rs, bs, hp_nmE, bl, cl_abs G h1 ib, bs, hp_nmE, cl_power G h1 S1 (by omega), bs, hp_dL_j ib2.L (iP_k (by omega)).L (by have := (iP_k (k := s2) (by omega)).1; omega) (by have := (iP_k (k := s2) (by omega)).1; omega), bs, hp_nmE, tdN, cl_billionths G h1 S1 ib2 hs2, bs, hp_nmE, bl]
    generalize a.natAbs % 10 ^ s * 10 ^ (9 - s) = lo at *
    generalize b.natAbs % 10 ^ s2 * 10 ^ (9 - s2) = lo' at *
    generalize a.natAbs / 10 ^ s = hi at *
    generalize b.natAbs / 10 ^ s2 = hi' at *
    clear n1 m1 am1 am2
    have hra := ra
    have hia := ia
    have hib := ib
    clear ra hb ia ib ia2 ib2
    have t1 : hi / 1000000000 < 1000000000 := by omega
    have t2 : hi' / 1000000000 < 1000000000 := by omega
    have u1 : hi % 1000000000 < 1000000000 := by omega
    have u2 : hi' % 1000000000 < 1000000000 := by omega
    rw [mL9 (by omega), bs, hp_nmE, mL9 (by omega), bs, hp_nmE, dL9 (by omega), bs, hp_nmE, dL9 (by omega), bs, hp_nmE]
    generalize hi / 1000000000 = tp at *
    generalize hi' / 1000000000 = tp' at *
    generalize hi % 1000000000 = mi at *
    generalize hi' % 1000000000 = mi' at *
    have e1 := pq_lt n2 m2
    have e2 := pq_lt n2 u2
    have e3 := pq_lt u1 m2
    have e4 := pq_lt n2 t2
    have e5 := pq_lt u1 u2
    have e6 := pq_lt t1 m2
    have e7 := pq_lt u1 t2
    have e8 := pq_lt t1 u2
    have e9 := pq_lt t1 t2
    have key := tm_e tp mi lo tp' mi' lo' _ _ _ rfl rfl rfl
    rw [show (10 : Nat) ^ 9 = 1000000000 from rfl, key] at sg2
    rw [hp_nmE, jN_mul, show (500000000 : Int64) = jL ((500000000 : Nat) : Int) from rfl, jN_add, dL9 (by omega), bs, hp_nmE, jN_mul, jN_mul, jN_add, jN_add]
    have f1 : (lo * lo' + 500000000) / 1000000000 + lo * mi' + mi * lo' < 9223372036854775808 := by omega
    generalize hp1 : (lo * lo' + 500000000) / 1000000000 + lo * mi' + mi * lo' = p1 at *
    rw [mL9 f1, bs, hp_nmE, dL9 f1, bs, hp_nmE, jN_mul, jN_mul, jN_mul, jN_add, jN_add, jN_add]
    have f2 : p1 / 1000000000 + lo * tp' + mi * mi' + tp * lo' < 9223372036854775808 := by omega
    generalize hp2 : p1 / 1000000000 + lo * tp' + mi * mi' + tp * lo' = p2 at *
    rw [mL9 f2, bs, hp_nmE, dL9 f2, bs, hp_nmE, jN_mul, jN_mul, jN_add, jN_add]
    have f3 : p2 / 1000000000 + mi * tp' + tp * mi' < 9223372036854775808 := by omega
    generalize hp3 : p2 / 1000000000 + mi * tp' + tp * mi' = p3 at *
    rw [mL9 f3, bs, hp_nmE, gI_e (k := 0) R1.1 rfl, bs, if_neg (show ¬ bI true = 0 by decide), dL9 f3, bs, jN_mul, jN_add]
    generalize tp * tp' = x9 at *
    clear hp1 hp2 hp3 e1 e2 e3 e4 e5 e6 e7 e8
    have cnd : lg_cmp (jL ((p3 / 1000000000 + x9 : Nat) : Int)) 0 = 0 ↔ p3 / 1000000000 + x9 = 0 := by
      rw [lgc_eq, ← jL_0, jL_eq (iL_n (by omega)) iL_0]; omega
    unfold m_K_times_239
    have fin : ∀ g : Bool, ∃ h', m_K_times_240 G (c + k) (jL b) (jL ((p1 % 1000000000 : Nat) : Int)) (jL ((p2 % 1000000000 : Nat) : Int)) (jL ((p3 % 1000000000 : Nat) : Int)) (bI g) (c + k) h1 = some ((), h') ∧ chg c [k] h h' ∧ (g = true → p3 / 1000000000 + x9 = 0 → KN c h' k z (pr9 (am9 (0, 0, a, s, [])) (am9 (0, 0, b, s2, [])))) ∧ (g = false → ∃ a' s', KR c h' k false z a' s') := fun g => by
      unfold m_K_times_240
      rw [pZ_e (k := 0) R1.1 g (by simp), bs]
      have R2 : KR c (stC h1 (c + k) (.inl (6, [Value.int (bI true), .int (bI z), .long (jL a), .int (nI s)].set 0 (.int (bI g))))) k g z a s := ⟨stC_s _ _ _, hra, rs⟩
      have C2 : chg c [k] h1 (stC h1 (c + k) (.inl (6, [Value.int (bI true), .int (bI z), .long (jL a), .int (nI s)].set 0 (.int (bI g))))) := chg_st _ (by simp)
      generalize stC h1 (c + k) (.inl (6, [Value.int (bI true), .int (bI z), .long (jL a), .int (nI s)].set 0 (.int (bI g)))) = h2 at R2 C2
      have S2 := S1.c C2
      rw [gL_e (k := 2) R2.1 rfl, bs]
      have ca : 0 ≤ lg_cmp (jL a) 0 ↔ 0 ≤ a := by rw [lgc_ge, ← jL_0, jL_le iL_0 hia.L]
      have cb : 0 ≤ lg_cmp (jL b) 0 ↔ 0 ≤ b := by rw [lgc_ge, ← jL_0, jL_le iL_0 hib.L]
      have set_ : ∃ h', m_K_times_277 G (jL ((p1 % 1000000000 : Nat) : Int)) (jL ((p2 % 1000000000 : Nat) : Int)) (jL ((p3 % 1000000000 : Nat) : Int)) (bI (decide (a < 0) != decide (b < 0))) (c + k) h2 = some ((), h') ∧ chg c [k] h h' ∧ (g = true → p3 / 1000000000 + x9 = 0 → KN c h' k z (pr9 (am9 (0, 0, a, s, [])) (am9 (0, 0, b, s2, [])))) ∧ (g = false → ∃ a' s', KR c h' k false z a' s') := by
        unfold m_K_times_277
        rw [R2.k1, show (1000000000 : Int64) = jL ((1000000000 : Nat) : Int) from rfl, jN_mul, jN_add]
        cases g with
        | true =>
          by_cases o0 : p3 / 1000000000 + x9 = 0
          · obtain ⟨h', g1, g2, g3⟩ := cl_settleN G S2 R2 (decide (a < 0) != decide (b < 0)) (p3 % 1000000000 * 1000000000 + p2 % 1000000000) (p1 % 1000000000) (by omega) (by omega) (pr9 (am9 (0, 0, a, s, [])) (am9 (0, 0, b, s2, []))) (by rw [sg2, o0]; omega) sgn
            rw [g1, bs]
            exact ⟨h', rfl, (C1.tr C2).tr g2, fun _ _ => g3, fun q => by cases q⟩
          · obtain ⟨h', g1, g2, -, -⟩ := cl_settle G S2 R2 (decide (a < 0) != decide (b < 0)) (p3 % 1000000000 * 1000000000 + p2 % 1000000000) (p1 % 1000000000) (by omega) (by omega)
            rw [g1, bs]
            exact ⟨h', rfl, (C1.tr C2).tr g2, fun _ q => absurd q o0, fun q => by cases q⟩
        | false =>
          obtain ⟨h', g1, g2, g3, g4⟩ := cl_settle G S2 R2 (decide (a < 0) != decide (b < 0)) (p3 % 1000000000 * 1000000000 + p2 % 1000000000) (p1 % 1000000000) (by omega) (by omega)
          rw [g1, bs]
          refine ⟨h', rfl, (C1.tr C2).tr g2, (fun q => by cases q), fun _ => ?_⟩
          cases f : ftB ((p3 % 1000000000 * 1000000000 + p2 % 1000000000) * 10 ^ 9 + p1 % 1000000000) with
          | true => exact ⟨_, _, g3 f⟩
          | false => exact ⟨_, _, g4 f⟩
      unfold m_K_times_258 m_K_times_269
      by_cases qa : a < 0 <;> by_cases qb : b < 0
      · rw [if_neg (fun y => by have := ca.mp y; omega), if_neg (fun y => by have := cb.mp y; omega), if_pos (show (1 : Int32) = 1 from rfl)]
        simp only [qa, qb, decide_true] at set_
        exact set_
      · rw [if_neg (fun y => by have := ca.mp y; omega), if_pos (cb.mpr (by omega)), if_neg (show ¬ (1 : Int32) = 0 by decide)]
        simp only [qa, qb, decide_true, decide_false] at set_
        exact set_
      · rw [if_pos (ca.mpr (by omega)), if_neg (fun y => by have := cb.mp y; omega), if_neg (show ¬ (0 : Int32) = 1 by decide)]
        simp only [qa, qb, decide_true, decide_false] at set_
        exact set_
      · rw [if_pos (ca.mpr (by omega)), if_pos (cb.mpr (by omega)), if_pos (show (0 : Int32) = 0 from rfl)]
        simp only [qa, qb, decide_false] at set_
        exact set_
    by_cases o0 : p3 / 1000000000 + x9 = 0
    · rw [if_pos (cnd.mpr o0)]
      obtain ⟨h', g1, g2, g3, -⟩ := fin true
      exact ⟨h', g1, g2, g3 rfl o0⟩
    · rw [if_neg (fun y => o0 (cnd.mp y))]
      obtain ⟨h', g1, g2, -, g4⟩ := fin false
      obtain ⟨a', s', g5⟩ := g4 rfl
      have fb : ftB (pr9 (am9 (0, 0, a, s, [])) (am9 (0, 0, b, s2, []))).natAbs = false := ft_big (by rw [sg2]; omega)
      exact ⟨h', g1, g2, a', s', by rw [fb]; exact g5, fun y => by rw [fb] at y; cases y⟩
  unfold m_K_times m_K_times_16
  rw [gI_e (k := 1) r1 rfl, bs]
  cases w with
  | false => rw [if_pos (show bI false = 0 from rfl)]; exact go false
  | true =>
    rw [if_neg (show ¬ bI true = 0 by decide)]
    cases w2 with
    | false => rw [if_pos (show bI false = 0 from rfl)]; exact go false
    | true => rw [if_neg (show ¬ bI true = 0 by decide)]; exact go true
end
