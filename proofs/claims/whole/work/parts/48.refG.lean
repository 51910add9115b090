/-! sum and product -/
theorem RV_upd {f : Nat → Int32} {r p d : Nat} (hr : RV f r) (lr : r < 10 ^ 64) (hp : p < 64) (hd : d < 10) : ∃ r', RV (upd f p (nI d)) r' ∧ r' + dg r p * 10 ^ p = r + d * 10 ^ p ∧ r' < 10 ^ 64 := by
  have hl : ∀ k, k < 64 → (fun k => if k = p then d else dg r k) k < 10 := fun k _ => by
    show (if k = p then d else dg r k) < 10
    by_cases e : k = p
    · rw [if_pos e]; exact hd
    · rw [if_neg e]; exact dg_lt _ _
  have hv : ∀ N, rv (fun k => if k = p then d else dg r k) N + (if p < N then dg r p * 10 ^ p else 0) = rv (dg r) N + (if p < N then d * 10 ^ p else 0) := fun N => by
    induction N with
    | zero => rfl
    | succ N ih =>
      show rv _ N + (if N = p then d else dg r N) * 10 ^ N + _ = rv (dg r) N + dg r N * 10 ^ N + _
      by_cases e : N = p
      · subst e
        rw [if_neg (Nat.lt_irrefl N), if_neg (Nat.lt_irrefl N)] at ih
        rw [if_pos rfl, if_pos (Nat.lt_succ_self N), if_pos (Nat.lt_succ_self N)]
        omega
      · rw [if_neg e]
        by_cases c : p < N
        · rw [if_pos c, if_pos c] at ih
          rw [if_pos (by omega), if_pos (by omega)]
          omega
        · rw [if_neg c, if_neg c] at ih
          rw [if_neg (by omega), if_neg (by omega)]
          omega
  refine ⟨rv (fun k => if k = p then d else dg r k) 64, fun k hk => ?_, ?_, rv_lt hl⟩
  · rw [dg_rv hl hk]
    by_cases e : k = p
    · subst e; rw [upd_s, if_pos rfl]
    · rw [upd_n _ _ e, if_neg e]; exact hr k hk
  · have := hv 64
    rw [if_pos hp, if_pos hp, rv_dg' lr] at this
    exact this
theorem sgI_mul (a b : Int) : sgI a * sgI b = sgI (a * b) := by
  have key : ∀ x y : Int, sgI (x * y) = if x * y < 0 then -1 else if x * y = 0 then 0 else 1 := fun _ _ => rfl
  rcases Int.lt_trichotomy a 0 with ha | ha | ha <;> rcases Int.lt_trichotomy b 0 with hb | hb | hb
  · have := Int.mul_pos_of_neg_of_neg ha hb
    unfold sgI; rw [if_pos ha, if_pos hb, if_neg (by omega), if_neg (by omega)]; rfl
  · subst hb; rw [Int.mul_zero]; unfold sgI; rw [if_pos ha]; rfl
  · have := Int.mul_neg_of_neg_of_pos ha hb
    unfold sgI; rw [if_pos ha, if_neg (by omega), if_neg (by omega), if_pos this]; rfl
  · subst ha; rw [Int.zero_mul]; unfold sgI; rw [if_pos hb]; rfl
  · subst ha; subst hb; rfl
  · subst ha; rw [Int.zero_mul]; unfold sgI; rw [if_neg (show ¬ b < 0 by omega), if_neg (show ¬ b = 0 by omega)]; rfl
  · have := Int.mul_neg_of_pos_of_neg ha hb
    unfold sgI; rw [if_neg (by omega), if_neg (by omega), if_pos hb, if_pos this]; rfl
  · subst hb; rw [Int.mul_zero]; unfold sgI; rw [if_neg (show ¬ a < 0 by omega), if_neg (show ¬ a = 0 by omega)]; rfl
  · have := Int.mul_pos ha hb
    unfold sgI; rw [if_neg (show ¬ a < 0 by omega), if_neg (show ¬ a = 0 by omega), if_neg (show ¬ b < 0 by omega), if_neg (show ¬ b = 0 by omega), if_neg (by omega), if_neg (by omega)]; rfl
theorem sgI_lt (a : Int) : sgI a < 0 ↔ a < 0 := by
  unfold sgI
  by_cases h : a < 0
  · rw [if_pos h]; exact ⟨fun _ => h, fun _ => by decide⟩
  · rw [if_neg h]
    by_cases h0 : a = 0
    · rw [if_pos h0]; exact ⟨fun q => absurd q (by decide), fun q => absurd q h⟩
    · rw [if_neg h0]; exact ⟨fun q => absurd q (by decide), fun q => absurd q h⟩
theorem sgI_0 (a : Int) : sgI a = 0 ↔ a = 0 := by
  unfold sgI
  by_cases h : a < 0
  · rw [if_pos h]; exact ⟨fun q => absurd q (by decide), fun q => by omega⟩
  · rw [if_neg h]
    by_cases h0 : a = 0
    · rw [if_pos h0]; exact ⟨fun _ => h0, fun _ => rfl⟩
    · rw [if_neg h0]; exact ⟨fun q => absurd q (by decide), fun q => absurd q h0⟩
theorem sgI_cg {a b : Int} (h1 : a < 0 ↔ b < 0) (h0 : a = 0 ↔ b = 0) : sgI a = sgI b := by
  unfold sgI
  by_cases h : a < 0
  · rw [if_pos h, if_pos (h1.mp h)]
  · rw [if_neg h, if_neg (fun q => h (h1.mpr q))]
    by_cases h2 : a = 0
    · rw [if_pos h2, if_pos (h0.mp h2)]
    · rw [if_neg h2, if_neg (fun q => h2 (h0.mpr q))]
/-- the amount in units of 10^-9 -/
def am9 (x : vV) : Int := x.2.2.1 * 10 ^ (9 - x.2.2.2.1)
theorem am9_abs (x : vV) : (am9 x).natAbs = x.2.2.1.natAbs * 10 ^ (9 - x.2.2.2.1) := by
  unfold am9; rw [Int.natAbs_mul, Int.natAbs_pow]; rfl
theorem am9_18 {x : vV} (h : vW x) : x.2.2.1.natAbs * 10 ^ (18 - x.2.2.2.1) = (am9 x).natAbs * 10 ^ 9 := by
  have := h.2.2.2.1
  rw [am9_abs, Nat.mul_assoc, ← Nat.pow_add, show 9 - x.2.2.2.1 + 9 = 18 - x.2.2.2.1 by omega]
theorem am9_lt {x : vV} (h : vW x) : (am9 x).natAbs < 10 ^ 27 := by
  rw [am9_abs]
  have h1 := h.2.2.1
  have h2 : 10 ^ (9 - x.2.2.2.1) ≤ 10 ^ 9 := Nat.pow_le_pow_right (by decide) (by omega)
  have h3 : x.2.2.1.natAbs * 10 ^ (9 - x.2.2.2.1) ≤ x.2.2.1.natAbs * 10 ^ 9 := Nat.mul_le_mul_left _ h2
  omega
theorem am9_sg (x : vV) : sgI (am9 x) = sgI x.2.2.1 := by
  have hp : (0 : Int) < 10 ^ (9 - x.2.2.2.1) := Int.pow_pos (by decide)
  unfold am9
  refine sgI_cg ?_ ?_
  · constructor
    · intro q; rcases Int.lt_trichotomy x.2.2.1 0 with e | e | e
      · exact e
      · rw [e] at q; omega
      · have := Int.mul_pos e hp; omega
    · intro q; exact Int.mul_neg_of_neg_of_pos q hp
  · rw [Int.mul_eq_zero]; omega
theorem rm_at {S : lm_S} {vs : List vV} {i : Nat} {x : vV} (hA : rm_A S vs) (h : vs[i]? = some x) : rm_V S (i + 1) x ∧ vW x ∧ i < 2000 ∧ i < vs.length := by
  have h1 := (List.getElem?_eq_some_iff.mp h).1
  have h2 := hA.2.1
  exact ⟨(hA.2.2 i x h).1, (hA.2.2 i x h).2, by omega, h1⟩
theorem rm_areWholes (G : Nat → Nat) (o : Nat) (h : hp_H) (S : lm_S) (a b : Nat) (p q : Nat) (ha : a ≤ 2000) (hb : b ≤ 2000) (h1 : S.2 1 a = nI p) (h2 : S.2 1 b = nI q) (hp : p ≤ 8) (hq : q ≤ 8) : m_M_areWholes G o (nI a) (nI b) (lm_w o h S) = some (bI (p == 3 && q == 3), lm_w o h S) := by
  unfold m_M_areWholes m_M_areWholes_24 m_M_areWholes_25
  simp (disch := omega) only [lm_g0, lm_g1, lm_g2, lm_g3, lm_g4, lm_g5, lm_g6, lm_g7, lm_g8, lm_g9, lm_g10, lm_g11, lm_g12, lm_g13, lm_g14, lm_g15, lm_g16, lm_g17, lm_g18, lm_g19, lm_g20, lm_g21, lm_g22, lm_g23, lm_g24, lm_g25, lm_g26, lm_g27, lm_g28, lm_g29, lm_g30, lm_g31, lm_g32, lm_g33, lm_p0, lm_p9, lm_p10, lm_p11, lm_p12, lm_p13, lm_p16, lm_p22, lm_p26, lm_p27, lm_p28, lm_p29, lm_p31, lm_p32, lm_a1, lm_a2, lm_a3, lm_a4, lm_a5, lm_a6, lm_a7, lm_a8, lm_a9, lm_a10, lm_a11, lm_a12, lm_a13, lm_a14, lm_a15, lm_a16, lm_a17, lm_a18, lm_a19, lm_a20, lm_s1, lm_s2, lm_s3, lm_s4, lm_s5, lm_s6, lm_s7, lm_s8, lm_s9, lm_s10, lm_s11, lm_s12, lm_s13, lm_s14, lm_s15, lm_s16, lm_s17, lm_s18, lm_s19, lm_s20, lm_vck, lm_ups, lm_upn, upd_s, upd_n, Option.bind_some, hp_nm, hp_z1, hp_z0, bq, reduceIte, il_0, il_1, il_2, il_3, il_4, il_5, il_6, il_7, il_8, il_9, il_10, il_11, il_12, il_13, il_14, il_15, il_16, il_17, il_18, il_19, il_20, il_21, il_22, il_23, il_24, il_25, il_26, il_27, il_28, il_29, il_30, il_31, il_32, il_33, il_34, il_35, il_36, il_37, il_38, il_39, il_40, il_41, il_45, il_46, il_48, il_63, il_64, il_65, il_90, il_97, il_99, il_100, il_122, il_127, il_128, il_255, il_500, il_1000, il_1001, il_1002, il_1003, il_1004, il_2000, il_9999, nI_add, pk_mul, pk_sub, nI_leI, nI_ltI, nI_eq, hp_dI_n, hp_mI_n, h1, h2]
  by_cases e : p = 3
  · rw [if_pos e]
    by_cases e2 : q = 3
    · rw [if_pos e2, e, e2]; rfl
    · rw [if_neg e2, e, beq_false_of_ne e2]; rfl
  · rw [if_neg e, beq_false_of_ne e]; rfl
theorem cmN_lt (a b : Nat) : cmN a b < 0 ↔ a < b := by
  unfold cmN
  by_cases e : a < b
  · rw [if_pos e]; exact ⟨fun _ => e, fun _ => by decide⟩
  · rw [if_neg e]
    by_cases e2 : a = b
    · rw [if_pos e2]; exact ⟨fun q => absurd q (by decide), fun q => absurd q e⟩
    · rw [if_neg e2]; exact ⟨fun q => absurd q (by decide), fun q => absurd q e⟩
theorem RK.from {o : Nat} {h : hp_H} {S S1 : lm_S} {vs : List vV} {m : Option (Int32 × hp_H)} {ox : Option vV} (hf : fS S S1) (hk : RK o h S1 vs m ox) : RK o h S vs m ox := by
  obtain ⟨S', e1, e2, e3⟩ := hk
  exact ⟨S', e1, e2, hf.tr e3⟩
theorem b9 {a : Nat} (h : a < 10 ^ 27) : a * 10 ^ 9 < 10 ^ 64 := by omega
theorem b9s {a b : Nat} (h : a < 10 ^ 27) (h2 : b < 10 ^ 27) : a * 10 ^ 9 + b * 10 ^ 9 < 10 ^ 64 := by omega
theorem b55 {p t : Int} (h : p.natAbs < 10 ^ 27) (h2 : t.natAbs < 10 ^ 27) : (p + t).natAbs < 10 ^ 55 := by omega
theorem cmN_9 (a b : Nat) : cmN (a * 10 ^ 9) (b * 10 ^ 9) = cmN a b := by
  unfold cmN
  by_cases e : a < b
  · rw [if_pos e, if_pos (Nat.mul_lt_mul_of_pos_right e (pw_pos 9))]
  · rw [if_neg e, if_neg (fun q => e (Nat.lt_of_mul_lt_mul_right q))]
    by_cases e2 : a = b
    · rw [if_pos e2, if_pos (by rw [e2])]
    · rw [if_neg e2, if_neg (fun q => e2 (Nat.eq_of_mul_eq_mul_right (pw_pos 9) q))]
theorem le_9 {a b : Nat} (h : a ≤ b) : a * 10 ^ 9 ≤ b * 10 ^ 9 := Nat.mul_le_mul_right _ h
theorem rm_sum_fin (G : Nat → Nat) (o : Nat) (h : hp_H) (S : lm_S) (vs : List vV) (i k : Nat) (x y : vV) (u : Int) (f g : Nat → Int32) (j : Nat) (hj : RJ j) (k1 : Nat → Int32) (s : Int32) (hA : rm_A S vs) (hx : vs[i]? = some x) (hy : vs[k]? = some y) (hu : u.natAbs < 10 ^ 55) (hs : u ≠ 0 → s = sgI u) (hr : RV k1 (u.natAbs * 10 ^ 9)) : RK o h S vs ((m_M_areWholes G o (nI (i + 1)) (nI (k + 1)) (lm_w o h (S.1, lm_up (lm_up (lm_up S.2 11 f) 12 g) j k1))).bind fun q1 => hp_vck q1.2 o 8 (m_M_number G o (o + j) s q1.1 q1.2)) (nmI u (x.1 == 3 && y.1 == 3)) := by
  obtain ⟨⟨r1, -⟩, wx, li, -⟩ := rm_at hA hx
  obtain ⟨⟨s1, -⟩, wy, lk, -⟩ := rm_at hA hy
  have j1 : 1 ≠ j := by unfold RJ at hj; clear hu; omega
  have hA' : rm_A (S.1, lm_up (lm_up (lm_up S.2 11 f) 12 g) j k1) vs := hA.keep rfl (fun c _ h7 => by
    unfold RJ at hj
    clear hu
    simp (disch := omega) only [lm_upn])
  rw [rm_areWholes G o h _ (i + 1) (k + 1) x.1 y.1 (by clear hu; omega) (by clear hu; omega) (by clear hu; simp (disch := omega) only [lm_upn]; exact r1) (by clear hu; simp (disch := omega) only [lm_upn]; exact s1) wx.1 wy.1]
  simp only [Option.bind_some, lm_vck]
  refine RK.from ?_ (rm_number G o h _ vs j hj u s _ hu hs hA' (by simp only [lm_ups]; exact hr))
  unfold RJ at hj
  clear hu
  simp (disch := omega) only [fS, lm_upn, and_self]
theorem rm_sum (G : Nat → Nat) (o : Nat) (h : hp_H) (S : lm_S) (vs : List vV) (i k : Nat) (x y : vV) (e : Int) (by_ : Int32) (he : by_ = 1 ∧ e = 1 ∨ by_ = -1 ∧ e = -1) (hA : rm_A S vs) (hx : vs[i]? = some x) (hy : vs[k]? = some y) : RK o h S vs (m_M_sum G o (nI (i + 1)) (nI (k + 1)) by_ (lm_w o h S)) (nmI (am9 x + e * am9 y) (x.1 == 3 && y.1 == 3)) := by
  obtain ⟨⟨r1, r2, r3, r4, r5, r6, r7⟩, wx, li, -⟩ := rm_at hA hx
  obtain ⟨⟨s1, s2, s3, s4, s5, s6, s7⟩, wy, lk, -⟩ := rm_at hA hy
  have lx := am9_lt wx
  have ly := am9_lt wy
  have hsy : sgI y.2.2.1 * by_ = sgI (e * am9 y) := by
    rcases he with ⟨q1, q2⟩ | ⟨q1, q2⟩
    · rw [q1, q2, Int.one_mul, am9_sg, Int32.mul_one]
    · rw [q1, q2, ← sgI_mul, am9_sg, Int32.mul_comm]; rfl
  have hny : (e * am9 y).natAbs = (am9 y).natAbs := by
    rcases he with ⟨q1, q2⟩ | ⟨q1, q2⟩ <;> rw [q2] <;> omega
  have hax := am9_sg x
  generalize ht : e * am9 y = t at *
  generalize hq : am9 x = p at *
  unfold m_M_sum
  obtain ⟨f, e1, e2⟩ := rm_lay G o h S 11 (by unfold RJ; omega) (i + 1) x.2.2.2.1 x.2.2.1.natAbs (by omega) (by have := wx.2.2.2.1; omega) wx.2.2.1 r4 r6
  rw [am9_18 wx, hq] at e2
  rw [lm_g17]
  simp only [Option.bind_some, lm_vck, e1]
  obtain ⟨g, e3, e4⟩ := rm_lay G o h (S.1, lm_up S.2 11 f) 12 (by unfold RJ; omega) (k + 1) y.2.2.2.1 y.2.2.1.natAbs (by omega) (by have := wy.2.2.2.1; omega) wy.2.2.1 (by simp (disch := omega) only [lm_upn]; exact s4) (fun c hc => by simp (disch := omega) only [lm_upn]; exact s6 c hc)
  rw [am9_18 wy, ← hny] at e4
  rw [lm_g18]
  simp only [Option.bind_some, lm_vck, e3]
  simp (disch := omega) only [lm_g0, lm_g1, lm_g2, lm_g3, lm_g4, lm_g5, lm_g6, lm_g7, lm_g8, lm_g9, lm_g10, lm_g11, lm_g12, lm_g13, lm_g14, lm_g15, lm_g16, lm_g17, lm_g18, lm_g19, lm_g20, lm_g21, lm_g22, lm_g23, lm_g24, lm_g25, lm_g26, lm_g27, lm_g28, lm_g29, lm_g30, lm_g31, lm_g32, lm_g33, lm_p0, lm_p9, lm_p10, lm_p11, lm_p12, lm_p13, lm_p16, lm_p22, lm_p26, lm_p27, lm_p28, lm_p29, lm_p31, lm_p32, lm_a1, lm_a2, lm_a3, lm_a4, lm_a5, lm_a6, lm_a7, lm_a8, lm_a9, lm_a10, lm_a11, lm_a12, lm_a13, lm_a14, lm_a15, lm_a16, lm_a17, lm_a18, lm_a19, lm_a20, lm_s1, lm_s2, lm_s3, lm_s4, lm_s5, lm_s6, lm_s7, lm_s8, lm_s9, lm_s10, lm_s11, lm_s12, lm_s13, lm_s14, lm_s15, lm_s16, lm_s17, lm_s18, lm_s19, lm_s20, lm_vck, lm_ups, lm_upn, upd_s, upd_n, Option.bind_some, hp_nm, hp_z1, hp_z0, bq, reduceIte, r3, s3]
  rw [hsy, ← hax, sgI_mul]
  have rx : RV ((S.1, lm_up (lm_up S.2 11 f) 12 g).2 11) (p.natAbs * 10 ^ 9) := by simp (disch := omega) only [lm_upn, lm_ups]; exact e2
  have ry : RV ((S.1, lm_up (lm_up S.2 11 f) 12 g).2 12) (t.natAbs * 10 ^ 9) := by simp (disch := omega) only [lm_ups]; exact e4
  have fin : ∀ (j : Nat) (hj : RJ j) (k1 : Nat → Int32) (s : Int32), (p + t).natAbs < 10 ^ 55 → (p + t ≠ 0 → s = sgI (p + t)) → RV k1 ((p + t).natAbs * 10 ^ 9) → RK o h S vs ((m_M_areWholes G o (nI (i + 1)) (nI (k + 1)) (lm_w o h (S.1, lm_up (lm_up (lm_up S.2 11 f) 12 g) j k1))).bind fun q1 => hp_vck q1.2 o 8 (m_M_number G o (o + j) s q1.1 q1.2)) (nmI (p + t) (x.1 == 3 && y.1 == 3)) := fun j hj k1 s hu hs hr => rm_sum_fin G o h S vs i k x y (p + t) f g j hj k1 s hA hx hy hu hs hr
  rw [← hny] at ly
  have b1 := b9 lx
  have b2 := b9 ly
  have b3 := b9s lx ly
  have b4 := b55 lx ly
  clear lx ly hny he ht hsy
  by_cases c : p * t < 0
  · rw [if_pos ((sgI_lt _).mpr c)]
    have csg : (p < 0 ∧ 0 < t) ∨ (0 < p ∧ t < 0) := by
      rcases Int.lt_trichotomy p 0 with a | a | a <;> rcases Int.lt_trichotomy t 0 with b | b | b
      · have := Int.mul_pos_of_neg_of_neg a b; omega
      · subst b; omega
      · exact Or.inl ⟨a, b⟩
      · subst a; omega
      · subst a; omega
      · subst a; omega
      · exact Or.inr ⟨a, b⟩
      · subst b; omega
      · have := Int.mul_pos a b; omega
    rw [rm_compare G o h _ 11 12 (by unfold RJ; omega) (by unfold RJ; omega) (p.natAbs * 10 ^ 9) (t.natAbs * 10 ^ 9) rx ry b1 b2, cmN_9]
    simp only [Option.bind_some]
    by_cases c4 : p.natAbs < t.natAbs
    · rw [if_pos ((cmN_lt _ _).mpr c4)]
      obtain ⟨k1, e5, e6⟩ := rm_joinM G o h (S.1, lm_up (lm_up S.2 11 f) 12 g) 12 11 (by unfold RJ; omega) (by unfold RJ; omega) (by omega) (t.natAbs * 10 ^ 9) (p.natAbs * 10 ^ 9) b2 (le_9 (Nat.le_of_lt c4)) ry rx
      simp (disch := omega) only [lm_g0, lm_g1, lm_g2, lm_g3, lm_g4, lm_g5, lm_g6, lm_g7, lm_g8, lm_g9, lm_g10, lm_g11, lm_g12, lm_g13, lm_g14, lm_g15, lm_g16, lm_g17, lm_g18, lm_g19, lm_g20, lm_g21, lm_g22, lm_g23, lm_g24, lm_g25, lm_g26, lm_g27, lm_g28, lm_g29, lm_g30, lm_g31, lm_g32, lm_g33, lm_p0, lm_p9, lm_p10, lm_p11, lm_p12, lm_p13, lm_p16, lm_p22, lm_p26, lm_p27, lm_p28, lm_p29, lm_p31, lm_p32, lm_a1, lm_a2, lm_a3, lm_a4, lm_a5, lm_a6, lm_a7, lm_a8, lm_a9, lm_a10, lm_a11, lm_a12, lm_a13, lm_a14, lm_a15, lm_a16, lm_a17, lm_a18, lm_a19, lm_a20, lm_s1, lm_s2, lm_s3, lm_s4, lm_s5, lm_s6, lm_s7, lm_s8, lm_s9, lm_s10, lm_s11, lm_s12, lm_s13, lm_s14, lm_s15, lm_s16, lm_s17, lm_s18, lm_s19, lm_s20, lm_vck, lm_ups, lm_upn, upd_s, upd_n, Option.bind_some, hp_nm, hp_z1, hp_z0, bq, reduceIte, e5]
      refine fin 12 (by unfold RJ; omega) k1 (sgI t) b4 (fun _ => by clear b1 b2 b3 b4; exact sgI_cg (by omega) (by omega)) ?_
      rw [← Nat.sub_mul] at e6
      rw [show (p + t).natAbs = t.natAbs - p.natAbs by clear b1 b2 b3 b4 e6; omega]
      exact e6
    · rw [if_neg (fun q => c4 ((cmN_lt _ _).mp q))]
      obtain ⟨k1, e5, e6⟩ := rm_joinM G o h (S.1, lm_up (lm_up S.2 11 f) 12 g) 11 12 (by unfold RJ; omega) (by unfold RJ; omega) (by omega) (p.natAbs * 10 ^ 9) (t.natAbs * 10 ^ 9) b1 (le_9 (Nat.le_of_not_lt c4)) rx ry
      simp (disch := omega) only [lm_g0, lm_g1, lm_g2, lm_g3, lm_g4, lm_g5, lm_g6, lm_g7, lm_g8, lm_g9, lm_g10, lm_g11, lm_g12, lm_g13, lm_g14, lm_g15, lm_g16, lm_g17, lm_g18, lm_g19, lm_g20, lm_g21, lm_g22, lm_g23, lm_g24, lm_g25, lm_g26, lm_g27, lm_g28, lm_g29, lm_g30, lm_g31, lm_g32, lm_g33, lm_p0, lm_p9, lm_p10, lm_p11, lm_p12, lm_p13, lm_p16, lm_p22, lm_p26, lm_p27, lm_p28, lm_p29, lm_p31, lm_p32, lm_a1, lm_a2, lm_a3, lm_a4, lm_a5, lm_a6, lm_a7, lm_a8, lm_a9, lm_a10, lm_a11, lm_a12, lm_a13, lm_a14, lm_a15, lm_a16, lm_a17, lm_a18, lm_a19, lm_a20, lm_s1, lm_s2, lm_s3, lm_s4, lm_s5, lm_s6, lm_s7, lm_s8, lm_s9, lm_s10, lm_s11, lm_s12, lm_s13, lm_s14, lm_s15, lm_s16, lm_s17, lm_s18, lm_s19, lm_s20, lm_vck, lm_ups, lm_upn, upd_s, upd_n, Option.bind_some, hp_nm, hp_z1, hp_z0, bq, reduceIte, e5, r3]
      rw [← hax]
      refine fin 11 (by unfold RJ; omega) k1 (sgI p) b4 (fun _ => by clear b1 b2 b3 b4; exact sgI_cg (by omega) (by omega)) ?_
      rw [← Nat.sub_mul] at e6
      rw [show (p + t).natAbs = p.natAbs - t.natAbs by clear b1 b2 b3 b4 e6; omega]
      exact e6
  · rw [if_neg (fun q => c ((sgI_lt _).mp q))]
    have csg : (p ≤ 0 ∧ t ≤ 0) ∨ (0 ≤ p ∧ 0 ≤ t) := by
      rcases Int.lt_trichotomy p 0 with a | a | a <;> rcases Int.lt_trichotomy t 0 with b | b | b
      · omega
      · omega
      · have := Int.mul_neg_of_neg_of_pos a b; omega
      · omega
      · omega
      · omega
      · have := Int.mul_neg_of_pos_of_neg a b; omega
      · omega
      · omega
    obtain ⟨k1, e5, e6⟩ := rm_joinP G o h (S.1, lm_up (lm_up S.2 11 f) 12 g) 11 12 (by unfold RJ; omega) (by unfold RJ; omega) (by omega) (p.natAbs * 10 ^ 9) (t.natAbs * 10 ^ 9) b3 rx ry
    simp (disch := omega) only [lm_g0, lm_g1, lm_g2, lm_g3, lm_g4, lm_g5, lm_g6, lm_g7, lm_g8, lm_g9, lm_g10, lm_g11, lm_g12, lm_g13, lm_g14, lm_g15, lm_g16, lm_g17, lm_g18, lm_g19, lm_g20, lm_g21, lm_g22, lm_g23, lm_g24, lm_g25, lm_g26, lm_g27, lm_g28, lm_g29, lm_g30, lm_g31, lm_g32, lm_g33, lm_p0, lm_p9, lm_p10, lm_p11, lm_p12, lm_p13, lm_p16, lm_p22, lm_p26, lm_p27, lm_p28, lm_p29, lm_p31, lm_p32, lm_a1, lm_a2, lm_a3, lm_a4, lm_a5, lm_a6, lm_a7, lm_a8, lm_a9, lm_a10, lm_a11, lm_a12, lm_a13, lm_a14, lm_a15, lm_a16, lm_a17, lm_a18, lm_a19, lm_a20, lm_s1, lm_s2, lm_s3, lm_s4, lm_s5, lm_s6, lm_s7, lm_s8, lm_s9, lm_s10, lm_s11, lm_s12, lm_s13, lm_s14, lm_s15, lm_s16, lm_s17, lm_s18, lm_s19, lm_s20, lm_vck, lm_ups, lm_upn, upd_s, upd_n, Option.bind_some, hp_nm, hp_z1, hp_z0, bq, reduceIte, e5, r3]
    rw [← hax]
    have e7 : RV k1 ((p + t).natAbs * 10 ^ 9) := by
      rw [← Nat.add_mul] at e6
      rw [show (p + t).natAbs = p.natAbs + t.natAbs by clear b1 b2 b3 b4 e6; omega]
      exact e6
    by_cases c3 : p = 0
    · rw [if_pos ((sgI_0 _).mpr c3), m_M_sum_77, lm_vck]
      simp only [lm_vck, bq]
      exact fin 11 (by unfold RJ; omega) k1 (sgI t) b4 (fun _ => by clear b1 b2 b3 b4; exact sgI_cg (by omega) (by omega)) e7
    · rw [if_neg (fun q => c3 ((sgI_0 _).mp q)), m_M_sum_77, lm_vck]
      simp only [lm_vck, bq]
      exact fin 11 (by unfold RJ; omega) k1 (sgI p) b4 (fun _ => by clear b1 b2 b3 b4; exact sgI_cg (by omega) (by omega)) e7
