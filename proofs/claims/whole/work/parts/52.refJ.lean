/-! turned, orderNumbers, wholeOf, numbered -/
theorem rm_lay1 (G : Nat → Nat) (o : Nat) (h : hp_H) (S : lm_S) (vs : List vV) (j : Nat) (hj : RJ j) (ia : Nat) (x : vV) (hA : rm_A S vs) (hx : vs[ia]? = some x) : ∃ f, m_M_lay G o (nI (ia + 1)) (o + j) (lm_w o h S) = some ((), lm_w o h (S.1, lm_up S.2 j f)) ∧ RV f ((am9 x).natAbs * 10 ^ 9) := by
  obtain ⟨⟨r1, r2, r3, r4, r5, r6, r7⟩, wx, li, -⟩ := rm_at hA hx
  have wx4 := wx.2.2.2.1
  obtain ⟨f, e1, e2⟩ := rm_lay G o h S j hj (ia + 1) x.2.2.2.1 x.2.2.1.natAbs (by omega) (by omega) wx.2.2.1 r4 r6
  rw [am9_18 wx] at e2
  exact ⟨f, e1, e2⟩
theorem sgI_ng (a : Int) : -sgI a = sgI (-a) := by
  have : sgI (-1) * sgI a = sgI (-1 * a) := sgI_mul _ _
  rw [show -1 * a = -a by omega] at this
  rw [← this, show sgI (-1) = -1 from rfl]
  rw [Int32.neg_mul, Int32.one_mul]
theorem b27 {a : Nat} (h : a < 10 ^ 27) : a < 10 ^ 55 := by omega
theorem bI_if (p : Nat) : bI (p == 3) = if p = 3 then 1 else 0 := by
  by_cases e : p = 3
  · subst e; rfl
  · rw [if_neg e, beq_false_of_ne e]; rfl
theorem rm_turned (G : Nat → Nat) (o : Nat) (h : hp_H) (S : lm_S) (vs : List vV) (ia : Nat) (x : vV) (w : Bool) (hA : rm_A S vs) (hx : vs[ia]? = some x) : RK o h S vs (m_M_turned G o (nI (ia + 1)) (bI w) (lm_w o h S)) (nmI (if w then -am9 x else am9 x) (x.1 == 3)) := by
  obtain ⟨⟨r1, r2, r3, r4, r5, r6, r7⟩, wx, li, -⟩ := rm_at hA hx
  have wx1 := wx.1
  obtain ⟨f, e1, e2⟩ := rm_lay1 G o h S vs 11 (by unfold RJ; omega) ia x hA hx
  unfold m_M_turned m_M_turned_34 m_M_turned_49
  simp (disch := omega) only [lm_g17, lm_vck, e1, Option.bind_some, lm_g3, lm_a3, lm_upn, r3, lm_g1, lm_a1, r1, bq, il_3, nI_eq]
  have hA' : rm_A (S.1, lm_up S.2 11 f) vs := hA.keep rfl (fun c _ h7 => by simp (disch := omega) only [lm_upn])
  have hw : ∀ (s : Int32) (X : Option (Int32 × hp_H)), (if x.1 = 3 then m_M_number G o (o + 11) s 1 (lm_w o h (S.1, lm_up S.2 11 f)) else m_M_number G o (o + 11) s 0 (lm_w o h (S.1, lm_up S.2 11 f))) = m_M_number G o (o + 11) s (bI (x.1 == 3)) (lm_w o h (S.1, lm_up S.2 11 f)) := fun s X => by
    rw [bI_if]
    by_cases e : x.1 = 3
    · rw [if_pos e, if_pos e]
    · rw [if_neg e, if_neg e]
  rw [hw _ none, hw _ none, ← am9_sg, sgI_ng]
  have b := b27 (am9_lt wx)
  have fr : fS S (S.1, lm_up S.2 11 f) := by clear b; simp (disch := omega) only [fS, lm_upn, and_self]
  cases w with
  | false =>
    rw [if_pos (show bI false = 0 from rfl)]
    exact RK.from fr (rm_number G o h _ vs 11 (by unfold RJ; clear b; omega) (am9 x) _ _ b (fun _ => rfl) hA' (by simp only [lm_ups]; exact e2))
  | true =>
    rw [if_neg (show ¬ bI true = 0 by decide)]
    exact RK.from fr (rm_number G o h _ vs 11 (by unfold RJ; clear b; omega) (-am9 x) _ _ (by rw [Int.natAbs_neg]; exact b) (fun _ => rfl) hA' (by simp only [lm_ups]; rw [Int.natAbs_neg]; exact e2))
/-- only x and y have changed -/
def xS (S S' : lm_S) : Prop := S'.1 = S.1 ∧ ∀ j, j ≠ 11 → j ≠ 12 → S'.2 j = S.2 j
theorem xS.f {S S' : lm_S} (q : xS S S') : fS S S' := by
  obtain ⟨q1, q2⟩ := q
  exact ⟨⟨by rw [q1], by rw [q1], by rw [q1], by rw [q1], by rw [q1], by rw [q1]⟩, q2 8 (by omega) (by omega), q2 14 (by omega) (by omega), q2 15 (by omega) (by omega), q2 16 (by omega) (by omega), q2 17 (by omega) (by omega), q2 18 (by omega) (by omega)⟩
theorem xS.A {S S' : lm_S} {vs : List vV} (q : xS S S') (h : rm_A S vs) : rm_A S' vs := h.keep (by rw [q.1]) (fun j _ h7 => q.2 j (by omega) (by omega))
theorem xS.rf {S : lm_S} : xS S S := ⟨rfl, fun _ _ _ => rfl⟩
theorem xS.tr {S S' S'' : lm_S} (h1 : xS S S') (h2 : xS S' S'') : xS S S'' := ⟨h2.1.trans h1.1, fun j a b => (h2.2 j a b).trans (h1.2 j a b)⟩
theorem sg_diff (p t : Int) : (if sgI p = sgI t then sgI p * cmN p.natAbs t.natAbs else if sgI t ≤ sgI p then 1 else -1) = sgI (p - t) := by
  have k1 : ∀ z : Int, z < 0 → sgI z = -1 := fun z hz => by unfold sgI; rw [if_pos hz]
  have k2 : ∀ z : Int, z = 0 → sgI z = 0 := fun z hz => by rw [hz]; rfl
  have k3 : ∀ z : Int, 0 < z → sgI z = 1 := fun z hz => by unfold sgI; rw [if_neg (by omega), if_neg (by omega)]
  have c1 : ∀ a b : Nat, a < b → cmN a b = -1 := fun a b hh => by unfold cmN; rw [if_pos hh]
  have c2 : ∀ a b : Nat, a = b → cmN a b = 0 := fun a b hh => by unfold cmN; rw [if_neg (by omega), if_pos hh]
  have c3 : ∀ a b : Nat, b < a → cmN a b = 1 := fun a b hh => by unfold cmN; rw [if_neg (by omega), if_neg (by omega)]
  rcases Int.lt_trichotomy p 0 with a | a | a <;> rcases Int.lt_trichotomy t 0 with b | b | b
  · rw [k1 p a, k1 t b, if_pos rfl]
    rcases Int.lt_trichotomy (p - t) 0 with c | c | c
    · rw [k1 _ c, c3 _ _ (by omega)]; rfl
    · rw [k2 _ c, c2 _ _ (by omega)]; rfl
    · rw [k3 _ c, c1 _ _ (by omega)]; rfl
  · rw [k1 p a, k2 t b, k1 (p - t) (by omega)]; rfl
  · rw [k1 p a, k3 t b, k1 (p - t) (by omega)]; rfl
  · rw [k2 p a, k1 t b, k3 (p - t) (by omega)]; rfl
  · rw [k2 p a, k2 t b, k2 (p - t) (by omega), if_pos rfl, Int32.zero_mul]
  · rw [k2 p a, k3 t b, k1 (p - t) (by omega)]; rfl
  · rw [k3 p a, k1 t b, k3 (p - t) (by omega)]; rfl
  · rw [k3 p a, k2 t b, k3 (p - t) (by omega)]; rfl
  · rw [k3 p a, k3 t b, if_pos rfl]
    rcases Int.lt_trichotomy (p - t) 0 with c | c | c
    · rw [k1 _ c, c1 _ _ (by omega)]; rfl
    · rw [k2 _ c, c2 _ _ (by omega)]; rfl
    · rw [k3 _ c, c3 _ _ (by omega)]; rfl
theorem rm_orderNumbers (G : Nat → Nat) (o : Nat) (h : hp_H) (S : lm_S) (vs : List vV) (ia ib : Nat) (x y : vV) (hA : rm_A S vs) (hx : vs[ia]? = some x) (hy : vs[ib]? = some y) : ∃ S', m_M_orderNumbers G o (nI (ia + 1)) (nI (ib + 1)) (lm_w o h S) = some (sgI (am9 x - am9 y), lm_w o h S') ∧ xS S S' := by
  obtain ⟨⟨r1, r2, r3, r4, r5, r6, r7⟩, wx, li, -⟩ := rm_at hA hx
  obtain ⟨⟨s1, s2, s3, s4, s5, s6, s7⟩, wy, lk, -⟩ := rm_at hA hy
  unfold m_M_orderNumbers m_M_orderNumbers_35
  have lx := b9 (am9_lt wx)
  have ly := b9 (am9_lt wy)
  simp (disch := (clear lx ly; omega)) only [lm_g3, lm_a3, Option.bind_some, r3, s3]
  rw [← am9_sg x, ← am9_sg y, ← sg_diff (am9 x) (am9 y)]
  by_cases c : sgI (am9 x) = sgI (am9 y)
  · rw [if_pos c, if_pos c]
    obtain ⟨f, e1, e2⟩ := rm_lay1 G o h S vs 11 (by unfold RJ; clear lx ly; omega) ia x hA hx
    have hA' : rm_A (S.1, lm_up S.2 11 f) vs := hA.keep rfl (fun c _ h7 => by clear lx ly; simp (disch := omega) only [lm_upn])
    obtain ⟨g, e3, e4⟩ := rm_lay1 G o h (S.1, lm_up S.2 11 f) vs 12 (by unfold RJ; clear lx ly; omega) ib y hA' hy
    have cmp := rm_compare G o h (S.1, lm_up (lm_up S.2 11 f) 12 g) 11 12 (by unfold RJ; clear lx ly; omega) (by unfold RJ; clear lx ly; omega) _ _ (by clear lx ly; simp (disch := omega) only [lm_upn, lm_ups]; exact e2) (by simp only [lm_ups]; exact e4) lx ly
    rw [cmN_9] at cmp
    simp (disch := (clear lx ly; omega)) only [lm_g17, lm_g18, lm_vck, e1, e3, Option.bind_some, lm_g3, lm_a3, lm_upn, r3, cmp]
    refine ⟨(S.1, lm_up (lm_up S.2 11 f) 12 g), by rw [am9_sg x], rfl, fun j j1 j2 => ?_⟩
    simp only [lm_upn _ _ j1, lm_upn _ _ j2]
  · rw [if_neg c, if_neg c]
    by_cases c2 : sgI (am9 y) ≤ sgI (am9 x)
    · rw [if_pos c2, if_pos c2]; exact ⟨S, rfl, xS.rf⟩
    · rw [if_neg c2, if_neg c2]; exact ⟨S, rfl, xS.rf⟩
/-! numbered -/
theorem jL_1018 {a : Nat} (h : a < 10 ^ 18) (d : Nat) : iL ((a / d : Nat) : Int) := by
  have := Nat.div_le_self a d
  generalize a / d = q at *
  unfold iL; omega
theorem rm_numbered_24 (G : Nat → Nat) (o : Nat) (h : hp_H) (S : lm_S) (vs : List vV) (v : Int) (pl : Nat) (w : Bool) (lv : v.natAbs < 10 ^ 18) (hpl : pl ≤ 9) (hA : rm_A S vs) : ∀ (n k : Nat) (f : Nat → Int32), k ≤ 18 → 18 - k < n → (∀ i, i < 64 → f i = nI (if 18 - pl ≤ i ∧ i < 18 - pl + k then dg v.natAbs (i - (18 - pl)) else 0)) → RK o h S vs (m_M_numbered_24 G n o (jL v) (nI pl) (bI w) (jL ((v.natAbs / 10 ^ k : Nat) : Int)) (nI k) (lm_w o h (S.1, lm_up S.2 11 f))) (nmI (v * 10 ^ (9 - pl)) w)
  | 0, k, f, _, hn, _ => by omega
  | n + 1, k, f, hk, hn, hz => by
    rw [m_M_numbered_24]
    by_cases e : k = 18
    · subst e
      rw [if_pos (by decide)]
      have hr : RV f ((v * 10 ^ (9 - pl)).natAbs * 10 ^ 9) := fun i hi => by
        have e1 : (v * 10 ^ (9 - pl)).natAbs * 10 ^ 9 = v.natAbs * 10 ^ (18 - pl) := by
          rw [Int.natAbs_mul, Int.natAbs_pow, Nat.mul_assoc]
          show v.natAbs * (10 ^ (9 - pl) * 10 ^ 9) = _
          rw [← Nat.pow_add, show 9 - pl + 9 = 18 - pl by clear lv; omega]
        rw [e1, hz i hi, dg_shift]
        refine congrArg nI ?_
        by_cases c : 18 - pl ≤ i
        · by_cases c2 : i < 18 - pl + 18
          · rw [if_pos ⟨c, c2⟩, if_pos c]
          · rw [if_neg (by clear lv e1; omega), if_pos c, dg_big lv (by clear lv e1; omega)]
        · rw [if_neg (by clear lv e1; omega), if_neg c]
      have lt : (v * 10 ^ (9 - pl)).natAbs < 10 ^ 55 := by
        have := am9_lt (x := (4, 0, v, pl, [])) ⟨by simp, by simp, lv, hpl, by simp, by simp⟩
        exact b27 this
      have sg : sgI (v * 10 ^ (9 - pl)) = sgI v := am9_sg (4, 0, v, pl, [])
      have hA' : rm_A (S.1, lm_up S.2 11 f) vs := hA.keep rfl (fun c _ h7 => by clear lv lt; simp (disch := omega) only [lm_upn])
      have fr : fS S (S.1, lm_up S.2 11 f) := by clear lv lt; simp (disch := omega) only [fS, lm_upn, and_self]
      have iv : iL v := by unfold iL; clear lt; omega
      have i0 : iL 0 := ⟨by decide, by decide⟩
      simp only [lm_g17, Option.bind_some]
      rw [show (0 : Int64) = jL 0 from rfl]
      unfold m_M_numbered_80
      simp only [lm_vck, bq]
      by_cases c : 0 ≤ v
      · rw [if_pos ((lgc_ge _ _).mpr ((jL_le i0 iv).mpr c))]
        exact RK.from fr (rm_number G o h _ vs 11 (by unfold RJ; clear lv lt; omega) _ _ w lt (fun q => by
          rw [sg]
          have : v ≠ 0 := fun q2 => q (by rw [q2, Int.zero_mul])
          unfold sgI; rw [if_neg (by clear lv lt; omega), if_neg this]) hA' (by simp only [lm_ups]; exact hr))
      · rw [if_neg (fun q => c ((jL_le i0 iv).mp ((lgc_ge _ _).mp q)))]
        exact RK.from fr (rm_number G o h _ vs 11 (by unfold RJ; clear lv lt; omega) _ _ w lt (fun q => by
          rw [sg]
          unfold sgI; rw [if_pos (by clear lv lt; omega)]) hA' (by simp only [lm_ups]; exact hr))
    · rw [if_neg (show ¬ (18 : Int32) ≤ nI k from nI_ge (a := k) (b := 18) (by omega) (by decide))]
      have i1 := jL_1018 lv (10 ^ k)
      have i10 : iL 10 := ⟨by decide, by decide⟩
      have m1 : ((v.natAbs / 10 ^ k : Nat) : Int).tmod 10 = (dg v.natAbs k : Int) := rfl
      have m2 : ((v.natAbs / 10 ^ k : Nat) : Int).tdiv 10 = ((v.natAbs / 10 ^ (k + 1) : Nat) : Int) := by
        rw [dv_s]; rfl
      have dd := dg_lt v.natAbs k
      simp only [lm_g17, Option.bind_some, show (10 : Int64) = jL 10 from rfl, hp_mL_j i1 i10 (by decide) (by decide), hp_dL_j i1 i10 (by decide) (by decide), m1, m2, jL_32, ← nI_iI, hp_nmE, nI_1]
      clear i1
      rw [show (18 : Int32) - nI pl + nI k = nI (18 - pl + k) by rw [il_18, pk_sub (by omega), nI_add], lm_s11 o h _ _ _ (by clear lv; omega)]
      simp only [Option.bind_some, lm_upu, lm_ups]
      exact rm_numbered_24 G o h S vs v pl w lv hpl hA n (k + 1) (upd f (18 - pl + k) (nI (dg v.natAbs k))) (by clear lv; omega) (by clear lv; omega) (fun i hi => by
        clear lv
        by_cases ei : i = 18 - pl + k
        · subst ei; rw [upd_s, if_pos (by omega), show 18 - pl + k - (18 - pl) = k by omega]
        · rw [upd_n _ _ ei, hz i hi]
          refine congrArg nI ?_
          by_cases c : 18 - pl ≤ i ∧ i < 18 - pl + k
          · rw [if_pos c, if_pos (by omega)]
          · rw [if_neg c, if_neg (by omega)])
theorem rm_numbered (G : Nat → Nat) (o : Nat) (h : hp_H) (S : lm_S) (vs : List vV) (v : Int) (pl : Nat) (w : Bool) (lv : v.natAbs < 10 ^ 18) (hpl : pl ≤ 9) (hA : rm_A S vs) : RK o h S vs (m_M_numbered G o (jL v) (nI pl) (bI w) (lm_w o h S)) (nmI (v * 10 ^ (9 - pl)) w) := by
  unfold m_M_numbered
  obtain ⟨f, e1, e2⟩ := rm_clear G o h S 11 (by unfold RJ; clear lv; omega)
  simp only [lm_g17, Option.bind_some, e1]
  have iv : iL v := by unfold iL; omega
  have i0 : iL 0 := ⟨by decide, by decide⟩
  have key := rm_numbered_24 G o h S vs v pl w lv hpl hA hp_fu 0 f (by decide) (by decide) (fun i hi => by rw [e2 i hi, dg_zero, if_neg (by clear lv; omega)])
  rw [Nat.pow_zero, Nat.div_one] at key
  unfold m_M_numbered_19
  simp only [hp_nmE]
  rw [show (0 : Int64) = jL 0 from rfl, jL_neg]
  by_cases c : 0 ≤ v
  · rw [if_pos ((lgc_ge _ _).mpr ((jL_le i0 iv).mpr c))]
    rw [show ((v.natAbs : Nat) : Int) = v by clear lv; omega] at key
    exact key
  · rw [if_neg (fun q => c ((jL_le i0 iv).mp ((lgc_ge _ _).mp q)))]
    rw [show ((v.natAbs : Nat) : Int) = -v by clear lv; omega] at key
    exact key
