/-! average -/
def av9 (t : Int) (m : Nat) : Int := t.sign * (((t.natAbs * 10 ^ 9 / m + 500000000) / 10 ^ 9 : Nat) : Int)
theorem av9_sg (t : Int) (m : Nat) : (av9 t m ≠ 0 → sgI t = sgI (av9 t m)) ∧ (av9 t m).natAbs = (t.natAbs * 10 ^ 9 / m + 500000000) / 10 ^ 9 := by
  unfold av9
  generalize hq : (t.natAbs * 10 ^ 9 / m + 500000000) / 10 ^ 9 = q
  rcases Int.lt_trichotomy t 0 with e | e | e
  · rw [Int.sign_eq_neg_one_of_neg e]
    exact ⟨fun c => sgI_cg (by omega) (by omega), by omega⟩
  · have : q = 0 := by rw [← hq, e]; simp
    rw [e, this]
    exact ⟨fun c => absurd rfl c, rfl⟩
  · rw [Int.sign_eq_one_of_pos e]
    exact ⟨fun c => sgI_cg (by omega) (by omega), by omega⟩
theorem av_b {N m : Nat} (h : N < 10 ^ 36) : N / m + 10 ^ 9 < 10 ^ 64 ∧ (N / m + 500000000) / 10 ^ 9 < 10 ^ 55 := by
  have : N / m ≤ N := Nat.div_le_self _ _
  omega
theorem av_c {N m c : Nat} (h : N < 10 ^ 36) : N / 10 ^ c / m * 10 ^ c < 10 ^ 64 := by
  have h1 : N / 10 ^ c / m ≤ N / 10 ^ c := Nat.div_le_self _ _
  have h2 : N / 10 ^ c * 10 ^ c ≤ N := Nat.div_mul_le_self _ _
  have h3 := Nat.mul_le_mul_right (10 ^ c) h1
  generalize N / 10 ^ c / m * 10 ^ c = a at *
  generalize N / 10 ^ c * 10 ^ c = b at *
  omega
def L36 (N : Nat) : Prop := N < 10 ^ 36
theorem b36 {a : Nat} (h : a < 10 ^ 27) : a * 10 ^ 9 < 10 ^ 36 := by omega
theorem rm_average_37 (G : Nat → Nat) (o : Nat) (h : hp_H) (vs : List vV) (t : Int) (a : Int) (N m : Nat) (hm : 0 < m) (hm5 : m ≤ 500) (hN : L36 N) (ha : a.natAbs = (N / m + 500000000) / 10 ^ 9) (hs : a ≠ 0 → sgI t = sgI a) : ∀ (n c : Nat) (S : lm_S), c ≤ 64 → c < n → rm_A S vs → S.1 26 = nI m → S.1 31 = sgI t → RV (S.2 19) N → RV (S.2 13) (N / 10 ^ c / m * 10 ^ c) → RK o h S vs (m_M_average_37 G n o (nI (N / 10 ^ c % m)) (iI ((c : Int) - 1)) (lm_w o h S)) (nmI a false)
  | 0, c, S, _, hn, _, _, _, _, _ => by omega
  | n + 1, c, S, hc, hn, hA, h26, h31, r19, r13 => by
    obtain ⟨b2, b3⟩ := av_b (m := m) hN
    have b1 := av_c (m := m) (c := c) hN
    rw [m_M_average_37]
    have cond : (iI ((c : Int) - 1) < 0) ↔ c = 0 := by
      clear b1 b2 b3 ha
      rw [show (0 : Int32) = iI 0 from rfl, iI_lt (by omega) (by omega) (by omega) (by omega)]
      omega
    cases c with
    | zero =>
      rw [if_pos (cond.mpr rfl)]
      rw [Nat.pow_zero, Nat.div_one, Nat.mul_one] at r13
      obtain ⟨f, e1, e2⟩ := rm_round G o h S 13 (by unfold RJ; clear b1 b2 b3 ha; omega) _ b2 r13
      rw [← ha] at e2 b3
      have hA' : rm_A (S.1, lm_up S.2 13 f) vs := hA.keep rfl (fun c _ h7 => by clear b1 b2 b3 ha; simp (disch := omega) only [lm_upn])
      simp only [lm_g19, e1, bs, lm_g31, h31, lm_vck, show (0 : Int32) = bI false from rfl, bq]
      refine RK.from ?_ (rm_number G o h _ vs 13 (by unfold RJ; clear b1 b2 b3 ha; omega) a _ false b3 hs hA' (by simp only [lm_ups]; exact e2))
      clear b1 b2 b3 ha
      simp (disch := omega) only [fS, lm_upn, and_self]
    | succ c =>
      rw [if_neg (fun q => by have := cond.mp q; omega)]
      have dd := dg_lt N c
      obtain ⟨z1, z2⟩ := q_step (N := N) (B := m) (c := c) hm
      have hR : N / 10 ^ (c + 1) % m < m := Nat.mod_lt _ hm
      have i1 : iI (((c + 1 : Nat) : Int) - 1) = nI c := iI_nat (by omega)
      have l19 := lm_a19 o h S c (by clear b1 b2 b3 ha z1; omega)
      rw [r19 c (by clear b1 b2 b3 ha z1; omega)] at l19
      have q9 : (10 * (N / 10 ^ (c + 1) % m) + dg N c) / m < 10 := by
        refine Nat.div_lt_of_lt_mul ?_
        clear b1 b2 b3 z1 z2 ha
        generalize N / 10 ^ (c + 1) % m = R at *
        omega
      have b5 : 10 * (N / 10 ^ (c + 1) % m) + dg N c < 2 ^ 31 := by
        clear b1 b2 b3 z1 z2 ha q9
        generalize N / 10 ^ (c + 1) % m = R at *
        omega
      have i2 : (10 : Int32) * nI (N / 10 ^ (c + 1) % m) + nI (dg N c) = nI (10 * (N / 10 ^ (c + 1) % m) + dg N c) := by rw [show (10 : Int32) = nI 10 from rfl, pk_mul, nI_add]
      obtain ⟨w, w1, w2, w3⟩ := RV_upd r13 b1 (show c < 64 by clear b1 b2 b3 z1 z2 ha; omega) q9
      have w4 : w = N / 10 ^ c / m * 10 ^ c := by
        rw [dg_shift, if_neg (by omega), Nat.zero_mul, Nat.add_zero] at w2
        rw [w2, z1, Nat.add_mul, Nat.pow_succ, Nat.mul_comm (10 ^ c) 10, ← Nat.mul_assoc, Nat.mul_comm _ 10]
      rw [w4] at w1
      have s13 := lm_s13 o h S c (nI ((10 * (N / 10 ^ (c + 1) % m) + dg N c) / m)) (by clear b1 b2 b3 z1 z2 ha w2; omega)
      simp only [i1, lm_g30, l19, bs, i2, hp_nmE, lm_g19, lm_g26, h26, hp_dI_n b5 hm (show m < 2 ^ 31 by clear b1 b2 b3 z1 z2 ha w2; omega), hp_mI_n b5 hm (show m < 2 ^ 31 by clear b1 b2 b3 z1 z2 ha w2; omega), s13, ← z2]
      rw [show nI c + -1 = iI ((c : Int) - 1) by rw [show (-1 : Int32) = iI (-1) from rfl, nI_iI, iI_add]; exact congrArg iI (by omega)]
      have hA' : rm_A (S.1, lm_up S.2 13 (upd (S.2 13) c (nI ((10 * (N / 10 ^ (c + 1) % m) + dg N c) / m)))) vs := hA.keep rfl (fun c _ h7 => by
        clear b1 b2 b3 z1 z2 ha w2
        simp (disch := omega) only [lm_upn])
      refine RK.from ?_ (rm_average_37 G o h vs t a N m hm hm5 hN ha hs n c _ (by omega) (by omega) hA' h26 h31 (by clear b1 b2 b3 z1 z2 ha w2; simp (disch := omega) only [lm_upn]; exact r19) (by simp only [lm_ups]; exact w1))
      clear b1 b2 b3 z1 z2 ha w2
      simp (disch := omega) only [fS, lm_upn, and_self]
def avV (vs : List vV) (its : List Nat) : Option vV := match smA (its.map (gv vs)) 0 true with
  | none => none
  | some (t, _) => if its.length = 0 then nmI 0 true else nmI (av9 t its.length) false
theorem rm_average (G : Nat → Nat) (o : Nat) (h : hp_H) (S : lm_S) (vs : List vV) (g : gG) (hA : rm_A S vs) (hg : rm_G S vs g) : RK o h S vs (m_M_average G o (lm_w o h S)) (avV vs g.2.2.2) := by
  have h6 := hg.2.2.1
  obtain ⟨S1, f1, f2, f3⟩ := rm_sumAll G o h S vs g hA hg
  have hA1 := f1.A hA
  have hg1 : rm_G S1 vs g := by
    have := hg.f f1.f.r []
    rw [List.append_nil] at this
    exact this
  unfold m_M_average avV
  rw [lm_vck, f2, bs]
  cases hs : smA (g.2.2.2.map (gv vs)) 0 true with
  | none =>
    rw [if_pos (show bI (none : Option (Int × Bool)).isSome = 0 from rfl)]
    exact ⟨S1, rfl, hA1, f1.f⟩
  | some p =>
    obtain ⟨t, w⟩ := p
    rw [if_neg (show ¬ bI (some (t, w)).isSome = 0 from (by decide : ¬ bI true = 0))]
    obtain ⟨k1, k2, k3, k4⟩ := f3 t w hs
    have b := b36 k1
    clear k1
    simp only [lm_g26, hg1.1.1, bs, ie_0 (show g.2.2.2.length < 2 ^ 31 by clear b; omega)]
    by_cases c : g.2.2.2.length = 0
    · rw [if_pos c, if_pos c, lm_vck, bq]
      have := rm_numbered G o h S1 vs 0 0 true (by decide) (by decide) hA1
      rw [Int.zero_mul] at this
      exact RK.from f1.f this
    · rw [if_neg c, if_neg c]
      obtain ⟨f, e1, e2⟩ := rm_clear G o h S1 13 (by unfold RJ; clear b; omega)
      simp only [lm_g19, e1, bs, hp_nmE]
      obtain ⟨p1, p2⟩ := av9_sg t g.2.2.2.length
      have hA' : rm_A (S1.1, lm_up S1.2 13 f) vs := hA1.keep rfl (fun c _ h7 => by clear b p2; simp (disch := omega) only [lm_upn])
      have key := rm_average_37 G o h vs t (av9 t g.2.2.2.length) (t.natAbs * 10 ^ 9) g.2.2.2.length (by clear b p2; omega) h6 b p2 p1 hp_fu 64 (S1.1, lm_up S1.2 13 f) (by decide) (by unfold hp_fu; clear b p2; omega) hA' hg1.1.1 k3 (by clear b p2; simp (disch := omega) only [lm_upn]; exact k2) (by
        have z : t.natAbs * 10 ^ 9 / 10 ^ 64 = 0 := Nat.div_eq_of_lt (Nat.lt_trans b (Nat.pow_lt_pow_right (by decide) (by decide)))
        rw [z, Nat.zero_div, Nat.zero_mul]
        simp only [lm_ups]; exact e2)
      have z : t.natAbs * 10 ^ 9 / 10 ^ 64 = 0 := Nat.div_eq_of_lt (Nat.lt_trans b (Nat.pow_lt_pow_right (by decide) (by decide)))
      rw [z, Nat.zero_mod] at key
      refine RK.from f1.f (RK.from ?_ key)
      clear b p2 z
      simp (disch := omega) only [fS, lm_upn, and_self]
/-! extreme: the least (-1) or the greatest (1) -/
def exV (w : Int32) : List (Option vV) → Option vV → Option vV
  | [], b => b
  | none :: r, b => exV w r b
  | some x :: r, none => exV w r (some x)
  | some x :: r, some y => exV w r (if ordV x y = w then some x else some y)
def gI (vs : List vV) : Option vV → Int32
  | none => -4
  | some x => nI (vs.idxOf x + 1)
theorem idx_at {vs : List vV} {i : Nat} {x : vV} (hd : vs.Nodup) (h : vs[i]? = some x) : vs.idxOf x = i := by
  refine idx_of h (fun j hj q => ?_)
  have h1 := (List.getElem?_eq_some_iff.mp h)
  have h2 := (List.getElem?_eq_some_iff.mp q)
  obtain ⟨l1, e1⟩ := h1
  obtain ⟨l2, e2⟩ := h2
  have := (List.getElem_inj hd (h₀ := l2) (h₁ := l1)).mp (e2.trans e1.symm)
  omega
theorem rm_extreme_5 (G : Nat → Nat) (o : Nat) (h : hp_H) (S0 : lm_S) (vs : List vV) (g : gG) (w : Int32) (hd : vs.Nodup) : ∀ (n k : Nat) (S : lm_S) (b : Option vV), k ≤ g.2.2.2.length → g.2.2.2.length - k < n → rm_A S vs → rm_G S vs g → xS S0 S → (∀ x, b = some x → x ∈ vs) → ∃ S', m_M_extreme_5 G n o w (gI vs b) (nI k) (lm_w o h S) = some (gI vs (exV w ((g.2.2.2.drop k).map (gv vs)) b), lm_w o h S') ∧ xS S0 S'
  | 0, k, S, b, _, hn, _, _, _, _ => by omega
  | n + 1, k, S, b, hk, hn, hA, hg, hS, hb => by
    obtain ⟨⟨h1, -, -, -⟩, -, h6, -, h8⟩ := id hg
    have hl := hA.2.1
    rw [m_M_extreme_5]
    simp only [lm_g26, h1, bs, nI_leI (show g.2.2.2.length < 2 ^ 31 by omega) (show k < 2 ^ 31 by omega)]
    by_cases c : g.2.2.2.length ≤ k
    · rw [if_pos c, List.drop_eq_nil_of_le c, List.map_nil, exV]
      exact ⟨S, rfl, hS⟩
    · rw [if_neg c]
      obtain ⟨m, hm⟩ : ∃ m, g.2.2.2[k]? = some m := ⟨_, List.getElem?_eq_getElem (by omega)⟩
      have hdr : g.2.2.2.drop k = m :: g.2.2.2.drop (k + 1) := by
        obtain ⟨hk2, e⟩ := List.getElem?_eq_some_iff.mp hm
        rw [List.drop_eq_getElem_cons hk2, e]
      have l18 := lm_a18 o h S k (by omega)
      rw [(h8 k m hm).1] at l18
      have ml := (h8 k m hm).2
      simp only [lm_g25, l18, bs, hp_nmE]
      rw [hdr, List.map_cons]
      by_cases m0 : m = 0
      · subst m0
        rw [if_pos (by decide), m_M_extreme_46]
        simp only [hp_nmE, nI_1]
        have : gv vs 0 = none := rfl
        rw [this, exV]
        exact rm_extreme_5 G o h S0 vs g w hd n (k + 1) S b (by omega) (by omega) hA hg hS hb
      · obtain ⟨i, x, rfl, hx, hgv⟩ := gv_n ml m0
        obtain ⟨hrx, wx, li, -⟩ := rm_at hA hx
        have hix := idx_at hd hx
        have gx : gI vs (some x) = nI (i + 1) := by rw [gI, hix]
        rw [if_neg (nI_nle (by omega) (by omega)), hgv]
        have mx := List.mem_of_getElem? hx
        cases b with
        | none =>
          rw [if_pos (show gI vs none = -4 from rfl), m_M_extreme_43, exV]
          simp only [hp_nmE, nI_1, m_M_extreme_46]
          rw [← gx]
          exact rm_extreme_5 G o h S0 vs g w hd n (k + 1) S (some x) (by omega) (by omega) hA hg hS (fun y hy => by cases hy; exact mx)
        | some y =>
          have my := hb y rfl
          obtain ⟨j, hj, ey⟩ := List.getElem_of_mem my
          have hy : vs[j]? = some y := by rw [List.getElem?_eq_getElem hj, ey]
          have gy : gI vs (some y) = nI (j + 1) := by rw [gI, idx_at hd hy]
          rw [if_neg (show ¬ gI vs (some y) = -4 by
            rw [gy, show (-4 : Int32) = iI (-4) from rfl, nI_iI, iI_eq (by omega) (by omega) (by omega) (by omega)]; omega)]
          obtain ⟨S1, e1, e2⟩ := rm_orderOf G o h S vs i j x y hA hx hy
          rw [gy, lm_vck, e1, bs, exV]
          have hg1 : rm_G S1 vs g := by
            have := hg.f e2.f.r []
            rw [List.append_nil] at this
            exact this
          by_cases cw : ordV x y = w
          · rw [if_pos cw, if_pos cw, m_M_extreme_43]
            simp only [hp_nmE, nI_1, m_M_extreme_46]
            rw [← gx]
            exact rm_extreme_5 G o h S0 vs g w hd n (k + 1) S1 (some x) (by omega) (by omega) (e2.A hA) hg1 (hS.tr e2) (fun y hy => by cases hy; exact mx)
          · rw [if_neg cw, if_neg cw, m_M_extreme_46]
            simp only [hp_nmE, nI_1]
            rw [← gy]
            exact rm_extreme_5 G o h S0 vs g w hd n (k + 1) S1 (some y) (by omega) (by omega) (e2.A hA) hg1 (hS.tr e2) (fun z hz => by cases hz; exact my)
theorem rm_extreme (G : Nat → Nat) (o : Nat) (h : hp_H) (S : lm_S) (vs : List vV) (g : gG) (w : Int32) (hd : vs.Nodup) (hA : rm_A S vs) (hg : rm_G S vs g) : ∃ S', m_M_extreme G o w (lm_w o h S) = some (gI vs (exV w (g.2.2.2.map (gv vs)) none), lm_w o h S') ∧ xS S S' := by
  have h6 := hg.2.2.1
  have key := rm_extreme_5 G o h S vs g w hd hp_fu 0 S none (by omega) (by unfold hp_fu; omega) hA hg xS.rf (fun x hx => by cases hx)
  unfold m_M_extreme
  simp only [hp_nmE]
  rw [List.drop_zero] at key
  exact key
