/-! THE CLASS: count, outermost, sum, average -/
section
variable (G : Nat → Nat) {c q0 : Nat} {h : hp_H} {vs : List vV} {g : gG}
theorem cl_countGood_4 (X : GG G c q0 h vs g) : ∀ (n k : Nat), g.2.2.2.length - k < n → k ≤ g.2.2.2.length → m_G_countGood_4 G n (c + 17) (nI (cnG (g.2.2.2.take k))) (nI k) h = some (nI (cnG g.2.2.2), h)
  | 0, k, hn, _ => by omega
  | n + 1, k, hn, hk => by
    have h5 := X.2.2.2.2.1
    have hl := X.2.1.2.1
    rw [m_G_countGood_4, X.g8, bs]
    simp only [nI_leI (show g.2.2.2.length < 2 ^ 31 by omega) (show k < 2 ^ 31 by omega)]
    by_cases e : g.2.2.2.length ≤ k
    · rw [if_pos e, List.take_of_length_le e]; rfl
    · obtain ⟨m, hm⟩ : ∃ m, g.2.2.2[k]? = some m := ⟨_, List.getElem?_eq_getElem (by omega)⟩
      obtain ⟨a1, a2, a3⟩ := X.at G hm
      have IH := cl_countGood_4 X n (k + 1) (by omega) (by omega)
      rw [List.take_succ, hm, show (some m).toList = [m] from rfl, cnG_snoc] at IH
      rw [if_neg e, if_neg (show ¬ (500 : Int32) ≤ nI k from nI_ge (a := k) (b := 500) (by omega) (by decide)), X.g1, bs, a1, bs]
      unfold m_G_countGood_31
      rw [hp_nmE, hp_nmE, hp_nmE, nI_1, nI_1]
      by_cases m0 : m = 0
      · rw [if_pos m0] at IH
        rw [if_pos (by rw [m0]; decide)]; exact IH
      · rw [if_neg m0] at IH
        rw [if_neg (nI_nle (by omega) (by omega))]; exact IH
theorem cl_countGood (X : GG G c q0 h vs g) : m_G_countGood G (c + 17) h = some (nI (cnG g.2.2.2), h) := by
  have h5 := X.2.2.2.2.1
  unfold m_G_countGood
  rw [hp_nmE, hp_nmE]
  exact cl_countGood_4 G X hp_fu 0 (by unfold hp_fu; omega) (by omega)
theorem cl_outermost_5 (X : GG G c q0 h vs g) (w : Int32) : ∀ (n k : Nat) (b : Option vV), g.2.2.2.length - k < n → k ≤ g.2.2.2.length → (∀ x, b = some x → x ∈ vs) → m_G_outermost_5 G n (c + 17) w (gI vs b) (nI k) h = some (gI vs (exV w ((g.2.2.2.drop k).map (gv vs)) b), h)
  | 0, k, b, hn, _, _ => by omega
  | n + 1, k, b, hn, hk, hb => by
    have h5 := X.2.2.2.2.1
    have hl := X.2.1.2.1
    have hd := X.2.1.1
    rw [m_G_outermost_5, X.g8, bs]
    simp only [nI_leI (show g.2.2.2.length < 2 ^ 31 by omega) (show k < 2 ^ 31 by omega)]
    by_cases e : g.2.2.2.length ≤ k
    · rw [if_pos e, List.drop_eq_nil_of_le e, List.map_nil, exV]; rfl
    · obtain ⟨m, hm⟩ : ∃ m, g.2.2.2[k]? = some m := ⟨_, List.getElem?_eq_getElem (by omega)⟩
      have hdr : g.2.2.2.drop k = m :: g.2.2.2.drop (k + 1) := by
        obtain ⟨hk2, e⟩ := List.getElem?_eq_some_iff.mp hm
        rw [List.drop_eq_getElem_cons hk2, e]
      obtain ⟨a1, a2, a3⟩ := X.at G hm
      rw [if_neg e, if_neg (show ¬ (500 : Int32) ≤ nI k from nI_ge (a := k) (b := 500) (by omega) (by decide)), X.g1, bs, a1, bs, hp_nmE, hdr, List.map_cons]
      unfold m_G_outermost_63 m_G_outermost_66
      simp only [hp_nmE, nI_1]
      by_cases m0 : m = 0
      · subst m0
        have : gv vs 0 = none := rfl
        rw [if_pos (by decide), this, exV]
        exact cl_outermost_5 X w n (k + 1) b (by omega) (by omega) hb
      · obtain ⟨i, x, rfl, hx, hgv⟩ := gv_n a2 m0
        have hix := idx_at hd hx
        have gx : gI vs (some x) = nI (i + 1) := by rw [gI, hix]
        rw [if_neg (nI_nle (by omega) (by omega)), hgv]
        have mx := List.mem_of_getElem? hx
        cases b with
        | none =>
          rw [if_pos (show gI vs none = -4 from rfl), exV, ← gx]
          exact cl_outermost_5 X w n (k + 1) (some x) (by omega) (by omega) (fun y hy => by cases hy; exact mx)
        | some y =>
          have my := hb y rfl
          obtain ⟨j, hj, ey⟩ := List.getElem_of_mem my
          have hy : vs[j]? = some y := by rw [List.getElem?_eq_getElem hj, ey]
          have gy : gI vs (some y) = nI (j + 1) := by rw [gI, idx_at hd hy]
          obtain ⟨p, p1, p2⟩ := X.v G a2
          obtain ⟨r, r1, r2⟩ := X.v G (show j + 1 ≤ vs.length by omega)
          rw [hgv] at p2
          rw [show gv vs (j + 1) = some y from hy] at r2
          have qx := X.2.1.2.2 x mx
          have qy := X.2.1.2.2 y my
          rw [if_neg (show ¬ gI vs (some y) = -4 by
            rw [gy, show (-4 : Int32) = iI (-4) from rfl, nI_iI, iI_eq (by omega) (by omega) (by omega) (by omega)]; omega), X.g0, bs, X.sk, p1, bs, X.g0, bs, X.sk, gy, r1, bs, p2.k, cl_comparedTo G X.1.2.2.2.2.2.2 p2 r2 qx.1 qy.1 qx.2 qy.2, bs, exV]
          by_cases cw : ordV ((some x).getD vD) ((some y).getD vD) = w
          · rw [if_pos cw, if_pos (show ordV x y = w from cw), ← gx]
            exact cl_outermost_5 X w n (k + 1) (some x) (by omega) (by omega) (fun y hy => by cases hy; exact mx)
          · rw [if_neg cw, if_neg (show ¬ ordV x y = w from cw), ← gy]
            exact cl_outermost_5 X w n (k + 1) (some y) (by omega) (by omega) (fun z hz => by cases hz; exact my)
theorem cl_outermost (X : GG G c q0 h vs g) (w : Int32) : m_G_outermost G (c + 17) w h = some (gI vs (exV w (g.2.2.2.map (gv vs)) none), h) := by
  have h5 := X.2.2.2.2.1
  have key := cl_outermost_5 G X w hp_fu 0 none (by unfold hp_fu; omega) (by omega) (fun x hx => by cases hx)
  unfold m_G_outermost
  rw [hp_nmE, hp_nmE]
  rw [List.drop_zero] at key
  exact key
theorem fit_f (t : Int) : fit t = ftB t.natAbs := rfl
theorem rd_am {t : Int} {a : Int} {s : Nat} (ha : a = t.sign * ((rd 9 t.natAbs).1 : Int)) (hs : s = (rd 9 t.natAbs).2) : am9 (0, 0, a, s, []) = t := by
  have h1 := rd_v 9 t.natAbs
  show a * 10 ^ (9 - s) = t
  rw [ha, hs, Int.mul_assoc]
  have : ((rd 9 t.natAbs).1 : Int) * 10 ^ (9 - (rd 9 t.natAbs).2) = ((t.natAbs : Nat) : Int) := by
    conv => rhs; rw [h1]
    rw [Int.natCast_mul, Int.natCast_pow]; rfl
  rw [this, Int.sign_mul_natAbs]
/-- what the sum leaves -/
def KS (c : Nat) (h : hp_H) (o : Option (Int × Bool)) : Prop := match o with
  | some (t, w) => KN c h 22 w t ∧ fit t = true
  | none => ∃ w a s, KR c h 22 false w a s
theorem cl_sum_12 (h0 : hp_H) : ∀ (n k : Nat) (h : hp_H) (t : Int) (w : Bool), g.2.2.2.length - k < n → k ≤ g.2.2.2.length → GG G c q0 h vs g → chg c [22] h0 h → KN c h 22 w t → fit t = true → ∃ h', m_G_reckonSum_12 G n (c + 17) (nI k) h = some ((), h') ∧ GG G c q0 h' vs g ∧ chg c [22] h0 h' ∧ KS c h' (smA ((g.2.2.2.drop k).map (gv vs)) t w)
  | 0, k, h, t, w, hn, _, _, _, _, _ => by omega
  | n + 1, k, h, t, w, hn, hk, X, C, kn, hf => by
    have h5 := X.2.2.2.2.1
    have hl := X.2.1.2.1
    have hs := X.1.2.2.2.2.2.2
    obtain ⟨a, s, kr, ke⟩ := id kn
    rw [← fit_f, hf] at kr ke
    obtain ⟨ea, es⟩ := ke rfl
    have am := rd_am ea es
    rw [m_G_reckonSum_12, X.g8, bs]
    simp only [nI_leI (show g.2.2.2.length < 2 ^ 31 by omega) (show k < 2 ^ 31 by omega)]
    by_cases e : g.2.2.2.length ≤ k
    · rw [if_pos e, List.drop_eq_nil_of_le e, List.map_nil, smA]
      exact ⟨h, rfl, X, C, kn, hf⟩
    · obtain ⟨m, hm⟩ : ∃ m, g.2.2.2[k]? = some m := ⟨_, List.getElem?_eq_getElem (by omega)⟩
      have hdr : g.2.2.2.drop k = m :: g.2.2.2.drop (k + 1) := by
        obtain ⟨hk2, e⟩ := List.getElem?_eq_some_iff.mp hm
        rw [List.drop_eq_getElem_cons hk2, e]
      obtain ⟨a1, a2, a3⟩ := X.at G hm
      obtain ⟨p, p1, p2⟩ := X.v G a2
      have stop : ∀ (h2 : hp_H), GG G c q0 h2 vs g → chg c [22] h0 h2 → (∃ w a s, KR c h2 22 false w a s) → ∃ h', m_G_reckonSum_97 G (m_G_reckonSum_12 G n) (c + 17) (nI k) h2 = some ((), h') ∧ GG G c q0 h' vs g ∧ chg c [22] h0 h' ∧ KS c h' none := fun h2 X2 C2 kf => by
        unfold m_G_reckonSum_97
        rw [hp_nmE, nI_1]
        obtain ⟨n', rfl⟩ : ∃ n', n = n' + 1 := ⟨n - 1, by omega⟩
        obtain ⟨w', a', s', kr'⟩ := kf
        rw [m_G_reckonSum_12, X2.g8, bs]
        unfold m_G_reckonSum_103
        simp only [nI_leI (show g.2.2.2.length < 2 ^ 31 by omega) (show k + 1 < 2 ^ 31 by omega)]
        by_cases e2 : g.2.2.2.length ≤ k + 1
        · rw [if_pos e2]; exact ⟨h2, rfl, X2, C2, w', a', s', kr'⟩
        · rw [if_neg e2, if_neg (show ¬ (500 : Int32) ≤ nI (k + 1) from nI_ge (a := k + 1) (b := 500) (by omega) (by decide)), X2.g4, bs, gI_e (k := 0) kr'.1 rfl, bs, if_pos (show bI false = 0 from rfl)]
          exact ⟨h2, rfl, X2, C2, w', a', s', kr'⟩
      rw [if_neg e, if_neg (show ¬ (500 : Int32) ≤ nI k from nI_ge (a := k) (b := 500) (by omega) (by decide)), X.g4, bs, gI_e (k := 0) kr.1 rfl, bs, if_neg (show ¬ bI true = 0 by decide), X.g0, bs, X.g1, bs, a1, bs, X.sk, p1, bs, hp_nmE, p2.k, hdr, List.map_cons]
      have kfalse : ∃ h2, hp_pZ h (c + 22) 6 0 0 = some h2 ∧ GG G c q0 h2 vs g ∧ chg c [22] h0 h2 ∧ ∃ w a s, KR c h2 22 false w a s := by
        refine ⟨_, pZ_e (k := 0) kr.1 false (by simp), X.q G (chg_st (k := 22) _ (by simp)) ⟨_, _, _, _, stC_s _ _ _, kr.2⟩, C.tr (chg_st (k := 22) _ (by simp)), w, a, s, stC_s _ _ _, kr.2⟩
      cases hv : gv vs m with
      | none =>
        rw [hv] at p2
        have p2 : VP c h p vD := p2
        rw [cl_isNumber G p2 (show vD.1 ≤ 8 by decide), bs, if_pos (show bI (nbV vD) = 0 from rfl), X.g4, bs, smA]
        obtain ⟨h2, f1, f2, f3, f4⟩ := kfalse
        rw [f1, bs]
        exact stop h2 f2 f3 f4
      | some x =>
        rw [hv] at p2
        have p2 : VP c h p x := p2
        obtain ⟨ox, lx, wx, -⟩ := gv_O G X hv
        have x1 := wx.1
        rw [cl_isNumber G p2 x1, bs, smA]
        cases hn : nbV x with
        | false =>
          rw [if_pos (show bI false = 0 from rfl), X.g4, bs, if_neg (show ¬ false = true by decide)]
          obtain ⟨h2, f1, f2, f3, f4⟩ := kfalse
          rw [f1, bs]
          exact stop h2 f2 f3 f4
        | true =>
          rw [if_neg (show ¬ bI true = 0 by decide), X.g4, bs, p2.g0, bs, bI_3 x.1 (by omega) (fun z => m_G_reckonSum_75 G (m_G_reckonSum_12 G n) (c + 17) (nI k) p z (c + 22) h), if_pos (show true = true from rfl)]
          unfold m_G_reckonSum_75
          obtain ⟨h2, f1, f2, f3⟩ := cl_plus G hs kr (x.1 == 3) x.2.2.1 x.2.2.2.1 wx.2.2.1 wx.2.2.2.1
          have f3 : KN c h2 22 (w && x.1 == 3) (am9 (0, 0, a, s, []) + am9 x) := f3
          rw [am] at f3
          have X2 : GG G c q0 h2 vs g := X.q G f2 (by obtain ⟨a', s', r', -⟩ := f3; exact ⟨_, _, _, _, r'⟩)
          rw [p2.g2, bs, p2.g3, bs, kr.k1, f1, bs]
          cases hf2 : fit (t + am9 x) with
          | false =>
            rw [if_neg (show ¬ false = true by decide)]
            refine stop h2 X2 (C.tr f2) ?_
            obtain ⟨a', s', r', -⟩ := f3
            rw [← fit_f, hf2] at r'
            exact ⟨_, a', s', r'⟩
          | true =>
            rw [if_pos (show true = true from rfl)]
            unfold m_G_reckonSum_97
            rw [hp_nmE, nI_1]
            exact cl_sum_12 h0 n (k + 1) h2 (t + am9 x) (w && x.1 == 3) (by omega) (by omega) X2 (C.tr f2) f3 hf2
theorem cl_sum (X : GG G c q0 h vs g) : ∃ h', m_G_reckonSum G (c + 17) h = some ((), h') ∧ GG G c q0 h' vs g ∧ chg c [22] h h' ∧ KS c h' (smA (g.2.2.2.map (gv vs)) 0 true) := by
  have h5 := X.2.2.2.2.1
  obtain ⟨b, w, a, s, kr⟩ := X.2.2.2.2.2.2.2.2.2
  unfold m_G_reckonSum
  obtain ⟨h1, e1, e2, e3⟩ := cl_start G kr true 0 0 (by decide) (by decide)
  rw [X.g4, bs, kr.k1, show m_K_start G (c + 22) 1 0 0 h = _ from e1, bs, hp_nmE]
  have X1 : GG G c q0 h1 vs g := X.q G e3 ⟨_, _, _, _, e2⟩
  have r0 : rd 9 (0 : Int).natAbs = (0, 0) := rfl
  have key := cl_sum_12 G (g := g) (vs := vs) (q0 := q0) h hp_fu 0 h1 0 true (by unfold hp_fu; omega) (by omega) X1 e3 ⟨0, 0, e2, fun _ => ⟨by rw [r0]; rfl, by rw [r0]⟩⟩ (by rw [fit_f]; rfl)
  rw [List.drop_zero] at key
  exact key
theorem qtz_av {t : Int} {a : Int} {s m : Nat} (hs : s ≤ 9) (ha : a = t.sign * ((rd 9 t.natAbs).1 : Int)) (he : s = (rd 9 t.natAbs).2) (hm : 0 < m) : qtz a s ((m : Nat) : Int) 0 = av9 t m := by
  have am := rd_am ha he
  have n1 : t.natAbs = a.natAbs * 10 ^ (9 - s) := by rw [← am]; exact am9_abs (0, 0, a, s, [])
  have sg : (a * ((m : Nat) : Int)).sign = t.sign := by
    rw [Int.sign_mul, Int.sign_eq_one_of_pos (show (0 : Int) < ((m : Nat) : Int) by omega), Int.mul_one]
    rw [← am]
    show a.sign = (a * 10 ^ (9 - s)).sign
    rw [Int.sign_mul, Int.sign_eq_one_of_pos (show (0 : Int) < 10 ^ (9 - s) from Int.pow_pos (by decide)), Int.mul_one]
  unfold qtz av9
  rw [sg, Int.natAbs_natCast, n1, rnd9 hm]
  have := rnd10 (N := a.natAbs * 10 ^ (9 - s)) hm
  rw [Nat.mul_assoc, ← Nat.pow_succ, show (9 - s).succ = 10 + 0 - s by omega] at this
  rw [this]
end
