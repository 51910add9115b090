/-! truth of three kinds, equal, less -/
def tI (t : Option Bool) : Int32 := match t with
  | none => -4
  | some b => bI b
def truV (x : vV) : Option Bool := if x.1 = 8 then some (x.2.1 == 1) else if nbV x then some (!decide (x.2.2.1 = 0)) else if x.1 = 5 then some (!decide (x.2.2.2.2.length = 0)) else none
theorem rm_bit (G : Nat → Nat) (h : hp_H) (b : Bool) : m_M_bit G (bI b) h = some (bI b, h) := by cases b <;> rfl
theorem rm_bit1 (G : Nat → Nat) (h : hp_H) : m_M_bit G 1 h = some (1, h) := rfl
theorem rm_bit0 (G : Nat → Nat) (h : hp_H) : m_M_bit G 0 h = some (0, h) := rfl
theorem rm_truthOf (G : Nat → Nat) (o : Nat) (h : hp_H) (S : lm_S) (vs : List vV) (i : Nat) (x : vV) (hA : rm_A S vs) (hx : vs[i]? = some x) (ox : vO x) : m_M_truthOf G o (nI (i + 1)) (lm_w o h S) = some (tI (truV x), lm_w o h S) := by
  obtain ⟨hr, wx, li, -⟩ := rm_at hA hx
  obtain ⟨r1, r2, r3, r4, r5, r6, r7⟩ := id hr
  have w1 := wx.1
  have l64 := wx.2.2.2.2.1
  have l1 := lm_a1 o h S (i + 1) (by omega)
  have l2 := lm_a2 o h S (i + 1) (by omega)
  have l3 := lm_a3 o h S (i + 1) (by omega)
  have l6 := lm_a6 o h S (i + 1) (by omega)
  rw [r1] at l1
  rw [r2] at l2
  rw [r3] at l3
  rw [r5] at l6
  unfold m_M_truthOf m_M_truthOf_47 m_M_truthOf_75 m_M_truthOf_83 truV
  rw [if_pos (show (0 : Int32) < nI (i + 1) from nI_lt (a := 0) (by omega) (by omega))]
  simp only [lm_g1, lm_g2, lm_g3, lm_g6, l1, l2, l3, l6, bs, lm_vck, rm_isNumber G o h S (i + 1) x (by omega) (by omega) hr wx, rm_bit1, rm_bit0, ie_8 (show x.1 < 2 ^ 31 by omega), ie_5 (show x.1 < 2 ^ 31 by omega)]
  by_cases c8 : x.1 = 8
  · rw [if_pos c8, if_pos c8]
    have := ox.2.2.2.2.2.1 c8
    rcases (show x.2.1 = 0 ∨ x.2.1 = 1 by omega) with q | q <;> rw [q] <;> rfl
  · rw [if_neg c8, if_neg c8]
    cases hn : nbV x with
    | true =>
      rw [if_neg (by decide), if_pos rfl]
      by_cases c : x.2.2.1 = 0
      · rw [if_pos ((sgI_0 _).mpr c), decide_eq_true c]; rfl
      · rw [if_neg (fun q => c ((sgI_0 _).mp q)), decide_eq_false c]; rfl
    | false =>
      rw [if_pos (show bI false = 0 from rfl), if_neg (show ¬ false = true by decide)]
      by_cases c5 : x.1 = 5
      · rw [if_pos c5, if_pos c5]
        by_cases c : x.2.2.2.2.length = 0
        · rw [if_pos (by rw [c]; decide), decide_eq_true c]; rfl
        · rw [if_neg (nI_nle (by omega) (by omega)), decide_eq_false c]; rfl
      · rw [if_neg c5, if_neg c5]; rfl
def eqV (x y : vV) : Option Bool := if nbV x && nbV y then some (decide (am9 x - am9 y = 0)) else if x = y then some true else if (x.1 = 7 ∨ y.1 = 7) ∧ 2 < x.1 ∧ 2 < y.1 then none else some false
theorem nd_inj {vs : List vV} (hN : vs.Nodup) {i k : Nat} {x : vV} (hi : vs[i]? = some x) (hk : vs[k]? = some x) : i = k := by
  obtain ⟨l1, e1⟩ := List.getElem?_eq_some_iff.mp hi
  obtain ⟨l2, e2⟩ := List.getElem?_eq_some_iff.mp hk
  have hp := List.pairwise_iff_getElem.mp hN
  rcases Nat.lt_trichotomy i k with c | c | c
  · exact absurd (e1.trans e2.symm) (hp i k l1 l2 c)
  · exact c
  · exact absurd (e2.trans e1.symm) (hp k i l2 l1 c)
theorem rm_equal_34 (G : Nat → Nat) (o : Nat) (h : hp_H) (S : lm_S) (vs : List vV) (hN : vs.Nodup) (i k : Nat) (x y : vV) (hA : rm_A S vs) (hx : vs[i]? = some x) (hy : vs[k]? = some y) (hn : (nbV x && nbV y) = false) : m_M_equal_34 G o (nI (i + 1)) (nI (k + 1)) (lm_w o h S) = some (tI (eqV x y), lm_w o h S) := by
  obtain ⟨hr, wx, li, -⟩ := rm_at hA hx
  obtain ⟨hs, wy, lk, -⟩ := rm_at hA hy
  have w1 := wx.1
  have w2 := wy.1
  have l1 := lm_a1 o h S (i + 1) (by omega)
  have l2 := lm_a1 o h S (k + 1) (by omega)
  rw [hr.1] at l1
  rw [hs.1] at l2
  unfold m_M_equal_34 m_M_equal_63 m_M_equal_88 m_M_equal_89 eqV
  simp only [lm_g1, l1, l2, bs, ie_7 (show x.1 < 2 ^ 31 by omega), ie_7 (show y.1 < 2 ^ 31 by omega), nI_eq (show i + 1 < 2 ^ 31 by omega) (show k + 1 < 2 ^ 31 by omega), show (2 : Int32) = nI 2 from rfl, nI_leI (show x.1 < 2 ^ 31 by omega) (show 2 < 2 ^ 31 by decide), nI_leI (show y.1 < 2 ^ 31 by omega) (show 2 < 2 ^ 31 by decide), hn]
  rw [if_neg (show ¬ false = true by decide)]
  by_cases c : i = k
  · subst c
    rw [if_pos rfl, if_pos (by rw [hx] at hy; injection hy)]; rfl
  · rw [if_neg (show ¬ i + 1 = k + 1 by omega), if_neg (show ¬ x = y from fun q => c (nd_inj hN hx (by rw [q]; exact hy)))]
    by_cases c7 : x.1 = 7
    · rw [if_pos c7, if_neg (show ¬ x.1 ≤ 2 by omega)]
      by_cases cy : y.1 ≤ 2
      · rw [if_pos cy, if_neg (show ¬ ((x.1 = 7 ∨ y.1 = 7) ∧ 2 < x.1 ∧ 2 < y.1) by omega)]; rfl
      · rw [if_neg cy, if_pos (show ((x.1 = 7 ∨ y.1 = 7) ∧ 2 < x.1 ∧ 2 < y.1) by omega)]; rfl
    · rw [if_neg c7]
      by_cases d7 : y.1 = 7
      · rw [if_pos d7]
        by_cases cx : x.1 ≤ 2
        · rw [if_pos cx, if_neg (show ¬ ((x.1 = 7 ∨ y.1 = 7) ∧ 2 < x.1 ∧ 2 < y.1) by omega)]; rfl
        · rw [if_neg cx, if_neg (show ¬ y.1 ≤ 2 by omega), if_pos (show ((x.1 = 7 ∨ y.1 = 7) ∧ 2 < x.1 ∧ 2 < y.1) by omega)]; rfl
      · rw [if_neg d7, if_neg (show ¬ ((x.1 = 7 ∨ y.1 = 7) ∧ 2 < x.1 ∧ 2 < y.1) by omega)]; rfl
theorem rm_equal (G : Nat → Nat) (o : Nat) (h : hp_H) (S : lm_S) (vs : List vV) (hN : vs.Nodup) (i k : Nat) (x y : vV) (hA : rm_A S vs) (hx : vs[i]? = some x) (hy : vs[k]? = some y) : ∃ S', m_M_equal G o (nI (i + 1)) (nI (k + 1)) (lm_w o h S) = some (tI (eqV x y), lm_w o h S') ∧ xS S S' := by
  obtain ⟨hr, wx, li, -⟩ := rm_at hA hx
  obtain ⟨hs, wy, lk, -⟩ := rm_at hA hy
  unfold m_M_equal m_M_equal_30
  simp only [lm_vck, rm_isNumber G o h S (i + 1) x (by omega) (by omega) hr wx, rm_isNumber G o h S (k + 1) y (by omega) (by omega) hs wy, bs, rm_bit1, rm_bit0]
  have fin := rm_equal_34 G o h S vs hN i k x y hA hx hy
  cases hn : nbV x with
  | false =>
    rw [if_pos (by rfl), fin (by rw [hn]; rfl)]
    exact ⟨S, rfl, xS.rf⟩
  | true =>
    rw [if_neg (by decide)]
    cases hm : nbV y with
    | false =>
      rw [if_pos (by rfl), fin (by rw [hn, hm]; rfl)]
      exact ⟨S, rfl, xS.rf⟩
    | true =>
      rw [if_neg (by decide)]
      obtain ⟨S1, e1, e2⟩ := rm_orderNumbers G o h S vs i k x y hA hx hy
      simp only [e1, bs]
      unfold eqV
      rw [hn, hm, if_pos (show (true && true) = true from rfl)]
      by_cases c : am9 x - am9 y = 0
      · rw [if_pos ((sgI_0 _).mpr c), decide_eq_true c]; exact ⟨S1, rfl, e2⟩
      · rw [if_neg (fun q => c ((sgI_0 _).mp q)), decide_eq_false c]; exact ⟨S1, rfl, e2⟩
def ltV (x y : vV) : Option Bool := if nbV x && nbV y then some (decide (am9 x - am9 y < 0)) else if x.1 = y.1 ∧ (x.1 = 5 ∨ x.1 = 8) then some (decide (ordV x y < 0)) else none
theorem not_lt0 {a : Int32} (h : ¬ a < 0) : 0 ≤ a := by
  rw [Int32.lt_iff_toInt_lt] at h; rw [Int32.le_iff_toInt_le]; omega
theorem rm_less_34 (G : Nat → Nat) (o : Nat) (h : hp_H) (S : lm_S) (vs : List vV) (i k : Nat) (x y : vV) (hA : rm_A S vs) (hx : vs[i]? = some x) (hy : vs[k]? = some y) (hn : (nbV x && nbV y) = false) : ∃ S', m_M_less_34 G o (nI (i + 1)) (nI (k + 1)) (lm_w o h S) = some (tI (ltV x y), lm_w o h S') ∧ xS S S' := by
  obtain ⟨hr, wx, li, -⟩ := rm_at hA hx
  obtain ⟨hs, wy, lk, -⟩ := rm_at hA hy
  have w1 := wx.1
  have w2 := wy.1
  have l1 := lm_a1 o h S (i + 1) (by omega)
  have l2 := lm_a1 o h S (k + 1) (by omega)
  rw [hr.1] at l1
  rw [hs.1] at l2
  obtain ⟨S1, e1, e2⟩ := rm_orderOf G o h S vs i k x y hA hx hy
  unfold m_M_less_34 m_M_less_70 m_M_less_90 m_M_less_84 m_M_less_92 ltV
  simp only [lm_g1, l1, l2, bs, ie_5 (show x.1 < 2 ^ 31 by omega), ie_8 (show x.1 < 2 ^ 31 by omega), nI_eq (show x.1 < 2 ^ 31 by omega) (show y.1 < 2 ^ 31 by omega), hn, lm_vck, e1, rm_bit1, rm_bit0]
  rw [if_neg (show ¬ false = true by decide)]
  have go : ∃ S', (if 0 ≤ ordV x y then some ((0 : Int32), lm_w o h S1) else some (1, lm_w o h S1)) = some (tI (some (decide (ordV x y < 0))), lm_w o h S') ∧ xS S S' := by
    by_cases c : ordV x y < 0
    · rw [if_neg (fun q => by rw [Int32.lt_iff_toInt_lt] at c; rw [Int32.le_iff_toInt_le] at q; omega), decide_eq_true c]; exact ⟨S1, rfl, e2⟩
    · rw [if_pos (not_lt0 c), decide_eq_false c]; exact ⟨S1, rfl, e2⟩
  by_cases c : x.1 = y.1
  · rw [if_pos c]
    by_cases c5 : x.1 = 5
    · rw [if_pos c5, if_pos (show x.1 = y.1 ∧ (x.1 = 5 ∨ x.1 = 8) from ⟨c, Or.inl c5⟩)]; exact go
    · rw [if_neg c5]
      by_cases c8 : x.1 = 8
      · rw [if_pos c8, if_pos (show x.1 = y.1 ∧ (x.1 = 5 ∨ x.1 = 8) from ⟨c, Or.inr c8⟩)]; exact go
      · rw [if_neg c8, if_neg (show ¬ (x.1 = y.1 ∧ (x.1 = 5 ∨ x.1 = 8)) by omega)]; exact ⟨S, rfl, xS.rf⟩
  · rw [if_neg c, if_neg (show ¬ (x.1 = y.1 ∧ (x.1 = 5 ∨ x.1 = 8)) by omega)]; exact ⟨S, rfl, xS.rf⟩
theorem rm_less (G : Nat → Nat) (o : Nat) (h : hp_H) (S : lm_S) (vs : List vV) (i k : Nat) (x y : vV) (hA : rm_A S vs) (hx : vs[i]? = some x) (hy : vs[k]? = some y) : ∃ S', m_M_less G o (nI (i + 1)) (nI (k + 1)) (lm_w o h S) = some (tI (ltV x y), lm_w o h S') ∧ xS S S' := by
  obtain ⟨hr, wx, li, -⟩ := rm_at hA hx
  obtain ⟨hs, wy, lk, -⟩ := rm_at hA hy
  unfold m_M_less m_M_less_30
  simp only [lm_vck, rm_isNumber G o h S (i + 1) x (by omega) (by omega) hr wx, rm_isNumber G o h S (k + 1) y (by omega) (by omega) hs wy, bs, rm_bit1, rm_bit0]
  have fin := rm_less_34 G o h S vs i k x y hA hx hy
  cases hn : nbV x with
  | false =>
    rw [if_pos (by rfl)]
    exact fin (by rw [hn]; rfl)
  | true =>
    rw [if_neg (by decide)]
    cases hm : nbV y with
    | false =>
      rw [if_pos (by rfl)]
      exact fin (by rw [hn, hm]; rfl)
    | true =>
      rw [if_neg (by decide)]
      obtain ⟨S1, e1, e2⟩ := rm_orderNumbers G o h S vs i k x y hA hx hy
      simp only [e1, bs]
      unfold ltV
      rw [hn, hm, if_pos (show (true && true) = true from rfl)]
      by_cases c : am9 x - am9 y < 0
      · rw [if_neg (fun q => by have := (sgI_lt _).mpr c; rw [Int32.lt_iff_toInt_lt] at this; rw [Int32.le_iff_toInt_le] at q; omega), decide_eq_true c]; exact ⟨S1, rfl, e2⟩
      · rw [if_pos (not_lt0 (fun q => c ((sgI_lt _).mp q))), decide_eq_false c]; exact ⟨S1, rfl, e2⟩
theorem rm_not (G : Nat → Nat) (h : hp_H) (t : Option Bool) : m_M_not G (tI t) h = some (tI (t.map (! ·)), h) := by
  rcases t with _ | _ | _ <;> rfl
theorem rm_given (G : Nat → Nat) (o : Nat) (h : hp_H) (S : lm_S) (vs : List vV) (t : Option Bool) (hA : rm_A S vs) : RK o h S vs (m_M_given G o (tI t) (lm_w o h S)) (t.map trV) := by
  unfold m_M_given m_M_given_20 m_M_given_23
  simp only [lm_vck, bq]
  cases t with
  | none => rw [if_neg (show ¬ (0 : Int32) ≤ tI none by decide)]; exact ⟨S, rfl, hA, fS.rf⟩
  | some b =>
    cases b with
    | false =>
      rw [if_pos (show (0 : Int32) ≤ tI (some false) by decide), if_neg (show ¬ tI (some false) = 1 by decide)]
      exact rm_truth G o h S vs false hA
    | true =>
      rw [if_pos (show (0 : Int32) ≤ tI (some true) by decide), if_pos (show tI (some true) = 1 from rfl)]
      exact rm_truth G o h S vs true hA
