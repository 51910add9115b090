/-! ORDER; what is told of a value -/
def cmB : List Nat → List Nat → Int32
  | [], [] => 0
  | [], _ :: _ => -1
  | _ :: _, [] => 1
  | a :: x, b :: y => if a = b then cmB x y else if a < b then -1 else 1
def rkN (x : vV) : Nat := if x.1 = 4 then 3 else x.1
def nbV (x : vV) : Bool := x.1 == 3 || x.1 == 4
def byV (x y : vV) : Int32 := if nbV x then sgI (am9 x - am9 y) else cmB x.2.2.2.2 y.2.2.2.2
def ordV (x y : vV) : Int32 := if rkN x = rkN y then (if byV x y = 0 then (if x.1 = y.1 then cmN x.2.1 y.2.1 else cmN x.1 y.1) else byV x y) else cmN (rkN x) (rkN y)
theorem rm_ob_53 (G : Nat → Nat) (o : Nat) (h : hp_H) (S : lm_S) (a b : Nat) (x y : vV) (ha : a ≤ 2000) (hb : b ≤ 2000) (hx : rm_V S a x) (hy : rm_V S b y) (wx : vW x) (wy : vW y) (k : Nat) (k1 : k ≤ x.2.2.2.2.length) (k2 : k ≤ y.2.2.2.2.length) (hd : k = x.2.2.2.2.length ∨ k = y.2.2.2.2.length ∨ x.2.2.2.2.getD k 0 ≠ y.2.2.2.2.getD k 0) : m_M_orderBytes_53 G o (nI a) (nI b) (nI k) (lm_w o h S) = some (cmB (x.2.2.2.2.drop k) (y.2.2.2.2.drop k), lm_w o h S) := by
  obtain ⟨-, -, -, -, r5, -, r7⟩ := id hx
  obtain ⟨-, -, -, -, s5, -, s7⟩ := id hy
  have lx := wx.2.2.2.2.1
  have ly := wy.2.2.2.2.1
  have l1 := lm_a6 o h S a (by omega)
  have l2 := lm_a6 o h S b (by omega)
  rw [r5] at l1
  rw [s5] at l2
  have n1 := nI_leI (a := x.2.2.2.2.length) (b := k) (by omega) (by omega)
  have n2 := nI_leI (a := y.2.2.2.2.length) (b := k) (by omega) (by omega)
  unfold m_M_orderBytes_53 m_M_orderBytes_104 m_M_orderBytes_133 m_M_orderBytes_103
  simp only [lm_g6, bs, l1, l2, n1, n2]
  by_cases cx : x.2.2.2.2.length ≤ k
  · rw [if_pos cx, if_pos cx, List.drop_eq_nil_of_le cx]
    by_cases cy : y.2.2.2.2.length ≤ k
    · rw [if_pos cy, List.drop_eq_nil_of_le cy]; rfl
    · rw [if_neg cy, take_s (show k < y.2.2.2.2.length by omega)]; rfl
  · rw [if_neg cx, if_neg cx]
    by_cases cy : y.2.2.2.2.length ≤ k
    · rw [if_pos cy, List.drop_eq_nil_of_le cy, take_s (show k < x.2.2.2.2.length by omega)]; rfl
    · rw [if_neg cy]
      have m1 := lm_a7 o h S (64 * a + k) (by omega)
      have m2 := lm_a7 o h S (64 * b + k) (by omega)
      rw [r7 k (by omega)] at m1
      rw [s7 k (by omega)] at m2
      have b1 : x.2.2.2.2.getD k 0 < 128 := wx.2.2.2.2.2 _ (by rw [List.getD_eq_getElem?_getD, List.getElem?_eq_getElem (by omega)]; exact List.getElem_mem _)
      have b2 : y.2.2.2.2.getD k 0 < 128 := wy.2.2.2.2.2 _ (by rw [List.getD_eq_getElem?_getD, List.getElem?_eq_getElem (by omega)]; exact List.getElem_mem _)
      simp only [lm_g7, bs, nI_64, m1, m2, nI_leI (show y.2.2.2.2.getD k 0 < 2 ^ 31 by omega) (show x.2.2.2.2.getD k 0 < 2 ^ 31 by omega)]
      have eb : ¬ x.2.2.2.2.getD k 0 = y.2.2.2.2.getD k 0 := by omega
      rw [take_s (show k < x.2.2.2.2.length by omega), take_s (show k < y.2.2.2.2.length by omega), cmB, if_neg eb]
      by_cases c : y.2.2.2.2.getD k 0 ≤ x.2.2.2.2.getD k 0
      · rw [if_pos c, if_neg (by omega)]
      · rw [if_neg c, if_pos (by omega)]
theorem rm_orderBytes_2 (G : Nat → Nat) (o : Nat) (h : hp_H) (S : lm_S) (a b : Nat) (x y : vV) (ha : a ≤ 2000) (hb : b ≤ 2000) (hx : rm_V S a x) (hy : rm_V S b y) (wx : vW x) (wy : vW y) : ∀ (n k : Nat), k ≤ x.2.2.2.2.length → k ≤ y.2.2.2.2.length → x.2.2.2.2.length - k < n → cmB x.2.2.2.2 y.2.2.2.2 = cmB (x.2.2.2.2.drop k) (y.2.2.2.2.drop k) → m_M_orderBytes_2 G n o (nI a) (nI b) (nI k) (lm_w o h S) = some (cmB x.2.2.2.2 y.2.2.2.2, lm_w o h S)
  | 0, k, _, _, hn, _ => by omega
  | n + 1, k, k1, k2, hn, hc => by
    obtain ⟨-, -, -, -, r5, -, r7⟩ := id hx
    obtain ⟨-, -, -, -, s5, -, s7⟩ := id hy
    have lx := wx.2.2.2.2.1
    have ly := wy.2.2.2.2.1
    rw [m_M_orderBytes_2]
    have l1 := lm_a6 o h S a (by omega)
    have l2 := lm_a6 o h S b (by omega)
    rw [r5] at l1
    rw [s5] at l2
    have n1 := nI_leI (a := x.2.2.2.2.length) (b := k) (by omega) (by omega)
    have n2 := nI_leI (a := y.2.2.2.2.length) (b := k) (by omega) (by omega)
    have fin := rm_ob_53 G o h S a b x y ha hb hx hy wx wy k k1 k2
    rw [← hc] at fin
    simp only [lm_g6, bs, l1, l2, n1, n2]
    by_cases cx : x.2.2.2.2.length ≤ k
    · rw [if_pos cx]; exact fin (by omega)
    · rw [if_neg cx]
      by_cases cy : y.2.2.2.2.length ≤ k
      · rw [if_pos cy]; exact fin (by omega)
      · rw [if_neg cy]
        have m1 := lm_a7 o h S (64 * a + k) (by omega)
        have m2 := lm_a7 o h S (64 * b + k) (by omega)
        rw [r7 k (by omega)] at m1
        rw [s7 k (by omega)] at m2
        have b1 : x.2.2.2.2.getD k 0 < 128 := wx.2.2.2.2.2 _ (by rw [List.getD_eq_getElem?_getD, List.getElem?_eq_getElem (by omega)]; exact List.getElem_mem _)
        have b2 : y.2.2.2.2.getD k 0 < 128 := wy.2.2.2.2.2 _ (by rw [List.getD_eq_getElem?_getD, List.getElem?_eq_getElem (by omega)]; exact List.getElem_mem _)
        simp only [lm_g7, bs, nI_64, m1, m2, nI_eq (show x.2.2.2.2.getD k 0 < 2 ^ 31 by omega) (show y.2.2.2.2.getD k 0 < 2 ^ 31 by omega), hp_nmE, nI_1]
        by_cases eb : x.2.2.2.2.getD k 0 = y.2.2.2.2.getD k 0
        · rw [if_pos eb]
          refine rm_orderBytes_2 G o h S a b x y ha hb hx hy wx wy n (k + 1) (by omega) (by omega) (by omega) ?_
          rw [hc, take_s (show k < x.2.2.2.2.length by omega), take_s (show k < y.2.2.2.2.length by omega), cmB, if_pos eb]
        · rw [if_neg eb]; exact fin (Or.inr (Or.inr eb))
theorem rm_orderBytes (G : Nat → Nat) (o : Nat) (h : hp_H) (S : lm_S) (a b : Nat) (x y : vV) (ha : a ≤ 2000) (hb : b ≤ 2000) (hx : rm_V S a x) (hy : rm_V S b y) (wx : vW x) (wy : vW y) : m_M_orderBytes G o (nI a) (nI b) (lm_w o h S) = some (cmB x.2.2.2.2 y.2.2.2.2, lm_w o h S) := by
  have lx := wx.2.2.2.2.1
  unfold m_M_orderBytes
  rw [hp_nmE]
  exact rm_orderBytes_2 G o h S a b x y ha hb hx hy wx wy hp_fu 0 (by omega) (by omega) (by unfold hp_fu; omega) rfl
theorem rm_rank (G : Nat → Nat) (o : Nat) (h : hp_H) (S : lm_S) (a : Nat) (x : vV) (ha : a ≤ 2000) (hx : rm_V S a x) (wx : vW x) : m_M_rank G o (nI a) (lm_w o h S) = some (nI (rkN x), lm_w o h S) := by
  have w1 := wx.1
  have l1 := lm_a1 o h S a (by omega)
  rw [hx.1] at l1
  unfold m_M_rank m_M_rank_20 rkN
  simp only [lm_g1, bs, l1, ie_4 (show x.1 < 2 ^ 31 by omega)]
  by_cases c : x.1 = 4
  · rw [if_pos c, if_pos c]; rfl
  · rw [if_neg c, if_neg c]
theorem rm_isNumber (G : Nat → Nat) (o : Nat) (h : hp_H) (S : lm_S) (a : Nat) (x : vV) (h0 : 0 < a) (ha : a ≤ 2000) (hx : rm_V S a x) (wx : vW x) : m_M_isNumber G o (nI a) (lm_w o h S) = some (bI (nbV x), lm_w o h S) := by
  have w1 := wx.1
  have l1 := lm_a1 o h S a (by omega)
  rw [hx.1] at l1
  unfold m_M_isNumber m_M_isNumber_28 m_M_isNumber_24 m_M_isNumber_29 nbV
  rw [if_neg (nI_nle h0 (by omega))]
  simp only [lm_g1, bs, l1, ie_4 (show x.1 < 2 ^ 31 by omega), ie_3 (show x.1 < 2 ^ 31 by omega)]
  by_cases c : x.1 = 3
  · rw [if_pos c, c]; rfl
  · rw [if_neg c]
    by_cases c4 : x.1 = 4
    · rw [if_pos c4, c4]; rfl
    · rw [if_neg c4, beq_false_of_ne c, beq_false_of_ne c4]; rfl
theorem cmN_le (a b : Nat) (h : a ≠ b) : cmN a b = if b ≤ a then 1 else -1 := by
  unfold cmN
  by_cases c : a < b
  · rw [if_pos c, if_neg (by omega)]
  · rw [if_neg c, if_neg h, if_pos (by omega)]
theorem rm_orderOf_55 (G : Nat → Nat) (o : Nat) (h : hp_H) (S : lm_S) (a b : Nat) (x y : vV) (r : Int32) (ha : a ≤ 2000) (hb : b ≤ 2000) (hx : rm_V S a x) (hy : rm_V S b y) (wx : vW x) (wy : vW y) : m_M_orderOf_55 G o (nI a) (nI b) r (lm_w o h S) = some (if r = 0 then (if x.1 = y.1 then cmN x.2.1 y.2.1 else cmN x.1 y.1) else r, lm_w o h S) := by
  have w1 := wx.1
  have w2 := wy.1
  have w3 := wx.2.1
  have w4 := wy.2.1
  have l1 := lm_a1 o h S a (by omega)
  have l2 := lm_a1 o h S b (by omega)
  have l3 := lm_a2 o h S a (by omega)
  have l4 := lm_a2 o h S b (by omega)
  rw [hx.1] at l1
  rw [hy.1] at l2
  rw [hx.2.1] at l3
  rw [hy.2.1] at l4
  unfold m_M_orderOf_55 m_M_orderOf_97 m_M_orderOf_137
  simp only [lm_g1, lm_g2, bs, l1, l2, l3, l4, hp_nmE, nI_eq (show x.1 < 2 ^ 31 by omega) (show y.1 < 2 ^ 31 by omega), nI_leI (show y.1 < 2 ^ 31 by omega) (show x.1 < 2 ^ 31 by omega), nI_leI (show y.2.1 < 2 ^ 31 by omega) (show x.2.1 < 2 ^ 31 by omega), nI_leI (show x.2.1 < 2 ^ 31 by omega) (show y.2.1 < 2 ^ 31 by omega)]
  by_cases c : r = 0
  · rw [if_pos c, if_pos c]
    by_cases c1 : x.1 = y.1
    · rw [if_pos c1, if_pos c1]
      unfold cmN
      by_cases c2 : y.2.1 ≤ x.2.1
      · rw [if_pos c2, if_neg (show ¬ x.2.1 < y.2.1 by omega)]
        by_cases c3 : x.2.1 ≤ y.2.1
        · rw [if_pos c3, if_pos (by omega)]
        · rw [if_neg c3, if_neg (by omega)]
      · rw [if_neg c2, if_pos (by omega)]
    · rw [if_neg c1, if_neg c1, cmN_le _ _ c1]
      by_cases c2 : y.1 ≤ x.1
      · rw [if_pos c2, if_pos c2]
      · rw [if_neg c2, if_neg c2]
  · rw [if_neg c, if_neg c]
theorem rm_orderOf (G : Nat → Nat) (o : Nat) (h : hp_H) (S : lm_S) (vs : List vV) (ia ib : Nat) (x y : vV) (hA : rm_A S vs) (hx : vs[ia]? = some x) (hy : vs[ib]? = some y) : ∃ S', m_M_orderOf G o (nI (ia + 1)) (nI (ib + 1)) (lm_w o h S) = some (ordV x y, lm_w o h S') ∧ xS S S' := by
  obtain ⟨rx, wx, li, -⟩ := rm_at hA hx
  obtain ⟨ry, wy, lk, -⟩ := rm_at hA hy
  have w1 := wx.1
  have w2 := wy.1
  have q1 : rkN x < 2 ^ 31 := by unfold rkN; by_cases c : x.1 = 4 <;> simp [c] <;> omega
  have q2 : rkN y < 2 ^ 31 := by unfold rkN; by_cases c : y.1 = 4 <;> simp [c] <;> omega
  unfold m_M_orderOf m_M_orderOf_31 ordV byV
  simp only [lm_vck, rm_rank G o h S (ia + 1) x (by omega) rx wx, rm_rank G o h S (ib + 1) y (by omega) ry wy, bs, rm_isNumber G o h S (ia + 1) x (by omega) (by omega) rx wx, nI_eq q1 q2, nI_leI q2 q1]
  by_cases c : rkN x = rkN y
  · rw [if_pos c, if_pos c]
    cases hn : nbV x with
    | false =>
      rw [if_pos (by rfl), rm_orderBytes G o h S (ia + 1) (ib + 1) x y (by omega) (by omega) rx ry wx wy]
      simp only [bs]
      rw [rm_orderOf_55 G o h S (ia + 1) (ib + 1) x y _ (by omega) (by omega) rx ry wx wy]
      exact ⟨S, rfl, xS.rf⟩
    | true =>
      rw [if_neg (by decide)]
      obtain ⟨S1, e1, e2⟩ := rm_orderNumbers G o h S vs ia ib x y hA hx hy
      simp only [e1, bs]
      obtain ⟨rx1, -, -, -⟩ := rm_at (e2.A hA) hx
      obtain ⟨ry1, -, -, -⟩ := rm_at (e2.A hA) hy
      rw [rm_orderOf_55 G o h S1 (ia + 1) (ib + 1) x y _ (by omega) (by omega) rx1 ry1 wx wy]
      exact ⟨S1, rfl, e2⟩
  · rw [if_neg c, if_neg c, cmN_le _ _ c]
    by_cases c2 : rkN y ≤ rkN x
    · rw [if_pos c2, if_pos c2]; exact ⟨S, rfl, xS.rf⟩
    · rw [if_neg c2, if_neg c2]; exact ⟨S, rfl, xS.rf⟩
/-- the value of a number, if there is one -/
def vAt (vs : List vV) (a : Int32) : Option vV := if 0 < a then vs[a.toNatClampNeg - 1]? else none
theorem vAt_n (vs : List vV) (i : Nat) (hi : i + 1 < 2147483648) : vAt vs (nI (i + 1)) = vs[i]? := by
  unfold vAt
  rw [if_pos (show (0 : Int32) < nI (i + 1) from nI_lt (a := 0) (by omega) hi), nI_clamp hi, Nat.add_sub_cancel]
theorem pos_nI {a : Int32} (h : 0 < a) : ∃ i : Nat, i + 1 < 2147483648 ∧ a = nI (i + 1) := by
  rw [Int32.lt_iff_toInt_lt] at h
  obtain ⟨j, hj, e⟩ := nI_of (x := a) (by rw [Int32.lt_iff_toInt_lt]; omega)
  have := nI_toInt hj
  rw [e, this] at h
  have z : (0 : Int32).toInt = 0 := rfl
  rw [z] at h
  exact ⟨j - 1, by omega, by rw [e, show j - 1 + 1 = j by omega]⟩
theorem vAt_some {vs : List vV} {a : Int32} {x : vV} (h : vAt vs a = some x) : ∃ i, a = nI (i + 1) ∧ vs[i]? = some x := by
  unfold vAt at h
  by_cases c : 0 < a
  · rw [if_pos c] at h
    obtain ⟨i, hi, rfl⟩ := pos_nI c
    rw [nI_clamp hi, Nat.add_sub_cancel] at h
    exact ⟨i, rfl, h⟩
  · rw [if_neg c] at h; cases h
theorem rm_isValue (G : Nat → Nat) (o : Nat) (h : hp_H) (S : lm_S) (vs : List vV) (a : Int32) (hA : rm_A S vs) : m_M_isValue G o a (lm_w o h S) = some (bI (vAt vs a).isSome, lm_w o h S) := by
  obtain ⟨h0, h1, -⟩ := hA
  unfold m_M_isValue m_M_isValue_16 m_M_isValue_17
  simp only [lm_g0, bs, h0]
  by_cases c : 0 < a
  · obtain ⟨i, hi, rfl⟩ := pos_nI c
    rw [if_neg (nI_nle (by omega) hi), vAt_n _ _ hi]
    by_cases c2 : i < vs.length
    · rw [if_neg (nI_nlt (by omega) (by omega)), List.getElem?_eq_getElem c2]; rfl
    · rw [if_pos (nI_lt (by omega) (by omega)), List.getElem?_eq_none (by omega)]; rfl
  · rw [if_pos (by rw [Int32.lt_iff_toInt_lt] at c; rw [Int32.le_iff_toInt_le]; omega)]
    unfold vAt
    rw [if_neg c]
    rfl
def toldV (vs : List vV) (a w : Int32) : Int32 := match vAt vs a with
  | none => -1
  | some x => if w = 0 then nI x.1 else if w = 1 then nI x.2.1 else if w = 2 then nI x.2.2.2.1 else if w = 3 then nI x.2.2.2.2.length else -1
theorem rm_told (G : Nat → Nat) (o : Nat) (h : hp_H) (S : lm_S) (vs : List vV) (a w : Int32) (hA : rm_A S vs) : m_M_told G o a w (lm_w o h S) = some (toldV vs a w, lm_w o h S) := by
  unfold m_M_told toldV
  rw [lm_vck, rm_isValue G o h S vs a hA]
  simp only [bs]
  cases hv : vAt vs a with
  | none => rw [if_pos (by rfl)]
  | some x =>
    rw [if_neg (by show ¬ bI true = 0; decide)]
    obtain ⟨i, rfl, hx⟩ := vAt_some hv
    obtain ⟨⟨r1, r2, r3, r4, r5, r6, r7⟩, wx, li, -⟩ := rm_at hA hx
    have l1 := lm_a1 o h S (i + 1) (by omega)
    have l2 := lm_a2 o h S (i + 1) (by omega)
    have l4 := lm_a4 o h S (i + 1) (by omega)
    have l6 := lm_a6 o h S (i + 1) (by omega)
    simp only [lm_g1, lm_g2, lm_g4, lm_g6, l1, l2, l4, l6, bs, r1, r2, r4, r5]
    by_cases c0 : w = 0
    · rw [if_pos c0, if_pos c0]
    · rw [if_neg c0, if_neg c0]
      by_cases c1 : w = 1
      · rw [if_pos c1, if_pos c1]
      · rw [if_neg c1, if_neg c1]
        by_cases c2 : w = 2
        · rw [if_pos c2, if_pos c2]
        · rw [if_neg c2, if_neg c2]
          by_cases c3 : w = 3
          · rw [if_pos c3, if_pos c3]
          · rw [if_neg c3, if_neg c3]
def amtV (vs : List vV) (a : Int32) : Int64 := match vAt vs a with
  | none => 0
  | some x => jL x.2.2.1
theorem rm_amount_16 (G : Nat → Nat) (o : Nat) (h : hp_H) (S : lm_S) (v : Nat) (x : vV) (hv : v ≤ 2000) (hr : rm_V S v x) (wx : vW x) : ∀ (n p : Nat), p ≤ 18 → p < n → m_M_amount_16 G n o (nI v) (jL ((x.2.2.1.natAbs / 10 ^ p : Nat) : Int)) (iI ((p : Int) - 1)) (lm_w o h S) = some (jL x.2.2.1, lm_w o h S)
  | 0, p, _, hn => by omega
  | n + 1, p, hp, hn => by
    rw [m_M_amount_16]
    cases p with
    | zero =>
      have l3 := lm_a3 o h S v (by omega)
      rw [if_pos (by decide)]
      simp only [lm_g3, l3, bs, hr.2.2.1, Nat.pow_zero, Nat.div_one]
      refine congrArg (fun z => some (z, lm_w o h S)) ?_
      rcases Int.lt_trichotomy x.2.2.1 0 with c | c | c
      · rw [show sgI x.2.2.1 = iI (-1) from by unfold sgI; rw [if_pos c]; rfl, iI_64 (by decide) (by decide), jL_mul]
        exact congrArg jL (by omega)
      · rw [c]; rfl
      · rw [show sgI x.2.2.1 = iI 1 from by unfold sgI; rw [if_neg (by omega), if_neg (by omega)]; rfl, iI_64 (by decide) (by decide), jL_mul]
        exact congrArg jL (by omega)
    | succ p =>
      have dd := dg_lt x.2.2.1.natAbs p
      have l5 := lm_a5 o h S (18 * v + p) (by omega)
      rw [hr.2.2.2.2.2.1 p (by omega)] at l5
      rw [show iI (((p + 1 : Nat) : Int) - 1) = nI p from iI_nat (by omega), if_neg (nI_pos (by omega))]
      simp only [lm_g5, bs, nI_18, l5, hp_nmE, nI_64L _ (show dg x.2.2.1.natAbs p < 2147483648 by omega), show (10 : Int64) = jL 10 from rfl, jL_mul, jL_add]
      rw [show nI p + -1 = iI ((p : Int) - 1) by rw [nI_iI, show (-1 : Int32) = iI (-1) from rfl, iI_add]; exact congrArg iI (by omega)]
      rw [show (10 : Int) * ((x.2.2.1.natAbs / 10 ^ (p + 1) : Nat) : Int) + (dg x.2.2.1.natAbs p : Int) = ((x.2.2.1.natAbs / 10 ^ p : Nat) : Int) by
        have := dv_s x.2.2.1.natAbs p
        have := dg_e x.2.2.1.natAbs p
        omega]
      exact rm_amount_16 G o h S v x hv hr wx n p (by omega) (by omega)
theorem rm_amount (G : Nat → Nat) (o : Nat) (h : hp_H) (S : lm_S) (vs : List vV) (a : Int32) (hA : rm_A S vs) : m_M_amount G o a (lm_w o h S) = some (amtV vs a, lm_w o h S) := by
  unfold m_M_amount amtV
  rw [lm_vck, rm_isValue G o h S vs a hA]
  simp only [bs]
  cases hv : vAt vs a with
  | none => rw [if_pos (by rfl)]
  | some x =>
    rw [if_neg (by show ¬ bI true = 0; decide)]
    obtain ⟨i, rfl, hx⟩ := vAt_some hv
    obtain ⟨hr, wx, li, -⟩ := rm_at hA hx
    simp only [hp_nmE]
    have key := rm_amount_16 G o h S (i + 1) x (by omega) hr wx hp_fu 18 (by decide) (by decide)
    rw [Nat.div_eq_of_lt wx.2.2.1] at key
    exact key
def byteV (vs : List vV) (a i : Int32) : Int32 := match vAt vs a with
  | none => -1
  | some x => if i < 0 then -1 else if nI x.2.2.2.2.length ≤ i then -1 else nI (x.2.2.2.2.getD i.toNatClampNeg 0)
theorem rm_byteOf (G : Nat → Nat) (o : Nat) (h : hp_H) (S : lm_S) (vs : List vV) (a b : Int32) (hA : rm_A S vs) : m_M_byteOf G o a b (lm_w o h S) = some (byteV vs a b, lm_w o h S) := by
  unfold m_M_byteOf m_M_byteOf_36 m_M_byteOf_37 byteV
  rw [lm_vck, rm_isValue G o h S vs a hA]
  simp only [bs]
  cases hv : vAt vs a with
  | none => rw [if_pos (by rfl)]
  | some x =>
    rw [if_neg (by show ¬ bI true = 0; decide)]
    obtain ⟨i, rfl, hx⟩ := vAt_some hv
    obtain ⟨⟨r1, r2, r3, r4, r5, r6, r7⟩, wx, li, -⟩ := rm_at hA hx
    have l6 := lm_a6 o h S (i + 1) (by omega)
    rw [r5] at l6
    have l64 := wx.2.2.2.2.1
    by_cases c : b < 0
    · rw [if_pos c]; simp only; rw [if_pos c]
    · rw [if_neg c]; simp only; rw [if_neg c]
      simp only [lm_g6, l6, bs]
      by_cases c2 : nI x.2.2.2.2.length ≤ b
      · rw [if_pos c2, if_pos c2]
      · rw [if_neg c2, if_neg c2]
        obtain ⟨j, hj, rfl⟩ := nI_of c
        have hj2 : j < x.2.2.2.2.length := by
          refine Nat.lt_of_not_le fun q => c2 (nI_le q hj)
        have l7 := lm_a7 o h S (64 * (i + 1) + j) (by omega)
        rw [r7 j hj2] at l7
        simp only [lm_g7, nI_64, l7, bs, nI_clamp hj]
theorem rm_values (G : Nat → Nat) (o : Nat) (h : hp_H) (S : lm_S) (vs : List vV) (hA : rm_A S vs) : m_M_values G o (lm_w o h S) = some (nI vs.length, lm_w o h S) := by
  unfold m_M_values
  simp only [lm_g0, bs, hA.1]
def orderV (vs : List vV) (a b : Int32) : Int32 := match vAt vs a, vAt vs b with
  | some x, some y => ordV x y
  | _, _ => 2
theorem rm_order (G : Nat → Nat) (o : Nat) (h : hp_H) (S : lm_S) (vs : List vV) (a b : Int32) (hA : rm_A S vs) : ∃ S', m_M_order G o a b (lm_w o h S) = some (orderV vs a b, lm_w o h S') ∧ xS S S' := by
  unfold m_M_order m_M_order_25 m_M_order_26 orderV
  rw [lm_vck, rm_isValue G o h S vs a hA]
  simp only [bs, lm_vck, rm_isValue G o h S vs b hA]
  cases hv : vAt vs a with
  | none => rw [if_pos (by rfl)]; exact ⟨S, rfl, xS.rf⟩
  | some x =>
    rw [if_neg (by show ¬ bI true = 0; decide)]
    cases hw : vAt vs b with
    | none => rw [if_pos (by rfl)]; exact ⟨S, rfl, xS.rf⟩
    | some y =>
      rw [if_neg (by show ¬ bI true = 0; decide)]
      obtain ⟨i, rfl, hx⟩ := vAt_some hv
      obtain ⟨k, rfl, hy⟩ := vAt_some hw
      obtain ⟨S', e1, e2⟩ := rm_orderOf G o h S vs i k x y hA hx hy
      simp only [e1, bs]
      exact ⟨S', rfl, e2⟩
