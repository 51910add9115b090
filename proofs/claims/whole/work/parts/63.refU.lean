/-! OPERATIONS ON VALUES -/
def tyN (x : vV) : Nat := if x.1 = 7 then x.2.1 else if x.1 = 5 then 1000 else if x.1 = 6 then 1001 else if x.1 = 3 then 1002 else if x.1 = 4 then 1003 else 1004
def val1 (o : Nat) (x : vV) : Option vV :=
  if o = 3 then ((truV x).map (! ·)).map trV
  else if o = 17 then (if nbV x then nmI (-am9 x) (x.1 == 3) else none)
  else if o = 18 then (if nbV x then nmI (if decide (x.2.2.1 < 0) then -am9 x else am9 x) (x.1 == 3) else none)
  else if o = 19 ∨ o = 20 ∨ o = 21 then (if nbV x then nmI (wh9 o (am9 x)) (x.1 == 3) else none)
  else if o = 25 then (if plV x then nmI ((x.2.2.2.2.length : Int) * 10 ^ (9 - 0)) true else none)
  else if o = 27 ∨ o = 28 then csV o x
  else if o = 35 then (strS x).map (fun L => (5, 0, 0, 0, L))
  else if o = 36 then (if 2 < x.1 then some (5, 0, 0, 0, if x.1 = 6 then dec x.2.1 else []) else none)
  else if o = 37 then (if 2 < x.1 then some (2, tyN x, 0, 0, []) else none)
  else if o = 38 then some (trV (x.1 == 2))
  else if o = 39 then some (trV (x.1 == 1))
  else if o = 40 then some (trV (decide (2 < x.1)))
  else some (trV (nbV x))
theorem dl_b (n : Nat) : ∀ p, ∀ b ∈ dl n p, 0 < b ∧ b < 128
  | 0, b, h => by cases h
  | p + 1, b, h => by
    have := dg_lt n p
    rw [dl] at h
    rcases List.mem_cons.mp h with e | e
    · omega
    · exact dl_b n p b e
theorem dec_b' (n : Nat) : ∀ b ∈ dec n, 0 < b ∧ b < 128 := dl_b n _
theorem dec_b (n : Nat) : ∀ b ∈ dec n, b < 128 := fun b hb => (dec_b' n b hb).2
theorem ot_b (A s : Nat) : ∀ p, ∀ b ∈ ot A s p, 0 < b ∧ b < 128
  | 0, b, h => by cases h
  | p + 1, b, h => by
    have := dg_lt A p
    have ih := ot_b A s p b
    rw [ot] at h
    rcases List.mem_cons.mp h with e | e
    · omega
    · by_cases c : p = s ∧ 0 < p
      · rw [if_pos c] at e
        rcases List.mem_cons.mp e with e | e
        · omega
        · exact ih e
      · rw [if_neg c] at e; exact ih e
theorem nS_b (x : vV) : ∀ b ∈ nS x, 0 < b ∧ b < 128 := by
  intro b hb
  unfold nS at hb
  rcases List.mem_append.mp hb with q | q
  · by_cases c : x.2.2.1 < 0
    · rw [if_pos c] at q; simp at q; omega
    · rw [if_neg c] at q; cases q
  · rcases List.mem_append.mp q with q | q
    · exact ot_b _ _ _ b q
    · by_cases c : x.1 = 4 ∧ x.2.2.2.1 = 0
      · rw [if_pos c] at q; simp at q; omega
      · rw [if_neg c] at q; cases q
theorem strS_b' {x : vV} (ox : vO x) {L : List Nat} (hs : strS x = some L) : ∀ b ∈ L, 0 < b ∧ b < 128 := by
  unfold strS at hs
  by_cases c1 : x.1 = 1
  · rw [if_pos c1] at hs; cases hs
  · rw [if_neg c1] at hs
    injection hs with hs
    subst hs
    intro b hb
    by_cases c2 : x.1 = 2
    · rw [if_pos c2] at hb; exact dec_b' _ b hb
    · rw [if_neg c2] at hb
      by_cases c3 : x.1 = 3 ∨ x.1 = 4
      · rw [if_pos c3] at hb; exact nS_b x b hb
      · rw [if_neg c3] at hb
        by_cases c8 : x.1 = 8
        · rw [if_pos c8] at hb
          by_cases c : x.2.1 = 1
          · rw [if_pos c] at hb; revert b; decide
          · rw [if_neg c] at hb; revert b; decide
        · rw [if_neg c8] at hb; exact ox.2.2.2.2.2.2.2.2.2 b hb
theorem strS_b {x : vV} (ox : vO x) {L : List Nat} (hs : strS x = some L) : ∀ b ∈ L, b < 128 := fun b hb => (strS_b' ox hs b hb).2
def O1 (o : Nat) : Prop := o = 3 ∨ o = 17 ∨ o = 18 ∨ o = 19 ∨ o = 20 ∨ o = 21 ∨ o = 25 ∨ o = 27 ∨ o = 28 ∨ o = 35 ∨ o = 36 ∨ o = 37 ∨ o = 38 ∨ o = 39 ∨ o = 40 ∨ o = 41
def O2 (o : Nat) : Prop := 6 ≤ o ∧ o ≤ 16 ∨ 30 ≤ o ∧ o ≤ 34
theorem le2_b (x : Nat) (h : x < 2 ^ 31) : (nI x ≤ (2 : Int32)) ↔ ¬ 2 < x := by
  rw [show (2 : Int32) = nI 2 from rfl, nI_leI h (by decide)]; omega
theorem val1_3 (x : vV) : val1 3 x = ((truV x).map (! ·)).map trV := by unfold val1; rw [if_pos (by decide)]
theorem val1_17 (x : vV) : val1 17 x = (if nbV x then nmI (-am9 x) (x.1 == 3) else none) := by unfold val1; rw [if_neg (by decide), if_pos (by decide)]
theorem val1_18 (x : vV) : val1 18 x = (if nbV x then nmI (if decide (x.2.2.1 < 0) then -am9 x else am9 x) (x.1 == 3) else none) := by unfold val1; rw [if_neg (by decide), if_neg (by decide), if_pos (by decide)]
theorem val1_19 (x : vV) : val1 19 x = (if nbV x then nmI (wh9 19 (am9 x)) (x.1 == 3) else none) := by unfold val1; rw [if_neg (by decide), if_neg (by decide), if_neg (by decide), if_pos (by decide)]
theorem val1_20 (x : vV) : val1 20 x = (if nbV x then nmI (wh9 20 (am9 x)) (x.1 == 3) else none) := by unfold val1; rw [if_neg (by decide), if_neg (by decide), if_neg (by decide), if_pos (by decide)]
theorem val1_21 (x : vV) : val1 21 x = (if nbV x then nmI (wh9 21 (am9 x)) (x.1 == 3) else none) := by unfold val1; rw [if_neg (by decide), if_neg (by decide), if_neg (by decide), if_pos (by decide)]
theorem val1_25 (x : vV) : val1 25 x = (if plV x then nmI ((x.2.2.2.2.length : Int) * 10 ^ (9 - 0)) true else none) := by unfold val1; rw [if_neg (by decide), if_neg (by decide), if_neg (by decide), if_neg (by decide), if_pos (by decide)]
theorem val1_27 (x : vV) : val1 27 x = csV 27 x := by unfold val1; rw [if_neg (by decide), if_neg (by decide), if_neg (by decide), if_neg (by decide), if_neg (by decide), if_pos (by decide)]
theorem val1_28 (x : vV) : val1 28 x = csV 28 x := by unfold val1; rw [if_neg (by decide), if_neg (by decide), if_neg (by decide), if_neg (by decide), if_neg (by decide), if_pos (by decide)]
theorem val1_35 (x : vV) : val1 35 x = (strS x).map (fun L => (5, 0, 0, 0, L)) := by unfold val1; rw [if_neg (by decide), if_neg (by decide), if_neg (by decide), if_neg (by decide), if_neg (by decide), if_neg (by decide), if_pos (by decide)]
theorem val1_36 (x : vV) : val1 36 x = (if 2 < x.1 then some (5, 0, 0, 0, if x.1 = 6 then dec x.2.1 else []) else none) := by unfold val1; rw [if_neg (by decide), if_neg (by decide), if_neg (by decide), if_neg (by decide), if_neg (by decide), if_neg (by decide), if_neg (by decide), if_pos (by decide)]
theorem val1_37 (x : vV) : val1 37 x = (if 2 < x.1 then some (2, tyN x, 0, 0, []) else none) := by unfold val1; rw [if_neg (by decide), if_neg (by decide), if_neg (by decide), if_neg (by decide), if_neg (by decide), if_neg (by decide), if_neg (by decide), if_neg (by decide), if_pos (by decide)]
theorem val1_38 (x : vV) : val1 38 x = some (trV (x.1 == 2)) := by unfold val1; rw [if_neg (by decide), if_neg (by decide), if_neg (by decide), if_neg (by decide), if_neg (by decide), if_neg (by decide), if_neg (by decide), if_neg (by decide), if_neg (by decide), if_pos (by decide)]
theorem val1_39 (x : vV) : val1 39 x = some (trV (x.1 == 1)) := by unfold val1; rw [if_neg (by decide), if_neg (by decide), if_neg (by decide), if_neg (by decide), if_neg (by decide), if_neg (by decide), if_neg (by decide), if_neg (by decide), if_neg (by decide), if_neg (by decide), if_pos (by decide)]
theorem val1_40 (x : vV) : val1 40 x = some (trV (decide (2 < x.1))) := by unfold val1; rw [if_neg (by decide), if_neg (by decide), if_neg (by decide), if_neg (by decide), if_neg (by decide), if_neg (by decide), if_neg (by decide), if_neg (by decide), if_neg (by decide), if_neg (by decide), if_neg (by decide), if_pos (by decide)]
theorem val1_41 (x : vV) : val1 41 x = some (trV (nbV x)) := by unfold val1; rw [if_neg (by decide), if_neg (by decide), if_neg (by decide), if_neg (by decide), if_neg (by decide), if_neg (by decide), if_neg (by decide), if_neg (by decide), if_neg (by decide), if_neg (by decide), if_neg (by decide), if_neg (by decide)]
theorem rm_one_3 (G : Nat → Nat) (o : Nat) (h : hp_H) (hG : SM G o h) (S : lm_S) (vs : List vV) (i : Nat) (x : vV) (hA : rm_A S vs) (hO : vsO vs) (hx : vs[i]? = some x) : RK o h S vs (m_M_one G o (nI 3) (nI (i + 1)) (lm_w o h S)) (val1 3 x) := by
  obtain ⟨hr, wx, li, -⟩ := rm_at hA hx
  obtain ⟨r1, r2, r3, r4, r5, r6, r7⟩ := id hr
  have w1 := wx.1
  have w2 := wx.2.1
  have l64 := wx.2.2.2.2.1
  have l1 := lm_a1 o h S (i + 1) (by omega)
  have l2 := lm_a2 o h S (i + 1) (by omega)
  have l3 := lm_a3 o h S (i + 1) (by omega)
  have l6 := lm_a6 o h S (i + 1) (by omega)
  rw [r1] at l1
  rw [r2] at l2
  rw [r3] at l3
  rw [r5] at l6
  have num := rm_isNumber G o h S (i + 1) x (by omega) (by omega) hr wx
  have no : RK o h S vs (some (-4, lm_w o h S)) none := ⟨S, rfl, hA, fS.rf⟩
  have x31 : x.1 < 2 ^ 31 := by omega
  rw [one_3, val1_3]
  simp only [lm_vck, rm_truthOf G o h S vs i x hA hx (hO.o hx), bs, rm_not, bq]
  exact rm_given G o h S vs _ hA
theorem rm_one_17 (G : Nat → Nat) (o : Nat) (h : hp_H) (hG : SM G o h) (S : lm_S) (vs : List vV) (i : Nat) (x : vV) (hA : rm_A S vs) (hO : vsO vs) (hx : vs[i]? = some x) : RK o h S vs (m_M_one G o (nI 17) (nI (i + 1)) (lm_w o h S)) (val1 17 x) := by
  obtain ⟨hr, wx, li, -⟩ := rm_at hA hx
  obtain ⟨r1, r2, r3, r4, r5, r6, r7⟩ := id hr
  have w1 := wx.1
  have w2 := wx.2.1
  have l64 := wx.2.2.2.2.1
  have l1 := lm_a1 o h S (i + 1) (by omega)
  have l2 := lm_a2 o h S (i + 1) (by omega)
  have l3 := lm_a3 o h S (i + 1) (by omega)
  have l6 := lm_a6 o h S (i + 1) (by omega)
  rw [r1] at l1
  rw [r2] at l2
  rw [r3] at l3
  rw [r5] at l6
  have num := rm_isNumber G o h S (i + 1) x (by omega) (by omega) hr wx
  have no : RK o h S vs (some (-4, lm_w o h S)) none := ⟨S, rfl, hA, fS.rf⟩
  have x31 : x.1 < 2 ^ 31 := by omega
  rw [one_17, val1_17]
  unfold m_M_one_200
  simp only [lm_vck, num, bs, bq]
  cases nbV x with
  | false => rw [if_pos (show bI false = 0 from rfl)]; exact no
  | true =>
    rw [if_neg (show ¬ bI true = 0 by decide), if_pos (show true = true from rfl)]
    have key := rm_turned G o h S vs i x true hA hx
    rw [if_pos (show true = true from rfl)] at key
    exact key
theorem rm_one_18 (G : Nat → Nat) (o : Nat) (h : hp_H) (hG : SM G o h) (S : lm_S) (vs : List vV) (i : Nat) (x : vV) (hA : rm_A S vs) (hO : vsO vs) (hx : vs[i]? = some x) : RK o h S vs (m_M_one G o (nI 18) (nI (i + 1)) (lm_w o h S)) (val1 18 x) := by
  obtain ⟨hr, wx, li, -⟩ := rm_at hA hx
  obtain ⟨r1, r2, r3, r4, r5, r6, r7⟩ := id hr
  have w1 := wx.1
  have w2 := wx.2.1
  have l64 := wx.2.2.2.2.1
  have l1 := lm_a1 o h S (i + 1) (by omega)
  have l2 := lm_a2 o h S (i + 1) (by omega)
  have l3 := lm_a3 o h S (i + 1) (by omega)
  have l6 := lm_a6 o h S (i + 1) (by omega)
  rw [r1] at l1
  rw [r2] at l2
  rw [r3] at l3
  rw [r5] at l6
  have num := rm_isNumber G o h S (i + 1) x (by omega) (by omega) hr wx
  have no : RK o h S vs (some (-4, lm_w o h S)) none := ⟨S, rfl, hA, fS.rf⟩
  have x31 : x.1 < 2 ^ 31 := by omega
  rw [one_18, val1_18]
  unfold m_M_one_225 m_M_one_233
  simp only [lm_vck, num, bs, bq, lm_g3, l3]
  cases nbV x with
  | false => rw [if_pos (show bI false = 0 from rfl)]; exact no
  | true =>
    rw [if_neg (show ¬ bI true = 0 by decide), if_pos (show true = true from rfl)]
    by_cases c : x.2.2.1 < 0
    · rw [if_neg (fun q => by have := (sgI_lt x.2.2.1).mpr c; rw [Int32.lt_iff_toInt_lt] at this; rw [Int32.le_iff_toInt_le] at q; omega), decide_eq_true c]
      exact rm_turned G o h S vs i x true hA hx
    · rw [if_pos (not_lt0 (fun q => c ((sgI_lt _).mp q))), decide_eq_false c]
      exact rm_turned G o h S vs i x false hA hx
theorem rm_one_19 (G : Nat → Nat) (o : Nat) (h : hp_H) (hG : SM G o h) (S : lm_S) (vs : List vV) (i : Nat) (x : vV) (hA : rm_A S vs) (hO : vsO vs) (hx : vs[i]? = some x) : RK o h S vs (m_M_one G o (nI 19) (nI (i + 1)) (lm_w o h S)) (val1 19 x) := by
  obtain ⟨hr, wx, li, -⟩ := rm_at hA hx
  obtain ⟨r1, r2, r3, r4, r5, r6, r7⟩ := id hr
  have w1 := wx.1
  have w2 := wx.2.1
  have l64 := wx.2.2.2.2.1
  have l1 := lm_a1 o h S (i + 1) (by omega)
  have l2 := lm_a2 o h S (i + 1) (by omega)
  have l3 := lm_a3 o h S (i + 1) (by omega)
  have l6 := lm_a6 o h S (i + 1) (by omega)
  rw [r1] at l1
  rw [r2] at l2
  rw [r3] at l3
  rw [r5] at l6
  have num := rm_isNumber G o h S (i + 1) x (by omega) (by omega) hr wx
  have no : RK o h S vs (some (-4, lm_w o h S)) none := ⟨S, rfl, hA, fS.rf⟩
  have x31 : x.1 < 2 ^ 31 := by omega
  rw [one_19, val1_19]
  unfold m_M_one_253
  simp only [lm_vck, num, bs, bq]
  cases nbV x with
  | false => rw [if_pos (show bI false = 0 from rfl)]; exact no
  | true => rw [if_neg (show ¬ bI true = 0 by decide), if_pos (show true = true from rfl)]; exact rm_wholeOf G o h S vs i x 19 (by decide) hA hx
theorem rm_one_20 (G : Nat → Nat) (o : Nat) (h : hp_H) (hG : SM G o h) (S : lm_S) (vs : List vV) (i : Nat) (x : vV) (hA : rm_A S vs) (hO : vsO vs) (hx : vs[i]? = some x) : RK o h S vs (m_M_one G o (nI 20) (nI (i + 1)) (lm_w o h S)) (val1 20 x) := by
  obtain ⟨hr, wx, li, -⟩ := rm_at hA hx
  obtain ⟨r1, r2, r3, r4, r5, r6, r7⟩ := id hr
  have w1 := wx.1
  have w2 := wx.2.1
  have l64 := wx.2.2.2.2.1
  have l1 := lm_a1 o h S (i + 1) (by omega)
  have l2 := lm_a2 o h S (i + 1) (by omega)
  have l3 := lm_a3 o h S (i + 1) (by omega)
  have l6 := lm_a6 o h S (i + 1) (by omega)
  rw [r1] at l1
  rw [r2] at l2
  rw [r3] at l3
  rw [r5] at l6
  have num := rm_isNumber G o h S (i + 1) x (by omega) (by omega) hr wx
  have no : RK o h S vs (some (-4, lm_w o h S)) none := ⟨S, rfl, hA, fS.rf⟩
  have x31 : x.1 < 2 ^ 31 := by omega
  rw [one_20, val1_20]
  unfold m_M_one_253
  simp only [lm_vck, num, bs, bq]
  cases nbV x with
  | false => rw [if_pos (show bI false = 0 from rfl)]; exact no
  | true => rw [if_neg (show ¬ bI true = 0 by decide), if_pos (show true = true from rfl)]; exact rm_wholeOf G o h S vs i x 20 (by decide) hA hx
theorem rm_one_21 (G : Nat → Nat) (o : Nat) (h : hp_H) (hG : SM G o h) (S : lm_S) (vs : List vV) (i : Nat) (x : vV) (hA : rm_A S vs) (hO : vsO vs) (hx : vs[i]? = some x) : RK o h S vs (m_M_one G o (nI 21) (nI (i + 1)) (lm_w o h S)) (val1 21 x) := by
  obtain ⟨hr, wx, li, -⟩ := rm_at hA hx
  obtain ⟨r1, r2, r3, r4, r5, r6, r7⟩ := id hr
  have w1 := wx.1
  have w2 := wx.2.1
  have l64 := wx.2.2.2.2.1
  have l1 := lm_a1 o h S (i + 1) (by omega)
  have l2 := lm_a2 o h S (i + 1) (by omega)
  have l3 := lm_a3 o h S (i + 1) (by omega)
  have l6 := lm_a6 o h S (i + 1) (by omega)
  rw [r1] at l1
  rw [r2] at l2
  rw [r3] at l3
  rw [r5] at l6
  have num := rm_isNumber G o h S (i + 1) x (by omega) (by omega) hr wx
  have no : RK o h S vs (some (-4, lm_w o h S)) none := ⟨S, rfl, hA, fS.rf⟩
  have x31 : x.1 < 2 ^ 31 := by omega
  rw [one_21, val1_21]
  unfold m_M_one_253
  simp only [lm_vck, num, bs, bq]
  cases nbV x with
  | false => rw [if_pos (show bI false = 0 from rfl)]; exact no
  | true => rw [if_neg (show ¬ bI true = 0 by decide), if_pos (show true = true from rfl)]; exact rm_wholeOf G o h S vs i x 21 (by decide) hA hx
theorem rm_one_25 (G : Nat → Nat) (o : Nat) (h : hp_H) (hG : SM G o h) (S : lm_S) (vs : List vV) (i : Nat) (x : vV) (hA : rm_A S vs) (hO : vsO vs) (hx : vs[i]? = some x) : RK o h S vs (m_M_one G o (nI 25) (nI (i + 1)) (lm_w o h S)) (val1 25 x) := by
  obtain ⟨hr, wx, li, -⟩ := rm_at hA hx
  obtain ⟨r1, r2, r3, r4, r5, r6, r7⟩ := id hr
  have w1 := wx.1
  have w2 := wx.2.1
  have l64 := wx.2.2.2.2.1
  have l1 := lm_a1 o h S (i + 1) (by omega)
  have l2 := lm_a2 o h S (i + 1) (by omega)
  have l3 := lm_a3 o h S (i + 1) (by omega)
  have l6 := lm_a6 o h S (i + 1) (by omega)
  rw [r1] at l1
  rw [r2] at l2
  rw [r3] at l3
  rw [r5] at l6
  have num := rm_isNumber G o h S (i + 1) x (by omega) (by omega) hr wx
  have no : RK o h S vs (some (-4, lm_w o h S)) none := ⟨S, rfl, hA, fS.rf⟩
  have x31 : x.1 < 2 ^ 31 := by omega
  rw [one_25, val1_25]
  unfold m_M_one_280
  simp only [lm_vck, rm_isPlain G o h S (i + 1) x (by omega) hr wx, bs, bq, lm_g6, l6, nI_64L _ (show x.2.2.2.2.length < 2147483648 by omega)]
  cases plV x with
  | false => rw [if_pos (show bI false = 0 from rfl)]; exact no
  | true =>
    rw [if_neg (show ¬ bI true = 0 by decide), if_pos (show true = true from rfl)]
    exact rm_numbered G o h S vs (x.2.2.2.2.length : Int) 0 true (by omega) (by decide) hA
theorem rm_one_27 (G : Nat → Nat) (o : Nat) (h : hp_H) (hG : SM G o h) (S : lm_S) (vs : List vV) (i : Nat) (x : vV) (hA : rm_A S vs) (hO : vsO vs) (hx : vs[i]? = some x) : RK o h S vs (m_M_one G o (nI 27) (nI (i + 1)) (lm_w o h S)) (val1 27 x) := by
  obtain ⟨hr, wx, li, -⟩ := rm_at hA hx
  obtain ⟨r1, r2, r3, r4, r5, r6, r7⟩ := id hr
  have w1 := wx.1
  have w2 := wx.2.1
  have l64 := wx.2.2.2.2.1
  have l1 := lm_a1 o h S (i + 1) (by omega)
  have l2 := lm_a2 o h S (i + 1) (by omega)
  have l3 := lm_a3 o h S (i + 1) (by omega)
  have l6 := lm_a6 o h S (i + 1) (by omega)
  rw [r1] at l1
  rw [r2] at l2
  rw [r3] at l3
  rw [r5] at l6
  have num := rm_isNumber G o h S (i + 1) x (by omega) (by omega) hr wx
  have no : RK o h S vs (some (-4, lm_w o h S)) none := ⟨S, rfl, hA, fS.rf⟩
  have x31 : x.1 < 2 ^ 31 := by omega
  rw [one_27, val1_27]
  simp only [lm_vck, bq]
  exact rm_cased G o h S vs i 27 x (by decide) hA hx
theorem rm_one_28 (G : Nat → Nat) (o : Nat) (h : hp_H) (hG : SM G o h) (S : lm_S) (vs : List vV) (i : Nat) (x : vV) (hA : rm_A S vs) (hO : vsO vs) (hx : vs[i]? = some x) : RK o h S vs (m_M_one G o (nI 28) (nI (i + 1)) (lm_w o h S)) (val1 28 x) := by
  obtain ⟨hr, wx, li, -⟩ := rm_at hA hx
  obtain ⟨r1, r2, r3, r4, r5, r6, r7⟩ := id hr
  have w1 := wx.1
  have w2 := wx.2.1
  have l64 := wx.2.2.2.2.1
  have l1 := lm_a1 o h S (i + 1) (by omega)
  have l2 := lm_a2 o h S (i + 1) (by omega)
  have l3 := lm_a3 o h S (i + 1) (by omega)
  have l6 := lm_a6 o h S (i + 1) (by omega)
  rw [r1] at l1
  rw [r2] at l2
  rw [r3] at l3
  rw [r5] at l6
  have num := rm_isNumber G o h S (i + 1) x (by omega) (by omega) hr wx
  have no : RK o h S vs (some (-4, lm_w o h S)) none := ⟨S, rfl, hA, fS.rf⟩
  have x31 : x.1 < 2 ^ 31 := by omega
  rw [one_28, val1_28]
  simp only [lm_vck, bq]
  exact rm_cased G o h S vs i 28 x (by decide) hA hx
theorem rm_one_35 (G : Nat → Nat) (o : Nat) (h : hp_H) (hG : SM G o h) (S : lm_S) (vs : List vV) (i : Nat) (x : vV) (hA : rm_A S vs) (hO : vsO vs) (hx : vs[i]? = some x) : RK o h S vs (m_M_one G o (nI 35) (nI (i + 1)) (lm_w o h S)) (val1 35 x) := by
  obtain ⟨hr, wx, li, -⟩ := rm_at hA hx
  obtain ⟨r1, r2, r3, r4, r5, r6, r7⟩ := id hr
  have w1 := wx.1
  have w2 := wx.2.1
  have l64 := wx.2.2.2.2.1
  have l1 := lm_a1 o h S (i + 1) (by omega)
  have l2 := lm_a2 o h S (i + 1) (by omega)
  have l3 := lm_a3 o h S (i + 1) (by omega)
  have l6 := lm_a6 o h S (i + 1) (by omega)
  rw [r1] at l1
  rw [r2] at l2
  rw [r3] at l3
  rw [r5] at l6
  have num := rm_isNumber G o h S (i + 1) x (by omega) (by omega) hr wx
  have no : RK o h S vs (some (-4, lm_w o h S)) none := ⟨S, rfl, hA, fS.rf⟩
  have x31 : x.1 < 2 ^ 31 := by omega
  rw [one_35, val1_35]
  unfold m_M_one_311
  obtain ⟨S1, e1, e2, e3⟩ := rm_start G o h S 5 0
  rw [show (5 : Int32) = nI 5 from rfl, show (0 : Int32) = nI 0 from rfl]
  simp only [lm_vck, e1, bs, bq]
  obtain ⟨S2, q1, q2, q3⟩ := rm_string G o h hG S1 vs i x [] (e3.A hA) hx (e2.L (by decide)) (by decide)
  simp only [q1, bs, lm_vck, bq]
  rw [List.nil_append] at q3
  have hlen := strS_len wx
  cases hs : strS x with
  | none => rw [if_pos (show bI (none : Option (List Nat)).isSome = nI 0 from rfl)]; exact ⟨S2, rfl, q2.A (e3.A hA), e3.f.tr q2.f⟩
  | some L =>
    rw [hs] at q3 hlen
    rw [if_neg (show ¬ bI (some L).isSome = nI 0 from (by decide : ¬ bI true = nI 0))]
    refine rm_fin G o h S S2 vs _ (e3.f.tr q2.f) (q2.A (e3.A hA)) (e2.to q2 q3) (by show L.length < _; have : L.length ≤ 64 := hlen; omega) (fun _ => ⟨by simp, by simp, by simp, by simp, hlen, fun b hb => ?_⟩)
    exact strS_b (hO.o hx) hs b hb
theorem rm_one_36 (G : Nat → Nat) (o : Nat) (h : hp_H) (hG : SM G o h) (S : lm_S) (vs : List vV) (i : Nat) (x : vV) (hA : rm_A S vs) (hO : vsO vs) (hx : vs[i]? = some x) : RK o h S vs (m_M_one G o (nI 36) (nI (i + 1)) (lm_w o h S)) (val1 36 x) := by
  obtain ⟨hr, wx, li, -⟩ := rm_at hA hx
  obtain ⟨r1, r2, r3, r4, r5, r6, r7⟩ := id hr
  have w1 := wx.1
  have w2 := wx.2.1
  have l64 := wx.2.2.2.2.1
  have l1 := lm_a1 o h S (i + 1) (by omega)
  have l2 := lm_a2 o h S (i + 1) (by omega)
  have l3 := lm_a3 o h S (i + 1) (by omega)
  have l6 := lm_a6 o h S (i + 1) (by omega)
  rw [r1] at l1
  rw [r2] at l2
  rw [r3] at l3
  rw [r5] at l6
  have num := rm_isNumber G o h S (i + 1) x (by omega) (by omega) hr wx
  have no : RK o h S vs (some (-4, lm_w o h S)) none := ⟨S, rfl, hA, fS.rf⟩
  have x31 : x.1 < 2 ^ 31 := by omega
  rw [one_36, val1_36]
  unfold m_M_one_339 m_M_one_358
  obtain ⟨S1, e1, e2, e3⟩ := rm_start G o h S 5 0
  rw [show (5 : Int32) = nI 5 from rfl, show (0 : Int32) = nI 0 from rfl]
  have k1 := lm_a1 o h S1 (i + 1) (by omega)
  have k2 := lm_a2 o h S1 (i + 1) (by omega)
  rw [e3.2 1 (by decide), r1] at k1
  rw [e3.2 2 (by decide), r2] at k2
  simp only [lm_vck, e1, bs, bq, lm_g1, lm_g2, k1, k2, ie_6 x31, le2_b _ x31]
  have fin : ∀ (S2 : lm_S) (L : List Nat), lT S1 S2 → rm_L S2 L → L.length ≤ 64 → (∀ b ∈ L, b < 128) → (if x.1 = 6 then dec x.2.1 else []) = L → RK o h S vs (if ¬ 2 < x.1 then some (-4, lm_w o h S2) else m_M_keep G o (lm_w o h S2)) (if 2 < x.1 then some (5, 0, 0, 0, if x.1 = 6 then dec x.2.1 else []) else none) := fun S2 L hq hL hl hb he => by
    by_cases c : 2 < x.1
    · rw [if_neg (fun q => q c), if_pos c, he]
      exact rm_fin G o h S S2 vs _ (e3.f.tr hq.f) (hq.A (e3.A hA)) (e2.to hq hL) (by show L.length < _; omega) (fun _ => ⟨by simp, by simp, by simp, by simp, hl, hb⟩)
    · rw [if_pos c, if_neg c]; exact ⟨S2, rfl, hq.A (e3.A hA), e3.f.tr hq.f⟩
  by_cases c6 : x.1 = 6
  · rw [if_pos c6]
    obtain ⟨S2, q1, q2, q3⟩ := rm_digitsOf G o h x.2.1 (by omega) S1 [] (e2.L (by decide)) (by decide)
    have k3 := lm_a1 o h S2 (i + 1) (by omega)
    rw [q2.2 1 (by decide), e3.2 1 (by decide), r1] at k3
    simp only [q1, bs, lm_g1, k3, le2_b _ x31, lm_vck, bq]
    rw [List.nil_append] at q3
    have := dec_len x.2.1
    exact fin S2 (dec x.2.1) q2 q3 (by omega) (fun b hb => dec_b x.2.1 b hb) (by rw [if_pos c6])
  · rw [if_neg c6]
    exact fin S1 [] lT.rf (e2.L (by decide)) (by decide) (fun b hb => by cases hb) (by rw [if_neg c6])
theorem rm_one_37 (G : Nat → Nat) (o : Nat) (h : hp_H) (hG : SM G o h) (S : lm_S) (vs : List vV) (i : Nat) (x : vV) (hA : rm_A S vs) (hO : vsO vs) (hx : vs[i]? = some x) : RK o h S vs (m_M_one G o (nI 37) (nI (i + 1)) (lm_w o h S)) (val1 37 x) := by
  obtain ⟨hr, wx, li, -⟩ := rm_at hA hx
  obtain ⟨r1, r2, r3, r4, r5, r6, r7⟩ := id hr
  have w1 := wx.1
  have w2 := wx.2.1
  have l64 := wx.2.2.2.2.1
  have l1 := lm_a1 o h S (i + 1) (by omega)
  have l2 := lm_a2 o h S (i + 1) (by omega)
  have l3 := lm_a3 o h S (i + 1) (by omega)
  have l6 := lm_a6 o h S (i + 1) (by omega)
  rw [r1] at l1
  rw [r2] at l2
  rw [r3] at l3
  rw [r5] at l6
  have num := rm_isNumber G o h S (i + 1) x (by omega) (by omega) hr wx
  have no : RK o h S vs (some (-4, lm_w o h S)) none := ⟨S, rfl, hA, fS.rf⟩
  have x31 : x.1 < 2 ^ 31 := by omega
  rw [one_37, val1_37]
  unfold m_M_one_449 m_M_one_471
  have fin : ∀ (t : Nat), t ≤ 9999 → t = tyN x → RK o h S vs ((m_M_start G o (nI 2) (nI t) (lm_w o h S)).bind fun q1 => (hp_gR q1.2 o 8 1).bind fun x2 => (hp_aI q1.2 .int x2 (nI (i + 1))).bind fun x3 => if x3 ≤ (2 : Int32) then some (-4, q1.2) else (hp_vck q1.2 o 8 (m_M_keep G o q1.2)).bind fun q4 => some (q4.1, q4.2)) (if 2 < x.1 then some (2, tyN x, 0, 0, []) else none) := fun t ht e => by
    obtain ⟨S1, e1, e2, e3⟩ := rm_start G o h S 2 t
    have k1 := lm_a1 o h S1 (i + 1) (by omega)
    rw [e3.2 1 (by decide), r1] at k1
    simp only [e1, bs, lm_g1, k1, le2_b _ x31, lm_vck, bq]
    by_cases c : 2 < x.1
    · rw [if_neg (fun q => q c), if_pos c, ← e]
      exact rm_fin G o h S S1 vs _ e3.f (e3.A hA) e2 (by simp) (fun _ => ⟨by simp, ht, by simp, by simp, by simp, by simp⟩)
    · rw [if_pos c, if_neg c]; exact ⟨S1, rfl, e3.A hA, e3.f⟩
  simp only [lm_vck, lm_g1, lm_g2, l1, l2, bs, ie_7 x31, ie_5 x31, ie_6 x31, ie_3 x31, ie_4 x31]
  unfold tyN at fin
  by_cases c7 : x.1 = 7
  · rw [if_pos c7]; exact fin x.2.1 w2 (by rw [if_pos c7])
  · rw [if_neg c7]
    by_cases c5 : x.1 = 5
    · rw [if_pos c5]; exact fin 1000 (by decide) (by rw [if_neg c7, if_pos c5])
    · rw [if_neg c5]
      by_cases c6 : x.1 = 6
      · rw [if_pos c6]; exact fin 1001 (by decide) (by rw [if_neg c7, if_neg c5, if_pos c6])
      · rw [if_neg c6]
        by_cases c3 : x.1 = 3
        · rw [if_pos c3]; exact fin 1002 (by decide) (by rw [if_neg c7, if_neg c5, if_neg c6, if_pos c3])
        · rw [if_neg c3]
          by_cases c4 : x.1 = 4
          · rw [if_pos c4]; exact fin 1003 (by decide) (by rw [if_neg c7, if_neg c5, if_neg c6, if_neg c3, if_pos c4])
          · rw [if_neg c4]; exact fin 1004 (by decide) (by rw [if_neg c7, if_neg c5, if_neg c6, if_neg c3, if_neg c4])
theorem rm_one_38 (G : Nat → Nat) (o : Nat) (h : hp_H) (hG : SM G o h) (S : lm_S) (vs : List vV) (i : Nat) (x : vV) (hA : rm_A S vs) (hO : vsO vs) (hx : vs[i]? = some x) : RK o h S vs (m_M_one G o (nI 38) (nI (i + 1)) (lm_w o h S)) (val1 38 x) := by
  obtain ⟨hr, wx, li, -⟩ := rm_at hA hx
  obtain ⟨r1, r2, r3, r4, r5, r6, r7⟩ := id hr
  have w1 := wx.1
  have w2 := wx.2.1
  have l64 := wx.2.2.2.2.1
  have l1 := lm_a1 o h S (i + 1) (by omega)
  have l2 := lm_a2 o h S (i + 1) (by omega)
  have l3 := lm_a3 o h S (i + 1) (by omega)
  have l6 := lm_a6 o h S (i + 1) (by omega)
  rw [r1] at l1
  rw [r2] at l2
  rw [r3] at l3
  rw [r5] at l6
  have num := rm_isNumber G o h S (i + 1) x (by omega) (by omega) hr wx
  have no : RK o h S vs (some (-4, lm_w o h S)) none := ⟨S, rfl, hA, fS.rf⟩
  have x31 : x.1 < 2 ^ 31 := by omega
  rw [one_38, val1_38]
  unfold m_M_one_488
  simp only [lm_vck, lm_g1, l1, bs, ie_2 x31, bq]
  by_cases c : x.1 = 2
  · rw [if_pos c, c]; exact rm_truth G o h S vs true hA
  · rw [if_neg c, beq_false_of_ne c]; exact rm_truth G o h S vs false hA
theorem rm_one_39 (G : Nat → Nat) (o : Nat) (h : hp_H) (hG : SM G o h) (S : lm_S) (vs : List vV) (i : Nat) (x : vV) (hA : rm_A S vs) (hO : vsO vs) (hx : vs[i]? = some x) : RK o h S vs (m_M_one G o (nI 39) (nI (i + 1)) (lm_w o h S)) (val1 39 x) := by
  obtain ⟨hr, wx, li, -⟩ := rm_at hA hx
  obtain ⟨r1, r2, r3, r4, r5, r6, r7⟩ := id hr
  have w1 := wx.1
  have w2 := wx.2.1
  have l64 := wx.2.2.2.2.1
  have l1 := lm_a1 o h S (i + 1) (by omega)
  have l2 := lm_a2 o h S (i + 1) (by omega)
  have l3 := lm_a3 o h S (i + 1) (by omega)
  have l6 := lm_a6 o h S (i + 1) (by omega)
  rw [r1] at l1
  rw [r2] at l2
  rw [r3] at l3
  rw [r5] at l6
  have num := rm_isNumber G o h S (i + 1) x (by omega) (by omega) hr wx
  have no : RK o h S vs (some (-4, lm_w o h S)) none := ⟨S, rfl, hA, fS.rf⟩
  have x31 : x.1 < 2 ^ 31 := by omega
  rw [one_39, val1_39]
  unfold m_M_one_508
  simp only [lm_vck, lm_g1, l1, bs, ie_1 x31, bq]
  by_cases c : x.1 = 1
  · rw [if_pos c, c]; exact rm_truth G o h S vs true hA
  · rw [if_neg c, beq_false_of_ne c]; exact rm_truth G o h S vs false hA
theorem rm_one_40 (G : Nat → Nat) (o : Nat) (h : hp_H) (hG : SM G o h) (S : lm_S) (vs : List vV) (i : Nat) (x : vV) (hA : rm_A S vs) (hO : vsO vs) (hx : vs[i]? = some x) : RK o h S vs (m_M_one G o (nI 40) (nI (i + 1)) (lm_w o h S)) (val1 40 x) := by
  obtain ⟨hr, wx, li, -⟩ := rm_at hA hx
  obtain ⟨r1, r2, r3, r4, r5, r6, r7⟩ := id hr
  have w1 := wx.1
  have w2 := wx.2.1
  have l64 := wx.2.2.2.2.1
  have l1 := lm_a1 o h S (i + 1) (by omega)
  have l2 := lm_a2 o h S (i + 1) (by omega)
  have l3 := lm_a3 o h S (i + 1) (by omega)
  have l6 := lm_a6 o h S (i + 1) (by omega)
  rw [r1] at l1
  rw [r2] at l2
  rw [r3] at l3
  rw [r5] at l6
  have num := rm_isNumber G o h S (i + 1) x (by omega) (by omega) hr wx
  have no : RK o h S vs (some (-4, lm_w o h S)) none := ⟨S, rfl, hA, fS.rf⟩
  have x31 : x.1 < 2 ^ 31 := by omega
  rw [one_40, val1_40]
  unfold m_M_one_528
  simp only [lm_vck, lm_g1, l1, bs, le2_b _ x31, bq]
  by_cases c : 2 < x.1
  · rw [if_neg (fun q => q c), decide_eq_true c]; exact rm_truth G o h S vs true hA
  · rw [if_pos c, decide_eq_false c]; exact rm_truth G o h S vs false hA
theorem rm_one_41 (G : Nat → Nat) (o : Nat) (h : hp_H) (hG : SM G o h) (S : lm_S) (vs : List vV) (i : Nat) (x : vV) (hA : rm_A S vs) (hO : vsO vs) (hx : vs[i]? = some x) : RK o h S vs (m_M_one G o (nI 41) (nI (i + 1)) (lm_w o h S)) (val1 41 x) := by
  obtain ⟨hr, wx, li, -⟩ := rm_at hA hx
  obtain ⟨r1, r2, r3, r4, r5, r6, r7⟩ := id hr
  have w1 := wx.1
  have w2 := wx.2.1
  have l64 := wx.2.2.2.2.1
  have l1 := lm_a1 o h S (i + 1) (by omega)
  have l2 := lm_a2 o h S (i + 1) (by omega)
  have l3 := lm_a3 o h S (i + 1) (by omega)
  have l6 := lm_a6 o h S (i + 1) (by omega)
  rw [r1] at l1
  rw [r2] at l2
  rw [r3] at l3
  rw [r5] at l6
  have num := rm_isNumber G o h S (i + 1) x (by omega) (by omega) hr wx
  have no : RK o h S vs (some (-4, lm_w o h S)) none := ⟨S, rfl, hA, fS.rf⟩
  have x31 : x.1 < 2 ^ 31 := by omega
  rw [one_41, val1_41]
  simp only [lm_vck, num, bs, bq]
  exact rm_truth G o h S vs _ hA
theorem rm_one (G : Nat → Nat) (o : Nat) (h : hp_H) (hG : SM G o h) (S : lm_S) (vs : List vV) (ox i : Nat) (x : vV) (ho : O1 ox) (hA : rm_A S vs) (hO : vsO vs) (hx : vs[i]? = some x) : RK o h S vs (m_M_one G o (nI ox) (nI (i + 1)) (lm_w o h S)) (val1 ox x) := by
  rcases ho with e | e | e | e | e | e | e | e | e | e | e | e | e | e | e | e <;> subst e
  · exact rm_one_3 G o h hG S vs i x hA hO hx
  · exact rm_one_17 G o h hG S vs i x hA hO hx
  · exact rm_one_18 G o h hG S vs i x hA hO hx
  · exact rm_one_19 G o h hG S vs i x hA hO hx
  · exact rm_one_20 G o h hG S vs i x hA hO hx
  · exact rm_one_21 G o h hG S vs i x hA hO hx
  · exact rm_one_25 G o h hG S vs i x hA hO hx
  · exact rm_one_27 G o h hG S vs i x hA hO hx
  · exact rm_one_28 G o h hG S vs i x hA hO hx
  · exact rm_one_35 G o h hG S vs i x hA hO hx
  · exact rm_one_36 G o h hG S vs i x hA hO hx
  · exact rm_one_37 G o h hG S vs i x hA hO hx
  · exact rm_one_38 G o h hG S vs i x hA hO hx
  · exact rm_one_39 G o h hG S vs i x hA hO hx
  · exact rm_one_40 G o h hG S vs i x hA hO hx
  · exact rm_one_41 G o h hG S vs i x hA hO hx
def val2 (o : Nat) (x y : vV) : Option vV :=
  if o = 6 then (eqV x y).map trV
  else if o = 7 then ((eqV x y).map (! ·)).map trV
  else if o = 8 then (ltV x y).map trV
  else if o = 9 then ((ltV y x).map (! ·)).map trV
  else if o = 10 then (ltV y x).map trV
  else if o = 11 then ((ltV x y).map (! ·)).map trV
  else if o = 12 then some (trV (decide (x = y)))
  else if 29 < o then arV o x y
  else if nbV x && nbV y then (if o = 13 then nmI (am9 x + 1 * am9 y) (x.1 == 3 && y.1 == 3) else if o = 14 then nmI (am9 x + -1 * am9 y) (x.1 == 3 && y.1 == 3) else if o = 15 then nmI (pr9 (am9 x) (am9 y)) (x.1 == 3 && y.1 == 3) else if y.2.2.1 = 0 then none else nmI (qt9 x y) false)
  else none
theorem val2_6 (x y : vV) : val2 6 x y = (eqV x y).map trV := by unfold val2; rw [if_pos (by decide)]
theorem val2_7 (x y : vV) : val2 7 x y = ((eqV x y).map (! ·)).map trV := by unfold val2; rw [if_neg (by decide), if_pos (by decide)]
theorem val2_8 (x y : vV) : val2 8 x y = (ltV x y).map trV := by unfold val2; rw [if_neg (by decide), if_neg (by decide), if_pos (by decide)]
theorem val2_9 (x y : vV) : val2 9 x y = ((ltV y x).map (! ·)).map trV := by unfold val2; rw [if_neg (by decide), if_neg (by decide), if_neg (by decide), if_pos (by decide)]
theorem val2_10 (x y : vV) : val2 10 x y = (ltV y x).map trV := by unfold val2; rw [if_neg (by decide), if_neg (by decide), if_neg (by decide), if_neg (by decide), if_pos (by decide)]
theorem val2_11 (x y : vV) : val2 11 x y = ((ltV x y).map (! ·)).map trV := by unfold val2; rw [if_neg (by decide), if_neg (by decide), if_neg (by decide), if_neg (by decide), if_neg (by decide), if_pos (by decide)]
theorem val2_12 (x y : vV) : val2 12 x y = some (trV (decide (x = y))) := by unfold val2; rw [if_neg (by decide), if_neg (by decide), if_neg (by decide), if_neg (by decide), if_neg (by decide), if_neg (by decide), if_pos (by decide)]
theorem rm_two (G : Nat → Nat) (o : Nat) (h : hp_H) (S : lm_S) (vs : List vV) (ox i k : Nat) (x y : vV) (ho : O2 ox) (hA : rm_A S vs) (hO : vsO vs) (hx : vs[i]? = some x) (hy : vs[k]? = some y) : RK o h S vs (m_M_two G o (nI ox) (nI (i + 1)) (nI (k + 1)) (lm_w o h S)) (val2 ox x y) := by
  obtain ⟨hr, wx, li, -⟩ := rm_at hA hx
  obtain ⟨hs, wy, lk, -⟩ := rm_at hA hy
  have n1 := rm_isNumber G o h S (i + 1) x (by omega) (by omega) hr wx
  have n2 := rm_isNumber G o h S (k + 1) y (by omega) (by omega) hs wy
  have no : RK o h S vs (some (-4, lm_w o h S)) none := ⟨S, rfl, hA, fS.rf⟩
  obtain ⟨Se, eq1, eq2⟩ := rm_equal G o h S vs hO.1 i k x y hA hx hy
  obtain ⟨Sl, lt1, lt2⟩ := rm_less G o h S vs i k x y hA hx hy
  obtain ⟨Sm, gt1, gt2⟩ := rm_less G o h S vs k i y x hA hy hx
  by_cases c29 : 29 < ox
  · have hv : val2 ox x y = arV ox x y := by
      unfold val2
      rw [if_neg (by omega), if_neg (by omega), if_neg (by omega), if_neg (by omega), if_neg (by omega), if_neg (by omega), if_neg (by omega), if_pos c29]
    have hm : m_M_two G o (nI ox) (nI (i + 1)) (nI (k + 1)) (lm_w o h S) = (m_M_around G o (nI ox) (nI (i + 1)) (nI (k + 1)) (lm_w o h S)) := by
      unfold m_M_two
      have o31 : ox < 2 ^ 31 := by unfold O2 at ho; omega
      simp only [ie_6 o31, ie_7 o31, ie_8 o31, ie_9 o31, ie_10 o31, ie_11 o31, ie_12 o31, show (29 : Int32) = nI 29 from rfl, nI_leI o31 (show 29 < 2 ^ 31 by decide)]
      rw [if_neg (by omega), if_neg (by omega), if_neg (by omega), if_neg (by omega), if_neg (by omega), if_neg (by omega), if_neg (by omega), if_neg (by omega), lm_vck, bq]
    rw [hm, hv]
    exact rm_around G o h S vs ox i k x y (by unfold O2 at ho; omega) hA hx hy
  · rcases (show ox = 6 ∨ ox = 7 ∨ ox = 8 ∨ ox = 9 ∨ ox = 10 ∨ ox = 11 ∨ ox = 12 ∨ (13 ≤ ox ∧ ox ≤ 16) by unfold O2 at ho; omega) with e | e | e | e | e | e | e | e
    · subst e
      rw [two_6, val2_6]
      simp only [lm_vck, eq1, bs, bq]
      exact RK.from eq2.f (rm_given G o h Se vs _ (eq2.A hA))
    · subst e
      rw [two_7, val2_7]
      simp only [lm_vck, eq1, bs, bq, rm_not]
      exact RK.from eq2.f (rm_given G o h Se vs _ (eq2.A hA))
    · subst e
      rw [two_8, val2_8]
      simp only [lm_vck, lt1, bs, bq]
      exact RK.from lt2.f (rm_given G o h Sl vs _ (lt2.A hA))
    · subst e
      rw [two_9, val2_9]
      simp only [lm_vck, gt1, bs, bq, rm_not]
      exact RK.from gt2.f (rm_given G o h Sm vs _ (gt2.A hA))
    · subst e
      rw [two_10, val2_10]
      simp only [lm_vck, gt1, bs, bq]
      exact RK.from gt2.f (rm_given G o h Sm vs _ (gt2.A hA))
    · subst e
      rw [two_11, val2_11]
      simp only [lm_vck, lt1, bs, bq, rm_not]
      exact RK.from lt2.f (rm_given G o h Sl vs _ (lt2.A hA))
    · subst e
      rw [two_12, val2_12]
      unfold m_M_two_130
      simp only [lm_vck, bq, nI_eq (show i + 1 < 2 ^ 31 by omega) (show k + 1 < 2 ^ 31 by omega)]
      by_cases c : i = k
      · subst c
        have : x = y := by rw [hx] at hy; injection hy
        rw [if_pos rfl, decide_eq_true this]; exact rm_truth G o h S vs true hA
      · rw [if_neg (show ¬ i + 1 = k + 1 by omega), decide_eq_false (fun q => c (nd_inj hO.1 hx (by rw [q]; exact hy)))]; exact rm_truth G o h S vs false hA
    · have hv : val2 ox x y = (if nbV x && nbV y then (if ox = 13 then nmI (am9 x + 1 * am9 y) (x.1 == 3 && y.1 == 3) else if ox = 14 then nmI (am9 x + -1 * am9 y) (x.1 == 3 && y.1 == 3) else if ox = 15 then nmI (pr9 (am9 x) (am9 y)) (x.1 == 3 && y.1 == 3) else if y.2.2.1 = 0 then none else nmI (qt9 x y) false) else none) := by
        unfold val2
        rw [if_neg (by omega), if_neg (by omega), if_neg (by omega), if_neg (by omega), if_neg (by omega), if_neg (by omega), if_neg (by omega), if_neg c29]
      have o31 : ox < 2 ^ 31 := by omega
      rw [hv]
      unfold m_M_two m_M_two_164 m_M_two_220
      simp only [ie_6 o31, ie_7 o31, ie_8 o31, ie_9 o31, ie_10 o31, ie_11 o31, ie_12 o31, ie_13 o31, ie_14 o31, ie_15 o31, show (29 : Int32) = nI 29 from rfl, nI_leI o31 (show 29 < 2 ^ 31 by decide), lm_vck, n1, n2, bs, bq]
      rw [if_neg (show ¬ ox = 6 by omega), if_neg (show ¬ ox = 7 by omega), if_neg (show ¬ ox = 8 by omega), if_neg (show ¬ ox = 9 by omega), if_neg (show ¬ ox = 10 by omega), if_neg (show ¬ ox = 11 by omega), if_neg (show ¬ ox = 12 by omega), if_pos (show ox ≤ 29 by omega)]
      cases nbV x with
      | false => rw [if_pos (show bI false = 0 from rfl)]; exact no
      | true =>
        rw [if_neg (show ¬ bI true = 0 by decide)]
        cases nbV y with
        | false => rw [if_pos (show bI false = 0 from rfl)]; exact no
        | true =>
          rw [if_neg (show ¬ bI true = 0 by decide), if_pos (show (true && true) = true from rfl)]
          by_cases c13 : ox = 13
          · rw [if_pos c13, if_pos c13]; exact rm_sum G o h S vs i k x y 1 1 (Or.inl ⟨rfl, rfl⟩) hA hx hy
          · rw [if_neg c13, if_neg c13]
            by_cases c14 : ox = 14
            · rw [if_pos c14, if_pos c14]; exact rm_sum G o h S vs i k x y (-1) (-1) (Or.inr ⟨rfl, rfl⟩) hA hx hy
            · rw [if_neg c14, if_neg c14]
              by_cases c15 : ox = 15
              · rw [if_pos c15, if_pos c15]; exact rm_product G o h S vs i k x y hA hx hy
              · rw [if_neg c15, if_neg c15]; exact rm_quotient G o h S vs i k x y hA hx hy
