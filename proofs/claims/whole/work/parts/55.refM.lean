/-! STRING of a value -/
theorem bs {α β : Type} (a : α) (f : α → Option β) : (some a).bind f = f a := Eq.trans rfl rfl
theorem ie_0 {a : Nat} (h : a < 2 ^ 31) : (nI a = (0 : Int32)) ↔ a = 0 := nI_eq (b := 0) h (by decide)
theorem ie_1 {a : Nat} (h : a < 2 ^ 31) : (nI a = (1 : Int32)) ↔ a = 1 := nI_eq (b := 1) h (by decide)
theorem ie_2 {a : Nat} (h : a < 2 ^ 31) : (nI a = (2 : Int32)) ↔ a = 2 := nI_eq (b := 2) h (by decide)
theorem ie_3 {a : Nat} (h : a < 2 ^ 31) : (nI a = (3 : Int32)) ↔ a = 3 := nI_eq (b := 3) h (by decide)
theorem ie_4 {a : Nat} (h : a < 2 ^ 31) : (nI a = (4 : Int32)) ↔ a = 4 := nI_eq (b := 4) h (by decide)
theorem ie_5 {a : Nat} (h : a < 2 ^ 31) : (nI a = (5 : Int32)) ↔ a = 5 := nI_eq (b := 5) h (by decide)
theorem ie_6 {a : Nat} (h : a < 2 ^ 31) : (nI a = (6 : Int32)) ↔ a = 6 := nI_eq (b := 6) h (by decide)
theorem ie_7 {a : Nat} (h : a < 2 ^ 31) : (nI a = (7 : Int32)) ↔ a = 7 := nI_eq (b := 7) h (by decide)
theorem ie_8 {a : Nat} (h : a < 2 ^ 31) : (nI a = (8 : Int32)) ↔ a = 8 := nI_eq (b := 8) h (by decide)
theorem ie_9 {a : Nat} (h : a < 2 ^ 31) : (nI a = (9 : Int32)) ↔ a = 9 := nI_eq (b := 9) h (by decide)
theorem ie_10 {a : Nat} (h : a < 2 ^ 31) : (nI a = (10 : Int32)) ↔ a = 10 := nI_eq (b := 10) h (by decide)
theorem ie_11 {a : Nat} (h : a < 2 ^ 31) : (nI a = (11 : Int32)) ↔ a = 11 := nI_eq (b := 11) h (by decide)
theorem ie_12 {a : Nat} (h : a < 2 ^ 31) : (nI a = (12 : Int32)) ↔ a = 12 := nI_eq (b := 12) h (by decide)
theorem ie_13 {a : Nat} (h : a < 2 ^ 31) : (nI a = (13 : Int32)) ↔ a = 13 := nI_eq (b := 13) h (by decide)
theorem ie_14 {a : Nat} (h : a < 2 ^ 31) : (nI a = (14 : Int32)) ↔ a = 14 := nI_eq (b := 14) h (by decide)
theorem ie_15 {a : Nat} (h : a < 2 ^ 31) : (nI a = (15 : Int32)) ↔ a = 15 := nI_eq (b := 15) h (by decide)
theorem ie_16 {a : Nat} (h : a < 2 ^ 31) : (nI a = (16 : Int32)) ↔ a = 16 := nI_eq (b := 16) h (by decide)
theorem ie_17 {a : Nat} (h : a < 2 ^ 31) : (nI a = (17 : Int32)) ↔ a = 17 := nI_eq (b := 17) h (by decide)
theorem ie_18 {a : Nat} (h : a < 2 ^ 31) : (nI a = (18 : Int32)) ↔ a = 18 := nI_eq (b := 18) h (by decide)
theorem ie_19 {a : Nat} (h : a < 2 ^ 31) : (nI a = (19 : Int32)) ↔ a = 19 := nI_eq (b := 19) h (by decide)
theorem ie_20 {a : Nat} (h : a < 2 ^ 31) : (nI a = (20 : Int32)) ↔ a = 20 := nI_eq (b := 20) h (by decide)
theorem ie_21 {a : Nat} (h : a < 2 ^ 31) : (nI a = (21 : Int32)) ↔ a = 21 := nI_eq (b := 21) h (by decide)
theorem ie_22 {a : Nat} (h : a < 2 ^ 31) : (nI a = (22 : Int32)) ↔ a = 22 := nI_eq (b := 22) h (by decide)
theorem ie_23 {a : Nat} (h : a < 2 ^ 31) : (nI a = (23 : Int32)) ↔ a = 23 := nI_eq (b := 23) h (by decide)
theorem ie_24 {a : Nat} (h : a < 2 ^ 31) : (nI a = (24 : Int32)) ↔ a = 24 := nI_eq (b := 24) h (by decide)
theorem ie_25 {a : Nat} (h : a < 2 ^ 31) : (nI a = (25 : Int32)) ↔ a = 25 := nI_eq (b := 25) h (by decide)
theorem ie_26 {a : Nat} (h : a < 2 ^ 31) : (nI a = (26 : Int32)) ↔ a = 26 := nI_eq (b := 26) h (by decide)
theorem ie_27 {a : Nat} (h : a < 2 ^ 31) : (nI a = (27 : Int32)) ↔ a = 27 := nI_eq (b := 27) h (by decide)
theorem ie_28 {a : Nat} (h : a < 2 ^ 31) : (nI a = (28 : Int32)) ↔ a = 28 := nI_eq (b := 28) h (by decide)
theorem ie_29 {a : Nat} (h : a < 2 ^ 31) : (nI a = (29 : Int32)) ↔ a = 29 := nI_eq (b := 29) h (by decide)
theorem ie_30 {a : Nat} (h : a < 2 ^ 31) : (nI a = (30 : Int32)) ↔ a = 30 := nI_eq (b := 30) h (by decide)
theorem ie_31 {a : Nat} (h : a < 2 ^ 31) : (nI a = (31 : Int32)) ↔ a = 31 := nI_eq (b := 31) h (by decide)
theorem ie_32 {a : Nat} (h : a < 2 ^ 31) : (nI a = (32 : Int32)) ↔ a = 32 := nI_eq (b := 32) h (by decide)
theorem ie_33 {a : Nat} (h : a < 2 ^ 31) : (nI a = (33 : Int32)) ↔ a = 33 := nI_eq (b := 33) h (by decide)
theorem ie_34 {a : Nat} (h : a < 2 ^ 31) : (nI a = (34 : Int32)) ↔ a = 34 := nI_eq (b := 34) h (by decide)
theorem ie_35 {a : Nat} (h : a < 2 ^ 31) : (nI a = (35 : Int32)) ↔ a = 35 := nI_eq (b := 35) h (by decide)
theorem ie_36 {a : Nat} (h : a < 2 ^ 31) : (nI a = (36 : Int32)) ↔ a = 36 := nI_eq (b := 36) h (by decide)
theorem ie_37 {a : Nat} (h : a < 2 ^ 31) : (nI a = (37 : Int32)) ↔ a = 37 := nI_eq (b := 37) h (by decide)
theorem ie_38 {a : Nat} (h : a < 2 ^ 31) : (nI a = (38 : Int32)) ↔ a = 38 := nI_eq (b := 38) h (by decide)
theorem ie_39 {a : Nat} (h : a < 2 ^ 31) : (nI a = (39 : Int32)) ↔ a = 39 := nI_eq (b := 39) h (by decide)
theorem ie_40 {a : Nat} (h : a < 2 ^ 31) : (nI a = (40 : Int32)) ↔ a = 40 := nI_eq (b := 40) h (by decide)
theorem ie_41 {a : Nat} (h : a < 2 ^ 31) : (nI a = (41 : Int32)) ↔ a = 41 := nI_eq (b := 41) h (by decide)
theorem ie_64 {a : Nat} (h : a < 2 ^ 31) : (nI a = (64 : Int32)) ↔ a = 64 := nI_eq (b := 64) h (by decide)
theorem ie_100 {a : Nat} (h : a < 2 ^ 31) : (nI a = (100 : Int32)) ↔ a = 100 := nI_eq (b := 100) h (by decide)
theorem ie_500 {a : Nat} (h : a < 2 ^ 31) : (nI a = (500 : Int32)) ↔ a = 500 := nI_eq (b := 500) h (by decide)
theorem ie_2000 {a : Nat} (h : a < 2 ^ 31) : (nI a = (2000 : Int32)) ↔ a = 2000 := nI_eq (b := 2000) h (by decide)
def ot (A s : Nat) : Nat → List Nat
  | 0 => []
  | p + 1 => (48 + dg A p) :: (if p = s ∧ 0 < p then 46 :: ot A s p else ot A s p)
theorem ot_len (A s : Nat) : ∀ p, (ot A s p).length ≤ 2 * p
  | 0 => Nat.le_refl _
  | p + 1 => by
    have := ot_len A s p
    rw [ot]
    by_cases c : p = s ∧ 0 < p
    · rw [if_pos c]; simp; omega
    · rw [if_neg c]; simp; omega
def nS (x : vV) : List Nat := (if x.2.2.1 < 0 then [45] else []) ++ (ot x.2.2.1.natAbs x.2.2.2.1 (cnt x.2.2.1.natAbs (x.2.2.2.1 + 1) 18) ++ if x.1 = 4 ∧ x.2.2.2.1 = 0 then [46, 48] else [])
def strS (x : vV) : Option (List Nat) := if x.1 = 1 then none else some (if x.1 = 2 then dec x.2.1 else if x.1 = 3 ∨ x.1 = 4 then nS x else if x.1 = 8 then (if x.2.1 = 1 then wdS 0 else wdS 1) else x.2.2.2.2)
theorem rm_sn_50 (G : Nat → Nat) (o : Nat) (h : hp_H) (hG : SM G o h) (v : Nat) (x : vV) (hv : v ≤ 2000) (wx : vW x) : ∀ (n p : Nat) (S : lm_S) (L : List Nat), rm_V S v x → p ≤ 18 → p < n → rm_L S L → L.length + 2 * p + 64 < 1000000 → ∃ S', m_M_stringOfNumber_50 G n o (nI v) (iI ((p : Int) - 1)) (lm_w o h S) = some ((), lm_w o h S') ∧ lT S S' ∧ rm_L S' (L ++ (ot x.2.2.1.natAbs x.2.2.2.1 p ++ if x.1 = 4 ∧ x.2.2.2.1 = 0 then [46, 48] else []))
  | 0, p, S, L, _, _, hn, _, _ => by omega
  | n + 1, p, S, L, hr, hp, hn, hL, hl => by
    have w1 := wx.1
    have w4 := wx.2.2.2.1
    rw [m_M_stringOfNumber_50]
    obtain ⟨r1, r2, r3, r4, r5, r6, r7⟩ := id hr
    cases p with
    | zero =>
      rw [if_pos (by decide), ot, List.nil_append]
      unfold m_M_stringOfNumber_123
      simp (disch := omega) only [lm_g1, lm_a1, r1, lm_g4, lm_a4, r4, bs, il_4, il_0, nI_eq, lm_vck]
      by_cases c : x.1 = 4
      · rw [if_pos c]
        by_cases c2 : x.2.2.2.1 = 0
        · rw [if_pos c2, if_pos ⟨c, c2⟩]
          obtain ⟨S', q1, q2, q3⟩ := rm_spell G o h hG S L 2 (by decide) hL (by omega)
          simp only [q1, bs]
          exact ⟨S', rfl, q2, q3⟩
        · rw [if_neg c2, if_neg (fun q => c2 q.2), List.append_nil]
          exact ⟨S, rfl, lT.rf, hL⟩
      · rw [if_neg c, if_neg (fun q => c q.1), List.append_nil]
        exact ⟨S, rfl, lT.rf, hL⟩
    | succ p =>
      rw [show iI (((p + 1 : Nat) : Int) - 1) = nI p from iI_nat (by omega), if_neg (nI_pos (by omega))]
      have dd := dg_lt x.2.2.1.natAbs p
      simp (disch := omega) only [lm_g5, bs, nI_18, lm_a5, r6 p (by omega), il_48, nI_add, lm_vck]
      obtain ⟨S1, e1, e2, e3⟩ := rm_letter G o h S L (48 + dg x.2.2.1.natAbs p) hL (by omega)
      have hr1 : rm_V S1 v x := hr.keep (fun j _ h7 => e2.2 j (by omega))
      simp (disch := omega) only [e1, bs, lm_g4, lm_a4, hr1.2.2.2.1, nI_eq]
      unfold m_M_stringOfNumber_92
      simp only [hp_nmE, show nI p + -1 = iI ((p : Int) - 1) by rw [nI_iI, show (-1 : Int32) = iI (-1) from rfl, iI_add]; exact congrArg iI (by omega)]
      rw [ot]
      by_cases c : p = x.2.2.2.1
      · rw [if_pos c]
        by_cases c2 : 0 < p
        · rw [if_neg (nI_nle c2 (by omega)), if_pos ⟨c, c2⟩, il_46]
          obtain ⟨S2, e4, e5, e6⟩ := rm_letter G o h S1 (L ++ [48 + dg x.2.2.1.natAbs p]) 46 e3 (by simp; omega)
          simp only [e4, bs, lm_vck]
          obtain ⟨S', q1, q2, q3⟩ := rm_sn_50 G o h hG v x hv wx n p S2 (L ++ [48 + dg x.2.2.1.natAbs p] ++ [46]) (hr1.keep (fun j _ h7 => e5.2 j (by omega))) (by omega) (by omega) e6 (by simp; omega)
          refine ⟨S', q1, (e2.tr e5).tr q2, ?_⟩
          rw [List.append_assoc, List.append_assoc] at q3
          exact q3
        · rw [if_pos (by rw [show p = 0 by omega]; decide), if_neg (fun q => c2 q.2)]
          obtain ⟨S', q1, q2, q3⟩ := rm_sn_50 G o h hG v x hv wx n p S1 (L ++ [48 + dg x.2.2.1.natAbs p]) hr1 (by omega) (by omega) e3 (by simp; omega)
          refine ⟨S', q1, e2.tr q2, ?_⟩
          rw [List.append_assoc] at q3
          exact q3
      · rw [if_neg c, if_neg (fun q => c q.1)]
        obtain ⟨S', q1, q2, q3⟩ := rm_sn_50 G o h hG v x hv wx n p S1 (L ++ [48 + dg x.2.2.1.natAbs p]) hr1 (by omega) (by omega) e3 (by simp; omega)
        refine ⟨S', q1, e2.tr q2, ?_⟩
        rw [List.append_assoc] at q3
        exact q3
theorem rm_sn_18 (G : Nat → Nat) (o : Nat) (h : hp_H) (hG : SM G o h) (v : Nat) (x : vV) (hv : v ≤ 2000) (wx : vW x) (S : lm_S) (L : List Nat) (hr : rm_V S v x) (hL : rm_L S L) (hl : L.length + 128 < 1000000) : ∀ (n p : Nat), p < 18 → x.2.2.2.1 ≤ p → p < n → cnt x.2.2.1.natAbs (x.2.2.2.1 + 1) 18 = cnt x.2.2.1.natAbs (x.2.2.2.1 + 1) (p + 1) → ∃ S', m_M_stringOfNumber_18 G n o (nI v) (nI p) (lm_w o h S) = some ((), lm_w o h S') ∧ lT S S' ∧ rm_L S' (L ++ (ot x.2.2.1.natAbs x.2.2.2.1 (cnt x.2.2.1.natAbs (x.2.2.2.1 + 1) 18) ++ if x.1 = 4 ∧ x.2.2.2.1 = 0 then [46, 48] else []))
  | 0, p, _, _, hn, _ => by omega
  | n + 1, p, hp, hs, hn, hc => by
    have w4 := wx.2.2.2.1
    obtain ⟨r1, r2, r3, r4, r5, r6, r7⟩ := id hr
    rw [m_M_stringOfNumber_18]
    unfold m_M_stringOfNumber_48
    have dd := dg_lt x.2.2.1.natAbs p
    simp (disch := omega) only [lm_g4, lm_a4, r4, bs, nI_leI, lm_g5, nI_18, lm_a5, r6 p (by omega), il_0, nI_eq, hp_nmE]
    have fin : cnt x.2.2.1.natAbs (x.2.2.2.1 + 1) (p + 1) = p + 1 → ∃ S', m_M_stringOfNumber_50 G hp_fu o (nI v) (nI p) (lm_w o h S) = some ((), lm_w o h S') ∧ lT S S' ∧ rm_L S' (L ++ (ot x.2.2.1.natAbs x.2.2.2.1 (cnt x.2.2.1.natAbs (x.2.2.2.1 + 1) 18) ++ if x.1 = 4 ∧ x.2.2.2.1 = 0 then [46, 48] else [])) := fun q => by
      have key := rm_sn_50 G o h hG v x hv wx hp_fu (p + 1) S L hr (by omega) (by unfold hp_fu; omega) hL (by omega)
      rw [show iI (((p + 1 : Nat) : Int) - 1) = nI p from iI_nat (by omega)] at key
      rw [hc, q]
      exact key
    by_cases c : p ≤ x.2.2.2.1
    · rw [if_pos c]
      exact fin (by rw [cnt, if_pos (Or.inr (by omega))])
    · rw [if_neg c]
      by_cases c2 : dg x.2.2.1.natAbs p = 0
      · rw [if_pos c2]
        obtain ⟨q, rfl⟩ : ∃ q, p = q + 1 := ⟨p - 1, by omega⟩
        rw [pk_m1]
        refine rm_sn_18 G o h hG v x hv wx S L hr hL hl n q (by omega) (by omega) (by omega) ?_
        rw [hc, cnt, if_neg (fun z => by rcases z with z | z; exact z c2; omega)]
      · rw [if_neg c2]
        exact fin (by rw [cnt, if_pos (Or.inl c2)])
theorem rm_stringOfNumber (G : Nat → Nat) (o : Nat) (h : hp_H) (hG : SM G o h) (v : Nat) (x : vV) (hv : v ≤ 2000) (wx : vW x) (S : lm_S) (L : List Nat) (hr : rm_V S v x) (hL : rm_L S L) (hl : L.length + 200 < 1000000) : ∃ S', m_M_stringOfNumber G o (nI v) (lm_w o h S) = some ((), lm_w o h S') ∧ lT S S' ∧ rm_L S' (L ++ nS x) := by
  have w4 := wx.2.2.2.1
  obtain ⟨r1, r2, r3, r4, r5, r6, r7⟩ := id hr
  unfold m_M_stringOfNumber m_M_stringOfNumber_15 nS
  have l3 := lm_a3 o h S v (by omega)
  simp only [lm_g3, bs, l3, r3, lm_vck, hp_nmE, il_17]
  by_cases c : x.2.2.1 < 0
  · rw [if_neg (fun q => by
      have q2 := (sgI_lt x.2.2.1).mpr c
      rw [Int32.lt_iff_toInt_lt] at q2
      rw [Int32.le_iff_toInt_le] at q
      omega), if_pos c, il_45]
    obtain ⟨S1, e1, e2, e3⟩ := rm_letter G o h S L 45 hL (by omega)
    simp only [e1, bs]
    obtain ⟨S', q1, q2, q3⟩ := rm_sn_18 G o h hG v x hv wx S1 (L ++ [45]) (hr.keep (fun j _ h7 => e2.2 j (by omega))) e3 (by simp; omega) hp_fu 17 (by decide) (by omega) (by decide) rfl
    refine ⟨S', q1, e2.tr q2, ?_⟩
    rw [List.append_assoc] at q3
    exact q3
  · rw [if_pos (by
      have q2 : ¬ sgI x.2.2.1 < 0 := fun q => c ((sgI_lt x.2.2.1).mp q)
      rw [Int32.lt_iff_toInt_lt] at q2
      rw [Int32.le_iff_toInt_le]
      omega), if_neg c, List.nil_append]
    exact rm_sn_18 G o h hG v x hv wx S L hr hL (by omega) hp_fu 17 (by decide) (by omega) (by decide) rfl
theorem hp_zb (w : Bool) (h : hp_H) : hp_z (bI w) h = some (bI w, h) := by cases w <;> rfl
theorem nS_len (x : vV) : (nS x).length ≤ 39 := by
  unfold nS
  have h1 := cnt_le x.2.2.1.natAbs (x.2.2.2.1 + 1) 18
  have h2 := ot_len x.2.2.1.natAbs x.2.2.2.1 (cnt x.2.2.1.natAbs (x.2.2.2.1 + 1) 18)
  rw [List.length_append, List.length_append]
  by_cases c : x.2.2.1 < 0
  · rw [if_pos c]
    by_cases c2 : x.1 = 4 ∧ x.2.2.2.1 = 0
    · rw [if_pos c2]; simp; omega
    · rw [if_neg c2]; simp; omega
  · rw [if_neg c]
    by_cases c2 : x.1 = 4 ∧ x.2.2.2.1 = 0
    · rw [if_pos c2]; simp; omega
    · rw [if_neg c2]; simp; omega
theorem dec_len (n : Nat) : (dec n).length ≤ 19 := by unfold dec; rw [dl_len]; exact cnt_le n 1 19
theorem strS_len {x : vV} (wx : vW x) : ((strS x).getD []).length ≤ 64 := by
  have l64 := wx.2.2.2.2.1
  have := nS_len x
  have := dec_len x.2.1
  unfold strS
  by_cases c1 : x.1 = 1
  · rw [if_pos c1]; simp
  · rw [if_neg c1]
    show (if x.1 = 2 then dec x.2.1 else if x.1 = 3 ∨ x.1 = 4 then nS x else if x.1 = 8 then (if x.2.1 = 1 then wdS 0 else wdS 1) else x.2.2.2.2).length ≤ 64
    by_cases c2 : x.1 = 2
    · rw [if_pos c2]; omega
    · rw [if_neg c2]
      by_cases c3 : x.1 = 3 ∨ x.1 = 4
      · rw [if_pos c3]; omega
      · rw [if_neg c3]
        by_cases c8 : x.1 = 8
        · rw [if_pos c8]
          by_cases c : x.2.1 = 1
          · rw [if_pos c]; decide
          · rw [if_neg c]; decide
        · rw [if_neg c8]; exact l64
theorem rm_string (G : Nat → Nat) (o : Nat) (h : hp_H) (hG : SM G o h) (S : lm_S) (vs : List vV) (i : Nat) (x : vV) (L : List Nat) (hA : rm_A S vs) (hx : vs[i]? = some x) (hL : rm_L S L) (hl : L.length + 200 < 1000000) : ∃ S', m_M_string G o (nI (i + 1)) (lm_w o h S) = some (bI (strS x).isSome, lm_w o h S') ∧ lT S S' ∧ rm_L S' (L ++ (strS x).getD []) := by
  obtain ⟨hr, wx, li, -⟩ := rm_at hA hx
  obtain ⟨r1, r2, r3, r4, r5, r6, r7⟩ := id hr
  have w1 := wx.1
  have w2 := wx.2.1
  have l64 := wx.2.2.2.2.1
  unfold m_M_string m_M_string_91
  have l1 := lm_a1 o h S (i + 1) (by omega)
  have l2 := lm_a2 o h S (i + 1) (by omega)
  have l6 := lm_a6 o h S (i + 1) (by omega)
  rw [r1] at l1
  rw [r2] at l2
  rw [r5] at l6
  simp only [lm_g1, lm_g2, lm_g6, l1, l2, l6, bs, lm_vck]
  have txt : x.1 ≠ 1 → x.1 ≠ 2 → x.1 ≠ 3 → x.1 ≠ 4 → x.1 ≠ 8 → ∃ S', ((m_M_letterAll G o (nI (i + 1)) 0 (nI x.2.2.2.2.length) (lm_w o h S)).bind fun q => hp_z 1 q.2) = some (bI (strS x).isSome, lm_w o h S') ∧ lT S S' ∧ rm_L S' (L ++ (strS x).getD []) := fun c1 c2 c3 c4 c8 => by
    obtain ⟨S', q1, q2, q3⟩ := rm_letterAll G o h S vs i x 0 x.2.2.2.2.length L hA hx (by omega) (Nat.le_refl _) hL (by omega)
    rw [show (0 : Int32) = nI 0 from rfl, q1]
    rw [List.drop_zero, Nat.sub_zero, List.take_length] at q3
    unfold strS
    rw [if_neg c1, if_neg c2, if_neg (by omega), if_neg c8]
    exact ⟨S', rfl, q2, q3⟩
  have num : (x.1 = 3 ∨ x.1 = 4) → ∃ S', ((m_M_stringOfNumber G o (nI (i + 1)) (lm_w o h S)).bind fun q => hp_z 1 q.2) = some (bI (strS x).isSome, lm_w o h S') ∧ lT S S' ∧ rm_L S' (L ++ (strS x).getD []) := fun c3 => by
    obtain ⟨S', q1, q2, q3⟩ := rm_stringOfNumber G o h hG (i + 1) x (by omega) wx S L hr hL hl
    rw [q1]
    unfold strS
    rw [if_neg (by omega), if_neg (by omega), if_pos c3]
    exact ⟨S', rfl, q2, q3⟩
  by_cases c1 : x.1 = 1
  · rw [if_pos ((ie_1 (show x.1 < 2 ^ 31 by omega)).mpr c1)]
    unfold strS
    rw [if_pos c1]
    exact ⟨S, rfl, lT.rf, by rw [show (none : Option (List Nat)).getD [] = [] from rfl, List.append_nil]; exact hL⟩
  · rw [if_neg (fun q => c1 ((ie_1 (show x.1 < 2 ^ 31 by omega)).mp q))]
    by_cases c2 : x.1 = 2
    · rw [if_pos ((ie_2 (show x.1 < 2 ^ 31 by omega)).mpr c2)]
      obtain ⟨S', q1, q2, q3⟩ := rm_digitsOf G o h x.2.1 (by omega) S L hL (by omega)
      rw [q1]
      unfold strS
      rw [if_neg c1, if_pos c2]
      exact ⟨S', rfl, q2, q3⟩
    · rw [if_neg (fun q => c2 ((ie_2 (show x.1 < 2 ^ 31 by omega)).mp q))]
      by_cases c3 : x.1 = 3
      · rw [if_pos ((ie_3 (show x.1 < 2 ^ 31 by omega)).mpr c3)]
        exact num (Or.inl c3)
      · rw [if_neg (fun q => c3 ((ie_3 (show x.1 < 2 ^ 31 by omega)).mp q))]
        by_cases c4 : x.1 = 4
        · rw [if_pos ((ie_4 (show x.1 < 2 ^ 31 by omega)).mpr c4)]
          exact num (Or.inr c4)
        · rw [if_neg (fun q => c4 ((ie_4 (show x.1 < 2 ^ 31 by omega)).mp q))]
          by_cases c8 : x.1 = 8
          · rw [if_neg (fun q => by have := (ie_5 (show x.1 < 2 ^ 31 by omega)).mp q; omega), if_neg (fun q => by have := (ie_6 (show x.1 < 2 ^ 31 by omega)).mp q; omega), if_neg (fun q => by have := (ie_7 (show x.1 < 2 ^ 31 by omega)).mp q; omega), if_pos ((ie_8 (show x.1 < 2 ^ 31 by omega)).mpr c8)]
            have e1 : (nI x.2.1 = 1) ↔ x.2.1 = 1 := nI_eq (b := 1) (by omega) (by decide)
            unfold strS
            rw [if_neg c1, if_neg c2, if_neg (show ¬ (x.1 = 3 ∨ x.1 = 4) by omega), if_pos c8]
            by_cases ce : x.2.1 = 1
            · rw [if_pos (e1.mpr ce), if_pos ce]
              obtain ⟨S', q1, q2, q3⟩ := rm_spell G o h hG S L 0 (by decide) hL (by omega)
              rw [q1]
              exact ⟨S', rfl, q2, q3⟩
            · rw [if_neg (fun q => ce (e1.mp q)), if_neg ce]
              obtain ⟨S', q1, q2, q3⟩ := rm_spell G o h hG S L 1 (by decide) hL (by omega)
              rw [q1]
              exact ⟨S', rfl, q2, q3⟩
          · have fin := txt c1 c2 c3 c4 c8
            by_cases c5 : x.1 = 5
            · rw [if_pos ((ie_5 (show x.1 < 2 ^ 31 by omega)).mpr c5)]; exact fin
            · rw [if_neg (fun q => c5 ((ie_5 (show x.1 < 2 ^ 31 by omega)).mp q))]
              by_cases c6 : x.1 = 6
              · rw [if_pos ((ie_6 (show x.1 < 2 ^ 31 by omega)).mpr c6)]; exact fin
              · rw [if_neg (fun q => c6 ((ie_6 (show x.1 < 2 ^ 31 by omega)).mp q))]
                by_cases c7 : x.1 = 7
                · rw [if_pos ((ie_7 (show x.1 < 2 ^ 31 by omega)).mpr c7)]; exact fin
                · rw [if_neg (fun q => c7 ((ie_7 (show x.1 < 2 ^ 31 by omega)).mp q)), if_neg (fun q => c8 ((ie_8 (show x.1 < 2 ^ 31 by omega)).mp q))]; exact fin
