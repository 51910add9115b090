/-! parts of a text, capitals, chains -/
def smR (f t : Int) : List Nat → Int → List Nat
  | [], _ => []
  | b :: r, p => if f ≤ p ∧ p < t then b :: smR f t r (p + 1) else smR f t r (p + 1)
theorem smR_len (f t : Int) : ∀ (X : List Nat) (p : Int), (smR f t X p).length ≤ X.length
  | [], _ => Nat.le_refl _
  | b :: r, p => by
    have := smR_len f t r (p + 1)
    rw [smR]
    by_cases c : f ≤ p ∧ p < t
    · rw [if_pos c]; simp; omega
    · rw [if_neg c]; simp; omega
theorem smR_mem (f t : Int) : ∀ (X : List Nat) (p : Int) (b : Nat), b ∈ smR f t X p → b ∈ X
  | [], _, b, h => h
  | a :: r, p, b, h => by
    rw [smR] at h
    by_cases c : f ≤ p ∧ p < t
    · rw [if_pos c] at h
      rcases List.mem_cons.mp h with e | e
      · rw [e]; exact List.mem_cons_self ..
      · exact List.mem_cons_of_mem _ (smR_mem f t r (p + 1) b e)
    · rw [if_neg c] at h; exact List.mem_cons_of_mem _ (smR_mem f t r (p + 1) b h)
theorem rm_some_67 (G : Nat → Nat) (o : Nat) (h : hp_H) (S0 : lm_S) (vs : List vV) (i : Nat) (x : vV) (hx : vs[i]? = some x) (wx : vW x) (f t : Int) (hf : iL f) (ht : iL t) : ∀ (n p : Nat) (S : lm_S) (L : List Nat), p ≤ x.2.2.2.2.length → x.2.2.2.2.length - p < n → rm_A S vs → fS S0 S → rm_C S (ltrs x L) → L.length ≤ p → (∀ b ∈ L, b < 128) → RK o h S0 vs (m_M_some_67 G n o (nI (i + 1)) (jL f) (jL t) (nI (p + 1)) (lm_w o h S)) (some (ltrs x (L ++ smR f t (x.2.2.2.2.drop p) ((p : Int) + 1))))
  | 0, p, S, L, _, hn, _, _, _, _, _ => by omega
  | n + 1, p, S, L, hp, hn, hA, hS, hC, hl, hb => by
    obtain ⟨hr, -, li, -⟩ := rm_at hA hx
    have lx := wx.2.2.2.2.1
    have l6 := lm_a6 o h S (i + 1) (by omega)
    rw [hr.2.2.2.2.1] at l6
    rw [m_M_some_67]
    unfold m_M_some_114
    have hp64 : iL (((p + 1 : Nat) : Int)) := by unfold iL; omega
    simp only [lm_g6, l6, bs, nI_ltI (show x.2.2.2.2.length < 2 ^ 31 by omega) (show p + 1 < 2 ^ 31 by omega), nI_64L (p + 1) (by omega), lm_vck, bq, hp_nmE, nI_1]
    by_cases c : x.2.2.2.2.length < p + 1
    · rw [if_pos c, List.drop_eq_nil_of_le (by omega), smR, List.append_nil]
      exact rm_fin G o h S0 S vs _ hS hA hC (by show L.length < _; omega) (ltrs_W wx hb)
    · rw [if_neg c, take_s (show p < x.2.2.2.2.length by omega), smR]
      have c1 := (lgc_gt (jL f) (jL ((p + 1 : Nat) : Int))).trans (jL_lt hp64 hf)
      have c2 := (lgc_ge (jL ((p + 1 : Nat) : Int)) (jL t)).trans (jL_le ht hp64)
      by_cases d1 : ((p + 1 : Nat) : Int) < f
      · rw [if_pos (c1.mpr d1), if_neg (show ¬ (f ≤ (p : Int) + 1 ∧ (p : Int) + 1 < t) by omega)]
        have key := rm_some_67 G o h S0 vs i x hx wx f t hf ht n (p + 1) S L (by omega) (by omega) hA hS hC (by omega) hb
        rw [show (((p + 1 : Nat) : Int) + 1) = (p : Int) + 1 + 1 by omega] at key
        exact key
      · rw [if_neg (fun q => d1 (c1.mp q))]
        by_cases d2 : t ≤ ((p + 1 : Nat) : Int)
        · rw [if_pos (c2.mpr d2), if_neg (show ¬ (f ≤ (p : Int) + 1 ∧ (p : Int) + 1 < t) by omega)]
          have key := rm_some_67 G o h S0 vs i x hx wx f t hf ht n (p + 1) S L (by omega) (by omega) hA hS hC (by omega) hb
          rw [show (((p + 1 : Nat) : Int) + 1) = (p : Int) + 1 + 1 by omega] at key
          exact key
        · rw [if_neg (fun q => d2 (c2.mp q)), if_pos (show f ≤ (p : Int) + 1 ∧ (p : Int) + 1 < t by omega)]
          have l7 := lm_a7 o h S (64 * (i + 1) + p) (by omega)
          rw [hr.2.2.2.2.2.2 p (by omega)] at l7
          rw [show (64 : Int32) * nI (i + 1) + nI (p + 1) - 1 = nI (64 * (i + 1) + p) by rw [nI_64, show (1 : Int32) = nI 1 from rfl, pk_sub (by omega)]; exact congrArg nI (by omega)]
          simp only [lm_g7, l7, bs]
          have bx : x.2.2.2.2.getD p 0 < 128 := wx.2.2.2.2.2 _ (by rw [List.getD_eq_getElem?_getD, List.getElem?_eq_getElem (by omega)]; exact List.getElem_mem _)
          obtain ⟨S1, e1, e2, e3⟩ := rm_letter G o h S L (x.2.2.2.2.getD p 0) (hC.L (by omega)) (by omega)
          simp only [e1, bs]
          have key := rm_some_67 G o h S0 vs i x hx wx f t hf ht n (p + 1) S1 (L ++ [x.2.2.2.2.getD p 0]) (by omega) (by omega) (e2.A hA) (hS.tr e2.f) (hC.to e2 e3) (by simp; omega) (fun b hb2 => by
            rcases List.mem_append.mp hb2 with q | q
            · exact hb b q
            · simp at q; rw [q]; exact bx)
          rw [show (((p + 1 : Nat) : Int) + 1) = (p : Int) + 1 + 1 by omega, List.append_assoc] at key
          exact key
def smV (x y z : vV) : Option vV := if plV x && (y.1 == 3 && z.1 == 3) then some (ltrs x (smR y.2.2.1 (y.2.2.1 + z.2.2.1) x.2.2.2.2 1)) else none
theorem rm_some (G : Nat → Nat) (o : Nat) (h : hp_H) (S : lm_S) (vs : List vV) (i j k : Nat) (x y z : vV) (hA : rm_A S vs) (hx : vs[i]? = some x) (hy : vs[j]? = some y) (hz : vs[k]? = some z) : RK o h S vs (m_M_some G o (nI (i + 1)) (nI (j + 1)) (nI (k + 1)) (lm_w o h S)) (smV x y z) := by
  obtain ⟨hr, wx, li, -⟩ := rm_at hA hx
  obtain ⟨hs, wy, lj, -⟩ := rm_at hA hy
  obtain ⟨ht, wz, lk, -⟩ := rm_at hA hz
  have w2 := wy.1
  have w3 := wz.1
  have l1 := lm_a1 o h S (i + 1) (by omega)
  have l2 := lm_a2 o h S (i + 1) (by omega)
  have m1 := lm_a1 o h S (j + 1) (by omega)
  have n1 := lm_a1 o h S (k + 1) (by omega)
  rw [hr.1] at l1
  rw [hr.2.1] at l2
  rw [hs.1] at m1
  rw [ht.1] at n1
  have a1 := rm_amount G o h S vs (nI (j + 1)) hA
  have a2 := rm_amount G o h S vs (nI (k + 1)) hA
  rw [amtV, vAt_n _ _ (by omega), hy] at a1
  rw [amtV, vAt_n _ _ (by omega), hz] at a2
  simp only at a1 a2
  unfold m_M_some m_M_some_28 smV
  simp only [lm_vck, rm_isPlain G o h S (i + 1) x (by omega) hr wx, bs, lm_g1, lm_g2, m1, n1, l1, l2, ie_3 (show y.1 < 2 ^ 31 by omega), ie_3 (show z.1 < 2 ^ 31 by omega), a1, a2, hp_nmE, jL_add]
  have no : RK o h S vs (some (-4, lm_w o h S)) none := ⟨S, rfl, hA, fS.rf⟩
  cases plV x with
  | false => rw [if_pos (show bI false = 0 from rfl)]; exact no
  | true =>
    rw [if_neg (show ¬ bI true = 0 by decide), Bool.true_and]
    by_cases c : y.1 = 3
    · rw [if_pos c, c]
      by_cases d : z.1 = 3
      · rw [if_pos d, d, if_pos (show ((3 : Nat) == 3 && (3 : Nat) == 3) = true from rfl)]
        obtain ⟨S1, e1, e2, e3⟩ := rm_start G o h S x.1 x.2.1
        simp only [e1, bs]
        have y3 := wy.2.2.1
        have z3 := wz.2.2.1
        have key := rm_some_67 G o h S vs i x hx wx y.2.2.1 (y.2.2.1 + z.2.2.1) (by unfold iL; omega) (by unfold iL; omega) hp_fu 0 S1 [] (by clear y3 z3; omega) (by have := wx.2.2.2.2.1; unfold hp_fu; clear y3 z3; omega) (e3.A hA) e3.f e2 (by decide) (fun b hb => by cases hb)
        rw [List.nil_append, List.drop_zero] at key
        exact key
      · rw [if_neg d, beq_false_of_ne d]; exact no
    · rw [if_neg c, beq_false_of_ne c]; exact no
def csB (first b : Nat) : Nat := if first ≤ b ∧ b < first + 26 then b ^^^ 32 else b
theorem xor_b : ∀ b, b < 128 → nI b ^^^ 32 = nI (b ^^^ 32) ∧ b ^^^ 32 < 128 := by decide +kernel
theorem csB_lt {f b : Nat} (h : b < 128) : csB f b < 128 := by
  unfold csB
  by_cases c : f ≤ b ∧ b < f + 26
  · rw [if_pos c]; exact (xor_b b h).2
  · rw [if_neg c]; exact h
theorem rm_cased_44 (G : Nat → Nat) (o : Nat) (h : hp_H) (S0 : lm_S) (vs : List vV) (i : Nat) (x : vV) (hx : vs[i]? = some x) (wx : vW x) (fi : Nat) (hfi : fi ≤ 97) : ∀ (n p : Nat) (S : lm_S) (L : List Nat), p ≤ x.2.2.2.2.length → x.2.2.2.2.length - p < n → rm_A S vs → fS S0 S → rm_C S (ltrs x L) → L.length ≤ p → (∀ b ∈ L, b < 128) → RK o h S0 vs (m_M_cased_44 G n o (nI (i + 1)) (nI fi) (nI p) (lm_w o h S)) (some (ltrs x (L ++ (x.2.2.2.2.drop p).map (csB fi))))
  | 0, p, S, L, _, hn, _, _, _, _, _ => by omega
  | n + 1, p, S, L, hp, hn, hA, hS, hC, hl, hb => by
    obtain ⟨hr, -, li, -⟩ := rm_at hA hx
    have lx := wx.2.2.2.2.1
    have l6 := lm_a6 o h S (i + 1) (by omega)
    rw [hr.2.2.2.2.1] at l6
    rw [m_M_cased_44]
    unfold m_M_cased_93 m_M_cased_95
    simp only [lm_g6, l6, bs, nI_leI (show x.2.2.2.2.length < 2 ^ 31 by omega) (show p < 2 ^ 31 by omega), lm_vck, bq, hp_nmE, nI_1]
    by_cases c : x.2.2.2.2.length ≤ p
    · rw [if_pos c, List.drop_eq_nil_of_le c, List.map_nil, List.append_nil]
      exact rm_fin G o h S0 S vs _ hS hA hC (by show L.length < _; omega) (ltrs_W wx hb)
    · rw [if_neg c, take_s (show p < x.2.2.2.2.length by omega), List.map_cons]
      have l7 := lm_a7 o h S (64 * (i + 1) + p) (by omega)
      rw [hr.2.2.2.2.2.2 p (by omega)] at l7
      have bx : x.2.2.2.2.getD p 0 < 128 := wx.2.2.2.2.2 _ (by rw [List.getD_eq_getElem?_getD, List.getElem?_eq_getElem (by omega)]; exact List.getElem_mem _)
      simp only [lm_g7, nI_64, l7, bs, show (26 : Int32) = nI 26 from rfl, nI_add, nI_ltI (show x.2.2.2.2.getD p 0 < 2 ^ 31 by omega) (show fi < 2 ^ 31 by omega), nI_leI (show fi + 26 < 2 ^ 31 by omega) (show x.2.2.2.2.getD p 0 < 2 ^ 31 by omega), (xor_b _ bx).1]
      have go : ∀ b' : Nat, b' = csB fi (x.2.2.2.2.getD p 0) → RK o h S0 vs ((m_M_letter G o (nI b') (lm_w o h S)).bind fun q1 => m_M_cased_44 G n o (nI (i + 1)) (nI fi) (nI (p + 1)) q1.2) (some (ltrs x (L ++ csB fi (x.2.2.2.2.getD p 0) :: (x.2.2.2.2.drop (p + 1)).map (csB fi)))) := fun b' hb' => by
        obtain ⟨S1, e1, e2, e3⟩ := rm_letter G o h S L b' (hC.L (by omega)) (by omega)
        simp only [e1, bs]
        have key := rm_cased_44 G o h S0 vs i x hx wx fi hfi n (p + 1) S1 (L ++ [b']) (by omega) (by omega) (e2.A hA) (hS.tr e2.f) (hC.to e2 e3) (by simp; omega) (fun b hb2 => by
          rcases List.mem_append.mp hb2 with q | q
          · exact hb b q
          · simp at q; rw [q, hb']; exact csB_lt bx)
        rw [List.append_assoc, hb'] at key
        exact key
      by_cases d1 : x.2.2.2.2.getD p 0 < fi
      · rw [if_pos d1]; exact go _ (by unfold csB; rw [if_neg (by omega)])
      · rw [if_neg d1]
        by_cases d2 : fi + 26 ≤ x.2.2.2.2.getD p 0
        · rw [if_pos d2]; exact go _ (by unfold csB; rw [if_neg (by omega)])
        · rw [if_neg d2]; exact go _ (by unfold csB; rw [if_pos (by omega)])
def csV (ox : Nat) (x : vV) : Option vV := if plV x then some (ltrs x (x.2.2.2.2.map (csB (if ox = 27 then 97 else 65)))) else none
theorem rm_cased (G : Nat → Nat) (o : Nat) (h : hp_H) (S : lm_S) (vs : List vV) (i ox : Nat) (x : vV) (ho : ox ≤ 41) (hA : rm_A S vs) (hx : vs[i]? = some x) : RK o h S vs (m_M_cased G o (nI (i + 1)) (nI ox) (lm_w o h S)) (csV ox x) := by
  obtain ⟨hr, wx, li, -⟩ := rm_at hA hx
  have l1 := lm_a1 o h S (i + 1) (by omega)
  have l2 := lm_a2 o h S (i + 1) (by omega)
  rw [hr.1] at l1
  rw [hr.2.1] at l2
  unfold m_M_cased m_M_cased_24 csV
  obtain ⟨S1, e1, e2, e3⟩ := rm_start G o h S x.1 x.2.1
  simp only [lm_vck, rm_isPlain G o h S (i + 1) x (by omega) hr wx, bs, lm_g1, lm_g2, l1, l2, ie_27 (show ox < 2 ^ 31 by omega), hp_nmE, e1]
  cases plV x with
  | false => rw [if_pos (show bI false = 0 from rfl)]; exact ⟨S, rfl, hA, fS.rf⟩
  | true =>
    rw [if_neg (show ¬ bI true = 0 by decide), if_pos (show true = true from rfl)]
    have key := fun fi hfi => rm_cased_44 G o h S vs i x hx wx fi hfi hp_fu 0 S1 [] (by omega) (by have := wx.2.2.2.2.1; unfold hp_fu; omega) (e3.A hA) e3.f e2 (by decide) (fun b hb => by cases hb)
    by_cases c : ox = 27
    · rw [if_pos c, if_pos c]; exact key 97 (by decide)
    · rw [if_neg c, if_neg c]; exact key 65 (by decide)
