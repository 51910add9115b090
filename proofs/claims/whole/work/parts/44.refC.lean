/-! THE REFERENCE'S keep. 'kp': what keeping a value answers, and the values then; 'kq': the same of what may be an ERROR -/
def vO (x : vV) : Prop := 1 ≤ x.1 ∧ x.1 ≤ 8 ∧ x.2.1 ≤ 9999 ∧ (x.1 = 3 ∨ x.1 = 4 → x.2.1 = 0 ∧ x.2.2.2.2 = [] ∧ (x.1 = 3 → x.2.2.2.1 = 0) ∧ x.2.2.2.1 ≤ 9 ∧ x.2.2.1.natAbs < 10 ^ 18 ∧ (x.2.2.2.1 = 0 ∨ x.2.2.1.natAbs % 10 ≠ 0)) ∧ (x.1 ≠ 3 → x.1 ≠ 4 → x.2.2.1 = 0 ∧ x.2.2.2.1 = 0) ∧ (x.1 = 8 → x.2.1 ≤ 1) ∧ (x.1 < 5 ∨ x.1 = 8 → x.2.2.2.2 = []) ∧ (x.1 = 5 → x.2.1 = 0) ∧ (x.1 = 6 ∨ x.1 = 7 → x.2.1 < 100) ∧ ∀ b ∈ x.2.2.2.2, 0 < b ∧ b < 128
theorem vO.W {x : vV} (h : vO x) (hl : x.2.2.2.2.length ≤ 64) : vW x := by
  obtain ⟨h1, h2, h3, h4, h5, h6, h7, h8, h9, h10⟩ := h
  refine ⟨h2, h3, ?_, ?_, hl, fun b hb => (h10 b hb).2⟩
  · by_cases e : x.1 = 3 ∨ x.1 = 4
    · exact (h4 e).2.2.2.2.1
    · rw [(h5 (by omega) (by omega)).1]; decide
  · by_cases e : x.1 = 3 ∨ x.1 = 4
    · exact (h4 e).2.2.2.1
    · rw [(h5 (by omega) (by omega)).2]; decide
def kp (vs : List vV) (x : vV) : Int32 × List vV := if 64 < x.2.2.2.2.length then (-4, vs) else if x ∈ vs then (nI (vs.idxOf x + 1), vs) else if vs.length = 2000 then (-3, vs) else (nI (vs.length + 1), vs ++ [x])
def kq (vs : List vV) (ox : Option vV) : Int32 × List vV := match ox with
  | none => (-4, vs)
  | some x => kp vs x
/-- the numbers of the object, and its arrays, that neither keep a value nor are used on the way -/
def fS (S S' : lm_S) : Prop := (S'.1 9 = S.1 9 ∧ S'.1 22 = S.1 22 ∧ S'.1 26 = S.1 26 ∧ S'.1 27 = S.1 27 ∧ S'.1 28 = S.1 28 ∧ S'.1 29 = S.1 29) ∧ S'.2 8 = S.2 8 ∧ S'.2 14 = S.2 14 ∧ S'.2 15 = S.2 15 ∧ S'.2 16 = S.2 16 ∧ S'.2 17 = S.2 17 ∧ S'.2 18 = S.2 18
theorem fS.rf {S : lm_S} : fS S S := ⟨⟨rfl, rfl, rfl, rfl, rfl, rfl⟩, rfl, rfl, rfl, rfl, rfl, rfl⟩
theorem fS.tr {S S' S'' : lm_S} (h1 : fS S S') (h2 : fS S' S'') : fS S S'' := by
  obtain ⟨⟨a1, a2, a3, a4, a5, a6⟩, b1, b2, b3, b4, b5, b6⟩ := h1
  obtain ⟨⟨c1, c2, c3, c4, c5, c6⟩, d1, d2, d3, d4, d5, d6⟩ := h2
  exact ⟨⟨c1.trans a1, c2.trans a2, c3.trans a3, c4.trans a4, c5.trans a5, c6.trans a6⟩, d1.trans b1, d2.trans b2, d3.trans b3, d4.trans b4, d5.trans b5, d6.trans b6⟩
theorem idx_of {vs : List vV} {x : vV} {i : Nat} (h : vs[i]? = some x) (hj : ∀ j, j < i → vs[j]? ≠ some x) : vs.idxOf x = i := by
  induction vs generalizing i with
  | nil => simp at h
  | cons y ys ih =>
    cases i with
    | zero => simp at h; subst h; simp
    | succ i =>
      have hne : y ≠ x := fun q => hj 0 (Nat.succ_pos i) (by simp [q])
      have e := ih (i := i) (by simpa using h) (fun j hj' => by have := hj (j + 1) (by omega); simpa using this)
      rw [List.idxOf_cons, beq_false_of_ne hne, e]; rfl
theorem rm_keep_152 (G : Nat → Nat) (o : Nat) (h : hp_H) (v : Nat) (hv : v ≤ 2000) (L : Nat) (hL : L ≤ 64) : ∀ (n k : Nat) (S : lm_S), S.1 16 = nI L → k ≤ L → L - k < n → (∀ j, j < k → S.2 7 (64 * v + j) = S.2 10 j) → ∃ f, m_M_keep_152 G n o (nI v) (nI k) (lm_w o h S) = some (nI v, lm_w o h (S.1, lm_up S.2 7 f)) ∧ (∀ j, j < L → f (64 * v + j) = S.2 10 j) ∧ ∀ i, i < 64 * v → f i = S.2 7 i
  | 0, k, S, _, _, hn, _ => by omega
  | n + 1, k, S, hs, hk, hn, hz => by
    rw [m_M_keep_152]
    simp (disch := omega) only [lm_g0, lm_g1, lm_g2, lm_g3, lm_g4, lm_g5, lm_g6, lm_g7, lm_g8, lm_g9, lm_g10, lm_g11, lm_g12, lm_g13, lm_g14, lm_g15, lm_g16, lm_g17, lm_g18, lm_g19, lm_g20, lm_g21, lm_g22, lm_g23, lm_g24, lm_g25, lm_g26, lm_g27, lm_g28, lm_g29, lm_g30, lm_g31, lm_g32, lm_g33, lm_p0, lm_p9, lm_p10, lm_p11, lm_p12, lm_p13, lm_p16, lm_p22, lm_p26, lm_p27, lm_p28, lm_p29, lm_p31, lm_p32, lm_a1, lm_a2, lm_a3, lm_a4, lm_a5, lm_a6, lm_a7, lm_a8, lm_a9, lm_a10, lm_a11, lm_a12, lm_a13, lm_a14, lm_a15, lm_a16, lm_a17, lm_a18, lm_a19, lm_a20, lm_s1, lm_s2, lm_s3, lm_s4, lm_s5, lm_s6, lm_s7, lm_s8, lm_s9, lm_s10, lm_s11, lm_s12, lm_s13, lm_s14, lm_s15, lm_s16, lm_s17, lm_s18, lm_s19, lm_s20, lm_vck, lm_ups, lm_upn, upd_s, upd_n, Option.bind_some, hp_nm, hp_z1, hp_z0, bq, reduceIte, il_0, il_1, il_2, il_3, il_4, il_5, il_6, il_7, il_8, il_9, il_10, il_11, il_12, il_13, il_14, il_15, il_16, il_17, il_18, il_19, il_20, il_21, il_22, il_23, il_24, il_25, il_26, il_27, il_28, il_29, il_30, il_31, il_32, il_33, il_34, il_35, il_36, il_37, il_38, il_39, il_40, il_41, il_45, il_46, il_48, il_63, il_64, il_65, il_90, il_97, il_99, il_100, il_122, il_127, il_128, il_255, il_500, il_1000, il_1001, il_1002, il_1003, il_1004, il_2000, il_9999, nI_add, pk_mul, pk_sub, nI_leI, nI_ltI, nI_eq, hp_dI_n, hp_mI_n, hs]
    by_cases e : k = L
    · subst e
      rw [if_pos (Nat.le_refl _)]
      exact ⟨S.2 7, by rw [lm_upi], hz, fun _ _ => rfl⟩
    · rw [if_neg (by omega)]
      obtain ⟨f, e1, e2, e3⟩ := rm_keep_152 G o h v hv L hL n (k + 1) (S.1, lm_up S.2 7 (upd (S.2 7) (64 * v + k) (S.2 10 k))) hs (by omega) (by omega) (fun j hj => by
        show lm_up S.2 7 (upd (S.2 7) (64 * v + k) (S.2 10 k)) 7 (64 * v + j) = lm_up S.2 7 (upd (S.2 7) (64 * v + k) (S.2 10 k)) 10 j
        rw [lm_ups, lm_upn _ _ (by decide)]
        by_cases ej : j = k
        · subst ej; exact upd_s _ _ _
        · rw [upd_n _ _ (by omega)]; exact hz j (by omega))
      refine ⟨f, ?_, ?_, ?_⟩
      · rw [e1]; simp only [lm_upu]
      · exact e2
      · intro i hi
        rw [e3 i hi]
        simp (disch := omega) only [lm_ups, upd_n]
theorem rm_keep_121 (G : Nat → Nat) (o : Nat) (h : hp_H) (v : Nat) (hv : v ≤ 2000) (L : Nat) (hL : L ≤ 64) : ∀ (n k : Nat) (S : lm_S), S.1 16 = nI L → k ≤ 18 → 18 - k < n → (∀ j, j < k → S.2 5 (18 * v + j) = S.2 9 j) → ∃ g f, m_M_keep_121 G n o (nI v) (nI k) (lm_w o h S) = some (nI v, lm_w o h (S.1, lm_up (lm_up S.2 5 g) 7 f)) ∧ (∀ j, j < 18 → g (18 * v + j) = S.2 9 j) ∧ (∀ i, i < 18 * v → g i = S.2 5 i) ∧ (∀ j, j < L → f (64 * v + j) = S.2 10 j) ∧ ∀ i, i < 64 * v → f i = S.2 7 i
  | 0, k, S, _, _, hn, _ => by omega
  | n + 1, k, S, hs, hk, hn, hz => by
    rw [m_M_keep_121]
    simp (disch := omega) only [lm_g0, lm_g1, lm_g2, lm_g3, lm_g4, lm_g5, lm_g6, lm_g7, lm_g8, lm_g9, lm_g10, lm_g11, lm_g12, lm_g13, lm_g14, lm_g15, lm_g16, lm_g17, lm_g18, lm_g19, lm_g20, lm_g21, lm_g22, lm_g23, lm_g24, lm_g25, lm_g26, lm_g27, lm_g28, lm_g29, lm_g30, lm_g31, lm_g32, lm_g33, lm_p0, lm_p9, lm_p10, lm_p11, lm_p12, lm_p13, lm_p16, lm_p22, lm_p26, lm_p27, lm_p28, lm_p29, lm_p31, lm_p32, lm_a1, lm_a2, lm_a3, lm_a4, lm_a5, lm_a6, lm_a7, lm_a8, lm_a9, lm_a10, lm_a11, lm_a12, lm_a13, lm_a14, lm_a15, lm_a16, lm_a17, lm_a18, lm_a19, lm_a20, lm_s1, lm_s2, lm_s3, lm_s4, lm_s5, lm_s6, lm_s7, lm_s8, lm_s9, lm_s10, lm_s11, lm_s12, lm_s13, lm_s14, lm_s15, lm_s16, lm_s17, lm_s18, lm_s19, lm_s20, lm_vck, lm_ups, lm_upn, upd_s, upd_n, Option.bind_some, hp_nm, hp_z1, hp_z0, bq, reduceIte, il_0, il_1, il_2, il_3, il_4, il_5, il_6, il_7, il_8, il_9, il_10, il_11, il_12, il_13, il_14, il_15, il_16, il_17, il_18, il_19, il_20, il_21, il_22, il_23, il_24, il_25, il_26, il_27, il_28, il_29, il_30, il_31, il_32, il_33, il_34, il_35, il_36, il_37, il_38, il_39, il_40, il_41, il_45, il_46, il_48, il_63, il_64, il_65, il_90, il_97, il_99, il_100, il_122, il_127, il_128, il_255, il_500, il_1000, il_1001, il_1002, il_1003, il_1004, il_2000, il_9999, nI_add, pk_mul, pk_sub, nI_leI, nI_ltI, nI_eq, hp_dI_n, hp_mI_n]
    by_cases e : k = 18
    · subst e
      rw [if_pos (Nat.le_refl _)]
      obtain ⟨f, e1, e2, e3⟩ := rm_keep_152 G o h v hv L hL hp_fu 0 S hs (by omega) (by unfold hp_fu; omega) (fun j hj => by omega)
      exact ⟨S.2 5, f, by rw [e1, lm_upi], hz, fun _ _ => rfl, e2, e3⟩
    · rw [if_neg (by omega)]
      obtain ⟨g, f, e1, e2, e3, e4, e5⟩ := rm_keep_121 G o h v hv L hL n (k + 1) (S.1, lm_up S.2 5 (upd (S.2 5) (18 * v + k) (S.2 9 k))) hs (by omega) (by omega) (fun j hj => by
        show lm_up S.2 5 (upd (S.2 5) (18 * v + k) (S.2 9 k)) 5 (18 * v + j) = lm_up S.2 5 (upd (S.2 5) (18 * v + k) (S.2 9 k)) 9 j
        rw [lm_ups, lm_upn _ _ (by decide)]
        by_cases ej : j = k
        · subst ej; exact upd_s _ _ _
        · rw [upd_n _ _ (by omega)]; exact hz j (by omega))
      refine ⟨g, f, ?_, e2, ?_, e4, e5⟩
      · rw [e1]; simp only [lm_upu]
      · intro i hi
        rw [e3 i hi]
        simp (disch := omega) only [lm_ups, upd_n]
theorem rm_V.after {S S' : lm_S} {v w : Nat} {x : vV} (hv : v < w) (h : rm_V S v x) (hx : x.2.2.2.2.length ≤ 64) (h1 : S'.2 1 v = S.2 1 v) (h2 : S'.2 2 v = S.2 2 v) (h3 : S'.2 3 v = S.2 3 v) (h4 : S'.2 4 v = S.2 4 v) (h6 : S'.2 6 v = S.2 6 v) (h5 : ∀ i, i < 18 * w → S'.2 5 i = S.2 5 i) (h7 : ∀ i, i < 64 * w → S'.2 7 i = S.2 7 i) : rm_V S' v x := by
  obtain ⟨a1, a2, a3, a4, a5, a6, a7⟩ := h
  refine ⟨h1.trans a1, h2.trans a2, h3.trans a3, h4.trans a4, h6.trans a5, fun k hk => ?_, fun k hk => ?_⟩
  · rw [h5 _ (by omega)]; exact a6 k hk
  · rw [h7 _ (by omega)]; exact a7 k hk
theorem rm_keep_new (G : Nat → Nat) (o : Nat) (h : hp_H) (S : lm_S) (vs : List vV) (x : vV) (hA : rm_A S vs) (hc : rm_C S x) (hx : vW x) (hl : vs.length ≠ 2000) : ∃ S', m_M_keep_36 G o (nI (vs.length + 1)) (lm_w o h S) = some (nI (vs.length + 1), lm_w o h S') ∧ rm_A S' (vs ++ [x]) ∧ fS S S' := by
  obtain ⟨hA0, hA1, hA2⟩ := hA
  obtain ⟨c1, c2, c3, c4, c5, c6, c7⟩ := hc
  obtain ⟨x1, x2, x3, x4, x5, x6⟩ := id hx
  unfold m_M_keep_36
  simp (disch := omega) only [lm_g0, lm_g1, lm_g2, lm_g3, lm_g4, lm_g5, lm_g6, lm_g7, lm_g8, lm_g9, lm_g10, lm_g11, lm_g12, lm_g13, lm_g14, lm_g15, lm_g16, lm_g17, lm_g18, lm_g19, lm_g20, lm_g21, lm_g22, lm_g23, lm_g24, lm_g25, lm_g26, lm_g27, lm_g28, lm_g29, lm_g30, lm_g31, lm_g32, lm_g33, lm_p0, lm_p9, lm_p10, lm_p11, lm_p12, lm_p13, lm_p16, lm_p22, lm_p26, lm_p27, lm_p28, lm_p29, lm_p31, lm_p32, lm_a1, lm_a2, lm_a3, lm_a4, lm_a5, lm_a6, lm_a7, lm_a8, lm_a9, lm_a10, lm_a11, lm_a12, lm_a13, lm_a14, lm_a15, lm_a16, lm_a17, lm_a18, lm_a19, lm_a20, lm_s1, lm_s2, lm_s3, lm_s4, lm_s5, lm_s6, lm_s7, lm_s8, lm_s9, lm_s10, lm_s11, lm_s12, lm_s13, lm_s14, lm_s15, lm_s16, lm_s17, lm_s18, lm_s19, lm_s20, lm_vck, lm_ups, lm_upn, upd_s, upd_n, Option.bind_some, hp_nm, hp_z1, hp_z0, bq, reduceIte, il_0, il_1, il_2, il_3, il_4, il_5, il_6, il_7, il_8, il_9, il_10, il_11, il_12, il_13, il_14, il_15, il_16, il_17, il_18, il_19, il_20, il_21, il_22, il_23, il_24, il_25, il_26, il_27, il_28, il_29, il_30, il_31, il_32, il_33, il_34, il_35, il_36, il_37, il_38, il_39, il_40, il_41, il_45, il_46, il_48, il_63, il_64, il_65, il_90, il_97, il_99, il_100, il_122, il_127, il_128, il_255, il_500, il_1000, il_1001, il_1002, il_1003, il_1004, il_2000, il_9999, nI_add, pk_mul, pk_sub, nI_leI, nI_ltI, nI_eq, hp_dI_n, hp_mI_n, hA0]
  rw [if_pos (by omega), if_neg hl]
  obtain ⟨g, f, e1, e2, e3, e4, e5⟩ := rm_keep_121 G o h (vs.length + 1) (by omega) x.2.2.2.2.length x5 hp_fu 0 (upd S.1 0 (nI (vs.length + 1)), lm_up (lm_up (lm_up (lm_up (lm_up S.2 1 (upd (S.2 1) (vs.length + 1) (S.1 10))) 2 (upd (S.2 2) (vs.length + 1) (S.1 11))) 3 (upd (S.2 3) (vs.length + 1) (S.1 12))) 4 (upd (S.2 4) (vs.length + 1) (S.1 13))) 6 (upd (S.2 6) (vs.length + 1) (S.1 16))) c5 (by decide) (by decide) (fun j hj => by omega)
  refine ⟨_, e1, ⟨?_, ?_, ?_⟩, ?_⟩
  · show nI (vs.length + 1) = nI (vs ++ [x]).length
    rw [List.length_append]; rfl
  · rw [List.length_append]; show vs.length + 1 ≤ 2000; omega
  · intro i y hy
    by_cases ei : i < vs.length
    · rw [List.getElem?_append_left ei] at hy
      obtain ⟨q1, q2⟩ := hA2 i y hy
      refine ⟨q1.after (w := vs.length + 1) (by omega) q2.2.2.2.2.1 ?_ ?_ ?_ ?_ ?_ ?_ ?_, q2⟩
      · simp (disch := omega) only [lm_ups, lm_upn, upd_n]
      · simp (disch := omega) only [lm_ups, lm_upn, upd_n]
      · simp (disch := omega) only [lm_ups, lm_upn, upd_n]
      · simp (disch := omega) only [lm_ups, lm_upn, upd_n]
      · simp (disch := omega) only [lm_ups, lm_upn, upd_n]
      · intro k hk
        simp (disch := omega) only [lm_ups, lm_upn]
        rw [e3 k hk]
        simp (disch := omega) only [lm_ups, lm_upn]
      · intro k hk
        simp (disch := omega) only [lm_ups, lm_upn]
        rw [e5 k hk]
        simp (disch := omega) only [lm_ups, lm_upn]
    · have hi : i = vs.length := by
        have := (List.getElem?_eq_some_iff.mp hy).1
        rw [List.length_append] at this
        simp at this
        omega
      subst hi
      rw [List.getElem?_append_right (Nat.le_refl _), Nat.sub_self] at hy
      cases hy
      refine ⟨⟨?_, ?_, ?_, ?_, ?_, ?_, ?_⟩, hx⟩
      · simp (disch := omega) only [lm_ups, lm_upn, upd_s, c1]
      · simp (disch := omega) only [lm_ups, lm_upn, upd_s, c2]
      · simp (disch := omega) only [lm_ups, lm_upn, upd_s, c3]
      · simp (disch := omega) only [lm_ups, lm_upn, upd_s, c4]
      · simp (disch := omega) only [lm_ups, lm_upn, upd_s, c5]
      · intro k hk
        simp (disch := omega) only [lm_ups, lm_upn]
        rw [e2 k hk]
        simp (disch := omega) only [lm_ups, lm_upn]
        exact c6 k hk
      · intro k hk
        simp (disch := omega) only [lm_ups, lm_upn]
        rw [e4 k hk]
        simp (disch := omega) only [lm_ups, lm_upn]
        exact c7 k hk (by omega)
  · simp (disch := omega) only [fS, lm_upn, upd_n, and_self]
theorem rm_keep_14 (G : Nat → Nat) (o : Nat) (h : hp_H) (S : lm_S) (vs : List vV) (x : vV) (hA : rm_A S vs) (hc : rm_C S x) (hx : vW x) : ∀ (n k : Nat), k ≤ vs.length → vs.length - k < n → (∀ j, j < k → vs[j]? ≠ some x) → ∃ S', m_M_keep_14 G n o (nI (k + 1)) (lm_w o h S) = some ((kp vs x).1, lm_w o h S') ∧ rm_A S' (kp vs x).2 ∧ fS S S'
  | 0, k, _, hn, _ => by omega
  | n + 1, k, hk, hn, hz => by
    obtain ⟨hA0, hA1, hA2⟩ := id hA
    have x5 := hx.2.2.2.2.1
    rw [m_M_keep_14]
    simp (disch := omega) only [lm_g0, lm_g1, lm_g2, lm_g3, lm_g4, lm_g5, lm_g6, lm_g7, lm_g8, lm_g9, lm_g10, lm_g11, lm_g12, lm_g13, lm_g14, lm_g15, lm_g16, lm_g17, lm_g18, lm_g19, lm_g20, lm_g21, lm_g22, lm_g23, lm_g24, lm_g25, lm_g26, lm_g27, lm_g28, lm_g29, lm_g30, lm_g31, lm_g32, lm_g33, lm_p0, lm_p9, lm_p10, lm_p11, lm_p12, lm_p13, lm_p16, lm_p22, lm_p26, lm_p27, lm_p28, lm_p29, lm_p31, lm_p32, lm_a1, lm_a2, lm_a3, lm_a4, lm_a5, lm_a6, lm_a7, lm_a8, lm_a9, lm_a10, lm_a11, lm_a12, lm_a13, lm_a14, lm_a15, lm_a16, lm_a17, lm_a18, lm_a19, lm_a20, lm_s1, lm_s2, lm_s3, lm_s4, lm_s5, lm_s6, lm_s7, lm_s8, lm_s9, lm_s10, lm_s11, lm_s12, lm_s13, lm_s14, lm_s15, lm_s16, lm_s17, lm_s18, lm_s19, lm_s20, lm_vck, lm_ups, lm_upn, upd_s, upd_n, Option.bind_some, hp_nm, hp_z1, hp_z0, bq, reduceIte, il_0, il_1, il_2, il_3, il_4, il_5, il_6, il_7, il_8, il_9, il_10, il_11, il_12, il_13, il_14, il_15, il_16, il_17, il_18, il_19, il_20, il_21, il_22, il_23, il_24, il_25, il_26, il_27, il_28, il_29, il_30, il_31, il_32, il_33, il_34, il_35, il_36, il_37, il_38, il_39, il_40, il_41, il_45, il_46, il_48, il_63, il_64, il_65, il_90, il_97, il_99, il_100, il_122, il_127, il_128, il_255, il_500, il_1000, il_1001, il_1002, il_1003, il_1004, il_2000, il_9999, nI_add, pk_mul, pk_sub, nI_leI, nI_ltI, nI_eq, hp_dI_n, hp_mI_n, hA0]
    by_cases e : k = vs.length
    · rw [if_pos (by omega)]
      have hm : x ∉ vs := fun q => by
        obtain ⟨j, hj, e2⟩ := List.getElem_of_mem q
        exact hz j (by omega) (by rw [List.getElem?_eq_getElem hj, e2])
      unfold kp
      rw [if_neg (by omega), if_neg hm]
      subst e
      by_cases e2 : vs.length = 2000
      · rw [if_pos e2]
        unfold m_M_keep_36
        simp (disch := omega) only [lm_g0, lm_g1, lm_g2, lm_g3, lm_g4, lm_g5, lm_g6, lm_g7, lm_g8, lm_g9, lm_g10, lm_g11, lm_g12, lm_g13, lm_g14, lm_g15, lm_g16, lm_g17, lm_g18, lm_g19, lm_g20, lm_g21, lm_g22, lm_g23, lm_g24, lm_g25, lm_g26, lm_g27, lm_g28, lm_g29, lm_g30, lm_g31, lm_g32, lm_g33, lm_p0, lm_p9, lm_p10, lm_p11, lm_p12, lm_p13, lm_p16, lm_p22, lm_p26, lm_p27, lm_p28, lm_p29, lm_p31, lm_p32, lm_a1, lm_a2, lm_a3, lm_a4, lm_a5, lm_a6, lm_a7, lm_a8, lm_a9, lm_a10, lm_a11, lm_a12, lm_a13, lm_a14, lm_a15, lm_a16, lm_a17, lm_a18, lm_a19, lm_a20, lm_s1, lm_s2, lm_s3, lm_s4, lm_s5, lm_s6, lm_s7, lm_s8, lm_s9, lm_s10, lm_s11, lm_s12, lm_s13, lm_s14, lm_s15, lm_s16, lm_s17, lm_s18, lm_s19, lm_s20, lm_vck, lm_ups, lm_upn, upd_s, upd_n, Option.bind_some, hp_nm, hp_z1, hp_z0, bq, reduceIte, il_0, il_1, il_2, il_3, il_4, il_5, il_6, il_7, il_8, il_9, il_10, il_11, il_12, il_13, il_14, il_15, il_16, il_17, il_18, il_19, il_20, il_21, il_22, il_23, il_24, il_25, il_26, il_27, il_28, il_29, il_30, il_31, il_32, il_33, il_34, il_35, il_36, il_37, il_38, il_39, il_40, il_41, il_45, il_46, il_48, il_63, il_64, il_65, il_90, il_97, il_99, il_100, il_122, il_127, il_128, il_255, il_500, il_1000, il_1001, il_1002, il_1003, il_1004, il_2000, il_9999, nI_add, pk_mul, pk_sub, nI_leI, nI_ltI, nI_eq, hp_dI_n, hp_mI_n, hA0]
        rw [if_pos (by omega), if_pos e2]
        exact ⟨S, rfl, hA, fS.rf⟩
      · rw [if_neg e2]
        exact rm_keep_new G o h S vs x hA hc hx e2
    · rw [if_neg (by omega)]
      obtain ⟨y, hy⟩ : ∃ y, vs[k]? = some y := ⟨_, List.getElem?_eq_getElem (by omega)⟩
      rw [rm_isIt G o h S (k + 1) y x (by omega) (hA2 k y hy).1 hc (hA2 k y hy).2 hx]
      simp (disch := omega) only [lm_g0, lm_g1, lm_g2, lm_g3, lm_g4, lm_g5, lm_g6, lm_g7, lm_g8, lm_g9, lm_g10, lm_g11, lm_g12, lm_g13, lm_g14, lm_g15, lm_g16, lm_g17, lm_g18, lm_g19, lm_g20, lm_g21, lm_g22, lm_g23, lm_g24, lm_g25, lm_g26, lm_g27, lm_g28, lm_g29, lm_g30, lm_g31, lm_g32, lm_g33, lm_p0, lm_p9, lm_p10, lm_p11, lm_p12, lm_p13, lm_p16, lm_p22, lm_p26, lm_p27, lm_p28, lm_p29, lm_p31, lm_p32, lm_a1, lm_a2, lm_a3, lm_a4, lm_a5, lm_a6, lm_a7, lm_a8, lm_a9, lm_a10, lm_a11, lm_a12, lm_a13, lm_a14, lm_a15, lm_a16, lm_a17, lm_a18, lm_a19, lm_a20, lm_s1, lm_s2, lm_s3, lm_s4, lm_s5, lm_s6, lm_s7, lm_s8, lm_s9, lm_s10, lm_s11, lm_s12, lm_s13, lm_s14, lm_s15, lm_s16, lm_s17, lm_s18, lm_s19, lm_s20, lm_vck, lm_ups, lm_upn, upd_s, upd_n, Option.bind_some, hp_nm, hp_z1, hp_z0, bq, reduceIte]
      by_cases e3 : y = x
      · subst e3
        rw [if_neg (by rw [if_pos rfl]; decide)]
        unfold m_M_keep_36 kp
        simp (disch := omega) only [lm_g0, lm_g1, lm_g2, lm_g3, lm_g4, lm_g5, lm_g6, lm_g7, lm_g8, lm_g9, lm_g10, lm_g11, lm_g12, lm_g13, lm_g14, lm_g15, lm_g16, lm_g17, lm_g18, lm_g19, lm_g20, lm_g21, lm_g22, lm_g23, lm_g24, lm_g25, lm_g26, lm_g27, lm_g28, lm_g29, lm_g30, lm_g31, lm_g32, lm_g33, lm_p0, lm_p9, lm_p10, lm_p11, lm_p12, lm_p13, lm_p16, lm_p22, lm_p26, lm_p27, lm_p28, lm_p29, lm_p31, lm_p32, lm_a1, lm_a2, lm_a3, lm_a4, lm_a5, lm_a6, lm_a7, lm_a8, lm_a9, lm_a10, lm_a11, lm_a12, lm_a13, lm_a14, lm_a15, lm_a16, lm_a17, lm_a18, lm_a19, lm_a20, lm_s1, lm_s2, lm_s3, lm_s4, lm_s5, lm_s6, lm_s7, lm_s8, lm_s9, lm_s10, lm_s11, lm_s12, lm_s13, lm_s14, lm_s15, lm_s16, lm_s17, lm_s18, lm_s19, lm_s20, lm_vck, lm_ups, lm_upn, upd_s, upd_n, Option.bind_some, hp_nm, hp_z1, hp_z0, bq, reduceIte, il_0, il_1, il_2, il_3, il_4, il_5, il_6, il_7, il_8, il_9, il_10, il_11, il_12, il_13, il_14, il_15, il_16, il_17, il_18, il_19, il_20, il_21, il_22, il_23, il_24, il_25, il_26, il_27, il_28, il_29, il_30, il_31, il_32, il_33, il_34, il_35, il_36, il_37, il_38, il_39, il_40, il_41, il_45, il_46, il_48, il_63, il_64, il_65, il_90, il_97, il_99, il_100, il_122, il_127, il_128, il_255, il_500, il_1000, il_1001, il_1002, il_1003, il_1004, il_2000, il_9999, nI_add, pk_mul, pk_sub, nI_leI, nI_ltI, nI_eq, hp_dI_n, hp_mI_n, hA0]
        rw [if_neg (by omega), if_neg (by omega), if_pos (List.mem_of_getElem? hy), idx_of hy hz]
        exact ⟨S, rfl, hA, fS.rf⟩
      · rw [if_pos (by rw [if_neg e3]; rfl)]
        exact rm_keep_14 G o h S vs x hA hc hx n (k + 1) (by omega) (by omega) (fun j hj => by
          by_cases ej : j = k
          · subst ej; rw [hy]; exact fun q => e3 (by injection q)
          · exact hz j (by omega))
theorem rm_keep (G : Nat → Nat) (o : Nat) (h : hp_H) (S : lm_S) (vs : List vV) (x : vV) (hA : rm_A S vs) (hc : rm_C S x) (hb : x.2.2.2.2.length < 2 ^ 31) (hx : x.2.2.2.2.length ≤ 64 → vW x) : ∃ S', m_M_keep G o (lm_w o h S) = some ((kp vs x).1, lm_w o h S') ∧ rm_A S' (kp vs x).2 ∧ fS S S' := by
  unfold m_M_keep
  have c5 := hc.2.2.2.2.1
  simp (disch := omega) only [lm_g0, lm_g1, lm_g2, lm_g3, lm_g4, lm_g5, lm_g6, lm_g7, lm_g8, lm_g9, lm_g10, lm_g11, lm_g12, lm_g13, lm_g14, lm_g15, lm_g16, lm_g17, lm_g18, lm_g19, lm_g20, lm_g21, lm_g22, lm_g23, lm_g24, lm_g25, lm_g26, lm_g27, lm_g28, lm_g29, lm_g30, lm_g31, lm_g32, lm_g33, lm_p0, lm_p9, lm_p10, lm_p11, lm_p12, lm_p13, lm_p16, lm_p22, lm_p26, lm_p27, lm_p28, lm_p29, lm_p31, lm_p32, lm_a1, lm_a2, lm_a3, lm_a4, lm_a5, lm_a6, lm_a7, lm_a8, lm_a9, lm_a10, lm_a11, lm_a12, lm_a13, lm_a14, lm_a15, lm_a16, lm_a17, lm_a18, lm_a19, lm_a20, lm_s1, lm_s2, lm_s3, lm_s4, lm_s5, lm_s6, lm_s7, lm_s8, lm_s9, lm_s10, lm_s11, lm_s12, lm_s13, lm_s14, lm_s15, lm_s16, lm_s17, lm_s18, lm_s19, lm_s20, lm_vck, lm_ups, lm_upn, upd_s, upd_n, Option.bind_some, hp_nm, hp_z1, hp_z0, bq, reduceIte, il_0, il_1, il_2, il_3, il_4, il_5, il_6, il_7, il_8, il_9, il_10, il_11, il_12, il_13, il_14, il_15, il_16, il_17, il_18, il_19, il_20, il_21, il_22, il_23, il_24, il_25, il_26, il_27, il_28, il_29, il_30, il_31, il_32, il_33, il_34, il_35, il_36, il_37, il_38, il_39, il_40, il_41, il_45, il_46, il_48, il_63, il_64, il_65, il_90, il_97, il_99, il_100, il_122, il_127, il_128, il_255, il_500, il_1000, il_1001, il_1002, il_1003, il_1004, il_2000, il_9999, nI_add, pk_mul, pk_sub, nI_leI, nI_ltI, nI_eq, hp_dI_n, hp_mI_n, c5]
  by_cases e : x.2.2.2.2.length ≤ 64
  · rw [if_pos e]
    exact rm_keep_14 G o h S vs x hA hc (hx e) hp_fu 0 (by omega) (by have := hA.2.1; unfold hp_fu; omega) (fun j hj => by omega)
  · rw [if_neg e]
    unfold kp
    rw [if_pos (by omega)]
    exact ⟨S, rfl, hA, fS.rf⟩
