/-! THE CLASS: values -/
theorem VP.c {c : Nat} {K : List Nat} {h h' : hp_H} {p : Nat} {x : vV} (v : VP c h p x) (q : chg c K h h') (hK : ∀ k ∈ K, k < 44 ∧ k ≠ 4) : VP c h' p x := by
  obtain ⟨v0, b, nx, v1, v2, v3⟩ := v
  have hK' : ∀ k ∈ K, k < 44 := fun k hk => (hK k hk).1
  refine ⟨v0, b, nx, ?_, v2.c q hK' v3, v3⟩
  rw [q.2 p (fun k hk => by have := hK k hk; omega)]; exact v1
section
variable (G : Nat → Nat) {c : Nat} {h : hp_H} {p p2 : Nat} {x y : vV}
theorem VP.k {β : Type} (v : VP c h p x) (X : Option β) : hp_vck h p 3 X = X := by
  obtain ⟨-, b, nx, v1, -⟩ := v
  exact vck_e v1 X
theorem VP.g0 (v : VP c h p x) : hp_gI h p 3 0 = some (nI x.1) := by
  obtain ⟨-, b, nx, v1, -⟩ := v
  exact gI_e v1 rfl
theorem VP.g1 (v : VP c h p x) : hp_gI h p 3 1 = some (nI x.2.1) := by
  obtain ⟨-, b, nx, v1, -⟩ := v
  exact gI_e v1 rfl
theorem VP.g2 (v : VP c h p x) : hp_gL h p 3 2 = some (jL x.2.2.1) := by
  obtain ⟨-, b, nx, v1, -⟩ := v
  exact gL_e v1 rfl
theorem VP.g3 (v : VP c h p x) : hp_gI h p 3 3 = some (nI x.2.2.2.1) := by
  obtain ⟨-, b, nx, v1, -⟩ := v
  exact gI_e v1 rfl
theorem VP.g4 (v : VP c h p x) : ∃ b, hp_gR h p 3 4 = some b ∧ BA h b x.2.2.2.2 ∧ off c b := by
  obtain ⟨-, b, nx, v1, v2, v3⟩ := v
  exact ⟨b, gR_e v1 rfl, v2, v3⟩
theorem BA.l {b : Nat} {L : List Nat} (q : BA h b L) : hp_len h b = some (nI L.length) := by
  obtain ⟨w, f, e1, -⟩ := q
  exact len_e e1
theorem BA.a {b : Nat} {L : List Nat} (q : BA h b L) {i : Nat} (hi : i < L.length) (hl : L.length ≤ 64) : hp_aI h .byte b (nI i) = some (nI (L.getD i 0)) := by
  obtain ⟨w, f, e1, e2⟩ := q
  rw [aI_e e1 hi (by omega), e2 i hi]
theorem cl_isNumber (v : VP c h p x) (hx : x.1 ≤ 8) : m_V_isNumber G p h = some (bI (nbV x), h) := by
  unfold m_V_isNumber m_V_isNumber_16 m_V_isNumber_21 nbV
  rw [v.g0, bs, bs]
  simp only [ie_3 (show x.1 < 2 ^ 31 by omega), ie_4 (show x.1 < 2 ^ 31 by omega)]
  by_cases c3 : x.1 = 3
  · rw [if_pos c3, c3]; rfl
  · rw [if_neg c3, beq_false_of_ne c3, Bool.false_or]
    by_cases c4 : x.1 = 4
    · rw [if_pos c4, c4]; rfl
    · rw [if_neg c4, beq_false_of_ne c4]; rfl
theorem cl_isPlain (v : VP c h p x) (hx : x.1 ≤ 8) : m_V_isPlainOrTagged G p h = some (bI (plV x), h) := by
  unfold m_V_isPlainOrTagged m_V_isPlainOrTagged_17 m_V_isPlainOrTagged_22 plV
  rw [v.g0, bs, bs]
  simp only [ie_5 (show x.1 < 2 ^ 31 by omega), ie_6 (show x.1 < 2 ^ 31 by omega)]
  by_cases c3 : x.1 = 5
  · rw [if_pos c3, c3]; rfl
  · rw [if_neg c3, beq_false_of_ne c3, Bool.false_or]
    by_cases c4 : x.1 = 6
    · rw [if_pos c4, c4]; rfl
    · rw [if_neg c4, beq_false_of_ne c4]; rfl
theorem cl_truthOf (v : VP c h p x) (hx : vW x) (h8 : x.1 = 8 → x.2.1 ≤ 1) : m_V_truthOf G p h = some (tI (truV x), h) := by
  have w1 := hx.1
  have w3 := hx.2.2.1
  have l64 := hx.2.2.2.2.1
  obtain ⟨b, v4, vb, -⟩ := v.g4
  have c3 : lg_cmp (jL x.2.2.1) 0 = 0 ↔ x.2.2.1 = 0 := by
    rw [lgc_eq, ← jL_0, jL_eq (by unfold iL; omega) iL_0]
  clear w3
  unfold m_V_truthOf m_V_truthOf_35 m_V_truthOf_57 truV
  rw [v.g0, bs]
  simp only [ie_8 (show x.1 < 2 ^ 31 by omega)]
  by_cases k8 : x.1 = 8
  · rw [if_pos k8, if_pos k8, v.g1, bs]
    have := h8 k8
    rcases (show x.2.1 = 0 ∨ x.2.1 = 1 by omega) with e | e <;> rw [e] <;> rfl
  · rw [if_neg k8, if_neg k8, v.k, cl_isNumber G v w1, bs]
    cases hn : nbV x with
    | true =>
      rw [if_neg (show ¬ bI true = 0 by decide), if_pos (show true = true from rfl), v.g2, bs]
      by_cases z : x.2.2.1 = 0
      · rw [if_pos (c3.mpr z), decide_eq_true z]; rfl
      · rw [if_neg (fun q => z (c3.mp q)), decide_eq_false z]; rfl
    | false =>
      rw [if_pos (show bI false = 0 from rfl), if_neg (show ¬ false = true by decide), v.g0, bs]
      simp only [ie_5 (show x.1 < 2 ^ 31 by omega)]
      by_cases k5 : x.1 = 5
      · rw [if_pos k5, if_pos k5, v4, bs, vb.l, bs]
        by_cases z : x.2.2.2.2.length = 0
        · rw [if_pos (by rw [z]; decide), decide_eq_true z]; rfl
        · rw [if_neg (nI_nle (by omega) (by omega)), decide_eq_false z]; rfl
      · rw [if_neg k5, if_neg k5]; rfl
theorem iM_w (hx : vW x) : iM x.2.2.1 := by have := hx.2.2.1; unfold iM; omega
theorem cl_byAmount (hs : SC G c h) (v : VP c h p x) (w : VP c h p2 y) (hx : vW x) (hy : vW y) : m_V_comparedByAmount G p p2 h = some (sgI (am9 x - am9 y), h) := by
  have x4 := hx.2.2.2.1
  have y4 := hy.2.2.2.1
  obtain ⟨ex, ex0, ex1⟩ := am9_hl x x4
  obtain ⟨ey, ey0, ey1⟩ := am9_hl y y4
  have ix := (td_b (iM_w hx) (iP_k (k := x.2.2.2.1) (by omega))).2.2.1
  have iy := (td_b (iM_w hy) (iP_k (k := y.2.2.2.1) (by omega))).2.2.1
  unfold m_V_comparedByAmount m_V_comparedByAmount_65
  rw [v.g2, bs, v.g3, bs, cl_power G h hs (by omega), bs, cl_floorDiv G h (iM_w hx) (iP_k (by omega)), bs, w.g2, bs, w.g3, bs, cl_power G h hs (by omega), bs, cl_floorDiv G h (iM_w hy) (iP_k (by omega)), bs, cl_compareL G h ix.L iy.L, bs, hp_nmE]
  rw [v.g2, bs, v.g3, bs, cl_billionths G h hs (iM_w hx) x4, bs, w.g2, bs, w.g3, bs, cl_billionths G h hs (iM_w hy) y4, bs]
  rw [ex, ey]
  generalize x.2.2.1 % ((10 ^ x.2.2.2.1 : Nat) : Int) * ((10 ^ (9 - x.2.2.2.1) : Nat) : Int) = lx at *
  generalize y.2.2.1 % ((10 ^ y.2.2.2.1 : Nat) : Int) * ((10 ^ (9 - y.2.2.2.1) : Nat) : Int) = ly at *
  generalize x.2.2.1 / ((10 ^ x.2.2.2.1 : Nat) : Int) = hx at *
  generalize y.2.2.1 / ((10 ^ y.2.2.2.1 : Nat) : Int) = hy at *
  rw [cl_compareL G h (by unfold iL; omega) (by unfold iL; omega), bs]
  by_cases e : hx = hy
  · rw [if_pos ((sgI_0 _).mpr (by omega))]
    exact congrArg (fun z => some (sgI z, h)) (by omega)
  · rw [if_neg (fun q => e (by have := (sgI_0 _).mp q; omega))]
    exact congrArg (fun z => some (z, h)) (sgI_cg (by omega) (by omega))
theorem cmB_end {X Y : List Nat} {k : Nat} (hX : k ≤ X.length) (hY : k ≤ Y.length) (he : k = X.length ∨ k = Y.length) : cmB (X.drop k) (Y.drop k) = cmN X.length Y.length := by
  by_cases a : k = X.length
  · rw [List.drop_eq_nil_of_le (show X.length ≤ k by omega)]
    by_cases b : k = Y.length
    · rw [List.drop_eq_nil_of_le (show Y.length ≤ k by omega), cmB, cmN, if_neg (by omega), if_pos (by omega)]
    · rw [take_s (show k < Y.length by omega), cmB, cmN, if_pos (by omega)]
  · have b : k = Y.length := by omega
    rw [List.drop_eq_nil_of_le (show Y.length ≤ k by omega), take_s (show k < X.length by omega), cmB, cmN, if_neg (by omega), if_neg (by omega)]
theorem cl_byBytes_2 (v : VP c h p x) (w : VP c h p2 y) (hx : vW x) (hy : vW y) : ∀ (n k : Nat), x.2.2.2.2.length - k < n → k ≤ x.2.2.2.2.length → k ≤ y.2.2.2.2.length → m_V_comparedByBytes_2 G n p p2 (nI k) h = some (cmB (x.2.2.2.2.drop k) (y.2.2.2.2.drop k), h)
  | 0, k, hn, _, _ => by omega
  | n + 1, k, hn, k1, k2 => by
    have lx := hx.2.2.2.2.1
    have ly := hy.2.2.2.2.1
    obtain ⟨b, v4, vb, -⟩ := v.g4
    obtain ⟨b2, w4, wb, -⟩ := w.g4
    have fin : (k = x.2.2.2.2.length ∨ k = y.2.2.2.2.length) → m_V_comparedByBytes_57 G p p2 h = some (cmB (x.2.2.2.2.drop k) (y.2.2.2.2.drop k), h) := fun he => by
      unfold m_V_comparedByBytes_57
      rw [v4, bs, vb.l, bs, w4, bs, wb.l, bs, cl_compareI G h (by omega) (by omega), bs, cmB_end k1 k2 he]
    rw [m_V_comparedByBytes_2, v4, bs, vb.l, bs]
    simp only [nI_leI (show x.2.2.2.2.length < 2 ^ 31 by omega) (show k < 2 ^ 31 by omega)]
    by_cases e1 : x.2.2.2.2.length ≤ k
    · rw [if_pos e1]; exact fin (Or.inl (by omega))
    · rw [if_neg e1, w4, bs, wb.l, bs]
      simp only [nI_leI (show y.2.2.2.2.length < 2 ^ 31 by omega) (show k < 2 ^ 31 by omega)]
      by_cases e2 : y.2.2.2.2.length ≤ k
      · rw [if_pos e2]; exact fin (Or.inr (by omega))
      · have bx : x.2.2.2.2.getD k 0 < 128 := hx.2.2.2.2.2 _ (by rw [List.getD_eq_getElem?_getD, List.getElem?_eq_getElem (by omega)]; exact List.getElem_mem _)
        have by_ : y.2.2.2.2.getD k 0 < 128 := hy.2.2.2.2.2 _ (by rw [List.getD_eq_getElem?_getD, List.getElem?_eq_getElem (by omega)]; exact List.getElem_mem _)
        rw [if_neg e2, bs, vb.a (show k < _ by omega) lx, bs, bs, wb.a (show k < _ by omega) ly, bs, take_s (show k < x.2.2.2.2.length by omega), take_s (show k < y.2.2.2.2.length by omega), cmB]
        simp only [nI_eq (show x.2.2.2.2.getD k 0 < 2 ^ 31 by omega) (show y.2.2.2.2.getD k 0 < 2 ^ 31 by omega)]
        by_cases d : x.2.2.2.2.getD k 0 = y.2.2.2.2.getD k 0
        · rw [if_pos d, if_pos d, hp_nmE, nI_1]
          exact cl_byBytes_2 v w hx hy n (k + 1) (by omega) (by omega) (by omega)
        · rw [if_neg d, if_neg d, bs, vb.a (show k < _ by omega) lx, bs, bs, wb.a (show k < _ by omega) ly, bs, cl_compareI G h (by omega) (by omega), bs, cmN, if_neg d]
theorem cl_byBytes (v : VP c h p x) (w : VP c h p2 y) (hx : vW x) (hy : vW y) : m_V_comparedByBytes G p p2 h = some (cmB x.2.2.2.2 y.2.2.2.2, h) := by
  have lx := hx.2.2.2.2.1
  unfold m_V_comparedByBytes
  rw [hp_nmE]
  have := cl_byBytes_2 G v w hx hy hp_fu 0 (by unfold hp_fu; omega) (by omega) (by omega)
  rw [List.drop_zero, List.drop_zero] at this
  exact this
theorem cl_comparedTo (hs : SC G c h) (v : VP c h p x) (w : VP c h p2 y) (ox : vO x) (oy : vO y) (lx : x.2.2.2.2.length ≤ 64) (ly : y.2.2.2.2.length ≤ 64) : m_V_comparedTo G p p2 h = some (ordV x y, h) := by
  have hx := ox.W lx
  have hy := oy.W ly
  have x1 := hx.1
  have y1 := hy.1
  have x2 := hx.2.1
  have y2 := hy.2.1
  have rest : (nbV x && nbV y) = false → m_V_comparedTo_40 G p p2 h = some (ordV x y, h) := fun nn => by
    have nn' : ¬ ((x.1 = 3 ∨ x.1 = 4) ∧ (y.1 = 3 ∨ y.1 = 4)) := fun q => by
      have e1 : nbV x = true := by unfold nbV; rcases q.1 with z | z <;> rw [z] <;> rfl
      have e2 : nbV y = true := by unfold nbV; rcases q.2 with z | z <;> rw [z] <;> rfl
      rw [e1, e2] at nn; cases nn
    unfold m_V_comparedTo_40 m_V_comparedTo_88
    rw [v.g0, bs, w.g0, bs]
    simp only [nI_eq (show x.1 < 2 ^ 31 by omega) (show y.1 < 2 ^ 31 by omega)]
    unfold ordV rkN byV
    by_cases e : x.1 = y.1
    · have n3 : nbV x = false := by unfold nbV; rw [beq_false_of_ne (by omega), beq_false_of_ne (by omega)]; rfl
      rw [if_pos e, v.k, cl_byBytes G v w hx hy, bs, hp_nmE, if_pos (show (if x.1 = 4 then 3 else x.1) = if y.1 = 4 then 3 else y.1 by rw [e]), n3, if_neg (show ¬ false = true by decide)]
      by_cases z : cmB x.2.2.2.2 y.2.2.2.2 = 0
      · rw [if_pos z, if_pos z, if_pos e, v.g1, bs, w.g1, bs, cl_compareI G h (by omega) (by omega), bs]
      · rw [if_neg z, if_neg z]
    · rw [if_neg e, bs, bs, cl_compareI G h (by omega) (by omega), bs]
      have ne : ¬ (if x.1 = 4 then 3 else x.1) = if y.1 = 4 then 3 else y.1 := by
        split <;> split <;> omega
      rw [if_neg ne]
      refine congrArg (fun z => some (z, h)) ?_
      unfold cmN
      have a1 : (if x.1 = 4 then 3 else x.1) < (if y.1 = 4 then 3 else y.1) ↔ x.1 < y.1 := by split <;> split <;> omega
      rw [if_neg e, if_neg ne]
      by_cases q : x.1 < y.1
      · rw [if_pos q, if_pos (a1.mpr q)]
      · rw [if_neg q, if_neg (fun z => q (a1.mp z))]
  unfold m_V_comparedTo m_V_comparedTo_39
  rw [v.k, cl_isNumber G v x1, bs]
  cases hn : nbV x with
  | false => rw [if_pos (show bI false = 0 from rfl)]; exact rest (by rw [hn]; rfl)
  | true =>
    rw [if_neg (show ¬ bI true = 0 by decide), w.k, cl_isNumber G w y1, bs]
    cases hm : nbV y with
    | false => rw [if_pos (show bI false = 0 from rfl)]; exact rest (by rw [hn, hm]; rfl)
    | true =>
      rw [if_neg (show ¬ bI true = 0 by decide), v.k, cl_byAmount G hs v w hx hy, bs, hp_nmE]
      have kx : x.1 = 3 ∨ x.1 = 4 := by unfold nbV at hn; simpa using hn
      have ky : y.1 = 3 ∨ y.1 = 4 := by unfold nbV at hm; simpa using hm
      unfold ordV rkN byV
      rw [hn, if_pos (show (if x.1 = 4 then 3 else x.1) = if y.1 = 4 then 3 else y.1 by rcases kx with q | q <;> rcases ky with z | z <;> rw [q, z] <;> rfl), if_pos (show true = true from rfl)]
      by_cases z : sgI (am9 x - am9 y) = 0
      · rw [if_pos z, if_pos z, v.g0, bs, w.g0, bs, cl_compareI G h (by omega) (by omega), bs]
        by_cases e : x.1 = y.1
        · rw [if_pos e, (ox.2.2.2.1 kx).1, (oy.2.2.2.1 ky).1, e]
          refine congrArg (fun z => some (z, h)) ?_
          unfold cmN
          rw [if_neg (by omega), if_pos rfl]; rfl
        · rw [if_neg e]
      · rw [if_neg z, if_neg z]
end
