/-! done, run, test -/
theorem rI_ne (vs : List vV) (r : Option (Option vV)) (h : ∀ x, r = some (some x) → vs.idxOf x < 100000) : rI vs r ≠ -2 ∧ (rI vs r = -3 ↔ r = none) ∧ rI vs r ≠ -1 := by
  rcases r with _ | _ | x
  · exact ⟨by show (-3 : Int32) ≠ -2; decide, ⟨fun _ => rfl, fun _ => rfl⟩, by show (-3 : Int32) ≠ -1; decide⟩
  · exact ⟨by show (-4 : Int32) ≠ -2; decide, ⟨fun q => absurd q (by show (-4 : Int32) ≠ -3; decide), fun q => by cases q⟩, by show (-4 : Int32) ≠ -1; decide⟩
  · have hx := h x rfl
    have e := nI_toInt (n := vs.idxOf x + 1) (by omega)
    have z2 : (-2 : Int32).toInt = -2 := rfl
    have z3 : (-3 : Int32).toInt = -3 := rfl
    have z1 : (-1 : Int32).toInt = -1 := rfl
    refine ⟨fun q => ?_, ⟨fun q => ?_, fun q => by cases q⟩, fun q => ?_⟩
    · have := congrArg Int32.toInt (show nI (vs.idxOf x + 1) = -2 from q); omega
    · have := congrArg Int32.toInt (show nI (vs.idxOf x + 1) = -3 from q); omega
    · have := congrArg Int32.toInt (show nI (vs.idxOf x + 1) = -1 from q); omega
theorem idx_le (vs : List vV) (x : vV) (h : vs.length ≤ 2000) : vs.idxOf x < 100000 := by
  have := List.idxOf_le_length (l := vs) (a := x)
  omega
theorem done_own (G : Nat → Nat) (o : Nat) (h : hp_H) (S : lm_S) (k at_ : Int32) (r : Option (Option vV)) (vs' : List vV) (hR : RW o h S (m_M_ofItsOwn G o k at_ (lm_w o h S)) r vs') : RW o h S (m_M_done G o k at_ (lm_w o h S)) r vs' := by
  obtain ⟨S', e1, e2, e3⟩ := hR
  refine ⟨S', ?_, e2, e3⟩
  unfold m_M_done
  rw [lm_vck, e1, bs, hp_nmE, if_neg (rI_ne vs' r (fun x _ => idx_le vs' x e2.2.1)).1]
theorem al_get : ∀ {xs : List (Option vV)} {ys : List vV}, alV xs = some ys → xs = ys.map some
  | [], ys, h => by rw [alV] at h; injection h with h; rw [← h]; rfl
  | none :: r, ys, h => by rw [alV] at h; cases h
  | some x :: r, ys, h => by
    rw [alV] at h
    cases hr : alV r with
    | none => rw [hr] at h; cases h
    | some zs =>
      rw [hr] at h
      injection h with h
      rw [← h, List.map_cons, ← al_get hr]
theorem neI4 {j : Nat} (hj : j < 2000) : ¬ nI (j + 1) = -4 := fun q => by
  have := congrArg Int32.toInt q
  rw [nI_toInt (by omega)] at this
  have z : (-4 : Int32).toInt = -4 := rfl
  omega
theorem rm_done_25 (G : Nat → Nat) (o : Nat) (h : hp_H) (hG : SM G o h) (S : lm_S) (vs : List vV) (ws : List (Nat × Int32)) (k : Nat) (w : Nat × Int32) (hA : rm_A S vs) (hO : vsO vs) (hW : rm_W S ws) (hk : ws[k]? = some w) (at_ : Nat) (xs : List (Option vV)) (hl : xs.length = tk w) (hat : at_ + tk w ≤ 101) (hs : sA S vs at_ xs) (hn : ¬ (w.1 = 0 ∨ w.1 = 1 ∨ w.1 = 2 ∨ w.1 = 4 ∨ w.1 = 5 ∨ w.1 = 22 ∨ w.1 = 23 ∨ w.1 = 24)) : ∀ (n j : Nat), j ≤ tk w → tk w - j < n → (alV xs = none ↔ alV (xs.drop j) = none) → RK o h S vs (m_M_done_25 G n o (nI k) (nI at_) (nI (tk w)) (nI j) (lm_w o h S)) ((alV xs).bind (valL w.1))
  | 0, j, _, hn2, _ => by omega
  | n + 1, j, hj, hn2, hal => by
    obtain ⟨-, hwl, hw⟩ := id hW
    obtain ⟨r1, r2, h1, h2⟩ := hw k w hk
    have kl := (List.getElem?_eq_some_iff.mp hk).1
    have l14 := lm_a14 o h S k (by omega)
    rw [r1] at l14
    have w31 : w.1 < 2 ^ 31 := by omega
    have htk := tk_le ⟨h1, h2⟩
    rw [m_M_done_25]
    unfold m_M_done_153
    simp only [nI_leI (show tk w < 2 ^ 31 by omega) (show j < 2 ^ 31 by omega), lm_g20, l14, bs, hp_nmE, ie_29 w31, ie_26 w31, ie_2 (show tk w < 2 ^ 31 by omega), lm_vck, bq, nI_1, nI_add]
    by_cases c : tk w ≤ j
    · rw [if_pos c]
      rw [List.drop_eq_nil_of_le (by omega)] at hal
      cases hys : alV xs with
      | none => exact absurd (hal.mp hys) (by simp [alV])
      | some ys =>
        have hxs := al_get hys
        have hly : ys.length = tk w := by rw [← hl, hxs, List.length_map]
        rw [hxs] at hs
        rw [show (some ys).bind (valL w.1) = valL w.1 ys from rfl]
        have arg : ∀ t, t < tk w → ∃ i, S.2 17 (at_ + t) = nI (i + 1) ∧ vs[i]? = some (ys.getD t vD) := fun t ht => by
          refine AR_s (hs t (some (ys.getD t vD)) ?_)
          rw [List.getElem?_map, List.getD_eq_getElem?_getD, List.getElem?_eq_getElem (by omega)]; rfl
        unfold valL
        by_cases c29 : w.1 = 29
        · rw [if_pos c29, if_pos c29]
          exact rm_rowOf G o h S vs at_ (tk w) ys hly (by omega) (by omega) hA hs
        · rw [if_neg c29, if_neg c29]
          by_cases c26 : w.1 = 26
          · have t3 : tk w = 3 := by unfold tk; rw [if_neg (by omega), if_neg (by omega), if_neg (by omega), if_pos (by omega)]
            rw [if_pos c26, if_pos c26]
            obtain ⟨i0, a0, b0⟩ := arg 0 (by omega)
            obtain ⟨i1, a1, b1⟩ := arg 1 (by omega)
            obtain ⟨i2, a2, b2⟩ := arg 2 (by omega)
            have m0 := lm_a17 o h S at_ (by omega)
            have m1 := lm_a17 o h S (at_ + 1) (by omega)
            have m2 := lm_a17 o h S (at_ + 2) (by omega)
            rw [Nat.add_zero] at a0
            rw [a0] at m0
            rw [a1] at m1
            rw [a2] at m2
            simp only [lm_g24, m0, bs, show (1 : Int32) = nI 1 from rfl, show (2 : Int32) = nI 2 from rfl, nI_add, m1, m2]
            exact rm_some G o h S vs i0 i1 i2 _ _ _ hA b0 b1 b2
          · rw [if_neg c26, if_neg c26]
            by_cases c2 : 6 ≤ w.1 ∧ w.1 ≤ 16 ∨ 30 ≤ w.1 ∧ w.1 ≤ 34
            · have t2 : tk w = 2 := by unfold tk; rw [if_neg (by omega), if_neg (by omega), if_neg (by omega), if_neg (by omega), if_neg (by omega)]
              rw [if_pos t2, if_pos c2]
              obtain ⟨i0, a0, b0⟩ := arg 0 (by omega)
              obtain ⟨i1, a1, b1⟩ := arg 1 (by omega)
              have m0 := lm_a17 o h S at_ (by omega)
              have m1 := lm_a17 o h S (at_ + 1) (by omega)
              rw [Nat.add_zero] at a0
              rw [a0] at m0
              rw [a1] at m1
              simp only [lm_g24, m0, bs, show (1 : Int32) = nI 1 from rfl, nI_add, m1]
              exact rm_two G o h S vs w.1 i0 i1 _ _ c2 hA hO b0 b1
            · have t1 : tk w = 1 := by clear h2; unfold tk; rw [if_neg (by omega), if_neg (by omega), if_neg (by omega), if_neg (by omega), if_pos (by omega)]
              rw [if_neg (show ¬ tk w = 2 by omega), if_neg c2]
              obtain ⟨i0, a0, b0⟩ := arg 0 (by omega)
              have m0 := lm_a17 o h S at_ (by omega)
              rw [Nat.add_zero] at a0
              rw [a0] at m0
              simp only [lm_g24, m0, bs]
              exact rm_one G o h hG S vs w.1 i0 _ (by clear h2; unfold O1; omega) hA hO b0
    · rw [if_neg c]
      obtain ⟨ox, hx⟩ : ∃ ox, xs[j]? = some ox := ⟨_, List.getElem?_eq_getElem (by omega)⟩
      have hd : xs.drop j = ox :: xs.drop (j + 1) := by
        obtain ⟨hk2, e⟩ := List.getElem?_eq_some_iff.mp hx
        rw [List.drop_eq_getElem_cons hk2, e]
      have m0 := lm_a17 o h S (at_ + j) (by omega)
      simp only [lm_g24, bs, m0]
      have ha := hs j ox hx
      rw [hd] at hal
      cases ox with
      | none =>
        rw [AR_n ha, if_pos (show (-4 : Int32) = -4 from rfl), hal.mpr (by rw [alV])]
        exact ⟨S, rfl, hA, fS.rf⟩
      | some x =>
        obtain ⟨i, e, hi⟩ := AR_s ha
        obtain ⟨-, -, li, -⟩ := rm_at hA hi
        rw [e, if_neg (neI4 li)]
        refine rm_done_25 G o h hG S vs ws k w hA hO hW hk at_ xs hl hat hs hn n (j + 1) (by omega) (by omega) (hal.trans ?_)
        rw [alV]
        cases alV (xs.drop (j + 1)) <;> simp
theorem fs_AR {vs : List vV} (hN : vs.Nodup) : ∀ (xs : List (Option vV)) (x : vV), fsV xs = some x → some x ∈ xs
  | [], x, h => by cases h
  | some y :: r, x, h => by rw [fsV] at h; rw [h]; exact List.mem_cons_self ..
  | none :: r, x, h => by rw [fsV] at h; exact List.mem_cons_of_mem _ (fs_AR hN r x h)
theorem rm_own_257 (G : Nat → Nat) (o : Nat) (h : hp_H) (S : lm_S) (vs : List vV) (hA : rm_A S vs) (hO : vsO vs) (at_ m : Nat) (xs : List (Option vV)) (hl : xs.length = m) (hat : at_ + m ≤ 101) (hs : sA S vs at_ xs) : ∀ (n j : Nat), j ≤ m → m - j < n → fsV xs = fsV (xs.drop j) → m_M_ofItsOwn_257 G n o (nI at_) (nI m) (nI j) (lm_w o h S) = some (rI vs (some (fsV xs)), lm_w o h S)
  | 0, j, _, hn, _ => by omega
  | n + 1, j, hj, hn, hf => by
    rw [m_M_ofItsOwn_257]
    unfold m_M_ofItsOwn_283 m_M_ofItsOwn_303
    simp only [nI_leI (show m < 2 ^ 31 by omega) (show j < 2 ^ 31 by omega), hp_nmE, nI_1, nI_add]
    by_cases c : m ≤ j
    · rw [if_pos c, if_pos c, hf, List.drop_eq_nil_of_le (by omega)]; rfl
    · rw [if_neg c, if_neg c]
      obtain ⟨ox, hx⟩ : ∃ ox, xs[j]? = some ox := ⟨_, List.getElem?_eq_getElem (by omega)⟩
      have hd : xs.drop j = ox :: xs.drop (j + 1) := by
        obtain ⟨hk2, e⟩ := List.getElem?_eq_some_iff.mp hx
        rw [List.drop_eq_getElem_cons hk2, e]
      have m0 := lm_a17 o h S (at_ + j) (by omega)
      simp only [lm_g24, bs, m0]
      have ha := hs j ox hx
      rw [hd] at hf
      cases ox with
      | none =>
        rw [AR_n ha, if_pos (show (-4 : Int32) = -4 from rfl)]
        exact rm_own_257 G o h S vs hA hO at_ m xs hl hat hs n (j + 1) (by omega) (by omega) hf
      | some x =>
        obtain ⟨i, e, hi⟩ := AR_s ha
        obtain ⟨-, -, li, -⟩ := rm_at hA hi
        rw [e, if_neg (neI4 li), hf, fsV, rI, idx_nd hO.1 hi]
theorem rm_done (G : Nat → Nat) (o : Nat) (h : hp_H) (hG : SM G o h) (S : lm_S) (vs : List vV) (ws : List (Nat × Int32)) (bd : Nat → Nat) (k : Nat) (w : Nat × Int32) (hA : rm_A S vs) (hO : vsO vs) (hW : rm_W S ws) (hB : ∀ k, k < 10 → S.2 16 k = nI (bd k) ∧ bd k ≤ vs.length) (hk : ws[k]? = some w) (at_ : Nat) (xs : List (Option vV)) (hl : xs.length = tk w) (hat : at_ + tk w ≤ 101) (hs : sA S vs at_ xs) : RW o h S (m_M_done G o (nI k) (nI at_) (lm_w o h S)) (dnV vs bd w xs).1 (dnV vs bd w xs).2 := by
  obtain ⟨-, hwl, hw⟩ := id hW
  obtain ⟨r1, r2, h1, h2⟩ := hw k w hk
  have kl := (List.getElem?_eq_some_iff.mp hk).1
  have l14 := lm_a14 o h S k (by omega)
  have l15 := lm_a15 o h S k (by omega)
  rw [r1] at l14
  rw [r2] at l15
  have m0 := lm_a17 o h S at_ (by omega)
  have bn := fun a => rm_bindingOf G o h S bd (fun k hk => (hB k hk).1) a
  have same : ∀ a r, a = rI vs r → RW o h S (some (a, lm_w o h S)) r vs := fun a r e => ⟨S, by rw [e], hA, fS.rf⟩
  have bnv : ¬ bnV bd w.2 ≤ 0 → ∃ x, vAt vs (bnV bd w.2) = some x := fun c => by
    unfold bnV at c ⊢
    by_cases c1 : w.2 < 0
    · rw [if_pos c1] at c; exact absurd (show (0 : Int32) ≤ 0 by decide) c
    · rw [if_neg c1] at c ⊢
      by_cases c2 : 10 ≤ w.2
      · rw [if_pos c2] at c; exact absurd (show (0 : Int32) ≤ 0 by decide) c
      · rw [if_neg c2] at c ⊢
        obtain ⟨j, hj, e⟩ := nI_of c1
        have hj2 : j < 10 := Nat.lt_of_not_le fun q => c2 (by rw [e]; exact nI_le (a := 10) q hj)
        rw [e, nI_clamp hj] at c ⊢
        have hb := (hB j hj2).2
        have hl2 := hO.2.1
        cases hbj : bd j with
        | zero => rw [hbj] at c; exact absurd (show nI 0 ≤ 0 by decide) c
        | succ q =>
          rw [vAt_n _ _ (by omega)]
          exact ⟨_, List.getElem?_eq_getElem (by omega)⟩
  have bn0 : bnV bd w.2 ≤ 0 → vAt vs (bnV bd w.2) = none := fun c => by
    unfold vAt
    rw [if_neg (fun q => by rw [Int32.lt_iff_toInt_lt] at q; rw [Int32.le_iff_toInt_le] at c; omega)]
  by_cases c0 : w.1 = 0
  · refine done_own G o h S _ _ _ _ ?_
    rw [c0] at l14
    rw [own_0 G o h S k w.2 _ l14 l15, lm_vck, rm_isValue G o h S vs w.2 hA, bs]
    unfold m_M_ofItsOwn_142 dnV
    rw [if_pos c0]
    cases hv : vAt vs w.2 with
    | none => rw [if_pos (show bI (none : Option vV).isSome = 0 from rfl)]; exact same _ _ rfl
    | some x =>
      rw [if_neg (show ¬ bI (some x).isSome = 0 from (by decide : ¬ bI true = 0))]
      exact same _ _ (AR_eq hO.1 (vAt_AR hv))
  by_cases c1 : w.1 = 1
  · refine done_own G o h S _ _ _ _ ?_
    rw [c1] at l14
    rw [own_1 G o h S k w.2 _ l14 l15]
    unfold m_M_ofItsOwn_161 dnV
    rw [if_neg c0, if_pos c1]
    simp only [lm_vck, bn, bs]
    by_cases c : bnV bd w.2 ≤ 0
    · rw [if_pos c, bn0 c]; exact same _ _ rfl
    · rw [if_neg c]
      obtain ⟨x, hx⟩ := bnv c
      rw [hx]
      exact same _ _ (AR_eq hO.1 (vAt_AR hx))
  by_cases c2 : w.1 = 2
  · refine done_own G o h S _ _ _ _ ?_
    rw [c2] at l14
    rw [own_2 G o h S k w.2 _ l14 l15]
    unfold m_M_ofItsOwn_176 dnV
    rw [if_neg c0, if_neg c1, if_pos c2]
    simp only [lm_vck, bn, bs, bq]
    by_cases c : bnV bd w.2 ≤ 0
    · rw [if_pos c, decide_eq_false (fun q => by rw [Int32.lt_iff_toInt_lt] at q; rw [Int32.le_iff_toInt_le] at c; omega)]
      exact (rm_truth G o h S vs false hA).w
    · rw [if_neg c, decide_eq_true (by rw [Int32.lt_iff_toInt_lt]; rw [Int32.le_iff_toInt_le] at c; omega)]
      exact (rm_truth G o h S vs true hA).w
  by_cases c4 : w.1 = 4
  · have t2 : tk w = 2 := by unfold tk; rw [if_neg (by omega), if_neg (by omega), if_neg (by omega), if_neg (by omega), if_neg (by omega)]
    have m1 := lm_a17 o h S (at_ + 1) (by omega)
    refine done_own G o h S _ _ _ _ ?_
    rw [c4] at l14
    rw [own_4 G o h S k w.2 _ l14 l15]
    unfold dnV
    rw [if_neg c0, if_neg c1, if_neg c2, if_pos c4]
    simp only [lm_vck, lm_g24, m0, m1, bs, bq, nI_1]
    exact (rm_both G o h S vs _ _ _ _ false hA hO (sA_at hs 0 (by omega)) (sA_at hs 1 (by omega))).w
  by_cases c5 : w.1 = 5
  · have t2 : tk w = 2 := by unfold tk; rw [if_neg (by omega), if_neg (by omega), if_neg (by omega), if_neg (by omega), if_neg (by omega)]
    have m1 := lm_a17 o h S (at_ + 1) (by omega)
    refine done_own G o h S _ _ _ _ ?_
    rw [c5] at l14
    rw [own_5 G o h S k w.2 _ l14 l15]
    unfold dnV
    rw [if_neg c0, if_neg c1, if_neg c2, if_neg c4, if_pos c5]
    simp only [lm_vck, lm_g24, m0, m1, bs, bq, nI_1]
    exact (rm_both G o h S vs _ _ _ _ true hA hO (sA_at hs 0 (by omega)) (sA_at hs 1 (by omega))).w
  by_cases c22 : w.1 = 22
  · have t3 : tk w = 3 := by unfold tk; rw [if_neg (by omega), if_neg (by omega), if_neg (by omega), if_pos (by omega)]
    have m1 := lm_a17 o h S (at_ + 1) (by omega)
    have m2 := lm_a17 o h S (at_ + 2) (by omega)
    have a0 := sA_at hs 0 (by omega)
    have a1 := sA_at hs 1 (by omega)
    have a2 := sA_at hs 2 (by omega)
    rw [Nat.add_zero] at a0
    refine done_own G o h S _ _ _ _ ?_
    rw [c22] at l14
    rw [own_22 G o h S k w.2 _ l14 l15]
    unfold dnV m_M_ofItsOwn_253
    rw [if_neg c0, if_neg c1, if_neg c2, if_neg c4, if_neg c5, if_pos c22]
    simp only [lm_vck, lm_g24, m0, bs, rm_truA G o h S vs _ _ hA hO a0, hp_nmE]
    cases ht : (xs.getD 0 none).bind truV with
    | none => rw [if_neg (show ¬ 0 ≤ tI none by decide)]; exact same _ _ rfl
    | some b =>
      cases b with
      | false =>
        rw [if_pos (show 0 ≤ tI (some false) by decide), show nI at_ + 2 - tI (some false) = nI (at_ + 2) by rw [show (2 : Int32) = nI 2 from rfl, nI_add, show tI (some false) = nI 0 from rfl, pk_sub (by omega)]; rfl]
        simp only [m2, bs]
        exact same _ _ (AR_eq hO.1 a2)
      | true =>
        rw [if_pos (show 0 ≤ tI (some true) by decide), show nI at_ + 2 - tI (some true) = nI (at_ + 1) by rw [show (2 : Int32) = nI 2 from rfl, nI_add, show tI (some true) = nI 1 from rfl, pk_sub (by omega)]; rfl]
        simp only [m1, bs]
        exact same _ _ (AR_eq hO.1 a1)
  by_cases c23 : w.1 = 23
  · obtain ⟨m, hm, em, -⟩ := h2 (by omega)
    have t3 : tk w = m := by unfold tk; rw [if_neg (by omega), if_pos (by omega), em, nI_clamp (by omega)]
    refine done_own G o h S _ _ _ _ ?_
    rw [c23] at l14
    rw [own_23 G o h S k w.2 _ l14 l15]
    unfold dnV
    rw [if_neg c0, if_neg c1, if_neg c2, if_neg c4, if_neg c5, if_neg c22, if_pos c23, hp_nmE, em]
    rw [show (0 : Int32) = nI 0 from rfl, rm_own_257 G o h S vs hA hO at_ m xs (by omega) (by omega) hs hp_fu 0 (by omega) (by unfold hp_fu; omega) rfl]
    exact same _ _ rfl
  by_cases c24 : w.1 = 24
  · obtain ⟨m, hm, em, -⟩ := h2 (by omega)
    have t3 : tk w = m + 1 := by unfold tk; rw [if_neg (by omega), if_neg (by omega), if_pos (by omega), em, nI_clamp (by omega)]
    refine done_own G o h S _ _ _ _ ?_
    rw [c24] at l14
    rw [own_24 G o h S k w.2 _ l14 l15]
    unfold dnV
    rw [if_neg c0, if_neg c1, if_neg c2, if_neg c4, if_neg c5, if_neg c22, if_neg c23, if_pos c24, lm_vck, bq, em]
    cases xs with
    | nil => rw [t3] at hl; cases hl
    | cons ox ys =>
      exact (rm_isIn G o h S vs hO at_ m ox ys (by rw [t3] at hl; simpa using hl) (by omega) hA hs).w
  have hn : ¬ (w.1 = 0 ∨ w.1 = 1 ∨ w.1 = 2 ∨ w.1 = 4 ∨ w.1 = 5 ∨ w.1 = 22 ∨ w.1 = 23 ∨ w.1 = 24) := by omega
  have htk := tk_le ⟨h1, h2⟩
  have key := rm_done_25 G o h hG S vs ws k w hA hO hW hk at_ xs hl hat hs hn hp_fu 0 (by omega) (by unfold hp_fu; omega) (by rw [List.drop_zero])
  have hv : dnV vs bd w xs = kV vs ((alV xs).bind (valL w.1)) := by
    unfold dnV
    rw [if_neg c0, if_neg c1, if_neg c2, if_neg c4, if_neg c5, if_neg c22, if_neg c23, if_neg c24]
    cases alV xs <;> rfl
  rw [hv]
  unfold m_M_done
  rw [lm_vck, own_no G o h S k w.2 _ w.1 h1 hn l14 l15, bs, hp_nmE, if_pos (show (-2 : Int32) = -2 from rfl), lm_vck, rm_takes G o h S ws k w hW hk, bs, hp_nmE, hp_nmE]
  exact key.w
