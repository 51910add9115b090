/-! WORDS -/
def wO (w : Nat × Int32) : Prop := w.1 ≤ 41 ∧ (w.1 = 23 ∨ w.1 = 24 ∨ w.1 = 29 → ∃ m : Nat, m ≤ 20 ∧ w.2 = nI m ∧ (w.1 = 23 → 1 ≤ m))
def rm_W (S : lm_S) (ws : List (Nat × Int32)) : Prop := S.1 22 = nI ws.length ∧ ws.length ≤ 100 ∧ ∀ k w, ws[k]? = some w → S.2 14 k = nI w.1 ∧ S.2 15 k = w.2 ∧ wO w
theorem rm_W.f {S S' : lm_S} {ws : List (Nat × Int32)} (h : rm_W S ws) (q : fS S S') : rm_W S' ws := by
  obtain ⟨⟨-, q2, -⟩, -, q4, q5, -⟩ := q
  refine ⟨by rw [q2]; exact h.1, h.2.1, fun k w hk => ?_⟩
  rw [q4, q5]
  exact h.2.2 k w hk
def tk (w : Nat × Int32) : Nat := if w.1 < 3 then 0 else if w.1 = 23 ∨ w.1 = 29 then w.2.toNatClampNeg else if w.1 = 24 then w.2.toNatClampNeg + 1 else if w.1 = 22 ∨ w.1 = 26 then 3 else if w.1 = 3 ∨ (16 < w.1 ∧ w.1 < 22) ∨ w.1 = 25 ∨ w.1 = 27 ∨ w.1 = 28 ∨ 34 < w.1 then 1 else 2
theorem tk_le {w : Nat × Int32} (h : wO w) : tk w ≤ 21 := by
  obtain ⟨h1, h2⟩ := h
  unfold tk
  by_cases c0 : w.1 < 3
  · rw [if_pos c0]; omega
  · rw [if_neg c0]
    by_cases c1 : w.1 = 23 ∨ w.1 = 29
    · rw [if_pos c1]
      obtain ⟨m, hm, e, -⟩ := h2 (by omega)
      rw [e, nI_clamp (by omega)]; omega
    · rw [if_neg c1]
      by_cases c2 : w.1 = 24
      · rw [if_pos c2]
        obtain ⟨m, hm, e, -⟩ := h2 (by omega)
        rw [e, nI_clamp (by omega)]; omega
      · rw [if_neg c2]
        by_cases c3 : w.1 = 22 ∨ w.1 = 26
        · rw [if_pos c3]; omega
        · rw [if_neg c3]
          by_cases c4 : w.1 = 3 ∨ (16 < w.1 ∧ w.1 < 22) ∨ w.1 = 25 ∨ w.1 = 27 ∨ w.1 = 28 ∨ 34 < w.1
          · rw [if_pos c4]; omega
          · rw [if_neg c4]; omega
theorem rm_takes (G : Nat → Nat) (o : Nat) (h : hp_H) (S : lm_S) (ws : List (Nat × Int32)) (k : Nat) (w : Nat × Int32) (hW : rm_W S ws) (hk : ws[k]? = some w) : m_M_takes G o (nI k) (lm_w o h S) = some (nI (tk w), lm_w o h S) := by
  obtain ⟨-, hl, hw⟩ := hW
  obtain ⟨r1, r2, h1, h2⟩ := hw k w hk
  have kl := (List.getElem?_eq_some_iff.mp hk).1
  have l14 := lm_a14 o h S k (by omega)
  have l15 := lm_a15 o h S k (by omega)
  rw [r1] at l14
  rw [r2] at l15
  have w31 : w.1 < 2 ^ 31 := by omega
  unfold m_M_takes m_M_takes_26 m_M_takes_60 m_M_takes_79 m_M_takes_103 m_M_takes_108 tk
  simp only [lm_g20, lm_g21, l14, l15, bs, hp_nmE, ie_23 w31, ie_29 w31, ie_24 w31, ie_22 w31, ie_26 w31, ie_3 w31, ie_25 w31, ie_27 w31, ie_28 w31, show (3 : Int32) = nI 3 from rfl, show (16 : Int32) = nI 16 from rfl, show (22 : Int32) = nI 22 from rfl, show (34 : Int32) = nI 34 from rfl, nI_leI (show 3 < 2 ^ 31 by decide) w31, nI_leI w31 (show 16 < 2 ^ 31 by decide), nI_ltI w31 (show 22 < 2 ^ 31 by decide), nI_leI w31 (show 34 < 2 ^ 31 by decide)]
  have e3 : (nI w.1 = nI 3) ↔ w.1 = 3 := nI_eq w31 (by decide)
  have e22 : (nI w.1 = nI 22) ↔ w.1 = 22 := nI_eq w31 (by decide)
  by_cases c0 : w.1 < 3
  · rw [if_neg (show ¬ 3 ≤ w.1 by omega), if_pos c0]; rfl
  · rw [if_pos (show 3 ≤ w.1 by omega), if_neg c0]
    by_cases c23 : w.1 = 23
    · obtain ⟨m, hm, e, -⟩ := h2 (by omega)
      rw [if_pos c23, if_pos (show w.1 = 23 ∨ w.1 = 29 from Or.inl c23), e, nI_clamp (by omega)]
    · rw [if_neg c23]
      by_cases c29 : w.1 = 29
      · obtain ⟨m, hm, e, -⟩ := h2 (by omega)
        rw [if_pos c29, if_pos (show w.1 = 23 ∨ w.1 = 29 from Or.inr c29), e, nI_clamp (by omega)]
      · rw [if_neg c29, if_neg (show ¬ (w.1 = 23 ∨ w.1 = 29) by omega)]
        by_cases c24 : w.1 = 24
        · obtain ⟨m, hm, e, -⟩ := h2 (by omega)
          rw [if_pos c24, if_pos c24, e, nI_clamp (by omega), nI_1]
        · rw [if_neg c24, if_neg c24]
          by_cases c22 : w.1 = 22
          · rw [if_pos (e22.mpr c22), if_pos (show w.1 = 22 ∨ w.1 = 26 from Or.inl c22)]
          · rw [if_neg (fun q => c22 (e22.mp q))]
            by_cases c26 : w.1 = 26
            · rw [if_pos c26, if_pos (show w.1 = 22 ∨ w.1 = 26 from Or.inr c26)]
            · rw [if_neg c26, if_neg (show ¬ (w.1 = 22 ∨ w.1 = 26) by omega)]
              by_cases c3 : w.1 = 3
              · rw [if_pos (e3.mpr c3), if_pos (Or.inl c3)]; rfl
              · rw [if_neg (fun q => c3 (e3.mp q))]
                by_cases c16 : w.1 ≤ 16
                · rw [if_pos c16, if_neg (show ¬ w.1 = 25 by omega), if_neg (show ¬ w.1 = 27 by omega), if_neg (show ¬ w.1 = 28 by omega), if_pos (show w.1 ≤ 34 by omega), if_neg (show ¬ (w.1 = 3 ∨ (16 < w.1 ∧ w.1 < 22) ∨ w.1 = 25 ∨ w.1 = 27 ∨ w.1 = 28 ∨ 34 < w.1) by omega)]; rfl
                · rw [if_neg c16]
                  by_cases d22 : w.1 < 22
                  · rw [if_pos d22, if_pos (show (w.1 = 3 ∨ (16 < w.1 ∧ w.1 < 22) ∨ w.1 = 25 ∨ w.1 = 27 ∨ w.1 = 28 ∨ 34 < w.1) by omega)]; rfl
                  · rw [if_neg d22]
                    by_cases d25 : w.1 = 25
                    · rw [if_pos d25, if_pos (show (w.1 = 3 ∨ (16 < w.1 ∧ w.1 < 22) ∨ w.1 = 25 ∨ w.1 = 27 ∨ w.1 = 28 ∨ 34 < w.1) by omega)]; rfl
                    · rw [if_neg d25]
                      by_cases d27 : w.1 = 27
                      · rw [if_pos d27, if_pos (show (w.1 = 3 ∨ (16 < w.1 ∧ w.1 < 22) ∨ w.1 = 25 ∨ w.1 = 27 ∨ w.1 = 28 ∨ 34 < w.1) by omega)]; rfl
                      · rw [if_neg d27]
                        by_cases d28 : w.1 = 28
                        · rw [if_pos d28, if_pos (show (w.1 = 3 ∨ (16 < w.1 ∧ w.1 < 22) ∨ w.1 = 25 ∨ w.1 = 27 ∨ w.1 = 28 ∨ 34 < w.1) by omega)]; rfl
                        · rw [if_neg d28]
                          by_cases d34 : w.1 ≤ 34
                          · rw [if_pos d34, if_neg (show ¬ (w.1 = 3 ∨ (16 < w.1 ∧ w.1 < 22) ∨ w.1 = 25 ∨ w.1 = 27 ∨ w.1 = 28 ∨ 34 < w.1) by omega)]; rfl
                          · rw [if_neg d34, if_pos (show (w.1 = 3 ∨ (16 < w.1 ∧ w.1 < 22) ∨ w.1 = 25 ∨ w.1 = 27 ∨ w.1 = 28 ∨ 34 < w.1) by omega)]; rfl
def rtL : List (Nat × Int32) → Nat → Bool
  | [], n => n == 1
  | w :: r, n => if n < tk w then false else rtL r (n + 1 - tk w)
theorem rm_isRight_4 (G : Nat → Nat) (o : Nat) (h : hp_H) (S : lm_S) (ws : List (Nat × Int32)) (hW : rm_W S ws) : ∀ (n k t : Nat), k ≤ ws.length → ws.length - k < n → t ≤ k → m_M_isRight_4 G n o (nI t) (nI k) (lm_w o h S) = some (bI (rtL (ws.drop k) t), lm_w o h S)
  | 0, k, t, _, hn, _ => by omega
  | n + 1, k, t, hk, hn, ht => by
    have hl := hW.2.1
    rw [m_M_isRight_4]
    unfold m_M_isRight_49
    simp only [lm_g22, hW.1, bs, nI_leI (show ws.length < 2 ^ 31 by omega) (show k < 2 ^ 31 by omega), lm_vck, ie_1 (show t < 2 ^ 31 by omega)]
    by_cases c : ws.length ≤ k
    · rw [if_pos c, List.drop_eq_nil_of_le c, rtL]
      by_cases c1 : t = 1
      · rw [if_pos c1, c1]; rfl
      · rw [if_neg c1, beq_false_of_ne c1]; rfl
    · rw [if_neg c]
      obtain ⟨w, hw⟩ : ∃ w, ws[k]? = some w := ⟨_, List.getElem?_eq_getElem (by omega)⟩
      have hd : ws.drop k = w :: ws.drop (k + 1) := by
        obtain ⟨hk2, e⟩ := List.getElem?_eq_some_iff.mp hw
        rw [List.drop_eq_getElem_cons hk2, e]
      have htk := tk_le (hW.2.2 k w hw).2.2
      rw [rm_takes G o h S ws k w hW hw]
      simp only [bs, nI_leI (show tk w < 2 ^ 31 by omega) (show t < 2 ^ 31 by omega), lm_vck]
      rw [hd, rtL]
      by_cases c2 : tk w ≤ t
      · rw [if_pos c2, if_neg (show ¬ t < tk w by omega), rm_takes G o h S ws k w hW hw]
        simp only [bs, hp_nmE, nI_1]
        rw [show nI t + (1 - nI (tk w)) = nI (t + 1 - tk w) by
          rw [nI_iI, nI_iI, show (1 : Int32) = iI 1 from rfl, iI_sub, iI_add]; exact iI_nat (by omega)]
        by_cases c3 : tk w = 0
        · exact rm_isRight_4 G o h S ws hW n (k + 1) (t + 1 - tk w) (by omega) (by omega) (by omega)
        · exact rm_isRight_4 G o h S ws hW n (k + 1) (t + 1 - tk w) (by omega) (by omega) (by omega)
      · rw [if_neg c2, if_pos (show t < tk w by omega)]; rfl
theorem rm_isRight (G : Nat → Nat) (o : Nat) (h : hp_H) (S : lm_S) (ws : List (Nat × Int32)) (hW : rm_W S ws) : m_M_isRight G o (lm_w o h S) = some (bI (rtL ws 0), lm_w o h S) := by
  have hl := hW.2.1
  unfold m_M_isRight
  simp only [hp_nmE]
  exact rm_isRight_4 G o h S ws hW hp_fu 0 0 (by omega) (by unfold hp_fu; omega) (by omega)
/-! what an operation makes of what it takes -/
def fsV : List (Option vV) → Option vV
  | [] => none
  | some x :: _ => some x
  | none :: r => fsV r
def alV : List (Option vV) → Option (List vV)
  | [] => some []
  | none :: _ => none
  | some x :: r => (alV r).map (x :: ·)
def vD : vV := (0, 0, 0, 0, [])
def valL (o : Nat) (ys : List vV) : Option vV := if o = 29 then rwV ys else if o = 26 then smV (ys.getD 0 vD) (ys.getD 1 vD) (ys.getD 2 vD) else if 6 ≤ o ∧ o ≤ 16 ∨ 30 ≤ o ∧ o ≤ 34 then val2 o (ys.getD 0 vD) (ys.getD 1 vD) else val1 o (ys.getD 0 vD)
def dnV (vs : List vV) (bd : Nat → Nat) (w : Nat × Int32) (xs : List (Option vV)) : Option (Option vV) × List vV :=
  if w.1 = 0 then (some (vAt vs w.2), vs)
  else if w.1 = 1 then (some (vAt vs (bnV bd w.2)), vs)
  else if w.1 = 2 then kV vs (some (trV (decide (0 < bnV bd w.2))))
  else if w.1 = 4 then kV vs ((btV ((xs.getD 0 none).bind truV) ((xs.getD 1 none).bind truV) false).map trV)
  else if w.1 = 5 then kV vs ((btV ((xs.getD 0 none).bind truV) ((xs.getD 1 none).bind truV) true).map trV)
  else if w.1 = 22 then (some (((xs.getD 0 none).bind truV).bind fun b => xs.getD (if b then 1 else 2) none), vs)
  else if w.1 = 23 then (some (fsV xs), vs)
  else if w.1 = 24 then kV vs (((xs.getD 0 none).bind (fun x => inL x (xs.drop 1))).map trV)
  else match alV xs with
    | none => (some none, vs)
    | some ys => kV vs (valL w.1 ys)
theorem idx_nd {vs : List vV} (hN : vs.Nodup) {i : Nat} {x : vV} (h : vs[i]? = some x) : vs.idxOf x = i := nd_inj hN (idx_get (List.mem_of_getElem? h)) h
theorem AR_eq {vs : List vV} (hN : vs.Nodup) {a : Int32} {ox : Option vV} (h : AR vs a ox) : a = rI vs (some ox) := by
  cases ox with
  | none => exact AR_n h
  | some x =>
    obtain ⟨i, e, hx⟩ := AR_s h
    rw [e, rI, idx_nd hN hx]
theorem vAt_AR {vs : List vV} {a : Int32} {x : vV} (h : vAt vs a = some x) : AR vs a (some x) := by
  obtain ⟨i, e, hx⟩ := vAt_some h
  exact Or.inr ⟨i, x, rfl, e, hx⟩
theorem sA_at {S : lm_S} {vs : List vV} {at_ : Nat} {xs : List (Option vV)} (h : sA S vs at_ xs) (j : Nat) (hj : j < xs.length) : AR vs (S.2 17 (at_ + j)) (xs.getD j none) := by
  refine h j _ ?_
  rw [List.getD_eq_getElem?_getD, List.getElem?_eq_getElem hj]; rfl
