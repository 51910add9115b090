/-! run, test -/
theorem al_mem {xs : List (Option vV)} {ys : List vV} (h : alV xs = some ys) (y : vV) (hy : y ∈ ys) : some y ∈ xs := by
  rw [al_get h]
  exact List.mem_map.mpr ⟨y, hy, rfl⟩
theorem vO_valL {o : Nat} {ys : List vV} {z : vV} (hy : ∀ y ∈ ys, vO y) (h0 : o ≠ 29 → 0 < ys.length) (h1 : o = 26 ∨ (6 ≤ o ∧ o ≤ 16 ∨ 30 ≤ o ∧ o ≤ 34) → 1 < ys.length) (h : valL o ys = some z) : vO z := by
  unfold valL at h
  have g : ∀ t, t < ys.length → vO (ys.getD t vD) := fun t ht => hy _ (by rw [List.getD_eq_getElem?_getD, List.getElem?_eq_getElem ht]; exact List.getElem_mem _)
  by_cases c29 : o = 29
  · rw [if_pos c29] at h; exact vO_rwV hy h
  rw [if_neg c29] at h
  by_cases c26 : o = 26
  · rw [if_pos c26] at h; exact vO_smV (g 0 (h0 c29)) h
  rw [if_neg c26] at h
  by_cases c2 : 6 ≤ o ∧ o ≤ 16 ∨ 30 ≤ o ∧ o ≤ 34
  · rw [if_pos c2] at h; exact vO_val2 (g 0 (h0 c29)) (g 1 (h1 (Or.inr c2))) h
  · rw [if_neg c2] at h; exact vO_val1 (g 0 (h0 c29)) h
/-- the values on the stack are kept ones -/
def stO (vs : List vV) (st : List (Option vV)) : Prop := ∀ x, some x ∈ st → x ∈ vs
theorem vAt_mem {vs : List vV} {a : Int32} {x : vV} (h : vAt vs a = some x) : x ∈ vs := by
  obtain ⟨i, -, hx⟩ := vAt_some h
  exact List.mem_of_getElem? hx
theorem stO_getD {vs : List vV} {st : List (Option vV)} (h : stO vs st) (j : Nat) (x : vV) (hx : st.getD j none = some x) : x ∈ vs := by
  rw [List.getD_eq_getElem?_getD] at hx
  cases hj : st[j]? with
  | none => rw [hj] at hx; cases hx
  | some oy =>
    rw [hj] at hx
    have hx : oy = some x := hx
    exact h x (by rw [← hx]; exact List.mem_of_getElem? hj)
theorem tk_pos {w : Nat × Int32} (h : wO w) (hn : ¬ (w.1 = 0 ∨ w.1 = 1 ∨ w.1 = 2 ∨ w.1 = 4 ∨ w.1 = 5 ∨ w.1 = 22 ∨ w.1 = 23 ∨ w.1 = 24)) : (w.1 ≠ 29 → 0 < tk w) ∧ (w.1 = 26 ∨ (6 ≤ w.1 ∧ w.1 ≤ 16 ∨ 30 ≤ w.1 ∧ w.1 ≤ 34) → 1 < tk w) := by
  obtain ⟨h1, -⟩ := h
  unfold tk
  constructor
  · intro c29
    rw [if_neg (by omega), if_neg (by omega), if_neg (by omega)]
    by_cases c : w.1 = 22 ∨ w.1 = 26
    · rw [if_pos c]; omega
    · rw [if_neg c]
      by_cases c2 : w.1 = 3 ∨ (16 < w.1 ∧ w.1 < 22) ∨ w.1 = 25 ∨ w.1 = 27 ∨ w.1 = 28 ∨ 34 < w.1
      · rw [if_pos c2]; omega
      · rw [if_neg c2]; omega
  · intro c
    rw [if_neg (by omega), if_neg (by omega), if_neg (by omega)]
    by_cases c3 : w.1 = 22 ∨ w.1 = 26
    · rw [if_pos c3]; omega
    · rw [if_neg c3, if_neg (by omega)]; omega
theorem dn_O {vs : List vV} {bd : Nat → Nat} {w : Nat × Int32} {xs : List (Option vV)} (hO : vsO vs) (hw : wO w) (hl : xs.length = tk w) (hx : stO vs xs) : vsO (dnV vs bd w xs).2 ∧ (∃ l, (dnV vs bd w xs).2 = vs ++ l) ∧ ∀ y, (dnV vs bd w xs).1 = some (some y) → y ∈ (dnV vs bd w xs).2 := by
  have kk : ∀ oz : Option vV, (∀ z, oz = some z → vO z) → vsO (kV vs oz).2 ∧ (∃ l, (kV vs oz).2 = vs ++ l) ∧ ∀ y, (kV vs oz).1 = some (some y) → y ∈ (kV vs oz).2 := fun oz hz => ⟨kV_O hO hz, kV_sub vs oz, fun y hy => kV_mem vs oz y hy⟩
  have ss : ∀ oz : Option vV, (∀ z, oz = some z → z ∈ vs) → vsO ((some oz, vs) : Option (Option vV) × List vV).2 ∧ (∃ l, ((some oz, vs) : Option (Option vV) × List vV).2 = vs ++ l) ∧ ∀ y, ((some oz, vs) : Option (Option vV) × List vV).1 = some (some y) → y ∈ ((some oz, vs) : Option (Option vV) × List vV).2 := fun oz hz => ⟨hO, ⟨[], (List.append_nil vs).symm⟩, fun y hy => hz y (by injection hy)⟩
  unfold dnV
  by_cases c0 : w.1 = 0
  · rw [if_pos c0]; exact ss _ (fun z hz => vAt_mem hz)
  rw [if_neg c0]
  by_cases c1 : w.1 = 1
  · rw [if_pos c1]; exact ss _ (fun z hz => vAt_mem hz)
  rw [if_neg c1]
  by_cases c2 : w.1 = 2
  · rw [if_pos c2]; exact kk _ (fun z hz => by injection hz with hz; rw [← hz]; exact vO_tr _)
  rw [if_neg c2]
  by_cases c4 : w.1 = 4
  · rw [if_pos c4]; exact kk _ (fun z hz => vO_tru hz)
  rw [if_neg c4]
  by_cases c5 : w.1 = 5
  · rw [if_pos c5]; exact kk _ (fun z hz => vO_tru hz)
  rw [if_neg c5]
  by_cases c22 : w.1 = 22
  · rw [if_pos c22]
    refine ss _ (fun z hz => ?_)
    cases ht : (xs.getD 0 none).bind truV with
    | none => rw [ht] at hz; cases hz
    | some b => rw [ht] at hz; exact stO_getD hx _ z hz
  rw [if_neg c22]
  by_cases c23 : w.1 = 23
  · rw [if_pos c23]; exact ss _ (fun z hz => hx z (fs_AR hO.1 xs z hz))
  rw [if_neg c23]
  by_cases c24 : w.1 = 24
  · rw [if_pos c24]; exact kk _ (fun z hz => vO_tru hz)
  rw [if_neg c24]
  cases hys : alV xs with
  | none => exact ss none (fun z hz => by cases hz)
  | some ys =>
    have hn : ¬ (w.1 = 0 ∨ w.1 = 1 ∨ w.1 = 2 ∨ w.1 = 4 ∨ w.1 = 5 ∨ w.1 = 22 ∨ w.1 = 23 ∨ w.1 = 24) := by omega
    have hlen : ys.length = tk w := by rw [← hl, al_get hys, List.length_map]
    obtain ⟨t1, t2⟩ := tk_pos hw hn
    exact kk _ (fun z hz => vO_valL (fun y hy => (hO.2.2 y (hx y (al_mem hys y hy))).1) (by rw [hlen]; exact t1) (by rw [hlen]; exact t2) hz)
def rnV (bd : Nat → Nat) : List (Nat × Int32) → List (Option vV) → List vV → Option (Option vV) × List vV
  | [], st, vs => (some (st.headD none), vs)
  | w :: r, st, vs => match (dnV vs bd w (st.take (tk w)).reverse).1 with
    | none => (none, (dnV vs bd w (st.take (tk w)).reverse).2)
    | some ox => rnV bd r (ox :: st.drop (tk w)) (dnV vs bd w (st.take (tk w)).reverse).2
/-- as fS, but the stack may have changed -/
def fR (S S' : lm_S) : Prop := (S'.1 9 = S.1 9 ∧ S'.1 22 = S.1 22 ∧ S'.1 26 = S.1 26 ∧ S'.1 27 = S.1 27 ∧ S'.1 28 = S.1 28 ∧ S'.1 29 = S.1 29) ∧ S'.2 8 = S.2 8 ∧ S'.2 14 = S.2 14 ∧ S'.2 15 = S.2 15 ∧ S'.2 16 = S.2 16 ∧ S'.2 18 = S.2 18
theorem fS.r {S S' : lm_S} (q : fS S S') : fR S S' := ⟨q.1, q.2.1, q.2.2.1, q.2.2.2.1, q.2.2.2.2.1, q.2.2.2.2.2.2⟩
theorem fR.tr {S S' S'' : lm_S} (h1 : fR S S') (h2 : fR S' S'') : fR S S'' := by
  obtain ⟨⟨a1, a2, a3, a4, a5, a6⟩, b1, b2, b3, b4, b6⟩ := h1
  obtain ⟨⟨c1, c2, c3, c4, c5, c6⟩, d1, d2, d3, d4, d6⟩ := h2
  exact ⟨⟨c1.trans a1, c2.trans a2, c3.trans a3, c4.trans a4, c5.trans a5, c6.trans a6⟩, d1.trans b1, d2.trans b2, d3.trans b3, d4.trans b4, d6.trans b6⟩
theorem rm_W.r {S S' : lm_S} {ws : List (Nat × Int32)} (h : rm_W S ws) (q : fR S S') : rm_W S' ws := by
  obtain ⟨⟨-, q2, -⟩, -, q4, q5, -⟩ := q
  refine ⟨by rw [q2]; exact h.1, h.2.1, fun k w hk => ?_⟩
  rw [q4, q5]
  exact h.2.2 k w hk
theorem rev_td (st : List (Option vV)) (n : Nat) : st.reverse = (st.drop n).reverse ++ (st.take n).reverse := by
  rw [← List.reverse_append, List.take_append_drop]
theorem rn_O {bd : Nat → Nat} : ∀ (ws : List (Nat × Int32)) (st : List (Option vV)) (vs : List vV) (t : Nat), (∀ w ∈ ws, wO w) → st.length = t → rtL ws t = true → vsO vs → stO vs st → vsO (rnV bd ws st vs).2 ∧ ∀ y, (rnV bd ws st vs).1 = some (some y) → y ∈ (rnV bd ws st vs).2
  | [], st, vs, t, _, hl, _, hO, hs => ⟨hO, fun y hy => by
      have hy : some (st.headD none) = some (some y) := hy
      injection hy with hy
      cases st with
      | nil => cases hy
      | cons a r => exact hs y (by have hy : a = some y := hy; rw [hy]; exact List.mem_cons_self ..)⟩
  | w :: r, st, vs, t, hw, hl, ht, hO, hs => by
    rw [rtL] at ht
    by_cases c : t < tk w
    · rw [if_pos c] at ht; cases ht
    · rw [if_neg c] at ht
      have hxl : ((st.take (tk w)).reverse).length = tk w := by rw [List.length_reverse, List.length_take]; omega
      have hxs : stO vs (st.take (tk w)).reverse := fun x hx => hs x (List.mem_of_mem_take (List.mem_reverse.mp hx))
      obtain ⟨d1, ⟨l, d2⟩, d3⟩ := dn_O (bd := bd) hO (hw w (List.mem_cons_self ..)) hxl hxs
      rw [rnV]
      cases hr : (dnV vs bd w (st.take (tk w)).reverse).1 with
      | none => exact ⟨d1, fun y hy => by cases hy⟩
      | some ox =>
        refine rn_O r _ _ (t + 1 - tk w) (fun w' hw' => hw w' (List.mem_cons_of_mem _ hw')) ?_ ht d1 (fun x hx => ?_)
        · rw [List.length_cons, List.length_drop]; omega
        · rcases List.mem_cons.mp hx with q | q
          · exact d3 x (by rw [hr, q])
          · rw [d2]; exact List.mem_append_left _ (hs x (List.mem_of_mem_drop q))
theorem rm_run_13 (G : Nat → Nat) (o : Nat) (h : hp_H) (hG : SM G o h) (S0 : lm_S) (ws : List (Nat × Int32)) (bd : Nat → Nat) : ∀ (n k t : Nat) (S : lm_S) (vs : List vV) (st : List (Option vV)), k ≤ ws.length → ws.length - k < n → t ≤ k → st.length = t → rtL (ws.drop k) t = true → rm_A S vs → vsO vs → rm_W S ws → (∀ k, k < 10 → S.2 16 k = nI (bd k) ∧ bd k ≤ vs.length) → fR S0 S → sA S vs 0 st.reverse → ∃ S', m_M_run_13 G n o (nI t) (nI k) (lm_w o h S) = some (rI (rnV bd (ws.drop k) st vs).2 (rnV bd (ws.drop k) st vs).1, lm_w o h S') ∧ rm_A S' (rnV bd (ws.drop k) st vs).2 ∧ fR S0 S'
  | 0, k, t, S, vs, st, _, hn, _, _, _, _, _, _, _, _, _ => by omega
  | n + 1, k, t, S, vs, st, hk, hn, htk, hl, ht, hA, hO, hW, hB, hS, hs => by
    have hwl := hW.2.1
    rw [m_M_run_13]
    simp only [lm_g22, hW.1, bs, nI_leI (show ws.length < 2 ^ 31 by omega) (show k < 2 ^ 31 by omega), lm_vck]
    by_cases c : ws.length ≤ k
    · rw [if_pos c]
      rw [List.drop_eq_nil_of_le c] at ht ⊢
      have t1 : t = 1 := by rw [rtL] at ht; simpa using ht
      have m0 := lm_a17 o h S 0 (by omega)
      simp only [lm_g24, bs, show (0 : Int32) = nI 0 from rfl, m0]
      obtain ⟨ox, e⟩ : ∃ ox, st = [ox] := by
        match st, hl with
        | [a], _ => exact ⟨a, rfl⟩
        | [], hl => rw [t1] at hl; cases hl
        | a :: b :: r, hl => rw [t1] at hl; simp at hl
      subst e
      have ha := hs 0 ox rfl
      rw [Nat.zero_add] at ha
      rw [AR_eq hO.1 ha]
      exact ⟨S, rfl, hA, hS⟩
    · rw [if_neg c]
      obtain ⟨w, hw⟩ : ∃ w, ws[k]? = some w := ⟨_, List.getElem?_eq_getElem (by omega)⟩
      have hd : ws.drop k = w :: ws.drop (k + 1) := by
        obtain ⟨hk2, e⟩ := List.getElem?_eq_some_iff.mp hw
        rw [List.drop_eq_getElem_cons hk2, e]
      have hwO := (hW.2.2 k w hw).2.2
      have htw := tk_le hwO
      rw [hd, rtL] at ht
      by_cases cq : t < tk w
      · rw [if_pos cq] at ht; cases ht
      · rw [if_neg cq] at ht
        have hxl : ((st.take (tk w)).reverse).length = tk w := by rw [List.length_reverse, List.length_take]; omega
        have hdl : ((st.drop (tk w)).reverse).length = t - tk w := by rw [List.length_reverse, List.length_drop]; omega
        have hsx : sA S vs (t - tk w) (st.take (tk w)).reverse := fun j ox hj => by
          have := hs ((t - tk w) + j) ox (by
            rw [rev_td st (tk w), List.getElem?_append_right (by rw [hdl]; omega), hdl, show t - tk w + j - (t - tk w) = j by omega]
            exact hj)
          rw [Nat.zero_add] at this
          exact this
        have hxs : stO vs (st.take (tk w)).reverse := fun x hx => by
          obtain ⟨j, hj, e⟩ := List.getElem_of_mem hx
          obtain ⟨i, -, hi⟩ := AR_s (hsx j (some x) (by rw [List.getElem?_eq_getElem hj, e]))
          exact List.mem_of_getElem? hi
        obtain ⟨d1, ⟨l, d2⟩, d3⟩ := dn_O (bd := bd) hO hwO hxl hxs
        rw [rm_takes G o h S ws k w hW hw]
        simp only [bs, hp_nmE, pk_sub (show tk w ≤ t by omega), lm_vck]
        obtain ⟨S1, e1, e2, e3⟩ := rm_done G o h hG S vs ws bd k w hA hO hW hB hw (t - tk w) (st.take (tk w)).reverse hxl (by omega) hsx
        simp only [e1, bs]
        obtain ⟨-, n3, -⟩ := rI_ne (dnV vs bd w (st.take (tk w)).reverse).2 (dnV vs bd w (st.take (tk w)).reverse).1 (fun x _ => idx_le _ x e2.2.1)
        rw [hd, rnV]
        cases hr : (dnV vs bd w (st.take (tk w)).reverse).1 with
        | none =>
          rw [if_pos (show rI (dnV vs bd w (st.take (tk w)).reverse).2 none = -3 from rfl)]
          exact ⟨S1, rfl, e2, hS.tr e3.r⟩
        | some ox =>
          rw [hr] at n3
          rw [if_neg (fun q => by have := n3.mp q; cases this)]
          have l17 := lm_s17 o h S1 (t - tk w) (rI (dnV vs bd w (st.take (tk w)).reverse).2 (some ox)) (by omega)
          simp only [lm_g24, bs, l17, nI_1]
          have hA2 : rm_A (S1.1, lm_up S1.2 17 (upd (S1.2 17) (t - tk w) (rI (dnV vs bd w (st.take (tk w)).reverse).2 (some ox)))) (dnV vs bd w (st.take (tk w)).reverse).2 := e2.keep rfl (fun j _ h7 => lm_upn _ _ (by omega))
          have hf2 : fR S1 (S1.1, lm_up S1.2 17 (upd (S1.2 17) (t - tk w) (rI (dnV vs bd w (st.take (tk w)).reverse).2 (some ox)))) := by simp (disch := omega) only [fR, lm_upn, and_self]
          have key := rm_run_13 G o h hG S0 ws bd n (k + 1) (t - tk w + 1) _ _ (ox :: st.drop (tk w)) (by omega) (by omega) (by omega) (by rw [List.length_cons, List.length_drop]; omega) (by rw [show t - tk w + 1 = t + 1 - tk w by omega]; exact ht) hA2 d1 ((hW.f e3).r hf2) (fun k hk => by
            have hbk := hB k hk
            constructor
            · simp (disch := omega) only [lm_upn]
              rw [e3.2.2.2.2.1]; exact hbk.1
            · rw [d2, List.length_append]; omega) ((hS.tr e3.r).tr hf2) (fun j oy hj => by
            rw [List.reverse_cons] at hj
            simp only [lm_ups, Nat.zero_add]
            by_cases cj : j < t - tk w
            · rw [List.getElem?_append_left (by rw [hdl]; exact cj)] at hj
              rw [upd_n _ _ (by omega), e3.2.2.2.2.2.1]
              have := hs j oy (by rw [rev_td st (tk w), List.getElem?_append_left (by rw [hdl]; exact cj)]; exact hj)
              rw [Nat.zero_add] at this
              rw [d2]
              exact this.mono l
            · rw [List.getElem?_append_right (by rw [hdl]; omega), hdl] at hj
              have hj0 : j - (t - tk w) = 0 := by
                have := (List.getElem?_eq_some_iff.mp hj).1
                simp at this
                omega
              rw [hj0] at hj
              have hj : ox = oy := by injection hj
              subst hj
              rw [show j = t - tk w by omega, upd_s]
              exact AR_rI (fun x hx => d3 x (by rw [hr, hx])))
          exact key
def runV (vs : List vV) (bd : Nat → Nat) (ws : List (Nat × Int32)) : Int32 × List vV := if rtL ws 0 then (rI (rnV bd ws [] vs).2 (rnV bd ws [] vs).1, (rnV bd ws [] vs).2) else (-1, vs)
theorem rm_run (G : Nat → Nat) (o : Nat) (h : hp_H) (hG : SM G o h) (S : lm_S) (vs : List vV) (ws : List (Nat × Int32)) (bd : Nat → Nat) (hA : rm_A S vs) (hO : vsO vs) (hW : rm_W S ws) (hB : ∀ k, k < 10 → S.2 16 k = nI (bd k) ∧ bd k ≤ vs.length) : ∃ S', m_M_run G o (lm_w o h S) = some ((runV vs bd ws).1, lm_w o h S') ∧ rm_A S' (runV vs bd ws).2 ∧ fR S S' := by
  have hwl := hW.2.1
  unfold m_M_run runV
  rw [lm_vck, rm_isRight G o h S ws hW, bs]
  cases hr : rtL ws 0 with
  | false => rw [if_pos (show bI false = 0 from rfl), if_neg (show ¬ false = true by decide)]; exact ⟨S, rfl, hA, fS.rf.r⟩
  | true =>
    rw [if_neg (show ¬ bI true = 0 by decide), if_pos (show true = true from rfl), hp_nmE, hp_nmE]
    have key := rm_run_13 G o h hG S ws bd hp_fu 0 0 S vs [] (by omega) (by unfold hp_fu; omega) (by omega) rfl (by rw [List.drop_zero]; exact hr) hA hO hW hB fS.rf.r (fun j ox hj => by cases hj)
    rw [List.drop_zero] at key
    exact key
def testV (vs : List vV) (bd : Nat → Nat) (ws : List (Nat × Int32)) : Int32 × List vV := if rtL ws 0 then (match (rnV bd ws [] vs).1 with
  | none => (-3, (rnV bd ws [] vs).2)
  | some ox => (tI (ox.bind truV), (rnV bd ws [] vs).2)) else (-1, vs)
theorem rm_test (G : Nat → Nat) (o : Nat) (h : hp_H) (hG : SM G o h) (S : lm_S) (vs : List vV) (ws : List (Nat × Int32)) (bd : Nat → Nat) (hA : rm_A S vs) (hO : vsO vs) (hW : rm_W S ws) (hB : ∀ k, k < 10 → S.2 16 k = nI (bd k) ∧ bd k ≤ vs.length) : ∃ S', m_M_test G o (lm_w o h S) = some ((testV vs bd ws).1, lm_w o h S') ∧ rm_A S' (testV vs bd ws).2 ∧ fR S S' := by
  unfold m_M_test m_M_test_16 m_M_test_25 testV
  obtain ⟨S', e1, e2, e3⟩ := rm_run G o h hG S vs ws bd hA hO hW hB
  rw [lm_vck, e1, bs, hp_nmE]
  unfold runV at e2 ⊢
  cases hr : rtL ws 0 with
  | false =>
    rw [hr, if_neg (show ¬ false = true by decide)] at e2
    rw [if_neg (show ¬ false = true by decide), if_neg (show ¬ false = true by decide), if_pos (show (-1 : Int32) = -1 from rfl)]
    exact ⟨S', rfl, e2, e3⟩
  | true =>
    rw [hr, if_pos (show true = true from rfl)] at e2
    rw [if_pos (show true = true from rfl), if_pos (show true = true from rfl)]
    obtain ⟨rO, rM⟩ := rn_O (bd := bd) ws [] vs 0 (fun w hw => by obtain ⟨k, hk, e⟩ := List.getElem_of_mem hw; exact (hW.2.2 k w (by rw [List.getElem?_eq_getElem hk, e])).2.2) rfl hr hO (fun x hx => by cases hx)
    simp only at e2 ⊢
    generalize hrn : rnV bd ws [] vs = rr at *
    obtain ⟨r, vs'⟩ := rr
    simp only at e2 rO rM ⊢
    obtain ⟨n2, n3, n1⟩ := rI_ne vs' r (fun x _ => idx_le _ x e2.2.1)
    rw [if_neg n1]
    cases r with
    | none => rw [if_pos (show rI vs' none = -3 from rfl)]; exact ⟨S', rfl, e2, e3⟩
    | some ox =>
      rw [if_neg (fun q => by have := n3.mp q; cases this)]
      simp only [lm_vck, rm_truA G o h S' vs' _ ox e2 rO (AR_rI (fun x hx => rM x (by rw [hx]))), bs]
      exact ⟨S', rfl, e2, e3⟩
