/-! THE CLASS: evaluating -/
section
variable (G : Nat → Nat) {c q0 : Nat}
theorem rev_take {α : Type} (st : List α) (n j : Nat) (h : n ≤ st.length) : (st.take n).reverse[j]? = if j < n then st.reverse[st.length - n + j]? else none := by
  have e : st.reverse = (st.drop n).reverse ++ (st.take n).reverse := by rw [← List.reverse_append, List.take_append_drop]
  have l1 : (st.drop n).reverse.length = st.length - n := by rw [List.length_reverse, List.length_drop]
  have l2 : (st.take n).reverse.length = n := by rw [List.length_reverse, List.length_take]; omega
  by_cases q : j < n
  · rw [if_pos q, e, List.getElem?_append_right (by omega), l1, Nat.add_sub_cancel_left]
  · rw [if_neg q, List.getElem?_eq_none (by omega)]
theorem rev_drop {α : Type} (st : List α) (n j : Nat) (h : n ≤ st.length) (hj : j < st.length - n) : (st.drop n).reverse[j]? = st.reverse[j]? := by
  have e : st.reverse = (st.drop n).reverse ++ (st.take n).reverse := by rw [← List.reverse_append, List.take_append_drop]
  have l1 : (st.drop n).reverse.length = st.length - n := by rw [List.length_reverse, List.length_drop]
  rw [e, List.getElem?_append_left (by omega)]
theorem cl_eval_16 (ws : List (Nat × Int32)) (bd : Nat → Nat) : ∀ (n k : Nat) (h : hp_H) (vs : List vV) (st : List (Option vV)), ws.length - k < n → k ≤ ws.length → st.length ≤ k → XX G c q0 h vs ws bd st → rtL (ws.drop k) st.length = true → ∃ h' st', m_E_evaluate_16 G n (c + 9) (nI k) h = some (rI (rnV bd (ws.drop k) st vs).2 (rnV bd (ws.drop k) st vs).1, h') ∧ XX G c q0 h' (rnV bd (ws.drop k) st vs).2 ws bd st' ∧ fr c [2, 3, 9, 13, 14, 15, 16] h h'
  | 0, k, h, vs, st, hn, _, _, _, _ => by omega
  | n + 1, k, h, vs, st, hn, hk, hst, X, hr => by
    obtain ⟨x1, x2, x3, ⟨hl, fo, fn, w1, w2, w3⟩, x8, ⟨f, x10, x11⟩, x12, xR, xK⟩ := id X
    have hs := x1.2.2.2.2.2.2
    rw [m_E_evaluate_16, gI_e (k := 7) x3 rfl, bs]
    simp only [nI_leI (show ws.length < 2 ^ 31 by omega) (show k < 2 ^ 31 by omega)]
    by_cases e : ws.length ≤ k
    · rw [List.drop_eq_nil_of_le e] at hr ⊢
      have s1 : st.length = 1 := by rw [rtL] at hr; simpa using hr
      obtain ⟨ox, rfl⟩ : ∃ ox, st = [ox] := List.length_eq_one_iff.mp s1
      rw [if_pos e]
      unfold m_E_evaluate_168
      rw [gR_e (k := 4) x3 rfl, bs, show hp_aI h .int (c + 13) 0 = some (f 0) from aI_e (i := 0) x10 (by decide) (by decide), bs, rnV]
      have a0 := x11 0 ox rfl
      rw [AR_eq x2.1 a0]
      exact ⟨h, [ox], rfl, X, fr.rf⟩
    · obtain ⟨w, hw⟩ : ∃ w, ws[k]? = some w := ⟨_, List.getElem?_eq_getElem (by omega)⟩
      have hdr : ws.drop k = w :: ws.drop (k + 1) := by
        obtain ⟨hk2, e⟩ := List.getElem?_eq_some_iff.mp hw
        rw [List.drop_eq_getElem_cons hk2, e]
      obtain ⟨a1, a2, a3⟩ := w3 k w hw
      rw [hdr, rtL] at hr
      have tl : ¬ st.length < tk w := fun q => by rw [if_pos q] at hr; cases hr
      rw [if_neg tl] at hr
      rw [if_neg e, if_neg (show ¬ (100 : Int32) ≤ nI k from nI_ge (a := k) (b := 100) (by omega) (by decide)), gR_e (k := 1) x3 rfl, bs, aI_e w1 (by omega) (by decide), bs, gR_e (k := 2) x3 rfl, bs, aI_e w2 (by omega) (by decide), bs, a1, a2, cl_takenBy G hs w a3, bs, hp_nmE, gI_e (k := 8) x3 rfl, bs, pk_sub (show tk w ≤ st.length by omega), X.top G, bs]
      have T1 : (stC h (c + 9) (.inl (5, eF c (nI ws.length) (st.length - tk w)))).1 (c + 9) = some (.inl (5, eF c (nI ws.length) (st.length - tk w))) := stC_s _ _ _
      have C1 : chg c [9] h (stC h (c + 9) (.inl (5, eF c (nI ws.length) (st.length - tk w)))) := chg_st _ (by simp)
      generalize stC h (c + 9) (.inl (5, eF c (nI ws.length) (st.length - tk w))) = h1 at T1 C1
      have W1 : h1.1 (c + 10) = some (.inr (true, .int, 100, .inl fo)) := by rw [C1.at 10 (by simp)]; exact w1
      have W2 : h1.1 (c + 11) = some (.inr (true, .int, 100, .inl fn)) := by rw [C1.at 11 (by simp)]; exact w2
      have F1 : h1.1 (c + 13) = some (.inr (true, .int, 100, .inl f)) := by rw [C1.at 13 (by simp)]; exact x10
      have B1 : XB c h1 vs bd := by obtain ⟨fb, b1, b2⟩ := x8; exact ⟨fb, by rw [C1.at 12 (by simp)]; exact b1, b2⟩
      have R1 : RE h1 (c + 14) := by obtain ⟨L, R⟩ := xR; exact ⟨L, R.c C1 (by simp) (by simp)⟩
      have K1 : KE c h1 16 := by obtain ⟨g, w, a, s, q1, q2⟩ := xK; exact ⟨g, w, a, s, by rw [C1.at 16 (by simp)]; exact q1, q2⟩
      have xl : ((st.take (tk w)).reverse).length = tk w := by rw [List.length_reverse, List.length_take]; omega
      have XC1 : XC G c q0 h1 vs (st.length - tk w) (st.take (tk w)).reverse := ⟨x1.c C1 (by simp), x2, ⟨_, T1⟩, ⟨f, F1, fun j ox hj => by
        rw [rev_take st (tk w) j (by omega)] at hj
        by_cases q : j < tk w
        · rw [if_pos q] at hj; exact x11 _ ox hj
        · rw [if_neg q] at hj; cases hj⟩, by rw [xl]; omega, R1, K1⟩
      have XX1 : XX G c q0 h1 vs ws bd (st.drop (tk w)) := ⟨XC1.1, x2, by rw [List.length_drop]; exact T1, ⟨hl, fo, fn, W1, W2, w3⟩, B1, ⟨f, F1, fun j ox hj => by
        have jl : j < st.length - tk w := by
          have := (List.getElem?_eq_some_iff.mp hj).1
          rw [List.length_reverse, List.length_drop] at this
          exact this
        rw [rev_drop st (tk w) j (by omega) jl] at hj
        exact x11 j ox hj⟩, by rw [List.length_drop]; omega, R1, K1⟩
      have hstO : stO vs (st.take (tk w)).reverse := fun x hx => by
        obtain ⟨j, hj, ej⟩ := List.getElem_of_mem hx
        have : AR vs (f (st.length - tk w + j)) (some x) := by
          obtain ⟨-, -, -, ⟨f', F', q⟩, -⟩ := XC1
          have : f' = f := by rw [F1] at F'; injection F' with F'; injection F' with F'; injection F' with _ F'; injection F' with _ F'; injection F' with _ F'; injection F' with F'; exact F'.symm
          rw [← this]
          exact q j (some x) (by rw [List.getElem?_eq_getElem hj, ej])
        obtain ⟨i, -, hi⟩ := AR_s this
        exact List.mem_of_getElem? hi
      obtain ⟨dO, dS, dM⟩ := dn_O (bd := bd) x2 a3 xl hstO
      have hS1 := XC1.1.2.2.2.2.2.2
      have cont : ∀ (m : Option (Int32 × hp_H)), CE G c q0 h1 m (rI (dnV vs bd w (st.take (tk w)).reverse).2 (dnV vs bd w (st.take (tk w)).reverse).1, (dnV vs bd w (st.take (tk w)).reverse).2) → ∃ h' st', (m.bind fun q18 => m_E_evaluate_116 G (m_E_evaluate_16 G n) (c + 9) (nI k) q18.1 q18.2) = some (rI (rnV bd (ws.drop k) st vs).2 (rnV bd (ws.drop k) st vs).1, h') ∧ XX G c q0 h' (rnV bd (ws.drop k) st vs).2 ws bd st' ∧ fr c [2, 3, 9, 13, 14, 15, 16] h h' := fun m hm => by
        obtain ⟨h2, m1, m2, m3, m4, m5⟩ := hm
        have XX2 := XX1.s G m2 dO dS m3 m4 m5
        have F02 : fr c [2, 3, 9, 13, 14, 15, 16] h h2 := fr.tr (C1.f.mono (by simp)) (m3.mono (by simp))
        rw [m1, bs, hdr, rnV]
        unfold m_E_evaluate_116
        rw [hp_nmE]
        generalize dnV vs bd w (st.take (tk w)).reverse = D at *
        obtain ⟨r, vs'⟩ := D
        simp only [] at m2 XX2 dO dS dM ⊢
        cases r with
        | none =>
          rw [if_pos (show rI vs' none = -3 from rfl)]
          exact ⟨h2, _, rfl, XX2, F02⟩
        | some ox =>
          have nf : ¬ rI vs' (some ox) = -3 := fun q => by have := (rI_full dO.2.1).mp q; cases this
          obtain ⟨y1, y2, y3, y4, y5, ⟨f2, y6, y7⟩, y8, y9, y10⟩ := id XX2
          have sl : (st.drop (tk w)).length = st.length - tk w := List.length_drop
          rw [if_neg nf, gI_e (k := 8) y3 rfl, bs, if_neg (nI_pos (by omega)), bs, if_neg (show ¬ (100 : Int32) ≤ nI (st.drop (tk w)).length from nI_ge (a := (st.drop (tk w)).length) (b := 100) (by omega) (by decide)), gR_e (k := 4) y3 rfl, bs, bs, sI_e y6 _ (show (st.drop (tk w)).length < 100 by omega) (by decide), bs]
          unfold m_E_evaluate_152
          have T3 : (stC h2 (c + 13) (.inr (true, .int, 100, .inl (upd f2 (st.drop (tk w)).length (rI vs' (some ox)))))).1 (c + 9) = some (.inl (5, eF c (nI ws.length) (st.drop (tk w)).length)) := by rw [stC_n _ _ (by omega)]; exact y3
          rw [gI_e (k := 8) T3 rfl, bs, nI_1, p_e (k := 8) T3 _ (show 8 < 9 by decide), bs, hp_nmE, nI_1]
          have C3 : chg c [9, 13] h2 (stC (stC h2 (c + 13) (.inr (true, .int, 100, .inl (upd f2 (st.drop (tk w)).length (rI vs' (some ox)))))) (c + 9) (.inl (5, (eF c (nI ws.length) (st.drop (tk w)).length).set 8 (.int (nI ((st.drop (tk w)).length + 1)))))) := chg.tr (chg_st (k := 13) _ (by simp)) (chg_st (k := 9) _ (by simp))
          have E3 : (stC (stC h2 (c + 13) (.inr (true, .int, 100, .inl (upd f2 (st.drop (tk w)).length (rI vs' (some ox)))))) (c + 9) (.inl (5, (eF c (nI ws.length) (st.drop (tk w)).length).set 8 (.int (nI ((st.drop (tk w)).length + 1)))))).1 (c + 9) = some (.inl (5, eF c (nI ws.length) (ox :: st.drop (tk w)).length)) := stC_s _ _ _
          have A3 : (stC (stC h2 (c + 13) (.inr (true, .int, 100, .inl (upd f2 (st.drop (tk w)).length (rI vs' (some ox)))))) (c + 9) (.inl (5, (eF c (nI ws.length) (st.drop (tk w)).length).set 8 (.int (nI ((st.drop (tk w)).length + 1)))))).1 (c + 13) = some (.inr (true, .int, 100, .inl (upd f2 (st.drop (tk w)).length (rI vs' (some ox))))) := by rw [stC_n _ _ (by omega), stC_s]
          generalize stC (stC h2 (c + 13) (.inr (true, .int, 100, .inl (upd f2 (st.drop (tk w)).length (rI vs' (some ox)))))) (c + 9) (.inl (5, (eF c (nI ws.length) (st.drop (tk w)).length).set 8 (.int (nI ((st.drop (tk w)).length + 1))))) = h3 at C3 E3 A3
          have XX3 : XX G c q0 h3 vs' ws bd (ox :: st.drop (tk w)) := by
            obtain ⟨yl, fo', fn', v1, v2, v3⟩ := y4
            obtain ⟨fb, b1, b2⟩ := y5
            obtain ⟨L, yR⟩ := y9
            obtain ⟨g, w', a, s, q1, q2⟩ := y10
            refine ⟨y1.c C3 (by simp), y2, E3, ⟨yl, fo', fn', by rw [C3.at 10 (by simp)]; exact v1, by rw [C3.at 11 (by simp)]; exact v2, v3⟩, ⟨fb, by rw [C3.at 12 (by simp)]; exact b1, b2⟩, ⟨_, A3, fun j oy hj => ?_⟩, by rw [List.length_cons]; omega, ⟨L, yR.c C3 (by simp) (by simp)⟩, g, w', a, s, by rw [C3.at 16 (by simp)]; exact q1, q2⟩
            rw [List.reverse_cons] at hj
            by_cases jl : j < (st.drop (tk w)).length
            · rw [List.getElem?_append_left (by rw [List.length_reverse]; exact jl)] at hj
              rw [upd_n _ _ (by omega)]
              exact y7 j oy hj
            · have ej : j = (st.drop (tk w)).length := by
                have := (List.getElem?_eq_some_iff.mp hj).1
                rw [List.length_append, List.length_reverse] at this
                simp at this
                simp
                omega
              rw [List.getElem?_append_right (by rw [List.length_reverse]; omega), List.length_reverse, ej, Nat.sub_self] at hj
              have : oy = ox := by cases hj; rfl
              rw [ej, upd_s, this]
              exact AR_rI (fun x hx => by rw [hx] at dM; exact dM x rfl)
          have key := cl_eval_16 ws bd n (k + 1) h3 vs' (ox :: st.drop (tk w)) (by omega) (by omega) (by rw [List.length_cons]; omega) XX3 (by rw [List.length_cons, sl, show st.length - tk w + 1 = st.length + 1 - tk w by omega]; exact hr)
          obtain ⟨h', st', k1, k2, k3⟩ := key
          exact ⟨h', st', k1, k2, fr.tr F02 (fr.tr (C3.f.mono (by simp)) k3)⟩
      rw [gR_e (k := 1) T1 rfl, bs, aI_e W1 (by omega) (by decide), bs, a1, cl_bears G w.1 (by have := a3.1; omega) h1, bs]
      cases hb : brB w.1 with
      | true =>
        rw [if_neg (show ¬ bI true = 0 by decide), gR_e (k := 1) T1 rfl, bs, aI_e W1 (by omega) (by decide), bs, gR_e (k := 2) T1 rfl, bs, aI_e W2 (by omega) (by decide), bs, a1, a2, vck_e T1]
        exact cont _ (cl_withErrors G XC1 B1 w a3 xl hb)
      | false =>
        have he := cl_hasErr G XC1
        rw [xl] at he
        rw [if_pos (show bI false = 0 from rfl), vck_e T1, he, bs]
        have dv : dnV vs bd w (st.take (tk w)).reverse = match alV (st.take (tk w)).reverse with
          | none => (some none, vs)
          | some ys => kV vs (valL w.1 ys) := by
          have nb : ¬ (w.1 = 0 ∨ w.1 = 1 ∨ w.1 = 2 ∨ w.1 = 4 ∨ w.1 = 5 ∨ w.1 = 22 ∨ w.1 = 23 ∨ w.1 = 24) := fun q => by
            have : brB w.1 = true := by unfold brB; simp; omega
            rw [this] at hb; cases hb
          unfold dnV
          rw [if_neg (by omega), if_neg (by omega), if_neg (by omega), if_neg (by omega), if_neg (by omega), if_neg (by omega), if_neg (by omega), if_neg (by omega)]
          cases alV (st.take (tk w)).reverse <;> rfl
        cases ha : alV (st.take (tk w)).reverse with
        | none =>
          rw [if_neg (show ¬ bI (none : Option (List vV)).isNone = 0 by decide)]
          rw [ha] at dv
          exact cont (some (-4, h1)) (by rw [dv]; exact xc_is G XC1 (Or.inl ⟨rfl, rfl⟩))
        | some ys =>
          rw [if_pos (show bI (some ys).isNone = 0 from rfl), gR_e (k := 1) T1 rfl, bs, aI_e W1 (by omega) (by decide), bs, gR_e (k := 2) T1 rfl, bs, aI_e W2 (by omega) (by decide), bs, a1, a2, vck_e T1]
          rw [ha] at dv
          refine cont _ ?_
          rw [dv]
          exact CE.kV G (cl_onValues G XC1 w a3 xl hb ha)
end
