/-! THE CLASS: gathering -/
def gF (c : Nat) (g : gG) : List Value := [.ref (c + 1), .ref (c + 18), .ref (c + 19), .ref (c + 20), .ref (c + 22), .int (nI g.1), .int (bI g.2.1), .int g.2.2.1, .int (nI g.2.2.2.length)]
def GA (h : hp_H) (a : Nat) (vs : List vV) (its : List Nat) : Prop := ∃ f, h.1 a = some (.inr (true, .int, 500, .inl f)) ∧ ∀ k n, its[k]? = some n → f k = nI n ∧ n ≤ vs.length
def GG (G : Nat → Nat) (c q0 : Nat) (h : hp_H) (vs : List vV) (g : gG) : Prop := ST G c q0 h vs ∧ vsO vs ∧ h.1 (c + 17) = some (.inl (7, gF c g)) ∧ g.1 ≤ 6 ∧ g.2.2.2.length ≤ 500 ∧ (g.1 = 6 → ∃ t, vAt vs g.2.2.1 = some t ∧ t.1 = 5) ∧ GA h (c + 18) vs g.2.2.2 ∧ (∃ f, h.1 (c + 19) = some (.inr (true, .int, 500, .inl f))) ∧ RE h (c + 20) ∧ KE c h 22
section
variable (G : Nat → Nat) {c q0 : Nat} {h : hp_H} {vs : List vV} {g : gG}
theorem GG.k (X : GG G c q0 h vs g) {β : Type} (Y : Option β) : hp_vck h (c + 17) 7 Y = Y := vck_e X.2.2.1 Y
theorem GG.sk (X : GG G c q0 h vs g) {β : Type} (Y : Option β) : hp_vck h (c + 1) 1 Y = Y := vck_e X.1.2.1 Y
theorem GG.g0 (X : GG G c q0 h vs g) : hp_gR h (c + 17) 7 0 = some (c + 1) := gR_e X.2.2.1 rfl
theorem GG.g1 (X : GG G c q0 h vs g) : hp_gR h (c + 17) 7 1 = some (c + 18) := gR_e X.2.2.1 rfl
theorem GG.g2 (X : GG G c q0 h vs g) : hp_gR h (c + 17) 7 2 = some (c + 19) := gR_e X.2.2.1 rfl
theorem GG.g3 (X : GG G c q0 h vs g) : hp_gR h (c + 17) 7 3 = some (c + 20) := gR_e X.2.2.1 rfl
theorem GG.g4 (X : GG G c q0 h vs g) : hp_gR h (c + 17) 7 4 = some (c + 22) := gR_e X.2.2.1 rfl
theorem GG.g5 (X : GG G c q0 h vs g) : hp_gI h (c + 17) 7 5 = some (nI g.1) := gI_e X.2.2.1 rfl
theorem GG.g6 (X : GG G c q0 h vs g) : hp_gI h (c + 17) 7 6 = some (bI g.2.1) := gI_e X.2.2.1 rfl
theorem GG.g7 (X : GG G c q0 h vs g) : hp_gI h (c + 17) 7 7 = some g.2.2.1 := gI_e X.2.2.1 rfl
theorem GG.g8 (X : GG G c q0 h vs g) : hp_gI h (c + 17) 7 8 = some (nI g.2.2.2.length) := gI_e X.2.2.1 rfl
theorem GG.at (X : GG G c q0 h vs g) {k n : Nat} (hk : g.2.2.2[k]? = some n) : hp_aI h .int (c + 18) (nI k) = some (nI n) ∧ n ≤ vs.length ∧ k < 500 := by
  obtain ⟨f, f1, f2⟩ := X.2.2.2.2.2.2.1
  have kl := (List.getElem?_eq_some_iff.mp hk).1
  have h5 := X.2.2.2.2.1
  rw [aI_e f1 (by omega) (by decide), (f2 k n hk).1]
  exact ⟨rfl, (f2 k n hk).2, by omega⟩
theorem gv_vAt {n : Nat} (hn : n ≤ vs.length) (hl : vs.length ≤ 2000) : vAt vs (nI n) = gv vs n := by
  cases n with
  | zero => rfl
  | succ n => rw [vAt_n vs n (by omega)]; rfl
/-- the value of what was gathered at k -/
theorem GG.v (X : GG G c q0 h vs g) {n : Nat} (hn : n ≤ vs.length) : ∃ p, m_S_at G (c + 1) (nI n) h = some (p, h) ∧ VP c h p ((gv vs n).getD vD) := by
  obtain ⟨p, p1, p2⟩ := cl_at G X.1 X.2.1.2.1 (nI n)
  rw [gv_vAt hn X.2.1.2.1] at p2
  exact ⟨p, p1, p2⟩
theorem gv_O (X : GG G c q0 h vs g) {n : Nat} {x : vV} (hx : gv vs n = some x) : vO x ∧ x.2.2.2.2.length ≤ 64 ∧ vW x ∧ x ∈ vs := by
  have : x ∈ vs := by
    cases n with
    | zero => cases hx
    | succ n => exact List.mem_of_getElem? (show vs[n]? = some x from hx)
  have q := X.2.1.2.2 x this
  exact ⟨q.1, q.2, q.1.W q.2, this⟩
theorem GG.cg {h' : hp_H} (X : GG G c q0 h vs g) {K : List Nat} (C : chg c K h h') (hK : ∀ k ∈ K, k ∈ [20, 21, 22]) (R : RE h' (c + 20)) (E : KE c h' 22) : GG G c q0 h' vs g := by
  obtain ⟨x1, x2, x3, x4, x5, x6, ⟨f, x7, x8⟩, ⟨f2, x9⟩, -, -⟩ := X
  have n : ∀ k, k ∈ K → k = 20 ∨ k = 21 ∨ k = 22 := fun k hk => by have := hK k hk; simp at this; omega
  refine ⟨x1.c C (fun k hk => by have := n k hk; omega), x2, ?_, x4, x5, x6, ⟨f, ?_, x8⟩, ⟨f2, ?_⟩, R, E⟩
  · rw [C.at 17 (fun z => by have := n 17 z; omega)]; exact x3
  · rw [C.at 18 (fun z => by have := n 18 z; omega)]; exact x7
  · rw [C.at 19 (fun z => by have := n 19 z; omega)]; exact x9
theorem GG.r {h' : hp_H} (X : GG G c q0 h vs g) {L : List Nat} (C : chg c [20, 21] h h') (R : RR h' (c + 20) L) : GG G c q0 h' vs g := by
  obtain ⟨b, w, a, s, K1, K2⟩ := X.2.2.2.2.2.2.2.2.2
  exact X.cg G C (by simp) ⟨L, R⟩ ⟨b, w, a, s, by rw [C.at 22 (by simp)]; exact K1, K2⟩
theorem GG.q {h' : hp_H} (X : GG G c q0 h vs g) (C : chg c [22] h h') (E : KE c h' 22) : GG G c q0 h' vs g := by
  obtain ⟨L, R⟩ := X.2.2.2.2.2.2.2.2.1
  exact X.cg G C (by simp) ⟨L, R.c C (by simp) (by simp)⟩ E
theorem gK : ∀ j ∈ [20, 21], j < 44 ∧ j ≠ 4 := by simp
/-- what an answer does -/
def CG (G : Nat → Nat) (c q0 : Nat) (h : hp_H) (m : Option (Int32 × hp_H)) (r : Int32 × List vV) : Prop := ∃ h', m = some (r.1, h') ∧ ST G c q0 h' r.2 ∧ fr c [2, 3, 19, 20, 21, 22] h h' ∧ (∃ f, h'.1 (c + 19) = some (.inr (true, .int, 500, .inl f))) ∧ RE h' (c + 20) ∧ KE c h' 22
theorem CG.of {h1 : hp_H} {K : List Nat} {m : Option (Int32 × hp_H)} {r : Int32 × List vV} (C : chg c K h h1) (hK : ∀ k ∈ K, k ∈ [2, 3, 19, 20, 21, 22]) (X : GG G c q0 h1 vs g) (q : CK G c q0 [2, 3] h1 m r) : CG G c q0 h m r := by
  obtain ⟨h', e1, e2, e3⟩ := q
  obtain ⟨f, F⟩ := X.2.2.2.2.2.2.2.1
  obtain ⟨L, R⟩ := X.2.2.2.2.2.2.2.2.1
  obtain ⟨b, w, a, s, E1, E2⟩ := X.2.2.2.2.2.2.2.2.2
  refine ⟨h', e1, e2, ?_, ⟨f, ?_⟩, ⟨L, R.f e3 (by decide) (by simp) (by simp)⟩, b, w, a, s, ?_, E2⟩
  · exact fr.tr (C.f.mono hK) (e3.mono (by simp))
  · rw [e3.at 19 (by decide) (by simp)]; exact F
  · rw [e3.at 22 (by decide) (by simp)]; exact E1
theorem CG.same (X : GG G c q0 h vs g) (a : Int32) : CG G c q0 h (some (a, h)) (a, vs) := CG.of G (K := []) chg.rf (by simp) X ⟨h, rfl, X.1, fr.rf⟩
theorem cl_isThere_2 (X : GG G c q0 h vs g) (v : Nat) (hv : v < 2 ^ 31) : ∀ (n i : Nat), g.2.2.2.length - i < n → i ≤ g.2.2.2.length → v ∉ g.2.2.2.take i → m_G_isThere_2 G n (c + 17) (nI v) (nI i) h = some (bI (g.2.2.2.contains v), h)
  | 0, i, hn, _, _ => by omega
  | n + 1, i, hn, hi, hz => by
    have h5 := X.2.2.2.2.1
    have hl := X.2.1.2.1
    rw [m_G_isThere_2, X.g8, bs]
    simp only [nI_leI (show g.2.2.2.length < 2 ^ 31 by omega) (show i < 2 ^ 31 by omega)]
    by_cases e : g.2.2.2.length ≤ i
    · rw [List.take_of_length_le e] at hz
      have : g.2.2.2.contains v = false := by simpa using hz
      rw [if_pos e, this]; rfl
    · obtain ⟨m, hm⟩ : ∃ m, g.2.2.2[i]? = some m := ⟨_, List.getElem?_eq_getElem (by omega)⟩
      obtain ⟨a1, a2, a3⟩ := X.at G hm
      rw [if_neg e, if_neg (show ¬ (500 : Int32) ≤ nI i from nI_ge (a := i) (b := 500) (by omega) (by decide)), X.g1, bs, a1, bs]
      simp only [nI_eq (show m < 2 ^ 31 by omega) hv]
      by_cases q : m = v
      · have : g.2.2.2.contains v = true := by rw [← q]; simpa using List.mem_of_getElem? hm
        rw [if_pos q, this]; rfl
      · rw [if_neg q, hp_nmE, nI_1]
        refine cl_isThere_2 X v hv n (i + 1) (by omega) (by omega) (fun z => ?_)
        rw [List.take_succ, hm] at z
        rcases List.mem_append.mp z with z | z
        · exact hz z
        · simp at z; exact q z.symm
theorem cl_isThere (X : GG G c q0 h vs g) (v : Nat) (hv : v < 2 ^ 31) : m_G_isThere G (c + 17) (nI v) h = some (bI (g.2.2.2.contains v), h) := by
  have h5 := X.2.2.2.2.1
  unfold m_G_isThere
  rw [hp_nmE]
  exact cl_isThere_2 G X v hv hp_fu 0 (by unfold hp_fu; omega) (by omega) (by rw [List.take_zero]; exact fun q => by cases q)
theorem cl_take (X : GG G c q0 h vs g) (v : Int32) : ∃ h', m_G_take G (c + 17) v h = some ((addV vs g v).1, h') ∧ GG G c q0 h' vs (addV vs g v).2 ∧ chg c [17, 18] h h' := by
  have h5 := X.2.2.2.2.1
  have hl := X.2.1.2.1
  unfold m_G_take m_G_take_15 addV
  by_cases v0 : v < 0
  · rw [if_pos v0, if_neg (fun q => by
      rcases q with q | q
      · rw [q] at v0; exact absurd v0 (by decide)
      · have : vAt vs v = none := by unfold vAt; rw [if_neg (fun z => by rw [Int32.lt_iff_toInt_lt] at z v0; omega)]
        rw [this] at q; cases q)]
    exact ⟨h, rfl, X, chg.rf⟩
  · obtain ⟨n, hn, rfl⟩ := nI_of v0
    rw [if_neg v0, X.g0, bs, X.sk, cl_count G X.1, bs]
    simp only [nI_leI hn (show vs.length < 2 ^ 31 by omega)]
    rw [nI_clamp hn]
    by_cases q : n ≤ vs.length
    · have ok : nI n = 0 ∨ (vAt vs (nI n)).isSome = true := by
        cases n with
        | zero => exact Or.inl rfl
        | succ n => right; rw [vAt_n vs n (by omega), List.getElem?_eq_getElem (by omega)]; rfl
      rw [if_pos q, if_pos ok]
      have put : ∃ h', m_G_take_37 G (c + 17) (nI n) h = some ((if g.2.2.2.length = 500 then ((-3 : Int32), g) else (nI (g.2.2.2.length + 1), (g.1, g.2.1, g.2.2.1, g.2.2.2 ++ [n]))).1, h') ∧ GG G c q0 h' vs (if g.2.2.2.length = 500 then ((-3 : Int32), g) else (nI (g.2.2.2.length + 1), (g.1, g.2.1, g.2.2.1, g.2.2.2 ++ [n]))).2 ∧ chg c [17, 18] h h' := by
        unfold m_G_take_37
        rw [X.g8, bs, show (500 : Int32) = nI 500 from rfl]
        simp only [nI_ltI (show g.2.2.2.length < 2 ^ 31 by omega) (show 500 < 2 ^ 31 by decide)]
        by_cases f : g.2.2.2.length = 500
        · rw [if_neg (by omega), if_pos f]; exact ⟨h, rfl, X, chg.rf⟩
        · have lt5 : g.2.2.2.length < 500 := by omega
          obtain ⟨x1, x2, x3, x4, x5, x6, ⟨fg, x7, x8⟩, x9, ⟨L, xR⟩, ⟨b, w, a, s, K1, K2⟩⟩ := id X
          rw [if_pos lt5, if_neg f, X.g1, bs, bs, sI_e x7 (nI n) lt5 (by decide), bs]
          have T1 : (stC h (c + 18) (.inr (true, .int, 500, .inl (upd fg g.2.2.2.length (nI n))))).1 (c + 17) = some (.inl (7, gF c g)) := by rw [stC_n _ _ (by omega)]; exact x3
          rw [gI_e (k := 8) T1 rfl, bs, p_e (k := 8) T1 _ (show 8 < 9 by decide), bs]
          have C1 : chg c [17, 18] h (stC (stC h (c + 18) (.inr (true, .int, 500, .inl (upd fg g.2.2.2.length (nI n))))) (c + 17) (.inl (7, (gF c g).set 8 (.int (nI g.2.2.2.length + 1))))) := chg.tr (chg_st (k := 18) _ (by simp)) (chg_st (k := 17) _ (by simp))
          have T2 : (stC (stC h (c + 18) (.inr (true, .int, 500, .inl (upd fg g.2.2.2.length (nI n))))) (c + 17) (.inl (7, (gF c g).set 8 (.int (nI g.2.2.2.length + 1))))).1 (c + 17) = some (.inl (7, gF c (g.1, g.2.1, g.2.2.1, g.2.2.2 ++ [n]))) := by
            rw [stC_s]
            refine congrArg (fun l => some (Sum.inl (7, l))) ?_
            show _ = [Value.ref (c + 1), .ref (c + 18), .ref (c + 19), .ref (c + 20), .ref (c + 22), .int (nI g.1), .int (bI g.2.1), .int g.2.2.1, .int (nI (g.2.2.2 ++ [n]).length)]
            rw [List.length_append, nI_1]; rfl
          have T3 : (stC (stC h (c + 18) (.inr (true, .int, 500, .inl (upd fg g.2.2.2.length (nI n))))) (c + 17) (.inl (7, (gF c g).set 8 (.int (nI g.2.2.2.length + 1))))).1 (c + 18) = some (.inr (true, .int, 500, .inl (upd fg g.2.2.2.length (nI n)))) := by rw [stC_n _ _ (by omega), stC_s]
          generalize stC (stC h (c + 18) (.inr (true, .int, 500, .inl (upd fg g.2.2.2.length (nI n))))) (c + 17) (.inl (7, (gF c g).set 8 (.int (nI g.2.2.2.length + 1)))) = h2 at C1 T2 T3
          have g8 : hp_gI h2 (c + 17) 7 8 = some (nI (g.2.2.2.length + 1)) := by
            rw [gI_e (k := 8) T2 rfl]
            show some (nI (g.2.2.2 ++ [n]).length) = _
            rw [List.length_append]; rfl
          rw [g8, bs]
          refine ⟨h2, rfl, ⟨x1.c C1 (by simp), x2, T2, x4, ?_, x6, ⟨_, T3, fun k m hk => ?_⟩, ?_, ⟨L, xR.c C1 (by simp) (by simp)⟩, b, w, a, s, ?_, K2⟩, C1⟩
          · show (g.2.2.2 ++ [n]).length ≤ 500
            rw [List.length_append]; exact lt5
          · clear x6
            have hk : (g.2.2.2 ++ [n])[k]? = some m := hk
            by_cases kl : k < g.2.2.2.length
            · rw [List.getElem?_append_left kl] at hk
              rw [upd_n _ _ (by omega)]
              exact x8 k m hk
            · have ek : k = g.2.2.2.length := by
                have := (List.getElem?_eq_some_iff.mp hk).1
                rw [List.length_append] at this
                simp at this
                omega
              subst ek
              rw [List.getElem?_append_right (Nat.le_refl _), Nat.sub_self] at hk
              cases hk
              rw [upd_s]
              exact ⟨rfl, q⟩
          · obtain ⟨f2, x9⟩ := x9
            exact ⟨f2, by rw [C1.at 19 (by simp)]; exact x9⟩
          · rw [C1.at 22 (by simp)]; exact K1
      rw [X.g6, bs]
      cases ho : g.2.1 with
      | false =>
        rw [if_pos (show bI false = 0 from rfl), Bool.false_and, if_neg (show ¬ false = true by decide)]
        rw [ho] at put
        exact put
      | true =>
        rw [if_neg (show ¬ bI true = 0 by decide), X.k, cl_isThere G X n hn, bs, Bool.true_and, X.g8, bs]
        cases hc : g.2.2.2.contains n with
        | false =>
          rw [if_pos (show bI false = 0 from rfl), if_neg (show ¬ false = true by decide)]
          rw [ho] at put
          exact put
        | true =>
          rw [if_neg (show ¬ bI true = 0 by decide), if_pos (show true = true from rfl)]
          exact ⟨h, rfl, X, chg.rf⟩
    · have no : ¬ (nI n = 0 ∨ (vAt vs (nI n)).isSome = true) := fun z => by
        rcases z with z | z
        · exact nI_ne0 (show 0 < n by omega) hn z
        · cases n with
          | zero => omega
          | succ n => rw [vAt_n vs n (by omega), List.getElem?_eq_none (by omega)] at z; cases z
      rw [if_neg q, if_neg no]
      exact ⟨h, rfl, X, chg.rf⟩
theorem cl_restart (X : GG G c q0 h vs g) (w : Int32) (e : Bool) (t : Int32) : ∃ h', m_G_restart G (c + 17) w (bI e) t h = some ((gaV vs g w e t).1, h') ∧ GG G c q0 h' vs (gaV vs g w e t).2 ∧ chg c [17] h h' := by
  have hl := X.2.1.2.1
  unfold m_G_restart m_G_restart_10 gaV
  by_cases w0 : w < 0
  · rw [if_pos w0, if_neg (fun q => q.1 w0)]; exact ⟨h, rfl, X, chg.rf⟩
  · obtain ⟨n, hn, rfl⟩ := nI_of w0
    rw [if_neg w0]
    by_cases w6 : 6 < nI n
    · rw [if_neg (fun z => by rw [Int32.lt_iff_toInt_lt] at w6; rw [Int32.le_iff_toInt_le] at z; omega), if_neg (fun q => q.2.1 w6)]; exact ⟨h, rfl, X, chg.rf⟩
    · have n6 : n ≤ 6 := Nat.le_of_not_lt (fun q => w6 (nI_lt (a := 6) q hn))
      rw [if_pos (show nI n ≤ 6 from nI_le (b := 6) n6 (by decide)), nI_clamp hn]
      have set_ : (n = 6 → ∃ x, vAt vs t = some x ∧ x.1 = 5) → ∃ h', m_G_restart_35 G (c + 17) (nI n) (bI e) t h = some ((0, (n, e, t, ([] : List Nat))).1, h') ∧ GG G c q0 h' vs (n, e, t, []) ∧ chg c [17] h h' := fun h6 => by
        obtain ⟨x1, x2, x3, x4, x5, x6, ⟨fg, x7, x8⟩, x9, ⟨L, xR⟩, ⟨b, w, a, s, K1, K2⟩⟩ := id X
        unfold m_G_restart_35
        rw [p_e (k := 5) x3 _ (show 5 < 9 by decide), bs, pZ_e (k := 6) (stC_s _ _ _) e (by simp [gF]), bs, stC_c, p_e (k := 7) (stC_s _ _ _) _ (by simp [gF]), bs, stC_c, p_e (k := 8) (stC_s _ _ _) _ (by simp [gF]), bs, stC_c]
        refine ⟨_, rfl, ?_, chg_st (k := 17) _ (by simp)⟩
        have C1 : chg c [17] h (stC h (c + 17) (.inl (7, gF c (n, e, t, [])))) := chg_st (k := 17) _ (by simp)
        have T1 : (stC h (c + 17) (.inl (7, gF c (n, e, t, [])))).1 (c + 17) = some (.inl (7, gF c (n, e, t, []))) := stC_s _ _ _
        show GG G c q0 (stC h (c + 17) (.inl (7, gF c (n, e, t, [])))) vs (n, e, t, [])
        generalize stC h (c + 17) (.inl (7, gF c (n, e, t, []))) = h2 at C1 T1
        refine ⟨x1.c C1 (by simp), x2, T1, n6, by show ([] : List Nat).length ≤ 500; decide, h6, ⟨fg, by rw [C1.at 18 (by simp)]; exact x7, fun k m hk => by cases hk⟩, ?_, ⟨L, xR.c C1 (by simp) (by simp)⟩, b, w, a, s, by rw [C1.at 22 (by simp)]; exact K1, K2⟩
        obtain ⟨f2, x9⟩ := x9
        exact ⟨f2, by rw [C1.at 19 (by simp)]; exact x9⟩
      by_cases e6 : n = 6
      · rw [if_pos ((ie_6 hn).mpr e6), X.g0, bs, X.sk]
        obtain ⟨p, p1, p2⟩ := cl_at G X.1 hl t
        rw [p1, bs, p2.g0, bs]
        cases z : vAt vs t with
        | none =>
          rw [if_neg (show ¬ nI ((none : Option vV).getD vD).1 = 5 by decide), if_neg (fun q => by have := q.2.2 ((ie_6 hn).mpr e6); cases this)]
          exact ⟨h, rfl, X, chg.rf⟩
        | some x =>
          have xb : x.1 < 2 ^ 31 := by
            obtain ⟨i, -, hx⟩ := vAt_some z
            have := (X.2.1.2.2 x (List.mem_of_getElem? hx)).1.2.1
            omega
          by_cases x5 : x.1 = 5
          · rw [if_pos (show nI ((some x).getD vD).1 = 5 from (ie_5 xb).mpr x5), if_pos ⟨w0, w6, fun _ => by show some (x.1 == 5) = some true; rw [x5]; rfl⟩]
            exact set_ (fun _ => ⟨x, z, x5⟩)
          · rw [if_neg (show ¬ nI ((some x).getD vD).1 = 5 from fun q => x5 ((ie_5 xb).mp q)), if_neg (fun q => by
              have := q.2.2 ((ie_6 hn).mpr e6)
              have := Option.some.inj (show some (x.1 == 5) = some true from this)
              exact x5 (by simpa using this))]
            exact ⟨h, rfl, X, chg.rf⟩
      · rw [if_neg (fun q => e6 ((ie_6 hn).mp q)), if_pos ⟨w0, w6, fun q => absurd ((ie_6 hn).mp q) e6⟩]
        exact set_ (fun q => absurd q e6)
end
