/-! word, begin, bind, text -/
def wordV (ws : List (Nat × Int32)) (o a : Int32) : Int32 × List (Nat × Int32) := if ¬ o < 0 ∧ ¬ 41 < o ∧ ((o = 23 ∨ o = 24 ∨ o = 29) → ¬ 20 < a ∧ ¬ a < 0) ∧ (o = 23 → a ≠ 0) then (if ws.length = 100 then (-3, ws) else (nI (ws.length + 1), ws ++ [(o.toNatClampNeg, a)])) else (-1, ws)
theorem rm_word_50 (G : Nat → Nat) (o : Nat) (h : hp_H) (S : lm_S) (ws : List (Nat × Int32)) (k : Nat) (a : Int32) (hW : rm_W S ws) (hw : wO (k, a)) : ∃ S', m_M_word_50 G o (nI k) a (lm_w o h S) = some ((if ws.length = 100 then ((-3 : Int32), ws) else (nI (ws.length + 1), ws ++ [(k, a)])).1, lm_w o h S') ∧ rm_W S' (if ws.length = 100 then ((-3 : Int32), ws) else (nI (ws.length + 1), ws ++ [(k, a)])).2 ∧ (∀ i, i ≠ 22 → S'.1 i = S.1 i) ∧ ∀ j, j ≠ 14 → j ≠ 15 → S'.2 j = S.2 j := by
  obtain ⟨h1, h2, h3⟩ := id hW
  unfold m_M_word_50
  simp only [lm_g22, h1, bs, ie_100 (show ws.length < 2 ^ 31 by omega)]
  by_cases c : ws.length = 100
  · rw [if_pos c, if_pos c]; exact ⟨S, rfl, hW, fun _ _ => rfl, fun _ _ _ => rfl⟩
  · rw [if_neg c, if_neg c]
    have l14 := lm_s14 o h S ws.length (nI k) (by omega)
    have l15 := lm_s15 o h (S.1, lm_up S.2 14 (upd (S.2 14) ws.length (nI k))) ws.length a (by omega)
    simp only [lm_g20, lm_g21, lm_g22, l14, l15, h1, bs, lm_p22, nI_1, upd_s]
    refine ⟨_, rfl, ⟨?_, ?_, ?_⟩, fun i hi => upd_n _ _ hi, fun j j1 j2 => ?_⟩
    · simp only [upd_s, List.length_append]; rfl
    · rw [List.length_append]; show ws.length + 1 ≤ 100; omega
    · intro i w hi
      simp (disch := omega) only [lm_ups, lm_upn]
      by_cases ci : i < ws.length
      · rw [List.getElem?_append_left ci] at hi
        rw [upd_n _ _ (by omega), upd_n _ _ (by omega)]
        exact h3 i w hi
      · have ei : i = ws.length := by
          have := (List.getElem?_eq_some_iff.mp hi).1
          rw [List.length_append] at this
          simp at this
          omega
        subst ei
        rw [List.getElem?_append_right (Nat.le_refl _), Nat.sub_self] at hi
        cases hi
        rw [upd_s, upd_s]
        exact ⟨rfl, rfl, hw⟩
    · simp only [lm_upn _ _ j1, lm_upn _ _ j2]
theorem rm_word (G : Nat → Nat) (o : Nat) (h : hp_H) (S : lm_S) (ws : List (Nat × Int32)) (k a : Int32) (hW : rm_W S ws) : ∃ S', m_M_word G o k a (lm_w o h S) = some ((wordV ws k a).1, lm_w o h S') ∧ rm_W S' (wordV ws k a).2 ∧ (∀ i, i ≠ 22 → S'.1 i = S.1 i) ∧ ∀ j, j ≠ 14 → j ≠ 15 → S'.2 j = S.2 j := by
  have no : ∃ S', some (-1, lm_w o h S) = some ((-1 : Int32), lm_w o h S') ∧ rm_W S' ws ∧ (∀ i, i ≠ 22 → S'.1 i = S.1 i) ∧ ∀ j, j ≠ 14 → j ≠ 15 → S'.2 j = S.2 j := ⟨S, rfl, hW, fun _ _ => rfl, fun _ _ _ => rfl⟩
  unfold m_M_word m_M_word_28 m_M_word_38 m_M_word_48 wordV
  by_cases c0 : k < 0
  · rw [if_pos c0, if_neg (fun q => q.1 c0)]; exact no
  · rw [if_neg c0]
    by_cases c41 : 41 < k
    · rw [if_pos c41, if_neg (fun q => q.2.1 c41)]; exact no
    · rw [if_neg c41]
      obtain ⟨j, hj, rfl⟩ := nI_of c0
      have j41 : j ≤ 41 := Nat.le_of_not_lt fun q => c41 (nI_lt (a := 41) q hj)
      rw [nI_clamp hj]
      simp only [ie_23 hj, ie_24 hj, ie_29 hj]
      have sm : ¬ 20 < a → ¬ a < 0 → ∃ m : Nat, m ≤ 20 ∧ a = nI m := fun q1 q2 => by
        obtain ⟨m, hm, e⟩ := nI_of q2
        exact ⟨m, Nat.le_of_not_lt fun q => q1 (by rw [e]; exact nI_lt (a := 20) q hm), e⟩
      have yes := fun hw => rm_word_50 G o h S ws j a hW hw
      by_cases c23 : j = 23
      · rw [if_pos c23]
        by_cases a20 : 20 < a
        · rw [if_pos a20, if_neg (fun q => (q.2.2.1 (Or.inl c23)).1 a20)]; exact no
        · rw [if_neg a20]
          by_cases a0 : a < 0
          · rw [if_pos a0, if_neg (fun q => (q.2.2.1 (Or.inl c23)).2 a0)]; exact no
          · rw [if_neg a0, if_pos c23]
            by_cases az : a = 0
            · rw [if_pos az, if_neg (fun q => q.2.2.2 c23 az)]; exact no
            · rw [if_neg az, if_pos ⟨c0, c41, fun _ => ⟨a20, a0⟩, fun _ => az⟩]
              obtain ⟨m, hm, e⟩ := sm a20 a0
              exact yes ⟨j41, fun _ => ⟨m, hm, e, fun _ => Nat.pos_of_ne_zero (fun q => az (by rw [e, q]; rfl))⟩⟩
      · rw [if_neg c23]
        by_cases c24 : j = 24
        · rw [if_pos c24]
          by_cases a20 : 20 < a
          · rw [if_pos a20, if_neg (fun q => (q.2.2.1 (Or.inr (Or.inl c24))).1 a20)]; exact no
          · rw [if_neg a20]
            by_cases a0 : a < 0
            · rw [if_pos a0, if_neg (fun q => (q.2.2.1 (Or.inr (Or.inl c24))).2 a0)]; exact no
            · rw [if_neg a0, if_neg c23, if_pos ⟨c0, c41, fun _ => ⟨a20, a0⟩, fun q => absurd q c23⟩]
              obtain ⟨m, hm, e⟩ := sm a20 a0
              exact yes ⟨j41, fun _ => ⟨m, hm, e, fun q => absurd q c23⟩⟩
        · rw [if_neg c24]
          by_cases c29 : j = 29
          · rw [if_pos c29]
            by_cases a20 : 20 < a
            · rw [if_pos a20, if_neg (fun q => (q.2.2.1 (Or.inr (Or.inr c29))).1 a20)]; exact no
            · rw [if_neg a20]
              by_cases a0 : a < 0
              · rw [if_pos a0, if_neg (fun q => (q.2.2.1 (Or.inr (Or.inr c29))).2 a0)]; exact no
              · rw [if_neg a0, if_neg c23, if_pos ⟨c0, c41, fun _ => ⟨a20, a0⟩, fun q => absurd q c23⟩]
                obtain ⟨m, hm, e⟩ := sm a20 a0
                exact yes ⟨j41, fun _ => ⟨m, hm, e, fun q => absurd q c23⟩⟩
          · rw [if_neg c29, if_neg c23, if_pos ⟨c0, c41, fun q => by omega, fun q => absurd q c23⟩]
            exact yes ⟨j41, fun q => by exfalso; have q : j = 23 ∨ j = 24 ∨ j = 29 := q; omega⟩
theorem rm_begin (G : Nat → Nat) (o : Nat) (h : hp_H) (S : lm_S) (ws : List (Nat × Int32)) (hW : rm_W S ws) : ∃ S', m_M_begin G o (lm_w o h S) = some (nI ws.length, lm_w o h S') ∧ rm_W S' [] ∧ (∀ i, i ≠ 22 → S'.1 i = S.1 i) ∧ S'.2 = S.2 := by
  unfold m_M_begin
  simp only [lm_g22, hW.1, bs, hp_nmE, lm_p22]
  exact ⟨_, rfl, ⟨by simp only [upd_s]; rfl, by decide, fun k w hk => by cases hk⟩, fun i hi => upd_n _ _ hi, rfl⟩
def bdU (bd : Nat → Nat) (k v : Nat) : Nat → Nat := fun j => if j = k then v else bd j
def bindV (vs : List vV) (bd : Nat → Nat) (k v : Int32) : Bool × (Nat → Nat) := if ¬ k < 0 ∧ ¬ 9 < k ∧ ¬ v < 0 ∧ v ≤ nI vs.length then (true, bdU bd k.toNatClampNeg v.toNatClampNeg) else (false, bd)
theorem rm_bind (G : Nat → Nat) (o : Nat) (h : hp_H) (S : lm_S) (vs : List vV) (bd : Nat → Nat) (k v : Int32) (hA : rm_A S vs) (hB : ∀ k, k < 10 → S.2 16 k = nI (bd k) ∧ bd k ≤ vs.length) : ∃ S', m_M_bind G o k v (lm_w o h S) = some (bI (bindV vs bd k v).1, lm_w o h S') ∧ (∀ j, j < 10 → S'.2 16 j = nI ((bindV vs bd k v).2 j) ∧ (bindV vs bd k v).2 j ≤ vs.length) ∧ S'.1 = S.1 ∧ ∀ j, j ≠ 16 → S'.2 j = S.2 j := by
  have no : ∃ S', some ((0 : Int32), lm_w o h S) = some (bI false, lm_w o h S') ∧ (∀ j, j < 10 → S'.2 16 j = nI (bd j) ∧ bd j ≤ vs.length) ∧ S'.1 = S.1 ∧ ∀ j, j ≠ 16 → S'.2 j = S.2 j := ⟨S, rfl, hB, rfl, fun _ _ => rfl⟩
  have hz0 : hp_z 0 (lm_w o h S) = some ((0 : Int32), lm_w o h S) := rfl
  unfold m_M_bind m_M_bind_22 bindV
  rw [hz0]
  by_cases c0 : k < 0
  · rw [if_pos c0, if_neg (fun q => q.1 c0)]; exact no
  · rw [if_neg c0]
    by_cases c9 : 9 < k
    · rw [if_pos c9, if_neg (fun q => q.2.1 c9)]; exact no
    · rw [if_neg c9]
      by_cases v0 : v < 0
      · rw [if_pos v0, if_neg (fun q => q.2.2.1 v0)]; exact no
      · rw [if_neg v0]
        simp only [lm_g0, hA.1, bs]
        by_cases vl : v ≤ nI vs.length
        · rw [if_pos vl, if_pos ⟨c0, c9, v0, vl⟩]
          obtain ⟨j, hj, rfl⟩ := nI_of c0
          obtain ⟨i, hi, rfl⟩ := nI_of v0
          have j10 : j < 10 := Nat.lt_of_not_le fun q => c9 (nI_lt (a := 9) q hj)
          have l := hA.2.1
          have il : i ≤ vs.length := (nI_leI hi (by omega)).mp vl
          have l16 := lm_s16 o h S j (nI i) j10
          simp only [lm_g23, l16, bs, nI_clamp hj, nI_clamp hi]
          refine ⟨_, rfl, fun q hq => ?_, rfl, fun q hq => lm_upn _ _ hq⟩
          simp only [lm_ups, bdU]
          by_cases e : q = j
          · subst e; rw [upd_s, if_pos rfl]; exact ⟨rfl, il⟩
          · rw [upd_n _ _ e, if_neg e]; exact hB q hq
        · rw [if_neg vl, if_neg (fun q => vl q.2.2.2)]; exact no
/-! text -/
theorem rm_start_any (G : Nat → Nat) (o : Nat) (h : hp_H) (S : lm_S) (k e : Int32) : ∃ S', m_M_start G o k e (lm_w o h S) = some ((), lm_w o h S') ∧ S'.1 10 = k ∧ S'.1 11 = e ∧ S'.1 12 = 0 ∧ S'.1 13 = 0 ∧ (∀ j, j < 18 → S'.2 9 j = 0) ∧ rm_L S' [] ∧ lm_F [10, 11, 12, 13, 16] [9] S S' := by
  unfold m_M_start
  simp only [lm_p10, lm_p11, lm_p12, lm_p13, bs, hp_nmE]
  obtain ⟨S', e1, e2, e3, e4⟩ := rm_start_22 G o h hp_fu 0 (upd (upd (upd (upd S.1 10 k) 11 e) 12 0) 13 0, S.2) (by decide) (by decide) (fun j hj => absurd hj (Nat.not_lt_zero j))
  refine ⟨S', e1, ?_, ?_, ?_, ?_, e2, ⟨?_, fun k hk => absurd hk (Nat.not_lt_zero k), by decide⟩, ?_, ?_⟩
  · rw [e3]; rfl
  · rw [e3]; rfl
  · rw [e3]; rfl
  · rw [e3]; rfl
  · rw [e3]; rfl
  · intro i hi
    rw [e3]
    simp only [List.mem_cons, List.not_mem_nil, or_false, not_or] at hi
    obtain ⟨h1, h2, h3, h4, h5⟩ := hi
    simp only [upd_n _ _ h5, upd_n _ _ h4, upd_n _ _ h3, upd_n _ _ h2, upd_n _ _ h1]
  · intro j hj
    simp only [List.mem_cons, List.not_mem_nil, or_false] at hj
    exact e4 j hj
def okB (b : Nat) : Bool := decide (0 < b ∧ b < 128)
/-- all but the tape's length stays -/
def fT (S S' : lm_S) : Prop := (S'.1 22 = S.1 22 ∧ S'.1 26 = S.1 26 ∧ S'.1 27 = S.1 27 ∧ S'.1 28 = S.1 28 ∧ S'.1 29 = S.1 29) ∧ S'.2 14 = S.2 14 ∧ S'.2 15 = S.2 15 ∧ S'.2 16 = S.2 16 ∧ S'.2 17 = S.2 17 ∧ S'.2 18 = S.2 18
theorem fS.t {S S' : lm_S} (q : fS S S') : fT S S' := ⟨q.1.2, q.2.2⟩
theorem fT.tr {S S' S'' : lm_S} (h1 : fT S S') (h2 : fT S' S'') : fT S S'' := by
  obtain ⟨⟨a2, a3, a4, a5, a6⟩, b2, b3, b4, b5, b6⟩ := h1
  obtain ⟨⟨c2, c3, c4, c5, c6⟩, d2, d3, d4, d5, d6⟩ := h2
  exact ⟨⟨c2.trans a2, c3.trans a3, c4.trans a4, c5.trans a5, c6.trans a6⟩, d2.trans b2, d3.trans b3, d4.trans b4, d5.trans b5, d6.trans b6⟩
def txV (vs : List vV) (T : List Nat) (k e : Int32) (g : Bool) : Int32 × List vV := if g && T.all okB then kp vs (k.toNatClampNeg, e.toNatClampNeg, 0, 0, T) else (-1, vs)
theorem rm_text_54 (G : Nat → Nat) (o : Nat) (h : hp_H) (S0 : lm_S) (vs : List vV) (T : List Nat) (k e : Int32) (g0 : Bool) (hg0 : g0 = true → ∃ k' e' : Nat, k' ≤ 8 ∧ e' ≤ 9999 ∧ k = nI k' ∧ e = nI e') : ∀ (n i : Nat) (S : lm_S) (g : Bool), i ≤ T.length → T.length - i < n → rm_A S vs → rm_T S T → fT S0 S → S.1 10 = k → S.1 11 = e → S.1 12 = 0 → S.1 13 = 0 → (∀ j, j < 18 → S.2 9 j = 0) → rm_L S (T.take i) → g = (g0 && (T.take i).all okB) → ∃ S', m_M_text_54 G n o (bI g) (nI i) (lm_w o h S) = some ((txV vs T k e g0).1, lm_w o h S') ∧ rm_A S' (txV vs T k e g0).2 ∧ S'.1 9 = 0 ∧ fT S0 S'
  | 0, i, S, g, _, hn, _, _, _, _, _, _, _, _, _, _ => by omega
  | n + 1, i, S, g, hi, hn, hA, hT, hS, q10, q11, q12, q13, q9, hL, hg => by
    obtain ⟨t1, t2, t3, t4⟩ := id hT
    rw [m_M_text_54]
    unfold m_M_text_130
    simp only [lm_g9, t1, bs, nI_leI (show T.length < 2 ^ 31 by omega) (show i < 2 ^ 31 by omega), lm_p9, lm_vck, bq]
    by_cases c : T.length ≤ i
    · rw [if_pos c]
      rw [List.take_of_length_le c] at hL hg
      unfold txV
      rw [← hg]
      have hA1 : rm_A (upd S.1 9 0, S.2) vs := hA.keep (by simp (disch := omega) only [upd_n]) (fun _ _ _ => rfl)
      have hS1 : fT S0 (upd S.1 9 0, S.2) := by
        refine hS.tr ?_
        simp (disch := omega) only [fT, upd_n, and_self]
      cases g with
      | false =>
        rw [if_pos (show bI false = 0 from rfl), if_neg (show ¬ false = true by decide)]
        exact ⟨_, rfl, hA1, by simp only [upd_s], hS1⟩
      | true =>
        rw [if_neg (show ¬ bI true = 0 by decide), if_pos (show true = true from rfl)]
        obtain ⟨g1, g2⟩ := Bool.and_eq_true_iff.mp hg.symm
        obtain ⟨k', e', hk', he', ek, ee⟩ := hg0 g1
        have hb : ∀ b ∈ T, b < 128 := fun b hb => (of_decide_eq_true (List.all_eq_true.mp g2 b hb)).2
        obtain ⟨S2, f1, f2, f3⟩ := rm_keep G o h (upd S.1 9 0, S.2) vs (k', e', 0, 0, T) hA1 ⟨by simp (disch := omega) only [upd_n]; rw [q10, ek], by simp (disch := omega) only [upd_n]; rw [q11, ee], by simp (disch := omega) only [upd_n]; rw [q12]; rfl, by simp (disch := omega) only [upd_n]; rw [q13]; rfl, by simp (disch := omega) only [upd_n]; exact hL.1, fun j hj => by show S.2 9 j = nI (dg 0 j); rw [q9 j hj, dg_zero]; rfl, hL.2.1⟩ (by show T.length < _; omega) (fun hl => ⟨hk', he', by show (0 : Int).natAbs < _; decide, Nat.zero_le _, hl, hb⟩)
        rw [ek, ee, nI_clamp (by omega), nI_clamp (by omega)]
        refine ⟨S2, f1, f2, ?_, hS1.tr f3.t⟩
        rw [f3.1.1]; simp only [upd_s]
    · rw [if_neg c]
      have l8 := lm_a8 o h S i (by omega)
      rw [t3 i (by omega)] at l8
      have bi : T.getD i 0 < 256 := t4 _ (by rw [List.getD_eq_getElem?_getD, List.getElem?_eq_getElem (by omega)]; exact List.getElem_mem _)
      have htk : T.take (i + 1) = T.take i ++ [T.getD i 0] := by
        rw [List.take_succ, List.getD_eq_getElem?_getD, List.getElem?_eq_getElem (by omega)]; rfl
      obtain ⟨S1, e1, e2, e3⟩ := rm_letter G o h S (T.take i) (T.getD i 0) hL (by rw [List.length_take]; omega)
      rw [← htk] at e3
      unfold m_M_text_94 m_M_text_95
      simp only [hp_nmE, lm_g8, l8, bs, e1, lm_vck, nI_1, il_128, nI_leI (show 128 < 2 ^ 31 by decide) (show T.getD i 0 < 2 ^ 31 by omega)]
      have nxt := fun g' (hg' : g' = (g0 && (T.take (i + 1)).all okB)) => rm_text_54 G o h S0 vs T k e g0 hg0 n (i + 1) S1 g' (by omega) (by omega) (e2.A hA) ⟨by rw [e2.1 9 (by decide)]; exact t1, t2, fun j hj => by rw [e2.2 8 (by decide)]; exact t3 j hj, t4⟩ (hS.tr e2.f.t) (by rw [e2.1 10 (by decide)]; exact q10) (by rw [e2.1 11 (by decide)]; exact q11) (by rw [e2.1 12 (by decide)]; exact q12) (by rw [e2.1 13 (by decide)]; exact q13) (fun j hj => by rw [e2.2 9 (by decide)]; exact q9 j hj) e3 hg'
      rw [htk, List.all_append, ← Bool.and_assoc, ← hg] at nxt
      simp only [List.all_cons, List.all_nil, Bool.and_true] at nxt
      cases g with
      | false => rw [if_pos (show bI false = 0 from rfl)]; exact nxt false rfl
      | true =>
        rw [if_neg (show ¬ bI true = 0 by decide)]
        rw [Bool.true_and] at nxt
        by_cases d0 : T.getD i 0 = 0
        · rw [if_pos (by rw [d0]; decide)]
          exact nxt false (by rw [okB, decide_eq_false (by omega)])
        · rw [if_neg (nI_nle (by omega) (by omega))]
          by_cases d1 : 128 ≤ T.getD i 0
          · rw [if_pos d1]; exact nxt false (by rw [okB, decide_eq_false (by omega)])
          · rw [if_neg d1]; exact nxt true (by rw [okB, decide_eq_true (by omega)])
def tkB (k e : Int32) : Bool := if k = 5 then decide (e = 0) else decide ((k = 6 ∨ k = 7) ∧ ¬ e < 0 ∧ ¬ 100 ≤ e)
def textV (vs : List vV) (T : List Nat) (k e : Int32) : Int32 × List vV := txV vs T k e (tkB k e)
theorem rm_text (G : Nat → Nat) (o : Nat) (h : hp_H) (S : lm_S) (vs : List vV) (T : List Nat) (k e : Int32) (hA : rm_A S vs) (hT : rm_T S T) : ∃ S', m_M_text G o k e (lm_w o h S) = some ((textV vs T k e).1, lm_w o h S') ∧ rm_A S' (textV vs T k e).2 ∧ rm_T S' [] ∧ fT S S' := by
  have go : ∀ g : Bool, g = tkB k e → (g = true → ∃ k' e' : Nat, k' ≤ 8 ∧ e' ≤ 9999 ∧ k = nI k' ∧ e = nI e') → ∃ S', m_M_text_44 G o k e (bI g) (lm_w o h S) = some ((textV vs T k e).1, lm_w o h S') ∧ rm_A S' (textV vs T k e).2 ∧ rm_T S' [] ∧ fT S S' := fun g hg hg0 => by
    unfold m_M_text_44 textV
    rw [hp_nmE, lm_vck]
    obtain ⟨S1, e1, s10, s11, s12, s13, s9, sL, sF⟩ := rm_start_any G o h S k e
    rw [e1, bs, hp_nmE]
    have l := hT.2.1
    rw [← hg]
    obtain ⟨S', f1, f2, f3, f4⟩ := rm_text_54 G o h S vs T k e g hg0 hp_fu 0 S1 g (by omega) (by unfold hp_fu; omega) (sF.A hA) ⟨by rw [sF.1 9 (by decide)]; exact hT.1, l, fun j hj => by rw [sF.2 8 (by decide)]; exact hT.2.2.1 j hj, hT.2.2.2⟩ sF.f.t s10 s11 s12 s13 s9 sL (by rw [List.take_zero, List.all_nil, Bool.and_true])
    exact ⟨S', f1, f2, ⟨f3, by decide, fun j hj => absurd hj (Nat.not_lt_zero j), fun b hb => by cases hb⟩, f4⟩
  unfold m_M_text m_M_text_29 m_M_text_43
  unfold tkB at go
  by_cases c5 : k = 5
  · rw [if_pos c5] at go
    rw [if_pos c5]
    by_cases e0 : e = 0
    · rw [if_pos e0]; exact go true (by rw [decide_eq_true e0]) (fun _ => ⟨5, 0, by decide, by decide, c5, e0⟩)
    · rw [if_neg e0]; exact go false (by rw [decide_eq_false e0]) (fun q => by cases q)
  · rw [if_neg c5] at go
    rw [if_neg c5]
    have rg : ∀ k' : Nat, k' ≤ 8 → k = nI k' → (k = 6 ∨ k = 7) → ∃ S', (if e < 0 then m_M_text_44 G o k e 0 (lm_w o h S) else if 100 ≤ e then m_M_text_44 G o k e 0 (lm_w o h S) else m_M_text_44 G o k e 1 (lm_w o h S)) = some ((textV vs T k e).1, lm_w o h S') ∧ rm_A S' (textV vs T k e).2 ∧ rm_T S' [] ∧ fT S S' := fun k' hk' ek h67 => by
      by_cases e0 : e < 0
      · rw [if_pos e0]; exact go false (by rw [decide_eq_false (fun q => q.2.1 e0)]) (fun q => by cases q)
      · rw [if_neg e0]
        by_cases e1 : 100 ≤ e
        · rw [if_pos e1]; exact go false (by rw [decide_eq_false (fun q => q.2.2 e1)]) (fun q => by cases q)
        · rw [if_neg e1]
          refine go true (by rw [decide_eq_true ⟨h67, e0, e1⟩]) (fun _ => ?_)
          obtain ⟨j, hj, ej⟩ := nI_of e0
          have : j < 100 := Nat.lt_of_not_le fun q => e1 (by rw [ej]; exact nI_le (a := 100) q hj)
          exact ⟨k', j, hk', by omega, ek, ej⟩
    by_cases c6 : k = 6
    · rw [if_pos c6]; exact rg 6 (by decide) c6 (Or.inl c6)
    · rw [if_neg c6]
      by_cases c7 : k = 7
      · rw [if_pos c7]; exact rg 7 (by decide) c7 (Or.inr c7)
      · rw [if_neg c7]
        exact go false (by rw [decide_eq_false (fun q => by rcases q.1 with z | z; exact c6 z; exact c7 z)]) (fun q => by cases q)
