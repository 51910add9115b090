/-! sumAll, average -/
theorem rm_sum_67 (G : Nat → Nat) (o : Nat) (h : hp_H) (r19 : Nat → Int32 → hp_H → Option (Int32 × hp_H)) (S : lm_S) (vs : List vV) (k i : Nat) (x : vV) (t : Int) (w' : Bool) (ht : t.natAbs < 10 ^ 27) (hA : rm_A S vs) (hx : vs[i]? = some x) (hr : RV (S.2 19) (t.natAbs * 10 ^ 9)) (h31 : S.1 31 = sgI t) : ∃ S', tS S S' ∧ S'.1 31 = sgI (t + am9 x) ∧ S'.1 32 = bI w' ∧ RV (S'.2 19) ((t + am9 x).natAbs * 10 ^ 9) ∧ m_M_sumAll_67 G r19 o (nI k) (nI (i + 1)) (bI w') o (lm_w o h S) = if fit (t + am9 x) then r19 o (nI (k + 1)) (lm_w o h S') else some (0, lm_w o h S') := by
  obtain ⟨hr1, wx, li, -⟩ := rm_at hA hx
  have r3 := hr1.2.2.1
  have lx := am9_lt wx
  have hax := am9_sg x
  have b4 := b55 ht lx
  have b1 := b9 ht
  have b2 := b9 lx
  have b3 := b9s ht lx
  clear ht lx
  have pz : hp_pZ (lm_w o h S) o 8 32 (bI w') = some (lm_w o h (upd S.1 32 (bI w'), S.2)) := by
    unfold hp_pZ
    rw [if_pos (by cases w'; exact Or.inl rfl; exact Or.inr rfl), lm_p32]
  have hA1 : rm_A (upd S.1 32 (bI w'), S.2) vs := hA.keep (by clear b1 b2 b3 b4; simp (disch := omega) only [upd_n]) (fun _ _ _ => rfl)
  obtain ⟨g, e1, e2⟩ := rm_lay1 G o h (upd S.1 32 (bI w'), S.2) vs 12 (by unfold RJ; clear b1 b2 b3 b4; omega) i x hA1 hx
  unfold m_M_sumAll_67
  simp only [pz, lm_g18, lm_vck, e1, bs]
  have l3 := lm_a3 o h (upd S.1 32 (bI w'), lm_up S.2 12 g) (i + 1) (by clear b1 b2 b3 b4; omega)
  have q3 : lm_up S.2 12 g 3 (i + 1) = sgI (am9 x) := by rw [lm_upn _ _ (by decide), r3, hax]
  have q31 : (upd S.1 32 (bI w')) 31 = sgI t := by rw [upd_n _ _ (by decide)]; exact h31
  simp only [lm_g31, lm_g3, l3, bs, q3, q31, sgI_mul]
  have rt : RV ((upd S.1 32 (bI w'), lm_up S.2 12 g).2 19) (t.natAbs * 10 ^ 9) := by clear b1 b2 b3 b4; simp (disch := omega) only [lm_upn]; exact hr
  have ry : RV ((upd S.1 32 (bI w'), lm_up S.2 12 g).2 12) ((am9 x).natAbs * 10 ^ 9) := by simp only [lm_ups]; exact e2
  have fin : ∀ (S1 : lm_S) (s : Int32), tS S S1 → S1.1 32 = bI w' → RV (S1.2 19) ((t + am9 x).natAbs * 10 ^ 9) → S1.1 31 = s → (t + am9 x ≠ 0 → s = sgI (t + am9 x)) → ∃ S', tS S S' ∧ S'.1 31 = sgI (t + am9 x) ∧ S'.1 32 = bI w' ∧ RV (S'.2 19) ((t + am9 x).natAbs * 10 ^ 9) ∧ m_M_sumAll_209 G r19 o (nI k) (lm_w o h S1) = if fit (t + am9 x) then r19 o (nI (k + 1)) (lm_w o h S') else some (0, lm_w o h S') := fun S1 s f1 f2 f3 f4 f5 => by
    obtain ⟨S2, z1, z2, z3, z4⟩ := rm_sum_209 G o h r19 S1 k (t + am9 x) s b4 f3 f4 f5
    exact ⟨S2, f1.tr ⟨fun i a _ => z2 i a, fun j _ _ => by rw [z1]⟩, z3, by rw [z2 32 (by decide)]; exact f2, by rw [z1]; exact f3, z4⟩
  by_cases c : t * am9 x < 0
  · rw [if_pos ((sgI_lt _).mpr c)]
    have csg : (t < 0 ∧ 0 < am9 x) ∨ (0 < t ∧ am9 x < 0) := by
      clear b1 b2 b3 b4
      rcases Int.lt_trichotomy t 0 with a | a | a <;> rcases Int.lt_trichotomy (am9 x) 0 with b | b | b
      · have := Int.mul_pos_of_neg_of_neg a b; omega
      · rw [b] at c; omega
      · exact Or.inl ⟨a, b⟩
      · rw [a] at c; omega
      · rw [a] at c; omega
      · rw [a] at c; omega
      · exact Or.inr ⟨a, b⟩
      · rw [b] at c; omega
      · have := Int.mul_pos a b; omega
    simp only [lm_g30, lm_g18, bs, rm_compare G o h _ 19 12 (by unfold RJ; clear b1 b2 b3 b4; omega) (by unfold RJ; clear b1 b2 b3 b4; omega) _ _ rt ry b1 b2, cmN_9]
    by_cases c4 : t.natAbs < (am9 x).natAbs
    · rw [if_pos ((cmN_lt _ _).mpr c4)]
      obtain ⟨k1, e5, e6⟩ := rm_joinM G o h (upd S.1 32 (bI w'), lm_up S.2 12 g) 12 19 (by unfold RJ; clear b1 b2 b3 b4; omega) (by unfold RJ; clear b1 b2 b3 b4; omega) (by clear b1 b2 b3 b4; omega) ((am9 x).natAbs * 10 ^ 9) (t.natAbs * 10 ^ 9) b2 (le_9 (Nat.le_of_lt c4)) ry rt
      rw [← Nat.sub_mul] at e6
      rw [show (am9 x).natAbs - t.natAbs = (t + am9 x).natAbs by clear b1 b2 b3 b4 e6; omega] at e6
      simp only [e5, bs, hp_nmE, lm_upu]
      obtain ⟨f, y1, y2⟩ := rm_sum_175 G o h r19 (nI k) (i + 1) (by clear b1 b2 b3 b4; omega) _ hp_fu 0 (upd S.1 32 (bI w'), lm_up S.2 12 k1) (by decide) (by decide) (by simp only [lm_ups]; exact e6) (fun t ht => by clear b1 b2 b3 b4; omega)
      rw [show (0 : Int32) = nI 0 from rfl, y1]
      refine fin _ (sgI (am9 x)) ⟨fun i a b => ?_, fun j a b => ?_⟩ ?_ ?_ ?_ ?_
      · simp only [upd_n _ _ a, upd_n _ _ b]
      · simp only [lm_upn _ _ a, lm_upn _ _ b]
      · clear b1 b2 b3 b4; simp (disch := omega) only [upd_n, upd_s]
      · simp only [lm_ups]; exact y2
      · simp only [upd_s]; rw [lm_upn _ _ (by decide), r3, hax]
      · clear b1 b2 b3 b4; exact fun _ => sgI_cg (by omega) (by omega)
    · rw [if_neg (fun q => c4 ((cmN_lt _ _).mp q))]
      obtain ⟨k1, e5, e6⟩ := rm_joinM G o h (upd S.1 32 (bI w'), lm_up S.2 12 g) 19 12 (by unfold RJ; clear b1 b2 b3 b4; omega) (by unfold RJ; clear b1 b2 b3 b4; omega) (by clear b1 b2 b3 b4; omega) (t.natAbs * 10 ^ 9) ((am9 x).natAbs * 10 ^ 9) b1 (le_9 (Nat.le_of_not_lt c4)) rt ry
      rw [← Nat.sub_mul] at e6
      rw [show t.natAbs - (am9 x).natAbs = (t + am9 x).natAbs by clear b1 b2 b3 b4 e6; omega] at e6
      simp only [e5, bs]
      refine fin _ (sgI t) ⟨fun i a b => ?_, fun j a b => ?_⟩ ?_ ?_ ?_ ?_
      · simp only [upd_n _ _ b]
      · simp only [lm_upn _ _ a, lm_upn _ _ b]
      · simp only [upd_s]
      · simp only [lm_ups]; exact e6
      · exact q31
      · clear b1 b2 b3 b4; exact fun _ => sgI_cg (by omega) (by omega)
  · rw [if_neg (fun q => c ((sgI_lt _).mp q))]
    have csg : (t ≤ 0 ∧ am9 x ≤ 0) ∨ (0 ≤ t ∧ 0 ≤ am9 x) := by
      clear b1 b2 b3 b4
      rcases Int.lt_trichotomy t 0 with a | a | a <;> rcases Int.lt_trichotomy (am9 x) 0 with b | b | b
      · omega
      · omega
      · have := Int.mul_neg_of_neg_of_pos a b; omega
      · omega
      · omega
      · omega
      · have := Int.mul_neg_of_pos_of_neg a b; omega
      · omega
      · omega
    obtain ⟨k1, e5, e6⟩ := rm_joinP G o h (upd S.1 32 (bI w'), lm_up S.2 12 g) 19 12 (by unfold RJ; clear b1 b2 b3 b4; omega) (by unfold RJ; clear b1 b2 b3 b4; omega) (by clear b1 b2 b3 b4; omega) (t.natAbs * 10 ^ 9) ((am9 x).natAbs * 10 ^ 9) b3 rt ry
    rw [← Nat.add_mul] at e6
    rw [show t.natAbs + (am9 x).natAbs = (t + am9 x).natAbs by clear b1 b2 b3 b4 e6; omega] at e6
    have l3' := lm_a3 o h (upd S.1 32 (bI w'), lm_up (lm_up S.2 12 g) 19 k1) (i + 1) (by clear b1 b2 b3 b4; omega)
    have q3' : lm_up (lm_up S.2 12 g) 19 k1 3 (i + 1) = sgI (am9 x) := by rw [lm_upn _ _ (by decide)]; exact q3
    unfold m_M_sumAll_126
    simp only [lm_g30, lm_g18, e5, bs, lm_g31, q31, lm_g3, l3', q3', lm_p31]
    have fin2 : ∀ s : Int32, (t + am9 x ≠ 0 → s = sgI (t + am9 x)) → ∃ S', tS S S' ∧ S'.1 31 = sgI (t + am9 x) ∧ S'.1 32 = bI w' ∧ RV (S'.2 19) ((t + am9 x).natAbs * 10 ^ 9) ∧ m_M_sumAll_209 G r19 o (nI k) (lm_w o h (upd (upd S.1 32 (bI w')) 31 s, lm_up (lm_up S.2 12 g) 19 k1)) = if fit (t + am9 x) then r19 o (nI (k + 1)) (lm_w o h S') else some (0, lm_w o h S') := fun s hs => by
      refine fin _ s ⟨fun i a b => ?_, fun j a b => ?_⟩ ?_ ?_ ?_ hs
      · simp only [upd_n _ _ a, upd_n _ _ b]
      · simp only [lm_upn _ _ a, lm_upn _ _ b]
      · clear b1 b2 b3 b4; simp (disch := omega) only [upd_n, upd_s]
      · simp only [lm_ups]; exact e6
      · simp only [upd_s]
    by_cases c3 : t = 0
    · rw [if_pos ((sgI_0 _).mpr c3)]
      exact fin2 _ (by clear b1 b2 b3 b4; exact fun _ => sgI_cg (by omega) (by omega))
    · rw [if_neg (fun q => c3 ((sgI_0 _).mp q))]
      exact fin2 _ (by clear b1 b2 b3 b4; exact fun _ => sgI_cg (by omega) (by omega))
theorem gv_n {vs : List vV} {n : Nat} (hn : n ≤ vs.length) (h : n ≠ 0) : ∃ i x, n = i + 1 ∧ vs[i]? = some x ∧ gv vs n = some x := by
  obtain ⟨i, rfl⟩ : ∃ i, n = i + 1 := ⟨n - 1, by omega⟩
  refine ⟨i, _, rfl, List.getElem?_eq_getElem (show i < vs.length by omega), ?_⟩
  unfold gv
  rw [if_neg (by omega), Nat.add_sub_cancel, List.getElem?_eq_getElem (show i < vs.length by omega)]
theorem rm_isNum0 (G : Nat → Nat) (o : Nat) (h : hp_H) (S : lm_S) : m_M_isNumber G o (nI 0) (lm_w o h S) = some (0, lm_w o h S) := rfl
theorem rm_sumAll_19 (G : Nat → Nat) (o : Nat) (h : hp_H) (S0 : lm_S) (vs : List vV) (g : gG) : ∀ (n k : Nat) (S : lm_S) (t : Int) (w : Bool), k ≤ g.2.2.2.length → g.2.2.2.length - k < n → rm_A S vs → rm_G S vs g → tS S0 S → t.natAbs < 10 ^ 27 → RV (S.2 19) (t.natAbs * 10 ^ 9) → S.1 31 = sgI t → S.1 32 = bI w → ∃ S', tS S0 S' ∧ m_M_sumAll_19 G n o (nI k) (lm_w o h S) = some (bI (smA ((g.2.2.2.drop k).map (gv vs)) t w).isSome, lm_w o h S') ∧ ∀ t' w', smA ((g.2.2.2.drop k).map (gv vs)) t w = some (t', w') → t'.natAbs < 10 ^ 27 ∧ RV (S'.2 19) (t'.natAbs * 10 ^ 9) ∧ S'.1 31 = sgI t' ∧ S'.1 32 = bI w'
  | 0, k, S, t, w, _, hn, _, _, _, _, _, _, _ => by omega
  | n + 1, k, S, t, w, hk, hn, hA, hg, hS, ht, hr, h31, h32 => by
    obtain ⟨⟨h1, -, -, -⟩, -, h6, -, h8⟩ := id hg
    rw [m_M_sumAll_19]
    have kl : k < 2 ^ 31 := by clear ht; omega
    simp only [lm_g26, h1, bs, nI_leI (show g.2.2.2.length < 2 ^ 31 by clear ht; omega) kl]
    by_cases c : g.2.2.2.length ≤ k
    · rw [if_pos c, List.drop_eq_nil_of_le c, List.map_nil, smA]
      refine ⟨S, hS, rfl, fun t' w' e => ?_⟩
      injection e with e
      injection e with e1 e2
      subst e1
      subst e2
      exact ⟨ht, hr, h31, h32⟩
    · rw [if_neg c]
      obtain ⟨m, hm⟩ : ∃ m, g.2.2.2[k]? = some m := ⟨_, List.getElem?_eq_getElem (by clear ht; omega)⟩
      have hd : g.2.2.2.drop k = m :: g.2.2.2.drop (k + 1) := by
        obtain ⟨hk2, e⟩ := List.getElem?_eq_some_iff.mp hm
        rw [List.drop_eq_getElem_cons hk2, e]
      have l18 := lm_a18 o h S k (by clear ht; omega)
      rw [(h8 k m hm).1] at l18
      have ml := (h8 k m hm).2
      simp only [lm_g25, l18, bs, hp_nmE, lm_vck]
      rw [hd, List.map_cons]
      by_cases m0 : m = 0
      · subst m0
        rw [rm_isNum0, bs, if_pos rfl]
        exact ⟨S, hS, rfl, fun t' w' e => by cases e⟩
      · obtain ⟨i, x, rfl, hx, hgv⟩ := gv_n ml m0
        obtain ⟨hrx, wx, li, -⟩ := rm_at hA hx
        have w1 := wx.1
        rw [rm_isNumber G o h S (i + 1) x (by clear ht; omega) (by clear ht; omega) hrx wx, bs, hgv, smA]
        cases hnb : nbV x with
        | false =>
          rw [if_pos (show bI false = 0 from rfl), if_neg (show ¬ false = true by decide)]
          exact ⟨S, hS, rfl, fun t' w' e => by cases e⟩
        | true =>
          rw [if_neg (show ¬ bI true = 0 by decide), if_pos (show true = true from rfl)]
          have l1 := lm_a1 o h S (i + 1) (by clear ht; omega)
          rw [hrx.1] at l1
          unfold m_M_sumAll_66
          simp only [lm_g32, h32, lm_g1, l1, bs, ie_3 (show x.1 < 2 ^ 31 by clear ht; omega)]
          have go : ∀ w', w' = (w && x.1 == 3) → ∃ S', tS S0 S' ∧ m_M_sumAll_67 G (m_M_sumAll_19 G n) o (nI k) (nI (i + 1)) (bI w') o (lm_w o h S) = some (bI (if fit (t + am9 x) then smA ((g.2.2.2.drop (k + 1)).map (gv vs)) (t + am9 x) (w && x.1 == 3) else none).isSome, lm_w o h S') ∧ ∀ t' w'', (if fit (t + am9 x) then smA ((g.2.2.2.drop (k + 1)).map (gv vs)) (t + am9 x) (w && x.1 == 3) else none) = some (t', w'') → t'.natAbs < 10 ^ 27 ∧ RV (S'.2 19) (t'.natAbs * 10 ^ 9) ∧ S'.1 31 = sgI t' ∧ S'.1 32 = bI w'' := fun w' hw' => by
            obtain ⟨S1, f1, f2, f3, f4, f5⟩ := rm_sum_67 G o h (m_M_sumAll_19 G n) S vs k i x t w' ht hA hx hr h31
            rw [f5]
            cases hf : fit (t + am9 x) with
            | false =>
              rw [if_neg (show ¬ false = true by decide), if_neg (show ¬ false = true by decide)]
              exact ⟨S1, hS.tr f1, rfl, fun t' w' e => by cases e⟩
            | true =>
              rw [if_pos (show true = true from rfl), if_pos (show true = true from rfl), ← hw']
              have hg1 : rm_G S1 vs g := by
                have := hg.f f1.f.r []
                rw [List.append_nil] at this
                exact this
              exact rm_sumAll_19 G o h S0 vs g n (k + 1) S1 (t + am9 x) w' (by clear ht; omega) (by clear ht; omega) (f1.A hA) hg1 (hS.tr f1) (fit_lt hf) f4 f2 f3
          cases w with
          | false => rw [if_pos (show bI false = 0 from rfl)]; exact go false rfl
          | true =>
            rw [if_neg (show ¬ bI true = 0 by decide)]
            by_cases c3 : x.1 = 3
            · rw [if_pos c3]; exact go true (by rw [c3]; rfl)
            · rw [if_neg c3]; exact go false (by rw [beq_false_of_ne c3]; rfl)
theorem rm_sumAll (G : Nat → Nat) (o : Nat) (h : hp_H) (S : lm_S) (vs : List vV) (g : gG) (hA : rm_A S vs) (hg : rm_G S vs g) : ∃ S', tS S S' ∧ m_M_sumAll G o (lm_w o h S) = some (bI (smA (g.2.2.2.map (gv vs)) 0 true).isSome, lm_w o h S') ∧ ∀ t' w', smA (g.2.2.2.map (gv vs)) 0 true = some (t', w') → t'.natAbs < 10 ^ 27 ∧ RV (S'.2 19) (t'.natAbs * 10 ^ 9) ∧ S'.1 31 = sgI t' ∧ S'.1 32 = bI w' := by
  have h6 := hg.2.2.1
  unfold m_M_sumAll
  obtain ⟨f, e1, e2⟩ := rm_clear G o h S 19 (by unfold RJ; omega)
  have pz : ∀ S1 : lm_S, hp_pZ (lm_w o h S1) o 8 32 1 = some (lm_w o h (upd S1.1 32 1, S1.2)) := fun S1 => by
    unfold hp_pZ
    rw [if_pos (Or.inr rfl), lm_p32]
  simp only [lm_g30, e1, bs, lm_p31, pz, hp_nmE]
  have hA1 : rm_A (upd (upd S.1 31 0) 32 1, lm_up S.2 19 f) vs := hA.keep (by simp (disch := omega) only [upd_n]) (fun j _ h7 => lm_upn _ _ (by omega))
  have ht1 : tS S (upd (upd S.1 31 0) 32 1, lm_up S.2 19 f) := ⟨fun i a b => by simp only [upd_n _ _ a, upd_n _ _ b], fun j a b => by simp only [lm_upn _ _ b]⟩
  have hg1 : rm_G (upd (upd S.1 31 0) 32 1, lm_up S.2 19 f) vs g := by
    have := hg.f ht1.f.r []
    rw [List.append_nil] at this
    exact this
  have key := rm_sumAll_19 G o h S vs g hp_fu 0 _ 0 true (by omega) (by unfold hp_fu; omega) hA1 hg1 ht1 (by decide) (by simp only [lm_ups]; exact e2) (by simp (disch := omega) only [upd_n, upd_s]; rfl) (by simp only [upd_s]; rfl)
  rw [List.drop_zero] at key
  exact key
