/-! wholeOf: 19 up to a whole number, 20 down to one, 21 to the nearest -/
def wh9 (o : Nat) (t : Int) : Int := (if o = 19 then (if 0 < t % 1000000000 then t / 1000000000 + 1 else t / 1000000000) else if o = 20 then t / 1000000000 else if 1000000000 ≤ 2 * (t % 1000000000) then t / 1000000000 + 1 else t / 1000000000) * 1000000000
def oI (p : Bool) : Nat := if p then 1 else 0
theorem rm_whole_198 (G : Nat → Nat) (o : Nat) (h : hp_H) (S : lm_S) (vs : List vV) (ia : Nat) (x : vV) (f : Nat → Int32) (I u : Nat) (t' : Int) (hu : u ≤ 1) (hI : I < 10 ^ 18) (ht : t'.natAbs = (I + u) * 1000000000) (hs : t' ≠ 0 → sgI x.2.2.1 = sgI t') (hA : rm_A S vs) (hx : vs[ia]? = some x) (hr : RV f (I * 10 ^ 18)) : RK o h S vs (m_M_wholeOf_198 G o (nI (ia + 1)) (nI u) (lm_w o h (S.1, lm_up S.2 11 f))) (nmI t' (x.1 == 3)) := by
  obtain ⟨⟨r1, r2, r3, r4, r5, r6, r7⟩, wx, li, -⟩ := rm_at hA hx
  have wx1 := wx.1
  have lt : t'.natAbs < 10 ^ 55 := by rw [ht]; clear ht hs hr; omega
  have l64 : I * 10 ^ 18 + 10 ^ 18 < 10 ^ 64 := by clear ht hs hr lt; omega
  have hv : ∀ g : Nat → Int32, RV g ((I + u) * 10 ^ 18) → RV g (t'.natAbs * 10 ^ 9) := fun g q => by
    rw [ht, Nat.mul_assoc]
    exact q
  clear ht hI
  have fin : ∀ g : Nat → Int32, RV g ((I + u) * 10 ^ 18) → RK o h S vs (m_M_wholeOf_214 G o (nI (ia + 1)) (lm_w o h (S.1, lm_up S.2 11 g))) (nmI t' (x.1 == 3)) := fun g hg => by
    have hA' : rm_A (S.1, lm_up S.2 11 g) vs := hA.keep rfl (fun c _ h7 => by clear lt l64; simp (disch := omega) only [lm_upn])
    have fr : fS S (S.1, lm_up S.2 11 g) := by clear lt l64; simp (disch := omega) only [fS, lm_upn, and_self]
    unfold m_M_wholeOf_214 m_M_wholeOf_240
    simp (disch := (clear lt l64; omega)) only [lm_g17, lm_vck, Option.bind_some, lm_g3, lm_a3, lm_upn, r3, lm_g1, lm_a1, r1, bq, il_3, nI_eq]
    have hw : (if x.1 = 3 then m_M_number G o (o + 11) (sgI x.2.2.1) 1 (lm_w o h (S.1, lm_up S.2 11 g)) else m_M_number G o (o + 11) (sgI x.2.2.1) 0 (lm_w o h (S.1, lm_up S.2 11 g))) = m_M_number G o (o + 11) (sgI x.2.2.1) (bI (x.1 == 3)) (lm_w o h (S.1, lm_up S.2 11 g)) := by
      rw [bI_if]
      by_cases e : x.1 = 3
      · rw [if_pos e, if_pos e]
      · rw [if_neg e, if_neg e]
    rw [hw]
    exact RK.from fr (rm_number G o h _ vs 11 (by unfold RJ; clear lt l64; omega) t' _ _ lt hs hA' (by simp only [lm_ups]; exact hv g hg))
  unfold m_M_wholeOf_198
  rw [hp_nmE]
  by_cases c : u = 0
  · subst c
    rw [if_pos (by rfl)]
    exact fin f (by rw [Nat.add_zero]; exact hr)
  · have : u = 1 := by clear lt l64; omega
    subst this
    rw [if_neg (by decide)]
    obtain ⟨g, e1, e2⟩ := rm_raise G o h (S.1, lm_up S.2 11 f) 11 (by unfold RJ; clear lt l64; omega) 18 (I * 10 ^ 18) (by decide) l64 (by simp only [lm_ups]; exact hr) (Nat.mul_mod_left _ _)
    simp only [lm_upu] at e1
    simp only [lm_g17, Option.bind_some, show (18 : Int32) = nI 18 from rfl, e1]
    refine fin g ?_
    rw [Nat.add_mul, Nat.one_mul]
    exact e2
theorem rm_whole_73 (G : Nat → Nat) (o : Nat) (h : hp_H) (S : lm_S) (vs : List vV) (ia : Nat) (x : vV) (ox : Nat) (hox : ox = 19 ∨ ox = 20 ∨ ox = 21) (hA : rm_A S vs) (hx : vs[ia]? = some x) (a : Nat) (ha : a = (am9 x).natAbs * 10 ^ 9) : ∀ (n k : Nat) (f : Nat → Int32) (ex : Bool), k ≤ 18 → 18 - k < n → (ex = true ↔ dg a 17 = 5 ∧ a % 10 ^ (min k 17) = 0) → (∀ t, t < k → f t = nI 0) → (∀ t, k ≤ t → t < 64 → f t = nI (dg a t)) → RK o h S vs (m_M_wholeOf_73 G n o (nI (ia + 1)) (nI ox) (nI (oI (!decide (a % 10 ^ 18 = 0)))) (iI ((dg a 17 : Int) - 5)) (nI (oI ex)) (nI k) (lm_w o h (S.1, lm_up S.2 11 f))) (nmI (wh9 ox (am9 x)) (x.1 == 3))
  | 0, k, f, ex, _, hn, _, _, _ => by omega
  | n + 1, k, f, ex, hk, hn, hex, h1, h2 => by
    obtain ⟨⟨r1, r2, r3, r4, r5, r6, r7⟩, wx, li, -⟩ := rm_at hA hx
    rw [m_M_wholeOf_73]
    have d17 := dg_lt a 17
    by_cases e : k = 18
    · subst e
      rw [if_pos (by decide)]
      have hr : RV f (a / 10 ^ 18 * 10 ^ 18) := fun t ht => by
        rw [dg_shift]
        by_cases c : 18 ≤ t
        · rw [h2 t c ht, if_pos c]
          refine congrArg nI ?_
          obtain ⟨d, rfl⟩ : ∃ d, t = 18 + d := ⟨t - 18, by omega⟩
          rw [dg_e, dg_e, Nat.add_sub_cancel_left, Nat.pow_add, ← Nat.div_div_eq_div_mul]
        · rw [h1 t (by omega), if_neg c]
      have lx := am9_lt wx
      have sx := am9_sg x
      have a1 : a / 10 ^ 18 = (am9 x).natAbs / 1000000000 := by rw [ha]; clear ha lx; omega
      have a2 : (a % 10 ^ 18 = 0) ↔ (am9 x).natAbs % 1000000000 = 0 := by rw [ha]; clear ha lx a1; omega
      have a3 : dg a 17 = (am9 x).natAbs / 100000000 % 10 := by rw [dg_e, ha]; clear ha lx a1 a2 d17; omega
      have a4 : dg a 17 = 5 → ((a % 10 ^ (min 18 17) = 0) ↔ (am9 x).natAbs % 100000000 = 0) := fun _ => by
        rw [show min 18 17 = 17 from rfl, ha]; clear ha lx a1 a2 a3 d17 hex; omega
      rw [a1] at hr
      have lI : (am9 x).natAbs / 1000000000 < 10 ^ 18 := by clear hex a1 a2 a3 a4 ha; omega
      clear lx a1 ha h1 h2
      have fin := fun (u : Nat) (hu : u ≤ 1) (ht : (wh9 ox (am9 x)).natAbs = ((am9 x).natAbs / 1000000000 + u) * 1000000000) (hs : wh9 ox (am9 x) ≠ 0 → sgI (am9 x) = sgI (wh9 ox (am9 x))) => rm_whole_198 G o h S vs ia x f ((am9 x).natAbs / 1000000000) u (wh9 ox (am9 x)) hu lI ht (by rw [← sx]; exact hs) hA hx hr
      clear hr lI
      have half0 : (iI ((dg a 17 : Int) - 5) = 0) ↔ dg a 17 = 5 := by
        rw [show (0 : Int32) = iI 0 from rfl, iI_eq (by omega) (by omega) (by omega) (by omega)]; omega
      have half1 : (0 < iI ((dg a 17 : Int) - 5)) ↔ 5 < dg a 17 := by
        rw [show (0 : Int32) = iI 0 from rfl, iI_lt (by omega) (by omega) (by omega) (by omega)]; omega
      have pos1 : (0 < sgI x.2.2.1) ↔ 0 < am9 x := by
        rw [← sx]
        unfold sgI
        by_cases q : am9 x < 0
        · rw [if_pos q]; exact ⟨fun z => absurd z (by decide), fun z => by clear half0 half1; omega⟩
        · rw [if_neg q]
          by_cases q2 : am9 x = 0
          · rw [if_pos q2]; exact ⟨fun z => absurd z (by decide), fun z => by clear half0 half1; omega⟩
          · rw [if_neg q2]; exact ⟨fun _ => by clear half0 half1; omega, fun _ => by decide⟩
      have pos2 : (sgI x.2.2.1 ≤ 0) ↔ am9 x ≤ 0 := by
        rw [← sx]
        unfold sgI
        by_cases q : am9 x < 0
        · rw [if_pos q]; exact ⟨fun z => by clear half0 half1; omega, fun z => by decide⟩
        · rw [if_neg q]
          by_cases q2 : am9 x = 0
          · rw [if_pos q2]; exact ⟨fun z => by clear half0 half1; omega, fun z => by decide⟩
          · rw [if_neg q2]; exact ⟨fun z => absurd z (by decide), fun z => by clear half0 half1; omega⟩
      generalize hd : dg a 17 = d at *
      generalize am9 x = t at *
      have w19 : ox = 19 → wh9 ox t = (if 0 < t % 1000000000 then t / 1000000000 + 1 else t / 1000000000) * 1000000000 := fun q => by rw [wh9, if_pos q]
      have w20 : ox = 20 → wh9 ox t = t / 1000000000 * 1000000000 := fun q => by rw [wh9, if_neg (by rw [q]; decide), if_pos q]
      have w21 : ox = 21 → wh9 ox t = (if 1000000000 ≤ 2 * (t % 1000000000) then t / 1000000000 + 1 else t / 1000000000) * 1000000000 := fun q => by rw [wh9, if_neg (by rw [q]; decide), if_neg (by rw [q]; decide)]
      generalize wh9 ox t = w at *
      unfold m_M_wholeOf_153 m_M_wholeOf_157 m_M_wholeOf_197 m_M_wholeOf_176 m_M_wholeOf_190
      simp (disch := omega) only [lm_g3, lm_a3, lm_upn, Option.bind_some, r3]
      by_cases o21 : ox = 21
      · have w := w21 o21
        rw [if_pos (by rw [o21]; rfl)]
        by_cases c1 : 5 < d
        · rw [if_pos (half1.mpr c1)]
          have : 500000000 < t.natAbs % 1000000000 := by omega
          by_cases c2 : 1000000000 ≤ 2 * (t % 1000000000)
          · rw [if_pos c2] at w
            exact fin 1 (by omega) (by omega) (fun q => sgI_cg (by omega) (by omega))
          · rw [if_neg c2] at w
            exact fin 1 (by omega) (by omega) (fun q => sgI_cg (by omega) (by omega))
        · rw [if_neg (fun q => c1 (half1.mp q))]
          by_cases c0 : d = 5
          · rw [if_pos (half0.mpr c0)]
            have a4 := a4 c0
            by_cases cp : 0 < t
            · rw [if_pos (pos1.mpr cp)]
              rw [if_pos (by omega)] at w
              exact fin 1 (by omega) (by omega) (fun q => sgI_cg (by omega) (by omega))
            · rw [if_neg (fun q => cp (pos1.mp q))]
              cases ex with
              | false =>
                rw [if_pos (by rfl)]
                have : ¬ t.natAbs % 100000000 = 0 := fun q => by have := hex.mpr ⟨c0, a4.mpr q⟩; cases this
                rw [if_neg (by omega)] at w
                exact fin 1 (by omega) (by omega) (fun q => sgI_cg (by omega) (by omega))
              | true =>
                rw [if_neg (by decide)]
                have : t.natAbs % 100000000 = 0 := a4.mp (hex.mp rfl).2
                rw [if_pos (by omega)] at w
                exact fin 0 (by omega) (by omega) (fun q => sgI_cg (by omega) (by omega))
          · rw [if_neg (fun q => c0 (half0.mp q))]
            by_cases c2 : 1000000000 ≤ 2 * (t % 1000000000)
            · rw [if_pos c2] at w
              exact fin 0 (by omega) (by omega) (fun q => sgI_cg (by omega) (by omega))
            · rw [if_neg c2] at w
              exact fin 0 (by omega) (by omega) (fun q => sgI_cg (by omega) (by omega))
      · rw [if_neg (show ¬ nI ox = 21 from fun q => o21 ((nI_eq (b := 21) (by omega) (by decide)).mp q))]
        by_cases cr : a % 10 ^ 18 = 0
        · have z := a2.mp cr
          rw [if_pos (by rw [decide_eq_true cr]; rfl)]
          rcases hox with q | q | q
          · have w := w19 q
            rw [if_neg (by clear a2 cr; omega)] at w
            clear a2 cr
            exact fin 0 (by omega) (by omega) (fun q => sgI_cg (by omega) (by omega))
          · have w := w20 q
            clear a2 cr
            exact fin 0 (by omega) (by omega) (fun q => sgI_cg (by omega) (by omega))
          · exact absurd q o21
        · have z : ¬ t.natAbs % 1000000000 = 0 := fun q => cr (a2.mpr q)
          rw [if_neg (by rw [decide_eq_false cr]; decide)]
          clear a2 cr
          rcases hox with q | q | q
          · have w := w19 q
            rw [if_pos (by rw [q]; rfl)]
            by_cases cp : t ≤ 0
            · rw [if_pos (pos2.mpr cp), if_neg (by decide)]
              by_cases c2 : 0 < t % 1000000000
              · rw [if_pos c2] at w
                exact fin 0 (by omega) (by omega) (fun q => sgI_cg (by omega) (by omega))
              · rw [if_neg c2] at w
                exact fin 0 (by omega) (by omega) (fun q => sgI_cg (by omega) (by omega))
            · rw [if_neg (fun q => cp (pos2.mp q)), if_pos trivial]
              rw [if_pos (by omega)] at w
              exact fin 1 (by omega) (by omega) (fun q => sgI_cg (by omega) (by omega))
          · have w := w20 q
            rw [if_neg (by rw [q]; decide)]
            by_cases cp : t ≤ 0
            · rw [if_pos (pos2.mpr cp), if_pos trivial]
              exact fin 1 (by omega) (by omega) (fun q => sgI_cg (by omega) (by omega))
            · rw [if_neg (fun q => cp (pos2.mp q)), if_neg (by decide)]
              exact fin 0 (by omega) (by omega) (fun q => sgI_cg (by omega) (by omega))
          · exact absurd q o21
    · rw [if_neg (show ¬ (18 : Int32) ≤ nI k from nI_ge (a := k) (b := 18) (by omega) (by decide))]
      have next : ∀ ex' : Bool, (ex' = true ↔ dg a 17 = 5 ∧ a % 10 ^ (min (k + 1) 17) = 0) → RK o h S vs (m_M_wholeOf_109 G (m_M_wholeOf_73 G n) o (nI (ia + 1)) (nI ox) (nI (oI (!decide (a % 10 ^ 18 = 0)))) (iI ((dg a 17 : Int) - 5)) (nI (oI ex')) (nI k) (lm_w o h (S.1, lm_up S.2 11 f))) (nmI (wh9 ox (am9 x)) (x.1 == 3)) := fun ex' hex' => by
        unfold m_M_wholeOf_109
        simp (disch := omega) only [lm_g17, Option.bind_some, lm_s11, lm_ups, lm_upu, hp_nmE, nI_1]
        exact rm_whole_73 G o h S vs ia x ox hox hA hx a ha n (k + 1) (upd f k 0) ex' (by omega) (by omega) hex' (fun t ht => by
          by_cases et : t = k
          · subst et; rw [upd_s]; rfl
          · rw [upd_n _ _ et]; exact h1 t (by omega)) (fun t ht ht2 => by rw [upd_n _ _ (by omega)]; exact h2 t (by omega) ht2)
      by_cases e17 : k = 17
      · subst e17
        rw [if_pos (by decide)]
        exact next ex hex
      · rw [if_neg (show ¬ (17 : Int32) ≤ nI k from nI_ge (a := k) (b := 17) (by omega) (by decide))]
        have m1 := mod_s a k
        have dk := dg_lt a k
        have hp := pw_pos k
        rw [show min k 17 = k by omega] at hex
        rw [show min (k + 1) 17 = k + 1 by omega] at next
        unfold m_M_wholeOf_106 m_M_wholeOf_107
        cases ex with
        | false =>
          rw [if_pos (by rfl), hp_nmE]
          refine next false ⟨fun q => (by cases q), fun q => hex.mpr ⟨q.1, ?_⟩⟩
          have := q.2
          rw [m1] at this
          clear ha
          omega
        | true =>
          have hx2 := hex.mp rfl
          rw [if_neg (by decide)]
          simp (disch := omega) only [lm_g17, Option.bind_some, lm_a11, lm_ups, h2 k (Nat.le_refl _) (by omega), il_0, nI_eq, hp_nmE]
          by_cases c : dg a k = 0
          · rw [if_pos c]
            refine next true ⟨fun _ => ⟨hx2.1, ?_⟩, fun _ => rfl⟩
            rw [m1, hx2.2, c, Nat.zero_mul]
          · rw [if_neg c]
            refine next false ⟨fun q => (by cases q), fun q => ?_⟩
            have q2 := q.2
            rw [m1] at q2
            have : 0 < dg a k * 10 ^ k := Nat.mul_pos (by omega) hp
            clear ha
            omega
theorem rm_whole_14 (G : Nat → Nat) (o : Nat) (h : hp_H) (S : lm_S) (vs : List vV) (ia : Nat) (x : vV) (ox : Nat) (hox : ox = 19 ∨ ox = 20 ∨ ox = 21) (hA : rm_A S vs) (hx : vs[ia]? = some x) (a : Nat) (ha : a = (am9 x).natAbs * 10 ^ 9) (f : Nat → Int32) (hf : RV f a) : ∀ (n k : Nat), k ≤ 18 → 18 - k < n → RK o h S vs (m_M_wholeOf_14 G n o (nI (ia + 1)) (nI ox) (nI (oI (!decide (a % 10 ^ k = 0)))) (nI k) (lm_w o h (S.1, lm_up S.2 11 f))) (nmI (wh9 ox (am9 x)) (x.1 == 3))
  | 0, k, _, hn => by omega
  | n + 1, k, hk, hn => by
    rw [m_M_wholeOf_14]
    have d17 := dg_lt a 17
    by_cases e : k = 18
    · subst e
      rw [if_pos (by decide)]
      have key := fun (ex : Bool) (hex : ex = true ↔ dg a 17 = 5) => rm_whole_73 G o h S vs ia x ox hox hA hx a ha hp_fu 0 f ex (by decide) (by decide) (by
        rw [show min 0 17 = 0 from rfl, Nat.pow_zero, Nat.mod_one]; simp only [hex, and_true]) (fun t ht => by omega) (fun t _ ht => hf t ht)
      simp (disch := omega) only [lm_g17, Option.bind_some, il_17, lm_a11, lm_ups, hf 17 (by decide), hp_nmE]
      rw [show nI (dg a 17) - 5 = iI ((dg a 17 : Int) - 5) by rw [nI_iI, show (5 : Int32) = iI 5 from rfl, iI_sub]]
      unfold m_M_wholeOf_68
      simp only [hp_nmE]
      have half0 : (iI ((dg a 17 : Int) - 5) = 0) ↔ dg a 17 = 5 := by
        rw [show (0 : Int32) = iI 0 from rfl, iI_eq (by omega) (by omega) (by omega) (by omega)]; omega
      by_cases c : dg a 17 = 5
      · rw [if_pos (half0.mpr c)]
        exact key true ⟨fun _ => c, fun _ => rfl⟩
      · rw [if_neg (fun q => c (half0.mp q))]
        exact key false ⟨fun q => (by cases q), fun q => absurd q c⟩
    · rw [if_neg (show ¬ (18 : Int32) ≤ nI k from nI_ge (a := k) (b := 18) (by omega) (by decide))]
      have m1 := mod_s a k
      have dk := dg_lt a k
      have hp := pw_pos k
      have key := rm_whole_14 G o h S vs ia x ox hox hA hx a ha f hf n (k + 1) (by omega) (by omega)
      unfold m_M_wholeOf_35 m_M_wholeOf_40
      simp only [hp_nmE, nI_1]
      by_cases c : a % 10 ^ k = 0
      · rw [if_pos (by rw [decide_eq_true c]; rfl)]
        simp (disch := omega) only [lm_g17, Option.bind_some, lm_a11, lm_ups, hf k (by omega), il_0, nI_eq]
        by_cases c2 : dg a k = 0
        · rw [if_pos c2]
          rw [decide_eq_true (show a % 10 ^ (k + 1) = 0 by rw [m1, c, c2, Nat.zero_mul])] at key
          exact key
        · rw [if_neg c2]
          have : 0 < dg a k * 10 ^ k := Nat.mul_pos (by omega) hp
          rw [decide_eq_false (show ¬ a % 10 ^ (k + 1) = 0 by rw [m1]; clear ha; omega)] at key
          exact key
      · rw [if_neg (by rw [decide_eq_false c]; decide)]
        rw [decide_eq_false (show ¬ a % 10 ^ (k + 1) = 0 by rw [m1]; clear ha; omega)] at key
        exact key
theorem rm_wholeOf (G : Nat → Nat) (o : Nat) (h : hp_H) (S : lm_S) (vs : List vV) (ia : Nat) (x : vV) (ox : Nat) (hox : ox = 19 ∨ ox = 20 ∨ ox = 21) (hA : rm_A S vs) (hx : vs[ia]? = some x) : RK o h S vs (m_M_wholeOf G o (nI (ia + 1)) (nI ox) (lm_w o h S)) (nmI (wh9 ox (am9 x)) (x.1 == 3)) := by
  obtain ⟨f, e1, e2⟩ := rm_lay1 G o h S vs 11 (by unfold RJ; omega) ia x hA hx
  unfold m_M_wholeOf
  simp only [lm_g17, Option.bind_some, lm_vck, e1, hp_nmE]
  have key := rm_whole_14 G o h S vs ia x ox hox hA hx _ rfl f e2 hp_fu 0 (by decide) (by decide)
  rw [decide_eq_true (show (am9 x).natAbs * 10 ^ 9 % 10 ^ 0 = 0 by rw [Nat.pow_zero, Nat.mod_one])] at key
  exact key
