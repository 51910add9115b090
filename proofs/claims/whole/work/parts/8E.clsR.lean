/-! THE CLASS: the whole expression -/
def XW (c : Nat) (h : hp_H) (ws : List (Nat × Int32)) : Prop := ws.length ≤ 100 ∧ ∃ fo fn, h.1 (c + 10) = some (.inr (true, .int, 100, .inl fo)) ∧ h.1 (c + 11) = some (.inr (true, .int, 100, .inl fn)) ∧ ∀ k w, ws[k]? = some w → fo k = nI w.1 ∧ fn k = w.2 ∧ wO w
/-- the expression: its words, what is bound; st: what lies on the stack (the last first) -/
def XX (G : Nat → Nat) (c q0 : Nat) (h : hp_H) (vs : List vV) (ws : List (Nat × Int32)) (bd : Nat → Nat) (st : List (Option vV)) : Prop := ST G c q0 h vs ∧ vsO vs ∧ h.1 (c + 9) = some (.inl (5, eF c (nI ws.length) st.length)) ∧ XW c h ws ∧ XB c h vs bd ∧ (∃ f, h.1 (c + 13) = some (.inr (true, .int, 100, .inl f)) ∧ ∀ j ox, st.reverse[j]? = some ox → AR vs (f j) ox) ∧ st.length ≤ 100 ∧ RE h (c + 14) ∧ KE c h 16
def mnB (o : Nat) : Bool := o == 23 || o == 24 || o == 29
section
variable (G : Nat → Nat) {c q0 : Nat} {h : hp_H} {vs : List vV} {ws : List (Nat × Int32)} {bd : Nat → Nat} {st : List (Option vV)}
theorem cl_many {o : Nat} (ho : o < 2 ^ 31) (h : hp_H) : m_E_takesMany G (nI o) h = some (bI (mnB o), h) := by
  unfold m_E_takesMany m_E_takesMany_18 m_E_takesMany_23 mnB
  simp only [ie_23 ho, ie_24 ho, ie_29 ho]
  by_cases a : o = 23
  · rw [if_pos a, a]; rfl
  · rw [if_neg a, beq_false_of_ne a, Bool.false_or]
    by_cases b : o = 24
    · rw [if_pos b, b]; rfl
    · rw [if_neg b, beq_false_of_ne b, Bool.false_or]
      by_cases d : o = 29
      · rw [if_pos d, d]; rfl
      · rw [if_neg d, beq_false_of_ne d]; rfl
theorem tkT_e : ∀ o, o < 42 → mnB o = false → ∀ a : Int32, tk (o, a) = tkT o := by
  intro o ho hm a
  have k : ∀ o, o < 42 → mnB o = false → tkT o = if o < 3 then 0 else if o = 22 ∨ o = 26 then 3 else if o = 3 ∨ (16 < o ∧ o < 22) ∨ o = 25 ∨ o = 27 ∨ o = 28 ∨ 34 < o then 1 else 2 := by decide +kernel
  rw [k o ho hm]
  have h3 : ¬ (o = 23 ∨ o = 29) ∧ ¬ o = 24 := by
    unfold mnB at hm
    simp at hm
    omega
  show (if o < 3 then 0 else if o = 23 ∨ o = 29 then a.toNatClampNeg else if o = 24 then a.toNatClampNeg + 1 else if o = 22 ∨ o = 26 then 3 else if o = 3 ∨ (16 < o ∧ o < 22) ∨ o = 25 ∨ o = 27 ∨ o = 28 ∨ 34 < o then 1 else 2) = _
  rw [if_neg h3.1, if_neg h3.2]
theorem cl_takenBy (hs : SC G c h) (w : Nat × Int32) (hw : wO w) : m_E_takenBy G (nI w.1) w.2 h = some (nI (tk w), h) := by
  obtain ⟨o, a⟩ := w
  have ho : o ≤ 41 := hw.1
  obtain ⟨wr, f, f1, f2⟩ := hs.2.2.2.1
  unfold m_E_takenBy m_E_takenBy_36
  show (if nI o < 0 then _ else _) = some (nI (tk (o, a)), h)
  rw [if_neg (nI_pos (by omega)), len_e f1, bs, if_pos (nI_lt (show o < 42 by omega) (by decide)), cl_many G (by omega) h, bs, aI_e f1 (show o < 42 by omega) (by decide), bs, bs, f2 o (by omega)]
  cases hm : mnB o with
  | false => rw [if_pos (show bI false = 0 from rfl), tkT_e o (by omega) hm a]
  | true =>
    rw [if_neg (show ¬ bI true = 0 by decide)]
    have h3 : o = 23 ∨ o = 24 ∨ o = 29 := by unfold mnB at hm; simp at hm; omega
    obtain ⟨m, m1, m2, -⟩ := hw.2 (by rcases h3 with e | e | e; exact Or.inl e; exact Or.inr (Or.inl e); exact Or.inr (Or.inr e))
    have m2 : a = nI m := m2
    subst m2
    rw [nI_add]
    refine congrArg (fun z => some (nI z, h)) ?_
    rcases h3 with e | e | e <;> subst e
    · show 0 + m = (nI m).toNatClampNeg
      rw [nI_clamp (by omega), Nat.zero_add]
    · show 1 + m = (nI m).toNatClampNeg + 1
      rw [nI_clamp (by omega), Nat.add_comm]
    · show 0 + m = (nI m).toNatClampNeg
      rw [nI_clamp (by omega), Nat.zero_add]
theorem tk_l1 {w : Nat × Int32} (hw : wO w) : tk w ≤ 21 := by
  obtain ⟨o, a⟩ := w
  have ho : o ≤ 41 := hw.1
  by_cases h3 : o = 23 ∨ o = 24 ∨ o = 29
  · obtain ⟨m, m1, m2, -⟩ := hw.2 h3
    have m2 : a = nI m := m2
    subst m2
    rcases h3 with e | e | e <;> subst e
    · show (nI m).toNatClampNeg ≤ 21
      rw [nI_clamp (by omega)]; omega
    · show (nI m).toNatClampNeg + 1 ≤ 21
      rw [nI_clamp (by omega)]; omega
    · show (nI m).toNatClampNeg ≤ 21
      rw [nI_clamp (by omega)]; omega
  · have hm : mnB o = false := by unfold mnB; simp; omega
    rw [tkT_e o (by omega) hm a]
    have : ∀ o, o < 42 → tkT o ≤ 21 := by decide
    exact this o (by omega)
theorem cl_isRight_4 (hs : SC G c h) {ln : Int32} {tp : Nat} (hE : h.1 (c + 9) = some (.inl (5, eF c (nI ws.length) tp))) (hW : XW c h ws) : ∀ (n k t : Nat), ws.length - k < n → k ≤ ws.length → t ≤ k → m_E_isRight_4 G n (c + 9) (nI t) (nI k) h = some (bI (rtL (ws.drop k) t), h)
  | 0, k, t, hn, _, _ => by omega
  | n + 1, k, t, hn, hk, ht => by
    obtain ⟨hl, fo, fn, w1, w2, w3⟩ := id hW
    rw [m_E_isRight_4, gI_e (k := 7) hE rfl, bs]
    simp only [nI_leI (show ws.length < 2 ^ 31 by omega) (show k < 2 ^ 31 by omega)]
    by_cases e : ws.length ≤ k
    · rw [if_pos e, List.drop_eq_nil_of_le e, rtL]
      unfold m_E_isRight_51 m_E_isRight_61
      simp only [ie_1 (show t < 2 ^ 31 by omega)]
      by_cases q : t = 1
      · rw [if_pos q, q]; rfl
      · rw [if_neg q, beq_false_of_ne q]; rfl
    · obtain ⟨w, hw⟩ : ∃ w, ws[k]? = some w := ⟨_, List.getElem?_eq_getElem (by omega)⟩
      have hdr : ws.drop k = w :: ws.drop (k + 1) := by
        obtain ⟨hk2, e⟩ := List.getElem?_eq_some_iff.mp hw
        rw [List.drop_eq_getElem_cons hk2, e]
      obtain ⟨a1, a2, a3⟩ := w3 k w hw
      have tl := tk_l1 a3
      rw [if_neg e, if_neg (show ¬ (100 : Int32) ≤ nI k from nI_ge (a := k) (b := 100) (by omega) (by decide)), gR_e (k := 1) hE rfl, bs, aI_e w1 (by omega) (by decide), bs, gR_e (k := 2) hE rfl, bs, aI_e w2 (by omega) (by decide), bs, a1, a2, cl_takenBy G hs w a3, bs, hp_nmE, nI_iI, nI_iI, iI_sub, hdr, rtL]
      have cnd : 0 ≤ iI ((t : Int) - (tk w : Int)) ↔ ¬ t < tk w := by
        rw [show (0 : Int32) = iI 0 from rfl, iI_le (by omega) (by omega) (by omega) (by omega)]; omega
      by_cases q : t < tk w
      · rw [if_neg (fun z => cnd.mp z q), if_pos q]; rfl
      · rw [if_pos (cnd.mpr q), if_neg q, hp_nmE, hp_nmE, show nI k + 1 = nI (k + 1) from nI_1 k, show iI ((t : Int) - (tk w : Int)) + 1 = nI (t + 1 - tk w) by rw [show (1 : Int32) = iI 1 from rfl, iI_add]; exact iI_nat (by omega)]
        by_cases t0 : tk w = 0
        · rw [t0, Nat.sub_zero]
          exact cl_isRight_4 hs (ln := ln) hE hW n (k + 1) (t + 1) (by omega) (by omega) (by omega)
        · exact cl_isRight_4 hs (ln := ln) hE hW n (k + 1) (t + 1 - tk w) (by omega) (by omega) (by omega)
theorem XX.s {h' : hp_H} {vs' : List vV} (X : XX G c q0 h vs ws bd st) (S : ST G c q0 h' vs') (O : vsO vs') (hv : ∃ l, vs' = vs ++ l) (F : fr c [2, 3, 14, 15, 16] h h') (R : RE h' (c + 14)) (K : KE c h' 16) : XX G c q0 h' vs' ws bd st := by
  obtain ⟨x1, x2, x3, ⟨x4, fo, fn, x5, x6, x7⟩, ⟨fb, x8, x9⟩, ⟨f, x10, x11⟩, x12, -, -⟩ := X
  obtain ⟨l, rfl⟩ := hv
  refine ⟨S, O, ?_, ⟨x4, fo, fn, ?_, ?_, x7⟩, ⟨fb, ?_, fun k hk => ⟨(x9 k hk).1, by have := (x9 k hk).2; rw [List.length_append]; omega⟩⟩, ⟨f, ?_, fun j ox hj => (x11 j ox hj).mono l⟩, x12, R, K⟩
  · rw [F.at 9 (by decide) (by simp)]; exact x3
  · rw [F.at 10 (by decide) (by simp)]; exact x5
  · rw [F.at 11 (by decide) (by simp)]; exact x6
  · rw [F.at 12 (by decide) (by simp)]; exact x8
  · rw [F.at 13 (by decide) (by simp)]; exact x10
/-- the top set anew -/
theorem XX.top (X : XX G c q0 h vs ws bd st) (t : Nat) : hp_p h (c + 9) 5 8 (.int (nI t)) = some (stC h (c + 9) (.inl (5, eF c (nI ws.length) t))) := p_e (k := 8) X.2.2.1 _ (show 8 < 9 by decide)
theorem rI_full {vs : List vV} (hl : vs.length ≤ 2000) {r : Option (Option vV)} : rI vs r = -3 ↔ r = none := by
  cases r with
  | none => exact ⟨fun _ => rfl, fun _ => rfl⟩
  | some ox =>
    cases ox with
    | none => exact ⟨fun q => absurd q (show ¬ (-4 : Int32) = -3 by decide), fun q => by cases q⟩
    | some x =>
      refine ⟨fun q => ?_, fun q => by cases q⟩
      have q : nI (vs.idxOf x + 1) = -3 := q
      have il : vs.idxOf x ≤ vs.length := List.idxOf_le_length
      exact absurd (show nI (vs.idxOf x + 1) < 0 by rw [q]; decide) (nI_pos (by omega))
end
