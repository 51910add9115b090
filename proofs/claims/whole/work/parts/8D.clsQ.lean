/-! THE CLASS: performing a word; the whole expression -/
def XB (c : Nat) (h : hp_H) (vs : List vV) (bd : Nat → Nat) : Prop := ∃ f, h.1 (c + 12) = some (.inr (true, .int, 10, .inl f)) ∧ ∀ k, k < 10 → f k = nI (bd k) ∧ bd k ≤ vs.length
theorem pe_0 (G : Nat → Nat) (e : Nat) (a2 : Int32) (h : hp_H) : m_E_performWithErrors G e (nI 0) a2 h = (hp_gR h e 5 0).bind fun x1 => (hp_vck h x1 1 (m_S_at G x1 a2 h)).bind fun q2 => (hp_gI q2.2 q2.1 3 0).bind fun x3 => if x3 = 0 then (m_E_performWithErrors_132 G (-4 : Int32) q2.2) else (m_E_performWithErrors_132 G a2 q2.2) := rfl
theorem pe_1 (G : Nat → Nat) (e : Nat) (a2 : Int32) (h : hp_H) : m_E_performWithErrors G e (nI 1) a2 h = (hp_vck h e 5 (m_E_boundTo G e a2 h)).bind fun q4 => if q4.1 ≤ 0 then (m_E_performWithErrors_151 G (-4 : Int32) q4.2) else ((hp_vck q4.2 e 5 (m_E_boundTo G e a2 q4.2)).bind fun q5 => m_E_performWithErrors_151 G q5.1 q5.2) := rfl
theorem pe_2 (G : Nat → Nat) (e : Nat) (a2 : Int32) (h : hp_H) : m_E_performWithErrors G e (nI 2) a2 h = (hp_gR h e 5 0).bind fun x6 => (hp_vck h e 5 (m_E_boundTo G e a2 h)).bind fun q7 => if q7.1 ≤ 0 then (m_E_performWithErrors_169 G (0 : Int32) x6 q7.2) else (m_E_performWithErrors_169 G (1 : Int32) x6 q7.2) := rfl
theorem pe_4 (G : Nat → Nat) (e : Nat) (a2 : Int32) (h : hp_H) : m_E_performWithErrors G e (nI 4) a2 h = (hp_vck h e 5 (m_E_decidedBy G e (0 : Int32) h)).bind fun q9 => some (q9.1, q9.2) := rfl
theorem pe_5 (G : Nat → Nat) (e : Nat) (a2 : Int32) (h : hp_H) : m_E_performWithErrors G e (nI 5) a2 h = (hp_vck h e 5 (m_E_decidedBy G e (1 : Int32) h)).bind fun q9 => some (q9.1, q9.2) := rfl
theorem pe_22 (G : Nat → Nat) (e : Nat) (a2 : Int32) (h : hp_H) : m_E_performWithErrors G e (nI 22) a2 h = (hp_vck h e 5 (m_E_chosen G e h)).bind fun q9 => some (q9.1, q9.2) := rfl
theorem pe_23 (G : Nat → Nat) (e : Nat) (a2 : Int32) (h : hp_H) : m_E_performWithErrors G e (nI 23) a2 h = (hp_vck h e 5 (m_E_firstGood G e a2 h)).bind fun q9 => some (q9.1, q9.2) := rfl
theorem pe_24 (G : Nat → Nat) (e : Nat) (a2 : Int32) (h : hp_H) : m_E_performWithErrors G e (nI 24) a2 h = (hp_vck h e 5 (m_E_among G e a2 h)).bind fun q9 => some (q9.1, q9.2) := rfl
section
variable (G : Nat → Nat) {c q0 : Nat} {h : hp_H} {vs : List vV} {t : Nat} {xs : List (Option vV)} {bd : Nat → Nat}
theorem cl_boundTo (X : XC G c q0 h vs t xs) (B : XB c h vs bd) (a : Int32) : m_E_boundTo G (c + 9) a h = some (bnV bd a, h) := by
  obtain ⟨ln, e⟩ := X.2.2.1
  obtain ⟨f, b1, b2⟩ := B
  unfold m_E_boundTo m_E_boundTo_19 m_E_boundTo_20 bnV
  by_cases c0 : a < 0
  · rw [if_pos c0, if_pos c0]
  · rw [if_neg c0, if_neg c0]
    by_cases c1 : 10 ≤ a
    · rw [if_pos c1, if_pos c1]
    · rw [if_neg c1, if_neg c1]
      obtain ⟨j, hj, rfl⟩ := nI_of c0
      have j10 : j < 10 := Nat.lt_of_not_le (fun q => c1 (nI_le (a := 10) q hj))
      rw [gR_e (k := 3) e rfl, bs, aI_e b1 j10 (by decide), bs, (b2 j j10).1, nI_clamp hj]
theorem bn_AR (X : XC G c q0 h vs t xs) (B : XB c h vs bd) (a : Int32) : (bnV bd a ≤ 0 → vAt vs (bnV bd a) = none) ∧ (¬ bnV bd a ≤ 0 → AR vs (bnV bd a) (vAt vs (bnV bd a))) := by
  obtain ⟨f, b1, b2⟩ := B
  have hl := X.2.1.2.1
  refine ⟨fun q => by unfold vAt; rw [if_neg (i_gt0 q)], fun q => ?_⟩
  have q := i_nle q
  unfold bnV at q ⊢
  by_cases c0 : a < 0
  · rw [if_pos c0] at q; exact absurd q (by decide)
  · rw [if_neg c0] at q ⊢
    by_cases c1 : 10 ≤ a
    · rw [if_pos c1] at q; exact absurd q (by decide)
    · rw [if_neg c1] at q ⊢
      obtain ⟨j, hj, rfl⟩ := nI_of c0
      have j10 : j < 10 := Nat.lt_of_not_le (fun z => c1 (nI_le (a := 10) z hj))
      rw [nI_clamp hj] at q ⊢
      have bl := (b2 j j10).2
      have b0 : bd j ≠ 0 := fun z => by rw [z] at q; exact absurd q (by decide)
      obtain ⟨i, hi⟩ : ∃ i, bd j = i + 1 := ⟨bd j - 1, by omega⟩
      rw [hi, vAt_n vs i (by omega), List.getElem?_eq_getElem (show i < vs.length by omega)]
      exact Or.inr ⟨i, _, rfl, rfl, List.getElem?_eq_getElem (show i < vs.length by omega)⟩
/-- words that bear errors -/
def brB (o : Nat) : Bool := o == 0 || o == 1 || o == 2 || o == 4 || o == 5 || o == 22 || o == 23 || o == 24
theorem cl_bears : ∀ o, o < 42 → ∀ h : hp_H, m_E_bearsErrors G (nI o) h = some (bI (brB o), h) := by
  intro o ho h
  have key : ∀ o, o < 42 → (if nI o ≤ 2 then (1 : Int32) else if nI o = 4 then 1 else if nI o = 5 then 1 else if nI o < 22 then 0 else if 24 < nI o then 0 else 1) = bI (brB o) := by decide +kernel
  have k := key o ho
  unfold m_E_bearsErrors m_E_bearsErrors_27 m_E_bearsErrors_31 m_E_bearsErrors_32
  have z1 : hp_z 1 h = some (1, h) := rfl
  have z0 : hp_z 0 h = some (0, h) := rfl
  rw [z1, z0]
  by_cases a : nI o ≤ 2
  · rw [if_pos a] at k ⊢; rw [k]
  · rw [if_neg a] at k ⊢
    by_cases b : nI o = 4
    · rw [if_pos b] at k ⊢; rw [k]
    · rw [if_neg b] at k ⊢
      by_cases d : nI o = 5
      · rw [if_pos d] at k ⊢; rw [k]
      · rw [if_neg d] at k ⊢
        by_cases e : nI o < 22
        · rw [if_pos e] at k ⊢; rw [k]
        · rw [if_neg e] at k ⊢
          by_cases f : 24 < nI o
          · rw [if_pos f] at k ⊢; rw [k]
          · rw [if_neg f] at k ⊢; rw [k]
theorem cl_withErrors (X : XC G c q0 h vs t xs) (B : XB c h vs bd) (w : Nat × Int32) (hw : wO w) (hl : xs.length = tk w) (hb : brB w.1 = true) : CE G c q0 h (m_E_performWithErrors G (c + 9) (nI w.1) w.2 h) (rI (dnV vs bd w xs).2 (dnV vs bd w xs).1, (dnV vs bd w xs).2) := by
  obtain ⟨o, a⟩ := w
  have ho : o = 0 ∨ o = 1 ∨ o = 2 ∨ o = 4 ∨ o = 5 ∨ o = 22 ∨ o = 23 ∨ o = 24 := by unfold brB at hb; simp at hb; omega
  rcases ho with e | e | e | e | e | e | e | e <;> subst e
  · rw [pe_0, X.g0, bs, X.sk]
    obtain ⟨p, p1, p2⟩ := cl_at G X.1 X.2.1.2.1 a
    rw [p1, bs, p2.g0, bs]
    show CE G c q0 h _ (rI vs (some (vAt vs a)), vs)
    unfold m_E_performWithErrors_132
    cases z : vAt vs a with
    | none => rw [if_pos (show nI ((none : Option vV).getD vD).1 = 0 from rfl)]; exact xc_is G X (Or.inl ⟨rfl, rfl⟩)
    | some x =>
      obtain ⟨i, -, hx⟩ := vAt_some z
      have qx := X.2.1.2.2 x (List.mem_of_getElem? hx)
      have o1 := qx.1.1
      have o2 := qx.1.2.1
      rw [if_neg (show ¬ nI ((some x).getD vD).1 = 0 from nI_ne0 (show 0 < x.1 by omega) (show x.1 < 2 ^ 31 by omega))]
      exact xc_is G X (vAt_AR z)
  · rw [pe_1, X.k, cl_boundTo G X B, bs, X.k, cl_boundTo G X B, bs]
    show CE G c q0 h _ (rI vs (some (vAt vs (bnV bd a))), vs)
    unfold m_E_performWithErrors_151
    obtain ⟨b1, b2⟩ := bn_AR G X B a
    by_cases q : bnV bd a ≤ 0
    · rw [if_pos q, b1 q]; exact xc_is G X (Or.inl ⟨rfl, rfl⟩)
    · rw [if_neg q]; exact xc_is G X (b2 q)
  · rw [pe_2, X.g0, bs, X.k, cl_boundTo G X B, bs]
    unfold m_E_performWithErrors_169
    rw [X.sk, bq, X.sk, bq]
    show CE G c q0 h _ (rI (kV vs (some (trV (decide (0 < bnV bd a))))).2 (kV vs (some (trV (decide (0 < bnV bd a))))).1, (kV vs (some (trV (decide (0 < bnV bd a))))).2)
    refine CE.kV G ?_
    by_cases q : bnV bd a ≤ 0
    · rw [if_pos q, decide_eq_false (i_gt0 q)]; exact cl_tr G X false
    · rw [if_neg q, decide_eq_true (i_nle q)]; exact cl_tr G X true
  · rw [pe_4, X.k, bq]
    exact CE.kV G (cl_decidedBy G X hl false)
  · rw [pe_5, X.k, bq]
    exact CE.kV G (cl_decidedBy G X hl true)
  · rw [pe_22, X.k, bq]
    exact cl_chosen G X hl
  · obtain ⟨m, m1, m2, -⟩ := hw.2 (Or.inl rfl)
    have m2 : a = nI m := m2
    subst m2
    have hl : xs.length = (nI m).toNatClampNeg := hl
    rw [nI_clamp (by omega)] at hl
    rw [pe_23, X.k, bq]
    show CE G c q0 h (m_E_firstGood G (c + 9) (nI m) h) _
    rw [← hl]
    exact cl_firstGood G X (by omega)
  · obtain ⟨m, m1, m2, -⟩ := hw.2 (Or.inr (Or.inl rfl))
    have m2 : a = nI m := m2
    subst m2
    have hl : xs.length = (nI m).toNatClampNeg + 1 := hl
    rw [nI_clamp (by omega)] at hl
    rw [pe_24, X.k, bq]
    exact CE.kV G (cl_among G X m hl m1)
theorem cl_onValues (X : XC G c q0 h vs t xs) (w : Nat × Int32) (hw : wO w) (hl : xs.length = tk w) (hb : brB w.1 = false) {ys : List vV} (hy : alV xs = some ys) : CE G c q0 h (m_E_performOnValues G (c + 9) (nI w.1) w.2 h) (kq vs (valL w.1 ys)) := by
  have ex := al_at hy
  have ly : ys.length = tk w := by rw [← hl, ex, List.length_map]
  obtain ⟨o, a⟩ := w
  have ho := hw.1
  have nb : ¬ (o = 0 ∨ o = 1 ∨ o = 2 ∨ o = 4 ∨ o = 5 ∨ o = 22 ∨ o = 23 ∨ o = 24) := fun q => by
    have : brB o = true := by unfold brB; simp; omega
    rw [this] at hb; cases hb
  have g : ∀ j, j < ys.length → xs.getD j none = some (ys.getD j vD) := fun j hj => al_gt ex (by rw [List.getD_eq_getElem?_getD, List.getElem?_eq_getElem hj]; rfl)
  have ho : o ≤ 41 := ho
  have t1 : ∀ n, tk (o, a) = n → ys.length = n := fun n q => ly.trans q
  by_cases e29 : o = 29
  · subst e29
    obtain ⟨m, m1, m2, -⟩ := hw.2 (Or.inr (Or.inr rfl))
    have m2 : a = nI m := m2
    subst m2
    have ly : ys.length = (nI m).toNatClampNeg := ly
    rw [nI_clamp (by omega)] at ly
    rw [pv_29, X.k, bq]
    show CE G c q0 h (m_E_chained G (c + 9) (nI m) h) (kq vs (rwV ys))
    rw [← ly]
    exact cl_chained G X ys ex (by omega)
  · have hv : ∀ z, valL o ys = z → CE G c q0 h (m_E_performOnValues G (c + 9) (nI o) a h) (kq vs z) → CE G c q0 h (m_E_performOnValues G (c + 9) (nI (o, a).1) (o, a).2 h) (kq vs (valL (o, a).1 ys)) := fun z e q => by
      show CE G c q0 h _ (kq vs (valL o ys))
      rw [e]; exact q
    by_cases e26 : o = 26
    · subst e26
      have l3 := t1 3 rfl
      refine hv (smV (ys.getD 0 vD) (ys.getD 1 vD) (ys.getD 2 vD)) rfl ?_
      rw [pv_26, X.k, bq]
      exact cl_opPart G X (g 0 (by omega)) (g 1 (by omega)) (g 2 (by omega))
    · by_cases two : 6 ≤ o ∧ o ≤ 16 ∨ 30 ≤ o ∧ o ≤ 34
      · have l2 : ys.length = 2 := t1 2 (by
          show (if o < 3 then 0 else if o = 23 ∨ o = 29 then a.toNatClampNeg else if o = 24 then a.toNatClampNeg + 1 else if o = 22 ∨ o = 26 then 3 else if o = 3 ∨ (16 < o ∧ o < 22) ∨ o = 25 ∨ o = 27 ∨ o = 28 ∨ 34 < o then 1 else 2) = 2
          rw [if_neg (by omega), if_neg (by omega), if_neg (by omega), if_neg (by omega), if_neg (by omega)])
        have g0 := g 0 (by omega)
        have g1 := g 1 (by omega)
        refine hv (val2 o (ys.getD 0 vD) (ys.getD 1 vD)) (by unfold valL; rw [if_neg e29, if_neg e26, if_pos two]) ?_
        obtain ⟨c8, c9, c10, c11⟩ := cl_opCmp G X g0 g1 a
        obtain ⟨c6, c7⟩ := cl_opEq G X g0 g1 a
        have ar : ∀ o, 30 ≤ o → val2 o (ys.getD 0 vD) (ys.getD 1 vD) = arV o (ys.getD 0 vD) (ys.getD 1 vD) := fun o h30 => by
          unfold val2
          rw [if_neg (by omega), if_neg (by omega), if_neg (by omega), if_neg (by omega), if_neg (by omega), if_neg (by omega), if_neg (by omega), if_pos (by omega)]
        have ps : ∀ o, 30 ≤ o → o ≤ 34 → m_E_performOnValues G (c + 9) (nI o) a h = m_E_searched G (c + 9) (nI o) h := fun o h1 h2 => by
          rcases (show o = 30 ∨ o = 31 ∨ o = 32 ∨ o = 33 ∨ o = 34 by omega) with e | e | e | e | e <;> subst e
          · rw [pv_30, X.k, bq]
          · rw [pv_31, X.k, bq]
          · rw [pv_32, X.k, bq]
          · rw [pv_33, X.k, bq]
          · rw [pv_34, X.k, bq]
        have pr : ∀ o, 13 ≤ o → o ≤ 16 → m_E_performOnValues G (c + 9) (nI o) a h = m_E_reckoned G (c + 9) (nI o) h := fun o h1 h2 => by
          rcases (show o = 13 ∨ o = 14 ∨ o = 15 ∨ o = 16 by omega) with e | e | e | e <;> subst e
          · rw [pv_13, X.k, bq]
          · rw [pv_14, X.k, bq]
          · rw [pv_15, X.k, bq]
          · rw [pv_16, X.k, bq]
        by_cases s30 : 30 ≤ o
        · rw [ar o s30, ps o s30 (by omega)]; exact cl_searched G X g0 g1 o s30 (by omega)
        · by_cases s13 : 13 ≤ o
          · rw [pr o s13 (by omega)]; exact cl_reckoned G X g0 g1 o s13 (by omega)
          · rcases (show o = 6 ∨ o = 7 ∨ o = 8 ∨ o = 9 ∨ o = 10 ∨ o = 11 ∨ o = 12 by omega) with e | e | e | e | e | e | e <;> subst e
            · exact c6
            · exact c7
            · exact c8
            · exact c9
            · exact c10
            · exact c11
            · exact cl_opSame G X g0 g1 a
      · have l1 : ys.length = 1 := t1 1 (by
          show (if o < 3 then 0 else if o = 23 ∨ o = 29 then a.toNatClampNeg else if o = 24 then a.toNatClampNeg + 1 else if o = 22 ∨ o = 26 then 3 else if o = 3 ∨ (16 < o ∧ o < 22) ∨ o = 25 ∨ o = 27 ∨ o = 28 ∨ 34 < o then 1 else 2) = 1
          rw [if_neg (by omega), if_neg (by omega), if_neg (by omega), if_neg (by omega), if_pos (by omega)])
        have g0 := g 0 (by omega)
        refine hv (val1 o (ys.getD 0 vD)) (by unfold valL; rw [if_neg e29, if_neg e26, if_neg two]) ?_
        by_cases s35 : 35 ≤ o
        · have : m_E_performOnValues G (c + 9) (nI o) a h = m_E_ofAny G (c + 9) (nI o) h := by
            rcases (show o = 35 ∨ o = 36 ∨ o = 37 ∨ o = 38 ∨ o = 39 ∨ o = 40 ∨ o = 41 by omega) with e | e | e | e | e | e | e <;> subst e
            · rw [pv_35, X.k, bq]
            · rw [pv_36, X.k, bq]
            · rw [pv_37, X.k, bq]
            · rw [pv_38, X.k, bq]
            · rw [pv_39, X.k, bq]
            · rw [pv_40, X.k, bq]
            · rw [pv_41, X.k, bq]
          rw [this]; exact cl_ofAny G X g0 o s35 ho
        · by_cases s25 : 25 ≤ o
          · have : m_E_performOnValues G (c + 9) (nI o) a h = m_E_ofText G (c + 9) (nI o) h := by
              rcases (show o = 25 ∨ o = 27 ∨ o = 28 by omega) with e | e | e <;> subst e
              · rw [pv_25, X.k, bq]
              · rw [pv_27, X.k, bq]
              · rw [pv_28, X.k, bq]
            rw [this]; exact cl_ofText G X g0 o (by omega)
          · by_cases s17 : 17 ≤ o
            · have : m_E_performOnValues G (c + 9) (nI o) a h = m_E_ofNumber G (c + 9) (nI o) h := by
                rcases (show o = 17 ∨ o = 18 ∨ o = 19 ∨ o = 20 ∨ o = 21 by omega) with e | e | e | e | e <;> subst e
                · rw [pv_17, X.k, bq]
                · rw [pv_18, X.k, bq]
                · rw [pv_19, X.k, bq]
                · rw [pv_20, X.k, bq]
                · rw [pv_21, X.k, bq]
              rw [this]; exact cl_ofNumber G X g0 o s17 (by omega)
            · have : o = 3 := by omega
              subst this
              exact cl_opNot G X g0 a
end
