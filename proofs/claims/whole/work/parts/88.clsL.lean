/-! THE CLASS: the expression; what was taken -/
def eF (c : Nat) (ln : Int32) (t : Nat) : List Value := [.ref (c + 1), .ref (c + 10), .ref (c + 11), .ref (c + 12), .ref (c + 13), .ref (c + 14), .ref (c + 16), .int ln, .int (nI t)]
def KE (c : Nat) (h : hp_H) (k : Nat) : Prop := ∃ g w a s, KR c h k g w a s
def RE (h : hp_H) (r : Nat) : Prop := ∃ L, RR h r L
def XC (G : Nat → Nat) (c q0 : Nat) (h : hp_H) (vs : List vV) (t : Nat) (xs : List (Option vV)) : Prop := ST G c q0 h vs ∧ vsO vs ∧ (∃ ln, h.1 (c + 9) = some (.inl (5, eF c ln t))) ∧ (∃ f, h.1 (c + 13) = some (.inr (true, .int, 100, .inl f)) ∧ ∀ j ox, xs[j]? = some ox → AR vs (f (t + j)) ox) ∧ t + xs.length ≤ 100 ∧ RE h (c + 14) ∧ KE c h 16
/-- what an operation does -/
def CE (G : Nat → Nat) (c q0 : Nat) (h : hp_H) (m : Option (Int32 × hp_H)) (r : Int32 × List vV) : Prop := ∃ h', m = some (r.1, h') ∧ ST G c q0 h' r.2 ∧ fr c [2, 3, 14, 15, 16] h h' ∧ RE h' (c + 14) ∧ KE c h' 16
theorem CE.of {G : Nat → Nat} {c q0 : Nat} {K : List Nat} {h h1 : hp_H} {m : Option (Int32 × hp_H)} {r : Int32 × List vV} (C : chg c K h h1) (hK : ∀ k ∈ K, k ∈ [2, 3, 14, 15, 16]) (R : RE h1 (c + 14)) (E : KE c h1 16) (q : CK G c q0 [2, 3] h1 m r) : CE G c q0 h m r := by
  obtain ⟨h', e1, e2, e3⟩ := q
  obtain ⟨L, R⟩ := R
  obtain ⟨g, w, a, s, E1, E2⟩ := E
  refine ⟨h', e1, e2, ?_, ⟨L, R.f e3 (by decide) (by simp) (by simp)⟩, g, w, a, s, ?_, E2⟩
  · exact fr.tr (C.f.mono hK) (e3.mono (by simp))
  · rw [e3.at 16 (by decide) (by simp)]; exact E1
section
variable (G : Nat → Nat) {c q0 : Nat} {h : hp_H} {vs : List vV} {t : Nat} {xs : List (Option vV)}
theorem XC.ce (X : XC G c q0 h vs t xs) {m : Option (Int32 × hp_H)} {r : Int32 × List vV} (q : CK G c q0 [2, 3] h m r) : CE G c q0 h m r := CE.of (K := []) chg.rf (by simp) X.2.2.2.2.2.1 X.2.2.2.2.2.2 q
theorem XC.no (X : XC G c q0 h vs t xs) : CE G c q0 h (some (-4, h)) (kq vs none) := X.ce G ⟨h, rfl, X.1, fr.rf⟩
theorem XC.k (X : XC G c q0 h vs t xs) {β : Type} (Y : Option β) : hp_vck h (c + 9) 5 Y = Y := by
  obtain ⟨ln, e⟩ := X.2.2.1
  exact vck_e e Y
theorem XC.g0 (X : XC G c q0 h vs t xs) : hp_gR h (c + 9) 5 0 = some (c + 1) := by
  obtain ⟨ln, e⟩ := X.2.2.1
  exact gR_e e rfl
theorem XC.g5 (X : XC G c q0 h vs t xs) : hp_gR h (c + 9) 5 5 = some (c + 14) := by
  obtain ⟨ln, e⟩ := X.2.2.1
  exact gR_e e rfl
theorem XC.g6 (X : XC G c q0 h vs t xs) : hp_gR h (c + 9) 5 6 = some (c + 16) := by
  obtain ⟨ln, e⟩ := X.2.2.1
  exact gR_e e rfl
theorem XC.sk (X : XC G c q0 h vs t xs) {β : Type} (Y : Option β) : hp_vck h (c + 1) 1 Y = Y := vck_e X.1.2.1 Y
theorem XC.cg {h' : hp_H} (X : XC G c q0 h vs t xs) {K : List Nat} (C : chg c K h h') (hK : ∀ k ∈ K, k ∈ [14, 15, 16]) (R : RE h' (c + 14)) (E : KE c h' 16) : XC G c q0 h' vs t xs := by
  obtain ⟨x1, x2, ⟨ln, x3⟩, ⟨f, x4, x5⟩, x6, -, -⟩ := X
  have n : ∀ k, k ∈ K → k = 14 ∨ k = 15 ∨ k = 16 := fun k hk => by have := hK k hk; simp at this; omega
  refine ⟨x1.c C (fun k hk => by have := n k hk; omega), x2, ⟨ln, ?_⟩, ⟨f, ?_, x5⟩, x6, R, E⟩
  · rw [C.at 9 (fun z => by have := n 9 z; omega)]; exact x3
  · rw [C.at 13 (fun z => by have := n 13 z; omega)]; exact x4
theorem AR_vAt {a : Int32} {ox : Option vV} (hl : vs.length ≤ 2000) (q : AR vs a ox) : vAt vs a = ox := by
  cases ox with
  | none => rw [AR_n q]; rfl
  | some x =>
    obtain ⟨i, rfl, hx⟩ := AR_s q
    have := (List.getElem?_eq_some_iff.mp hx).1
    rw [vAt_n vs i (by omega)]; exact hx
theorem xc_number (X : XC G c q0 h vs t xs) {j : Nat} (hj : j < xs.length) : ∃ a, m_E_numberTaken G (c + 9) (nI j) h = some (a, h) ∧ AR vs a (xs.getD j none) := by
  obtain ⟨x1, x2, ⟨ln, x3⟩, ⟨f, x4, x5⟩, x6, -, -⟩ := X
  unfold m_E_numberTaken m_E_numberTaken_28
  rw [gI_e (k := 8) x3 rfl, bs, hp_nmE, nI_add, if_neg (nI_pos (by omega)), if_neg (show ¬ (100 : Int32) ≤ nI (t + j) from nI_ge (a := t + j) (b := 100) (by omega) (by decide)), gR_e (k := 4) x3 rfl, bs, aI_e x4 (by omega) (by decide), bs]
  refine ⟨_, rfl, x5 j _ ?_⟩
  rw [List.getD_eq_getElem?_getD, List.getElem?_eq_getElem hj]; rfl
theorem xc_numberAny (X : XC G c q0 h vs t xs) : ∃ a, m_E_numberTaken G (c + 9) 0 h = some (a, h) := by
  obtain ⟨x1, x2, ⟨ln, x3⟩, ⟨f, x4, x5⟩, x6, -, -⟩ := X
  unfold m_E_numberTaken m_E_numberTaken_26 m_E_numberTaken_28
  rw [gI_e (k := 8) x3 rfl, bs, hp_nmE, Int32.add_zero, if_neg (nI_pos (by omega)), show (100 : Int32) = nI 100 from rfl]
  simp only [nI_leI (show 100 < 2 ^ 31 by decide) (show t < 2 ^ 31 by omega)]
  by_cases e : 100 ≤ t
  · rw [if_pos e]; exact ⟨_, rfl⟩
  · rw [if_neg e, gR_e (k := 4) x3 rfl, bs, aI_e x4 (by omega) (by decide), bs]; exact ⟨_, rfl⟩
theorem xc_taken (X : XC G c q0 h vs t xs) {j : Nat} (hj : j < xs.length) : ∃ p, m_E_taken G (c + 9) (nI j) h = some (p, h) ∧ VP c h p ((xs.getD j none).getD vD) := by
  obtain ⟨a, e1, e2⟩ := xc_number G X hj
  obtain ⟨p, e3, e4⟩ := cl_at G X.1 X.2.1.2.1 a
  unfold m_E_taken
  rw [X.g0, bs, X.k, e1, bs, X.sk, e3, bs]
  rw [AR_vAt X.2.1.2.1 e2] at e4
  exact ⟨p, rfl, e4⟩
theorem xc_takenAny (X : XC G c q0 h vs t xs) : ∃ p x, m_E_taken G (c + 9) 0 h = some (p, h) ∧ VP c h p x := by
  obtain ⟨a, e1⟩ := xc_numberAny G X
  obtain ⟨p, e3, e4⟩ := cl_at G X.1 X.2.1.2.1 a
  unfold m_E_taken
  rw [X.g0, bs, X.k, e1, bs, X.sk, e3, bs]
  exact ⟨p, _, rfl, e4⟩
theorem xc_mem (X : XC G c q0 h vs t xs) {j : Nat} {x : vV} (hx : xs.getD j none = some x) : j < xs.length ∧ vO x ∧ x.2.2.2.2.length ≤ 64 ∧ vW x ∧ x ∈ vs := by
  have hj : j < xs.length := by
    refine Nat.lt_of_not_le (fun q => ?_)
    rw [List.getD_eq_getElem?_getD, List.getElem?_eq_none q] at hx
    cases hx
  obtain ⟨a, -, e2⟩ := xc_number G X hj
  rw [hx] at e2
  obtain ⟨i, -, hi⟩ := AR_s e2
  have := X.2.1.2.2 x (List.mem_of_getElem? hi)
  exact ⟨hj, this.1, this.2, this.1.W this.2, List.mem_of_getElem? hi⟩
theorem xc_val (X : XC G c q0 h vs t xs) {j : Nat} {x : vV} (hx : xs.getD j none = some x) : ∃ p, m_E_taken G (c + 9) (nI j) h = some (p, h) ∧ VP c h p x := by
  obtain ⟨p, e1, e2⟩ := xc_taken G X (xc_mem G X hx).1
  rw [hx] at e2
  exact ⟨p, e1, e2⟩
theorem xc_numV (X : XC G c q0 h vs t xs) {j : Nat} {x : vV} (hx : xs.getD j none = some x) : ∃ i, m_E_numberTaken G (c + 9) (nI j) h = some (nI (i + 1), h) ∧ vs[i]? = some x := by
  obtain ⟨a, e1, e2⟩ := xc_number G X (xc_mem G X hx).1
  rw [hx] at e2
  obtain ⟨i, rfl, hi⟩ := AR_s e2
  exact ⟨i, e1, hi⟩
/-- whether what was found is what is wanted -/
theorem cl_judged (X : XC G c q0 h vs t xs) (o : Option Bool) (w : Bool) : CE G c q0 h (m_E_judged G (c + 9) (tI o) (bI w) h) (kq vs ((o.map (fun b => b == w)).map trV)) := by
  unfold m_E_judged m_E_judged_25 m_E_judged_28
  cases o with
  | none => rw [if_pos (show tI none = -4 from rfl)]; exact X.no G
  | some b =>
    rw [if_neg (show ¬ tI (some b) = -4 by cases b <;> decide), X.g0, bs]
    have : tI (some b) = bI b := rfl
    rw [this]
    have e : bI b = bI w ↔ (b == w) = true := by cases b <;> cases w <;> decide
    cases z : (b == w) with
    | true =>
      rw [if_pos (e.mpr z), X.sk, bq]
      have := X.ce G (cl_keepTruth G X.1 X.2.1 true)
      simp only [Option.map_some, z]
      exact this
    | false =>
      rw [if_neg (fun q => by rw [e.mp q] at z; cases z), X.sk, bq]
      have := X.ce G (cl_keepTruth G X.1 X.2.1 false)
      simp only [Option.map_some, z]
      exact this
theorem cl_opNot (X : XC G c q0 h vs t xs) {x : vV} (hx : xs.getD 0 none = some x) (a2 : Int32) : CE G c q0 h (m_E_performOnValues G (c + 9) (nI 3) a2 h) (kq vs (val1 3 x)) := by
  obtain ⟨-, ox, -, wx, -⟩ := xc_mem G X hx
  obtain ⟨p, e1, e2⟩ := xc_val G X hx
  unfold m_E_performOnValues
  rw [if_pos (show nI 3 = 3 from rfl), X.k, show (0 : Int32) = nI 0 from rfl, e1, bs, e2.k, cl_truthOf G e2 wx ox.2.2.2.2.2.1, bs, X.k, bq]
  have := cl_judged G X (truV x) false
  have e : val1 3 x = ((truV x).map (fun b => b == false)).map trV := by
    unfold val1
    rw [if_pos (show 3 = 3 from rfl)]
    cases truV x with
    | none => rfl
    | some b => cases b <;> rfl
  rw [e]
  exact this
theorem cl_equal (X : XC G c q0 h vs t xs) {i j : Nat} {x y : vV} (hx : vs[i]? = some x) (hy : vs[j]? = some y) : m_E_equal G (c + 9) (nI (i + 1)) (nI (j + 1)) h = some (tI (eqV x y), h) := by
  have hl := X.2.1.2.1
  have il := (List.getElem?_eq_some_iff.mp hx).1
  have jl := (List.getElem?_eq_some_iff.mp hy).1
  have qx := X.2.1.2.2 x (List.mem_of_getElem? hx)
  have qy := X.2.1.2.2 y (List.mem_of_getElem? hy)
  have wx := qx.1.W qx.2
  have wy := qy.1.W qy.2
  have x1 := wx.1
  have y1 := wy.1
  have x0 := qx.1.1
  have y0 := qy.1.1
  obtain ⟨p, p1, p2⟩ := cl_at G X.1 hl (nI (i + 1))
  obtain ⟨r, r1, r2⟩ := cl_at G X.1 hl (nI (j + 1))
  rw [vAt_n vs i (by omega), hx] at p2
  rw [vAt_n vs j (by omega), hy] at r2
  have p2 : VP c h p x := p2
  have r2 : VP c h r y := r2
  have same : nI (i + 1) = nI (j + 1) ↔ x = y := by
    rw [nI_eq (by omega) (by omega)]
    constructor
    · intro e
      have : i = j := by omega
      subst this
      rw [hx] at hy; exact Option.some.inj hy
    · intro e
      subst e
      rw [← idx_at X.2.1.1 hx, ← idx_at X.2.1.1 hy]
  have rest : (nbV x && nbV y) = false → m_E_equal_67 G (nI (i + 1)) (nI (j + 1)) p r h = some (tI (eqV x y), h) := fun nn => by
    unfold m_E_equal_67 m_E_equal_92 m_E_equal_110 m_E_equal_114 m_E_equal_115 m_E_equal_128 eqV
    rw [nn, if_neg (show ¬ false = true by decide)]
    by_cases e : x = y
    · rw [if_pos (same.mpr e), if_pos e]; rfl
    · rw [if_neg (fun q => e (same.mp q)), if_neg e, p2.g0, bs, r2.g0, bs, bs, bs, show (3 : Int32) = nI 3 from rfl]
      simp only [ie_7 (show x.1 < 2 ^ 31 by omega), ie_7 (show y.1 < 2 ^ 31 by omega), nI_leI (show 3 < 2 ^ 31 by decide) (show y.1 < 2 ^ 31 by omega), nI_ltI (show x.1 < 2 ^ 31 by omega) (show 3 < 2 ^ 31 by decide), hp_nmE, if_neg (show ¬ (1 : Int32) = 0 by decide), if_pos (show (0 : Int32) = 0 from rfl)]
      by_cases a : x.1 = 7
      · rw [if_pos a]
        by_cases b : 3 ≤ y.1
        · rw [if_pos b, if_pos (show (x.1 = 7 ∨ y.1 = 7) ∧ 2 < x.1 ∧ 2 < y.1 by omega)]; rfl
        · rw [if_neg b, if_neg (show ¬ y.1 = 7 by omega), if_neg (show ¬ ((x.1 = 7 ∨ y.1 = 7) ∧ 2 < x.1 ∧ 2 < y.1) by omega)]; rfl
      · rw [if_neg a]
        by_cases b : y.1 = 7
        · rw [if_pos b]
          by_cases d : x.1 < 3
          · rw [if_pos d, if_neg (show ¬ ((x.1 = 7 ∨ y.1 = 7) ∧ 2 < x.1 ∧ 2 < y.1) by omega)]; rfl
          · rw [if_neg d, if_pos (show (x.1 = 7 ∨ y.1 = 7) ∧ 2 < x.1 ∧ 2 < y.1 by omega)]; rfl
        · rw [if_neg b, if_neg (show ¬ ((x.1 = 7 ∨ y.1 = 7) ∧ 2 < x.1 ∧ 2 < y.1) by omega)]; rfl
  unfold m_E_equal m_E_equal_66
  rw [X.g0, bs, X.sk, p1, bs, hp_nmE, X.g0, bs, X.sk, r1, bs, hp_nmE, p2.g0, bs, if_neg (nI_ne0 (by omega) (by omega)), r2.g0, bs, if_neg (nI_ne0 (by omega) (by omega)), p2.k, cl_isNumber G p2 x1, bs]
  cases hn : nbV x with
  | false => rw [if_pos (show bI false = 0 from rfl)]; exact rest (by rw [hn]; rfl)
  | true =>
    rw [if_neg (show ¬ bI true = 0 by decide), r2.k, cl_isNumber G r2 y1, bs]
    cases hm : nbV y with
    | false => rw [if_pos (show bI false = 0 from rfl)]; exact rest (by rw [hn, hm]; rfl)
    | true =>
      rw [if_neg (show ¬ bI true = 0 by decide), p2.k, cl_byAmount G X.1.2.2.2.2.2.2 p2 r2 wx wy, bs]
      unfold eqV
      rw [hn, hm, if_pos (show (true && true) = true from rfl)]
      by_cases z : am9 x - am9 y = 0
      · rw [if_pos ((sgI_0 _).mpr z), decide_eq_true z]; rfl
      · rw [if_neg (fun q => z ((sgI_0 _).mp q)), decide_eq_false z]; rfl
theorem cl_opEq (X : XC G c q0 h vs t xs) {x y : vV} (hx : xs.getD 0 none = some x) (hy : xs.getD 1 none = some y) (a2 : Int32) : CE G c q0 h (m_E_performOnValues G (c + 9) (nI 6) a2 h) (kq vs (val2 6 x y)) ∧ CE G c q0 h (m_E_performOnValues G (c + 9) (nI 7) a2 h) (kq vs (val2 7 x y)) := by
  obtain ⟨i, e1, e2⟩ := xc_numV G X hx
  obtain ⟨j, f1, f2⟩ := xc_numV G X hy
  have go : ∀ o, m_E_performOnValues_31 G (c + 9) o h = if o = 6 then m_E_judged G (c + 9) (tI (eqV x y)) (bI true) h else m_E_judged G (c + 9) (tI (eqV x y)) (bI false) h := fun o => by
    unfold m_E_performOnValues_31 m_E_performOnValues_57
    rw [X.k, show (0 : Int32) = nI 0 from rfl, e1, bs, X.k, show (1 : Int32) = nI 1 from rfl, f1, bs, X.k, cl_equal G X e2 f2, bs, X.k, bq, X.k, bq]
    rfl
  unfold m_E_performOnValues
  rw [if_neg (show ¬ nI 6 = 3 by decide), if_pos (show nI 6 = 6 from rfl), if_neg (show ¬ nI 7 = 3 by decide), if_neg (show ¬ nI 7 = 6 by decide), if_pos (show nI 7 = 7 from rfl), go, go, if_pos (show nI 6 = 6 from rfl), if_neg (show ¬ nI 7 = 6 by decide), val2_6, val2_7]
  constructor
  · have := cl_judged G X (eqV x y) true
    have e : (eqV x y).map (fun b => b == true) = eqV x y := by cases eqV x y with
      | none => rfl
      | some b => cases b <;> rfl
    rw [e] at this
    exact this
  · have := cl_judged G X (eqV x y) false
    have e : (eqV x y).map (fun b => b == false) = (eqV x y).map (! ·) := by cases eqV x y with
      | none => rfl
      | some b => cases b <;> rfl
    rw [e] at this
    exact this
theorem cl_opSame (X : XC G c q0 h vs t xs) {x y : vV} (hx : xs.getD 0 none = some x) (hy : xs.getD 1 none = some y) (a2 : Int32) : CE G c q0 h (m_E_performOnValues G (c + 9) (nI 12) a2 h) (kq vs (val2 12 x y)) := by
  obtain ⟨i, e1, e2⟩ := xc_numV G X hx
  obtain ⟨j, f1, f2⟩ := xc_numV G X hy
  have hl := X.2.1.2.1
  have il := (List.getElem?_eq_some_iff.mp e2).1
  have jl := (List.getElem?_eq_some_iff.mp f2).1
  unfold m_E_performOnValues m_E_performOnValues_89
  rw [if_neg (show ¬ nI 12 = 3 by decide), if_neg (show ¬ nI 12 = 6 by decide), if_neg (show ¬ nI 12 = 7 by decide), if_pos (show nI 12 = 12 from rfl), X.g0, bs, X.k, show m_E_numberTaken G (c + 9) 0 h = _ from e1, bs, X.k, show m_E_numberTaken G (c + 9) 1 h = _ from f1, bs, val2_12, X.sk, bq, X.sk, bq]
  simp only [nI_eq (show i + 1 < 2 ^ 31 by omega) (show j + 1 < 2 ^ 31 by omega)]
  by_cases e : x = y
  · subst e
    have : i = j := by rw [← idx_at X.2.1.1 e2, ← idx_at X.2.1.1 f2]
    rw [if_pos (by omega), decide_eq_true (show x = x from rfl)]
    exact X.ce G (cl_keepTruth G X.1 X.2.1 true)
  · rw [if_neg (fun q => e (by
      have : i = j := by omega
      subst this
      rw [e2] at f2; exact Option.some.inj f2)), decide_eq_false e]
    exact X.ce G (cl_keepTruth G X.1 X.2.1 false)
end
