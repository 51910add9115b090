/-! THE CLASS: operations that bear errors; what an operation makes of what it takes -/
section
variable (G : Nat → Nat) {c q0 : Nat} {h : hp_H} {vs : List vV} {t : Nat} {xs : List (Option vV)}
theorem CE.kV {m : Option (Int32 × hp_H)} {ox : Option vV} (q : CE G c q0 h m (kq vs ox)) : CE G c q0 h m (rI (kV vs ox).2 (kV vs ox).1, (kV vs ox).2) := by rw [kq_kV] at q; exact q
theorem xc_is (X : XC G c q0 h vs t xs) {a : Int32} {ox : Option vV} (ha : AR vs a ox) : CE G c q0 h (some (a, h)) (rI vs (some ox), vs) := by
  rw [AR_eq X.2.1.1 ha]
  exact X.ce G ⟨h, rfl, X.1, fr.rf⟩
theorem vD_W : vW vD := ⟨by decide, by decide, by decide, by decide, by decide, fun b hb => by cases hb⟩
theorem xc_tru (X : XC G c q0 h vs t xs) {j : Nat} (hj : j < xs.length) : ∃ p, m_E_taken G (c + 9) (nI j) h = some (p, h) ∧ hp_vck h p 3 (m_V_truthOf G p h) = some (tI ((xs.getD j none).bind truV), h) := by
  obtain ⟨p, e1, e2⟩ := xc_taken G X hj
  refine ⟨p, e1, ?_⟩
  rw [e2.k]
  cases z : xs.getD j none with
  | none =>
    rw [z] at e2
    exact cl_truthOf G e2 vD_W (fun q => absurd q (by decide))
  | some x =>
    rw [z] at e2
    obtain ⟨-, ox, -, wx, -⟩ := xc_mem G X z
    exact cl_truthOf G e2 wx ox.2.2.2.2.2.1
theorem xc_kind (X : XC G c q0 h vs t xs) {j : Nat} (hj : j < xs.length) : ∃ p k, m_E_taken G (c + 9) (nI j) h = some (p, h) ∧ hp_gI h p 3 0 = some k ∧ (k = 0 ↔ xs.getD j none = none) := by
  obtain ⟨p, e1, e2⟩ := xc_taken G X hj
  refine ⟨p, _, e1, e2.g0, ?_⟩
  cases z : xs.getD j none with
  | none => exact ⟨fun _ => rfl, fun _ => rfl⟩
  | some x =>
    obtain ⟨-, ox, -, wx, -⟩ := xc_mem G X z
    have o1 := ox.1
    have w1 := wx.1
    exact ⟨fun q => absurd q (nI_ne0 (show 0 < x.1 by omega) (show x.1 < 2 ^ 31 by omega)), fun q => by cases q⟩
theorem al_no {j : Nat} (hj : j < xs.length) (z : xs.getD j none = none) : alV xs = none := by
  induction xs generalizing j with
  | nil => simp at hj
  | cons a r ih =>
    cases j with
    | zero =>
      have : a = none := z
      rw [this]; rfl
    | succ j =>
      cases a with
      | none => rfl
      | some x => rw [alV, ih (j := j) (by simpa using hj) z]; rfl
theorem al_all : ∀ {xs : List (Option vV)}, (∀ j, j < xs.length → xs.getD j none ≠ none) → ∃ ys, alV xs = some ys
  | [], _ => ⟨[], rfl⟩
  | none :: r, q => absurd rfl (q 0 (by simp))
  | some x :: r, q => by
    obtain ⟨ys, e⟩ := al_all (xs := r) (fun j hj => q (j + 1) (by simpa using hj))
    exact ⟨x :: ys, by rw [alV, e]; rfl⟩
theorem cl_hasErr_2 (X : XC G c q0 h vs t xs) : ∀ (n i : Nat), xs.length - i < n → i ≤ xs.length → (∀ j, j < i → xs.getD j none ≠ none) → m_E_hasTakenError_2 G n (c + 9) (nI xs.length) (nI i) h = some (bI (alV xs).isNone, h)
  | 0, i, hn, _, _ => by omega
  | n + 1, i, hn, hi, hz => by
    have x6 := X.2.2.2.2.1
    rw [m_E_hasTakenError_2]
    simp only [nI_leI (show xs.length < 2 ^ 31 by omega) (show i < 2 ^ 31 by omega)]
    by_cases e : xs.length ≤ i
    · obtain ⟨ys, hy⟩ := al_all (xs := xs) (fun j hj => hz j (by omega))
      rw [if_pos e, hy]; rfl
    · obtain ⟨p, k, p1, p2, p3⟩ := xc_kind G X (show i < xs.length by omega)
      rw [if_neg e, X.k, p1, bs, p2, bs]
      by_cases z : xs.getD i none = none
      · rw [if_pos (p3.mpr z), al_no (by omega) z]; rfl
      · rw [if_neg (fun q => z (p3.mp q)), hp_nmE, nI_1]
        exact cl_hasErr_2 X n (i + 1) (by omega) (by omega) (fun j hj => by
          by_cases ej : j = i
          · subst ej; exact z
          · exact hz j (by omega))
theorem cl_hasErr (X : XC G c q0 h vs t xs) : m_E_hasTakenError G (c + 9) (nI xs.length) h = some (bI (alV xs).isNone, h) := by
  have x6 := X.2.2.2.2.1
  unfold m_E_hasTakenError
  rw [hp_nmE]
  exact cl_hasErr_2 G X hp_fu 0 (by unfold hp_fu; omega) (by omega) (fun j hj => by omega)
theorem tI_d (s : Option Bool) (d : Bool) : tI s = bI d ↔ s = some d := by
  cases s with
  | none => cases d <;> exact ⟨fun q => absurd q (by decide), fun q => by cases q⟩
  | some b => cases b <;> cases d <;> first | exact ⟨fun _ => rfl, fun _ => rfl⟩ | exact ⟨fun q => absurd q (by decide), fun q => by cases q⟩
theorem tI_n (s : Option Bool) : tI s = -4 ↔ s = none := by
  cases s with
  | none => exact ⟨fun _ => rfl, fun _ => rfl⟩
  | some b => cases b <;> exact ⟨fun q => absurd q (by decide), fun q => by cases q⟩
theorem cl_decidedBy (X : XC G c q0 h vs t xs) (hl : xs.length = 2) (d : Bool) : CE G c q0 h (m_E_decidedBy G (c + 9) (bI d) h) (kq vs ((btV ((xs.getD 0 none).bind truV) ((xs.getD 1 none).bind truV) d).map trV)) := by
  obtain ⟨p, p1, p2⟩ := xc_tru G X (j := 0) (by omega)
  obtain ⟨r, r1, r2⟩ := xc_tru G X (j := 1) (by omega)
  have t1 := cl_tr G X true
  have t0 := cl_tr G X false
  unfold m_E_decidedBy m_E_decidedBy_28 m_E_decidedBy_42 m_E_decidedBy_58 m_E_decidedBy_76 m_E_decidedBy_79 btV
  rw [X.k, show m_E_taken G (c + 9) 0 h = _ from p1, bs, p2, bs, hp_nmE, X.k, show m_E_taken G (c + 9) 1 h = _ from r1, bs, r2, bs, hp_nmE, X.g0, bs, X.sk, bq, X.sk, bq, bs, X.sk, bq, X.sk, bq]
  generalize (xs.getD 0 none).bind truV = s
  generalize (xs.getD 1 none).bind truV = u
  simp only [tI_d, tI_n]
  have yes : CE G c q0 h (if bI d = 1 then m_S_keepTruth G (c + 1) 1 h else m_S_keepTruth G (c + 1) 0 h) (kq vs ((some d).map trV)) := by
    cases d with
    | false => rw [if_neg (show ¬ bI false = 1 by decide)]; exact t0
    | true => rw [if_pos (show bI true = 1 from rfl)]; exact t1
  have no : CE G c q0 h (if bI d = 0 then m_S_keepTruth G (c + 1) 1 h else m_S_keepTruth G (c + 1) 0 h) (kq vs ((some (!d)).map trV)) := by
    cases d with
    | false => rw [if_pos (show bI false = 0 from rfl)]; exact t1
    | true => rw [if_neg (show ¬ bI true = 0 by decide)]; exact t0
  by_cases a : s = some d
  · rw [if_pos a, if_pos (Or.inl a)]; exact yes
  · rw [if_neg a]
    by_cases b : u = some d
    · rw [if_pos b, if_pos (Or.inr b)]; exact yes
    · rw [if_neg b, if_neg (show ¬ (s = some d ∨ u = some d) from fun q => by rcases q with q | q; exact a q; exact b q)]
      by_cases e : s = none
      · rw [if_pos e, if_pos (Or.inl e)]; exact X.no G
      · rw [if_neg e]
        by_cases f : u = none
        · rw [if_pos f, if_pos (Or.inr f)]; exact X.no G
        · rw [if_neg f, if_neg (show ¬ (s = none ∨ u = none) from fun q => by rcases q with q | q; exact e q; exact f q)]; exact no
theorem cl_chosen (X : XC G c q0 h vs t xs) (hl : xs.length = 3) : CE G c q0 h (m_E_chosen G (c + 9) h) (rI vs (some (((xs.getD 0 none).bind truV).bind fun b => xs.getD (if b then 1 else 2) none)), vs) := by
  obtain ⟨p, p1, p2⟩ := xc_tru G X (j := 0) (by omega)
  obtain ⟨a1, n1, m1⟩ := xc_number G X (j := 1) (by omega)
  obtain ⟨a2, n2, m2⟩ := xc_number G X (j := 2) (by omega)
  unfold m_E_chosen m_E_chosen_29
  rw [X.k, show m_E_taken G (c + 9) 0 h = _ from p1, bs, p2, bs, hp_nmE, X.k, show m_E_numberTaken G (c + 9) 1 h = _ from n1, bs, X.k, show m_E_numberTaken G (c + 9) 2 h = _ from n2, bs]
  cases (xs.getD 0 none).bind truV with
  | none =>
    rw [if_pos (show tI none = -4 from rfl)]
    exact xc_is G X (Or.inl ⟨rfl, rfl⟩)
  | some b =>
    cases b with
    | false => rw [if_neg (show ¬ tI (some false) = -4 by decide), if_neg (show ¬ tI (some false) = 1 by decide)]; exact xc_is G X m2
    | true => rw [if_neg (show ¬ tI (some true) = -4 by decide), if_pos (show tI (some true) = 1 from rfl)]; exact xc_is G X m1
theorem cl_firstGood_2 (X : XC G c q0 h vs t xs) (h20 : xs.length ≤ 20) : ∀ (n i : Nat), xs.length - i < n → i ≤ xs.length → CE G c q0 h (m_E_firstGood_2 G n (c + 9) (nI xs.length) (nI i) h) (rI vs (some (fsV (xs.drop i))), vs)
  | 0, i, hn, _ => by omega
  | n + 1, i, hn, hi => by
    rw [m_E_firstGood_2]
    unfold m_E_firstGood_36
    simp only [nI_leI (show xs.length < 2 ^ 31 by omega) (show i < 2 ^ 31 by omega)]
    by_cases e : xs.length ≤ i
    · rw [if_pos e, List.drop_eq_nil_of_le e]; exact xc_is G X (Or.inl ⟨rfl, rfl⟩)
    · obtain ⟨p, k, p1, p2, p3⟩ := xc_kind G X (show i < xs.length by omega)
      obtain ⟨a, n1, m1⟩ := xc_number G X (show i < xs.length by omega)
      have hd : xs.drop i = xs.getD i none :: xs.drop (i + 1) := by
        rw [List.drop_eq_getElem_cons (show i < xs.length by omega), List.getD_eq_getElem?_getD, List.getElem?_eq_getElem (show i < xs.length by omega)]; rfl
      rw [if_neg e, if_neg (show ¬ (20 : Int32) ≤ nI i from nI_ge (a := i) (b := 20) (by omega) (by decide)), X.k, p1, bs, p2, bs, X.k, n1, bs, hd]
      cases z : xs.getD i none with
      | none =>
        rw [if_pos (p3.mpr z), hp_nmE, nI_1, fsV]
        exact cl_firstGood_2 X h20 n (i + 1) (by omega) (by omega)
      | some x =>
        rw [if_neg (fun q => by have := p3.mp q; rw [z] at this; cases this), fsV]
        rw [z] at m1
        exact xc_is G X m1
theorem cl_firstGood (X : XC G c q0 h vs t xs) (h20 : xs.length ≤ 20) : CE G c q0 h (m_E_firstGood G (c + 9) (nI xs.length) h) (rI vs (some (fsV xs)), vs) := by
  unfold m_E_firstGood
  rw [hp_nmE]
  have := cl_firstGood_2 G X h20 hp_fu 0 (by unfold hp_fu; omega) (by omega)
  rw [List.drop_zero] at this
  exact this
theorem cl_equalA (X : XC G c q0 h vs t xs) {i : Nat} {x : vV} (hx : vs[i]? = some x) {b : Int32} {oy : Option vV} (hb : AR vs b oy) : m_E_equal G (c + 9) (nI (i + 1)) b h = some (tI (eqA x oy), h) := by
  cases oy with
  | some y =>
    obtain ⟨j, rfl, hy⟩ := AR_s hb
    exact cl_equal G X hx hy
  | none =>
    have hl := X.2.1.2.1
    have il := (List.getElem?_eq_some_iff.mp hx).1
    have qx := X.2.1.2.2 x (List.mem_of_getElem? hx)
    have wx := qx.1.W qx.2
    have x1 := wx.1
    have x0 := qx.1.1
    obtain ⟨p, p1, p2⟩ := cl_at G X.1 hl (nI (i + 1))
    obtain ⟨r, r1, r2⟩ := cl_at G X.1 hl b
    rw [vAt_n vs i (by omega), hx] at p2
    rw [AR_vAt hl hb] at r2
    have p2 : VP c h p x := p2
    have r2 : VP c h r vD := r2
    unfold m_E_equal m_E_equal_34
    rw [X.g0, bs, X.sk, p1, bs, hp_nmE, X.g0, bs, X.sk, r1, bs, hp_nmE, p2.g0, bs, if_neg (nI_ne0 (by omega) (by omega)), r2.g0, bs, if_pos (show nI vD.1 = 0 from rfl)]
    rfl
theorem cl_among_18 (X : XC G c q0 h vs t xs) {i0 : Nat} {x : vV} (hx : vs[i0]? = some x) (h0 : m_E_numberTaken G (c + 9) 0 h = some (nI (i0 + 1), h)) (m : Nat) (hm : xs.length = m + 1) (h20 : m ≤ 20) : ∀ (n i : Nat) (had : Bool), m + 1 - i < n → 1 ≤ i → i ≤ m + 1 → CE G c q0 h (m_E_among_18 G n (c + 9) (nI m) (bI had) (nI i) h) (kq vs ((if (xs.drop i).any (fun y => eqA x y == some true) then some true else if had || (xs.drop i).any (fun y => eqA x y == none) then none else some false).map trV))
  | 0, i, had, hn, _, _ => by omega
  | n + 1, i, had, hn, h1, hi => by
    have t1 := cl_tr G X true
    have t0 := cl_tr G X false
    rw [m_E_among_18]
    simp only [nI_ltI (show m < 2 ^ 31 by omega) (show i < 2 ^ 31 by omega)]
    by_cases e : m < i
    · rw [if_pos e, List.drop_eq_nil_of_le (by omega), List.any_nil, List.any_nil, if_neg (show ¬ false = true by decide), Bool.or_false]
      unfold m_E_among_83 m_E_among_100
      rw [X.g0, bs, X.sk, bq]
      cases had with
      | false => rw [if_pos (show bI false = 0 from rfl), if_neg (show ¬ false = true by decide)]; exact t0
      | true => rw [if_neg (show ¬ bI true = 0 by decide), if_pos (show true = true from rfl)]; exact X.no G
    · obtain ⟨b, n1, m1⟩ := xc_number G X (show i < xs.length by omega)
      have hd : xs.drop i = xs.getD i none :: xs.drop (i + 1) := by
        rw [List.drop_eq_getElem_cons (show i < xs.length by omega), List.getD_eq_getElem?_getD, List.getElem?_eq_getElem (show i < xs.length by omega)]; rfl
      rw [if_neg e, if_neg (show ¬ (20 : Int32) < nI i from nI_nlt (a := 20) (b := i) (by omega) (by decide)), X.k, h0, bs, X.k, n1, bs, X.k, cl_equalA G X hx m1, bs, hp_nmE, X.g0, bs, X.sk, bq, hd, List.any_cons, List.any_cons]
      unfold m_E_among_71 m_E_among_76
      rw [hp_nmE, hp_nmE, nI_1, hp_nmE, hp_nmE]
      generalize eqA x (xs.getD i none) = q
      have IH := fun had => cl_among_18 X hx h0 m hm h20 n (i + 1) had (by omega) (by omega) (by omega)
      cases q with
      | none =>
        rw [if_neg (show ¬ tI none = 1 by decide), show ((none : Option Bool) == some true) = false from rfl, show ((none : Option Bool) == none) = true from rfl, Bool.false_or, Bool.true_or, Bool.or_true]
        have := IH true
        rw [Bool.true_or] at this
        cases had with
        | false => rw [if_pos (show bI false = 0 from rfl), if_pos (show tI none = -4 from rfl)]; exact this
        | true => rw [if_neg (show ¬ bI true = 0 by decide)]; exact this
      | some v =>
        cases v with
        | true =>
          rw [if_pos (show tI (some true) = 1 from rfl), show ((some true : Option Bool) == some true) = true from rfl, Bool.true_or, if_pos (show true = true from rfl)]
          exact t1
        | false =>
          rw [if_neg (show ¬ tI (some false) = 1 by decide), show ((some false : Option Bool) == some true) = false from rfl, show ((some false : Option Bool) == none) = false from rfl, Bool.false_or, Bool.false_or]
          have := IH had
          cases had with
          | false => rw [if_pos (show bI false = 0 from rfl), if_neg (show ¬ tI (some false) = -4 by decide)]; exact this
          | true => rw [if_neg (show ¬ bI true = 0 by decide)]; exact this
theorem cl_among (X : XC G c q0 h vs t xs) (m : Nat) (hm : xs.length = m + 1) (h20 : m ≤ 20) : CE G c q0 h (m_E_among G (c + 9) (nI m) h) (kq vs (((xs.getD 0 none).bind (fun x => inL x (xs.drop 1))).map trV)) := by
  obtain ⟨p, k, p1, p2, p3⟩ := xc_kind G X (j := 0) (by omega)
  unfold m_E_among
  rw [X.k, show m_E_taken G (c + 9) 0 h = _ from p1, bs, p2, bs]
  cases z : xs.getD 0 none with
  | none => rw [if_pos (p3.mpr z)]; exact X.no G
  | some x =>
    obtain ⟨i0, n1, n2⟩ := xc_numV G X z
    rw [if_neg (fun q => by have := p3.mp q; rw [z] at this; cases this), hp_nmE, hp_nmE]
    have key := cl_among_18 G X n2 n1 m hm h20 hp_fu 1 false (by unfold hp_fu; omega) (by omega) (by omega)
    rw [Bool.false_or] at key
    exact key
end
