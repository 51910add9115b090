/-! THE CLASS: compared, reckoned, of a number -/
theorem pv_8 (G : Nat → Nat) (e : Nat) (a2 : Int32) (h : hp_H) : m_E_performOnValues G e (nI 8) a2 h = (hp_vck h e 5 (m_E_compared G e (nI 8) h)).bind fun q => some (q.1, q.2) := rfl
theorem pv_9 (G : Nat → Nat) (e : Nat) (a2 : Int32) (h : hp_H) : m_E_performOnValues G e (nI 9) a2 h = (hp_vck h e 5 (m_E_compared G e (nI 9) h)).bind fun q => some (q.1, q.2) := rfl
theorem pv_10 (G : Nat → Nat) (e : Nat) (a2 : Int32) (h : hp_H) : m_E_performOnValues G e (nI 10) a2 h = (hp_vck h e 5 (m_E_compared G e (nI 10) h)).bind fun q => some (q.1, q.2) := rfl
theorem pv_11 (G : Nat → Nat) (e : Nat) (a2 : Int32) (h : hp_H) : m_E_performOnValues G e (nI 11) a2 h = (hp_vck h e 5 (m_E_compared G e (nI 11) h)).bind fun q => some (q.1, q.2) := rfl
theorem pv_13 (G : Nat → Nat) (e : Nat) (a2 : Int32) (h : hp_H) : m_E_performOnValues G e (nI 13) a2 h = (hp_vck h e 5 (m_E_reckoned G e (nI 13) h)).bind fun q => some (q.1, q.2) := rfl
theorem pv_14 (G : Nat → Nat) (e : Nat) (a2 : Int32) (h : hp_H) : m_E_performOnValues G e (nI 14) a2 h = (hp_vck h e 5 (m_E_reckoned G e (nI 14) h)).bind fun q => some (q.1, q.2) := rfl
theorem pv_15 (G : Nat → Nat) (e : Nat) (a2 : Int32) (h : hp_H) : m_E_performOnValues G e (nI 15) a2 h = (hp_vck h e 5 (m_E_reckoned G e (nI 15) h)).bind fun q => some (q.1, q.2) := rfl
theorem pv_16 (G : Nat → Nat) (e : Nat) (a2 : Int32) (h : hp_H) : m_E_performOnValues G e (nI 16) a2 h = (hp_vck h e 5 (m_E_reckoned G e (nI 16) h)).bind fun q => some (q.1, q.2) := rfl
theorem pv_17 (G : Nat → Nat) (e : Nat) (a2 : Int32) (h : hp_H) : m_E_performOnValues G e (nI 17) a2 h = (hp_vck h e 5 (m_E_ofNumber G e (nI 17) h)).bind fun q => some (q.1, q.2) := rfl
theorem pv_18 (G : Nat → Nat) (e : Nat) (a2 : Int32) (h : hp_H) : m_E_performOnValues G e (nI 18) a2 h = (hp_vck h e 5 (m_E_ofNumber G e (nI 18) h)).bind fun q => some (q.1, q.2) := rfl
theorem pv_19 (G : Nat → Nat) (e : Nat) (a2 : Int32) (h : hp_H) : m_E_performOnValues G e (nI 19) a2 h = (hp_vck h e 5 (m_E_ofNumber G e (nI 19) h)).bind fun q => some (q.1, q.2) := rfl
theorem pv_20 (G : Nat → Nat) (e : Nat) (a2 : Int32) (h : hp_H) : m_E_performOnValues G e (nI 20) a2 h = (hp_vck h e 5 (m_E_ofNumber G e (nI 20) h)).bind fun q => some (q.1, q.2) := rfl
theorem pv_21 (G : Nat → Nat) (e : Nat) (a2 : Int32) (h : hp_H) : m_E_performOnValues G e (nI 21) a2 h = (hp_vck h e 5 (m_E_ofNumber G e (nI 21) h)).bind fun q => some (q.1, q.2) := rfl
theorem pv_25 (G : Nat → Nat) (e : Nat) (a2 : Int32) (h : hp_H) : m_E_performOnValues G e (nI 25) a2 h = (hp_vck h e 5 (m_E_ofText G e (nI 25) h)).bind fun q => some (q.1, q.2) := rfl
theorem pv_26 (G : Nat → Nat) (e : Nat) (a2 : Int32) (h : hp_H) : m_E_performOnValues G e (nI 26) a2 h = (hp_vck h e 5 (m_E_ofText G e (nI 26) h)).bind fun q => some (q.1, q.2) := rfl
theorem pv_27 (G : Nat → Nat) (e : Nat) (a2 : Int32) (h : hp_H) : m_E_performOnValues G e (nI 27) a2 h = (hp_vck h e 5 (m_E_ofText G e (nI 27) h)).bind fun q => some (q.1, q.2) := rfl
theorem pv_28 (G : Nat → Nat) (e : Nat) (a2 : Int32) (h : hp_H) : m_E_performOnValues G e (nI 28) a2 h = (hp_vck h e 5 (m_E_ofText G e (nI 28) h)).bind fun q => some (q.1, q.2) := rfl
theorem pv_29 (G : Nat → Nat) (e : Nat) (a2 : Int32) (h : hp_H) : m_E_performOnValues G e (nI 29) a2 h = (hp_vck h e 5 (m_E_chained G e a2 h)).bind fun q => some (q.1, q.2) := rfl
theorem pv_30 (G : Nat → Nat) (e : Nat) (a2 : Int32) (h : hp_H) : m_E_performOnValues G e (nI 30) a2 h = (hp_vck h e 5 (m_E_searched G e (nI 30) h)).bind fun q => some (q.1, q.2) := rfl
theorem pv_31 (G : Nat → Nat) (e : Nat) (a2 : Int32) (h : hp_H) : m_E_performOnValues G e (nI 31) a2 h = (hp_vck h e 5 (m_E_searched G e (nI 31) h)).bind fun q => some (q.1, q.2) := rfl
theorem pv_32 (G : Nat → Nat) (e : Nat) (a2 : Int32) (h : hp_H) : m_E_performOnValues G e (nI 32) a2 h = (hp_vck h e 5 (m_E_searched G e (nI 32) h)).bind fun q => some (q.1, q.2) := rfl
theorem pv_33 (G : Nat → Nat) (e : Nat) (a2 : Int32) (h : hp_H) : m_E_performOnValues G e (nI 33) a2 h = (hp_vck h e 5 (m_E_searched G e (nI 33) h)).bind fun q => some (q.1, q.2) := rfl
theorem pv_34 (G : Nat → Nat) (e : Nat) (a2 : Int32) (h : hp_H) : m_E_performOnValues G e (nI 34) a2 h = (hp_vck h e 5 (m_E_searched G e (nI 34) h)).bind fun q => some (q.1, q.2) := rfl
theorem pv_35 (G : Nat → Nat) (e : Nat) (a2 : Int32) (h : hp_H) : m_E_performOnValues G e (nI 35) a2 h = (hp_vck h e 5 (m_E_ofAny G e (nI 35) h)).bind fun q => some (q.1, q.2) := rfl
theorem pv_36 (G : Nat → Nat) (e : Nat) (a2 : Int32) (h : hp_H) : m_E_performOnValues G e (nI 36) a2 h = (hp_vck h e 5 (m_E_ofAny G e (nI 36) h)).bind fun q => some (q.1, q.2) := rfl
theorem pv_37 (G : Nat → Nat) (e : Nat) (a2 : Int32) (h : hp_H) : m_E_performOnValues G e (nI 37) a2 h = (hp_vck h e 5 (m_E_ofAny G e (nI 37) h)).bind fun q => some (q.1, q.2) := rfl
theorem pv_38 (G : Nat → Nat) (e : Nat) (a2 : Int32) (h : hp_H) : m_E_performOnValues G e (nI 38) a2 h = (hp_vck h e 5 (m_E_ofAny G e (nI 38) h)).bind fun q => some (q.1, q.2) := rfl
theorem pv_39 (G : Nat → Nat) (e : Nat) (a2 : Int32) (h : hp_H) : m_E_performOnValues G e (nI 39) a2 h = (hp_vck h e 5 (m_E_ofAny G e (nI 39) h)).bind fun q => some (q.1, q.2) := rfl
theorem pv_40 (G : Nat → Nat) (e : Nat) (a2 : Int32) (h : hp_H) : m_E_performOnValues G e (nI 40) a2 h = (hp_vck h e 5 (m_E_ofAny G e (nI 40) h)).bind fun q => some (q.1, q.2) := rfl
theorem pv_41 (G : Nat → Nat) (e : Nat) (a2 : Int32) (h : hp_H) : m_E_performOnValues G e (nI 41) a2 h = (hp_vck h e 5 (m_E_ofAny G e (nI 41) h)).bind fun q => some (q.1, q.2) := rfl
theorem i_lt0 {f : Int32} (h : ¬ 0 ≤ f) : f < 0 := by
  rw [Int32.le_iff_toInt_le] at h; rw [Int32.lt_iff_toInt_lt]; omega
theorem i_nle {f : Int32} (h : ¬ f ≤ 0) : 0 < f := by
  rw [Int32.le_iff_toInt_le] at h; rw [Int32.lt_iff_toInt_lt]; omega
theorem i_le0 {f : Int32} (h : 0 ≤ f) : ¬ f < 0 := by
  rw [Int32.le_iff_toInt_le] at h; rw [Int32.lt_iff_toInt_lt]; omega
theorem i_gt0 {f : Int32} (h : f ≤ 0) : ¬ 0 < f := by
  rw [Int32.le_iff_toInt_le] at h; rw [Int32.lt_iff_toInt_lt]; omega
/-- what comparing finds, where it can be done -/
def fdV (x y : vV) : Option Int32 := if nbV x && nbV y then some (sgI (am9 x - am9 y)) else if x.1 = y.1 ∧ (x.1 = 5 ∨ x.1 = 8) then some (ordV x y) else none
theorem fd_lt (x y : vV) : ltV x y = (fdV x y).map (fun f => decide (f < 0)) := by
  unfold ltV fdV
  by_cases a : (nbV x && nbV y) = true
  · rw [if_pos a, if_pos a]
    exact congrArg some (decide_eq_decide.mpr (sgI_lt _).symm)
  · rw [if_neg a, if_neg a]
    by_cases b : x.1 = y.1 ∧ (x.1 = 5 ∨ x.1 = 8)
    · rw [if_pos b, if_pos b]; rfl
    · rw [if_neg b, if_neg b]; rfl
theorem fd_gt {x y : vV} (ox : vO x) (oy : vO y) : ltV y x = (fdV x y).map (fun f => decide (0 < f)) := by
  unfold ltV fdV
  by_cases a : (nbV x && nbV y) = true
  · rw [if_pos a, if_pos (show (nbV y && nbV x) = true by rw [Bool.and_comm]; exact a)]
    refine congrArg some (decide_eq_decide.mpr ?_)
    unfold sgI
    by_cases p : am9 x - am9 y < 0
    · rw [if_pos p]; exact ⟨fun q => by omega, fun q => absurd q (by decide)⟩
    · rw [if_neg p]
      by_cases z : am9 x - am9 y = 0
      · rw [if_pos z]; exact ⟨fun q => by omega, fun q => absurd q (by decide)⟩
      · rw [if_neg z]; exact ⟨fun _ => by decide, fun _ => by omega⟩
  · rw [if_neg a, if_neg (show ¬ (nbV y && nbV x) = true by rw [Bool.and_comm]; exact a)]
    by_cases b : x.1 = y.1 ∧ (x.1 = 5 ∨ x.1 = 8)
    · rw [if_pos b, if_pos ⟨b.1.symm, by rw [← b.1]; exact b.2⟩]
      refine congrArg some (decide_eq_decide.mpr ?_)
      rcases ord_an ox oy with ⟨p, q⟩ | ⟨p, q⟩ | ⟨p, q⟩ <;> rw [p, q] <;> decide
    · rw [if_neg b, if_neg (fun q => b ⟨q.1.symm, by rw [← q.1]; exact q.2⟩)]; rfl
section
variable (G : Nat → Nat) {c q0 : Nat} {h : hp_H} {vs : List vV} {t : Nat} {xs : List (Option vV)}
theorem cl_tr (X : XC G c q0 h vs t xs) (w : Bool) : CE G c q0 h (m_S_keepTruth G (c + 1) (bI w) h) (kq vs (some (trV w))) := X.ce G (cl_keepTruth G X.1 X.2.1 w)
theorem cl_compared_77 (X : XC G c q0 h vs t xs) (f : Int32) : CE G c q0 h (m_E_compared_77 G (c + 9) (nI 8) f h) (kq vs (some (trV (decide (f < 0))))) ∧ CE G c q0 h (m_E_compared_77 G (c + 9) (nI 9) f h) (kq vs (some (trV (!decide (0 < f))))) ∧ CE G c q0 h (m_E_compared_77 G (c + 9) (nI 10) f h) (kq vs (some (trV (decide (0 < f))))) ∧ CE G c q0 h (m_E_compared_77 G (c + 9) (nI 11) f h) (kq vs (some (trV (!decide (f < 0))))) := by
  have t1 := cl_tr G X true
  have t0 := cl_tr G X false
  unfold m_E_compared_77 m_E_compared_118 m_E_compared_136 m_E_compared_154 m_E_compared_172
  refine ⟨?_, ?_, ?_, ?_⟩
  · rw [if_pos (show nI 8 = 8 from rfl), X.g0, bs, X.sk, bq, X.sk, bq]
    by_cases q : 0 ≤ f
    · rw [if_pos q, decide_eq_false (i_le0 q)]; exact t0
    · rw [if_neg q, decide_eq_true (i_lt0 q)]; exact t1
  · rw [if_neg (show ¬ nI 9 = 8 by decide), if_pos (show nI 9 = 9 from rfl), X.g0, bs, X.sk, bq, X.sk, bq]
    by_cases q : 0 < f
    · rw [if_pos q, decide_eq_true q]; exact t0
    · rw [if_neg q, decide_eq_false q]; exact t1
  · rw [if_neg (show ¬ nI 10 = 8 by decide), if_neg (show ¬ nI 10 = 9 by decide), if_pos (show nI 10 = 10 from rfl), X.g0, bs, X.sk, bq, X.sk, bq]
    by_cases q : f ≤ 0
    · rw [if_pos q, decide_eq_false (i_gt0 q)]; exact t0
    · rw [if_neg q, decide_eq_true (i_nle q)]; exact t1
  · rw [if_neg (show ¬ nI 11 = 8 by decide), if_neg (show ¬ nI 11 = 9 by decide), if_neg (show ¬ nI 11 = 10 by decide), X.g0, bs, X.sk, bq, X.sk, bq]
    by_cases q : f < 0
    · rw [if_pos q, decide_eq_true q]; exact t0
    · rw [if_neg q, decide_eq_false q]; exact t1
theorem cl_compared (X : XC G c q0 h vs t xs) {x y : vV} (hx : xs.getD 0 none = some x) (hy : xs.getD 1 none = some y) (o : Int32) : m_E_compared G (c + 9) o h = match fdV x y with
  | none => some (-4, h)
  | some f => m_E_compared_77 G (c + 9) o f h := by
  obtain ⟨-, ox, lx, wx, -⟩ := xc_mem G X hx
  obtain ⟨-, oy, ly, wy, -⟩ := xc_mem G X hy
  obtain ⟨p, p1, p2⟩ := xc_val G X hx
  obtain ⟨r, r1, r2⟩ := xc_val G X hy
  have hs := X.1.2.2.2.2.2.2
  have x1 := wx.1
  have y1 := wy.1
  have rest : (nbV x && nbV y) = false → m_E_compared_36 G (c + 9) o p r h = match fdV x y with
    | none => some (-4, h)
    | some f => m_E_compared_77 G (c + 9) o f h := fun nn => by
    unfold m_E_compared_36 m_E_compared_64 m_E_compared_74 fdV
    rw [nn, if_neg (show ¬ false = true by decide), p2.g0, bs, r2.g0, bs, bs, bs]
    simp only [nI_eq (show x.1 < 2 ^ 31 by omega) (show y.1 < 2 ^ 31 by omega), ie_5 (show x.1 < 2 ^ 31 by omega), ie_8 (show x.1 < 2 ^ 31 by omega)]
    rw [p2.k, cl_comparedTo G hs p2 r2 ox oy lx ly, bs, hp_nmE]
    by_cases e : x.1 = y.1
    · rw [if_pos e]
      by_cases e5 : x.1 = 5
      · rw [if_pos e5, if_pos ⟨e, Or.inl e5⟩]
      · rw [if_neg e5]
        by_cases e8 : x.1 = 8
        · rw [if_pos e8, if_pos ⟨e, Or.inr e8⟩]
        · rw [if_neg e8, if_neg (fun q => by omega)]
    · rw [if_neg e, if_neg (fun q => e q.1)]
  unfold m_E_compared
  rw [X.k, show m_E_taken G (c + 9) 0 h = _ from p1, bs, hp_nmE, X.k, show m_E_taken G (c + 9) 1 h = _ from r1, bs, hp_nmE, p2.k, cl_isNumber G p2 x1, bs]
  cases hn : nbV x with
  | false => rw [if_pos (show bI false = 0 from rfl)]; exact rest (by rw [hn]; rfl)
  | true =>
    rw [if_neg (show ¬ bI true = 0 by decide), r2.k, cl_isNumber G r2 y1, bs]
    cases hm : nbV y with
    | false => rw [if_pos (show bI false = 0 from rfl)]; exact rest (by rw [hn, hm]; rfl)
    | true =>
      rw [if_neg (show ¬ bI true = 0 by decide), p2.k, cl_byAmount G hs p2 r2 wx wy, bs, hp_nmE]
      unfold fdV
      rw [hn, hm]
      rfl
theorem cl_opCmp (X : XC G c q0 h vs t xs) {x y : vV} (hx : xs.getD 0 none = some x) (hy : xs.getD 1 none = some y) (a2 : Int32) : CE G c q0 h (m_E_performOnValues G (c + 9) (nI 8) a2 h) (kq vs (val2 8 x y)) ∧ CE G c q0 h (m_E_performOnValues G (c + 9) (nI 9) a2 h) (kq vs (val2 9 x y)) ∧ CE G c q0 h (m_E_performOnValues G (c + 9) (nI 10) a2 h) (kq vs (val2 10 x y)) ∧ CE G c q0 h (m_E_performOnValues G (c + 9) (nI 11) a2 h) (kq vs (val2 11 x y)) := by
  obtain ⟨-, ox, -, -, -⟩ := xc_mem G X hx
  obtain ⟨-, oy, -, -, -⟩ := xc_mem G X hy
  rw [pv_8, pv_9, pv_10, pv_11, X.k, bq, X.k, bq, X.k, bq, X.k, bq, cl_compared G X hx hy, cl_compared G X hx hy, cl_compared G X hx hy, cl_compared G X hx hy, val2_8, val2_9, val2_10, val2_11, fd_lt x y, fd_gt ox oy]
  cases fdV x y with
  | none => exact ⟨X.no G, X.no G, X.no G, X.no G⟩
  | some f => exact cl_compared_77 G X f
theorem val2_n {o : Nat} (ho : 13 ≤ o) (h16 : o ≤ 16) (x y : vV) : val2 o x y = if nbV x && nbV y then (if o = 13 then nmI (am9 x + 1 * am9 y) (x.1 == 3 && y.1 == 3) else if o = 14 then nmI (am9 x + -1 * am9 y) (x.1 == 3 && y.1 == 3) else if o = 15 then nmI (pr9 (am9 x) (am9 y)) (x.1 == 3 && y.1 == 3) else if y.2.2.1 = 0 then none else nmI (qt9 x y) false) else none := by
  unfold val2
  rw [if_neg (by omega), if_neg (by omega), if_neg (by omega), if_neg (by omega), if_neg (by omega), if_neg (by omega), if_neg (by omega), if_neg (by omega)]
theorem bI_3 (n : Nat) (hn : n < 2 ^ 31) {β : Type} (f : Int32 → β) : (if nI n = 3 then f 1 else f 0) = f (bI (n == 3)) := by
  simp only [ie_3 hn]
  by_cases e : n = 3
  · rw [if_pos e, e]; rfl
  · rw [if_neg e, beq_false_of_ne e]; rfl
theorem cl_reckoned_61 (X : XC G c q0 h vs t xs) {x y : vV} {p r : Nat} (p2 : VP c h p x) (r2 : VP c h r y) (wx : vW x) (wy : vW y) (o : Nat) (ho : 13 ≤ o) (h16 : o ≤ 16) (w w2 : Bool) (hw : w = (x.1 == 3)) (hw2 : w2 = (y.1 == 3)) (nn : (nbV x && nbV y) = true) : CE G c q0 h (m_E_reckoned_61 G (c + 9) (nI o) p r (bI w2) (bI w) (c + 16) h) (kq vs (val2 o x y)) := by
  obtain ⟨g, w0, a0, s0, K⟩ := X.2.2.2.2.2.2
  have hs := X.1.2.2.2.2.2.2
  have hK : ∀ k ∈ [16], k < 44 ∧ k ≠ 4 := by simp
  unfold m_E_reckoned_61
  obtain ⟨h1, e1, e2, e3⟩ := cl_start G K w x.2.2.1 x.2.2.2.1 wx.2.2.1 wx.2.2.2.1
  rw [p2.g2, bs, p2.g3, bs, K.k1, e1, bs]
  have X1 : XC G c q0 h1 vs t xs := X.cg G e3 (by simp) (by obtain ⟨L, R⟩ := X.2.2.2.2.2.1; exact ⟨L, R.c e3 (by simp) (by simp)⟩) ⟨_, _, _, _, e2⟩
  have S1 := X1.1.2.2.2.2.2.2
  have rr := r2.c e3 hK
  have fin : ∀ (h2 : hp_H) (w' : Bool) (T : Int), chg c [16] h1 h2 → KN c h2 16 w' T → CE G c q0 h (m_E_reckoned_176 G (c + 9) h2) (kq vs (nmI T w')) := fun h2 w' T C2 kn => by
    have X2 : XC G c q0 h2 vs t xs := X1.cg G C2 (by simp) (by obtain ⟨L, R⟩ := X1.2.2.2.2.2.1; exact ⟨L, R.c C2 (by simp) (by simp)⟩) (by obtain ⟨a, s, r, -⟩ := kn; exact ⟨_, _, _, _, r⟩)
    unfold m_E_reckoned_176
    rw [X2.g0, bs, X2.g6, bs, X2.sk, bq]
    exact CE.of (e3.tr C2) (by simp) X2.2.2.2.2.2.1 X2.2.2.2.2.2.2 (cl_keepReckoned G X2.1 X2.2.1 kn)
  rw [val2_n ho h16, if_pos nn, ← hw, ← hw2]
  have b31 : o < 2 ^ 31 := by omega
  simp only [ie_13 b31, ie_14 b31, ie_15 b31]
  rw [X1.g6, bs, rr.g2, bs, rr.g3, bs, e2.k1, bs, bs, bs, e2.k1, bs, bs, bs, e2.k1, bs, bs, bs, e2.k1]
  by_cases o13 : o = 13
  · rw [if_pos o13, if_pos o13]
    obtain ⟨h2, f1, f2, f3⟩ := cl_plus G S1 e2 w2 y.2.2.1 y.2.2.2.1 wy.2.2.1 wy.2.2.2.1
    rw [f1, bs, Int.one_mul]
    exact fin h2 _ _ f2 f3
  · rw [if_neg o13, if_neg o13]
    by_cases o14 : o = 14
    · rw [if_pos o14, if_pos o14, jL_neg]
      obtain ⟨h2, f1, f2, f3⟩ := cl_plus G S1 e2 w2 (-y.2.2.1) y.2.2.2.1 (by rw [Int.natAbs_neg]; exact wy.2.2.1) wy.2.2.2.1
      rw [f1, bs, show -1 * am9 y = am9 (0, 0, -y.2.2.1, y.2.2.2.1, []) by unfold am9; rw [Int.neg_mul, Int.neg_mul, Int.one_mul]]
      exact fin h2 _ _ f2 f3
    · rw [if_neg o14, if_neg o14]
      by_cases o15 : o = 15
      · rw [if_pos o15, if_pos o15]
        obtain ⟨h2, f1, f2, f3⟩ := cl_times G S1 e2 w2 y.2.2.1 y.2.2.2.1 wy.2.2.1 wy.2.2.2.1
        rw [f1, bs]
        exact fin h2 _ _ f2 f3
      · rw [if_neg o15, if_neg o15]
        obtain ⟨h2, f1, f2, f3, f4⟩ := cl_over G S1 e2 y.2.2.1 y.2.2.2.1 wy.2.2.1 wy.2.2.2.1
        rw [f1, bs]
        by_cases y0 : y.2.2.1 = 0
        · rw [if_pos y0]
          have kr := f3 y0
          have X2 : XC G c q0 h2 vs t xs := X1.cg G f2 (by simp) (by obtain ⟨L, R⟩ := X1.2.2.2.2.2.1; exact ⟨L, R.c f2 (by simp) (by simp)⟩) ⟨_, _, _, _, kr⟩
          unfold m_E_reckoned_176 m_S_keepReckoned
          rw [X2.g0, bs, X2.g6, bs, X2.sk, bq, gI_e (k := 0) kr.1 rfl, bs, if_pos (show bI false = 0 from rfl)]
          exact CE.of (e3.tr f2) (by simp) X2.2.2.2.2.2.1 X2.2.2.2.2.2.2 ⟨h2, rfl, X2.1, fr.rf⟩
        · rw [if_neg y0]
          exact fin h2 _ _ f2 ((f4 y0).1 rfl)
theorem cl_reckoned (X : XC G c q0 h vs t xs) {x y : vV} (hx : xs.getD 0 none = some x) (hy : xs.getD 1 none = some y) (o : Nat) (ho : 13 ≤ o) (h16 : o ≤ 16) : CE G c q0 h (m_E_reckoned G (c + 9) (nI o) h) (kq vs (val2 o x y)) := by
  obtain ⟨-, ox, lx, wx, -⟩ := xc_mem G X hx
  obtain ⟨-, oy, ly, wy, -⟩ := xc_mem G X hy
  obtain ⟨p, p1, p2⟩ := xc_val G X hx
  obtain ⟨r, r1, r2⟩ := xc_val G X hy
  have x1 := wx.1
  have y1 := wy.1
  unfold m_E_reckoned m_E_reckoned_26 m_E_reckoned_42
  rw [X.k, show m_E_taken G (c + 9) 0 h = _ from p1, bs, hp_nmE, X.k, show m_E_taken G (c + 9) 1 h = _ from r1, bs, hp_nmE, p2.k, cl_isNumber G p2 x1, bs]
  cases hn : nbV x with
  | false =>
    rw [if_pos (show bI false = 0 from rfl), val2_n ho h16, hn, if_neg (show ¬ (false && nbV y) = true by simp)]
    exact X.no G
  | true =>
    rw [if_neg (show ¬ bI true = 0 by decide), r2.k, cl_isNumber G r2 y1, bs]
    cases hm : nbV y with
    | false =>
      rw [if_pos (show bI false = 0 from rfl), val2_n ho h16, hm, if_neg (show ¬ (nbV x && false) = true by simp)]
      exact X.no G
    | true =>
      rw [if_neg (show ¬ bI true = 0 by decide), r2.g0, bs, bI_3 y.1 (by omega) (fun z => hp_nm z fun x1 => (hp_gR h (c + 9) 5 6).bind fun x2 => (hp_gI h p 3 0).bind fun x3 => if x3 = (3 : Int32) then (m_E_reckoned_61 G (c + 9) (nI o) p r x1 (1 : Int32) x2 h) else (m_E_reckoned_61 G (c + 9) (nI o) p r x1 (0 : Int32) x2 h)), hp_nmE, X.g6, bs, p2.g0, bs, bI_3 x.1 (by omega) (fun z => m_E_reckoned_61 G (c + 9) (nI o) p r (bI (y.1 == 3)) z (c + 16) h)]
      exact cl_reckoned_61 G X p2 r2 wx wy o ho h16 _ _ rfl rfl (by rw [hn, hm]; rfl)
theorem rd_nz : ∀ (d : Nat) (u s : Nat), s ≤ d → (s = 0 ∨ u % 10 ≠ 0) → rd d (u * 10 ^ (d - s)) = (u, s)
  | 0, u, s, hs, _ => by
    have : s = 0 := by omega
    subst this
    simp [rd]
  | d + 1, u, s, hs, hz => by
    by_cases e : s = d + 1
    · subst e
      rw [Nat.sub_self, Nat.pow_zero, Nat.mul_one, rd_s, if_neg (by omega)]
    · rw [rd_s, show d + 1 - s = (d - s) + 1 by omega, Nat.pow_succ, ← Nat.mul_assoc, Nat.mul_mod_left, if_pos rfl, Nat.mul_div_cancel _ (by decide)]
      exact rd_nz d u s (by omega) hz
theorem nm_x {kd : Nat} (hk : kd = 3 ∨ kd = 4) {a : Int} {s : Nat} (ha : a.natAbs < 10 ^ 18) (hs : s ≤ 9) (hz : s = 0 ∨ a.natAbs % 10 ≠ 0) : nmI (a * 10 ^ (9 - s)) (kd == 3) = some (kd, 0, a, s, []) := by
  have e : (a * 10 ^ (9 - s)).natAbs = a.natAbs * 10 ^ (9 - s) := by rw [Int.natAbs_mul, Int.natAbs_pow]; rfl
  have sg : (a * 10 ^ (9 - s)).sign = a.sign := by
    rw [Int.sign_mul, Int.sign_eq_one_of_pos (show (0 : Int) < 10 ^ (9 - s) from Int.pow_pos (by decide)), Int.mul_one]
  unfold nmI
  rw [e, rd_nz 9 _ _ hs hz, if_neg (Nat.not_le_of_lt ha), sg]
  have k : (if (kd == 3) = true then 3 else 4) = kd := by rcases hk with q | q <;> rw [q] <;> rfl
  rw [k]
  have : a.sign * ((a.natAbs : Nat) : Int) = a := Int.sign_mul_natAbs a
  rw [this]
end
