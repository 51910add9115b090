/-! THE CLASS: of a number, of a text -/
section
variable (G : Nat → Nat) {c q0 : Nat} {h : hp_H} {vs : List vV} {t : Nat} {xs : List (Option vV)}
theorem fl_lt {a : Int} {s : Nat} (ha : a.natAbs < 10 ^ 18) (hs : s ≤ 9) : (a / ((10 ^ s : Nat) : Int)).natAbs < 10 ^ 18 ∧ (0 < a % ((10 ^ s : Nat) : Int) → (a / ((10 ^ s : Nat) : Int) + 1).natAbs < 10 ^ 18) := by
  have h1 : (a / ((10 ^ s : Nat) : Int)).natAbs ≤ a.natAbs := Int.natAbs_ediv_le_natAbs _ _
  refine ⟨Nat.lt_of_le_of_lt h1 ha, fun hr => ?_⟩
  have s1 : s ≠ 0 := fun q => by
    rw [q, Nat.pow_zero] at hr
    have : a % ((1 : Nat) : Int) = 0 := Int.emod_one a
    omega
  have p10 : 10 ≤ ((10 ^ s : Nat) : Int) := by
    have : 10 ^ 1 ≤ 10 ^ s := Nat.pow_le_pow_right (by decide) (by omega)
    omega
  have h2 := Int.mul_ediv_add_emod a ((10 ^ s : Nat) : Int)
  have t18 : (10 : Nat) ^ 18 = 1000000000000000000 := rfl
  rw [t18] at ha ⊢
  by_cases q : 0 ≤ a / ((10 ^ s : Nat) : Int)
  · have h3 : 10 * (a / ((10 ^ s : Nat) : Int)) ≤ ((10 ^ s : Nat) : Int) * (a / ((10 ^ s : Nat) : Int)) := Int.mul_le_mul_of_nonneg_right p10 q
    generalize ((10 ^ s : Nat) : Int) * (a / ((10 ^ s : Nat) : Int)) = y at *
    generalize a / ((10 ^ s : Nat) : Int) = z at *
    omega
  · generalize a / ((10 ^ s : Nat) : Int) = z at *
    omega
theorem cl_ofNumber (X : XC G c q0 h vs t xs) {x : vV} (hx : xs.getD 0 none = some x) (o : Nat) (ho : 17 ≤ o) (h21 : o ≤ 21) : CE G c q0 h (m_E_ofNumber G (c + 9) (nI o) h) (kq vs (val1 o x)) := by
  obtain ⟨-, ox, lx, wx, -⟩ := xc_mem G X hx
  obtain ⟨p, p1, p2⟩ := xc_val G X hx
  have hs := X.1.2.2.2.2.2.2
  have x1 := wx.1
  have x3 := wx.2.2.1
  have x4 := wx.2.2.2.1
  have ia := iM_w wx
  have ip := iP_k (k := x.2.2.2.1) (by omega)
  obtain ⟨-, -, ifl, -, im0, im1⟩ := td_b ia ip
  have v1 : val1 o x = if nbV x then nmI (if o = 17 then -am9 x else if o = 18 then (if decide (x.2.2.1 < 0) then -am9 x else am9 x) else wh9 o (am9 x)) (x.1 == 3) else none := by
    rcases (show o = 17 ∨ o = 18 ∨ o = 19 ∨ o = 20 ∨ o = 21 by omega) with e | e | e | e | e <;> subst e
    · rw [val1_17, if_pos (show 17 = 17 from rfl)]
    · rw [val1_18, if_neg (show ¬ 18 = 17 by decide), if_pos (show 18 = 18 from rfl)]
    · rw [val1_19, if_neg (show ¬ 19 = 17 by decide), if_neg (show ¬ 19 = 18 by decide)]
    · rw [val1_20, if_neg (show ¬ 20 = 17 by decide), if_neg (show ¬ 20 = 18 by decide)]
    · rw [val1_21, if_neg (show ¬ 21 = 17 by decide), if_neg (show ¬ 21 = 18 by decide)]
  rw [v1]
  unfold m_E_ofNumber m_E_ofNumber_144 m_E_ofNumber_192
  rw [X.k, show m_E_taken G (c + 9) 0 h = _ from p1, bs, hp_nmE, p2.k, cl_isNumber G p2 x1, bs]
  cases hn : nbV x with
  | false => rw [if_pos (show bI false = 0 from rfl), if_neg (show ¬ false = true by decide)]; exact X.no G
  | true =>
    have kx : x.1 = 3 ∨ x.1 = 4 := by unfold nbV at hn; simpa using hn
    have o4 := ox.2.2.2.1 kx
    have b31 : o < 2 ^ 31 := by clear x3; omega
    rw [if_neg (show ¬ bI true = 0 by decide), if_pos (show true = true from rfl), p2.g3, bs, cl_power G h hs (by omega), bs, hp_nmE, p2.g2, bs, cl_floorDiv G h ia ip, bs, hp_nmE]
    simp only [p2.g2, bs, cl_floorMod G h ia ip, hp_nmE, X.g0, p2.g0, p2.g3, X.sk, bq, cl_abs G h ia, ie_17 b31, ie_18 b31, ie_19 b31, ie_20 b31]
    have keep : ∀ (a : Int) (s : Nat), a.natAbs < 10 ^ 18 → s ≤ 9 → (s = 0 ∨ a.natAbs % 10 ≠ 0) → ∀ T, T = a * 10 ^ (9 - s) → CE G c q0 h (m_S_keepNumber G (c + 1) (nI x.1) (jL a) (nI s) h) (kq vs (nmI T (x.1 == 3))) := fun a s ha hs9 hz T hT => by
      rw [hT, nm_x kx ha hs9 hz]
      exact X.ce G (cl_keepNumber G X.1 X.2.1 x.1 a s ⟨x1, by show 0 ≤ 9999; omega, ha, hs9, by show 0 ≤ 64; omega, fun b hb => by cases hb⟩)
    by_cases e17 : o = 17
    · rw [if_pos e17, if_pos e17, jL_neg]
      exact keep (-x.2.2.1) x.2.2.2.1 (by rw [Int.natAbs_neg]; exact x3) x4 (by rw [Int.natAbs_neg]; exact o4.2.2.2.2.2) _ (by unfold am9; rw [Int.neg_mul])
    · rw [if_neg e17, if_neg e17]
      by_cases e18 : o = 18
      · rw [if_pos e18, if_pos e18]
        refine keep ((x.2.2.1.natAbs : Nat) : Int) x.2.2.2.1 (by rw [Int.natAbs_natCast]; exact x3) x4 (by rw [Int.natAbs_natCast]; exact o4.2.2.2.2.2) _ ?_
        unfold am9
        by_cases ng : x.2.2.1 < 0
        · rw [decide_eq_true ng, if_pos (show true = true from rfl), ← Int.neg_mul, show ((x.2.2.1.natAbs : Nat) : Int) = -x.2.2.1 by clear x3; omega]
        · rw [decide_eq_false ng, if_neg (show ¬ false = true by decide), show ((x.2.2.1.natAbs : Nat) : Int) = x.2.2.1 by clear x3; omega]
      · rw [if_neg e18, if_neg e18]
        obtain ⟨f1, f2⟩ := fl_lt x3 x4
        obtain ⟨hl, hl0, hl1⟩ := am9_hl x x4
        have p9 : 0 < ((10 ^ (9 - x.2.2.2.1) : Nat) : Int) := (iP_k (k := 9 - x.2.2.2.1) (by clear x3; omega)).1
        have un : (1000000000 : Int) = ((10 ^ x.2.2.2.1 : Nat) : Int) * ((10 ^ (9 - x.2.2.2.1) : Nat) : Int) := by
          rw [← Int.natCast_mul, ← Nat.pow_add, show x.2.2.2.1 + (9 - x.2.2.2.1) = 9 by clear x3; omega]; rfl
        have c0 : lg_cmp (jL (x.2.2.1 % ((10 ^ x.2.2.2.1 : Nat) : Int))) 0 ≤ 0 ↔ ¬ 0 < x.2.2.1 % ((10 ^ x.2.2.2.1 : Nat) : Int) := by
          rw [lgc_le, ← jL_0, jL_le (by have := ip.2; unfold iL; clear x3; omega) iL_0]; clear x3; omega
        have c2 : lg_cmp (jL (x.2.2.1 % ((10 ^ x.2.2.2.1 : Nat) : Int)) * 2) (jL ((10 ^ x.2.2.2.1 : Nat) : Int)) < 0 ↔ ¬ ((10 ^ x.2.2.2.1 : Nat) : Int) ≤ x.2.2.1 % ((10 ^ x.2.2.2.1 : Nat) : Int) * 2 := by
          rw [lgc_lt, show (2 : Int64) = jL 2 from rfl, jL_mul, jL_lt (by have := ip.2; unfold iL; clear x3; omega) ip.L]; clear x3; omega
        have l0 : 0 < x.2.2.1 % ((10 ^ x.2.2.2.1 : Nat) : Int) * ((10 ^ (9 - x.2.2.2.1) : Nat) : Int) ↔ 0 < x.2.2.1 % ((10 ^ x.2.2.2.1 : Nat) : Int) := by
          constructor
          · intro q
            refine Int.lt_of_not_ge (fun z => ?_)
            have : x.2.2.1 % ((10 ^ x.2.2.2.1 : Nat) : Int) = 0 := by clear x3; omega
            rw [this, Int.zero_mul] at q
            exact Int.lt_irrefl 0 q
          · exact fun q => Int.mul_pos q p9
        have l2 : 1000000000 ≤ 2 * (x.2.2.1 % ((10 ^ x.2.2.2.1 : Nat) : Int) * ((10 ^ (9 - x.2.2.2.1) : Nat) : Int)) ↔ ((10 ^ x.2.2.2.1 : Nat) : Int) ≤ x.2.2.1 % ((10 ^ x.2.2.2.1 : Nat) : Int) * 2 := by
          rw [un, Int.mul_comm 2, Int.mul_assoc, Int.mul_comm _ 2, ← Int.mul_assoc]
          constructor
          · exact fun q => Int.le_of_mul_le_mul_right q p9
          · exact fun q => Int.mul_le_mul_of_nonneg_right q (Int.le_of_lt p9)
        have rp : ((10 ^ x.2.2.2.1 : Nat) : Int) ≤ x.2.2.1 % ((10 ^ x.2.2.2.1 : Nat) : Int) * 2 → 0 < x.2.2.1 % ((10 ^ x.2.2.2.1 : Nat) : Int) := fun q => by have := ip.1; clear x3; omega
        have td : am9 x / 1000000000 = x.2.2.1 / ((10 ^ x.2.2.2.1 : Nat) : Int) ∧ am9 x % 1000000000 = x.2.2.1 % ((10 ^ x.2.2.2.1 : Nat) : Int) * ((10 ^ (9 - x.2.2.2.1) : Nat) : Int) := by
          rw [hl]
          generalize x.2.2.1 % ((10 ^ x.2.2.2.1 : Nat) : Int) * ((10 ^ (9 - x.2.2.2.1) : Nat) : Int) = y at *
          generalize x.2.2.1 / ((10 ^ x.2.2.2.1 : Nat) : Int) = z at *
          clear x3
          omega
        have t9 : (10 : Int) ^ (9 - 0) = 1000000000 := rfl
        unfold wh9
        rw [td.1, td.2]
        by_cases e19 : o = 19
        · rw [if_pos e19, if_pos e19]
          by_cases q : 0 < x.2.2.1 % ((10 ^ x.2.2.2.1 : Nat) : Int)
          · rw [if_neg (fun z => c0.mp z q), if_pos (l0.mpr q), ← jL_1, jL_add]
            exact keep _ 0 (f2 q) (by decide) (Or.inl rfl) _ (by rw [t9])
          · rw [if_pos (c0.mpr q), if_neg (fun z => q (l0.mp z))]
            exact keep _ 0 f1 (by decide) (Or.inl rfl) _ (by rw [t9])
        · rw [if_neg e19, if_neg e19]
          by_cases e20 : o = 20
          · rw [if_pos e20, if_pos e20]
            exact keep _ 0 f1 (by decide) (Or.inl rfl) _ (by rw [t9])
          · rw [if_neg e20, if_neg e20]
            by_cases q : ((10 ^ x.2.2.2.1 : Nat) : Int) ≤ x.2.2.1 % ((10 ^ x.2.2.2.1 : Nat) : Int) * 2
            · rw [if_neg (fun z => c2.mp z q), if_pos (l2.mpr q), ← jL_1, jL_add]
              exact keep _ 0 (f2 (rp q)) (by decide) (Or.inl rfl) _ (by rw [t9])
            · rw [if_pos (c2.mpr q), if_neg (fun z => q (l2.mp z))]
              exact keep _ 0 f1 (by decide) (Or.inl rfl) _ (by rw [t9])
/-- the row, emptied -/
theorem xc_clear (X : XC G c q0 h vs t xs) : ∃ h', m_R_clear G (c + 14) h = some ((), h') ∧ RR h' (c + 14) [] ∧ chg c [14, 15] h h' ∧ XC G c q0 h' vs t xs := by
  obtain ⟨L, R⟩ := X.2.2.2.2.2.1
  obtain ⟨h', e1, e2, e3⟩ := cl_clear G R
  obtain ⟨g, w, a, s, K1, K2⟩ := X.2.2.2.2.2.2
  exact ⟨h', e1, e2, e3, X.cg G e3 (by simp) ⟨[], e2⟩ ⟨g, w, a, s, by rw [e3.at 16 (by simp)]; exact K1, K2⟩⟩
theorem XC.r {h' : hp_H} (X : XC G c q0 h vs t xs) {L : List Nat} (C : chg c [14, 15] h h') (R : RR h' (c + 14) L) : XC G c q0 h' vs t xs := by
  obtain ⟨g, w, a, s, K1, K2⟩ := X.2.2.2.2.2.2
  exact X.cg G C (by simp) ⟨L, R⟩ ⟨g, w, a, s, by rw [C.at 16 (by simp)]; exact K1, K2⟩
theorem XC.rk {β : Type} (X : XC G c q0 h vs t xs) (Y : Option β) : hp_vck h (c + 14) 4 Y = Y := by
  obtain ⟨L, R⟩ := X.2.2.2.2.2.1
  exact vck_e R.1 Y
/-- keeping the row -/
theorem xc_row {h0 : hp_H} (X : XC G c q0 h vs t xs) (C : chg c [14, 15] h0 h) (kd e : Nat) {L : List Nat} (R : RR h (c + 14) L) (hw : L.length ≤ 64 → vW (kd, e, 0, 0, L)) : CE G c q0 h0 (m_S_keepRow G (c + 1) (nI kd) (nI e) (c + 14) h) (kq vs (some (kd, e, 0, 0, L))) :=
  CE.of C (by simp) ⟨L, R⟩ X.2.2.2.2.2.2 (cl_keepRow G X.1 X.2.1 kd e L hw (by decide) R)
theorem rK : ∀ j ∈ [14, 15], j < 44 ∧ j ≠ 4 := by simp
theorem smR_dt (f u : Int) : ∀ (X : List Nat) (p : Int), smR f u X p = (X.drop (max f p - p).toNat).take ((u - p).toNat - (max f p - p).toNat)
  | [], p => by rw [smR, List.drop_nil, List.take_nil]
  | b :: r, p => by
    rw [smR, smR_dt f u r (p + 1)]
    by_cases a : f ≤ p
    · have e1 : (max f p - p).toNat = 0 := by omega
      have e2 : (max f (p + 1) - (p + 1)).toNat = 0 := by omega
      rw [e1, e2, List.drop_zero, List.drop_zero, Nat.sub_zero, Nat.sub_zero]
      by_cases q : p < u
      · rw [if_pos ⟨a, q⟩, show (u - p).toNat = (u - (p + 1)).toNat + 1 by omega, List.take_succ_cons]
      · rw [if_neg (fun z => q z.2), show (u - p).toNat = 0 by omega, show (u - (p + 1)).toNat = 0 by omega, List.take_zero, List.take_zero]
    · rw [if_neg (fun z => a z.1), show (max f p - p).toNat = (max f (p + 1) - (p + 1)).toNat + 1 by omega, List.drop_succ_cons]
      congr 1
      omega
theorem cl_part_78 {h0 : hp_H} (X : XC G c q0 h vs t xs) {x : vV} {p : Nat} (p2 : VP c h p x) (C : chg c [14, 15] h0 h) {L : List Nat} (R : RR h (c + 14) L) (wx : vW x) (hL : ∀ b ∈ L, b < 128) : CE G c q0 h0 (m_E_part_78 G (c + 9) p h) (kq vs (some (ltrs x L))) := by
  unfold m_E_part_78
  rw [X.g0, bs, p2.g0, bs, p2.g1, bs, X.g5, bs, X.sk, bq]
  exact xc_row G X C x.1 x.2.1 R (ltrs_W wx hL)
theorem cl_part {h0 : hp_H} (X : XC G c q0 h vs t xs) {x y z : vV} {p r u : Nat} (p2 : VP c h p x) (r2 : VP c h r y) (u2 : VP c h u z) (C : chg c [14, 15] h0 h) (R : RR h (c + 14) []) (wx : vW x) (wy : vW y) (wz : vW z) : CE G c q0 h0 (m_E_part G (c + 9) p r u h) (kq vs (if y.1 == 3 && z.1 == 3 then some (ltrs x (smR y.2.2.1 (y.2.2.1 + z.2.2.1) x.2.2.2.2 1)) else none)) := by
  have y1 := wy.1
  have z1 := wz.1
  have y3 := wy.2.2.1
  have z3 := wz.2.2.1
  have lx := wx.2.2.2.2.1
  have no : CE G c q0 h0 (some (-4, h)) (kq vs none) := CE.of C (by simp) ⟨[], R⟩ X.2.2.2.2.2.2 ⟨h, rfl, X.1, fr.rf⟩
  unfold m_E_part m_E_part_16
  rw [r2.g0, bs]
  simp only [ie_3 (show y.1 < 2 ^ 31 by clear y3 z3; omega)]
  by_cases a : y.1 = 3
  · rw [if_pos a, u2.g0, bs]
    simp only [ie_3 (show z.1 < 2 ^ 31 by clear y3 z3; omega)]
    by_cases b : z.1 = 3
    · have ya : y.2.2.1.natAbs ≤ 1000000000000000000 := by omega
      have za : z.2.2.1.natAbs ≤ 1000000000000000000 := by omega
      clear y3 z3
      obtain ⟨B, b1, b2, b3⟩ := p2.g4
      rw [if_pos b, a, b, if_pos (show (3 == 3 && 3 == 3) = true from rfl), r2.g2, bs, ← jL_1, cl_max2 G h (by unfold iL; omega) (by unfold iL; omega), bs, hp_nmE, jL_sub, r2.g2, bs, u2.g2, bs, b1, bs, b2.l, bs, jL_add, jL_sub, nI_64L _ (by omega), cl_min2 G h (by unfold iL; omega) (by unfold iL; omega), bs, hp_nmE, smR_dt]
      have cnd : 0 ≤ lg_cmp (jL (max y.2.2.1 1 - 1)) (jL (min (y.2.2.1 + z.2.2.1 - 1) ((x.2.2.2.2.length : Nat) : Int))) ↔ min (y.2.2.1 + z.2.2.1 - 1) ((x.2.2.2.2.length : Nat) : Int) ≤ max y.2.2.1 1 - 1 := by
        rw [lgc_ge, jL_le (by unfold iL; omega) (by unfold iL; omega)]
      by_cases q : min (y.2.2.1 + z.2.2.1 - 1) ((x.2.2.2.2.length : Nat) : Int) ≤ max y.2.2.1 1 - 1
      · rw [if_pos (cnd.mpr q)]
        have e : (x.2.2.2.2.drop (max y.2.2.1 1 - 1).toNat).take ((y.2.2.1 + z.2.2.1 - 1).toNat - (max y.2.2.1 1 - 1).toNat) = [] := by
          by_cases v : (y.2.2.1 + z.2.2.1 - 1).toNat ≤ (max y.2.2.1 1 - 1).toNat
          · rw [show (y.2.2.1 + z.2.2.1 - 1).toNat - (max y.2.2.1 1 - 1).toNat = 0 by omega, List.take_zero]
          · rw [List.drop_eq_nil_of_le (by omega), List.take_nil]
        rw [e]
        exact cl_part_78 G X p2 C R wx (fun b hb => by cases hb)
      · rw [if_neg (fun v => q (cnd.mp v)), X.g5, bs, b1, bs, X.rk, jL_32, jL_32]
        obtain ⟨f, hf⟩ : ∃ f : Nat, max y.2.2.1 1 - 1 = f := ⟨(max y.2.2.1 1 - 1).toNat, by omega⟩
        obtain ⟨e, he⟩ : ∃ e : Nat, min (y.2.2.1 + z.2.2.1 - 1) ((x.2.2.2.2.length : Nat) : Int) = e := ⟨(min (y.2.2.1 + z.2.2.1 - 1) ((x.2.2.2.2.length : Nat) : Int)).toNat, by omega⟩
        rw [hf, he, iI_nat rfl, iI_nat rfl]
        obtain ⟨h1, g1, g2, g3⟩ := cl_putPart G (k := 14) (L := []) b3 (by decide) wx.2.2.2.2.2 (s := f) (e := e) (by omega) (by omega) (by omega) R b2
        rw [g1, bs]
        have X1 := X.r G g3 g2
        rw [List.nil_append] at g2
        have ee : (x.2.2.2.2.drop ((f : Int)).toNat).take ((y.2.2.1 + z.2.2.1 - 1).toNat - ((f : Int)).toNat) = (x.2.2.2.2.drop f).take (e - f) := by
          rw [Int.toNat_natCast]
          by_cases v : (y.2.2.1 + z.2.2.1 - 1).toNat = e
          · rw [v]
          · rw [List.take_of_length_le (by rw [List.length_drop]; omega), List.take_of_length_le (by rw [List.length_drop]; omega)]
        rw [ee]
        exact cl_part_78 G X1 (p2.c g3 rK) (C.tr g3) g2 wx (fun b hb => wx.2.2.2.2.2 b (mem_dt hb))
    · rw [if_neg b, a, beq_false_of_ne b]; exact no
  · rw [if_neg a, beq_false_of_ne a]; exact no
theorem csB_e : ∀ b, b < 128 → (csB 97 b = if 97 ≤ b ∧ b ≤ 122 then b - 32 else b) ∧ (csB 65 b = if 65 ≤ b ∧ b ≤ 90 then b + 32 else b) := by decide +kernel
theorem cl_turned_3 {h0 : hp_H} {x : vV} {p : Nat} (wx : vW x) (lo hi first : Nat) (by_ : Int32) (hlo : lo < 128) (hhi : hi < 128) (hby : ∀ b, b < 128 → lo ≤ b → b ≤ hi → nI b + by_ = nI (csB first b)) (hno : ∀ b, b < 128 → ¬ (lo ≤ b ∧ b ≤ hi) → csB first b = b) (hb8 : ∀ b, b < 128 → csB first b < 128) : ∀ (n i : Nat) (h : hp_H) (L : List Nat), XC G c q0 h vs t xs → VP c h p x → chg c [14, 15] h0 h → RR h (c + 14) L → x.2.2.2.2.length - i < n → i ≤ x.2.2.2.2.length → (∀ b ∈ L, b < 128) → CE G c q0 h0 (m_E_turned_3 G n (c + 9) p (nI lo) (nI hi) by_ (nI i) h) (kq vs (some (ltrs x (L ++ (x.2.2.2.2.drop i).map (csB first)))))
  | 0, i, h, L, _, _, _, _, hn, _, _ => by omega
  | n + 1, i, h, L, X, p2, C, R, hn, hi_, hL => by
    have lx := wx.2.2.2.2.1
    obtain ⟨B, b1, b2, b3⟩ := p2.g4
    rw [m_E_turned_3, b1, bs, b2.l, bs]
    simp only [nI_leI (show x.2.2.2.2.length < 2 ^ 31 by omega) (show i < 2 ^ 31 by omega)]
    by_cases e : x.2.2.2.2.length ≤ i
    · rw [if_pos e, X.g0, bs, p2.g0, bs, p2.g1, bs, X.g5, bs, X.sk, bq, List.drop_eq_nil_of_le e, List.map_nil, List.append_nil]
      exact xc_row G X C x.1 x.2.1 R (ltrs_W wx hL)
    · have bx : x.2.2.2.2.getD i 0 < 128 := wx.2.2.2.2.2 _ (by rw [List.getD_eq_getElem?_getD, List.getElem?_eq_getElem (by omega)]; exact List.getElem_mem _)
      rw [if_neg e, bs, b2.a (show i < _ by omega) lx, bs, hp_nmE, X.g5, bs, take_s (show i < x.2.2.2.2.length by omega), List.map_cons]
      simp only [nI_ltI (show x.2.2.2.2.getD i 0 < 2 ^ 31 by omega) (show lo < 2 ^ 31 by omega), nI_ltI (show hi < 2 ^ 31 by omega) (show x.2.2.2.2.getD i 0 < 2 ^ 31 by omega)]
      have go : ∀ v : Int32, v = nI (csB first (x.2.2.2.2.getD i 0)) → CE G c q0 h0 (m_E_turned_48 G (m_E_turned_3 G n) (c + 9) p (nI lo) (nI hi) by_ (nI i) v (c + 14) h) (kq vs (some (ltrs x (L ++ csB first (x.2.2.2.2.getD i 0) :: (x.2.2.2.2.drop (i + 1)).map (csB first))))) := fun v hv => by
        unfold m_E_turned_48
        rw [X.rk, hv]
        obtain ⟨h1, g1, g2, g3⟩ := cl_put G R (x := nI (csB first (x.2.2.2.2.getD i 0))) (b := csB first (x.2.2.2.2.getD i 0)) rfl
        rw [g1, bs, hp_nmE, nI_1]
        have key := cl_turned_3 wx lo hi first by_ hlo hhi hby hno hb8 n (i + 1) h1 _ (X.r G g3 g2) (p2.c g3 rK) (C.tr g3) g2 (by omega) (by omega) (fun b hb => by
          rcases List.mem_append.mp hb with q | q
          · exact hL b q
          · simp at q; rw [q]; exact hb8 _ bx)
        rw [List.append_assoc] at key
        exact key
      unfold m_E_turned_46
      by_cases q1 : x.2.2.2.2.getD i 0 < lo
      · rw [if_pos q1]; exact go _ (by rw [hno _ bx (by omega)])
      · rw [if_neg q1]
        by_cases q2 : hi < x.2.2.2.2.getD i 0
        · rw [if_pos q2]; exact go _ (by rw [hno _ bx (by omega)])
        · rw [if_neg q2]; exact go _ (hby _ bx (by omega) (by omega))
theorem cl_ofText (X : XC G c q0 h vs t xs) {x : vV} (hx : xs.getD 0 none = some x) (o : Nat) (ho : o = 25 ∨ o = 27 ∨ o = 28) : CE G c q0 h (m_E_ofText G (c + 9) (nI o) h) (kq vs (val1 o x)) := by
  obtain ⟨-, ox, lx, wx, -⟩ := xc_mem G X hx
  obtain ⟨p, p1, p2⟩ := xc_val G X hx
  have x1 := wx.1
  unfold m_E_ofText
  rw [X.k, show m_E_taken G (c + 9) 0 h = _ from p1, bs, hp_nmE, p2.k, cl_isPlain G p2 x1, bs]
  have v0 : plV x = false → val1 o x = none := fun z => by
    rcases ho with e | e | e <;> subst e
    · rw [val1_25, z, if_neg (show ¬ false = true by decide)]
    · rw [val1_27, csV, z, if_neg (show ¬ false = true by decide)]
    · rw [val1_28, csV, z, if_neg (show ¬ false = true by decide)]
  cases hp : plV x with
  | false => rw [if_pos (show bI false = 0 from rfl), v0 hp]; exact X.no G
  | true =>
    obtain ⟨h1, c1, c2, c3, X1⟩ := xc_clear G X
    have p3 := p2.c c3 rK
    obtain ⟨B, b1, b2, b3⟩ := p3.g4
    rw [if_neg (show ¬ bI true = 0 by decide), X.g5, bs, X.rk, c1, bs]
    rcases ho with e | e | e <;> subst e
    · rw [if_pos (show nI 25 = 25 from rfl), X1.g0, bs, b1, bs, b2.l, bs, X1.sk, bq, nI_64L _ (by omega), val1_25, hp, if_pos (show true = true from rfl)]
      have n := nm_x (kd := 3) (Or.inl rfl) (a := ((x.2.2.2.2.length : Nat) : Int)) (s := 0) (by rw [Int.natAbs_natCast]; omega) (by decide) (Or.inl rfl)
      rw [show ((3 == 3) = true) from rfl] at n
      rw [n]
      exact CE.of c3 (by simp) X1.2.2.2.2.2.1 X1.2.2.2.2.2.2 (cl_keepNumber G X1.1 X1.2.1 3 _ 0 ⟨by show 3 ≤ 8; decide, by show 0 ≤ 9999; decide, by show (((x.2.2.2.2.length : Nat) : Int)).natAbs < _; rw [Int.natAbs_natCast]; omega, by show 0 ≤ 9; decide, by show 0 ≤ 64; decide, fun b hb => by cases hb⟩)
    · rw [if_neg (show ¬ nI 27 = 25 by decide), if_neg (show ¬ nI 27 = 26 by decide), if_pos (show nI 27 = 27 from rfl), X1.k, bq, val1_27, csV, hp, if_pos (show true = true from rfl), if_pos (show 27 = 27 from rfl)]
      unfold m_E_turned
      rw [hp_nmE]
      have key := cl_turned_3 G (h0 := h) (xs := xs) (t := t) (vs := vs) (c := c) (q0 := q0) wx 97 122 97 (-32) (by decide) (by decide) (by decide +kernel) (by decide +kernel) (by decide +kernel) hp_fu 0 h1 [] X1 p3 c3 c2 (by unfold hp_fu; omega) (by omega) (fun b hb => by cases hb)
      rw [List.drop_zero, List.nil_append] at key
      exact key
    · rw [if_neg (show ¬ nI 28 = 25 by decide), if_neg (show ¬ nI 28 = 26 by decide), if_neg (show ¬ nI 28 = 27 by decide), X1.k, bq, val1_28, csV, hp, if_pos (show true = true from rfl), if_neg (show ¬ 28 = 27 by decide)]
      unfold m_E_turned
      rw [hp_nmE]
      have key := cl_turned_3 G (h0 := h) (xs := xs) (t := t) (vs := vs) (c := c) (q0 := q0) wx 65 90 65 32 (by decide) (by decide) (by decide +kernel) (by decide +kernel) (by decide +kernel) hp_fu 0 h1 [] X1 p3 c3 c2 (by unfold hp_fu; omega) (by omega) (fun b hb => by cases hb)
      rw [List.drop_zero, List.nil_append] at key
      exact key
theorem cl_opPart (X : XC G c q0 h vs t xs) {x y z : vV} (hx : xs.getD 0 none = some x) (hy : xs.getD 1 none = some y) (hz : xs.getD 2 none = some z) : CE G c q0 h (m_E_ofText G (c + 9) (nI 26) h) (kq vs (smV x y z)) := by
  obtain ⟨-, ox, lx, wx, -⟩ := xc_mem G X hx
  obtain ⟨-, -, -, wy, -⟩ := xc_mem G X hy
  obtain ⟨-, -, -, wz, -⟩ := xc_mem G X hz
  obtain ⟨p, p1, p2⟩ := xc_val G X hx
  have x1 := wx.1
  unfold m_E_ofText smV
  rw [X.k, show m_E_taken G (c + 9) 0 h = _ from p1, bs, hp_nmE, p2.k, cl_isPlain G p2 x1, bs]
  cases hp : plV x with
  | false => rw [if_pos (show bI false = 0 from rfl), Bool.false_and, if_neg (show ¬ false = true by decide)]; exact X.no G
  | true =>
    obtain ⟨h1, c1, c2, c3, X1⟩ := xc_clear G X
    obtain ⟨r, r1, r2⟩ := xc_val G X1 hy
    obtain ⟨u, u1, u2⟩ := xc_val G X1 hz
    rw [if_neg (show ¬ bI true = 0 by decide), X.g5, bs, X.rk, c1, bs, if_neg (show ¬ nI 26 = 25 by decide), if_pos (show nI 26 = 26 from rfl), X1.k, show m_E_taken G (c + 9) 1 h1 = _ from r1, bs, X1.k, show m_E_taken G (c + 9) 2 h1 = _ from u1, bs, X1.k, bq, Bool.true_and]
    exact cl_part G X1 (p2.c c3 rK) r2 u2 c3 c2 wx wy wz
end
