/-! THE CLASS: numbers. floorDiv, floorMod, abs, min, max, compare, power, billionths -/
theorem xor_ge (x y : Int64) : 0 ≤ x ^^^ y ↔ (x.toInt < 0 ↔ y.toInt < 0) := by
  have m : (x ^^^ y).toBitVec.msb = (x.toBitVec.msb ^^ y.toBitVec.msb) := by rw [Int64.toBitVec_xor, BitVec.msb_xor]
  rw [BitVec.msb_eq_toInt, BitVec.msb_eq_toInt, BitVec.msb_eq_toInt] at m
  rw [Int64.le_iff_toInt_le, show (0 : Int64).toInt = 0 from rfl]
  show 0 ≤ (x ^^^ y).toBitVec.toInt ↔ (x.toBitVec.toInt < 0 ↔ y.toBitVec.toInt < 0)
  generalize (x ^^^ y).toBitVec.toInt = p at *
  generalize x.toBitVec.toInt = q at *
  generalize y.toBitVec.toInt = r at *
  by_cases a : p < 0 <;> by_cases b : q < 0 <;> by_cases d : r < 0 <;> simp [a, b, d] at m ⊢ <;> omega
theorem iL_0 : iL 0 := ⟨by decide, by decide⟩
theorem jL_0 : jL 0 = 0 := rfl
theorem jL_1 : jL 1 = 1 := rfl
/-- well within a long -/
def iM (a : Int) : Prop := a.natAbs ≤ 4000000000000000000
theorem iM.L {a : Int} (h : iM a) : iL a := by unfold iM at h; unfold iL; omega
def iP (b : Int) : Prop := 0 < b ∧ b ≤ 1000000000000000000
theorem iP.L {a : Int} (h : iP a) : iL a := by unfold iP at h; unfold iL; omega
theorem iP_k {k : Nat} (h : k < 19) : iP ((10 ^ k : Nat) : Int) := by
  have h1 : 10 ^ k ≤ 10 ^ 18 := Nat.pow_le_pow_right (by decide) (by omega)
  have h2 := Nat.pow_pos (n := k) (show 0 < 10 by decide)
  unfold iP
  generalize 10 ^ k = z at *
  omega
theorem td_e {a b : Int} (hb : 0 < b) : (0 ≤ a → a.tdiv b = a / b ∧ a.tmod b = a % b) ∧ (a < 0 → (a.tdiv b * b = a → a.tdiv b = a / b ∧ a.tmod b = 0 ∧ a % b = 0) ∧ (a.tdiv b * b ≠ a → a.tdiv b - 1 = a / b ∧ a.tmod b ≠ 0 ∧ a.tmod b + b = a % b)) := by
  have h5 : a.tdiv b = a / b + if 0 ≤ a ∨ b ∣ a then 0 else b.sign := Int.tdiv_eq_ediv
  have h6 : a.tmod b = a % b - ((if 0 ≤ a ∨ b ∣ a then 0 else b.natAbs : Nat) : Int) := Int.tmod_eq_emod
  have sg : b.sign = 1 := Int.sign_eq_one_of_pos hb
  refine ⟨fun q => ?_, fun q => ⟨fun d => ?_, fun d => ?_⟩⟩
  · rw [if_pos (Or.inl q)] at h5 h6; omega
  · have dv : b ∣ a := ⟨a.tdiv b, by rw [Int.mul_comm]; exact d.symm⟩
    rw [if_pos (Or.inr dv)] at h5 h6
    have := Int.emod_eq_zero_of_dvd dv
    omega
  · have nd : ¬ b ∣ a := fun dv => d (Int.tdiv_mul_cancel dv)
    rw [if_neg (fun z => by rcases z with z | z; omega; exact nd z)] at h5 h6
    rw [sg] at h5
    have z1 : a.tmod b ≠ 0 := fun z => nd (Int.dvd_of_tmod_eq_zero z)
    omega
theorem td_b {a b : Int} (h : iM a) (hb : iP b) : iL (a.tdiv b) ∧ iL (a.tdiv b * b) ∧ iM (a / b) ∧ iL (a.tmod b) ∧ 0 ≤ a % b ∧ a % b < b := by
  have h1 : (a.tdiv b).natAbs = a.natAbs / b.natAbs := Int.natAbs_tdiv a b
  have h2 : a.natAbs / b.natAbs * b.natAbs ≤ a.natAbs := Nat.div_mul_le_self _ _
  have h3 : (a.tdiv b * b).natAbs = (a.tdiv b).natAbs * b.natAbs := Int.natAbs_mul _ _
  have h4 : a.natAbs / b.natAbs ≤ a.natAbs := Nat.div_le_self _ _
  obtain ⟨t1, t2⟩ := td_e (a := a) hb.1
  have h6 : 0 ≤ a % b := Int.emod_nonneg _ (by have := hb.1; omega)
  have h7 := Int.emod_lt_of_pos a hb.1
  have h8 : (a.tmod b).natAbs ≤ a.natAbs := by rw [Int.natAbs_tmod]; exact Nat.mod_le _ _
  have e1 : (a.tdiv b * b).natAbs ≤ a.natAbs := by rw [h3, h1]; exact h2
  have e2 : (a.tdiv b).natAbs ≤ a.natAbs := by rw [h1]; exact h4
  have e3 : (a / b).natAbs ≤ a.natAbs := by
    have := Int.natAbs_ediv_le_natAbs a b
    exact this
  unfold iM at h
  unfold iM iL
  omega
section
variable (G : Nat → Nat) (h : hp_H)
theorem lz_ge (a : Int64) : 0 ≤ lg_cmp a 0 ↔ 0 ≤ a := lgc_ge a 0
theorem cl_floorDiv {a b : Int} (ha : iM a) (hb : iP b) : m_MA_floorDiv G (jL a) (jL b) h = some (jL (a / b), h) := by
  obtain ⟨t1, t2⟩ := td_e (a := a) hb.1
  obtain ⟨b1, b2, -, -, -, -⟩ := td_b ha hb
  have hb0 := hb.1
  unfold m_MA_floorDiv m_MA_floorDiv_27
  rw [hp_dL_j ha.L hb.L (by omega) (by omega)]
  have c : 0 ≤ lg_cmp (jL a ^^^ jL b) 0 ↔ 0 ≤ a := by
    rw [lgc_ge, xor_ge, jL_toInt ha.L, jL_toInt hb.L]; omega
  simp only [bs, hp_nm]
  by_cases q : 0 ≤ a
  · rw [if_pos (c.mpr q), (t1 q).1]
  · rw [if_neg (fun z => q (c.mp z))]
    have d : lg_cmp (jL (a.tdiv b) * jL b) (jL a) = 0 ↔ a.tdiv b * b = a := by
      rw [lgc_eq, jL_mul, jL_eq b2 ha.L]
    by_cases e : a.tdiv b * b = a
    · rw [if_pos (d.mpr e), ((t2 (by omega)).1 e).1]
    · rw [if_neg (fun z => e (d.mp z)), ← jL_1, jL_sub, ((t2 (by omega)).2 e).1]
theorem cl_floorMod {a b : Int} (ha : iM a) (hb : iP b) : m_MA_floorMod G (jL a) (jL b) h = some (jL (a % b), h) := by
  obtain ⟨t1, t2⟩ := td_e (a := a) hb.1
  obtain ⟨b1, b2, -, b4, -, -⟩ := td_b ha hb
  have hb0 := hb.1
  unfold m_MA_floorMod m_MA_floorMod_25
  rw [hp_mL_j ha.L hb.L (by omega) (by omega)]
  have c : 0 ≤ lg_cmp (jL a ^^^ jL b) 0 ↔ 0 ≤ a := by
    rw [lgc_ge, xor_ge, jL_toInt ha.L, jL_toInt hb.L]; omega
  simp only [bs, hp_nm]
  by_cases q : 0 ≤ a
  · rw [if_pos (c.mpr q), (t1 q).2]
  · rw [if_neg (fun z => q (c.mp z))]
    have d : lg_cmp (jL (a.tmod b)) 0 = 0 ↔ a.tmod b = 0 := by
      rw [lgc_eq, ← jL_0, jL_eq b4 iL_0]
    by_cases e : a.tdiv b * b = a
    · have := (t2 (by omega)).1 e
      rw [if_pos (d.mpr this.2.1), this.2.1, this.2.2]
    · have := (t2 (by omega)).2 e
      rw [if_neg (fun z => this.2.1 (d.mp z)), jL_add, this.2.2]
theorem cl_abs {a : Int} (ha : iM a) : m_MA_abs G (jL a) h = some (jL (a.natAbs : Int), h) := by
  unfold m_MA_abs m_MA_abs_12
  have c : 0 ≤ lg_cmp (jL a) 0 ↔ 0 ≤ a := by rw [lgc_ge, ← jL_0, jL_le iL_0 ha.L]
  by_cases q : 0 ≤ a
  · rw [if_pos (c.mpr q)]; exact congrArg (fun z => some (jL z, h)) (by omega)
  · rw [if_neg (fun z => q (c.mp z)), jL_neg]; exact congrArg (fun z => some (jL z, h)) (by omega)
theorem cl_min2 {a b : Int} (ha : iL a) (hb : iL b) : m_MA_min2 G (jL a) (jL b) h = some (jL (min a b), h) := by
  unfold m_MA_min2 m_MA_min2_11
  have c : 0 < lg_cmp (jL a) (jL b) ↔ b < a := by rw [lgc_gt, jL_lt hb ha]
  by_cases q : b < a
  · rw [if_pos (c.mpr q)]; exact congrArg (fun z => some (jL z, h)) (by omega)
  · rw [if_neg (fun z => q (c.mp z))]; exact congrArg (fun z => some (jL z, h)) (by omega)
theorem cl_max2 {a b : Int} (ha : iL a) (hb : iL b) : m_MA_max2 G (jL a) (jL b) h = some (jL (max a b), h) := by
  unfold m_MA_max2 m_MA_max2_11
  have c : lg_cmp (jL a) (jL b) < 0 ↔ a < b := by rw [lgc_lt, jL_lt ha hb]
  by_cases q : a < b
  · rw [if_pos (c.mpr q)]; exact congrArg (fun z => some (jL z, h)) (by omega)
  · rw [if_neg (fun z => q (c.mp z))]; exact congrArg (fun z => some (jL z, h)) (by omega)
theorem cl_compareL {a b : Int} (ha : iL a) (hb : iL b) : m_LO_compare G (jL a) (jL b) h = some (sgI (a - b), h) := by
  unfold m_LO_compare m_LO_compare_21 sgI
  have c : 0 ≤ lg_cmp (jL a) (jL b) ↔ b ≤ a := by rw [lgc_ge, jL_le hb ha]
  have d : lg_cmp (jL a) (jL b) = 0 ↔ a = b := by rw [lgc_eq, jL_eq ha hb]
  by_cases q : b ≤ a
  · rw [if_pos (c.mpr q), if_neg (show ¬ a - b < 0 by omega)]
    by_cases e : a = b
    · rw [if_pos (d.mpr e), if_pos (show a - b = 0 by omega)]
    · rw [if_neg (fun z => e (d.mp z)), if_neg (show ¬ a - b = 0 by omega)]
  · rw [if_neg (fun z => q (c.mp z)), if_pos (show a - b < 0 by omega)]
theorem cl_compareI {a b : Nat} (ha : a < 2 ^ 31) (hb : b < 2 ^ 31) : m_IN_compare G (nI a) (nI b) h = some (cmN a b, h) := by
  unfold m_IN_compare m_IN_compare_19 cmN
  simp only [nI_leI hb ha, nI_eq ha hb]
  by_cases q : b ≤ a
  · rw [if_pos q, if_neg (show ¬ a < b by omega)]
    by_cases e : a = b
    · rw [if_pos e, if_pos e]
    · rw [if_neg e, if_neg e]
  · rw [if_neg q, if_pos (show a < b by omega)]
theorem cl_max {a b : Nat} (ha : a < 2 ^ 31) (hb : b < 2 ^ 31) : m_MA_max G (nI a) (nI b) h = some (nI (max a b), h) := by
  unfold m_MA_max m_MA_max_10
  simp only [nI_ltI ha hb]
  by_cases q : a < b
  · rw [if_pos q]; exact congrArg (fun z => some (nI z, h)) (by omega)
  · rw [if_neg q]; exact congrArg (fun z => some (nI z, h)) (by omega)
theorem cl_min {a b : Nat} (ha : a < 2 ^ 31) (hb : b < 2 ^ 31) : m_MA_min G (nI a) (nI b) h = some (nI (min a b), h) := by
  unfold m_MA_min m_MA_min_10
  simp only [nI_ltI hb ha]
  by_cases q : b < a
  · rw [if_pos q]; exact congrArg (fun z => some (nI z, h)) (by omega)
  · rw [if_neg q]; exact congrArg (fun z => some (nI z, h)) (by omega)
variable {c : Nat}
theorem cl_power (hs : SC G c h) {k : Nat} (hk : k < 19) : m_D_power G (nI k) h = some (jL ((10 ^ k : Nat) : Int), h) := by
  obtain ⟨w, f, e1, e2⟩ := hs.2.1
  unfold m_D_power m_D_power_21
  rw [if_neg (show ¬ nI k < 0 from nI_pos (by omega)), len_e e1, bs, if_neg (nI_ge (by omega) (by decide)), aL_e e1 hk (by decide), bs, e2 k hk]
theorem cl_billionths (hs : SC G c h) {a : Int} {s : Nat} (ha : iM a) (hk : s ≤ 9) : m_D_billionths G (jL a) (nI s) h = some (jL (a % ((10 ^ s : Nat) : Int) * ((10 ^ (9 - s) : Nat) : Int)), h) := by
  unfold m_D_billionths
  rw [cl_power G h hs (by omega), bs, cl_floorMod G h ha (iP_k (by omega)), bs, show (9 : Int32) - nI s = nI (9 - s) by rw [show (9 : Int32) = nI 9 from rfl, pk_sub hk], cl_power G h hs (by omega), bs, jL_mul]
end
/-- a number as billionths: what lies before the dot, and behind it -/
theorem am9_hl (x : vV) (hs : x.2.2.2.1 ≤ 9) : am9 x = x.2.2.1 / ((10 ^ x.2.2.2.1 : Nat) : Int) * 1000000000 + x.2.2.1 % ((10 ^ x.2.2.2.1 : Nat) : Int) * ((10 ^ (9 - x.2.2.2.1) : Nat) : Int) ∧ 0 ≤ x.2.2.1 % ((10 ^ x.2.2.2.1 : Nat) : Int) * ((10 ^ (9 - x.2.2.2.1) : Nat) : Int) ∧ x.2.2.1 % ((10 ^ x.2.2.2.1 : Nat) : Int) * ((10 ^ (9 - x.2.2.2.1) : Nat) : Int) < 1000000000 := by
  unfold am9
  generalize x.2.2.1 = a
  generalize x.2.2.2.1 = s at *
  have e : (1000000000 : Int) = ((10 ^ s : Nat) : Int) * ((10 ^ (9 - s) : Nat) : Int) := by
    rw [← Int.natCast_mul, ← Nat.pow_add, show s + (9 - s) = 9 by omega]; rfl
  have p1 : 0 < ((10 ^ s : Nat) : Int) := (iP_k (k := s) (by omega)).1
  have p2 : 0 < ((10 ^ (9 - s) : Nat) : Int) := (iP_k (k := 9 - s) (by omega)).1
  have h1 := Int.mul_ediv_add_emod a ((10 ^ s : Nat) : Int)
  have h2 := Int.emod_nonneg a (show ((10 ^ s : Nat) : Int) ≠ 0 by omega)
  have h3 := Int.emod_lt_of_pos a p1
  have cst : (10 : Int) ^ (9 - s) = ((10 ^ (9 - s) : Nat) : Int) := by rw [Int.natCast_pow]; rfl
  rw [cst]
  refine ⟨?_, Int.mul_nonneg h2 (by omega), ?_⟩
  · rw [e, ← Int.mul_assoc, ← Int.add_mul, Int.mul_comm (a / _), h1]
  · rw [e]; exact Int.mul_lt_mul_of_pos_right h3 p2
