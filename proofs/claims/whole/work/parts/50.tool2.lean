/-! TOOLS: Int32 and Int64 of an Int -/
def iI (z : Int) : Int32 := Int32.ofInt z
def jL (z : Int) : Int64 := Int64.ofInt z
theorem nI_iI (n : Nat) : nI n = iI n := Int32.ofInt_eq_ofNat.symm
theorem iI_add (a b : Int) : iI a + iI b = iI (a + b) := Int32.toInt.inj (by simp [iI, Int32.size])
theorem iI_sub (a b : Int) : iI a - iI b = iI (a - b) := Int32.toInt.inj (by simp [iI, Int32.size])
theorem iI_mul (a b : Int) : iI a * iI b = iI (a * b) := Int32.toInt.inj (by simp [iI, Int32.size])
theorem iI_neg (a : Int) : -iI a = iI (-a) := Int32.toInt.inj (by simp [iI, Int32.size])
theorem iI_toInt {a : Int} (h1 : -2147483648 ≤ a) (h2 : a < 2147483648) : (iI a).toInt = a := Int32.toInt_ofInt_of_le h1 h2
theorem iI_lt {a b : Int} (h1 : -2147483648 ≤ a) (h2 : a < 2147483648) (h3 : -2147483648 ≤ b) (h4 : b < 2147483648) : iI a < iI b ↔ a < b := by
  rw [Int32.lt_iff_toInt_lt, iI_toInt h1 h2, iI_toInt h3 h4]
theorem iI_le {a b : Int} (h1 : -2147483648 ≤ a) (h2 : a < 2147483648) (h3 : -2147483648 ≤ b) (h4 : b < 2147483648) : iI a ≤ iI b ↔ a ≤ b := by
  rw [Int32.le_iff_toInt_le, iI_toInt h1 h2, iI_toInt h3 h4]
theorem iI_eq {a b : Int} (h1 : -2147483648 ≤ a) (h2 : a < 2147483648) (h3 : -2147483648 ≤ b) (h4 : b < 2147483648) : iI a = iI b ↔ a = b := by
  rw [← Int32.toInt_inj, iI_toInt h1 h2, iI_toInt h3 h4]
theorem iI_nat {z : Int} {n : Nat} (h : z = n) : iI z = nI n := by rw [h, nI_iI]
theorem jL_add (a b : Int) : jL a + jL b = jL (a + b) := Int64.toInt.inj (by simp [jL, Int64.size])
theorem jL_sub (a b : Int) : jL a - jL b = jL (a - b) := Int64.toInt.inj (by simp [jL, Int64.size])
theorem jL_mul (a b : Int) : jL a * jL b = jL (a * b) := Int64.toInt.inj (by simp [jL, Int64.size])
theorem jL_neg (a : Int) : -jL a = jL (-a) := Int64.toInt.inj (by simp [jL, Int64.size])
/-- fits a long -/
def iL (a : Int) : Prop := -9223372036854775808 ≤ a ∧ a < 9223372036854775808
theorem jL_toInt {a : Int} (h : iL a) : (jL a).toInt = a := Int64.toInt_ofInt_of_le h.1 h.2
theorem jL_of (x : Int64) : jL x.toInt = x := Int64.ofInt_toInt x
theorem iL_of (x : Int64) : iL x.toInt := ⟨x.le_toInt, x.toInt_lt⟩
theorem jL_lt {a b : Int} (h1 : iL a) (h2 : iL b) : jL a < jL b ↔ a < b := by
  rw [Int64.lt_iff_toInt_lt, jL_toInt h1, jL_toInt h2]
theorem jL_le {a b : Int} (h1 : iL a) (h2 : iL b) : jL a ≤ jL b ↔ a ≤ b := by
  rw [Int64.le_iff_toInt_le, jL_toInt h1, jL_toInt h2]
theorem jL_eq {a b : Int} (h1 : iL a) (h2 : iL b) : jL a = jL b ↔ a = b := by
  rw [← Int64.toInt_inj, jL_toInt h1, jL_toInt h2]
theorem jL_32 (z : Int) : (jL z).toInt32 = iI z := Int64.toInt32_ofInt
theorem nI_64L (n : Nat) (h : n < 2147483648) : (nI n).toInt64 = jL n := by
  rw [nI_l h]; exact Int64.ofInt_eq_ofNat.symm
theorem iI_64 {z : Int} (h1 : -2147483648 ≤ z) (h2 : z < 2147483648) : (iI z).toInt64 = jL z := by
  refine Int64.toInt.inj ?_
  rw [Int32.toInt_toInt64, iI_toInt h1 h2, jL_toInt ⟨by omega, by omega⟩]
theorem jL_div {a b : Int} (h1 : iL a) (h2 : iL b) (h3 : b ≠ -1) : jL a / jL b = jL (a.tdiv b) := by
  refine Int64.toInt.inj ?_
  have e : iL (a.tdiv b) := by
    have := Int.natAbs_tdiv_le_natAbs a b
    by_cases ha : a = -9223372036854775808
    · subst ha
      by_cases hb0 : b = 0
      · subst hb0; rw [Int.tdiv_zero]; exact ⟨by decide, by decide⟩
      · by_cases hb1 : b = 1
        · subst hb1; rw [Int.tdiv_one]; exact ⟨by decide, by decide⟩
        · have h5 : ((-9223372036854775808 : Int).tdiv b).natAbs = 9223372036854775808 / b.natAbs := by rw [Int.natAbs_tdiv]; rfl
          have h6 : 9223372036854775808 / b.natAbs ≤ 9223372036854775808 / 2 := Nat.div_le_div_left (by omega) (by decide)
          unfold iL; omega
    · unfold iL at h1 ⊢; omega
  rw [jL_toInt e, Int64.toInt_div_of_ne_right _ _ ?_, jL_toInt h1, jL_toInt h2]
  intro q
  have := congrArg Int64.toInt q
  rw [jL_toInt h2] at this
  exact h3 this
theorem hp_dL_j {a b : Int} (h1 : iL a) (h2 : iL b) (h3 : b ≠ -1) (h0 : b ≠ 0) : hp_dL (jL a) (jL b) = some (jL (a.tdiv b)) := by
  rw [hp_dL, if_neg (show ¬ jL b = 0 from fun q => h0 ((jL_eq h2 (b := 0) ⟨by decide, by decide⟩).mp q)), jL_div h1 h2 h3]
theorem hp_mL_j {a b : Int} (h1 : iL a) (h2 : iL b) (h3 : b ≠ -1) (h0 : b ≠ 0) : hp_mL (jL a) (jL b) = some (jL (a.tmod b)) := by
  rw [hp_mL, if_neg (show ¬ jL b = 0 from fun q => h0 ((jL_eq h2 (b := 0) ⟨by decide, by decide⟩).mp q)), jL_div h1 h2 h3, jL_mul, jL_sub, Int.tmod_def, Int.mul_comm b]
theorem lgc_lt (x y : Int64) : lg_cmp x y < 0 ↔ x < y := by
  unfold lg_cmp
  by_cases h : x > y
  · rw [if_pos h]; exact ⟨fun q => absurd q (by decide), fun q => by rw [GT.gt, Int64.lt_iff_toInt_lt] at h; rw [Int64.lt_iff_toInt_lt] at q; omega⟩
  · rw [if_neg h]
    by_cases e : x = y
    · rw [if_pos e]; exact ⟨fun q => absurd q (by decide), fun q => by rw [e, Int64.lt_iff_toInt_lt] at q; omega⟩
    · rw [if_neg e]
      refine ⟨fun _ => ?_, fun _ => by decide⟩
      have : x.toInt ≠ y.toInt := fun q => e (Int64.toInt.inj q)
      rw [GT.gt, Int64.lt_iff_toInt_lt] at h; rw [Int64.lt_iff_toInt_lt]; omega
theorem lgc_gt (x y : Int64) : 0 < lg_cmp x y ↔ y < x := by
  unfold lg_cmp
  by_cases h : x > y
  · rw [if_pos h]; exact ⟨fun _ => h, fun _ => by decide⟩
  · rw [if_neg h]
    by_cases e : x = y
    · rw [if_pos e]; exact ⟨fun q => absurd q (by decide), fun q => absurd q h⟩
    · rw [if_neg e]; exact ⟨fun q => absurd q (by decide), fun q => absurd q h⟩
theorem lgc_ge (x y : Int64) : 0 ≤ lg_cmp x y ↔ y ≤ x := by
  have := lgc_lt x y
  rw [Int32.lt_iff_toInt_lt, Int64.lt_iff_toInt_lt] at this
  rw [Int32.le_iff_toInt_le, Int64.le_iff_toInt_le]
  have z : (0 : Int32).toInt = 0 := rfl
  rw [z] at this ⊢
  omega
theorem lgc_le (x y : Int64) : lg_cmp x y ≤ 0 ↔ x ≤ y := by
  have := lgc_gt x y
  rw [Int32.lt_iff_toInt_lt, Int64.lt_iff_toInt_lt] at this
  rw [Int32.le_iff_toInt_le, Int64.le_iff_toInt_le]
  have z : (0 : Int32).toInt = 0 := rfl
  rw [z] at this ⊢
  omega
theorem lgc_eq (x y : Int64) : lg_cmp x y = 0 ↔ x = y := by
  unfold lg_cmp
  by_cases h : x > y
  · rw [if_pos h]; exact ⟨fun q => absurd q (by decide), fun q => by subst q; rw [GT.gt, Int64.lt_iff_toInt_lt] at h; omega⟩
  · rw [if_neg h]
    by_cases e : x = y
    · rw [if_pos e]; exact ⟨fun _ => e, fun _ => rfl⟩
    · rw [if_neg e]; exact ⟨fun q => absurd q (by decide), fun q => absurd q e⟩
