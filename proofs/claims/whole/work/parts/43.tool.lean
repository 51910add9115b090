/-! TOOLS: literals, places of the reference's arrays, what a method's last row is -/
theorem il_0 : (0 : Int32) = nI 0 := rfl
theorem il_1 : (1 : Int32) = nI 1 := rfl
theorem il_2 : (2 : Int32) = nI 2 := rfl
theorem il_3 : (3 : Int32) = nI 3 := rfl
theorem il_4 : (4 : Int32) = nI 4 := rfl
theorem il_5 : (5 : Int32) = nI 5 := rfl
theorem il_6 : (6 : Int32) = nI 6 := rfl
theorem il_7 : (7 : Int32) = nI 7 := rfl
theorem il_8 : (8 : Int32) = nI 8 := rfl
theorem il_9 : (9 : Int32) = nI 9 := rfl
theorem il_10 : (10 : Int32) = nI 10 := rfl
theorem il_11 : (11 : Int32) = nI 11 := rfl
theorem il_12 : (12 : Int32) = nI 12 := rfl
theorem il_13 : (13 : Int32) = nI 13 := rfl
theorem il_14 : (14 : Int32) = nI 14 := rfl
theorem il_15 : (15 : Int32) = nI 15 := rfl
theorem il_16 : (16 : Int32) = nI 16 := rfl
theorem il_17 : (17 : Int32) = nI 17 := rfl
theorem il_18 : (18 : Int32) = nI 18 := rfl
theorem il_19 : (19 : Int32) = nI 19 := rfl
theorem il_20 : (20 : Int32) = nI 20 := rfl
theorem il_21 : (21 : Int32) = nI 21 := rfl
theorem il_22 : (22 : Int32) = nI 22 := rfl
theorem il_23 : (23 : Int32) = nI 23 := rfl
theorem il_24 : (24 : Int32) = nI 24 := rfl
theorem il_25 : (25 : Int32) = nI 25 := rfl
theorem il_26 : (26 : Int32) = nI 26 := rfl
theorem il_27 : (27 : Int32) = nI 27 := rfl
theorem il_28 : (28 : Int32) = nI 28 := rfl
theorem il_29 : (29 : Int32) = nI 29 := rfl
theorem il_30 : (30 : Int32) = nI 30 := rfl
theorem il_31 : (31 : Int32) = nI 31 := rfl
theorem il_32 : (32 : Int32) = nI 32 := rfl
theorem il_33 : (33 : Int32) = nI 33 := rfl
theorem il_34 : (34 : Int32) = nI 34 := rfl
theorem il_35 : (35 : Int32) = nI 35 := rfl
theorem il_36 : (36 : Int32) = nI 36 := rfl
theorem il_37 : (37 : Int32) = nI 37 := rfl
theorem il_38 : (38 : Int32) = nI 38 := rfl
theorem il_39 : (39 : Int32) = nI 39 := rfl
theorem il_40 : (40 : Int32) = nI 40 := rfl
theorem il_41 : (41 : Int32) = nI 41 := rfl
theorem il_45 : (45 : Int32) = nI 45 := rfl
theorem il_46 : (46 : Int32) = nI 46 := rfl
theorem il_48 : (48 : Int32) = nI 48 := rfl
theorem il_63 : (63 : Int32) = nI 63 := rfl
theorem il_64 : (64 : Int32) = nI 64 := rfl
theorem il_65 : (65 : Int32) = nI 65 := rfl
theorem il_90 : (90 : Int32) = nI 90 := rfl
theorem il_97 : (97 : Int32) = nI 97 := rfl
theorem il_99 : (99 : Int32) = nI 99 := rfl
theorem il_100 : (100 : Int32) = nI 100 := rfl
theorem il_122 : (122 : Int32) = nI 122 := rfl
theorem il_127 : (127 : Int32) = nI 127 := rfl
theorem il_128 : (128 : Int32) = nI 128 := rfl
theorem il_255 : (255 : Int32) = nI 255 := rfl
theorem il_500 : (500 : Int32) = nI 500 := rfl
theorem il_1000 : (1000 : Int32) = nI 1000 := rfl
theorem il_1001 : (1001 : Int32) = nI 1001 := rfl
theorem il_1002 : (1002 : Int32) = nI 1002 := rfl
theorem il_1003 : (1003 : Int32) = nI 1003 := rfl
theorem il_1004 : (1004 : Int32) = nI 1004 := rfl
theorem il_2000 : (2000 : Int32) = nI 2000 := rfl
theorem il_9999 : (9999 : Int32) = nI 9999 := rfl
theorem lm_a1 (o : Nat) (h : hp_H) (S : lm_S) (n : Nat) (hn : n < 2001) : hp_aI (lm_w o h S) .int (o + 1) (nI n) = some (S.2 1 n) := lm_aN o h S 1 n (by decide) (by decide) hn
theorem lm_s1 (o : Nat) (h : hp_H) (S : lm_S) (n : Nat) (x : Int32) (hn : n < 2001) : hp_sI (lm_w o h S) .int (o + 1) (nI n) x = some (lm_w o h (S.1, lm_up S.2 1 (upd (S.2 1) n x))) := lm_sN o h S 1 n x (by decide) (by decide) hn
theorem lm_a2 (o : Nat) (h : hp_H) (S : lm_S) (n : Nat) (hn : n < 2001) : hp_aI (lm_w o h S) .int (o + 2) (nI n) = some (S.2 2 n) := lm_aN o h S 2 n (by decide) (by decide) hn
theorem lm_s2 (o : Nat) (h : hp_H) (S : lm_S) (n : Nat) (x : Int32) (hn : n < 2001) : hp_sI (lm_w o h S) .int (o + 2) (nI n) x = some (lm_w o h (S.1, lm_up S.2 2 (upd (S.2 2) n x))) := lm_sN o h S 2 n x (by decide) (by decide) hn
theorem lm_a3 (o : Nat) (h : hp_H) (S : lm_S) (n : Nat) (hn : n < 2001) : hp_aI (lm_w o h S) .int (o + 3) (nI n) = some (S.2 3 n) := lm_aN o h S 3 n (by decide) (by decide) hn
theorem lm_s3 (o : Nat) (h : hp_H) (S : lm_S) (n : Nat) (x : Int32) (hn : n < 2001) : hp_sI (lm_w o h S) .int (o + 3) (nI n) x = some (lm_w o h (S.1, lm_up S.2 3 (upd (S.2 3) n x))) := lm_sN o h S 3 n x (by decide) (by decide) hn
theorem lm_a4 (o : Nat) (h : hp_H) (S : lm_S) (n : Nat) (hn : n < 2001) : hp_aI (lm_w o h S) .int (o + 4) (nI n) = some (S.2 4 n) := lm_aN o h S 4 n (by decide) (by decide) hn
theorem lm_s4 (o : Nat) (h : hp_H) (S : lm_S) (n : Nat) (x : Int32) (hn : n < 2001) : hp_sI (lm_w o h S) .int (o + 4) (nI n) x = some (lm_w o h (S.1, lm_up S.2 4 (upd (S.2 4) n x))) := lm_sN o h S 4 n x (by decide) (by decide) hn
theorem lm_a5 (o : Nat) (h : hp_H) (S : lm_S) (n : Nat) (hn : n < 36018) : hp_aI (lm_w o h S) .int (o + 5) (nI n) = some (S.2 5 n) := lm_aN o h S 5 n (by decide) (by decide) hn
theorem lm_s5 (o : Nat) (h : hp_H) (S : lm_S) (n : Nat) (x : Int32) (hn : n < 36018) : hp_sI (lm_w o h S) .int (o + 5) (nI n) x = some (lm_w o h (S.1, lm_up S.2 5 (upd (S.2 5) n x))) := lm_sN o h S 5 n x (by decide) (by decide) hn
theorem lm_a6 (o : Nat) (h : hp_H) (S : lm_S) (n : Nat) (hn : n < 2001) : hp_aI (lm_w o h S) .int (o + 6) (nI n) = some (S.2 6 n) := lm_aN o h S 6 n (by decide) (by decide) hn
theorem lm_s6 (o : Nat) (h : hp_H) (S : lm_S) (n : Nat) (x : Int32) (hn : n < 2001) : hp_sI (lm_w o h S) .int (o + 6) (nI n) x = some (lm_w o h (S.1, lm_up S.2 6 (upd (S.2 6) n x))) := lm_sN o h S 6 n x (by decide) (by decide) hn
theorem lm_a7 (o : Nat) (h : hp_H) (S : lm_S) (n : Nat) (hn : n < 128064) : hp_aI (lm_w o h S) .int (o + 7) (nI n) = some (S.2 7 n) := lm_aN o h S 7 n (by decide) (by decide) hn
theorem lm_s7 (o : Nat) (h : hp_H) (S : lm_S) (n : Nat) (x : Int32) (hn : n < 128064) : hp_sI (lm_w o h S) .int (o + 7) (nI n) x = some (lm_w o h (S.1, lm_up S.2 7 (upd (S.2 7) n x))) := lm_sN o h S 7 n x (by decide) (by decide) hn
theorem lm_a8 (o : Nat) (h : hp_H) (S : lm_S) (n : Nat) (hn : n < 64) : hp_aI (lm_w o h S) .int (o + 8) (nI n) = some (S.2 8 n) := lm_aN o h S 8 n (by decide) (by decide) hn
theorem lm_s8 (o : Nat) (h : hp_H) (S : lm_S) (n : Nat) (x : Int32) (hn : n < 64) : hp_sI (lm_w o h S) .int (o + 8) (nI n) x = some (lm_w o h (S.1, lm_up S.2 8 (upd (S.2 8) n x))) := lm_sN o h S 8 n x (by decide) (by decide) hn
theorem lm_a9 (o : Nat) (h : hp_H) (S : lm_S) (n : Nat) (hn : n < 18) : hp_aI (lm_w o h S) .int (o + 9) (nI n) = some (S.2 9 n) := lm_aN o h S 9 n (by decide) (by decide) hn
theorem lm_s9 (o : Nat) (h : hp_H) (S : lm_S) (n : Nat) (x : Int32) (hn : n < 18) : hp_sI (lm_w o h S) .int (o + 9) (nI n) x = some (lm_w o h (S.1, lm_up S.2 9 (upd (S.2 9) n x))) := lm_sN o h S 9 n x (by decide) (by decide) hn
theorem lm_a10 (o : Nat) (h : hp_H) (S : lm_S) (n : Nat) (hn : n < 64) : hp_aI (lm_w o h S) .int (o + 10) (nI n) = some (S.2 10 n) := lm_aN o h S 10 n (by decide) (by decide) hn
theorem lm_s10 (o : Nat) (h : hp_H) (S : lm_S) (n : Nat) (x : Int32) (hn : n < 64) : hp_sI (lm_w o h S) .int (o + 10) (nI n) x = some (lm_w o h (S.1, lm_up S.2 10 (upd (S.2 10) n x))) := lm_sN o h S 10 n x (by decide) (by decide) hn
theorem lm_a11 (o : Nat) (h : hp_H) (S : lm_S) (n : Nat) (hn : n < 64) : hp_aI (lm_w o h S) .int (o + 11) (nI n) = some (S.2 11 n) := lm_aN o h S 11 n (by decide) (by decide) hn
theorem lm_s11 (o : Nat) (h : hp_H) (S : lm_S) (n : Nat) (x : Int32) (hn : n < 64) : hp_sI (lm_w o h S) .int (o + 11) (nI n) x = some (lm_w o h (S.1, lm_up S.2 11 (upd (S.2 11) n x))) := lm_sN o h S 11 n x (by decide) (by decide) hn
theorem lm_a12 (o : Nat) (h : hp_H) (S : lm_S) (n : Nat) (hn : n < 64) : hp_aI (lm_w o h S) .int (o + 12) (nI n) = some (S.2 12 n) := lm_aN o h S 12 n (by decide) (by decide) hn
theorem lm_s12 (o : Nat) (h : hp_H) (S : lm_S) (n : Nat) (x : Int32) (hn : n < 64) : hp_sI (lm_w o h S) .int (o + 12) (nI n) x = some (lm_w o h (S.1, lm_up S.2 12 (upd (S.2 12) n x))) := lm_sN o h S 12 n x (by decide) (by decide) hn
theorem lm_a13 (o : Nat) (h : hp_H) (S : lm_S) (n : Nat) (hn : n < 64) : hp_aI (lm_w o h S) .int (o + 13) (nI n) = some (S.2 13 n) := lm_aN o h S 13 n (by decide) (by decide) hn
theorem lm_s13 (o : Nat) (h : hp_H) (S : lm_S) (n : Nat) (x : Int32) (hn : n < 64) : hp_sI (lm_w o h S) .int (o + 13) (nI n) x = some (lm_w o h (S.1, lm_up S.2 13 (upd (S.2 13) n x))) := lm_sN o h S 13 n x (by decide) (by decide) hn
theorem lm_a14 (o : Nat) (h : hp_H) (S : lm_S) (n : Nat) (hn : n < 100) : hp_aI (lm_w o h S) .int (o + 14) (nI n) = some (S.2 14 n) := lm_aN o h S 14 n (by decide) (by decide) hn
theorem lm_s14 (o : Nat) (h : hp_H) (S : lm_S) (n : Nat) (x : Int32) (hn : n < 100) : hp_sI (lm_w o h S) .int (o + 14) (nI n) x = some (lm_w o h (S.1, lm_up S.2 14 (upd (S.2 14) n x))) := lm_sN o h S 14 n x (by decide) (by decide) hn
theorem lm_a15 (o : Nat) (h : hp_H) (S : lm_S) (n : Nat) (hn : n < 100) : hp_aI (lm_w o h S) .int (o + 15) (nI n) = some (S.2 15 n) := lm_aN o h S 15 n (by decide) (by decide) hn
theorem lm_s15 (o : Nat) (h : hp_H) (S : lm_S) (n : Nat) (x : Int32) (hn : n < 100) : hp_sI (lm_w o h S) .int (o + 15) (nI n) x = some (lm_w o h (S.1, lm_up S.2 15 (upd (S.2 15) n x))) := lm_sN o h S 15 n x (by decide) (by decide) hn
theorem lm_a16 (o : Nat) (h : hp_H) (S : lm_S) (n : Nat) (hn : n < 10) : hp_aI (lm_w o h S) .int (o + 16) (nI n) = some (S.2 16 n) := lm_aN o h S 16 n (by decide) (by decide) hn
theorem lm_s16 (o : Nat) (h : hp_H) (S : lm_S) (n : Nat) (x : Int32) (hn : n < 10) : hp_sI (lm_w o h S) .int (o + 16) (nI n) x = some (lm_w o h (S.1, lm_up S.2 16 (upd (S.2 16) n x))) := lm_sN o h S 16 n x (by decide) (by decide) hn
theorem lm_a17 (o : Nat) (h : hp_H) (S : lm_S) (n : Nat) (hn : n < 102) : hp_aI (lm_w o h S) .int (o + 17) (nI n) = some (S.2 17 n) := lm_aN o h S 17 n (by decide) (by decide) hn
theorem lm_s17 (o : Nat) (h : hp_H) (S : lm_S) (n : Nat) (x : Int32) (hn : n < 102) : hp_sI (lm_w o h S) .int (o + 17) (nI n) x = some (lm_w o h (S.1, lm_up S.2 17 (upd (S.2 17) n x))) := lm_sN o h S 17 n x (by decide) (by decide) hn
theorem lm_a18 (o : Nat) (h : hp_H) (S : lm_S) (n : Nat) (hn : n < 500) : hp_aI (lm_w o h S) .int (o + 18) (nI n) = some (S.2 18 n) := lm_aN o h S 18 n (by decide) (by decide) hn
theorem lm_s18 (o : Nat) (h : hp_H) (S : lm_S) (n : Nat) (x : Int32) (hn : n < 500) : hp_sI (lm_w o h S) .int (o + 18) (nI n) x = some (lm_w o h (S.1, lm_up S.2 18 (upd (S.2 18) n x))) := lm_sN o h S 18 n x (by decide) (by decide) hn
theorem lm_a19 (o : Nat) (h : hp_H) (S : lm_S) (n : Nat) (hn : n < 64) : hp_aI (lm_w o h S) .int (o + 19) (nI n) = some (S.2 19 n) := lm_aN o h S 19 n (by decide) (by decide) hn
theorem lm_s19 (o : Nat) (h : hp_H) (S : lm_S) (n : Nat) (x : Int32) (hn : n < 64) : hp_sI (lm_w o h S) .int (o + 19) (nI n) x = some (lm_w o h (S.1, lm_up S.2 19 (upd (S.2 19) n x))) := lm_sN o h S 19 n x (by decide) (by decide) hn
theorem lm_a20 (o : Nat) (h : hp_H) (S : lm_S) (n : Nat) (hn : n < 500) : hp_aI (lm_w o h S) .int (o + 20) (nI n) = some (S.2 20 n) := lm_aN o h S 20 n (by decide) (by decide) hn
theorem lm_s20 (o : Nat) (h : hp_H) (S : lm_S) (n : Nat) (x : Int32) (hn : n < 500) : hp_sI (lm_w o h S) .int (o + 20) (nI n) x = some (lm_w o h (S.1, lm_up S.2 20 (upd (S.2 20) n x))) := lm_sN o h S 20 n x (by decide) (by decide) hn
theorem bq {α : Type} (x : Option (α × hp_H)) : (x.bind fun q => some (q.1, q.2)) = x := by cases x <;> rfl
theorem hp_z1 (h : hp_H) : hp_z (nI 1) h = some (1, h) := rfl
theorem hp_z0 (h : hp_H) : hp_z (nI 0) h = some (0, h) := rfl
theorem hp_dI_n {a d : Nat} (ha : a < 2 ^ 31) (h0 : 0 < d) (hd : d < 2 ^ 31) : hp_dI (nI a) (nI d) = some (nI (a / d)) := by
  rw [hp_dI, if_neg (nI_ne0 h0 hd), pk_div ha h0 hd]
theorem hp_mI_n {a d : Nat} (ha : a < 2 ^ 31) (h0 : 0 < d) (hd : d < 2 ^ 31) : hp_mI (nI a) (nI d) = some (nI (a % d)) := by
  rw [hp_mI, if_neg (nI_ne0 h0 hd), pk_rem ha h0 hd]
theorem ng1 : (-1 : Int32) = -nI 1 := rfl
theorem ng_lt {a b : Nat} (h0 : 0 < a) (ha : a < 2 ^ 31) (hb : b < 2 ^ 31) : (-nI a < nI b) = True := by
  refine eq_true ?_
  rw [Int32.lt_iff_toInt_lt, sb_negT ha, nI_toInt hb]; omega
theorem ng_le {a b : Nat} (h0 : 0 < a) (ha : a < 2 ^ 31) (hb : b < 2 ^ 31) : (nI b ≤ -nI a) = False := by
  refine eq_false ?_
  rw [Int32.le_iff_toInt_le, sb_negT ha, nI_toInt hb]; omega
theorem ng_ne {a b : Nat} (h0 : 0 < a) (ha : a < 2 ^ 31) (hb : b < 2 ^ 31) : (-nI a = nI b) = False := by
  refine eq_false fun q => ?_
  have := congrArg Int32.toInt q
  rw [sb_negT ha, nI_toInt hb] at this; omega
theorem ng_ne' {a b : Nat} (h0 : 0 < a) (ha : a < 2 ^ 31) (hb : b < 2 ^ 31) : (nI b = -nI a) = False := by
  refine eq_false fun q => ?_
  have := congrArg Int32.toInt q
  rw [sb_negT ha, nI_toInt hb] at this; omega
theorem lm_upi (A : Nat → Nat → Int32) (j : Nat) : lm_up A j (A j) = A := by
  funext i
  by_cases e : i = j
  · subst e; exact lm_ups _ _ _
  · exact lm_upn _ _ e
theorem lm_upu (A : Nat → Nat → Int32) (j : Nat) (f g : Nat → Int32) : lm_up (lm_up A j f) j g = lm_up A j g := by
  funext i
  by_cases e : i = j
  · subst e; rw [lm_ups, lm_ups]
  · rw [lm_upn _ _ e, lm_upn _ _ e, lm_upn _ _ e]
