/-! THE REFERENCE'S OBJECT AS A STATE: its numbers (by the field's place) and its arrays (1 .. 20, by the order in which they are made) -/
abbrev lm_S : Type := (Nat → Int32) × (Nat → Nat → Int32)
def lm_len : Nat → Nat := fun k => match k with
  | 1 => 2001
  | 2 => 2001
  | 3 => 2001
  | 4 => 2001
  | 5 => 36018
  | 6 => 2001
  | 7 => 128064
  | 8 => 64
  | 9 => 18
  | 10 => 64
  | 11 => 64
  | 12 => 64
  | 13 => 64
  | 14 => 100
  | 15 => 100
  | 16 => 10
  | 17 => 102
  | 18 => 500
  | 19 => 64
  | 20 => 500
  | _ => 0
def lm_fl (o : Nat) (I : Nat → Int32) : List Value := [.int (I 0), .ref (o + 1), .ref (o + 2), .ref (o + 3), .ref (o + 4), .ref (o + 5), .ref (o + 6), .ref (o + 7), .ref (o + 8), .int (I 9), .int (I 10), .int (I 11), .int (I 12), .int (I 13), .ref (o + 9), .ref (o + 10), .int (I 16), .ref (o + 11), .ref (o + 12), .ref (o + 13), .ref (o + 14), .ref (o + 15), .int (I 22), .ref (o + 16), .ref (o + 17), .ref (o + 18), .int (I 26), .int (I 27), .int (I 28), .int (I 29), .ref (o + 19), .int (I 31), .int (I 32), .ref (o + 20)]
def lm_m (o : Nat) (f : Nat → Option hp_Ce) (S : lm_S) : Nat → Option hp_Ce := fun a => if a = o then some (.inl (8, lm_fl o S.1)) else if o < a ∧ a ≤ o + 20 then some (.inr (true, .int, lm_len (a - o), .inl (S.2 (a - o)))) else f a
def lm_w (o : Nat) (h : hp_H) (S : lm_S) : hp_H := (lm_m o h.1 S, h.2)
def lm_up (A : Nat → Nat → Int32) (j : Nat) (f : Nat → Int32) : Nat → Nat → Int32 := fun i => if i = j then f else A i
theorem lm_fs (o : Nat) (h : hp_H) (S : lm_S) : hp_fs (lm_w o h S) o 8 = some (lm_fl o S.1) := by simp [hp_fs, lm_w, lm_m]
theorem lm_vck {β : Type} (o : Nat) (h : hp_H) (S : lm_S) (X : Option β) : hp_vck (lm_w o h S) o 8 X = X := by rw [hp_vck, lm_fs]; rfl
theorem lm_arr (o : Nat) (h : hp_H) (S : lm_S) (j : Nat) (h1 : 0 < j) (h2 : j ≤ 20) : hp_arr (lm_w o h S) (o + j) = some (true, .int, lm_len j, .inl (S.2 j)) := by
  have e0 : ¬ j = 0 := by omega
  simp [hp_arr, lm_w, lm_m, e0, h1, h2]
theorem lm_put (o : Nat) (h : hp_H) (S : lm_S) (k : Nat) (x : Int32) (hk : k < 34) (hs : (lm_fl o S.1).set k (.int x) = lm_fl o (upd S.1 k x)) : hp_p (lm_w o h S) o 8 k (.int x) = some (lm_w o h (upd S.1 k x, S.2)) := by
  rw [hp_p, lm_fs]
  simp only [Option.bind_some]
  rw [if_pos (show k < (lm_fl o S.1).length from hk), hs]
  refine congrArg some (Prod.ext ?_ rfl)
  funext a
  by_cases e : a = o
  · subst e; simp [hp_up, lm_w, lm_m]
  · simp [hp_up, lm_w, lm_m, e]
theorem lm_aI (o : Nat) (h : hp_H) (S : lm_S) (j : Nat) (i : Int32) (h1 : 0 < j) (h2 : j ≤ 20) : hp_aI (lm_w o h S) .int (o + j) i = if ¬ (i < 0 ∨ lm_len j ≤ i.toNatClampNeg) then some (S.2 j i.toNatClampNeg) else none := by
  unfold hp_aI
  rw [lm_arr o h S j h1 h2]
  simp
theorem lm_sI (o : Nat) (h : hp_H) (S : lm_S) (j : Nat) (i x : Int32) (h1 : 0 < j) (h2 : j ≤ 20) : hp_sI (lm_w o h S) .int (o + j) i x = if ¬ (i < 0 ∨ lm_len j ≤ i.toNatClampNeg) then some (lm_w o h (S.1, lm_up S.2 j (upd (S.2 j) i.toNatClampNeg x))) else none := by
  unfold hp_sI
  rw [lm_arr o h S j h1 h2]
  have e : (hp_up (lm_w o h S).1 (o + j) (.inr (true, .int, lm_len j, .inl (upd (S.2 j) i.toNatClampNeg x))), (lm_w o h S).2) = lm_w o h (S.1, lm_up S.2 j (upd (S.2 j) i.toNatClampNeg x)) := by
    refine Prod.ext ?_ rfl
    funext a
    by_cases ea : a = o + j
    · subst ea
      have e0 : ¬ j = 0 := by omega
      simp [hp_up, lm_w, lm_m, e0, h1, h2, lm_up]
    · by_cases eo : a = o
      · have e0 : ¬ j = 0 := by omega
        subst eo; simp [hp_up, lm_w, lm_m, e0]
      · have e3 : ¬ a - o = j ∨ ¬ o < a := by omega
        rcases e3 with e3 | e3
        · simp [hp_up, lm_w, lm_m, ea, eo, lm_up, e3]
        · simp [hp_up, lm_w, lm_m, ea, eo, lm_up, e3]
  simp [e]
theorem lm_g0 (o : Nat) (h : hp_H) (S : lm_S) : hp_gI (lm_w o h S) o 8 0 = some (S.1 0) := by rw [hp_gI, lm_fs]; rfl
theorem lm_p0 (o : Nat) (h : hp_H) (S : lm_S) (x : Int32) : hp_p (lm_w o h S) o 8 0 (.int x) = some (lm_w o h (upd S.1 0 x, S.2)) := lm_put o h S 0 x (by decide) rfl
theorem lm_g1 (o : Nat) (h : hp_H) (S : lm_S) : hp_gR (lm_w o h S) o 8 1 = some (o + 1) := by rw [hp_gR, lm_fs]; rfl
theorem lm_g2 (o : Nat) (h : hp_H) (S : lm_S) : hp_gR (lm_w o h S) o 8 2 = some (o + 2) := by rw [hp_gR, lm_fs]; rfl
theorem lm_g3 (o : Nat) (h : hp_H) (S : lm_S) : hp_gR (lm_w o h S) o 8 3 = some (o + 3) := by rw [hp_gR, lm_fs]; rfl
theorem lm_g4 (o : Nat) (h : hp_H) (S : lm_S) : hp_gR (lm_w o h S) o 8 4 = some (o + 4) := by rw [hp_gR, lm_fs]; rfl
theorem lm_g5 (o : Nat) (h : hp_H) (S : lm_S) : hp_gR (lm_w o h S) o 8 5 = some (o + 5) := by rw [hp_gR, lm_fs]; rfl
theorem lm_g6 (o : Nat) (h : hp_H) (S : lm_S) : hp_gR (lm_w o h S) o 8 6 = some (o + 6) := by rw [hp_gR, lm_fs]; rfl
theorem lm_g7 (o : Nat) (h : hp_H) (S : lm_S) : hp_gR (lm_w o h S) o 8 7 = some (o + 7) := by rw [hp_gR, lm_fs]; rfl
theorem lm_g8 (o : Nat) (h : hp_H) (S : lm_S) : hp_gR (lm_w o h S) o 8 8 = some (o + 8) := by rw [hp_gR, lm_fs]; rfl
theorem lm_g9 (o : Nat) (h : hp_H) (S : lm_S) : hp_gI (lm_w o h S) o 8 9 = some (S.1 9) := by rw [hp_gI, lm_fs]; rfl
theorem lm_p9 (o : Nat) (h : hp_H) (S : lm_S) (x : Int32) : hp_p (lm_w o h S) o 8 9 (.int x) = some (lm_w o h (upd S.1 9 x, S.2)) := lm_put o h S 9 x (by decide) rfl
theorem lm_g10 (o : Nat) (h : hp_H) (S : lm_S) : hp_gI (lm_w o h S) o 8 10 = some (S.1 10) := by rw [hp_gI, lm_fs]; rfl
theorem lm_p10 (o : Nat) (h : hp_H) (S : lm_S) (x : Int32) : hp_p (lm_w o h S) o 8 10 (.int x) = some (lm_w o h (upd S.1 10 x, S.2)) := lm_put o h S 10 x (by decide) rfl
theorem lm_g11 (o : Nat) (h : hp_H) (S : lm_S) : hp_gI (lm_w o h S) o 8 11 = some (S.1 11) := by rw [hp_gI, lm_fs]; rfl
theorem lm_p11 (o : Nat) (h : hp_H) (S : lm_S) (x : Int32) : hp_p (lm_w o h S) o 8 11 (.int x) = some (lm_w o h (upd S.1 11 x, S.2)) := lm_put o h S 11 x (by decide) rfl
theorem lm_g12 (o : Nat) (h : hp_H) (S : lm_S) : hp_gI (lm_w o h S) o 8 12 = some (S.1 12) := by rw [hp_gI, lm_fs]; rfl
theorem lm_p12 (o : Nat) (h : hp_H) (S : lm_S) (x : Int32) : hp_p (lm_w o h S) o 8 12 (.int x) = some (lm_w o h (upd S.1 12 x, S.2)) := lm_put o h S 12 x (by decide) rfl
theorem lm_g13 (o : Nat) (h : hp_H) (S : lm_S) : hp_gI (lm_w o h S) o 8 13 = some (S.1 13) := by rw [hp_gI, lm_fs]; rfl
theorem lm_p13 (o : Nat) (h : hp_H) (S : lm_S) (x : Int32) : hp_p (lm_w o h S) o 8 13 (.int x) = some (lm_w o h (upd S.1 13 x, S.2)) := lm_put o h S 13 x (by decide) rfl
theorem lm_g14 (o : Nat) (h : hp_H) (S : lm_S) : hp_gR (lm_w o h S) o 8 14 = some (o + 9) := by rw [hp_gR, lm_fs]; rfl
theorem lm_g15 (o : Nat) (h : hp_H) (S : lm_S) : hp_gR (lm_w o h S) o 8 15 = some (o + 10) := by rw [hp_gR, lm_fs]; rfl
theorem lm_g16 (o : Nat) (h : hp_H) (S : lm_S) : hp_gI (lm_w o h S) o 8 16 = some (S.1 16) := by rw [hp_gI, lm_fs]; rfl
theorem lm_p16 (o : Nat) (h : hp_H) (S : lm_S) (x : Int32) : hp_p (lm_w o h S) o 8 16 (.int x) = some (lm_w o h (upd S.1 16 x, S.2)) := lm_put o h S 16 x (by decide) rfl
theorem lm_g17 (o : Nat) (h : hp_H) (S : lm_S) : hp_gR (lm_w o h S) o 8 17 = some (o + 11) := by rw [hp_gR, lm_fs]; rfl
theorem lm_g18 (o : Nat) (h : hp_H) (S : lm_S) : hp_gR (lm_w o h S) o 8 18 = some (o + 12) := by rw [hp_gR, lm_fs]; rfl
theorem lm_g19 (o : Nat) (h : hp_H) (S : lm_S) : hp_gR (lm_w o h S) o 8 19 = some (o + 13) := by rw [hp_gR, lm_fs]; rfl
theorem lm_g20 (o : Nat) (h : hp_H) (S : lm_S) : hp_gR (lm_w o h S) o 8 20 = some (o + 14) := by rw [hp_gR, lm_fs]; rfl
theorem lm_g21 (o : Nat) (h : hp_H) (S : lm_S) : hp_gR (lm_w o h S) o 8 21 = some (o + 15) := by rw [hp_gR, lm_fs]; rfl
theorem lm_g22 (o : Nat) (h : hp_H) (S : lm_S) : hp_gI (lm_w o h S) o 8 22 = some (S.1 22) := by rw [hp_gI, lm_fs]; rfl
theorem lm_p22 (o : Nat) (h : hp_H) (S : lm_S) (x : Int32) : hp_p (lm_w o h S) o 8 22 (.int x) = some (lm_w o h (upd S.1 22 x, S.2)) := lm_put o h S 22 x (by decide) rfl
theorem lm_g23 (o : Nat) (h : hp_H) (S : lm_S) : hp_gR (lm_w o h S) o 8 23 = some (o + 16) := by rw [hp_gR, lm_fs]; rfl
theorem lm_g24 (o : Nat) (h : hp_H) (S : lm_S) : hp_gR (lm_w o h S) o 8 24 = some (o + 17) := by rw [hp_gR, lm_fs]; rfl
theorem lm_g25 (o : Nat) (h : hp_H) (S : lm_S) : hp_gR (lm_w o h S) o 8 25 = some (o + 18) := by rw [hp_gR, lm_fs]; rfl
theorem lm_g26 (o : Nat) (h : hp_H) (S : lm_S) : hp_gI (lm_w o h S) o 8 26 = some (S.1 26) := by rw [hp_gI, lm_fs]; rfl
theorem lm_p26 (o : Nat) (h : hp_H) (S : lm_S) (x : Int32) : hp_p (lm_w o h S) o 8 26 (.int x) = some (lm_w o h (upd S.1 26 x, S.2)) := lm_put o h S 26 x (by decide) rfl
theorem lm_g27 (o : Nat) (h : hp_H) (S : lm_S) : hp_gI (lm_w o h S) o 8 27 = some (S.1 27) := by rw [hp_gI, lm_fs]; rfl
theorem lm_p27 (o : Nat) (h : hp_H) (S : lm_S) (x : Int32) : hp_p (lm_w o h S) o 8 27 (.int x) = some (lm_w o h (upd S.1 27 x, S.2)) := lm_put o h S 27 x (by decide) rfl
theorem lm_g28 (o : Nat) (h : hp_H) (S : lm_S) : hp_gI (lm_w o h S) o 8 28 = some (S.1 28) := by rw [hp_gI, lm_fs]; rfl
theorem lm_p28 (o : Nat) (h : hp_H) (S : lm_S) (x : Int32) : hp_p (lm_w o h S) o 8 28 (.int x) = some (lm_w o h (upd S.1 28 x, S.2)) := lm_put o h S 28 x (by decide) rfl
theorem lm_g29 (o : Nat) (h : hp_H) (S : lm_S) : hp_gI (lm_w o h S) o 8 29 = some (S.1 29) := by rw [hp_gI, lm_fs]; rfl
theorem lm_p29 (o : Nat) (h : hp_H) (S : lm_S) (x : Int32) : hp_p (lm_w o h S) o 8 29 (.int x) = some (lm_w o h (upd S.1 29 x, S.2)) := lm_put o h S 29 x (by decide) rfl
theorem lm_g30 (o : Nat) (h : hp_H) (S : lm_S) : hp_gR (lm_w o h S) o 8 30 = some (o + 19) := by rw [hp_gR, lm_fs]; rfl
theorem lm_g31 (o : Nat) (h : hp_H) (S : lm_S) : hp_gI (lm_w o h S) o 8 31 = some (S.1 31) := by rw [hp_gI, lm_fs]; rfl
theorem lm_p31 (o : Nat) (h : hp_H) (S : lm_S) (x : Int32) : hp_p (lm_w o h S) o 8 31 (.int x) = some (lm_w o h (upd S.1 31 x, S.2)) := lm_put o h S 31 x (by decide) rfl
theorem lm_g32 (o : Nat) (h : hp_H) (S : lm_S) : hp_gI (lm_w o h S) o 8 32 = some (S.1 32) := by rw [hp_gI, lm_fs]; rfl
theorem lm_p32 (o : Nat) (h : hp_H) (S : lm_S) (x : Int32) : hp_p (lm_w o h S) o 8 32 (.int x) = some (lm_w o h (upd S.1 32 x, S.2)) := lm_put o h S 32 x (by decide) rfl
theorem lm_g33 (o : Nat) (h : hp_H) (S : lm_S) : hp_gR (lm_w o h S) o 8 33 = some (o + 20) := by rw [hp_gR, lm_fs]; rfl
theorem lm_lenB (j : Nat) : lm_len j < 2 ^ 31 := by
  unfold lm_len
  split <;> decide
theorem lm_aN (o : Nat) (h : hp_H) (S : lm_S) (j n : Nat) (h1 : 0 < j) (h2 : j ≤ 20) (hn : n < lm_len j) : hp_aI (lm_w o h S) .int (o + j) (nI n) = some (S.2 j n) := by
  have hb := lm_lenB j
  rw [lm_aI o h S j _ h1 h2, if_pos (nI_in hn hb), nI_clamp (by omega)]
theorem lm_sN (o : Nat) (h : hp_H) (S : lm_S) (j n : Nat) (x : Int32) (h1 : 0 < j) (h2 : j ≤ 20) (hn : n < lm_len j) : hp_sI (lm_w o h S) .int (o + j) (nI n) x = some (lm_w o h (S.1, lm_up S.2 j (upd (S.2 j) n x))) := by
  have hb := lm_lenB j
  rw [lm_sI o h S j _ _ h1 h2, if_pos (nI_in hn hb), nI_clamp (by omega)]
theorem lm_ups (A : Nat → Nat → Int32) (j : Nat) (f : Nat → Int32) : lm_up A j f j = f := if_pos rfl
theorem lm_upn (A : Nat → Nat → Int32) {j i : Nat} (f : Nat → Int32) (h : i ≠ j) : lm_up A j f i = A i := if_neg h
theorem nI_64 (v k : Nat) : (64 : Int32) * nI v + nI k = nI (64 * v + k) := by rw [show (64 : Int32) = nI 64 from rfl, pk_mul, nI_add]
theorem nI_18 (v k : Nat) : (18 : Int32) * nI v + nI k = nI (18 * v + k) := by rw [show (18 : Int32) = nI 18 from rfl, pk_mul, nI_add]
