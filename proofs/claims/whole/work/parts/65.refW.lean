/-! operations of their own; done; run -/
theorem own_0 (G : Nat → Nat) (o : Nat) (h : hp_H) (S : lm_S) (p : Nat) (a a2 : Int32) (l14 : hp_aI (lm_w o h S) .int (o + 14) (nI p) = some (nI 0)) (l15 : hp_aI (lm_w o h S) .int (o + 15) (nI p) = some a) : m_M_ofItsOwn G o (nI p) a2 (lm_w o h S) = ((hp_vck (lm_w o h S) o 8 (m_M_isValue G o a (lm_w o h S))).bind fun q6 => if q6.1 = 0 then (m_M_ofItsOwn_142 G (-4 : Int32) q6.2) else (m_M_ofItsOwn_142 G a q6.2)) := by
  unfold m_M_ofItsOwn
  rw [lm_g21, bs, l15, bs, hp_nmE, lm_g20, bs, l14, bs]
  rfl
theorem own_1 (G : Nat → Nat) (o : Nat) (h : hp_H) (S : lm_S) (p : Nat) (a a2 : Int32) (l14 : hp_aI (lm_w o h S) .int (o + 14) (nI p) = some (nI 1)) (l15 : hp_aI (lm_w o h S) .int (o + 15) (nI p) = some a) : m_M_ofItsOwn G o (nI p) a2 (lm_w o h S) = ((hp_vck (lm_w o h S) o 8 (m_M_bindingOf G o a (lm_w o h S))).bind fun q7 => if q7.1 ≤ 0 then (m_M_ofItsOwn_161 G (-4 : Int32) q7.2) else ((hp_vck q7.2 o 8 (m_M_bindingOf G o a q7.2)).bind fun q8 => m_M_ofItsOwn_161 G q8.1 q8.2)) := by
  unfold m_M_ofItsOwn
  rw [lm_g21, bs, l15, bs, hp_nmE, lm_g20, bs, l14, bs]
  rfl
theorem own_2 (G : Nat → Nat) (o : Nat) (h : hp_H) (S : lm_S) (p : Nat) (a a2 : Int32) (l14 : hp_aI (lm_w o h S) .int (o + 14) (nI p) = some (nI 2)) (l15 : hp_aI (lm_w o h S) .int (o + 15) (nI p) = some a) : m_M_ofItsOwn G o (nI p) a2 (lm_w o h S) = ((hp_vck (lm_w o h S) o 8 (m_M_bindingOf G o a (lm_w o h S))).bind fun q9 => if q9.1 ≤ 0 then (m_M_ofItsOwn_176 G (0 : Int32) o q9.2) else (m_M_ofItsOwn_176 G (1 : Int32) o q9.2)) := by
  unfold m_M_ofItsOwn
  rw [lm_g21, bs, l15, bs, hp_nmE, lm_g20, bs, l14, bs]
  rfl
theorem own_4 (G : Nat → Nat) (o : Nat) (h : hp_H) (S : lm_S) (p : Nat) (a a2 : Int32) (l14 : hp_aI (lm_w o h S) .int (o + 14) (nI p) = some (nI 4)) (l15 : hp_aI (lm_w o h S) .int (o + 15) (nI p) = some a) : m_M_ofItsOwn G o (nI p) a2 (lm_w o h S) = ((hp_gR (lm_w o h S) o 8 24).bind fun x10 => (hp_aI (lm_w o h S) .int x10 a2).bind fun x11 => (hp_gR (lm_w o h S) o 8 24).bind fun x12 => (hp_aI (lm_w o h S) .int x12 (a2 + (1 : Int32))).bind fun x13 => (hp_vck (lm_w o h S) o 8 (m_M_both G o x11 x13 (0 : Int32) (lm_w o h S))).bind fun q14 => some (q14.1, q14.2)) := by
  unfold m_M_ofItsOwn
  rw [lm_g21, bs, l15, bs, hp_nmE, lm_g20, bs, l14, bs]
  rfl
theorem own_5 (G : Nat → Nat) (o : Nat) (h : hp_H) (S : lm_S) (p : Nat) (a a2 : Int32) (l14 : hp_aI (lm_w o h S) .int (o + 14) (nI p) = some (nI 5)) (l15 : hp_aI (lm_w o h S) .int (o + 15) (nI p) = some a) : m_M_ofItsOwn G o (nI p) a2 (lm_w o h S) = ((hp_gR (lm_w o h S) o 8 24).bind fun x15 => (hp_aI (lm_w o h S) .int x15 a2).bind fun x16 => (hp_gR (lm_w o h S) o 8 24).bind fun x17 => (hp_aI (lm_w o h S) .int x17 (a2 + (1 : Int32))).bind fun x18 => (hp_vck (lm_w o h S) o 8 (m_M_both G o x16 x18 (1 : Int32) (lm_w o h S))).bind fun q19 => some (q19.1, q19.2)) := by
  unfold m_M_ofItsOwn
  rw [lm_g21, bs, l15, bs, hp_nmE, lm_g20, bs, l14, bs]
  rfl
theorem own_22 (G : Nat → Nat) (o : Nat) (h : hp_H) (S : lm_S) (p : Nat) (a a2 : Int32) (l14 : hp_aI (lm_w o h S) .int (o + 14) (nI p) = some (nI 22)) (l15 : hp_aI (lm_w o h S) .int (o + 15) (nI p) = some a) : m_M_ofItsOwn G o (nI p) a2 (lm_w o h S) = ((hp_gR (lm_w o h S) o 8 24).bind fun x20 => (hp_aI (lm_w o h S) .int x20 a2).bind fun x21 => (hp_vck (lm_w o h S) o 8 (m_M_truthOf G o x21 (lm_w o h S))).bind fun q22 => hp_nm q22.1 fun x23 => if 0 ≤ x23 then ((hp_gR q22.2 o 8 24).bind fun x24 => (hp_aI q22.2 .int x24 ((a2 + (2 : Int32)) - x23)).bind fun x25 => m_M_ofItsOwn_253 G x25 q22.2) else (m_M_ofItsOwn_253 G (-4 : Int32) q22.2)) := by
  unfold m_M_ofItsOwn
  rw [lm_g21, bs, l15, bs, hp_nmE, lm_g20, bs, l14, bs]
  rfl
theorem own_23 (G : Nat → Nat) (o : Nat) (h : hp_H) (S : lm_S) (p : Nat) (a a2 : Int32) (l14 : hp_aI (lm_w o h S) .int (o + 14) (nI p) = some (nI 23)) (l15 : hp_aI (lm_w o h S) .int (o + 15) (nI p) = some a) : m_M_ofItsOwn G o (nI p) a2 (lm_w o h S) = (hp_nm (0 : Int32) fun x26 => m_M_ofItsOwn_257 G hp_fu o a2 a x26 (lm_w o h S)) := by
  unfold m_M_ofItsOwn
  rw [lm_g21, bs, l15, bs, hp_nmE, lm_g20, bs, l14, bs]
  rfl
theorem own_24 (G : Nat → Nat) (o : Nat) (h : hp_H) (S : lm_S) (p : Nat) (a a2 : Int32) (l14 : hp_aI (lm_w o h S) .int (o + 14) (nI p) = some (nI 24)) (l15 : hp_aI (lm_w o h S) .int (o + 15) (nI p) = some a) : m_M_ofItsOwn G o (nI p) a2 (lm_w o h S) = ((hp_vck (lm_w o h S) o 8 (m_M_isIn G o a2 a (lm_w o h S))).bind fun q27 => some (q27.1, q27.2)) := by
  unfold m_M_ofItsOwn
  rw [lm_g21, bs, l15, bs, hp_nmE, lm_g20, bs, l14, bs]
  rfl
theorem own_no (G : Nat → Nat) (o : Nat) (h : hp_H) (S : lm_S) (p : Nat) (a a2 : Int32) (c : Nat) (hc : c ≤ 41) (hn : ¬ (c = 0 ∨ c = 1 ∨ c = 2 ∨ c = 4 ∨ c = 5 ∨ c = 22 ∨ c = 23 ∨ c = 24)) (l14 : hp_aI (lm_w o h S) .int (o + 14) (nI p) = some (nI c)) (l15 : hp_aI (lm_w o h S) .int (o + 15) (nI p) = some a) : m_M_ofItsOwn G o (nI p) a2 (lm_w o h S) = some (-2, lm_w o h S) := by
  unfold m_M_ofItsOwn
  rw [lm_g21, bs, l15, bs, hp_nmE, lm_g20, bs, l14, bs]
  have c31 : c < 2 ^ 31 := by omega
  rw [if_neg (fun q => hn (Or.inl ((ie_0 c31).mp q))), if_neg (fun q => hn (Or.inr (Or.inl ((ie_1 c31).mp q)))), if_neg (fun q => hn (Or.inr (Or.inr (Or.inl ((ie_2 c31).mp q)))))]
  by_cases c3 : nI c = 3
  · rw [if_pos c3]
  · rw [if_neg c3, if_neg (fun q => by have := (ie_4 c31).mp q; omega), if_neg (fun q => by have := (ie_5 c31).mp q; omega)]
    by_cases d6 : nI c = 6
    · rw [if_pos d6]
    rw [if_neg d6]
    by_cases d7 : nI c = 7
    · rw [if_pos d7]
    rw [if_neg d7]
    by_cases d8 : nI c = 8
    · rw [if_pos d8]
    rw [if_neg d8]
    by_cases d9 : nI c = 9
    · rw [if_pos d9]
    rw [if_neg d9]
    by_cases d10 : nI c = 10
    · rw [if_pos d10]
    rw [if_neg d10]
    by_cases d11 : nI c = 11
    · rw [if_pos d11]
    rw [if_neg d11]
    by_cases d12 : nI c = 12
    · rw [if_pos d12]
    rw [if_neg d12]
    by_cases d13 : nI c = 13
    · rw [if_pos d13]
    rw [if_neg d13]
    by_cases d14 : nI c = 14
    · rw [if_pos d14]
    rw [if_neg d14]
    by_cases d15 : nI c = 15
    · rw [if_pos d15]
    rw [if_neg d15]
    by_cases d16 : nI c = 16
    · rw [if_pos d16]
    rw [if_neg d16]
    by_cases d17 : nI c = 17
    · rw [if_pos d17]
    rw [if_neg d17]
    by_cases d18 : nI c = 18
    · rw [if_pos d18]
    rw [if_neg d18]
    by_cases d19 : nI c = 19
    · rw [if_pos d19]
    rw [if_neg d19]
    by_cases d20 : nI c = 20
    · rw [if_pos d20]
    rw [if_neg d20]
    by_cases d21 : nI c = 21
    · rw [if_pos d21]
    rw [if_neg d21]
    rw [if_neg (fun q => by have := (ie_22 c31).mp q; omega), if_neg (fun q => by have := (ie_23 c31).mp q; omega), if_neg (fun q => by have := (ie_24 c31).mp q; omega)]
