/-! THE CLASS: strings of values -/
theorem dg_sh (A s j : Nat) : dg (A / 10 ^ s) j = dg A (s + j) := by
  unfold dg
  rw [Nat.div_div_eq_div_mul, ← Nat.pow_add]
theorem dg_md {A s j : Nat} (h : j < s) : dg (A % 10 ^ s) j = dg A j := by
  unfold dg
  have e : 10 ^ s = 10 ^ j * 10 ^ (s - j) := by rw [← Nat.pow_add, show j + (s - j) = s by omega]
  rw [e, Nat.mod_mul_right_div_self, show s - j = (s - j - 1) + 1 by omega, Nat.pow_succ, Nat.mul_comm (10 ^ (s - j - 1)) 10, Nat.mod_mul_right_mod]
theorem dg_hi {a q j : Nat} (h : a < 10 ^ q) (hj : q ≤ j) : dg a j = 0 := by
  unfold dg
  rw [Nat.div_eq_of_lt (Nat.lt_of_lt_of_le h (Nat.pow_le_pow_right (by decide) hj))]
theorem cnt_hi {a q l : Nat} (h : a < 10 ^ q) (hl : l ≤ q) : ∀ d, cnt a l (q + d) = cnt a l q
  | 0 => rfl
  | d + 1 => by
    rw [show q + (d + 1) = (q + d) + 1 by omega, cnt, if_neg (fun z => by
      rcases z with z | z
      · exact z (dg_hi h (by omega))
      · omega), cnt_hi h hl d]
theorem cnt_lo {m s : Nat} (h : m < 10 ^ s) (h1 : 1 ≤ s) (d : Nat) : cnt m s (s + d) = s := by
  rw [cnt_hi h (Nat.le_refl _)]
  obtain ⟨t, rfl⟩ : ∃ t, s = t + 1 := ⟨s - 1, by omega⟩
  rw [cnt, if_pos (Or.inr (by omega))]
theorem cnt_sh (A s : Nat) : ∀ d, 1 ≤ d → cnt A (s + 1) (s + d) = s + cnt (A / 10 ^ s) 1 d
  | 0, h => by omega
  | d + 1, _ => by
    rw [show s + (d + 1) = (s + d) + 1 by omega, cnt, cnt, dg_sh]
    by_cases c : dg A (s + d) ≠ 0 ∨ d < 1
    · rw [if_pos c, if_pos (by omega)]; omega
    · rw [if_neg c, if_neg (by omega), cnt_sh A s d (by omega)]
theorem ot_lo (A s : Nat) : ∀ p, p ≤ s → ot A s p = dl A p
  | 0, _ => rfl
  | p + 1, h => by rw [ot, dl, if_neg (by omega), ot_lo A s p (by omega)]
theorem ot_0 (A : Nat) : ∀ p, ot A 0 p = dl A p
  | 0 => rfl
  | p + 1 => by rw [ot, dl, if_neg (by omega), ot_0 A p]
theorem ot_s (A s : Nat) (hs : 0 < s) : ∀ d, ot A s (s + (d + 1)) = dl (A / 10 ^ s) (d + 1) ++ 46 :: dl A s
  | 0 => by
    rw [show s + (0 + 1) = s + 1 by omega, ot, dl, dl, if_pos ⟨rfl, hs⟩, dg_sh, ot_lo A s s (Nat.le_refl _)]
    rfl
  | d + 1 => by
    rw [show s + (d + 1 + 1) = (s + (d + 1)) + 1 by omega, ot, dl, if_neg (by omega), ot_s A s hs d, dg_sh]
    rfl
theorem dl_md (A s : Nat) : ∀ p, p ≤ s → dl (A % 10 ^ s) p = dl A p
  | 0, _ => rfl
  | p + 1, h => by rw [dl, dl, dg_md (by omega), dl_md A s p (by omega)]
theorem ot_e {A s : Nat} (hA : A < 10 ^ 18) (hs : 0 < s) (h9 : s ≤ 9) : ot A s (cnt A (s + 1) 18) = dl (A / 10 ^ s) (cnt (A / 10 ^ s) 1 19) ++ 46 :: dl (A % 10 ^ s) (cnt (A % 10 ^ s) s 19) := by
  have e1 : A / 10 ^ s < 10 ^ (18 - s) := by
    rw [Nat.div_lt_iff_lt_mul (Nat.pow_pos (by decide)), ← Nat.pow_add, show 18 - s + s = 18 by omega]; exact hA
  have e2 := cnt_hi (l := 1) e1 (by omega) (s + 1)
  rw [show 18 - s + (s + 1) = 19 by omega] at e2
  have e3 := cnt_sh A s (18 - s) (by omega)
  rw [show s + (18 - s) = 18 by omega, ← e2] at e3
  have e4 := cnt_lo (m := A % 10 ^ s) (s := s) (Nat.mod_lt _ (Nat.pow_pos (by decide))) hs (19 - s)
  rw [show s + (19 - s) = 19 by omega] at e4
  have e5 := cnt_ge (A / 10 ^ s) 1 19 (by omega)
  rw [e3, e4, dl_md A s s (Nat.le_refl _)]
  obtain ⟨d, hd⟩ : ∃ d, cnt (A / 10 ^ s) 1 19 = d + 1 := ⟨cnt (A / 10 ^ s) 1 19 - 1, by omega⟩
  rw [hd, ot_s A s hs d]
theorem ot_w {A : Nat} (hA : A < 10 ^ 18) : ot A 0 (cnt A (0 + 1) 18) = dl A (cnt A 1 19) := by
  rw [ot_0]
  have := cnt_hi (l := 1) hA (by decide) 1
  rw [this]
section
variable (G : Nat → Nat) {c k : Nat} {h : hp_H} {L : List Nat} {p : Nat} {x : vV}
theorem cl_string_no (v : VP c h p x) (h0 : x.1 = 0 ∨ x.1 = 1) (ha : x.2.2.1 = 0) : m_R_putString G (c + k) p h = some (0, h) := by
  unfold m_R_putString m_R_putString_15
  rw [v.g2, bs, ha, if_pos (by decide), bs, cl_abs G h (show iM 0 by unfold iM; decide), bs, hp_nmE, v.g0, bs]
  rcases h0 with e | e <;> rw [e] <;> rfl
theorem cl_string_15 (v : VP c h p x) (ox : vO x) (hl : x.2.2.2.2.length ≤ 64) (k7 : 7 ≤ k) (k43 : k < 43) (hs : SC G c h) (hr : RR h (c + k) L) (n1 : x.1 ≠ 1) : ∃ h', m_R_putString_15 G (c + k) p h = some (1, h') ∧ RR h' (c + k) (L ++ (if x.1 = 2 then dec x.2.1 else if x.1 = 3 then dl x.2.2.1.natAbs (cnt x.2.2.1.natAbs 1 19) else if x.1 = 4 then dl (x.2.2.1.natAbs / 10 ^ x.2.2.2.1) (cnt (x.2.2.1.natAbs / 10 ^ x.2.2.2.1) 1 19) ++ 46 :: dl (x.2.2.1.natAbs % 10 ^ x.2.2.2.1) (cnt (x.2.2.1.natAbs % 10 ^ x.2.2.2.1) (max x.2.2.2.1 1) 19) else if x.1 = 8 then (if x.2.1 = 1 then wdS 0 else wdS 1) else x.2.2.2.2)) ∧ chg c [k, k + 1] h h' := by
  have wx := ox.W hl
  have w1 := wx.1
  have w2 := wx.2.1
  have w3 := wx.2.2.1
  have w4 := wx.2.2.2.1
  have o1 := ox.1
  have iA := iM_w wx
  have iN : iM ((x.2.2.1.natAbs : Nat) : Int) := by unfold iM at iA ⊢; clear w3; omega
  have iD : iM ((x.2.2.1.natAbs / 10 ^ x.2.2.2.1 : Nat) : Int) := by
    have := Nat.div_le_self x.2.2.1.natAbs (10 ^ x.2.2.2.1)
    unfold iM at iN ⊢
    clear w3
    generalize x.2.2.1.natAbs / 10 ^ x.2.2.2.1 = z at *
    omega
  have iR : iM ((x.2.2.1.natAbs % 10 ^ x.2.2.2.1 : Nat) : Int) := by
    have := Nat.mod_le x.2.2.1.natAbs (10 ^ x.2.2.2.1)
    unfold iM at iN ⊢
    clear w3
    generalize x.2.2.1.natAbs % 10 ^ x.2.2.2.1 = z at *
    omega
  clear w3
  have b31 : x.1 < 2 ^ 31 := by omega
  have hK : ∀ j ∈ [k, k + 1], j < 44 ∧ j ≠ 4 := fun j hj => by simp at hj; omega
  unfold m_R_putString_15
  rw [v.g2, bs, cl_abs G h iA, bs, hp_nmE, v.g0, bs]
  simp only [ie_2 b31, ie_3 b31, ie_4 b31, ie_5 b31, ie_6 b31, ie_7 b31, ie_8 b31]
  have z1 : ∀ h' : hp_H, hp_z 1 h' = some (1, h') := fun _ => rfl
  by_cases c2 : x.1 = 2
  · rw [if_pos c2, if_pos c2, v.g1, bs, vck_e hr.1, nI_64L _ (by omega)]
    obtain ⟨h1, e1, e2, e3⟩ := cl_putDigits G (a := x.2.1) (l := 1) (by decide) (by unfold iM; omega) hs hr
    rw [show (1 : Int32) = nI 1 from rfl, e1, bs]
    exact ⟨h1, z1 _, e2, e3⟩
  · rw [if_neg c2, if_neg c2]
    by_cases c3 : x.1 = 3
    · rw [if_pos c3, if_pos c3, vck_e hr.1]
      obtain ⟨h1, e1, e2, e3⟩ := cl_putDigits G (a := x.2.2.1.natAbs) (l := 1) (by decide) iN hs hr
      rw [show (1 : Int32) = nI 1 from rfl, e1, bs]
      exact ⟨h1, z1 _, e2, e3⟩
    · rw [if_neg c3, if_neg c3]
      by_cases c4 : x.1 = 4
      · have ip := iP_k (k := x.2.2.2.1) (by omega)
        have ip1 := ip.1
        rw [if_pos c4, if_pos c4, v.g3, bs, cl_power G h hs (by omega), bs, hp_dL_j iN.L ip.L (by omega) (by omega), bs, show ((x.2.2.1.natAbs : Nat) : Int).tdiv ((10 ^ x.2.2.2.1 : Nat) : Int) = ((x.2.2.1.natAbs / 10 ^ x.2.2.2.1 : Nat) : Int) from Int.ofNat_tdiv _ _, vck_e hr.1]
        obtain ⟨h1, e1, e2, e3⟩ := cl_putDigits G (a := x.2.2.1.natAbs / 10 ^ x.2.2.2.1) (l := 1) (by decide) iD hs hr
        rw [show (1 : Int32) = nI 1 from rfl, e1, bs, vck_e e2.1]
        obtain ⟨h2, f1, f2, f3⟩ := cl_put G e2 (x := 46) (b := 46) rfl
        have v2 := (v.c e3 hK).c f3 hK
        have s2 := (hs.c e3).c f3
        rw [f1, bs, v2.g3, bs, cl_power G h2 s2 (by omega), bs, hp_mL_j iN.L ip.L (by omega) (by omega), bs, show ((x.2.2.1.natAbs : Nat) : Int).tmod ((10 ^ x.2.2.2.1 : Nat) : Int) = ((x.2.2.1.natAbs % 10 ^ x.2.2.2.1 : Nat) : Int) from Int.ofNat_tmod _ _, v2.g3, bs, cl_max G h2 (by omega) (by decide), bs, vck_e f2.1]
        obtain ⟨h3, g1, g2, g3⟩ := cl_putDigits G (a := x.2.2.1.natAbs % 10 ^ x.2.2.2.1) (l := max x.2.2.2.1 1) (by omega) iR s2 f2
        rw [g1, bs]
        refine ⟨h3, z1 _, ?_, (e3.tr f3).tr g3⟩
        rw [List.append_assoc, List.append_assoc] at g2
        exact g2
      · rw [if_neg c4, if_neg c4]
        obtain ⟨b, v4, vb, vo⟩ := v.g4
        have put : ∃ h', ((hp_gR h p 3 4).bind fun x19 => (hp_gR h p 3 4).bind fun x20 => (hp_len h x20).bind fun x21 => (hp_vck h (c + k) 4 (m_R_putPart G (c + k) x19 (0 : Int32) x21 h)).bind fun q22 => hp_z (1 : Int32) q22.2) = some (1, h') ∧ RR h' (c + k) (L ++ x.2.2.2.2) ∧ chg c [k, k + 1] h h' := by
          obtain ⟨h1, e1, e2, e3⟩ := cl_putAll G vo k43 wx.2.2.2.2.2 (by omega) hr vb
          rw [v4, bs, bs, vb.l, bs, vck_e hr.1, e1, bs]
          exact ⟨h1, z1 _, e2, e3⟩
        by_cases c8 : x.1 = 8
        · rw [if_neg (by omega), if_neg (by omega), if_neg (by omega), if_pos c8, if_pos c8, v.g1, bs, show (1 : Int32) = nI 1 from rfl]
          simp only [nI_eq (show x.2.1 < 2 ^ 31 by omega) (show 1 < 2 ^ 31 by decide)]
          unfold m_R_putString_163
          by_cases t : x.2.1 = 1
          · rw [if_pos t, if_pos t, vck_e hr.1]
            obtain ⟨h1, e1, e2, e3⟩ := cl_putWord G 0 (by decide) hs.2.2.2.2.2.2 hr
            rw [e1, bs]
            exact ⟨h1, z1 _, e2, e3⟩
          · rw [if_neg t, if_neg t, vck_e hr.1]
            obtain ⟨h1, e1, e2, e3⟩ := cl_putWord G 1 (by decide) hs.2.2.2.2.2.2 hr
            rw [e1, bs]
            exact ⟨h1, z1 _, e2, e3⟩
        · rw [if_neg c8, if_neg c8]
          by_cases c5 : x.1 = 5
          · rw [if_pos c5]; exact put
          · rw [if_neg c5]
            by_cases c6 : x.1 = 6
            · rw [if_pos c6]; exact put
            · rw [if_neg c6, if_pos (show x.1 = 7 by omega)]; exact put
theorem cl_string (v : VP c h p x) (ox : vO x) (hl : x.2.2.2.2.length ≤ 64) (k7 : 7 ≤ k) (k43 : k < 43) (hs : SC G c h) (hr : RR h (c + k) L) : ∃ h', m_R_putString G (c + k) p h = some (bI (strS x).isSome, h') ∧ RR h' (c + k) (L ++ (strS x).getD []) ∧ chg c [k, k + 1] h h' := by
  have wx := ox.W hl
  have w3 := wx.2.2.1
  have w4 := wx.2.2.2.1
  have iA := iM_w wx
  have hK : ∀ j ∈ [k, k + 1], j < 44 ∧ j ≠ 4 := fun j hj => by simp at hj; omega
  have cond : 0 ≤ lg_cmp (jL x.2.2.1) 0 ↔ 0 ≤ x.2.2.1 := by rw [lgc_ge, ← jL_0, jL_le iL_0 iA.L]
  by_cases n1 : x.1 = 1
  · rw [cl_string_no G v (Or.inr n1) (ox.2.2.2.2.1 (by omega) (by omega)).1]
    have : strS x = none := by unfold strS; rw [if_pos n1]
    rw [this]
    exact ⟨h, rfl, by rw [show (none : Option (List Nat)).getD [] = [] from rfl, List.append_nil]; exact hr, chg.rf⟩
  · have hsx : strS x = some ((if x.2.2.1 < 0 then [45] else []) ++ (if x.1 = 2 then dec x.2.1 else if x.1 = 3 then dl x.2.2.1.natAbs (cnt x.2.2.1.natAbs 1 19) else if x.1 = 4 then dl (x.2.2.1.natAbs / 10 ^ x.2.2.2.1) (cnt (x.2.2.1.natAbs / 10 ^ x.2.2.2.1) 1 19) ++ 46 :: dl (x.2.2.1.natAbs % 10 ^ x.2.2.2.1) (cnt (x.2.2.1.natAbs % 10 ^ x.2.2.2.1) (max x.2.2.2.1 1) 19) else if x.1 = 8 then (if x.2.1 = 1 then wdS 0 else wdS 1) else x.2.2.2.2)) := by
      unfold strS
      rw [if_neg n1]
      refine congrArg some ?_
      by_cases kn : x.1 = 3 ∨ x.1 = 4
      · rw [if_neg (show ¬ x.1 = 2 by omega), if_pos kn, if_neg (show ¬ x.1 = 2 by omega)]
        unfold nS
        refine congrArg (fun l => (if x.2.2.1 < 0 then [45] else []) ++ l) ?_
        rcases kn with k3 | k4
        · have s0 := (ox.2.2.2.1 (Or.inl k3)).2.2.1 k3
          rw [if_pos k3, if_neg (show ¬ (x.1 = 4 ∧ x.2.2.2.1 = 0) from fun q => by omega), s0, ot_w w3, List.append_nil]
        · rw [if_neg (show ¬ x.1 = 3 by omega), if_pos k4]
          by_cases s0 : x.2.2.2.1 = 0
          · rw [if_pos (show x.1 = 4 ∧ x.2.2.2.1 = 0 from ⟨k4, s0⟩), s0, ot_w w3, Nat.pow_zero, Nat.div_one, Nat.mod_one]
            rfl
          · rw [if_neg (show ¬ (x.1 = 4 ∧ x.2.2.2.1 = 0) from fun q => s0 q.2), List.append_nil, ot_e w3 (by omega) w4, Nat.max_eq_left (by omega)]
      · have a0 := (ox.2.2.2.2.1 (by omega) (by omega)).1
        rw [if_neg (show ¬ x.2.2.1 < 0 by omega), List.nil_append, if_neg kn, if_neg (show ¬ x.1 = 3 by omega), if_neg (show ¬ x.1 = 4 by omega)]
    rw [hsx]
    clear w3
    unfold m_R_putString
    rw [v.g2, bs]
    by_cases ng : x.2.2.1 < 0
    · rw [if_neg (fun q => by have := cond.mp q; omega), if_pos ng, vck_e hr.1]
      obtain ⟨h1, e1, e2, e3⟩ := cl_put G hr (x := 45) (b := 45) rfl
      rw [e1, bs]
      obtain ⟨h2, f1, f2, f3⟩ := cl_string_15 G (v.c e3 hK) ox hl k7 k43 (hs.c e3) e2 n1
      refine ⟨h2, f1, ?_, e3.tr f3⟩
      rw [List.append_assoc] at f2
      exact f2
    · rw [if_pos (cond.mpr (by omega)), if_neg ng, List.nil_append]
      exact cl_string_15 G v ox hl k7 k43 hs hr n1
end
