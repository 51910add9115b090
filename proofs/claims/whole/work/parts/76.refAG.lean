/-! together -/
def cnG : List Nat → Nat
  | [] => 0
  | n :: r => (if n = 0 then 0 else 1) + cnG r
def sepV (vs : List vV) (t : Int32) : List Nat := match vAt vs t with
  | none => []
  | some x => x.2.2.2.2
def smV1 (o : Option (Int × Bool)) : Option vV := match o with
  | none => none
  | some (t, w) => nmI t w
def togV (vs : List vV) (g : gG) : Int32 × List vV := if g.1 = 0 then kq vs (nmI (((cnG g.2.2.2 : Nat) : Int) * 10 ^ (9 - 0)) true) else if g.1 = 1 then kq vs (smV1 (smA (g.2.2.2.map (gv vs)) 0 true)) else if g.1 = 3 then (gI vs (exV 1 (g.2.2.2.map (gv vs)) none), vs) else if g.1 = 4 then kq vs (avV vs g.2.2.2) else if g.1 = 6 then kq vs (rowV (sepV vs g.2.2.1) (g.2.2.2.map (gv vs))) else (gI vs (exV (-1) (g.2.2.2.map (gv vs)) none), vs)
theorem cnG_le : ∀ l : List Nat, cnG l ≤ l.length
  | [] => Nat.le_refl _
  | n :: r => by
    have := cnG_le r
    rw [cnG, List.length_cons]
    split <;> omega
theorem cnG_snoc (n : Nat) : ∀ l : List Nat, cnG (l ++ [n]) = cnG l + if n = 0 then 0 else 1
  | [] => by
    show (if n = 0 then 0 else 1) + 0 = 0 + if n = 0 then 0 else 1
    omega
  | m :: r => by rw [List.cons_append, cnG, cnG, cnG_snoc n r]; omega
theorem rm_together_27 (G : Nat → Nat) (o : Nat) (h : hp_H) (S : lm_S) (r4 : Nat → Int32 → Int32 → hp_H → Option (Int32 × hp_H)) (k a b : Nat) : m_M_together_27 G r4 o (nI k) (nI a) (nI b) (lm_w o h S) = r4 o (nI (b + a)) (nI (k + 1)) (lm_w o h S) := by
  rw [m_M_together_27]
  simp only [hp_nmE, nI_1, nI_add]
theorem rm_together_4 (G : Nat → Nat) (o : Nat) (h : hp_H) (hG : SM G o h) (S : lm_S) (vs : List vV) (g : gG) (hV : vsO vs) (hA : rm_A S vs) (hg : rm_G S vs g) : ∀ (n k : Nat), k ≤ g.2.2.2.length → g.2.2.2.length - k < n → ∃ S', m_M_together_4 G n o (nI (cnG (g.2.2.2.take k))) (nI k) (lm_w o h S) = some ((togV vs g).1, lm_w o h S') ∧ rm_A S' (togV vs g).2 ∧ fS S S'
  | 0, k, _, hn => by omega
  | n + 1, k, hk, hn => by
    obtain ⟨⟨h1, h27, -, -⟩, h5, h6, h7, h8⟩ := id hg
    have hl := hA.2.1
    rw [m_M_together_4]
    simp only [lm_g26, h1, bs, nI_leI (show g.2.2.2.length < 2 ^ 31 by omega) (show k < 2 ^ 31 by omega)]
    by_cases c : g.2.2.2.length ≤ k
    · rw [if_pos c, List.take_of_length_le c]
      have cl := cnG_le g.2.2.2
      have b31 : g.1 < 2 ^ 31 := by omega
      unfold togV
      simp only [lm_g27, h27, bs, lm_vck, bq, ie_0 b31, ie_1 b31, ie_2 b31, ie_3 b31, ie_4 b31, ie_5 b31, ie_6 b31, nI_64L _ (show cnG g.2.2.2 < 2147483648 by omega)]
      have ext : ∀ w : Int32, ∃ S', m_M_extreme G o w (lm_w o h S) = some ((gI vs (exV w (g.2.2.2.map (gv vs)) none), vs).1, lm_w o h S') ∧ rm_A S' (gI vs (exV w (g.2.2.2.map (gv vs)) none), vs).2 ∧ fS S S' := fun w => by
        obtain ⟨S1, e1, e2⟩ := rm_extreme G o h S vs g w hV.1 hA hg
        exact ⟨S1, e1, e2.A hA, e2.f⟩
      by_cases c0 : g.1 = 0
      · rw [if_pos c0, if_pos c0]
        exact rm_numbered G o h S vs ((cnG g.2.2.2 : Nat) : Int) 0 true (by clear ext; omega) (by decide) hA
      · rw [if_neg c0, if_neg c0]
        by_cases c1 : g.1 = 1
        · rw [if_pos c1, if_pos c1]
          obtain ⟨S1, f1, f2, f3⟩ := rm_sumAll G o h S vs g hA hg
          rw [f2, bs]
          cases hs : smA (g.2.2.2.map (gv vs)) 0 true with
          | none =>
            rw [if_pos (show bI (none : Option (Int × Bool)).isSome = 0 from rfl), m_M_together_117]
            exact ⟨S1, rfl, f1.A hA, f1.f⟩
          | some p =>
            obtain ⟨t, w⟩ := p
            rw [if_neg (show ¬ bI (some (t, w)).isSome = 0 from (by decide : ¬ bI true = 0))]
            obtain ⟨k1, k2, k3, k4⟩ := f3 t w hs
            have b := b27 k1
            clear k1
            simp only [lm_g30, lm_g31, k3, lm_g32, k4, bs, lm_vck, m_M_together_117, bq]
            exact RK.from f1.f (rm_number G o h S1 vs 19 (by unfold RJ; clear b; omega) t _ w b (fun _ => rfl) (f1.A hA) k2)
        · rw [if_neg c1, if_neg c1]
          by_cases c2 : g.1 = 2
          · rw [if_pos c2, if_neg (show ¬ g.1 = 3 by omega), if_neg (show ¬ g.1 = 4 by omega), if_neg (show ¬ g.1 = 6 by omega)]
            exact ext (-1)
          · rw [if_neg c2]
            by_cases c3 : g.1 = 3
            · rw [if_pos c3, if_pos c3]
              exact ext 1
            · rw [if_neg c3, if_neg c3]
              by_cases c4 : g.1 = 4
              · rw [if_pos c4, if_pos c4]
                exact rm_average G o h S vs g hA hg
              · rw [if_neg c4, if_neg c4]
                by_cases c5 : g.1 = 5
                · rw [if_pos c5, if_neg (show ¬ g.1 = 6 by omega)]
                  exact ext (-1)
                · have c6 : g.1 = 6 := by clear ext; omega
                  rw [if_neg c5, if_pos c6, if_pos c6]
                  obtain ⟨tb, ht, -⟩ := h7 c6
                  have : sepV vs g.2.2.1 = tb.2.2.2.2 := by rw [sepV, ht]
                  rw [this]
                  exact rm_row G o h hG S vs g tb hV ht hA hg
    · rw [if_neg c]
      obtain ⟨m, hm⟩ : ∃ m, g.2.2.2[k]? = some m := ⟨_, List.getElem?_eq_getElem (by omega)⟩
      have l18 := lm_a18 o h S k (by omega)
      rw [(h8 k m hm).1] at l18
      have ml := (h8 k m hm).2
      have IH := rm_together_4 G o h hG S vs g hV hA hg n (k + 1) (by omega) (by omega)
      rw [List.take_succ, hm, show (some m).toList = [m] from rfl, cnG_snoc] at IH
      simp only [lm_g25, l18, bs]
      by_cases m0 : m = 0
      · rw [if_pos m0] at IH
        rw [if_pos (by rw [m0]; decide), show (0 : Int32) = nI 0 from rfl, rm_together_27]
        exact IH
      · rw [if_neg m0] at IH
        rw [if_neg (nI_nle (by omega) (by omega)), show (1 : Int32) = nI 1 from rfl, rm_together_27]
        exact IH
theorem rm_together (G : Nat → Nat) (o : Nat) (h : hp_H) (hG : SM G o h) (S : lm_S) (vs : List vV) (g : gG) (hV : vsO vs) (hA : rm_A S vs) (hg : rm_G S vs g) : ∃ S', m_M_together G o (lm_w o h S) = some ((togV vs g).1, lm_w o h S') ∧ rm_A S' (togV vs g).2 ∧ fS S S' := by
  have h6 := hg.2.2.1
  unfold m_M_together
  simp only [hp_nmE]
  exact rm_together_4 G o h hG S vs g hV hA hg hp_fu 0 (by omega) (by unfold hp_fu; omega)
