/-! GATHERING -/
abbrev gG : Type := Nat × Bool × Int32 × List Nat
def rm_G (S : lm_S) (vs : List vV) (g : gG) : Prop := (S.1 26 = nI g.2.2.2.length ∧ S.1 27 = nI g.1 ∧ S.1 28 = bI g.2.1 ∧ S.1 29 = g.2.2.1) ∧ g.1 ≤ 6 ∧ g.2.2.2.length ≤ 500 ∧ (g.1 = 6 → ∃ t, vAt vs g.2.2.1 = some t ∧ t.1 = 5) ∧ ∀ k n, g.2.2.2[k]? = some n → S.2 18 k = nI n ∧ n ≤ vs.length
theorem vAt_app {vs : List vV} {a : Int32} {x : vV} (h : vAt vs a = some x) (l : List vV) : vAt (vs ++ l) a = some x := by
  obtain ⟨i, e, hx⟩ := vAt_some h
  have hi := (List.getElem?_eq_some_iff.mp hx).1
  unfold vAt at h ⊢
  by_cases c : 0 < a
  · rw [if_pos c] at h ⊢
    rw [List.getElem?_append_left (List.getElem?_eq_some_iff.mp h).1]; exact h
  · rw [if_neg c] at h; cases h
theorem rm_G.f {S S' : lm_S} {vs : List vV} {g : gG} (h : rm_G S vs g) (q : fR S S') (l : List vV) : rm_G S' (vs ++ l) g := by
  obtain ⟨⟨-, -, q3, q4, q5, q6⟩, -, -, -, -, q18⟩ := q
  obtain ⟨⟨h1, h2, h3, h4⟩, h5, h6, h7, h8⟩ := h
  refine ⟨⟨by rw [q3]; exact h1, by rw [q4]; exact h2, by rw [q5]; exact h3, by rw [q6]; exact h4⟩, h5, h6, fun e => ?_, fun k n hk => ?_⟩
  · obtain ⟨t, ht, h⟩ := h7 e
    exact ⟨t, vAt_app ht l, h⟩
  · rw [q18]
    have := h8 k n hk
    exact ⟨this.1, by rw [List.length_append]; omega⟩
def gaV (vs : List vV) (g : gG) (w : Int32) (e : Bool) (t : Int32) : Int32 × gG := if ¬ w < 0 ∧ ¬ 6 < w ∧ (w = 6 → ((vAt vs t).map (fun x => x.1 == 5)) = some true) then (0, (w.toNatClampNeg, e, t, [])) else (-1, g)
theorem rm_gather (G : Nat → Nat) (o : Nat) (h : hp_H) (S : lm_S) (vs : List vV) (g : gG) (w : Int32) (e : Bool) (t : Int32) (hA : rm_A S vs) (hg : rm_G S vs g) : ∃ S', m_M_gather G o w (bI e) t (lm_w o h S) = some ((gaV vs g w e t).1, lm_w o h S') ∧ rm_G S' vs (gaV vs g w e t).2 ∧ (∀ i, i ≠ 26 → i ≠ 27 → i ≠ 28 → i ≠ 29 → S'.1 i = S.1 i) ∧ S'.2 = S.2 := by
  have no : ∃ S', some ((-1 : Int32), lm_w o h S) = some (-1, lm_w o h S') ∧ rm_G S' vs g ∧ (∀ i, i ≠ 26 → i ≠ 27 → i ≠ 28 → i ≠ 29 → S'.1 i = S.1 i) ∧ S'.2 = S.2 := ⟨S, rfl, hg, fun _ _ _ _ _ => rfl, rfl⟩
  have pz : ∀ S1 : lm_S, hp_pZ (lm_w o h S1) o 8 28 (bI e) = some (lm_w o h (upd S1.1 28 (bI e), S1.2)) := fun S1 => by
    unfold hp_pZ
    rw [if_pos (by cases e; exact Or.inl rfl; exact Or.inr rfl), lm_p28]
  unfold m_M_gather m_M_gather_34 m_M_gather_36 gaV
  by_cases c0 : w < 0
  · rw [if_pos c0, if_neg (fun q => q.1 c0)]; exact no
  · rw [if_neg c0]
    by_cases c6 : 6 < w
    · rw [if_pos c6, if_neg (fun q => q.2.1 c6)]; exact no
    · rw [if_neg c6]
      obtain ⟨j, hj, rfl⟩ := nI_of c0
      have j6 : j ≤ 6 := Nat.le_of_not_lt fun q => c6 (nI_lt (a := 6) q hj)
      simp only [lm_p27, lm_p29, lm_p26, bs, pz, lm_vck, rm_isValue G o h S vs t hA]
      have yes : (j = 6 → ∃ x, vAt vs t = some x ∧ x.1 = 5) → ∃ S', some ((0 : Int32), lm_w o h (upd (upd (upd (upd S.1 27 (nI j)) 28 (bI e)) 29 t) 26 0, S.2)) = some (0, lm_w o h S') ∧ rm_G S' vs (j, e, t, []) ∧ (∀ i, i ≠ 26 → i ≠ 27 → i ≠ 28 → i ≠ 29 → S'.1 i = S.1 i) ∧ S'.2 = S.2 := fun h6 => by
        refine ⟨_, rfl, ⟨⟨?_, ?_, ?_, ?_⟩, j6, by simp, h6, fun k n hk => by cases hk⟩, fun i a b c d => ?_, rfl⟩
        · simp only [upd_s]; rfl
        · simp (disch := omega) only [upd_s, upd_n]
        · simp (disch := omega) only [upd_s, upd_n]
        · simp (disch := omega) only [upd_s, upd_n]
        · simp only [upd_n _ _ a, upd_n _ _ b, upd_n _ _ c, upd_n _ _ d]
      rw [nI_clamp hj]
      by_cases d6 : j = 6
      · rw [if_pos ((ie_6 hj).mpr d6)]
        cases hv : vAt vs t with
        | none =>
          rw [if_pos (show bI (none : Option vV).isSome = 0 from rfl), if_neg (fun q => by have := q.2.2 ((ie_6 hj).mpr d6); cases this)]; exact no
        | some x =>
          rw [if_neg (show ¬ bI (some x).isSome = 0 from (by decide : ¬ bI true = 0))]
          obtain ⟨i, rfl, hx⟩ := vAt_some hv
          obtain ⟨hr, wx, li, -⟩ := rm_at hA hx
          have w1 := wx.1
          have l1 := lm_a1 o h S (i + 1) (by omega)
          rw [hr.1] at l1
          simp only [lm_g1, l1, bs, ie_5 (show x.1 < 2 ^ 31 by omega)]
          by_cases c5 : x.1 = 5
          · rw [if_pos c5, if_pos ⟨c0, c6, fun _ => by show some (x.1 == 5) = some true; rw [c5]; rfl⟩]
            exact yes (fun _ => ⟨x, hv, c5⟩)
          · rw [if_neg c5, if_neg (fun q => by have := q.2.2 ((ie_6 hj).mpr d6); have := Option.some.inj (show some (x.1 == 5) = some true from this); exact c5 (by simpa using this))]; exact no
      · rw [if_neg (fun q => d6 ((ie_6 hj).mp q)), if_pos ⟨c0, c6, fun q => absurd ((ie_6 hj).mp q) d6⟩]
        exact yes (fun q => absurd q d6)
def addV (vs : List vV) (g : gG) (v : Int32) : Int32 × gG := if v = 0 ∨ (vAt vs v).isSome then (if g.2.1 && g.2.2.2.contains v.toNatClampNeg then (nI g.2.2.2.length, g) else if g.2.2.2.length = 500 then (-3, g) else (nI (g.2.2.2.length + 1), (g.1, g.2.1, g.2.2.1, g.2.2.2 ++ [v.toNatClampNeg]))) else (-1, g)
theorem rm_add_52 (G : Nat → Nat) (o : Nat) (h : hp_H) (S : lm_S) (vs : List vV) (g : gG) (v : Nat) (hv : v ≤ vs.length) (hA : rm_A S vs) (hg : rm_G S vs g) : ∃ S', m_M_add_52 G o (nI v) (lm_w o h S) = some ((if g.2.2.2.length = 500 then ((-3 : Int32), g) else (nI (g.2.2.2.length + 1), (g.1, g.2.1, g.2.2.1, g.2.2.2 ++ [v]))).1, lm_w o h S') ∧ rm_G S' vs (if g.2.2.2.length = 500 then ((-3 : Int32), g) else (nI (g.2.2.2.length + 1), (g.1, g.2.1, g.2.2.1, g.2.2.2 ++ [v]))).2 ∧ (∀ i, i ≠ 26 → S'.1 i = S.1 i) ∧ ∀ j, j ≠ 18 → S'.2 j = S.2 j := by
  obtain ⟨⟨h1, h2, h3, h4⟩, h5, h6, h7, h8⟩ := id hg
  unfold m_M_add_52
  simp only [lm_g26, h1, bs, ie_500 (show g.2.2.2.length < 2 ^ 31 by omega)]
  by_cases c : g.2.2.2.length = 500
  · rw [if_pos c, if_pos c]; exact ⟨S, rfl, hg, fun _ _ => rfl, fun _ _ => rfl⟩
  · rw [if_neg c, if_neg c]
    have l18 := lm_s18 o h S g.2.2.2.length (nI v) (by omega)
    simp only [lm_g25, lm_g26, h1, l18, bs, lm_p26, nI_1, upd_s]
    refine ⟨_, rfl, ⟨⟨?_, ?_, ?_, ?_⟩, h5, ?_, h7, ?_⟩, fun i hi => upd_n _ _ hi, fun j hj => lm_upn _ _ hj⟩
    · simp only [upd_s, List.length_append]; rfl
    · simp (disch := omega) only [upd_n]; exact h2
    · simp (disch := omega) only [upd_n]; exact h3
    · simp (disch := omega) only [upd_n]; exact h4
    · show (g.2.2.2 ++ [v]).length ≤ 500
      rw [List.length_append]; show g.2.2.2.length + 1 ≤ 500; omega
    · intro i n hi
      have hi : (g.2.2.2 ++ [v])[i]? = some n := hi
      simp only [lm_ups]
      by_cases ci : i < g.2.2.2.length
      · rw [List.getElem?_append_left ci] at hi
        rw [upd_n _ _ (by omega)]
        exact h8 i n hi
      · have ei : i = g.2.2.2.length := by
          have := (List.getElem?_eq_some_iff.mp hi).1
          rw [List.length_append] at this
          simp at this
          omega
        subst ei
        rw [List.getElem?_append_right (Nat.le_refl _), Nat.sub_self] at hi
        cases hi
        rw [upd_s]
        exact ⟨rfl, hv⟩
theorem rm_add_16 (G : Nat → Nat) (o : Nat) (h : hp_H) (S : lm_S) (vs : List vV) (g : gG) (v : Nat) (hv : v ≤ vs.length) (hA : rm_A S vs) (hg : rm_G S vs g) : ∀ (n k : Nat), k ≤ g.2.2.2.length → g.2.2.2.length - k < n → (g.2.1 = true → v ∉ g.2.2.2.take k) → ∃ S', m_M_add_16 G n o (nI v) (nI k) (lm_w o h S) = some ((if g.2.1 && g.2.2.2.contains v then (nI g.2.2.2.length, g) else if g.2.2.2.length = 500 then ((-3 : Int32), g) else (nI (g.2.2.2.length + 1), (g.1, g.2.1, g.2.2.1, g.2.2.2 ++ [v]))).1, lm_w o h S') ∧ rm_G S' vs (if g.2.1 && g.2.2.2.contains v then (nI g.2.2.2.length, g) else if g.2.2.2.length = 500 then ((-3 : Int32), g) else (nI (g.2.2.2.length + 1), (g.1, g.2.1, g.2.2.1, g.2.2.2 ++ [v]))).2 ∧ (∀ i, i ≠ 26 → S'.1 i = S.1 i) ∧ ∀ j, j ≠ 18 → S'.2 j = S.2 j
  | 0, k, _, hn, _ => by omega
  | n + 1, k, hk, hn, hno => by
    obtain ⟨⟨h1, h2, h3, h4⟩, h5, h6, -, h8⟩ := id hg
    have hl := hA.2.1
    rw [m_M_add_16]
    have fin := rm_add_52 G o h S vs g v hv hA hg
    simp only [lm_g26, h1, bs, nI_leI (show g.2.2.2.length < 2 ^ 31 by omega) (show k < 2 ^ 31 by omega), lm_g28, h3]
    by_cases c : g.2.2.2.length ≤ k
    · rw [if_pos c]
      have hc : (g.2.1 && g.2.2.2.contains v) = false := by
        cases ho : g.2.1 with
        | false => rfl
        | true =>
          rw [Bool.true_and]
          have := hno ho
          rw [List.take_of_length_le c] at this
          simpa using this
      rw [hc, if_neg (show ¬ false = true by decide)]
      exact fin
    · rw [if_neg c]
      cases ho : g.2.1 with
      | false =>
        rw [if_pos (show bI false = 0 from rfl), Bool.false_and, if_neg (show ¬ false = true by decide)]
        rw [ho] at fin
        exact fin
      | true =>
        rw [if_neg (show ¬ bI true = 0 by decide)]
        obtain ⟨m, hm⟩ : ∃ m, g.2.2.2[k]? = some m := ⟨_, List.getElem?_eq_getElem (by omega)⟩
        have l18 := lm_a18 o h S k (by omega)
        rw [(h8 k m hm).1] at l18
        have ml := (h8 k m hm).2
        simp only [lm_g25, l18, bs, nI_eq (show m < 2 ^ 31 by omega) (show v < 2 ^ 31 by omega), hp_nmE, nI_1]
        by_cases e : m = v
        · rw [if_pos e]
          have hc : g.2.2.2.contains v = true := by rw [← e]; simpa using List.mem_of_getElem? hm
          rw [hc, if_pos (show (true && true) = true from rfl)]
          exact ⟨S, rfl, hg, fun _ _ => rfl, fun _ _ => rfl⟩
        · rw [if_neg e]
          have key := rm_add_16 G o h S vs g v hv hA hg n (k + 1) (by omega) (by omega) (fun _ q => by
            rw [List.take_succ, hm] at q
            rcases List.mem_append.mp q with z | z
            · exact hno ho z
            · simp at z; exact e z.symm)
          rw [ho] at key
          exact key
theorem rm_add (G : Nat → Nat) (o : Nat) (h : hp_H) (S : lm_S) (vs : List vV) (g : gG) (v : Int32) (hA : rm_A S vs) (hg : rm_G S vs g) : ∃ S', m_M_add G o v (lm_w o h S) = some ((addV vs g v).1, lm_w o h S') ∧ rm_G S' vs (addV vs g v).2 ∧ (∀ i, i ≠ 26 → S'.1 i = S.1 i) ∧ ∀ j, j ≠ 18 → S'.2 j = S.2 j := by
  have h6 := hg.2.2.1
  unfold m_M_add m_M_add_14 addV
  simp only [hp_nmE]
  have yes := fun (n : Nat) hv => rm_add_16 G o h S vs g n hv hA hg hp_fu 0 (by omega) (by unfold hp_fu; omega) (fun _ q => by rw [List.take_zero] at q; cases q)
  by_cases c0 : v = 0
  · rw [if_pos c0, if_pos (Or.inl c0), c0]
    exact yes 0 (by omega)
  · rw [if_neg c0, lm_vck, rm_isValue G o h S vs v hA, bs]
    cases hv : vAt vs v with
    | none =>
      rw [if_pos (show bI (none : Option vV).isSome = 0 from rfl), if_neg (fun q => by rcases q with z | z; exact c0 z; cases z)]
      exact ⟨S, rfl, hg, fun _ _ => rfl, fun _ _ => rfl⟩
    | some x =>
      rw [if_neg (show ¬ bI (some x).isSome = 0 from (by decide : ¬ bI true = 0)), if_pos (show v = 0 ∨ (some x).isSome = true from Or.inr rfl)]
      obtain ⟨i, rfl, hx⟩ := vAt_some hv
      obtain ⟨-, -, li, ll⟩ := rm_at hA hx
      rw [nI_clamp (by omega)]
      exact yes (i + 1) (by omega)
