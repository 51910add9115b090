/-! VALUES: kind, number or tag or truth, amount, scale, bytes. THE REFERENCE: a value at its place; the value under way; what a method leaves as it was -/
abbrev vV : Type := Nat × Nat × Int × Nat × List Nat
def vW (x : vV) : Prop := x.1 ≤ 8 ∧ x.2.1 ≤ 9999 ∧ x.2.2.1.natAbs < 10 ^ 18 ∧ x.2.2.2.1 ≤ 9 ∧ x.2.2.2.2.length ≤ 64 ∧ ∀ b ∈ x.2.2.2.2, b < 128
def rm_V (S : lm_S) (v : Nat) (x : vV) : Prop := S.2 1 v = nI x.1 ∧ S.2 2 v = nI x.2.1 ∧ S.2 3 v = sgI x.2.2.1 ∧ S.2 4 v = nI x.2.2.2.1 ∧ S.2 6 v = nI x.2.2.2.2.length ∧ (∀ k, k < 18 → S.2 5 (18 * v + k) = nI (dg x.2.2.1.natAbs k)) ∧ ∀ k, k < x.2.2.2.2.length → S.2 7 (64 * v + k) = nI (x.2.2.2.2.getD k 0)
def rm_C (S : lm_S) (x : vV) : Prop := S.1 10 = nI x.1 ∧ S.1 11 = nI x.2.1 ∧ S.1 12 = sgI x.2.2.1 ∧ S.1 13 = nI x.2.2.2.1 ∧ S.1 16 = nI x.2.2.2.2.length ∧ (∀ k, k < 18 → S.2 9 k = nI (dg x.2.2.1.natAbs k)) ∧ ∀ k, k < x.2.2.2.2.length → k < 64 → S.2 10 k = nI (x.2.2.2.2.getD k 0)
def rm_A (S : lm_S) (vs : List vV) : Prop := S.1 0 = nI vs.length ∧ vs.length ≤ 2000 ∧ ∀ i x, vs[i]? = some x → rm_V S (i + 1) x ∧ vW x
def lm_F (L1 L2 : List Nat) (S S' : lm_S) : Prop := (∀ i, i ∉ L1 → S'.1 i = S.1 i) ∧ ∀ j, j ∉ L2 → S'.2 j = S.2 j
theorem lm_F.rf {L1 L2 : List Nat} {S : lm_S} : lm_F L1 L2 S S := ⟨fun _ _ => rfl, fun _ _ => rfl⟩
theorem lm_F.tr {L1 L2 : List Nat} {S S' S'' : lm_S} (h1 : lm_F L1 L2 S S') (h2 : lm_F L1 L2 S' S'') : lm_F L1 L2 S S'' := ⟨fun i hi => (h2.1 i hi).trans (h1.1 i hi), fun j hj => (h2.2 j hj).trans (h1.2 j hj)⟩
theorem lm_F.mono {L1 L2 M1 M2 : List Nat} {S S' : lm_S} (h : lm_F L1 L2 S S') (h1 : ∀ i ∈ L1, i ∈ M1) (h2 : ∀ i ∈ L2, i ∈ M2) : lm_F M1 M2 S S' := ⟨fun i hi => h.1 i (fun q => hi (h1 i q)), fun j hj => h.2 j (fun q => hj (h2 j q))⟩
theorem upd_s (f : Nat → Int32) (k : Nat) (x : Int32) : upd f k x k = x := if_pos rfl
theorem upd_n (f : Nat → Int32) {k j : Nat} (x : Int32) (h : j ≠ k) : upd f k x j = f j := if_neg h
theorem rm_V.keep {S S' : lm_S} {v : Nat} {x : vV} (h : rm_V S v x) (h2 : ∀ j, 1 ≤ j → j ≤ 7 → S'.2 j = S.2 j) : rm_V S' v x := by
  obtain ⟨a1, a2, a3, a4, a5, a6, a7⟩ := h
  refine ⟨?_, ?_, ?_, ?_, ?_, ?_, ?_⟩
  · rw [h2 1 (by decide) (by decide)]; exact a1
  · rw [h2 2 (by decide) (by decide)]; exact a2
  · rw [h2 3 (by decide) (by decide)]; exact a3
  · rw [h2 4 (by decide) (by decide)]; exact a4
  · rw [h2 6 (by decide) (by decide)]; exact a5
  · rw [h2 5 (by decide) (by decide)]; exact a6
  · rw [h2 7 (by decide) (by decide)]; exact a7
theorem rm_A.keep {S S' : lm_S} {vs : List vV} (h : rm_A S vs) (h0 : S'.1 0 = S.1 0) (h2 : ∀ j, 1 ≤ j → j ≤ 7 → S'.2 j = S.2 j) : rm_A S' vs :=
  ⟨by rw [h0]; exact h.1, h.2.1, fun i x hx => ⟨(h.2.2 i x hx).1.keep h2, (h.2.2 i x hx).2⟩⟩
theorem rm_start_22 (G : Nat → Nat) (o : Nat) (h : hp_H) : ∀ (n k : Nat) (S : lm_S), k ≤ 18 → 18 - k < n → (∀ j, j < k → S.2 9 j = 0) → ∃ S', m_M_start_22 G n o (nI k) (lm_w o h S) = some ((), lm_w o h S') ∧ (∀ j, j < 18 → S'.2 9 j = 0) ∧ S'.1 = upd S.1 16 0 ∧ ∀ j, j ≠ 9 → S'.2 j = S.2 j
  | 0, k, S, _, hn, _ => by omega
  | n + 1, k, S, hk, hn, hz => by
    rw [m_M_start_22]
    by_cases e : k = 18
    · subst e
      rw [if_pos (show (18 : Int32) ≤ nI 18 from nI_le (a := 18) (b := 18) (Nat.le_refl _) (by decide))]
      simp only [lm_p16, Option.bind_some]
      exact ⟨_, rfl, hz, rfl, fun _ _ => rfl⟩
    · rw [if_neg (show ¬ (18 : Int32) ≤ nI k from nI_ge (a := k) (b := 18) (by omega) (by decide))]
      simp only [lm_g14, Option.bind_some]
      rw [lm_sN o h S 9 k 0 (by decide) (by decide) (show k < 18 by omega)]
      simp only [Option.bind_some, hp_nm]
      rw [nI_1]
      obtain ⟨S', e1, e2, e3, e4⟩ := rm_start_22 G o h n (k + 1) (S.1, lm_up S.2 9 (upd (S.2 9) k 0)) (by omega) (by omega) (fun j hj => by
        show lm_up S.2 9 (upd (S.2 9) k 0) 9 j = 0
        rw [lm_ups]
        by_cases ej : j = k
        · subst ej; exact upd_s _ _ _
        · rw [upd_n _ _ ej]; exact hz j (by omega))
      exact ⟨S', e1, e2, e3, fun j hj => (e4 j hj).trans (lm_upn _ _ hj)⟩
theorem rm_start (G : Nat → Nat) (o : Nat) (h : hp_H) (S : lm_S) (k e : Nat) : ∃ S', m_M_start G o (nI k) (nI e) (lm_w o h S) = some ((), lm_w o h S') ∧ rm_C S' (k, e, 0, 0, []) ∧ lm_F [10, 11, 12, 13, 16] [9] S S' := by
  unfold m_M_start
  simp only [lm_p10, lm_p11, lm_p12, lm_p13, Option.bind_some, hp_nm]
  obtain ⟨S', e1, e2, e3, e4⟩ := rm_start_22 G o h hp_fu 0 (upd (upd (upd (upd S.1 10 (nI k)) 11 (nI e)) 12 0) 13 0, S.2) (by decide) (by decide) (fun j hj => absurd hj (Nat.not_lt_zero j))
  refine ⟨S', e1, ⟨?_, ?_, ?_, ?_, ?_, ?_, ?_⟩, ?_, ?_⟩
  · rw [e3]; rfl
  · rw [e3]; rfl
  · rw [e3]; rfl
  · rw [e3]; rfl
  · rw [e3]; rfl
  · intro j hj; rw [e2 j hj]; show 0 = nI (dg 0 j); rw [dg_zero]; rfl
  · intro j hj; exact absurd hj (Nat.not_lt_zero j)
  · intro i hi
    rw [e3]
    simp only [List.mem_cons, List.not_mem_nil, or_false, not_or] at hi
    obtain ⟨h1, h2, h3, h4, h5⟩ := hi
    simp only [upd_n _ _ h5, upd_n _ _ h4, upd_n _ _ h3, upd_n _ _ h2, upd_n _ _ h1]
  · intro j hj
    simp only [List.mem_cons, List.not_mem_nil, or_false] at hj
    exact e4 j hj
