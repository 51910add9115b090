/-! THE LAW FROM ITS BEGINNING -/
theorem SI.e {G : Nat → Nat} {s : Nat} {h h' : hp_H} (q : SI G s h) (e : ∀ a, s ≤ a → a < s + 6 → h'.1 a = h.1 a) : SI G s h' := by
  obtain ⟨q1, q2, q3, q4, q5⟩ := q
  exact ⟨(e _ (by omega) (by omega)).trans q1, (e _ (by omega) (by omega)).trans q2, (e _ (by omega) (by omega)).trans q3, (e _ (by omega) (by omega)).trans q4, q5.e (e _ (by omega) (by omega)) (e _ (by omega) (by omega))⟩
theorem EI.e {s w : Nat} {h h' : hp_H} (q : EI s w h) (e : ∀ a, s ≤ a → a < s + 8 → h'.1 a = h.1 a) : EI s w h' := by
  obtain ⟨q1, q2, q3, q4, q5, q6, q7⟩ := q
  exact ⟨(e _ (by omega) (by omega)).trans q1, (e _ (by omega) (by omega)).trans q2, (e _ (by omega) (by omega)).trans q3, (e _ (by omega) (by omega)).trans q4, (e _ (by omega) (by omega)).trans q5, q6.e (e _ (by omega) (by omega)) (e _ (by omega) (by omega)), (e _ (by omega) (by omega)).trans q7⟩
theorem GI.e {s w : Nat} {h h' : hp_H} (q : GI s w h) (e : ∀ a, s ≤ a → a < s + 6 → h'.1 a = h.1 a) : GI s w h' := by
  obtain ⟨q1, q2, q3, q4, q5⟩ := q
  exact ⟨(e _ (by omega) (by omega)).trans q1, (e _ (by omega) (by omega)).trans q2, (e _ (by omega) (by omega)).trans q3, q4.e (e _ (by omega) (by omega)) (e _ (by omega) (by omega)), (e _ (by omega) (by omega)).trans q5⟩
def DI (G : Nat → Nat) (c : Nat) (h : hp_H) : Prop := h.1 c = some (.inl (0, dF c)) ∧ SI G (c + 1) h ∧ RR h (c + 7) [] ∧ EI (c + 9) (c + 1) h ∧ GI (c + 17) (c + 1) h
theorem DI.e {G : Nat → Nat} {c : Nat} {h h' : hp_H} (q : DI G c h) (e : ∀ a, a < c + 23 → h'.1 a = h.1 a) : DI G c h' := by
  obtain ⟨q1, q2, q3, q4, q5⟩ := q
  exact ⟨(e _ (by omega)).trans q1, q2.e (fun a _ h2 => e a (by omega)), q3.e (e _ (by omega)) (e _ (by omega)), q4.e (fun a _ h2 => e a (by omega)), q5.e (fun a _ h2 => e a (by omega))⟩
theorem in_D (G : Nat → Nat) {c q : Nat} {h0 : hp_H} (c0 : h0.1 c = some (.inl (0, [.null, .null, .null, .null]))) (z0 : h0.2 = (c + 1, q)) : ∃ h', m_D_init G c h0 = some ((), h') ∧ DI G c h' ∧ (∀ a, a < c → h'.1 a = h0.1 a) ∧ ∃ q', h'.2 = (c + 23, q') ∧ q' ≤ q + 4000 := by
  unfold m_D_init
  rw [nw_e (p := c + 1) (by rw [z0])]
  obtain ⟨h1, E, N1, O1, z1⟩ := nwF z0 1 4 [.null, .null, .null, .null]
  rw [E]
  obtain ⟨h2, E2, S2, O2, z2⟩ := in_S G N1 z1
  rw [E2, bs]
  have d2 : h2.1 c = some (.inl (0, [.null, .null, .null, .null])) := (O2 c (by omega)).trans ((O1 c (by omega)).trans c0)
  obtain ⟨h3, E3, N3, O3, z3⟩ := puF (k := 0) d2 (.ref (c + 1)) (by simp)
  rw [E3, bs]
  rw [z2] at z3
  have d3 : h3.1 c = some (.inl (0, [.ref (c + 1), .null, .null, .null])) := N3
  have S3 := S2.e (h' := h3) (fun a h1 _ => O3 a (by omega))
  have l3 : ∀ a, a < c → h3.1 a = h0.1 a := fun a ha => (O3 a (by omega)).trans ((O2 a (by omega)).trans (O1 a (by omega)))
  replace z3 : h3.2 = (c + 7, q + 4 + 3 + 256 + 6 + 3 + 64) := z3
  rw [nw_e (p := c + 7) (by rw [z3])]
  obtain ⟨h4, E, N4, O4, z4⟩ := nwF z3 4 3 [.null, .int 0, .int 0]
  rw [E]
  obtain ⟨h5, E5, R5, O5, z5⟩ := in_R G N4 z4
  rw [E5, bs]
  have d5 : h5.1 c = some (.inl (0, [.ref (c + 1), .null, .null, .null])) := (O5 c (by omega)).trans ((O4 c (by omega)).trans d3)
  have S5 := S3.e (h' := h5) (fun a _ h2 => (O5 a (by omega)).trans (O4 a (by omega)))
  have l5 : ∀ a, a < c → h5.1 a = h0.1 a := fun a ha => (O5 a (by omega)).trans ((O4 a (by omega)).trans (l3 a ha))
  obtain ⟨h6, E6, N6, O6, z6⟩ := puF (k := 1) d5 (.ref (c + 7)) (by simp)
  rw [E6, bs]
  rw [z5] at z6
  have d6 : h6.1 c = some (.inl (0, [.ref (c + 1), .ref (c + 7), .null, .null])) := N6
  have S6 := S5.e (h' := h6) (fun a h1 _ => O6 a (by omega))
  have R6 := R5.e (h' := h6) (O6 _ (by omega)) (O6 _ (by omega))
  have l6 : ∀ a, a < c → h6.1 a = h0.1 a := fun a ha => (O6 a (by omega)).trans (l5 a ha)
  replace z6 : h6.2 = (c + 9, q + 4 + 3 + 256 + 6 + 3 + 64 + 3 + 64) := z6
  rw [nw_e (p := c + 9) (by rw [z6])]
  obtain ⟨h7, E, N7, O7, z7⟩ := nwF z6 5 9 [.null, .null, .null, .null, .null, .null, .null, .int 0, .int 0]
  rw [E]
  have d7 : h7.1 c = some (.inl (0, [.ref (c + 1), .ref (c + 7), .null, .null])) := (O7 c (by omega)).trans d6
  rw [gR_e (k := 0) d7 rfl, bs]
  obtain ⟨h8, E8, X8, O8, z8⟩ := in_E G (w := c + 1) N7 z7
  rw [E8, bs]
  have d8 : h8.1 c = some (.inl (0, [.ref (c + 1), .ref (c + 7), .null, .null])) := (O8 c (by omega)).trans d7
  have S8 := S6.e (h' := h8) (fun a _ h2 => (O8 a (by omega)).trans (O7 a (by omega)))
  have R8 := R6.e (h' := h8) ((O8 _ (by omega)).trans (O7 _ (by omega))) ((O8 _ (by omega)).trans (O7 _ (by omega)))
  have l8 : ∀ a, a < c → h8.1 a = h0.1 a := fun a ha => (O8 a (by omega)).trans ((O7 a (by omega)).trans (l6 a ha))
  obtain ⟨h9, E9, N9, O9, z9⟩ := puF (k := 2) d8 (.ref (c + 9)) (by simp)
  rw [E9, bs]
  rw [z8] at z9
  have d9 : h9.1 c = some (.inl (0, [.ref (c + 1), .ref (c + 7), .ref (c + 9), .null])) := N9
  have S9 := S8.e (h' := h9) (fun a h1 _ => O9 a (by omega))
  have R9 := R8.e (h' := h9) (O9 _ (by omega)) (O9 _ (by omega))
  have X9 := X8.e (h' := h9) (fun a h1 _ => O9 a (by omega))
  have l9 : ∀ a, a < c → h9.1 a = h0.1 a := fun a ha => (O9 a (by omega)).trans (l8 a ha)
  replace z9 : h9.2 = (c + 17, q + 4 + 3 + 256 + 6 + 3 + 64 + 3 + 64 + 9 + 100 + 100 + 10 + 100 + 3 + 64 + 4) := z9
  rw [nw_e (p := c + 17) (by rw [z9])]
  obtain ⟨ha, E, Na, Oa, za⟩ := nwF z9 7 9 [.null, .null, .null, .null, .null, .int 0, .int 0, .int 0, .int 0]
  rw [E]
  have da : ha.1 c = some (.inl (0, [.ref (c + 1), .ref (c + 7), .ref (c + 9), .null])) := (Oa c (by omega)).trans d9
  rw [gR_e (k := 0) da rfl, bs]
  obtain ⟨hb, Eb, Xb, Ob, zb⟩ := in_G G (w := c + 1) Na za
  rw [Eb, bs]
  have db : hb.1 c = some (.inl (0, [.ref (c + 1), .ref (c + 7), .ref (c + 9), .null])) := (Ob c (by omega)).trans da
  obtain ⟨hd, Ed, Nd, Od, zd⟩ := puF (k := 3) db (.ref (c + 17)) (by simp)
  rw [Ed, bs]
  rw [zb] at zd
  have tob : ∀ a, a < c + 17 → a ≠ c → hd.1 a = h9.1 a := fun a h1 h2 => (Od a h2).trans ((Ob a (by omega)).trans (Oa a (by omega)))
  refine ⟨hd, rfl, ⟨Nd, S9.e (fun a h1 h2 => tob a (by omega) (by omega)), R9.e (tob _ (by omega) (by omega)) (tob _ (by omega) (by omega)), X9.e (fun a h1 h2 => tob a (by omega) (by omega)), Xb.e (fun a h1 _ => Od a (by omega))⟩, fun a ha => (tob a (by omega) (by omega)).trans (l9 a ha), _, zd, by omega⟩
theorem lm_ce (o : Nat) (h : hp_H) (S : lm_S) (j : Nat) (h1 : 0 < j) (h2 : j ≤ 20) : (lm_w o h S).1 (o + j) = some (.inr (true, .int, lm_len j, .inl (S.2 j))) := by
  show (if o + j = o then some (Sum.inl (8, lm_fl o S.1)) else if o < o + j ∧ o + j ≤ o + 20 then some (Sum.inr (true, FieldType.int, lm_len (o + j - o), Sum.inl (S.2 (o + j - o)))) else h.1 (o + j)) = _
  rw [if_neg (by omega), if_pos (by omega), Nat.add_sub_cancel_left]
def S00 : lm_S := (fun _ => 0, fun _ _ => 0)
theorem MI.is {o : Nat} {h : hp_H} (q : MI o h) : h = lm_w o h S00 := by
  obtain ⟨q0, q1, q2, q3, q4, q5, q6, q7, q8, q9, q10, q11, q12, q13, q14, q15, q16, q17, q18, q19, q20⟩ := q
  refine lm_is (fun a h1 h2 => ?_)
  by_cases e0 : a = o
  · rw [e0, q0]
    show _ = (if o = o then some (Sum.inl (8, lm_fl o S00.1)) else if o < o ∧ o ≤ o + 20 then some (Sum.inr (true, FieldType.int, lm_len (o - o), Sum.inl (S00.2 (o - o)))) else h.1 o)
    rw [if_pos rfl]; rfl
  · obtain ⟨j, rfl⟩ : ∃ j, a = o + j := ⟨a - o, by omega⟩
    rw [lm_ce o h S00 j (by omega) (by omega)]
    rcases (show j = 1 ∨ j = 2 ∨ j = 3 ∨ j = 4 ∨ j = 5 ∨ j = 6 ∨ j = 7 ∨ j = 8 ∨ j = 9 ∨ j = 10 ∨ j = 11 ∨ j = 12 ∨ j = 13 ∨ j = 14 ∨ j = 15 ∨ j = 16 ∨ j = 17 ∨ j = 18 ∨ j = 19 ∨ j = 20 by omega) with e | e | e | e | e | e | e | e | e | e | e | e | e | e | e | e | e | e | e | e <;> subst e
    · exact q1
    · exact q2
    · exact q3
    · exact q4
    · exact q5
    · exact q6
    · exact q7
    · exact q8
    · exact q9
    · exact q10
    · exact q11
    · exact q12
    · exact q13
    · exact q14
    · exact q15
    · exact q16
    · exact q17
    · exact q18
    · exact q19
    · exact q20
theorem DI.cd {G : Nat → Nat} {c Q : Nat} {h : hp_H} (q : DI G c h) (hs : SC G c h) (z : h.2 = (c + 44, Q)) : CD G c Q h [] [] [] (fun _ => 0) (0, false, 0, []) := by
  obtain ⟨q1, ⟨s1, s2, s3, s4, s5⟩, q3, ⟨e1, e2, e3, e4, e5, e6, e7⟩, g1, g2, g3, g4, g5⟩ := q
  have z1 : h.2.1 = c + 44 := by rw [z]
  have z2 : h.2.2 = Q := by rw [z]
  have O : vsO [] := ⟨List.nodup_nil, by decide, fun x hx => by cases hx⟩
  have S : ST G c Q h [] := by
    obtain ⟨w, f, g4'⟩ := hs.2.2.2.2.2.1
    refine ⟨⟨by rw [z1]; exact Nat.le_refl _, by rw [z1]; exact Nat.le_refl _, by rw [z2]; exact Nat.le_refl _⟩, s1, ⟨G 4, 0, 0, w, f, s2, g4', Or.inl ⟨rfl, rfl⟩, Nat.le_refl _, fun i x hx => by cases hx⟩, ⟨_, s3, fun q hq => rfl⟩, s4, s5, hs⟩
  have K1 : KE c h 16 := ⟨false, false, 0, 0, e7, by decide, by decide⟩
  have K2 : KE c h 22 := ⟨false, false, 0, 0, g5, by decide, by decide⟩
  refine ⟨q1, ⟨[], S, O, e1, ⟨by decide, _, _, e2, e3, fun k w hk => by cases hk⟩, ⟨_, e4, fun k hk => ⟨rfl, Nat.le_refl _⟩⟩, ⟨_, e5, fun j ox hj => by cases hj⟩, by decide, ⟨[], e6⟩, K1⟩, ⟨q3, by decide, fun b hb => by cases hb⟩, S, O, g1, by decide, by decide, (fun e => absurd (show (0 : Nat) = 6 from e) (by decide)), ⟨_, g2, fun k n hk => by cases hk⟩, ⟨_, g3⟩, ⟨[], g4⟩, K2⟩
theorem RD_0 : RD S00 [] [] [] (fun _ => 0) (0, false, 0, []) := by
  refine ⟨⟨rfl, by decide, fun i x hx => by cases hx⟩, ⟨rfl, by decide, (fun k hk => by cases hk), (fun b hb => by cases hb)⟩, ⟨rfl, by decide, fun k w hk => by cases hk⟩, fun k hk => ⟨rfl, Nat.le_refl _⟩, ⟨rfl, rfl, rfl, rfl⟩, by decide, by decide, (fun e => absurd (show (0 : Nat) = 6 from e) (by decide)), fun k n hk => by cases hk⟩
/-- the law says 1, and what it makes is bounded -/
theorem law_all (G : Nat → Nat) {c q b N : Nat} {f : Nat → Int32} {h : hp_H} (hs : SC G c h) (z : h.2 = (c, q)) (hb : b < c) (hB : ∃ w, h.1 b = some (.inr (w, .int, N, .inl f))) (hN : N < 2 ^ 31) : ∃ H', m_L_law G b h = some (1, H') ∧ H'.2.1 ≤ c + 6100 ∧ H'.2.2 ≤ q + 6500000 := by
  unfold m_L_law
  rw [nw_e (p := c) (by rw [z])]
  obtain ⟨h1, E, N1, O1, z1⟩ := nwF z 0 4 [.null, .null, .null, .null]
  rw [E]
  obtain ⟨h2, E2, D2, O2, q2, z2, l2⟩ := in_D G N1 z1
  rw [E2, bs, hp_nmE, nw_e (p := c + 23) (by rw [z2])]
  obtain ⟨h3, E, N3, O3, z3⟩ := nwF z2 8 34 [.int 0, .null, .null, .null, .null, .null, .null, .null, .null, .int 0, .int 0, .int 0, .int 0, .int 0, .null, .null, .int 0, .null, .null, .null, .null, .null, .int 0, .null, .null, .null, .int 0, .int 0, .int 0, .int 0, .null, .int 0, .int 0, .null]
  rw [E]
  obtain ⟨h4, E4, M4, O4, z4⟩ := in_M G N3 z3
  rw [E4, bs, hp_nmE, hp_nmE]
  have lo : ∀ a, a < c → h4.1 a = h.1 a := fun a ha => (O4 a (by omega)).trans ((O3 a (by omega)).trans ((O2 a ha).trans (O1 a ha)))
  have D4 := D2.e (h' := h4) (fun a ha => (O4 a (by omega)).trans (O3 a (by omega)))
  have C4 := D4.cd (hs.k lo) (show h4.2 = (c + 44, _) from z4)
  have I : LI G c _ b N f h4 S00 [] [] [] (fun _ => 0) (0, false, 0, []) := ⟨M4.is, C4, RD_0, hb, by obtain ⟨w, hB⟩ := hB; exact ⟨w, (lo b hb).trans hB⟩⟩
  obtain ⟨H', e1, e2, e3⟩ := law_18 hN hp_fu 0 h4 S00 [] [] [] (fun _ => 0) (0, false, 0, []) (by unfold hp_fu; omega) (by omega) I
  exact ⟨H', e1, by omega, by omega⟩
