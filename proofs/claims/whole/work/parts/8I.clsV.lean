/-! THE CLASS: joined -/
/-- what putting all in a row makes: none where one has no string, or they are too long -/
def pa (sep : List Nat) : List (Option vV) → Bool → List Nat → Option (List Nat)
  | [], _, L => some L
  | none :: _, _, _ => none
  | some x :: r, first, L => match strS x with
    | none => none
    | some s => if 64 < ((if first then L else L ++ sep) ++ s).length then none else pa sep r false ((if first then L else L ++ sep) ++ s)
theorem jn_ge {sep : List Nat} : ∀ {xs : List vV} {first : Bool} {L B : List Nat}, jnV sep xs first L = some B → L.length ≤ B.length
  | [], first, L, B, h => by cases h; exact Nat.le_refl _
  | x :: r, first, L, B, h => by
    rw [jnV] at h
    cases e : strS x with
    | none => rw [e] at h; cases h
    | some s =>
      rw [e] at h
      have := jn_ge h
      rw [List.length_append] at this
      cases first with
      | true => rw [if_pos (show true = true from rfl)] at this; omega
      | false => rw [if_neg (show ¬ false = true by decide), List.length_append] at this; omega
theorem pa_jn {sep : List Nat} : ∀ (xs : List vV) (first : Bool) (L : List Nat), L.length ≤ 64 → pa sep (xs.map some) first L = (jnV sep xs first L).bind fun B => if 64 < B.length then none else some B
  | [], first, L, h => by
    rw [List.map_nil, pa, jnV]
    show some L = if 64 < L.length then none else some L
    rw [if_neg (by omega)]
  | x :: r, first, L, h => by
    rw [List.map_cons, pa, jnV]
    cases e : strS x with
    | none => rfl
    | some s =>
      show (if 64 < ((if first then L else L ++ sep) ++ s).length then none else pa sep (r.map some) false ((if first then L else L ++ sep) ++ s)) = (jnV sep r false ((if first then L else L ++ sep) ++ s)).bind fun B => if 64 < B.length then none else some B
      by_cases q : 64 < ((if first then L else L ++ sep) ++ s).length
      · rw [if_pos q]
        cases j : jnV sep r false ((if first then L else L ++ sep) ++ s) with
        | none => rfl
        | some B =>
          have := jn_ge j
          show none = if 64 < B.length then none else some B
          rw [if_pos (by omega)]
      · rw [if_neg q, pa_jn r false _ (by omega)]
theorem pa_none {sep : List Nat} : ∀ {Z : List (Option vV)} {first : Bool} {L : List Nat}, none ∈ Z → pa sep Z first L = none
  | [], first, L, h => by cases h
  | none :: r, first, L, h => rfl
  | some x :: r, first, L, h => by
    rw [pa]
    cases e : strS x with
    | none => rfl
    | some s =>
      show (if 64 < ((if first then L else L ++ sep) ++ s).length then none else pa sep r false ((if first then L else L ++ sep) ++ s)) = none
      by_cases q : 64 < ((if first then L else L ++ sep) ++ s).length
      · rw [if_pos q]
      · rw [if_neg q]
        exact pa_none (by rcases List.mem_cons.mp h with z | z; cases z; exact z)
/-- how long, and whether at all: that does not hang on the order -/
def jl (sep : List Nat) : List vV → Nat
  | [] => 0
  | x :: r => ((strS x).getD []).length + sep.length + jl sep r
theorem jn_ln {sep : List Nat} : ∀ (xs : List vV) (first : Bool) (L : List Nat), (jnV sep xs first L = none ↔ ∃ x ∈ xs, strS x = none) ∧ ∀ B, jnV sep xs first L = some B → xs ≠ [] → B.length + (if first then sep.length else 0) = L.length + jl sep xs
  | [], first, L => ⟨⟨(fun q => by cases q), (fun ⟨x, q, _⟩ => by cases q)⟩, fun B h hn => absurd rfl hn⟩
  | x :: r, first, L => by
    rw [jnV]
    cases e : strS x with
    | none => exact ⟨⟨fun _ => ⟨x, List.mem_cons_self .., e⟩, fun _ => rfl⟩, fun B h => by cases h⟩
    | some s =>
      obtain ⟨i1, i2⟩ := jn_ln (sep := sep) r false ((if first then L else L ++ sep) ++ s)
      refine ⟨⟨fun q => ?_, fun ⟨y, hy, e2⟩ => ?_⟩, fun B hB _ => ?_⟩
      · obtain ⟨y, hy, e2⟩ := i1.mp q
        exact ⟨y, List.mem_cons_of_mem _ hy, e2⟩
      · refine i1.mpr ?_
        rcases List.mem_cons.mp hy with z | z
        · rw [z, e] at e2; cases e2
        · exact ⟨y, z, e2⟩
      · have hB : jnV sep r false ((if first then L else L ++ sep) ++ s) = some B := hB
        rw [jl, e]
        show B.length + (if first then sep.length else 0) = L.length + (s.length + sep.length + jl sep r)
        cases r with
        | nil =>
          rw [jnV] at hB
          cases hB
          rw [jl, List.length_append]
          cases first with
          | true => rw [if_pos (show true = true from rfl), if_pos (show true = true from rfl)]; omega
          | false => rw [if_neg (show ¬ false = true by decide), if_neg (show ¬ false = true by decide), List.length_append]; omega
        | cons y r =>
          have := i2 B hB (by simp)
          rw [if_neg (show ¬ false = true by decide), List.length_append] at this
          cases first with
          | true => rw [if_pos (show true = true from rfl)] at this ⊢; omega
          | false => rw [if_neg (show ¬ false = true by decide), List.length_append] at this; rw [if_neg (show ¬ false = true by decide)]; omega
theorem jl_perm {sep : List Nat} {xs ys : List vV} (p : xs.Perm ys) : jl sep xs = jl sep ys := by
  induction p with
  | nil => rfl
  | cons x _ ih => rw [jl, jl, ih]
  | swap x y l => rw [jl, jl, jl, jl]; omega
  | trans _ _ i1 i2 => exact i1.trans i2
section
variable (G : Nat → Nat) {c q0 : Nat} {vs : List vV} {g : gG}
/-- a row of numbers of values -/
def NA (h : hp_H) (a : Nat) (vs : List vV) (ms : List Nat) : Prop := ∃ f, h.1 a = some (.inr (true, .int, 500, .inl f)) ∧ ∀ k n, ms[k]? = some n → f k = nI n ∧ n ≤ vs.length
theorem cl_putAll_24 (h0 : hp_H) (a : Nat) (ha : a = c + 18 ∨ a = c + 19) (ms : List Nat) (hm : ms.length = g.2.2.2.length) (gap : Nat) (sep : List Nat) (hgo : off c gap) (hsl : sep.length ≤ 64) (hsb : ∀ b ∈ sep, b < 128) : ∀ (n k : Nat) (h : hp_H) (L : List Nat), ms.length - k < n → k ≤ ms.length → GG G c q0 h vs g → chg c [20, 21] h0 h → RR h (c + 20) L → NA h a vs ms → BA h gap sep → L.length ≤ 64 → (∀ b ∈ L, b < 128) → ∃ h' L', m_G_putAll_24 G n (c + 17) a gap (nI k) h = some (bI (pa sep ((ms.drop k).map (gv vs)) (k == 0) L).isSome, h') ∧ GG G c q0 h' vs g ∧ chg c [20, 21] h0 h' ∧ RR h' (c + 20) L' ∧ ∀ B, pa sep ((ms.drop k).map (gv vs)) (k == 0) L = some B → L' = B ∧ B.length ≤ 64 ∧ ∀ b ∈ B, b < 128
  | 0, k, h, L, hn, _, _, _, _, _, _, _, _ => by omega
  | n + 1, k, h, L, hn, hk, X, C, R, N, BG, hL, hLb => by
    have h5 := X.2.2.2.2.1
    have hl := X.2.1.2.1
    have hs := X.1.2.2.2.2.2.2
    obtain ⟨f, f1, f2⟩ := id N
    rw [m_G_putAll_24, X.g8, bs, ← hm]
    simp only [nI_leI (show ms.length < 2 ^ 31 by omega) (show k < 2 ^ 31 by omega)]
    by_cases e : ms.length ≤ k
    · rw [if_pos e, List.drop_eq_nil_of_le e, List.map_nil, pa]
      exact ⟨h, L, rfl, X, C, R, fun B hB => by cases hB; exact ⟨rfl, hL, hLb⟩⟩
    · obtain ⟨m, hmk⟩ : ∃ m, ms[k]? = some m := ⟨_, List.getElem?_eq_getElem (by omega)⟩
      have hdr : ms.drop k = m :: ms.drop (k + 1) := by
        obtain ⟨hk2, e⟩ := List.getElem?_eq_some_iff.mp hmk
        rw [List.drop_eq_getElem_cons hk2, e]
      obtain ⟨fk, ml⟩ := f2 k m hmk
      rw [if_neg e, len_e f1, bs, if_neg (show ¬ nI 500 ≤ nI k from nI_ge (a := k) (b := 500) (by omega) (by decide)), hdr, List.map_cons]
      have aoff : ∀ j ∈ [20, 21], a ≠ c + j := fun j hj => by simp at hj; omega
      have keepN : ∀ {h2 h3 : hp_H}, chg c [20, 21] h2 h3 → NA h2 a vs ms → NA h3 a vs ms := fun C2 N2 => by
        obtain ⟨f', g1, g2⟩ := N2
        exact ⟨f', by rw [C2.2 a aoff]; exact g1, g2⟩
      have hK : ∀ j ∈ [20, 21], j < 44 := by simp
      -- with the string of what lies at k
      have go : ∀ (h1 : hp_H) (L1 : List Nat), GG G c q0 h1 vs g → chg c [20, 21] h0 h1 → RR h1 (c + 20) L1 → NA h1 a vs ms → BA h1 gap sep → (∀ b ∈ L1, b < 128) → ∃ h' L', m_G_putAll_53 G (m_G_putAll_24 G n) (c + 17) a gap (nI k) h1 = some (bI (match gv vs m with
          | none => none
          | some x => match strS x with
            | none => none
            | some s => if 64 < (L1 ++ s).length then none else pa sep ((ms.drop (k + 1)).map (gv vs)) false (L1 ++ s)).isSome, h') ∧ GG G c q0 h' vs g ∧ chg c [20, 21] h0 h' ∧ RR h' (c + 20) L' ∧ ∀ B, (match gv vs m with
          | none => none
          | some x => match strS x with
            | none => none
            | some s => if 64 < (L1 ++ s).length then none else pa sep ((ms.drop (k + 1)).map (gv vs)) false (L1 ++ s)) = some B → L' = B ∧ B.length ≤ 64 ∧ ∀ b ∈ B, b < 128 := fun h1 L1 X1 C1 R1 N1 B1 hb1 => by
        obtain ⟨f', g1, g2⟩ := id N1
        obtain ⟨p, p1, p2⟩ := X1.v G ml
        unfold m_G_putAll_53 m_G_putAll_83
        rw [X1.g3, bs, X1.g0, bs, aI_e g1 (show k < 500 by omega) (by decide), bs, (g2 k m hmk).1, X1.sk, p1, bs, vck_e R1.1]
        cases hv : gv vs m with
        | none =>
          rw [hv] at p2
          rw [cl_string_no G (k := 20) p2 (Or.inl rfl) rfl, bs, if_pos (show (0 : Int32) = 0 from rfl)]
          exact ⟨h1, L1, rfl, X1, C1, R1, fun B q => by cases q⟩
        | some x =>
          rw [hv] at p2
          have p2 : VP c h1 p x := p2
          obtain ⟨ox, lx, wx, -⟩ := gv_O G X1 hv
          obtain ⟨h2, s1, s2, s3⟩ := cl_string G (k := 20) p2 ox lx (by decide) (by decide) X1.1.2.2.2.2.2.2 R1
          have X2 := X1.r G s3 s2
          rw [s1, bs]
          dsimp only
          cases hst : strS x with
          | none =>
            rw [if_pos (show bI (none : Option (List Nat)).isSome = 0 from rfl)]
            exact ⟨h2, _, rfl, X2, C1.tr s3, s2, fun B q => by cases (show (none : Option (List Nat)) = some B from q)⟩
          | some s =>
            rw [hst] at s2
            have s2 : RR h2 (c + 20) (L1 ++ s) := s2
            rw [if_neg (show ¬ bI (some s).isSome = 0 from (by decide : ¬ bI true = 0)), X2.g3, bs, gI_e (k := 2) s2.1 rfl, bs]
            dsimp only
            by_cases q : 64 < (L1 ++ s).length
            · rw [decide_eq_true q, if_neg (show ¬ bI true = 0 by decide), if_pos q]
              exact ⟨h2, _, rfl, X2, C1.tr s3, s2, fun B q => by cases q⟩
            · rw [decide_eq_false q, if_pos (show bI false = 0 from rfl), if_neg q, hp_nmE, nI_1]
              have key := cl_putAll_24 h0 a ha ms hm gap sep hgo hsl hsb n (k + 1) h2 (L1 ++ s) (by omega) (by omega) X2 (C1.tr s3) s2 (keepN s3 N1) (B1.c s3 hK hgo) (by omega) (fun b hb => by
                rcases List.mem_append.mp hb with z | z
                · exact hb1 b z
                · exact (strS_b' ox hst b z).2)
              rw [show (k + 1 == 0) = false from rfl] at key
              exact key
      have paE : ∀ first : Bool, pa sep (gv vs m :: (ms.drop (k + 1)).map (gv vs)) first L = match gv vs m with
          | none => none
          | some x => match strS x with
            | none => none
            | some s => if 64 < ((if first then L else L ++ sep) ++ s).length then none else pa sep ((ms.drop (k + 1)).map (gv vs)) false ((if first then L else L ++ sep) ++ s) := fun first => by
        cases gv vs m with
        | none => rfl
        | some x => rfl
      rw [paE]
      by_cases k0 : k = 0
      · subst k0
        rw [if_pos (show nI 0 ≤ 0 by decide)]
        exact go h L X C R N BG hLb
      · obtain ⟨h1, s1, s2, s3⟩ := cl_putAll G (k := 20) hgo (by decide) hsb (by omega) R BG
        rw [if_neg (nI_nle (by omega) (by omega)), X.g3, bs, BG.l, bs, vck_e R.1, s1, bs, beq_false_of_ne k0]
        exact go h1 (L ++ sep) (X.r G s3 s2) (C.tr s3) s2 (keepN s3 N) (BG.c s3 hK hgo) (fun b hb => by
          rcases List.mem_append.mp hb with z | z
          · exact hLb b z
          · exact hsb b z)
theorem cl_putAllG {h : hp_H} (X : GG G c q0 h vs g) (a : Nat) (ha : a = c + 18 ∨ a = c + 19) (ms : List Nat) (hm : ms.length = g.2.2.2.length) (N : NA h a vs ms) : ∃ h' L', m_G_putAll G (c + 17) a h = some (bI (pa (sepV vs g.2.2.1) (ms.map (gv vs)) true []).isSome, h') ∧ GG G c q0 h' vs g ∧ chg c [20, 21] h h' ∧ RR h' (c + 20) L' ∧ ∀ B, pa (sepV vs g.2.2.1) (ms.map (gv vs)) true [] = some B → L' = B ∧ B.length ≤ 64 ∧ ∀ b ∈ B, b < 128 := by
  have h5 := X.2.2.2.2.1
  obtain ⟨p, p1, p2⟩ := cl_at G X.1 X.2.1.2.1 g.2.2.1
  obtain ⟨gap, b1, b2, b3⟩ := p2.g4
  obtain ⟨L, R⟩ := X.2.2.2.2.2.2.2.2.1
  obtain ⟨h1, e1, e2, e3⟩ := cl_clear G R
  have X1 := X.r G e3 e2
  have sp : ((vAt vs g.2.2.1).getD vD).2.2.2.2 = sepV vs g.2.2.1 := by
    unfold sepV
    cases vAt vs g.2.2.1 with
    | none => rfl
    | some x => rfl
  have sw : (sepV vs g.2.2.1).length ≤ 64 ∧ ∀ b ∈ sepV vs g.2.2.1, b < 128 := by
    unfold sepV
    cases z : vAt vs g.2.2.1 with
    | none => exact ⟨by show 0 ≤ 64; decide, fun b hb => by cases hb⟩
    | some x =>
      obtain ⟨i, -, hx⟩ := vAt_some z
      have q := X.2.1.2.2 x (List.mem_of_getElem? hx)
      exact ⟨q.2, fun b hb => (q.1.W q.2).2.2.2.2.2 b hb⟩
  rw [sp] at b2
  have aoff : ∀ j ∈ [20, 21], a ≠ c + j := fun j hj => by simp at hj; omega
  unfold m_G_putAll
  rw [X.g0, bs, X.g7, bs, X.sk, p1, bs, b1, bs, hp_nmE, X.g3, bs, vck_e R.1, e1, bs, hp_nmE]
  have key := cl_putAll_24 G (vs := vs) (g := g) (q0 := q0) h a ha ms hm gap (sepV vs g.2.2.1) b3 sw.1 sw.2 hp_fu 0 h1 [] (by unfold hp_fu; omega) (by omega) X1 e3 e2 (by obtain ⟨f, f1, f2⟩ := N; exact ⟨f, by rw [e3.2 a aoff]; exact f1, f2⟩) (b2.c e3 (by simp) b3) (by decide) (fun b hb => by cases hb)
  rw [List.drop_zero] at key
  exact key
theorem ins_place {v : vV} (hv : vO v) : ∀ (s : List vV) (p : Nat), (∀ y ∈ s, vO y) → s.Pairwise leV → p ≤ s.length → (∀ j y, p ≤ j → s[j]? = some y → ordV y v = 1) → (∀ y, 0 < p → s[p - 1]? = some y → ordV y v ≠ 1) → insV v s = s.take p ++ v :: s.drop p
  | [], p, _, _, hp, _, _ => by
    have : p = 0 := by simpa using hp
    subst this
    rfl
  | y :: r, 0, _, _, _, h1, _ => by
    rw [insV, if_pos (h1 0 y (Nat.le_refl _) rfl)]; rfl
  | y :: r, p + 1, ho, hs, hp, h1, h2 => by
    obtain ⟨s1, s2⟩ := List.pairwise_cons.mp hs
    have oy := ho y (List.mem_cons_self ..)
    have ny : ordV y v ≠ 1 := by
      cases p with
      | zero => exact h2 y (by omega) rfl
      | succ p =>
        have pl : p < r.length := by simp at hp; omega
        have hz : r[p]? = some r[p] := List.getElem?_eq_getElem pl
        have oz := ho r[p] (List.mem_cons_of_mem _ (List.getElem_mem pl))
        have l2 : leV r[p] v := h2 r[p] (by omega) (by show (y :: r)[p + 1]? = _; rw [List.getElem?_cons_succ]; exact hz)
        exact le_tr oy oz hv (s1 _ (List.getElem_mem pl)) l2
    rw [insV, if_neg ny, ins_place hv r p (fun z hz => ho z (List.mem_cons_of_mem _ hz)) s2 (by simpa using hp) (fun j z hj hz => h1 (j + 1) z (by omega) (by rw [List.getElem?_cons_succ]; exact hz)) (fun z hp0 hz => h2 z (by omega) (by
      show (y :: r)[p]? = some z
      rw [show p = (p - 1) + 1 by omega, List.getElem?_cons_succ]; exact hz))]
    rfl
end
