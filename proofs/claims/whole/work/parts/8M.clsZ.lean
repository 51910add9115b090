/-! THE CLASS: together -/
section
variable (G : Nat → Nat) {c q0 : Nat} {h h' : hp_H} {vs vs' : List vV} {T : List Nat} {ws : List (Nat × Int32)} {bd : Nat → Nat} {g : gG}
theorem smA_w : ∀ {L : List (Option vV)} {t t' : Int} {w : Bool}, (∀ x, some x ∈ L → vO x) → smA L t w = some (t', true) → w = true ∧ ((∃ q : Int, t = q * 10 ^ 9) → ∃ q : Int, t' = q * 10 ^ 9)
  | [], t, t', w, _, h => by
    rw [smA] at h
    injection h with h
    injection h with h1 h2
    subst h1
    exact ⟨h2, id⟩
  | none :: r, t, t', w, _, h => by cases h
  | some x :: r, t, t', w, ho, h => by
    rw [smA] at h
    by_cases n : nbV x = true
    · rw [if_pos n] at h
      by_cases f : fit (t + am9 x) = true
      · rw [if_pos f] at h
        obtain ⟨i1, i2⟩ := smA_w (fun y hy => ho y (List.mem_cons_of_mem _ hy)) h
        have w1 : w = true := by cases w; cases i1; rfl
        have x3 : x.1 = 3 := nb_w (by rw [w1, Bool.true_and] at i1; exact i1)
        refine ⟨w1, fun ⟨q, hq⟩ => i2 ⟨q + x.2.2.1, ?_⟩⟩
        rw [hq, am9_w (ho x (List.mem_cons_self ..)) x3, Int.add_mul]
      · rw [if_neg f] at h; cases h
    · rw [if_neg n] at h; cases h
theorem jn_b {sep : List Nat} (hs : ∀ b ∈ sep, 0 < b ∧ b < 128) : ∀ {xs : List vV} {first : Bool} {L B : List Nat}, (∀ x ∈ xs, vO x) → (∀ b ∈ L, 0 < b ∧ b < 128) → jnV sep xs first L = some B → ∀ b ∈ B, 0 < b ∧ b < 128
  | [], first, L, B, _, hL, h => by cases h; exact hL
  | x :: r, first, L, B, ho, hL, h => by
    rw [jnV] at h
    cases e : strS x with
    | none => rw [e] at h; cases h
    | some s =>
      rw [e] at h
      refine jn_b hs (fun y hy => ho y (List.mem_cons_of_mem _ hy)) (fun b hb => ?_) h
      rcases List.mem_append.mp hb with q | q
      · cases first with
        | true => exact hL b q
        | false =>
          rcases List.mem_append.mp q with z | z
          · exact hL b z
          · exact hs b z
      · exact strS_b' (ho x (List.mem_cons_self ..)) e b q
theorem tog_O (O : vsO vs) : vsO (togV vs g).2 ∧ ∃ l, (togV vs g).2 = vs ++ l := by
  have gO : ∀ x, some x ∈ g.2.2.2.map (gv vs) → vO x := fun x hx => by
    obtain ⟨n, -, e⟩ := List.mem_map.mp hx
    cases n with
    | zero => cases e
    | succ n => exact (O.2.2 x (List.mem_of_getElem? (show vs[n]? = some x from e))).1
  have same : vsO vs ∧ ∃ l, vs = vs ++ l := ⟨O, [], (List.append_nil _).symm⟩
  unfold togV
  by_cases c0 : g.1 = 0
  · rw [if_pos c0]; exact kq_O O (fun x hx => vO_nmI hx (fun _ => ⟨_, rfl⟩))
  · rw [if_neg c0]
    by_cases c1 : g.1 = 1
    · rw [if_pos c1]
      refine kq_O O (fun x hx => ?_)
      unfold smV1 at hx
      cases hs : smA (g.2.2.2.map (gv vs)) 0 true with
      | none => rw [hs] at hx; cases hx
      | some p =>
        obtain ⟨t, w⟩ := p
        rw [hs] at hx
        refine vO_nmI hx (fun hw => ?_)
        rw [hw] at hs
        exact (smA_w gO hs).2 ⟨0, by rw [Int.zero_mul]⟩
    · rw [if_neg c1]
      by_cases c3 : g.1 = 3
      · rw [if_pos c3]; exact same
      · rw [if_neg c3]
        by_cases c4 : g.1 = 4
        · rw [if_pos c4]
          refine kq_O O (fun x hx => ?_)
          unfold avV at hx
          cases hs : smA (g.2.2.2.map (gv vs)) 0 true with
          | none => rw [hs] at hx; cases hx
          | some p =>
            obtain ⟨t, w⟩ := p
            rw [hs] at hx
            have hx : (if g.2.2.2.length = 0 then nmI 0 true else nmI (av9 t g.2.2.2.length) false) = some x := hx
            by_cases l : g.2.2.2.length = 0
            · rw [if_pos l] at hx; exact vO_nmI hx (fun _ => ⟨0, by rw [Int.zero_mul]⟩)
            · rw [if_neg l] at hx; exact vO_nmI hx (fun q => by cases q)
        · rw [if_neg c4]
          by_cases c6 : g.1 = 6
          · rw [if_pos c6]
            refine kq_O O (fun x hx => ?_)
            unfold rowV at hx
            cases ha : allS (g.2.2.2.map (gv vs)) with
            | none => rw [ha] at hx; cases hx
            | some xs =>
              rw [ha] at hx
              have hx : (jnV (sepV vs g.2.2.1) (srtV xs []) true []).map (fun B => ((5, 0, 0, 0, B) : vV)) = some x := hx
              cases hj : jnV (sepV vs g.2.2.1) (srtV xs []) true [] with
              | none => rw [hj] at hx; cases hx
              | some B =>
                rw [hj] at hx
                cases hx
                have pm := srt_perm xs []
                rw [List.append_nil] at pm
                refine vO_text (jn_b ?_ (fun y hy => gO y (by rw [allS_some ha]; exact List.mem_map_of_mem (pm.mem_iff.mp hy))) (fun b hb => by cases hb) hj)
                unfold sepV
                cases z : vAt vs g.2.2.1 with
                | none => exact fun b hb => by cases hb
                | some t =>
                  obtain ⟨i, -, ht⟩ := vAt_some z
                  exact (O.2.2 t (List.mem_of_getElem? ht)).1.2.2.2.2.2.2.2.2.2
          · rw [if_neg c6]; exact same
theorem cd_together (D : CD G c q0 h vs T ws bd g) : DR G c q0 h (m_D_together G c h) (togV vs g).1 (togV vs g).2 T ws bd g := by
  obtain ⟨d1, ⟨st, d2⟩, ⟨d3, d4, d5⟩, d6⟩ := id D
  obtain ⟨h', e1, e2, e3, e4, e5, e6⟩ := cl_answer G d6
  obtain ⟨o1, o2⟩ := tog_O (g := g) D.O
  unfold m_D_together
  rw [D.g3, bs, D.gk, bq]
  refine ⟨h', e1, ⟨fr.d e3 (by simp) d1, ⟨st, fr.x G e3 (by simp) d2 e2 o1 o2⟩, ⟨d3.f e3 (by decide) (by simp) (by simp), d4, d5⟩, ?_⟩, e3.r (by simp)⟩
  obtain ⟨x1, x2, x3, x4, x5, x6, ⟨f, x7, x8⟩, -⟩ := d6
  obtain ⟨l, hl⟩ := o2
  refine ⟨e2, o1, by rw [e3.at 17 (by decide) (by simp)]; exact x3, x4, x5, fun e => ?_, ⟨f, by rw [e3.at 18 (by decide) (by simp)]; exact x7, fun k n hk => ⟨(x8 k n hk).1, by have := (x8 k n hk).2; rw [hl, List.length_append]; omega⟩⟩, e4, e5, e6⟩
  obtain ⟨t, t1, t2⟩ := x6 e
  exact ⟨t, by rw [hl]; exact vAt_app t1 l, t2⟩
end
