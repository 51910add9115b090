/-! row: the values in order, as strings, with what is between them -/
theorem srt_of : ∀ (s : List vV) (y : vV) (r : Nat), (∀ z ∈ s, vO z) → s.Pairwise leV → s[r]? = some y → s.countP (fun z => ltB z y) ≤ r ∧ r < s.countP (fun z => ltB z y) + s.count y
  | [], y, r, _, _, h => by simp at h
  | z :: s, y, r, hz, hs, h => by
    have hz0 := hz z (List.mem_cons_self ..)
    obtain ⟨p1, p2⟩ := List.pairwise_cons.mp hs
    rw [List.countP_cons, List.count_cons]
    have l0 : ltB z z = false := by unfold ltB; rw [ord_rf hz0]; rfl
    cases r with
    | zero =>
      rw [List.getElem?_cons_zero] at h
      cases h
      have all0 : s.countP (fun w => ltB w z) = 0 := by
        rw [List.countP_eq_zero]
        intro w hw q
        have hw0 := hz w (List.mem_cons_of_mem _ hw)
        have hwy : ordV w z = -1 := by unfold ltB at q; simpa using q
        have := p1 w hw
        rcases ord_an hw0 hz0 with ⟨a, b⟩ | ⟨a, b⟩ | ⟨a, b⟩
        · exact this b
        · rw [a] at hwy; exact absurd hwy (by decide)
        · rw [a] at hwy; exact absurd hwy (by decide)
      rw [all0, l0, beq_self_eq_true, if_pos (show true = true from rfl), if_neg (show ¬ false = true by decide)]
      omega
    | succ q =>
      rw [List.getElem?_cons_succ] at h
      obtain ⟨i1, i2⟩ := srt_of s y q (fun w hw => hz w (List.mem_cons_of_mem _ hw)) p2 h
      have hy := hz y (List.mem_cons_of_mem _ (List.mem_of_getElem? h))
      rcases le_cases hz0 hy (p1 y (List.mem_of_getElem? h)) with e | e
      · have c : ltB z y = true := by unfold ltB; rw [e]; rfl
        rw [c, if_pos (show true = true from rfl)]
        generalize (if (z == y) = true then 1 else 0) = u
        omega
      · subst e
        rw [l0, beq_self_eq_true, if_pos (show true = true from rfl), if_neg (show ¬ false = true by decide)]
        omega
def rkC (xs : List vV) (i : Nat) (y : vV) : Nat := xs.countP (fun z => ltB z y) + (xs.take i).count y
def cR (xs : List vV) (i : Nat) (y : vV) (k : Nat) : Nat := (xs.take k).countP (fun z => ltB z y) + (xs.take (min k i)).count y
theorem cR_s {xs : List vV} {i k : Nat} {x y : vV} (h : xs[k]? = some x) (hx : vO x) (hy : vO y) : cR xs i y (k + 1) = cR xs i y k + if ordV x y < 0 then 1 else if ordV x y = 0 then (if i ≤ k then 0 else 1) else 0 := by
  have t1 : xs.take (k + 1) = xs.take k ++ [x] := by rw [List.take_succ, h]; rfl
  unfold cR
  rw [t1, List.countP_append, List.countP_cons, List.countP_nil]
  have e1 : (xs.take (min (k + 1) i)).count y = (xs.take (min k i)).count y + if i ≤ k then 0 else if x = y then 1 else 0 := by
    by_cases c : i ≤ k
    · rw [if_pos c, Nat.min_eq_right c, Nat.min_eq_right (by omega), Nat.add_zero]
    · rw [if_neg c, Nat.min_eq_left (by omega), Nat.min_eq_left (by omega), t1, List.count_append, List.count_cons, List.count_nil]
      by_cases d : x = y
      · rw [if_pos d, d, beq_self_eq_true, if_pos (show true = true from rfl)]
      · rw [if_neg d, beq_false_of_ne d, if_neg (show ¬ false = true by decide)]
  rw [e1]
  rcases ord_an hx hy with ⟨a, -⟩ | ⟨a, -⟩ | ⟨a, -⟩
  · have l : ltB x y = true := by unfold ltB; rw [a]; rfl
    have ne : x ≠ y := fun q => by rw [q, ord_rf hy] at a; exact absurd a (by decide)
    rw [l, a, if_pos (show true = true from rfl), if_neg ne, if_pos (show (-1 : Int32) < 0 by decide)]
    split <;> omega
  · have l : ltB x y = false := by unfold ltB; rw [a]; rfl
    rw [l, a, ord_0 hx hy a, if_neg (show ¬ false = true by decide), if_pos (show y = y from rfl), if_neg (show ¬ (0 : Int32) < 0 by decide), if_pos (show (0 : Int32) = 0 from rfl)]
    omega
  · have l : ltB x y = false := by unfold ltB; rw [a]; rfl
    have ne : x ≠ y := fun q => by rw [q, ord_rf hy] at a; exact absurd a (by decide)
    rw [l, a, if_neg (show ¬ false = true by decide), if_neg ne, if_neg (show ¬ (1 : Int32) < 0 by decide), if_neg (show ¬ (1 : Int32) = 0 by decide)]
    split <;> omega
theorem cR_e {xs : List vV} {i : Nat} (y : vV) (h : i ≤ xs.length) : cR xs i y xs.length = rkC xs i y := by
  unfold cR rkC
  rw [Nat.min_eq_right h, List.take_of_length_le (Nat.le_refl _)]
theorem cR_le (xs : List vV) (i : Nat) (y : vV) (k : Nat) : cR xs i y k ≤ 2 * k := by
  unfold cR
  have h1 : (xs.take k).countP (fun z => ltB z y) ≤ (xs.take k).length := List.countP_le_length
  have h2 : (xs.take (min k i)).count y ≤ (xs.take (min k i)).length := List.count_le_length
  rw [List.length_take] at h1 h2
  omega
theorem ct_lt {xs : List vV} {i : Nat} {y : vV} (h : xs[i]? = some y) : (xs.take i).count y < xs.count y := by
  have e : xs = xs.take i ++ y :: xs.drop (i + 1) := by
    obtain ⟨l, e⟩ := List.getElem?_eq_some_iff.mp h
    rw [← e, ← List.drop_eq_getElem_cons l, List.take_append_drop]
  have : xs.count y = (xs.take i).count y + ((xs.drop (i + 1)).count y + 1) := by
    conv => lhs; rw [e]
    rw [List.count_append, List.count_cons_self]
  omega
theorem srt_pc (xs : List vV) (y : vV) : (srtV xs []).countP (fun z => ltB z y) = xs.countP (fun z => ltB z y) ∧ (srtV xs []).count y = xs.count y ∧ (srtV xs []).length = xs.length := by
  have p := srt_perm xs []
  rw [List.append_nil] at p
  exact ⟨p.countP_eq _, p.count_eq _, p.length_eq⟩
theorem srt_O {xs : List vV} (hO : ∀ x ∈ xs, vO x) : (∀ z ∈ srtV xs [], vO z) ∧ (srtV xs []).Pairwise leV := by
  have p := srt_perm xs []
  rw [List.append_nil] at p
  exact ⟨fun z hz => hO z (p.mem_iff.mp hz), srt_srt xs [] hO (fun y h => by cases h) List.Pairwise.nil⟩
theorem rk_at {xs : List vV} (hO : ∀ x ∈ xs, vO x) {i : Nat} {y : vV} (h : xs[i]? = some y) : (srtV xs [])[rkC xs i y]? = some y := by
  obtain ⟨o1, o2⟩ := srt_O hO
  obtain ⟨c1, c2, -⟩ := srt_pc xs y
  have := ct_lt h
  have p := srt_perm xs []
  rw [List.append_nil] at p
  exact srt_at _ y _ o1 o2 (by rw [c1]; unfold rkC; omega) (by rw [c1, c2]; unfold rkC; omega) (p.mem_iff.mpr (List.mem_of_getElem? h))
theorem rk_lt {xs : List vV} (hO : ∀ x ∈ xs, vO x) {i : Nat} {y : vV} (h : xs[i]? = some y) : rkC xs i y < xs.length := by
  have := (List.getElem?_eq_some_iff.mp (rk_at hO h)).1
  rw [(srt_pc xs y).2.2] at this
  exact this
theorem rk_inj {xs : List vV} (hO : ∀ x ∈ xs, vO x) {i j : Nat} {x y : vV} (h : xs[i]? = some x) (h2 : xs[j]? = some y) (hij : i < j) : rkC xs i x ≠ rkC xs j y := by
  intro q
  have e := rk_at hO h
  rw [q, rk_at hO h2] at e
  injection e with e
  subst e
  unfold rkC at q
  have : (xs.take i).count y < (xs.take j).count y := by
    have h3 : (xs.take j)[i]? = some y := by rw [List.getElem?_take, if_pos hij]; exact h
    have := ct_lt h3
    rw [List.take_take, Nat.min_eq_left (by omega)] at this
    exact this
  omega
theorem rk_on {xs : List vV} (hO : ∀ x ∈ xs, vO x) {r : Nat} {y : vV} (h : (srtV xs [])[r]? = some y) : ∃ i, xs[i]? = some y ∧ rkC xs i y = r := by
  obtain ⟨o1, o2⟩ := srt_O hO
  obtain ⟨c1, c2, -⟩ := srt_pc xs y
  obtain ⟨a, b⟩ := srt_of _ y r o1 o2 h
  rw [c1] at a b
  rw [c2] at b
  obtain ⟨k, k1, k2⟩ := occ (y := y) xs (r - xs.countP (fun z => ltB z y)) (by omega)
  exact ⟨k, k1, by unfold rkC; omega⟩
/-- strings in a row -/
def jnV (sep : List Nat) : List vV → Bool → List Nat → Option (List Nat)
  | [], _, L => some L
  | x :: r, first, L => match strS x with
    | none => none
    | some s => jnV sep r false ((if first then L else L ++ sep) ++ s)
def allS : List (Option vV) → Option (List vV)
  | [] => some []
  | none :: _ => none
  | some x :: r => match allS r with
    | none => none
    | some l => some (x :: l)
def rowV (sep : List Nat) (L : List (Option vV)) : Option vV := match allS L with
  | none => none
  | some xs => (jnV sep (srtV xs []) true []).map fun B => (5, 0, 0, 0, B)
theorem allS_some : ∀ {L : List (Option vV)} {xs : List vV}, allS L = some xs → L = xs.map some
  | [], xs, h => by cases h; rfl
  | none :: r, xs, h => by cases h
  | some x :: r, xs, h => by
    rw [allS] at h
    cases e : allS r with
    | none => rw [e] at h; cases h
    | some l => rw [e] at h; cases h; rw [allS_some e]; rfl
def wS (S S' : lm_S) : Prop := S'.1 = S.1 ∧ ∀ j, j ≠ 11 → j ≠ 12 → j ≠ 20 → S'.2 j = S.2 j
theorem wS.f {S S' : lm_S} (q : wS S S') : fS S S' := by
  obtain ⟨q1, q2⟩ := q
  exact ⟨⟨by rw [q1], by rw [q1], by rw [q1], by rw [q1], by rw [q1], by rw [q1]⟩, q2 8 (by omega) (by omega) (by omega), q2 14 (by omega) (by omega) (by omega), q2 15 (by omega) (by omega) (by omega), q2 16 (by omega) (by omega) (by omega), q2 17 (by omega) (by omega) (by omega), q2 18 (by omega) (by omega) (by omega)⟩
theorem wS.A {S S' : lm_S} {vs : List vV} (q : wS S S') (h : rm_A S vs) : rm_A S' vs := h.keep (by rw [q.1]) (fun j _ h7 => q.2 j (by omega) (by omega) (by omega))
theorem wS.rf {S : lm_S} : wS S S := ⟨rfl, fun _ _ _ _ => rfl⟩
theorem wS.tr {S S' S'' : lm_S} (h1 : wS S S') (h2 : wS S' S'') : wS S S'' := ⟨h2.1.trans h1.1, fun j a b c => (h2.2 j a b c).trans (h1.2 j a b c)⟩
theorem rm_G.s {S S' : lm_S} {vs : List vV} {g : gG} (h : rm_G S vs g) (q : fS S S') : rm_G S' vs g := by
  have := h.f q.r []
  rw [List.append_nil] at this
  exact this
theorem rm_row_42 (G : Nat → Nat) (o : Nat) (h : hp_H) (S0 : lm_S) (vs : List vV) (g : gG) (xs : List vV) (hxs : g.2.2.2.map (gv vs) = xs.map some) (hO : ∀ x ∈ vs, vO x) (hd : vs.Nodup) (r30 : Nat → Int32 → hp_H → Option (Int32 × hp_H)) (i m : Nat) (y : vV) (hi : g.2.2.2[i]? = some m) (hy : xs[i]? = some y) (hr : rkC xs i y < 500) : ∀ (n k : Nat) (S : lm_S), k ≤ xs.length → xs.length - k < n → rm_A S vs → rm_G S vs g → xS S0 S → ∃ S', m_M_row_42 G r30 n o (nI i) (nI (cR xs i y k)) (nI k) (lm_w o h S) = r30 o (nI (i + 1)) (lm_w o h (S'.1, lm_up S'.2 20 (upd (S'.2 20) (rkC xs i y) (nI m)))) ∧ xS S0 S'
  | 0, k, S, _, hn, _, _, _ => by omega
  | n + 1, k, S, hk, hn, hA, hg, hS => by
    obtain ⟨⟨h1, -, -, -⟩, -, h6, -, h8⟩ := id hg
    have hl := hA.2.1
    have len : g.2.2.2.length = xs.length := by
      have := congrArg List.length hxs
      rw [List.length_map, List.length_map] at this
      exact this
    have at_ : ∀ j m : Nat, g.2.2.2[j]? = some m → ∃ x, xs[j]? = some x ∧ gv vs m = some x := fun j m hj => by
      have e := congrArg (fun l => l[j]?) hxs
      simp only [List.getElem?_map, hj, Option.map_some] at e
      cases ex : xs[j]? with
      | none => rw [ex] at e; cases e
      | some x => rw [ex] at e; exact ⟨x, rfl, Option.some.inj e⟩
    have ilt := (List.getElem?_eq_some_iff.mp hi).1
    rw [m_M_row_42]
    simp only [lm_g26, h1, bs, nI_leI (show g.2.2.2.length < 2 ^ 31 by omega) (show k < 2 ^ 31 by omega)]
    by_cases c : g.2.2.2.length ≤ k
    · rw [if_pos c]
      have l18 := lm_a18 o h S i (by omega)
      rw [(h8 i m hi).1] at l18
      have ek : k = xs.length := by omega
      rw [ek, cR_e y (by omega)]
      have s20 := lm_s20 o h S (rkC xs i y) (nI m) (by omega)
      simp only [lm_g33, lm_g25, l18, bs, s20, hp_nmE, nI_1]
      exact ⟨S, rfl, hS⟩
    · rw [if_neg c]
      obtain ⟨mk, hmk⟩ : ∃ m, g.2.2.2[k]? = some m := ⟨_, List.getElem?_eq_getElem (by omega)⟩
      obtain ⟨x, hx, gx⟩ := at_ k mk hmk
      obtain ⟨y', hy', gy⟩ := at_ i m hi
      have : y' = y := by rw [hy] at hy'; exact (Option.some.inj hy').symm
      subst this
      have nx : mk ≠ 0 := fun q => by rw [q] at gx; cases gx
      have ny : m ≠ 0 := fun q => by rw [q] at gy; cases gy
      obtain ⟨ix, x', rfl, hvx, gx'⟩ := gv_n (h8 k mk hmk).2 nx
      obtain ⟨iy, y'', rfl, hvy, gy'⟩ := gv_n (h8 i m hi).2 ny
      have ex : x' = x := by rw [gx'] at gx; exact Option.some.inj gx
      have ey : y'' = y' := by rw [gy'] at gy; exact Option.some.inj gy
      subst ex
      subst ey
      have l18 := lm_a18 o h S i (by omega)
      rw [(h8 i _ hi).1] at l18
      have l18k := lm_a18 o h S k (by omega)
      rw [(h8 k _ hmk).1] at l18k
      obtain ⟨S1, e1, e2⟩ := rm_orderOf G o h S vs ix iy x' y'' hA hvx hvy
      simp only [lm_g25, l18, l18k, bs, lm_vck, e1, hp_nmE]
      have ox := hO x' (List.mem_of_getElem? hvx)
      have oy := hO y'' (List.mem_of_getElem? hvy)
      have st := cR_s (i := i) hx ox oy
      have cl := cR_le xs i y'' k
      have IH := rm_row_42 G o h S0 vs g xs hxs hO hd r30 i (iy + 1) y'' hi hy hr n (k + 1) S1 (by omega) (by omega) (e2.A hA) (hg.s e2.f) (hS.tr e2)
      rw [st] at IH
      by_cases c1 : ordV x' y'' < 0
      · rw [if_pos c1, m_M_row_84, m_M_row_89]
        rw [if_pos c1] at IH
        simp only [hp_nmE, nI_1]
        exact IH
      · rw [if_neg c1]
        rw [if_neg c1] at IH
        by_cases c2 : ordV x' y'' = 0
        · rw [if_pos c2]
          rw [if_pos c2] at IH
          simp only [nI_leI (show i < 2 ^ 31 by omega) (show k < 2 ^ 31 by omega)]
          by_cases c3 : i ≤ k
          · rw [if_pos c3, m_M_row_88, m_M_row_89]
            rw [if_pos c3, Nat.add_zero] at IH
            simp only [hp_nmE, nI_1, Int32.add_zero]
            exact IH
          · rw [if_neg c3, m_M_row_84, m_M_row_89]
            rw [if_neg c3] at IH
            simp only [hp_nmE, nI_1]
            exact IH
        · rw [if_neg c2, m_M_row_88, m_M_row_89]
          rw [if_neg c2, Nat.add_zero] at IH
          simp only [hp_nmE, nI_1, Int32.add_zero]
          exact IH
theorem jn_len {sep : List Nat} : True := trivial
theorem rm_row_125_0 (G : Nat → Nat) (o : Nat) (h : hp_H) (S : lm_S) (n : Nat) (k : Int32) : m_M_row_125 G (n + 1) o 0 k (lm_w o h S) = some (-4, lm_w o h S) := by
  rw [m_M_row_125, lm_g26, bs]
  unfold m_M_row_176 m_M_row_189
  by_cases e : S.1 26 ≤ k
  · rw [if_pos e, if_pos (show (0 : Int32) = 0 from rfl)]
  · rw [if_neg e, if_pos (show (0 : Int32) = 0 from rfl), if_pos (show (0 : Int32) = 0 from rfl)]
theorem rm_row_125 (G : Nat → Nat) (o : Nat) (h : hp_H) (hG : SM G o h) (S0 : lm_S) (vs : List vV) (g : gG) (ss : List vV) (tb : vV) (hl : g.2.2.2.length = ss.length) (hvO : ∀ x ∈ vs, vO x ∧ x.2.2.2.2.length ≤ 64) (hb : vAt vs g.2.2.1 = some tb) : ∀ (n k : Nat) (S : lm_S) (L : List Nat), k ≤ ss.length → ss.length - k < n → rm_A S vs → rm_G S vs g → fS S0 S → (∀ r x, ss[r]? = some x → ∃ m, S.2 20 r = nI (m + 1) ∧ vs[m]? = some x) → rm_C S (5, 0, 0, 0, L) → L.length ≤ 128 * k → (∀ b ∈ L, b < 128) → RK o h S0 vs (m_M_row_125 G n o 1 (nI k) (lm_w o h S)) ((jnV tb.2.2.2.2 (ss.drop k) (k == 0) L).map fun B => (5, 0, 0, 0, B))
  | 0, k, S, L, _, hn, _, _, _, _, _, _, _ => by omega
  | n + 1, k, S, L, hk, hn, hA, hg, hS, h20, hC, hL, hbt => by
    obtain ⟨⟨h1, -, -, h29⟩, -, h6, -, h8⟩ := id hg
    rw [m_M_row_125]
    simp only [lm_g26, h1, bs, nI_leI (show g.2.2.2.length < 2 ^ 31 by omega) (show k < 2 ^ 31 by omega)]
    by_cases c : g.2.2.2.length ≤ k
    · rw [if_pos c, m_M_row_176, if_neg (show ¬ (1 : Int32) = 0 by decide), List.drop_eq_nil_of_le (by omega), jnV]
      simp only [lm_vck, m_M_row_189, bq]
      refine rm_fin G o h S0 S vs (5, 0, 0, 0, L) hS hA hC (by show L.length < 1000000; omega) (fun q => ⟨by show 5 ≤ 8; decide, by show 0 ≤ 9999; decide, by show (0 : Int).natAbs < _; decide, by show 0 ≤ 9; decide, q, hbt⟩)
    · rw [if_neg c, if_neg (show ¬ (1 : Int32) = 0 by decide)]
      obtain ⟨x, hx⟩ : ∃ x, ss[k]? = some x := ⟨_, List.getElem?_eq_getElem (by omega)⟩
      have hdr : ss.drop k = x :: ss.drop (k + 1) := by
        obtain ⟨hk2, e⟩ := List.getElem?_eq_some_iff.mp hx
        rw [List.drop_eq_getElem_cons hk2, e]
      obtain ⟨mx, m1, m2⟩ := h20 k x hx
      have ox := hvO x (List.mem_of_getElem? m2)
      have wx := ox.1.W ox.2
      have lS := strS_len wx
      rw [hdr, jnV]
      have fin : ∀ (S1 : lm_S) (L1 : List Nat), rm_A S1 vs → rm_G S1 vs g → fS S0 S1 → S1.2 20 = S.2 20 → rm_C S1 (5, 0, 0, 0, L1) → L1.length ≤ 128 * k + 64 → (∀ b ∈ L1, b < 128) → RK o h S0 vs (m_M_row_159 G (m_M_row_125 G n) o (nI k) (lm_w o h S1)) ((match strS x with
          | none => none
          | some s => jnV tb.2.2.2.2 (ss.drop (k + 1)) false (L1 ++ s)).map fun B => (5, 0, 0, 0, B)) := fun S1 L1 a1 a2 a3 a4 a5 a6 a7 => by
        have l20 := lm_a20 o h S1 k (by omega)
        rw [a4, m1] at l20
        obtain ⟨S2, e1, e2, e3⟩ := rm_string G o h hG S1 vs mx x L1 a1 m2 (a5.L (by omega)) (by omega)
        rw [m_M_row_159]
        simp only [lm_g33, l20, bs, lm_vck, e1, hp_nmE, nI_1]
        have C2 := a5.to e2 e3
        cases hs : strS x with
        | none =>
          obtain ⟨n', rfl⟩ : ∃ n', n = n' + 1 := ⟨n - 1, by omega⟩
          rw [show bI (none : Option (List Nat)).isSome = 0 from rfl, rm_row_125_0]
          exact ⟨S2, rfl, e2.A a1, a3.tr e2.f⟩
        | some s =>
          rw [hs] at C2 lS
          have key := rm_row_125 G o h hG S0 vs g ss tb hl hvO hb n (k + 1) S2 (L1 ++ s) (by omega) (by omega) (e2.A a1) (a2.s e2.f) (a3.tr e2.f) (fun r z hz => by rw [e2.2 20 (by decide), a4]; exact h20 r z hz) C2 (by
            rw [List.length_append]
            have : s.length ≤ 64 := lS
            omega) (fun b hb => by
            rcases List.mem_append.mp hb with q | q
            · exact a7 b q
            · exact (strS_b' ox.1 hs b q).2)
          rw [show (k + 1 == 0) = false from rfl] at key
          exact key
      by_cases k0 : k = 0
      · subst k0
        rw [if_pos (by decide)]
        exact fin S L hA hg hS rfl hC (by omega) hbt
      · rw [if_neg (nI_nle (by omega) (by omega)), beq_false_of_ne k0, if_neg (show ¬ false = true by decide)]
        obtain ⟨ib, eb, hvb⟩ := vAt_some hb
        obtain ⟨hrb, wb, lib, -⟩ := rm_at hA hvb
        have l6 := lm_a6 o h S (ib + 1) (by omega)
        rw [hrb.2.2.2.2.1] at l6
        have lb := wb.2.2.2.2.1
        obtain ⟨S1, e1, e2, e3⟩ := rm_letterAll G o h S vs ib tb 0 tb.2.2.2.2.length L hA hvb (by omega) (Nat.le_refl _) (hC.L (by omega)) (by omega)
        rw [List.drop_zero, Nat.sub_zero, List.take_of_length_le (Nat.le_refl _)] at e3
        rw [show nI 0 = (0 : Int32) from rfl] at e1
        simp only [lm_g29, h29, eb, lm_g6, l6, bs, lm_vck, e1]
        refine fin S1 (L ++ tb.2.2.2.2) (e2.A hA) (hg.s e2.f) (hS.tr e2.f) (e2.2 20 (by decide)) (hC.to e2 e3) (by rw [List.length_append]; omega) (fun b hb => ?_)
        rcases List.mem_append.mp hb with q | q
        · exact hbt b q
        · exact wb.2.2.2.2.2 b q
theorem rm_row_30 (G : Nat → Nat) (o : Nat) (h : hp_H) (hG : SM G o h) (S0 : lm_S) (vs : List vV) (g : gG) (xs : List vV) (tb : vV) (hxs : g.2.2.2.map (gv vs) = xs.map some) (hV : vsO vs) (hb : vAt vs g.2.2.1 = some tb) : ∀ (n i : Nat) (S : lm_S), i ≤ xs.length → xs.length - i < n → rm_A S vs → rm_G S vs g → wS S0 S → (∀ j y m, j < i → xs[j]? = some y → g.2.2.2[j]? = some m → S.2 20 (rkC xs j y) = nI m) → RK o h S0 vs (m_M_row_30 G n o (nI i) (lm_w o h S)) ((jnV tb.2.2.2.2 (srtV xs []) true []).map fun B => (5, 0, 0, 0, B))
  | 0, i, S, _, hn, _, _, _, _ => by omega
  | n + 1, i, S, hi, hn, hA, hg, hS, h20 => by
    obtain ⟨⟨h1, -, -, -⟩, -, h6, -, h8⟩ := id hg
    have hl := hA.2.1
    have len : g.2.2.2.length = xs.length := by
      have := congrArg List.length hxs
      rw [List.length_map, List.length_map] at this
      exact this
    have at_ : ∀ j m : Nat, g.2.2.2[j]? = some m → ∃ x, xs[j]? = some x ∧ gv vs m = some x := fun j m hj => by
      have e := congrArg (fun l => l[j]?) hxs
      simp only [List.getElem?_map, hj, Option.map_some] at e
      cases ex : xs[j]? with
      | none => rw [ex] at e; cases e
      | some x => rw [ex] at e; exact ⟨x, rfl, Option.some.inj e⟩
    have gvm : ∀ m x, gv vs m = some x → ∃ i, m = i + 1 ∧ vs[i]? = some x := fun m x hm => by
      cases m with
      | zero => cases hm
      | succ m => exact ⟨m, rfl, hm⟩
    have hO : ∀ x ∈ xs, vO x := fun x hx => by
      have : some x ∈ g.2.2.2.map (gv vs) := by rw [hxs]; exact List.mem_map_of_mem hx
      obtain ⟨m, -, e⟩ := List.mem_map.mp this
      obtain ⟨i, -, hv⟩ := gvm m x e
      exact (hV.2.2 x (List.mem_of_getElem? hv)).1
    rw [m_M_row_30]
    simp only [lm_g26, h1, bs, nI_leI (show g.2.2.2.length < 2 ^ 31 by omega) (show i < 2 ^ 31 by omega)]
    by_cases c : g.2.2.2.length ≤ i
    · rw [if_pos c]
      obtain ⟨S1, e1, e2, e3⟩ := rm_start G o h S 5 0
      rw [show nI 5 = (5 : Int32) from rfl, show nI 0 = (0 : Int32) from rfl] at e1
      simp only [lm_vck, e1, bs, hp_nmE]
      have sl := (srt_pc xs (0, 0, 0, 0, [])).2.2
      have key := rm_row_125 G o h hG S0 vs g (srtV xs []) tb (by omega) hV.2.2 hb hp_fu 0 S1 [] (by omega) (by unfold hp_fu; omega) (e3.A hA) (hg.s e3.f) (hS.f.tr e3.f) (fun r x hx => by
        obtain ⟨j, j1, j2⟩ := rk_on hO hx
        have jl := (List.getElem?_eq_some_iff.mp j1).1
        obtain ⟨m, hm⟩ : ∃ m, g.2.2.2[j]? = some m := ⟨_, List.getElem?_eq_getElem (by omega)⟩
        obtain ⟨x', hx', gx⟩ := at_ j m hm
        have ex : x' = x := by rw [j1] at hx'; exact (Option.some.inj hx').symm
        subst ex
        obtain ⟨q, rfl, hv⟩ := gvm m x' gx
        refine ⟨q, ?_, hv⟩
        rw [e3.2 20 (by decide), ← j2]
        exact h20 j x' (q + 1) (by omega) j1 hm) e2 (by decide) (fun b hb => by cases hb)
      rw [List.drop_zero] at key
      exact key
    · rw [if_neg c]
      obtain ⟨m, hm⟩ : ∃ m, g.2.2.2[i]? = some m := ⟨_, List.getElem?_eq_getElem (by omega)⟩
      obtain ⟨y, hy, gy⟩ := at_ i m hm
      have rl := rk_lt hO hy
      obtain ⟨S1, e1, e2⟩ := rm_row_42 G o h S vs g xs hxs (fun x hx => (hV.2.2 x hx).1) hV.1 (m_M_row_30 G n) i m y hm hy (by omega) hp_fu 0 S (by omega) (by unfold hp_fu; omega) hA hg xS.rf
      have c0 : cR xs i y 0 = 0 := by have := cR_le xs i y 0; omega
      rw [c0] at e1
      rw [show nI 0 = (0 : Int32) from rfl] at e1
      simp only [hp_nmE]
      rw [e1]
      have w1 : wS S (S1.1, lm_up S1.2 20 (upd (S1.2 20) (rkC xs i y) (nI m))) := ⟨e2.1, fun j a b c => by simp only [lm_upn _ _ c]; exact e2.2 j a b⟩
      refine rm_row_30 G o h hG S0 vs g xs tb hxs hV hb n (i + 1) _ (by omega) (by omega) (w1.A hA) (hg.s w1.f) (hS.tr w1) (fun j z mz hj hz hmz => ?_)
      simp only [lm_ups]
      by_cases ej : j = i
      · subst ej
        rw [hy] at hz
        rw [hm] at hmz
        cases hz
        cases hmz
        exact upd_s _ _ _
      · have ne := rk_inj hO hz hy (by omega)
        rw [upd_n _ _ ne, e2.2 20 (by decide) (by decide)]
        exact h20 j z mz (by omega) hz hmz
theorem allS_drop {L : List (Option vV)} {k : Nat} (h : L[k]? = some none) : allS L = none := by
  induction L generalizing k with
  | nil => cases h
  | cons a r ih =>
    cases k with
    | zero => rw [List.getElem?_cons_zero] at h; cases h; rfl
    | succ k =>
      cases a with
      | none => rfl
      | some x => rw [allS, ih (by rw [List.getElem?_cons_succ] at h; exact h)]
theorem allS_all : ∀ {L : List (Option vV)}, (∀ k : Nat, L[k]? ≠ some none) → ∃ xs, allS L = some xs
  | [], _ => ⟨[], rfl⟩
  | none :: r, h => absurd rfl (h 0)
  | some x :: r, h => by
    obtain ⟨xs, e⟩ := allS_all (L := r) (fun k => by have := h (k + 1); rw [List.getElem?_cons_succ] at this; exact this)
    exact ⟨x :: xs, by rw [allS, e]⟩
theorem rm_row_2 (G : Nat → Nat) (o : Nat) (h : hp_H) (hG : SM G o h) (S : lm_S) (vs : List vV) (g : gG) (tb : vV) (hV : vsO vs) (hb : vAt vs g.2.2.1 = some tb) (hA : rm_A S vs) (hg : rm_G S vs g) : ∀ (n k : Nat), k ≤ g.2.2.2.length → g.2.2.2.length - k < n → (∀ j, j < k → g.2.2.2[j]? ≠ some 0) → RK o h S vs (m_M_row_2 G n o (nI k) (lm_w o h S)) (rowV tb.2.2.2.2 (g.2.2.2.map (gv vs)))
  | 0, k, _, hn, _ => by omega
  | n + 1, k, hk, hn, hz => by
    obtain ⟨⟨h1, -, -, -⟩, -, h6, -, h8⟩ := id hg
    have hl := hA.2.1
    rw [m_M_row_2]
    simp only [lm_g26, h1, bs, nI_leI (show g.2.2.2.length < 2 ^ 31 by omega) (show k < 2 ^ 31 by omega)]
    by_cases c : g.2.2.2.length ≤ k
    · rw [if_pos c]
      obtain ⟨xs, hx⟩ := allS_all (L := g.2.2.2.map (gv vs)) (fun j q => by
        rw [List.getElem?_map] at q
        cases e : g.2.2.2[j]? with
        | none => rw [e] at q; cases q
        | some m =>
          rw [e] at q
          have q : gv vs m = none := Option.some.inj q
          have jl := (List.getElem?_eq_some_iff.mp e).1
          have m0 : m ≠ 0 := fun z => hz j (by omega) (by rw [e, z])
          obtain ⟨i, x, -, -, gx⟩ := gv_n (h8 j m e).2 m0
          rw [gx] at q; cases q)
      have len : g.2.2.2.length = xs.length := by
        have := congrArg List.length (allS_some hx)
        rw [List.length_map, List.length_map] at this
        exact this
      have key := rm_row_30 G o h hG S vs g xs tb (allS_some hx) hV hb hp_fu 0 S (by omega) (by unfold hp_fu; omega) hA hg wS.rf (fun j y m hj => by omega)
      simp only [hp_nmE]
      rw [rowV, hx]
      exact key
    · rw [if_neg c]
      obtain ⟨m, hm⟩ : ∃ m, g.2.2.2[k]? = some m := ⟨_, List.getElem?_eq_getElem (by omega)⟩
      have l18 := lm_a18 o h S k (by omega)
      rw [(h8 k m hm).1] at l18
      have ml := (h8 k m hm).2
      simp only [lm_g25, l18, bs, ie_0 (show m < 2 ^ 31 by omega), hp_nmE, nI_1]
      by_cases m0 : m = 0
      · rw [if_pos m0, rowV, allS_drop (k := k) (by rw [List.getElem?_map, hm, m0]; rfl)]
        exact ⟨S, rfl, hA, fS.rf⟩
      · rw [if_neg m0]
        exact rm_row_2 G o h hG S vs g tb hV hb hA hg n (k + 1) (by omega) (by omega) (fun j hj => by
          by_cases ej : j = k
          · subst ej; rw [hm]; exact fun q => m0 (Option.some.inj q)
          · exact hz j (by omega))
theorem rm_row (G : Nat → Nat) (o : Nat) (h : hp_H) (hG : SM G o h) (S : lm_S) (vs : List vV) (g : gG) (tb : vV) (hV : vsO vs) (hb : vAt vs g.2.2.1 = some tb) (hA : rm_A S vs) (hg : rm_G S vs g) : RK o h S vs (m_M_row G o (lm_w o h S)) (rowV tb.2.2.2.2 (g.2.2.2.map (gv vs))) := by
  have h6 := hg.2.2.1
  unfold m_M_row
  simp only [hp_nmE]
  exact rm_row_2 G o h hG S vs g tb hV hb hA hg hp_fu 0 (by omega) (by unfold hp_fu; omega) (fun j hj => by omega)
