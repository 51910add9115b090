/-! THE CLASS: sorting, the answer -/
section
variable (G : Nat → Nat) {c q0 : Nat} {vs : List vV} {g : gG}
/-- the numbers ms of the values s -/
def nmS (vs : List vV) (ms : List Nat) (s : List vV) : Prop := ms.map (gv vs) = s.map some ∧ ∀ n ∈ ms, n ≤ vs.length
theorem nmS.at {ms : List Nat} {s : List vV} (h : nmS vs ms s) {k n : Nat} (hk : ms[k]? = some n) : ∃ x, s[k]? = some x ∧ gv vs n = some x ∧ n ≤ vs.length := by
  have e := congrArg (fun l => l[k]?) h.1
  simp only [List.getElem?_map, hk, Option.map_some] at e
  cases ex : s[k]? with
  | none => rw [ex] at e; cases e
  | some x => rw [ex] at e; exact ⟨x, rfl, Option.some.inj e, h.2 n (List.mem_of_getElem? hk)⟩
theorem nmS.len {ms : List Nat} {s : List vV} (h : nmS vs ms s) : ms.length = s.length := by
  have := congrArg List.length h.1
  rw [List.length_map, List.length_map] at this
  exact this
theorem GG.s {h h' : hp_H} (X : GG G c q0 h vs g) {f : Nat → Int32} (C : chg c [19] h h') (F : h'.1 (c + 19) = some (.inr (true, .int, 500, .inl f))) : GG G c q0 h' vs g := by
  obtain ⟨x1, x2, x3, x4, x5, x6, ⟨f1, x7, x8⟩, -, ⟨L, xR⟩, ⟨b, w, a, s, K1, K2⟩⟩ := X
  exact ⟨x1.c C (by simp), x2, by rw [C.at 17 (by simp)]; exact x3, x4, x5, x6, ⟨f1, by rw [C.at 18 (by simp)]; exact x7, x8⟩, ⟨f, F⟩, ⟨L, xR.c C (by simp) (by simp)⟩, b, w, a, s, by rw [C.at 22 (by simp)]; exact K1, K2⟩
theorem cl_sort_33 (h0 : hp_H) (r2 : Nat → Int32 → hp_H → Option (Unit × hp_H)) (i m : Nat) (v : vV) (pv : Nat) (hi : g.2.2.2[i]? = some m) (hv : gv vs m = some v) (ms : List Nat) (s : List vV) (hms : nmS vs ms s) (hl : ms.length = i) : ∀ (n p : Nat) (h : hp_H) (f : Nat → Int32), p < n → p ≤ i → GG G c q0 h vs g → chg c [19] h0 h → VP c h pv v → h.1 (c + 19) = some (.inr (true, .int, 500, .inl f)) → (∀ j n, j < p → ms[j]? = some n → f j = nI n) → (∀ j n, p ≤ j → ms[j]? = some n → f (j + 1) = nI n) → (∀ j y, p ≤ j → s[j]? = some y → ordV y v = 1) → ∃ h' f' p', m_G_sortGathered_33 G r2 n (c + 17) (nI i) pv (nI p) h = r2 (c + 17) (nI (i + 1)) h' ∧ GG G c q0 h' vs g ∧ chg c [19] h0 h' ∧ h'.1 (c + 19) = some (.inr (true, .int, 500, .inl f')) ∧ p' ≤ i ∧ (∀ j n, (ms.take p' ++ m :: ms.drop p')[j]? = some n → f' j = nI n) ∧ (∀ j y, p' ≤ j → s[j]? = some y → ordV y v = 1) ∧ ∀ y, 0 < p' → s[p' - 1]? = some y → ordV y v ≠ 1
  | 0, p, h, f, hn, _, _, _, _, _, _, _, _ => by omega
  | n + 1, p, h, f, hn, hp, X, C, V, F, hlo, hhi, hgt => by
    have h5 := X.2.2.2.2.1
    have hlv := X.2.1.2.1
    have il := (List.getElem?_eq_some_iff.mp hi).1
    obtain ⟨a1, a2, a3⟩ := X.at G hi
    have sl := hms.len
    -- putting it at p
    have put : (∀ y, 0 < p → s[p - 1]? = some y → ordV y v ≠ 1) → ∃ h' f' p', m_G_sortGathered_79 G r2 (c + 17) (nI i) (nI p) h = r2 (c + 17) (nI (i + 1)) h' ∧ GG G c q0 h' vs g ∧ chg c [19] h0 h' ∧ h'.1 (c + 19) = some (.inr (true, .int, 500, .inl f')) ∧ p' ≤ i ∧ (∀ j n, (ms.take p' ++ m :: ms.drop p')[j]? = some n → f' j = nI n) ∧ (∀ j y, p' ≤ j → s[j]? = some y → ordV y v = 1) ∧ ∀ y, 0 < p' → s[p' - 1]? = some y → ordV y v ≠ 1 := fun hle => by
      unfold m_G_sortGathered_79
      rw [X.g2, bs, X.g1, bs, a1, bs, sI_e F (nI m) (show p < 500 by omega) (by decide), bs, hp_nmE, nI_1]
      have C1 : chg c [19] h (stC h (c + 19) (.inr (true, .int, 500, .inl (upd f p (nI m))))) := chg_st (k := 19) _ (by simp)
      have F1 : (stC h (c + 19) (.inr (true, .int, 500, .inl (upd f p (nI m))))).1 (c + 19) = some (.inr (true, .int, 500, .inl (upd f p (nI m)))) := stC_s _ _ _
      refine ⟨_, _, p, rfl, X.s G C1 F1, C.tr C1, F1, hp, fun j n hj => ?_, hgt, hle⟩
      have lt : (ms.take p).length = p := by rw [List.length_take]; omega
      by_cases j1 : j < p
      · rw [List.getElem?_append_left (by omega), List.getElem?_take, if_pos j1] at hj
        rw [upd_n _ _ (by omega)]; exact hlo j n j1 hj
      · by_cases j2 : j = p
        · subst j2
          rw [List.getElem?_append_right (by omega), lt, Nat.sub_self, List.getElem?_cons_zero] at hj
          cases hj
          exact upd_s _ _ _
        · rw [List.getElem?_append_right (by omega), lt, show j - p = (j - p - 1) + 1 by omega, List.getElem?_cons_succ, List.getElem?_drop, show p + (j - p - 1) = j - 1 by omega] at hj
          rw [upd_n _ _ j2]
          have := hhi (j - 1) n (by omega) hj
          rw [show j - 1 + 1 = j by omega] at this
          exact this
    rw [m_G_sortGathered_33]
    by_cases p0 : p = 0
    · subst p0
      rw [if_pos (show nI 0 ≤ 0 by decide)]
      exact put (fun y q => by omega)
    · obtain ⟨q, hq⟩ : ∃ q, ms[p - 1]? = some q := ⟨_, List.getElem?_eq_getElem (by omega)⟩
      obtain ⟨y, hy, gy, ql⟩ := hms.at hq
      have fq := hlo (p - 1) q (by omega) hq
      have ri : nI p - 1 = nI (p - 1) := by
        obtain ⟨z, rfl⟩ : ∃ z, p = z + 1 := ⟨p - 1, by omega⟩
        rw [nI_pred]; rfl
      have fa : hp_aI h .int (c + 19) (nI (p - 1)) = some (nI q) := by rw [aI_e F (show p - 1 < 500 by omega) (by decide), fq]
      obtain ⟨r, r1, r2'⟩ := X.v G ql
      rw [gy] at r2'
      have r2' : VP c h r y := r2'
      obtain ⟨oy, ly, -, -⟩ := gv_O G X gy
      obtain ⟨ov, lv, -, -⟩ := gv_O G X hv
      rw [if_neg (nI_nle (by omega) (by omega)), X.g0, bs, X.g2, bs, ri, fa, bs, X.sk, r1, bs, r2'.k, cl_comparedTo G X.1.2.2.2.2.2.2 r2' V oy ov ly lv, bs]
      by_cases cm : ordV y v = 1
      · rw [if_neg (show ¬ ordV y v ≤ 0 by rw [cm]; decide), X.g2, bs, bs, fa, bs, sI_e F (nI q) (show p < 500 by omega) (by decide), bs, hp_nmE]
        have C1 : chg c [19] h (stC h (c + 19) (.inr (true, .int, 500, .inl (upd f p (nI q))))) := chg_st (k := 19) _ (by simp)
        have F1 : (stC h (c + 19) (.inr (true, .int, 500, .inl (upd f p (nI q))))).1 (c + 19) = some (.inr (true, .int, 500, .inl (upd f p (nI q)))) := stC_s _ _ _
        generalize stC h (c + 19) (.inr (true, .int, 500, .inl (upd f p (nI q)))) = h1 at C1 F1
        have rm : nI p + -1 = nI (p - 1) := by
          obtain ⟨z, rfl⟩ : ∃ z, p = z + 1 := ⟨p - 1, by omega⟩
          exact pk_m1 z
        rw [rm]
        refine cl_sort_33 h0 r2 i m v pv hi hv ms s hms hl n (p - 1) h1 _ (by omega) (by omega) (X.s G C1 F1) (C.tr C1) (V.c C1 (by simp)) F1 (fun j n hj hn => ?_) (fun j n hj hn => ?_) (fun j z hj hz => ?_)
        · rw [upd_n _ _ (by omega)]; exact hlo j n (by omega) hn
        · by_cases ej : j + 1 = p
          · have : j = p - 1 := by omega
            rw [this, hq] at hn
            rw [ej, upd_s, Option.some.inj hn]
          · rw [upd_n _ _ ej]; exact hhi j n (by omega) hn
        · by_cases ej : j = p - 1
          · rw [ej, hy] at hz
            rw [← Option.some.inj hz]; exact cm
          · exact hgt j z (by omega) hz
      · rw [if_pos (show ordV y v ≤ 0 by
          rcases ord_an oy ov with ⟨z, -⟩ | ⟨z, -⟩ | ⟨z, -⟩
          · rw [z]; decide
          · rw [z]; decide
          · exact absurd z cm)]
        exact put (fun z _ hz => by rw [hy] at hz; rw [← Option.some.inj hz]; exact cm)
theorem ins_map {α β : Type} (f : α → β) (l : List α) (p : Nat) (a : α) : (l.take p ++ a :: l.drop p).map f = (l.map f).take p ++ f a :: (l.map f).drop p := by
  rw [List.map_append, List.map_cons, List.map_take, List.map_drop]
theorem cl_sort_2 (h0 : hp_H) (xs : List vV) (hxs : nmS vs g.2.2.2 xs) : ∀ (n i : Nat) (h : hp_H) (f : Nat → Int32) (ms : List Nat) (s : List vV), g.2.2.2.length - i < n → i ≤ g.2.2.2.length → GG G c q0 h vs g → chg c [19] h0 h → h.1 (c + 19) = some (.inr (true, .int, 500, .inl f)) → (∀ j n, ms[j]? = some n → f j = nI n) → nmS vs ms s → ms.length = i → (∀ y ∈ s, vO y) → s.Pairwise leV → ∃ h' ms', m_G_sortGathered_2 G n (c + 17) (nI i) h = some ((), h') ∧ GG G c q0 h' vs g ∧ chg c [19] h0 h' ∧ NA h' (c + 19) vs ms' ∧ nmS vs ms' (srtV (xs.drop i) s) ∧ ms'.length = g.2.2.2.length
  | 0, i, h, f, ms, s, hn, _, _, _, _, _, _, _, _, _ => by omega
  | n + 1, i, h, f, ms, s, hn, hi, X, C, F, hf, hms, hl, hO, hS => by
    have h5 := X.2.2.2.2.1
    have hlv := X.2.1.2.1
    have xl := hxs.len
    rw [m_G_sortGathered_2, X.g8, bs]
    simp only [nI_leI (show g.2.2.2.length < 2 ^ 31 by omega) (show i < 2 ^ 31 by omega)]
    by_cases e : g.2.2.2.length ≤ i
    · rw [if_pos e, List.drop_eq_nil_of_le (by omega), srtV]
      exact ⟨h, ms, rfl, X, C, ⟨f, F, fun k n hk => ⟨hf k n hk, hms.2 n (List.mem_of_getElem? hk)⟩⟩, hms, by omega⟩
    · obtain ⟨m, hm⟩ : ∃ m, g.2.2.2[i]? = some m := ⟨_, List.getElem?_eq_getElem (by omega)⟩
      obtain ⟨v, hv, gv_, ml⟩ := hxs.at hm
      obtain ⟨a1, a2, a3⟩ := X.at G hm
      obtain ⟨pv, p1, p2⟩ := X.v G a2
      rw [gv_] at p2
      have p2 : VP c h pv v := p2
      obtain ⟨ov, lv, -, -⟩ := gv_O G X gv_
      have hdr : xs.drop i = v :: xs.drop (i + 1) := by
        obtain ⟨hk2, e⟩ := List.getElem?_eq_some_iff.mp hv
        rw [List.drop_eq_getElem_cons hk2, e]
      rw [if_neg e, if_neg (show ¬ (500 : Int32) ≤ nI i from nI_ge (a := i) (b := 500) (by omega) (by decide)), X.g0, bs, X.g1, bs, a1, bs, X.sk, p1, bs, hp_nmE, hp_nmE, hdr, srtV]
      obtain ⟨h1, f1, p', q1, q2, q3, q4, q5, q6, q7, q8⟩ := cl_sort_33 G h0 (m_G_sortGathered_2 G n) i m v pv hm gv_ ms s hms hl hp_fu i h f (by unfold hp_fu; omega) (Nat.le_refl _) X C p2 F (fun j n hj hn => hf j n hn) (fun j n hj hn => by have := (List.getElem?_eq_some_iff.mp hn).1; omega) (fun j y hj hy => by have := (List.getElem?_eq_some_iff.mp hy).1; have := hms.len; omega)
      rw [q1]
      have ins := ins_place ov s p' hO hS (by have := hms.len; omega) q7 q8
      have hms' : nmS vs (ms.take p' ++ m :: ms.drop p') (insV v s) := by
        refine ⟨?_, fun n hn => ?_⟩
        · rw [ins, ins_map, ins_map, hms.1, gv_]
        · rcases List.mem_append.mp hn with z | z
          · exact hms.2 n (List.mem_of_mem_take z)
          · rcases List.mem_cons.mp z with z | z
            · rw [z]; exact ml
            · exact hms.2 n (List.mem_of_mem_drop z)
      refine cl_sort_2 h0 xs hxs n (i + 1) h1 f1 _ _ (by omega) (by omega) q2 q3 q4 q6 hms' ?_ ?_ (ins_srt ov s hO hS)
      · rw [List.length_append, List.length_cons, List.length_take, List.length_drop]; omega
      · intro y hy
        rcases List.mem_cons.mp ((ins_perm v s).mem_iff.mp hy) with e | e
        · rw [e]; exact ov
        · exact hO y e
theorem cl_sort {h : hp_H} (X : GG G c q0 h vs g) (xs : List vV) (hxs : nmS vs g.2.2.2 xs) : ∃ h' ms', m_G_sortGathered G (c + 17) h = some ((), h') ∧ GG G c q0 h' vs g ∧ chg c [19] h h' ∧ NA h' (c + 19) vs ms' ∧ nmS vs ms' (srtV xs []) ∧ ms'.length = g.2.2.2.length := by
  obtain ⟨f, F⟩ := X.2.2.2.2.2.2.2.1
  have h5 := X.2.2.2.2.1
  have key := cl_sort_2 G h xs hxs hp_fu 0 h f [] [] (by unfold hp_fu; omega) (by omega) X chg.rf F (fun j n hj => by cases hj) ⟨rfl, fun n hn => by cases hn⟩ rfl (fun y hy => by cases hy) List.Pairwise.nil
  unfold m_G_sortGathered
  rw [hp_nmE]
  rw [List.drop_zero] at key
  exact key
theorem allS_mem : ∀ {L : List (Option vV)}, allS L = none → none ∈ L
  | [], h => by cases h
  | none :: r, _ => List.mem_cons_self ..
  | some x :: r, h => by
    rw [allS] at h
    cases e : allS r with
    | none => exact List.mem_cons_of_mem _ (allS_mem e)
    | some l => rw [e] at h; cases h
theorem kq_long (B : List Nat) (h : 64 < B.length) : kq vs (some (5, 0, 0, 0, B)) = (-4, vs) := by
  show kp vs (5, 0, 0, 0, B) = _
  unfold kp
  rw [if_pos h]
theorem cl_joined {h : hp_H} (X : GG G c q0 h vs g) : CG G c q0 h (m_G_joined G (c + 17) h) (kq vs (rowV (sepV vs g.2.2.1) (g.2.2.2.map (gv vs)))) := by
  have h5 := X.2.2.2.2.1
  have N : NA h (c + 18) vs g.2.2.2 := X.2.2.2.2.2.2.1
  obtain ⟨h1, L1, e1, e2, e3, e4, e5⟩ := cl_putAllG G X (c + 18) (Or.inl rfl) g.2.2.2 rfl N
  have no : CG G c q0 h (some (-4, h1)) (-4, vs) := CG.of G e3 (by simp) e2 ⟨h1, rfl, e2.1, fr.rf⟩
  unfold m_G_joined m_G_joined_47 rowV
  rw [X.g1, bs, X.k, e1, bs]
  cases ha : allS (g.2.2.2.map (gv vs)) with
  | none =>
    rw [pa_none (allS_mem ha), if_pos (show bI (none : Option (List Nat)).isSome = 0 from rfl)]
    exact no
  | some xs =>
    have hx := allS_some ha
    have hxs : nmS vs g.2.2.2 xs := ⟨hx, fun n hn => by
      obtain ⟨k, hk, ek⟩ := List.getElem_of_mem hn
      exact (X.at G (show g.2.2.2[k]? = some n by rw [List.getElem?_eq_getElem hk, ek])).2.1⟩
    have pm := srt_perm xs []
    rw [List.append_nil] at pm
    obtain ⟨j1, j2⟩ := jn_ln (sep := sepV vs g.2.2.1) xs true []
    obtain ⟨s1, s2⟩ := jn_ln (sep := sepV vs g.2.2.1) (srtV xs []) true []
    rw [hx, pa_jn xs true [] (by decide)]
    rw [hx, pa_jn xs true [] (by decide)] at e5
    cases hj : jnV (sepV vs g.2.2.1) xs true [] with
    | none =>
      have : jnV (sepV vs g.2.2.1) (srtV xs []) true [] = none := by
        obtain ⟨x, m1, m2⟩ := j1.mp hj
        exact s1.mpr ⟨x, pm.mem_iff.mpr m1, m2⟩
      rw [if_pos (show bI (Option.bind (none : Option (List Nat)) _).isSome = 0 from rfl)]
      show CG G c q0 h _ (kq vs ((jnV (sepV vs g.2.2.1) (srtV xs []) true []).map fun B => (5, 0, 0, 0, B)))
      rw [this]
      exact no
    | some B =>
      obtain ⟨S, hS⟩ : ∃ S, jnV (sepV vs g.2.2.1) (srtV xs []) true [] = some S := by
        cases z : jnV (sepV vs g.2.2.1) (srtV xs []) true [] with
        | some S => exact ⟨S, rfl⟩
        | none =>
          obtain ⟨x, m1, m2⟩ := s1.mp z
          rw [j1.mpr ⟨x, pm.mem_iff.mp m1, m2⟩] at hj; cases hj
      have ll : S.length = B.length := by
        by_cases x0 : xs = []
        · subst x0
          rw [show srtV ([] : List vV) [] = [] from rfl, hj] at hS
          rw [Option.some.inj hS]
        · have l1 := j2 B hj x0
          have l2 := s2 S hS (fun q => x0 (by rw [q] at pm; exact List.nil_perm.mp pm))
          rw [jl_perm pm] at l2
          rw [if_pos (show true = true from rfl)] at l1 l2
          omega
      show CG G c q0 h _ (kq vs ((jnV (sepV vs g.2.2.1) (srtV xs []) true []).map fun B => (5, 0, 0, 0, B)))
      rw [hS]
      show CG G c q0 h (if bI (if 64 < B.length then none else some B).isSome = 0 then _ else _) (kq vs (some (5, 0, 0, 0, S)))
      by_cases q : 64 < B.length
      · rw [if_pos q, if_pos (show bI (none : Option (List Nat)).isSome = 0 from rfl), kq_long S (by omega)]
        exact no
      · rw [if_neg q, if_neg (show ¬ bI (some B).isSome = 0 from (by decide : ¬ bI true = 0))]
        obtain ⟨h2, ms, t1, t2, t3, t4, t5, t6⟩ := cl_sort G e2 xs hxs
        obtain ⟨h3, L3, u1, u2, u3, u4, u5⟩ := cl_putAllG G t2 (c + 19) (Or.inr rfl) ms t6 t4
        rw [t5.1, pa_jn (srtV xs []) true [] (by decide), hS] at u1 u5
        have z : ((some S).bind fun B => if 64 < B.length then none else some B) = some S := by
          show (if 64 < S.length then none else some S) = some S
          rw [if_neg (by omega)]
        rw [z] at u1 u5
        obtain ⟨v1, v2, v3⟩ := u5 S rfl
        subst v1
        rw [e2.k, t1, bs, t2.g2, bs, t2.k, u1, bs, if_neg (show ¬ bI (some L3).isSome = 0 from (by decide : ¬ bI true = 0)), u2.g0, bs, u2.g3, bs, u2.sk, bq]
        exact CG.of G (((e3.mono (K' := [19, 20, 21]) (by simp)).tr (t3.mono (by simp))).tr (u3.mono (by simp))) (by simp) u2 (cl_keepRow G u2.1 u2.2.1 5 0 L3 (fun q => ⟨by show 5 ≤ 8; decide, by show 0 ≤ 9999; decide, by show (0 : Int).natAbs < _; decide, by show 0 ≤ 9; decide, q, v3⟩) (by decide) u4)
theorem cl_answer {h : hp_H} (X : GG G c q0 h vs g) : CG G c q0 h (m_G_answer G (c + 17) h) (togV vs g) := by
  have h5 := X.2.2.2.2.1
  have g6 := X.2.2.2.1
  have b31 : g.1 < 2 ^ 31 := by omega
  have cl := cnG_le g.2.2.2
  have ext : ∀ w : Int32, CG G c q0 h ((hp_vck h (c + 17) 7 (m_G_outermost G (c + 17) w h)).bind fun q => some (q.1, q.2)) (gI vs (exV w (g.2.2.2.map (gv vs)) none), vs) := fun w => by
    rw [X.k, bq, cl_outermost G X w]
    exact CG.same G X _
  unfold m_G_answer togV
  rw [X.g5, bs]
  simp only [ie_0 b31, ie_1 b31, ie_2 b31, ie_3 b31, ie_4 b31, ie_5 b31, ie_6 b31]
  by_cases c0 : g.1 = 0
  · rw [if_pos c0, if_pos c0, X.g0, bs, X.k, cl_countGood G X, bs, X.sk, bq, nI_64L _ (by omega)]
    have n := nm_x (kd := 3) (Or.inl rfl) (a := ((cnG g.2.2.2 : Nat) : Int)) (s := 0) (by rw [Int.natAbs_natCast]; omega) (by decide) (Or.inl rfl)
    rw [show ((3 == 3) = true) from rfl] at n
    rw [n]
    exact CG.of G (K := []) chg.rf (by simp) X (cl_keepNumber G X.1 X.2.1 3 _ 0 ⟨by show 3 ≤ 8; decide, by show 0 ≤ 9999; decide, by show (((cnG g.2.2.2 : Nat) : Int)).natAbs < _; rw [Int.natAbs_natCast]; omega, by show 0 ≤ 9; decide, by show 0 ≤ 64; decide, fun b hb => by cases hb⟩)
  · rw [if_neg c0, if_neg c0]
    have bad : ∀ {h1 : hp_H}, GG G c q0 h1 vs g → chg c [22] h h1 → (∃ w a s, KR c h1 22 false w a s) → CG G c q0 h (m_S_keepReckoned G (c + 1) (c + 22) h1) (kq vs none) := fun X1 C1 ⟨w, a, s, kr⟩ => by
      unfold m_S_keepReckoned
      rw [gI_e (k := 0) kr.1 rfl, bs, if_pos (show bI false = 0 from rfl)]
      exact CG.of G C1 (by simp) X1 ⟨_, rfl, X1.1, fr.rf⟩
    by_cases c1 : g.1 = 1
    · rw [if_pos c1, if_pos c1, X.k]
      obtain ⟨h1, e1, e2, e3, e4⟩ := cl_sum G X
      rw [e1, bs, e2.g0, bs, e2.g4, bs, e2.sk, bq]
      cases hs : smA (g.2.2.2.map (gv vs)) 0 true with
      | none => rw [hs] at e4; exact bad e2 e3 e4
      | some p =>
        obtain ⟨t, w⟩ := p
        rw [hs] at e4
        exact CG.of G e3 (by simp) e2 (cl_keepReckoned G e2.1 e2.2.1 e4.1)
    · rw [if_neg c1, if_neg c1]
      by_cases c2 : g.1 = 2
      · rw [if_pos c2, if_neg (show ¬ g.1 = 3 by omega), if_neg (show ¬ g.1 = 4 by omega), if_neg (show ¬ g.1 = 6 by omega)]; exact ext (-1)
      · rw [if_neg c2]
        by_cases c3 : g.1 = 3
        · rw [if_pos c3, if_pos c3]; exact ext 1
        · rw [if_neg c3, if_neg c3]
          by_cases c4 : g.1 = 4
          · rw [if_pos c4, if_pos c4, X.k]
            obtain ⟨h1, e1, e2, e3, e4⟩ := cl_sum G X
            unfold m_G_answer_103 avV
            rw [e1, bs, e2.g8, bs, e2.g0, bs, e2.g4, bs, e2.sk, bq, bs]
            by_cases l0 : g.2.2.2.length = 0
            · rw [if_pos (show nI g.2.2.2.length ≤ 0 by rw [l0]; decide)]
              have n0 : g.2.2.2 = [] := List.length_eq_zero_iff.mp l0
              have sm : smA (g.2.2.2.map (gv vs)) 0 true = some (0, true) := by rw [n0]; rfl
              rw [sm] at e4 ⊢
              show CG G c q0 h _ (kq vs (if g.2.2.2.length = 0 then nmI 0 true else _))
              rw [if_pos l0]
              exact CG.of G e3 (by simp) e2 (cl_keepReckoned G e2.1 e2.2.1 e4.1)
            · rw [if_neg (nI_nle (by omega) (by omega)), bs, nI_64L _ (by omega)]
              have hs := e2.1.2.2.2.2.2.2
              have m0 : ((g.2.2.2.length : Nat) : Int) ≠ 0 := by omega
              have fin : ∀ (h2 : hp_H), GG G c q0 h2 vs g → m_G_answer_103 G (c + 17) h2 = m_S_keepReckoned G (c + 1) (c + 22) h2 := fun h2 X2 => by
                unfold m_G_answer_103
                rw [X2.g0, bs, X2.g4, bs, X2.sk, bq]
              cases hsm : smA (g.2.2.2.map (gv vs)) 0 true with
              | none =>
                rw [hsm] at e4
                obtain ⟨w, a, s, kr⟩ := e4
                obtain ⟨h2, f1, f2, -, f4⟩ := cl_over G hs kr ((g.2.2.2.length : Nat) : Int) 0 (by rw [Int.natAbs_natCast]; omega) (by decide)
                have ko := (f4 m0).2 rfl
                rw [kr.k1, show m_K_over G (c + 22) (jL ((g.2.2.2.length : Nat) : Int)) 0 h1 = _ from f1, bs]
                have X2 : GG G c q0 h2 vs g := e2.q G f2 (by obtain ⟨a', s', r'⟩ := ko; exact ⟨_, _, _, _, r'⟩)
                rw [X2.g0, bs, X2.g4, bs, X2.sk, bq]
                exact bad X2 (e3.tr f2) (by obtain ⟨a', s', r'⟩ := ko; exact ⟨_, a', s', r'⟩)
              | some p =>
                obtain ⟨t, w⟩ := p
                rw [hsm] at e4
                obtain ⟨⟨a, s, kr, ke⟩, hf⟩ := e4
                rw [← fit_f, hf] at kr ke
                obtain ⟨ea, es⟩ := ke rfl
                obtain ⟨h2, f1, f2, -, f4⟩ := cl_over G hs kr ((g.2.2.2.length : Nat) : Int) 0 (by rw [Int.natAbs_natCast]; omega) (by decide)
                have ko := (f4 m0).1 rfl
                rw [qtz_av kr.2.2 ea es (by omega)] at ko
                rw [kr.k1, show m_K_over G (c + 22) (jL ((g.2.2.2.length : Nat) : Int)) 0 h1 = _ from f1, bs]
                have X2 : GG G c q0 h2 vs g := e2.q G f2 (by obtain ⟨a', s', r', -⟩ := ko; exact ⟨_, _, _, _, r'⟩)
                rw [X2.g0, bs, X2.g4, bs, X2.sk, bq]
                show CG G c q0 h _ (kq vs (if g.2.2.2.length = 0 then nmI 0 true else nmI (av9 t g.2.2.2.length) false))
                rw [if_neg l0]
                exact CG.of G (e3.tr f2) (by simp) X2 (cl_keepReckoned G X2.1 X2.2.1 ko)
          · rw [if_neg c4, if_neg c4]
            by_cases c5 : g.1 = 5
            · rw [if_pos c5, if_neg (show ¬ g.1 = 6 by omega)]; exact ext (-1)
            · have c6 : g.1 = 6 := by omega
              rw [if_neg c5, if_pos c6, if_pos c6, X.k, bq]
              exact cl_joined G X
end
