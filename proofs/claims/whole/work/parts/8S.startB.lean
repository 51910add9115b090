/-! THE START: the machine's heap holds an abstract one -/
def st_G (t k v : Nat → Nat) (mi : Nat) : Nat → Nat := fun i => match i with
  | 0 => t 0
  | 1 => t 1
  | 2 => t 2
  | 3 => t 3
  | 4 => t 4
  | 5 => k 0
  | 6 => k 1
  | 7 => k 2
  | 8 => v 0
  | 9 => v 1
  | 10 => v 2
  | _ => mi
def st_E (E : hp_E) (s : State) : Prop := E.2.2.2 = s.heap.size ∧ hp_K E s ∧ hp_Zs E s s.heap ∧ hp_Xs E s s.heap ∧ hp_N E s ∧ (∀ i ∈ st_ks, hp_at E s s.heap (E.2.2.1 i) (st_ce i)) ∧ E.2.2.1 5 ≠ E.2.2.1 6 ∧ E.2.2.1 5 ≠ E.2.2.1 7 ∧ E.2.2.1 6 ≠ E.2.2.1 7
theorem st_ofT {E : hp_E} {s : State} {H : Heap} {a N : Nat} {ty : FieldType} {f : hp_Ar} {g : Nat → Value} {A : Nat → Prop} (h : va_T ty a N g A s H) (hg : ∀ j, j < N → g j = hp_av f j) : hp_at E s H a (.inr (false, ty, N, f)) := by
  obtain ⟨cell, h1, h2, h3, h4, h5, h6, -⟩ := h
  exact ⟨cell, h1, h2, h3, h4, h5, fun j hj => (h6 j hj).trans (by rw [hg j hj]), fun q => by cases q⟩
theorem st_Nst {s : State} {args : Array Value} (hts : ∀ w ∈ lw_tbl, w.before args s = true) : ∀ w ∈ hp_Nst, va_Nw w s := by
  intro w h
  have h1 := hts w (List.mem_filter.mp h).1
  have h2 := (List.mem_filter.mp h).2
  cases w <;> try (exact absurd (show false = true from h2) (by decide))
  case methodLinkNest => exact va_Nw.of rfl h1
  case fieldLinkNest => exact va_Nw.of rfl h1
  case castable => exact va_Nw.of rfl h1
  case arrayOver t =>
    cases t <;> try (exact absurd (show false = true from h2) (by decide))
    exact va_AO.of h1
theorem st_all {s : State} {args : Array Value} (hts : ∀ w ∈ lw_tbl, w.before args s = true) (hg : (Jvm.Cond.and given_1 narrow_1).before args s = true) : ∃ E : hp_E, st_E E s := by
  have hT : ∀ w ∈ hp_T, w.before args s = true := fun w hw => hts w (List.mem_filter.mp hw).1
  have hs : ∀ w ∈ st_g, w.before args s = true := flat_of_before _ hg
  have hA : ∀ a : Nat, a < s.heap.size → ¬ s.heap.size ≤ a := fun a h => Nat.not_le.mpr h
  obtain ⟨D, hD⟩ := st_K hT
  obtain ⟨t0, e0, T0⟩ := va_Tof (A := fun x => s.heap.size ≤ x) (f := fun j => .long (jL ((10 ^ j : Nat) : Int))) (N := 19) (by decide) (hs _ st_l0.1) (va_eqt (hs _ st_l0.2)) (fun j hj => va_eqtl (hs _ (st_pw j hj))) hA
  obtain ⟨t1, e1, T1⟩ := va_Tof (A := fun x => s.heap.size ≤ x) (f := fun _ => .int 0) (N := 0) (by decide) (hs _ st_l1.1) (va_eqt (hs _ st_l1.2)) (fun j hj => absurd hj (Nat.not_lt_zero j)) hA
  obtain ⟨t2, e2, T2⟩ := va_Tof (A := fun x => s.heap.size ≤ x) (f := fun j => .int (nI (tkT j))) (N := 42) (by decide) (hs _ st_l2.1) (va_eqt (hs _ st_l2.2)) (fun j hj => va_eqt (hs _ (st_tk j hj))) hA
  obtain ⟨t3, e3, T3⟩ := va_Tof (A := fun x => s.heap.size ≤ x) (f := fun j => .int (nI (tyT j))) (N := 9) (by decide) (hs _ st_l3.1) (va_eqt (hs _ st_l3.2)) (fun j hj => va_eqt (hs _ (st_ty j hj))) hA
  obtain ⟨t4, e4, T4⟩ := va_Tof (A := fun x => s.heap.size ≤ x) (f := fun _ => .null) (N := 0) (by decide) (hs _ st_l4.1) (va_eqt (hs _ st_l4.2)) (fun j hj => absurd hj (Nat.not_lt_zero j)) hA
  obtain ⟨ak, av, hS, hev⟩ := vk_Sof (A := fun x => s.heap.size ≤ x) (s := s) (args := args) (N := 3) (tm := st_tm) (len := [4, 5, 2]) (byt := st_byt) (by decide) (fun i hi => hs _ (st_s1 i hi).1) (fun i hi => hs _ (st_s1 i hi).2.1) (fun i hi => hs _ (st_s1 i hi).2.2.1) (fun i hi => hs _ (st_s1 i hi).2.2.2) (fun i hi j hj => hs _ (st_s2 i hi j hj)) (fun i j hi hj hne => (st_s3 i hi j hj hne).imp (fun h => hs _ h) (fun h => hs _ h)) hA
  obtain ⟨mi, hM⟩ := va_Mi.of (hs _ st_s4.2.2.1)
  refine ⟨(D.1, D.2, st_G (fun i => [t0, t1, t2, t3, t4].getD i 0) ak av mi, s.heap.size), rfl, hD, ?_, ?_, ?_, ?_, ?_⟩
  · intro k q hq
    match k with
    | 0 => cases Option.some.inj hq; exact va_Zref (hts _ (st_in2 225 (by rfl))) (hT _ w_1) e0 hA
    | 1 => cases Option.some.inj hq; exact va_Zref (hts _ (st_in1 66 (by rfl))) (hT _ w_1) e1 hA
    | 2 => cases Option.some.inj hq; exact va_Zref (hts _ (st_in3 50 (by rfl))) (hT _ w_8) e2 hA
    | 3 => cases Option.some.inj hq; exact va_Zref (hts _ (st_in4 54 (by rfl))) (hT _ w_8) e3 hA
    | 4 => cases Option.some.inj hq; exact va_Zref (hts _ (st_in1 50 (by rfl))) (hT _ w_5) e4 hA
    | k + 5 => exact absurd hq (by rw [List.getElem?_eq_none (show statics.length ≤ k + 5 from Nat.le_add_left 5 k)]; exact fun h => by cases h)
  · refine ⟨fun i hi => ?_, hM, va_Dc.of (hts _ (st_in6 80 (by rfl))), va_Zof (hts _ (st_in4 7 (by rfl))) (hT _ w_20) (va_eqi (hs _ st_s4.2.2.2.1)) hA, va_Zqof (hts _ (st_in4 23 (by rfl))) (hT _ w_13) (hs _ st_s4.2.2.2.2) hA⟩
    match i, hi with
    | 0, hi => exact ⟨(hS.1 0 hi).1, (hS.1 0 hi).2.1, (hS.1 0 hi).2.2.1⟩
    | 1, hi => exact ⟨(hS.1 1 hi).1, (hS.1 1 hi).2.1, (hS.1 1 hi).2.2.1⟩
    | 2, hi => exact ⟨(hS.1 2 hi).1, (hS.1 2 hi).2.1, (hS.1 2 hi).2.2.1⟩
    | i + 3, hi => exact absurd hi (by omega)
  · refine ⟨st_Nst hts, ?_⟩
    have v0 := hev 0 (by decide)
    have v1 := hev 1 (by decide)
    have v2 := hev 2 (by decide)
    refine List.forall_mem_cons.mpr ⟨vk_R.of (hts _ (st_in3 232 (by rfl))) v0, List.forall_mem_cons.mpr ⟨vk_R.of (hts _ (st_in3 233 (by rfl))) v1, List.forall_mem_cons.mpr ⟨vk_R.of (hts _ (st_in6 30 (by rfl))) v2, List.forall_mem_cons.mpr ⟨vk_R.of (hts _ (st_in6 37 (by rfl))) (va_eqR (hs _ st_s4.1) v0), List.forall_mem_cons.mpr ⟨vk_R.of (hts _ (st_in6 38 (by rfl))) (va_eqR (hs _ st_s4.2.1) v1), fun _ h => absurd h List.not_mem_nil⟩⟩⟩⟩⟩
  · refine List.forall_mem_cons.mpr ⟨st_ofT T0 (fun j _ => rfl), List.forall_mem_cons.mpr ⟨st_ofT T1 (fun j _ => rfl), List.forall_mem_cons.mpr ⟨st_ofT T2 (fun j _ => rfl), List.forall_mem_cons.mpr ⟨st_ofT T3 (fun j _ => rfl), List.forall_mem_cons.mpr ⟨st_ofT T4 (fun j _ => rfl), List.forall_mem_cons.mpr ⟨st_ofT (hS.1 0 (by decide)).2.2.2 (fun j hj => ?_), List.forall_mem_cons.mpr ⟨st_ofT (hS.1 1 (by decide)).2.2.2 (fun j hj => ?_), List.forall_mem_cons.mpr ⟨st_ofT (hS.1 2 (by decide)).2.2.2 (fun j hj => ?_), fun _ h => absurd h List.not_mem_nil⟩⟩⟩⟩⟩⟩⟩⟩
    · exact congrArg Value.int (st_s5 0 (by decide) j hj)
    · exact congrArg Value.int (st_s5 1 (by decide) j hj)
    · exact congrArg Value.int (st_s5 2 (by decide) j hj)
  · exact ⟨fun e => absurd (hS.2 0 1 (by decide) (by decide) e) (by decide), fun e => absurd (hS.2 0 2 (by decide) (by decide) e) (by decide), fun e => absurd (hS.2 1 2 (by decide) (by decide) e) (by decide)⟩
theorem st_heap {E : hp_E} {s : State} {b L : Nat} {xs : Nat → Int32} (hE : st_E E s) (hL : L ≤ 2048) (hX : va_X b L xs s s.heap) : ∃ h0 : hp_H, h0.2 = (s.heap.size, 0) ∧ hp_R E s s.heap h0 ∧ SC E.2.2.1 s.heap.size h0 ∧ ∃ w, h0.1 b = some (.inr (w, .int, L, .inl xs)) := by
  obtain ⟨E1, E2, E3, E4, E5, E6, E7, E8, E9⟩ := hE
  have hb : hp_at E s s.heap b (.inr (false, .int, L, .inl xs)) := by
    obtain ⟨scr, h1, h2, h3, h4, h5⟩ := hX
    exact ⟨scr, h1, h2, h3, by rw [h4]; exact Nat.le_refl _, by rw [h4], h5, fun q => by cases q⟩
  have inj : ∀ i ∈ st_ks, ∀ j ∈ st_ks, E.2.2.1 i = E.2.2.1 j → j = i := fun i hi j hj e => by
    have h1 := E6 i hi
    have h2 := E6 j hj
    rw [← e] at h2
    obtain ⟨q1, q2, -⟩ := st_same (ty := (st_tab i).1) (N := (st_tab i).2.1) (f := (st_tab i).2.2) (ty' := (st_tab j).1) (N' := (st_tab j).2.1) (f' := (st_tab j).2.2) h1 h2 (st_small i hi) (st_small j hj)
    exact st_inj i hi j hj q1 q2
  have look : ∀ i ∈ st_ks, (if E.2.2.1 i = b then some (.inr (false, .int, L, .inl xs)) else st_hm E.2.2.1 st_ks (E.2.2.1 i)) = some (st_ce i) ∨ ((st_tab i).1 = .int ∧ (st_tab i).2.1 = L ∧ (if E.2.2.1 i = b then some (.inr (false, .int, L, .inl xs)) else st_hm E.2.2.1 st_ks (E.2.2.1 i)) = some (.inr (false, .int, L, .inl xs)) ∧ ∀ j, j < (st_tab i).2.1 → hp_av (st_tab i).2.2 j = .int (xs j)) := fun i hi => by
    by_cases e : E.2.2.1 i = b
    · rw [if_pos e]
      have h1 := E6 i hi
      rw [e] at h1
      obtain ⟨q1, q2, q3⟩ := st_same (ty := (st_tab i).1) (N := (st_tab i).2.1) (f := (st_tab i).2.2) h1 hb (st_small i hi) (by omega)
      exact Or.inr ⟨q1, q2, rfl, fun j hj => q3 j hj⟩
    · rw [if_neg e, st_hm_at st_ks (fun j hj => inj i hi j hj) hi]
      exact Or.inl rfl
  refine ⟨(fun a => if a = b then some (.inr (false, .int, L, .inl xs)) else st_hm E.2.2.1 st_ks a, s.heap.size, 0), rfl, ⟨rfl, by rw [E1]; exact Nat.le_refl _, fun a ce hce => ?_, E2, E3, E4⟩, ?_, false, if_pos rfl⟩
  · have h1 : (if a = b then some (.inr (false, .int, L, .inl xs)) else st_hm E.2.2.1 st_ks a) = some ce := hce
    by_cases e : a = b
    · rw [if_pos e] at h1
      cases Option.some.inj h1
      rw [e]
      exact hb
    · rw [if_neg e] at h1
      obtain ⟨k, k1, k2, k3⟩ := st_hm_of st_ks h1
      rw [k2, k3]
      exact E6 k k1
  · have lt : ∀ i ∈ st_ks, E.2.2.1 i < s.heap.size := fun i hi => (E6 i hi).lt
    refine ⟨fun i hi => lt i (by rcases (show i = 0 ∨ i = 1 ∨ i = 2 ∨ i = 3 ∨ i = 4 by omega) with h | h | h | h | h <;> subst h <;> decide), ?_, ?_, ?_, ?_, ?_, ⟨E7, E8, E9, ?_⟩, ?_⟩
    · rcases look 0 (by decide) with q | q
      · exact ⟨false, _, q, fun k _ => rfl⟩
      · exact absurd q.1 (by decide)
    · rcases look 1 (by decide) with q | q
      · exact ⟨false, _, q⟩
      · exact absurd q.1 (by decide)
    · rcases look 2 (by decide) with q | q
      · exact ⟨false, _, q, fun k _ => rfl⟩
      · obtain ⟨-, q2, q3, q4⟩ := q
        exact ⟨false, xs, q3.trans (by rw [← q2]; rfl), fun k hk => (Value.int.inj (q4 k hk)).symm⟩
    · rcases look 3 (by decide) with q | q
      · exact ⟨false, _, q, fun k _ => rfl⟩
      · obtain ⟨-, q2, q3, q4⟩ := q
        exact ⟨false, xs, q3.trans (by rw [← q2]; rfl), fun k hk => (Value.int.inj (q4 k hk)).symm⟩
    · rcases look 4 (by decide) with q | q
      · exact ⟨false, _, q⟩
      · exact absurd q.1 (by decide)
    · intro i hi
      match i, hi with
      | 0, _ =>
        rcases look 8 (by decide) with q | q
        · exact ⟨false, _, q, fun k _ => rfl⟩
        · exact absurd q.1 (by decide)
      | 1, _ =>
        rcases look 9 (by decide) with q | q
        · exact ⟨false, _, q, fun k _ => rfl⟩
        · exact absurd q.1 (by decide)
      | 2, _ =>
        rcases look 10 (by decide) with q | q
        · exact ⟨false, _, q, fun k _ => rfl⟩
        · exact absurd q.1 (by decide)
      | i + 3, hi => exact absurd hi (by omega)
    · intro i hi
      match i, hi with
      | 0, _ => exact lt 8 (by decide)
      | 1, _ => exact lt 9 (by decide)
      | 2, _ => exact lt 10 (by decide)
      | i + 3, hi => exact absurd hi (by omega)
