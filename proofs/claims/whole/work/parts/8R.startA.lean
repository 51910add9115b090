/-! THE START: what the Statement gives of the static fields, the constant Strings, the classes -/
def st_tab : Nat → FieldType × Nat × hp_Ar := fun k => match k with
  | 0 => (.long, 19, .inr (.inl fun j => jL ((10 ^ j : Nat) : Int)))
  | 1 => (.byte, 0, .inl fun _ => 0)
  | 2 => (.int, 42, .inl fun j => nI (tkT j))
  | 3 => (.int, 9, .inl fun j => nI (tyT j))
  | 4 => (.object "java/lang/Object", 0, .inr (.inr fun _ => none))
  | 8 => (.byte, 4, .inl fun j => nI ((wdS 0).getD j 0))
  | 9 => (.byte, 5, .inl fun j => nI ((wdS 1).getD j 0))
  | _ => (.byte, 2, .inl fun j => nI ((wdS 2).getD j 0))
abbrev st_ks : List Nat := [0, 1, 2, 3, 4, 8, 9, 10]
def st_ce (k : Nat) : hp_Ce := .inr (false, st_tab k)
def st_hm (G : Nat → Nat) : List Nat → Nat → Option hp_Ce
  | [], _ => none
  | k :: ks, a => if a = G k then some (st_ce k) else st_hm G ks a
theorem st_hm_at {G : Nat → Nat} {i : Nat} : ∀ ks : List Nat, (∀ j ∈ ks, G i = G j → j = i) → i ∈ ks → st_hm G ks (G i) = some (st_ce i)
  | [], _, h => absurd h List.not_mem_nil
  | k :: ks, hj, h => by
    show (if G i = G k then some (st_ce k) else st_hm G ks (G i)) = some (st_ce i)
    by_cases e : G i = G k
    · rw [if_pos e, hj k List.mem_cons_self e]
    · rw [if_neg e]
      rcases List.mem_cons.mp h with h | h
      · exact absurd (by rw [h]) e
      · exact st_hm_at ks (fun j hq => hj j (List.mem_cons_of_mem _ hq)) h
theorem st_hm_of {G : Nat → Nat} {a : Nat} {ce : hp_Ce} : ∀ ks : List Nat, st_hm G ks a = some ce → ∃ k, k ∈ ks ∧ a = G k ∧ ce = st_ce k
  | [], h => by cases h
  | k :: ks, h => by
    have h' : (if a = G k then some (st_ce k) else st_hm G ks a) = some ce := h
    by_cases e : a = G k
    · rw [if_pos e] at h'
      exact ⟨k, List.mem_cons_self, e, (Option.some.inj h').symm⟩
    · rw [if_neg e] at h'
      obtain ⟨q, h1, h2⟩ := st_hm_of ks h'
      exact ⟨q, List.mem_cons_of_mem _ h1, h2⟩
theorem st_inj : ∀ i ∈ st_ks, ∀ j ∈ st_ks, (st_tab i).1 = (st_tab j).1 → (st_tab i).2.1 = (st_tab j).2.1 → j = i := by decide +kernel
theorem st_small : ∀ i ∈ st_ks, (st_tab i).2.1 < 2 ^ 31 := by decide +kernel
theorem st_same {E : hp_E} {s : State} {H : Heap} {a : Nat} {ty ty' : FieldType} {N N' : Nat} {f f' : hp_Ar} (h : hp_at E s H a (.inr (false, ty, N, f))) (h' : hp_at E s H a (.inr (false, ty', N', f'))) (hN : N < 2 ^ 31) (hN' : N' < 2 ^ 31) : ty = ty' ∧ N = N' ∧ ∀ j, j < N → hp_av f j = hp_av f' j := by
  obtain ⟨c1, a1, a2, a3, a4, a5, a6, -⟩ := h
  obtain ⟨c2, b1, b2, b3, b4, b5, b6, -⟩ := h'
  cases a1.symm.trans b1
  obtain ⟨-, k, k1, cp, k2⟩ := a2
  obtain ⟨-, k', k1', cp', k2'⟩ := b2
  cases k1.symm.trans k1'
  have e := k2.symm.trans k2'
  have en : N = N' := by
    have := a5.symm.trans b5
    have h1 := nI_clamp hN
    have h2 := nI_clamp hN'
    have h3 : nI N = nI N' := this
    rw [h3, h2] at h1
    exact h1.symm
  subst en
  refine ⟨?_, rfl, fun j hj => Option.some.inj ((a6 j hj).symm.trans (b6 j hj))⟩
  cases e
  rfl
theorem st_in1 {w : Cond} (j : Nat) (hj : tables_1_1[j]? = some w) : w ∈ lw_tbl := List.mem_append_right _ (show w ∈ tables_1 from List.mem_append_left _ (List.mem_of_getElem? hj))
theorem st_in2 {w : Cond} (j : Nat) (hj : tables_1_2[j]? = some w) : w ∈ lw_tbl := List.mem_append_right _ (show w ∈ tables_1 from List.mem_append_right _ (List.mem_append_left _ (List.mem_of_getElem? hj)))
theorem st_in3 {w : Cond} (j : Nat) (hj : tables_1_3[j]? = some w) : w ∈ lw_tbl := List.mem_append_right _ (show w ∈ tables_1 from List.mem_append_right _ (List.mem_append_right _ (List.mem_append_left _ (List.mem_of_getElem? hj))))
theorem st_in4 {w : Cond} (j : Nat) (hj : tables_1_4[j]? = some w) : w ∈ lw_tbl := List.mem_append_right _ (show w ∈ tables_1 from List.mem_append_right _ (List.mem_append_right _ (List.mem_append_right _ (List.mem_append_left _ (List.mem_of_getElem? hj)))))
theorem st_in6 {w : Cond} (j : Nat) (hj : tables_1_6[j]? = some w) : w ∈ lw_tbl := List.mem_append_right _ (show w ∈ tables_1 from List.mem_append_right _ (List.mem_append_right _ (List.mem_append_right _ (List.mem_append_right _ (List.mem_append_right _ (List.mem_of_getElem? hj))))))
/-! the classes -/
theorem st_K {s : State} {args : Array Value} (hts : ∀ w ∈ hp_T, w.before args s = true) : ∃ D : (Nat → ClassId) × (Nat → Nat → Nat), ∀ (c : Nat) (q : vw_C), classes[c]? = some q → u_Kn s q.1 q.2.1 q.2.2 (D.1 c) (D.2 c) := by
  have h : ∀ c : Nat, ∃ q : ClassId × (Nat → Nat), ∀ r : vw_C, classes[c]? = some r → u_Kn s r.1 r.2.1 r.2.2 q.1 q.2 := by
    intro c
    match c with
    | 0 => obtain ⟨a, b, h⟩ := u_known hts i_D (hts _ w_24); exact ⟨(a, b), fun r hr => by cases Option.some.inj hr; exact h⟩
    | 1 => obtain ⟨a, b, h⟩ := u_known hts i_S (hts _ w_32); exact ⟨(a, b), fun r hr => by cases Option.some.inj hr; exact h⟩
    | 2 => obtain ⟨a, b, h⟩ := u_known hts i_AL (hts _ w_38); exact ⟨(a, b), fun r hr => by cases Option.some.inj hr; exact h⟩
    | 3 => obtain ⟨a, b, h⟩ := u_known hts i_V (hts _ w_64); exact ⟨(a, b), fun r hr => by cases Option.some.inj hr; exact h⟩
    | 4 => obtain ⟨a, b, h⟩ := u_known hts i_R (hts _ w_117); exact ⟨(a, b), fun r hr => by cases Option.some.inj hr; exact h⟩
    | 5 => obtain ⟨a, b, h⟩ := u_known hts i_E (hts _ w_154); exact ⟨(a, b), fun r hr => by cases Option.some.inj hr; exact h⟩
    | 6 => obtain ⟨a, b, h⟩ := u_known hts i_K (hts _ w_162); exact ⟨(a, b), fun r hr => by cases Option.some.inj hr; exact h⟩
    | 7 => obtain ⟨a, b, h⟩ := u_known hts i_G (hts _ w_214); exact ⟨(a, b), fun r hr => by cases Option.some.inj hr; exact h⟩
    | 8 => obtain ⟨a, b, h⟩ := u_known hts i_M (hts _ w_847); exact ⟨(a, b), fun r hr => by cases Option.some.inj hr; exact h⟩
    | c + 9 => exact ⟨(0, fun _ => 0), fun r hr => absurd hr (by rw [List.getElem?_eq_none (show classes.length ≤ c + 9 from Nat.le_add_left 9 c)]; exact fun h => by cases h)⟩
  obtain ⟨D, hD⟩ := Classical.axiomOfChoice h
  exact ⟨(fun c => (D c).1, fun c => (D c).2), fun c q hq => hD c q hq⟩
/-! the static arrays -/
abbrev st_g : List Cond := flatC (Jvm.Cond.and given_1 narrow_1)
abbrev tPW : Term := .static "ExpressionDesk" "POWERS" "[J"
abbrev tNB : Term := .static "ExpressionDesk" "NO_BYTES" "[B"
abbrev tTK : Term := .static "ExpressionDesk$Expression" "TAKES" "[I"
abbrev tTY : Term := .static "ExpressionDesk$Expression" "TYPE_NAMES" "[I"
abbrev tDE : Term := .static "java/util/ArrayList" "DEFAULTCAPACITY_EMPTY_ELEMENTDATA" "[Ljava/lang/Object;"
theorem st_pw : ∀ j : Nat, j < 19 → Cond.eq (.elem tPW (.int (Int32.ofNat j))) (.long (jL ((10 ^ j : Nat) : Int))) ∈ st_g := by decide +kernel
theorem st_tk : ∀ j : Nat, j < 42 → Cond.eq (.elem tTK (.int (Int32.ofNat j))) (.int (nI (tkT j))) ∈ st_g := by decide +kernel
theorem st_ty : ∀ j : Nat, j < 9 → Cond.eq (.elem tTY (.int (Int32.ofNat j))) (.int (nI (tyT j))) ∈ st_g := by decide +kernel
theorem st_l0 : Cond.arrayOf tPW .long ∈ st_g ∧ Cond.eq (.length tPW) (.int (Int32.ofNat 19)) ∈ st_g := by decide +kernel
theorem st_l1 : Cond.arrayOf tNB .byte ∈ st_g ∧ Cond.eq (.length tNB) (.int (Int32.ofNat 0)) ∈ st_g := by decide +kernel
theorem st_l2 : Cond.arrayOf tTK .int ∈ st_g ∧ Cond.eq (.length tTK) (.int (Int32.ofNat 42)) ∈ st_g := by decide +kernel
theorem st_l3 : Cond.arrayOf tTY .int ∈ st_g ∧ Cond.eq (.length tTY) (.int (Int32.ofNat 9)) ∈ st_g := by decide +kernel
theorem st_l4 : Cond.arrayOf tDE (.object "java/lang/Object") ∈ st_g ∧ Cond.eq (.length tDE) (.int (Int32.ofNat 0)) ∈ st_g := by decide +kernel
/-! the constant Strings -/
def st_tm : Nat → Term := fun i => match i with
  | 0 => .string "ExpressionDesk$Row" 82
  | 1 => .string "ExpressionDesk$Row" 84
  | _ => .string "ExpressionDeskModel" 215
def st_byt : List (List Int32) := [[116, 114, 117, 101], [102, 97, 108, 115, 101], [46, 48]]
theorem st_s1 : ∀ i : Nat, i < 3 → Cond.exactly (st_tm i) "java/lang/String" ∈ st_g ∧ Cond.eq (.field (st_tm i) "java/lang/String" "coder" "B") (.int 0) ∈ st_g ∧ Cond.arrayOf (.field (st_tm i) "java/lang/String" "value" "[B") .byte ∈ st_g ∧ Cond.eq (.length (.field (st_tm i) "java/lang/String" "value" "[B")) (.int (Int32.ofNat ([4, 5, 2].getD i 0))) ∈ st_g := by decide +kernel
theorem st_s2 : ∀ i : Nat, i < 3 → ∀ j : Nat, j < [4, 5, 2].getD i 0 → Cond.eq (.elem (.field (st_tm i) "java/lang/String" "value" "[B") (.int (Int32.ofNat j))) (.int ((st_byt.getD i []).getD j 0)) ∈ st_g := by decide +kernel
theorem st_s3 : ∀ i : Nat, i < 3 → ∀ j : Nat, j < 3 → i ≠ j → Cond.not (Cond.eq (st_tm i) (st_tm j)) ∈ st_g ∨ Cond.not (Cond.eq (st_tm j) (st_tm i)) ∈ st_g := by decide +kernel
theorem st_s4 : Cond.eq (.string "ExpressionDesk$Row" 82) (.string "ExpressionDeskModel" 194) ∈ st_g ∧ Cond.eq (.string "ExpressionDesk$Row" 84) (.string "ExpressionDeskModel" 196) ∈ st_g ∧ Cond.isRef (.mirror "[Ljava/lang/Object;") ∈ st_g ∧ Cond.eq (.static "java/lang/String" "COMPACT_STRINGS" "Z") (.int 1) ∈ st_g ∧ Cond.isRef (.static "jdk/internal/util/Preconditions" "SIOOBE_FORMATTER" "Ljava/util/function/BiFunction;") ∈ st_g := by decide +kernel
theorem st_s5 : ∀ i : Nat, i < 3 → ∀ j : Nat, j < [4, 5, 2].getD i 0 → (st_byt.getD i []).getD j 0 = nI ((wdS i).getD j 0) := by decide +kernel
