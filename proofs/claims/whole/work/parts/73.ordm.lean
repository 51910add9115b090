/-! THE ORDER OF VALUES IS AN ORDER -/
def Cmp {α : Type} (f : α → α → Int32) : Prop := (∀ x y, (f x y = -1 ∧ f y x = 1) ∨ (f x y = 0 ∧ f y x = 0) ∨ (f x y = 1 ∧ f y x = -1)) ∧ (∀ x y z, f x y = -1 → f y z = -1 → f x z = -1) ∧ ∀ x y z, f x y = 0 → f x z = f y z
def lexI {α : Type} (f g : α → α → Int32) : α → α → Int32 := fun x y => if f x y = 0 then g x y else f x y
theorem Cmp.cr {α : Type} {f : α → α → Int32} (h : Cmp f) (x y z : α) (e : f y z = 0) : f x y = f x z := by
  have h2 : f z y = 0 := by
    rcases h.1 y z with q | q | q
    · exact absurd (q.1.symm.trans e) (by decide)
    · exact q.2
    · exact absurd (q.1.symm.trans e) (by decide)
  have h3 := h.2.2 z y x h2
  rcases h.1 x y with q | q | q <;> rcases h.1 x z with r | r | r
  · rw [q.1, r.1]
  · rw [q.2, r.2] at h3; exact absurd h3 (by decide)
  · rw [q.2, r.2] at h3; exact absurd h3 (by decide)
  · rw [q.2, r.2] at h3; exact absurd h3 (by decide)
  · rw [q.1, r.1]
  · rw [q.2, r.2] at h3; exact absurd h3 (by decide)
  · rw [q.2, r.2] at h3; exact absurd h3 (by decide)
  · rw [q.2, r.2] at h3; exact absurd h3 (by decide)
  · rw [q.1, r.1]
theorem lexI_cmp {α : Type} {f g : α → α → Int32} (hf : Cmp f) (hg : Cmp g) : Cmp (lexI f g) := by
  refine ⟨fun x y => ?_, fun x y z h1 h2 => ?_, fun x y z h1 => ?_⟩
  · unfold lexI
    rcases hf.1 x y with q | q | q
    · rw [if_neg (by rw [q.1]; decide), if_neg (by rw [q.2]; decide)]; exact Or.inl q
    · rw [if_pos q.1, if_pos q.2]; exact hg.1 x y
    · rw [if_neg (by rw [q.1]; decide), if_neg (by rw [q.2]; decide)]; exact Or.inr (Or.inr q)
  · unfold lexI at *
    by_cases c1 : f x y = 0
    · rw [if_pos c1] at h1
      rw [hf.2.2 x y z c1]
      by_cases c2 : f y z = 0
      · rw [if_pos c2] at h2 ⊢; exact hg.2.1 x y z h1 h2
      · rw [if_neg c2] at h2 ⊢; exact h2
    · rw [if_neg c1] at h1
      by_cases c2 : f y z = 0
      · rw [← hf.cr x y z c2, if_neg c1]; exact h1
      · rw [if_neg c2] at h2
        have h3 := hf.2.1 x y z h1 h2
        rw [if_neg (by rw [h3]; decide)]; exact h3
  · unfold lexI at *
    by_cases c1 : f x y = 0
    · rw [if_pos c1] at h1
      rw [hf.2.2 x y z c1, hg.2.2 x y z h1]
    · rw [if_neg c1] at h1; exact absurd h1 c1
theorem cmN_an (a b : Nat) : (cmN a b = -1 ∧ cmN b a = 1) ∨ (cmN a b = 0 ∧ cmN b a = 0) ∨ (cmN a b = 1 ∧ cmN b a = -1) := by
  unfold cmN
  rcases Nat.lt_trichotomy a b with q | q | q
  · rw [if_pos q, if_neg (show ¬ b < a by omega), if_neg (show ¬ b = a by omega)]; exact Or.inl ⟨rfl, rfl⟩
  · rw [if_neg (show ¬ a < b by omega), if_pos q, if_neg (show ¬ b < a by omega), if_pos q.symm]; exact Or.inr (Or.inl ⟨rfl, rfl⟩)
  · rw [if_neg (show ¬ a < b by omega), if_neg (show ¬ a = b by omega), if_pos q]; exact Or.inr (Or.inr ⟨rfl, rfl⟩)
theorem cmN_cmp {α : Type} (k : α → Nat) : Cmp (fun x y => cmN (k x) (k y)) := by
  refine ⟨fun x y => ?_, fun x y z h1 h2 => ?_, fun x y z h1 => ?_⟩
  · exact cmN_an _ _
  · have n1 := (cmN_lt (k x) (k y)).mp (by show cmN (k x) (k y) < 0; rw [show cmN (k x) (k y) = -1 from h1]; decide)
    have n2 := (cmN_lt (k y) (k z)).mp (by show cmN (k y) (k z) < 0; rw [show cmN (k y) (k z) = -1 from h2]; decide)
    show cmN (k x) (k z) = -1
    unfold cmN
    rw [if_pos (by omega)]
  · have h1 : cmN (k x) (k y) = 0 := h1
    have e : k x = k y := by
      unfold cmN at h1
      by_cases c : k x < k y
      · rw [if_pos c] at h1; exact absurd h1 (by decide)
      · rw [if_neg c] at h1
        by_cases c2 : k x = k y
        · exact c2
        · rw [if_neg c2] at h1; exact absurd h1 (by decide)
    show cmN (k x) (k z) = cmN (k y) (k z)
    rw [e]
theorem cmN_0 {a b : Nat} : cmN a b = 0 ↔ a = b := by
  unfold cmN
  by_cases c : a < b
  · rw [if_pos c]; exact ⟨fun q => absurd q (by decide), fun q => by omega⟩
  · rw [if_neg c]
    by_cases c2 : a = b
    · rw [if_pos c2]; exact ⟨fun _ => c2, fun _ => rfl⟩
    · rw [if_neg c2]; exact ⟨fun q => absurd q (by decide), fun q => absurd q c2⟩
theorem sg_cmp {α : Type} (k : α → Int) : Cmp (fun x y => sgI (k x - k y)) := by
  have s1 : ∀ z : Int, sgI z = -1 ↔ z < 0 := fun z => by
    unfold sgI
    by_cases c : z < 0
    · rw [if_pos c]; exact ⟨fun _ => c, fun _ => rfl⟩
    · rw [if_neg c]
      by_cases c2 : z = 0
      · rw [if_pos c2]; exact ⟨fun q => absurd q (by decide), fun q => absurd q c⟩
      · rw [if_neg c2]; exact ⟨fun q => absurd q (by decide), fun q => absurd q c⟩
  have s3 : ∀ z : Int, 0 < z → sgI z = 1 := fun z hz => by unfold sgI; rw [if_neg (by omega), if_neg (by omega)]
  refine ⟨fun x y => ?_, fun x y z h1 h2 => ?_, fun x y z h1 => ?_⟩
  · rcases Int.lt_trichotomy (k x) (k y) with q | q | q
    · exact Or.inl ⟨(s1 _).mpr (by omega), s3 _ (by omega)⟩
    · exact Or.inr (Or.inl ⟨(sgI_0 _).mpr (by omega), (sgI_0 _).mpr (by omega)⟩)
    · exact Or.inr (Or.inr ⟨s3 _ (by omega), (s1 _).mpr (by omega)⟩)
  · have n1 := (s1 _).mp h1
    have n2 := (s1 _).mp h2
    exact (s1 _).mpr (by omega)
  · have n1 := (sgI_0 _).mp h1
    show sgI (k x - k z) = sgI (k y - k z)
    rw [show k x = k y by omega]
theorem cmB_0 : ∀ {a b : List Nat}, cmB a b = 0 → a = b
  | [], [], _ => rfl
  | [], y :: b, h => absurd h (by rw [cmB]; decide)
  | x :: a, [], h => absurd h (by rw [cmB]; decide)
  | x :: a, y :: b, h => by
    rw [cmB] at h
    by_cases c : x = y
    · rw [if_pos c] at h; rw [c, cmB_0 h]
    · rw [if_neg c] at h
      by_cases c2 : x < y
      · rw [if_pos c2] at h; exact absurd h (by decide)
      · rw [if_neg c2] at h; exact absurd h (by decide)
theorem cmB_rf : ∀ a : List Nat, cmB a a = 0
  | [] => rfl
  | x :: a => by rw [cmB, if_pos rfl, cmB_rf a]
theorem cmB_an : ∀ a b : List Nat, (cmB a b = -1 ∧ cmB b a = 1) ∨ (cmB a b = 0 ∧ cmB b a = 0) ∨ (cmB a b = 1 ∧ cmB b a = -1)
  | [], [] => Or.inr (Or.inl ⟨rfl, rfl⟩)
  | [], y :: b => Or.inl ⟨rfl, rfl⟩
  | x :: a, [] => Or.inr (Or.inr ⟨rfl, rfl⟩)
  | x :: a, y :: b => by
    rw [cmB, cmB]
    rcases Nat.lt_trichotomy x y with q | q | q
    · rw [if_neg (by omega), if_pos q, if_neg (by omega), if_neg (by omega)]; exact Or.inl ⟨rfl, rfl⟩
    · rw [if_pos q, if_pos q.symm]; exact cmB_an a b
    · rw [if_neg (by omega), if_neg (by omega), if_neg (by omega), if_pos q]; exact Or.inr (Or.inr ⟨rfl, rfl⟩)
theorem cmB_tr : ∀ a b c : List Nat, cmB a b = -1 → cmB b c = -1 → cmB a c = -1
  | [], [], c, h, _ => absurd h (by rw [cmB]; decide)
  | [], y :: b, [], _, h => absurd h (by rw [cmB]; decide)
  | [], y :: b, z :: c, _, _ => rfl
  | x :: a, [], c, h, _ => absurd h (by rw [cmB]; decide)
  | x :: a, y :: b, [], _, h => absurd h (by rw [cmB]; decide)
  | x :: a, y :: b, z :: c, h1, h2 => by
    rw [cmB] at *
    by_cases e1 : x = y
    · rw [if_pos e1] at h1
      subst e1
      by_cases e2 : x = z
      · rw [if_pos e2] at h2 ⊢; exact cmB_tr a b c h1 h2
      · rw [if_neg e2] at h2 ⊢; exact h2
    · rw [if_neg e1] at h1
      have l1 : x < y := by
        by_cases q : x < y
        · exact q
        · rw [if_neg q] at h1; exact absurd h1 (by decide)
      by_cases e2 : y = z
      · subst e2; rw [if_neg e1, if_pos l1]
      · rw [if_neg e2] at h2
        have l2 : y < z := by
          by_cases q : y < z
          · exact q
          · rw [if_neg q] at h2; exact absurd h2 (by decide)
        rw [if_neg (by omega), if_pos (by omega)]
theorem cmB_cmp {α : Type} (k : α → List Nat) : Cmp (fun x y => cmB (k x) (k y)) :=
  ⟨fun x y => cmB_an _ _, fun x y z => cmB_tr _ _ _, fun x y z h => by show cmB (k x) (k z) = cmB (k y) (k z); rw [cmB_0 h]⟩
def ordX : vV → vV → Int32 := lexI (fun x y => cmN (rkN x) (rkN y)) (lexI (fun x y => sgI (am9 x - am9 y)) (lexI (fun x y => cmB x.2.2.2.2 y.2.2.2.2) (lexI (fun x y => cmN x.1 y.1) (fun x y => cmN x.2.1 y.2.1))))
theorem ordX_cmp : Cmp ordX := lexI_cmp (cmN_cmp _) (lexI_cmp (sg_cmp _) (lexI_cmp (cmB_cmp _) (lexI_cmp (cmN_cmp _) (cmN_cmp _))))
theorem ord_X {x y : vV} (hx : vO x) (hy : vO y) : ordV x y = ordX x y := by
  unfold ordV ordX lexI
  dsimp only
  by_cases c : rkN x = rkN y
  · rw [if_pos c, if_pos (cmN_0.mpr c)]
    unfold byV
    cases hn : nbV x with
    | true =>
      have hkx : x.1 = 3 ∨ x.1 = 4 := by
        unfold nbV at hn
        rcases Bool.or_eq_true_iff.mp hn with q | q
        · exact Or.inl (by simpa using q)
        · exact Or.inr (by simpa using q)
      have hky : y.1 = 3 ∨ y.1 = 4 := by
        have h4 := hy.2.1
        unfold rkN at c
        by_cases q : y.1 = 4
        · exact Or.inr q
        · rw [if_neg q] at c
          rcases hkx with z | z <;> rw [z] at c
          · rw [if_neg (by decide)] at c; exact Or.inl c.symm
          · rw [if_pos rfl] at c; exact Or.inl c.symm
      have hb0 : cmB x.2.2.2.2 y.2.2.2.2 = 0 := by rw [(hx.2.2.2.1 hkx).2.1, (hy.2.2.2.1 hky).2.1]; rfl
      rw [if_pos (show true = true from rfl), if_pos hb0]
      by_cases c2 : sgI (am9 x - am9 y) = 0
      · rw [if_pos c2, if_pos c2]
        by_cases c3 : x.1 = y.1
        · rw [if_pos c3, if_pos (cmN_0.mpr c3)]
        · rw [if_neg c3, if_neg (fun q => c3 (cmN_0.mp q))]
      · rw [if_neg c2, if_neg c2]
    | false =>
      have hkx : ¬ (x.1 = 3 ∨ x.1 = 4) := by
        intro q
        unfold nbV at hn
        rcases q with q | q <;> rw [q] at hn <;> cases hn
      have hky : ¬ (y.1 = 3 ∨ y.1 = 4) := by
        intro q
        unfold rkN at c
        rw [if_neg (by omega)] at c
        rcases q with q | q
        · rw [if_neg (by omega)] at c; omega
        · rw [if_pos q] at c; omega
      have zx : am9 x = 0 := by unfold am9; rw [(hx.2.2.2.2.1 (by omega) (by omega)).1, Int.zero_mul]
      have zy : am9 y = 0 := by unfold am9; rw [(hy.2.2.2.2.1 (by omega) (by omega)).1, Int.zero_mul]
      have hs0 : sgI (am9 x - am9 y) = 0 := by rw [zx, zy]; rfl
      rw [if_neg (show ¬ false = true by decide), if_pos hs0]
      by_cases c2 : cmB x.2.2.2.2 y.2.2.2.2 = 0
      · rw [if_pos c2, if_pos c2]
        by_cases c3 : x.1 = y.1
        · rw [if_pos c3, if_pos (cmN_0.mpr c3)]
        · rw [if_neg c3, if_neg (fun q => c3 (cmN_0.mp q))]
      · rw [if_neg c2, if_neg c2]
  · rw [if_neg c, if_neg (fun q => c (cmN_0.mp q))]
theorem am9_inj {x y : vV} (hx : vO x) (hy : vO y) (kx : x.1 = 3 ∨ x.1 = 4) (ky : y.1 = 3 ∨ y.1 = 4) (h : am9 x = am9 y) : x.2.2.1 = y.2.2.1 ∧ x.2.2.2.1 = y.2.2.2.1 := by
  obtain ⟨-, -, -, x9, -, xm⟩ := hx.2.2.2.1 kx
  obtain ⟨-, -, -, y9, -, ym⟩ := hy.2.2.2.1 ky
  have hn : x.2.2.1.natAbs * 10 ^ (9 - x.2.2.2.1) = y.2.2.1.natAbs * 10 ^ (9 - y.2.2.2.1) := by rw [← am9_abs, ← am9_abs, h]
  have key : ∀ (a b s t : Nat), s ≤ t → t ≤ 9 → (t = 0 ∨ b % 10 ≠ 0) → a * 10 ^ (9 - s) = b * 10 ^ (9 - t) → s = t := fun a b s t st t9 hm e => by
    rcases Nat.eq_or_lt_of_le st with q | q
    · exact q
    · have e2 : a * 10 ^ (t - s) = b := by
        refine Nat.eq_of_mul_eq_mul_right (pw_pos (9 - t)) ?_
        rw [Nat.mul_assoc, ← Nat.pow_add, show t - s + (9 - t) = 9 - s by omega]
        exact e
      obtain ⟨d, hd⟩ : ∃ d, t - s = d + 1 := ⟨t - s - 1, by omega⟩
      rw [hd, Nat.pow_succ, ← Nat.mul_assoc] at e2
      rcases hm with hm | hm
      · omega
      · exfalso; rw [← e2, Nat.mul_mod_left] at hm; exact hm rfl
  have es : x.2.2.2.1 = y.2.2.2.1 := by
    rcases Nat.le_total x.2.2.2.1 y.2.2.2.1 with q | q
    · exact key _ _ _ _ q y9 ym hn
    · exact (key _ _ _ _ q x9 xm hn.symm).symm
  rw [es] at hn
  have ea : x.2.2.1.natAbs = y.2.2.1.natAbs := Nat.eq_of_mul_eq_mul_right (pw_pos _) hn
  have sg : sgI x.2.2.1 = sgI y.2.2.1 := by rw [← am9_sg x, ← am9_sg y, h]
  exact ⟨sg_ext sg ea, es⟩
theorem ord_0 {x y : vV} (hx : vO x) (hy : vO y) (h : ordV x y = 0) : x = y := by
  unfold ordV at h
  by_cases c : rkN x = rkN y
  · rw [if_pos c] at h
    by_cases c1 : byV x y = 0
    · rw [if_pos c1] at h
      by_cases c2 : x.1 = y.1
      · rw [if_pos c2] at h
        have c3 := cmN_0.mp h
        unfold byV at c1
        by_cases hk : x.1 = 3 ∨ x.1 = 4
        · have hn : nbV x = true := by unfold nbV; rcases hk with q | q <;> rw [q] <;> rfl
          rw [hn, if_pos rfl] at c1
          have e := (sgI_0 _).mp c1
          obtain ⟨a1, a2⟩ := am9_inj hx hy hk (by omega) (by omega)
          exact Prod.ext c2 (Prod.ext c3 (Prod.ext a1 (Prod.ext a2 (by rw [(hx.2.2.2.1 hk).2.1, (hy.2.2.2.1 (by omega)).2.1]))))
        · have hn : nbV x = false := by unfold nbV; rw [beq_false_of_ne (by omega), beq_false_of_ne (by omega)]; rfl
          rw [hn, if_neg (by decide)] at c1
          have e := cmB_0 c1
          have z1 := hx.2.2.2.2.1 (by omega) (by omega)
          have z2 := hy.2.2.2.2.1 (by omega) (by omega)
          exact Prod.ext c2 (Prod.ext c3 (Prod.ext (by rw [z1.1, z2.1]) (Prod.ext (by rw [z1.2, z2.2]) e)))
      · rw [if_neg c2] at h; exact absurd (cmN_0.mp h) c2
    · rw [if_neg c1] at h; exact absurd h c1
  · rw [if_neg c] at h; exact absurd (cmN_0.mp h) c
/-! sorting -/
def insV (v : vV) : List vV → List vV
  | [] => [v]
  | y :: r => if ordV y v = 1 then v :: y :: r else y :: insV v r
def srtV : List vV → List vV → List vV
  | [], s => s
  | v :: r, s => srtV r (insV v s)
/-- lt and le of the order, as truths -/
def ltB (x y : vV) : Bool := ordV x y == -1
theorem ord_an {x y : vV} (hx : vO x) (hy : vO y) : (ordV x y = -1 ∧ ordV y x = 1) ∨ (ordV x y = 0 ∧ ordV y x = 0) ∨ (ordV x y = 1 ∧ ordV y x = -1) := by
  rw [ord_X hx hy, ord_X hy hx]; exact ordX_cmp.1 x y
theorem ord_tr {x y z : vV} (hx : vO x) (hy : vO y) (hz : vO z) (h1 : ordV x y = -1) (h2 : ordV y z = -1) : ordV x z = -1 := by
  rw [ord_X hx hy] at h1
  rw [ord_X hy hz] at h2
  rw [ord_X hx hz]; exact ordX_cmp.2.1 x y z h1 h2
theorem ord_rf {x : vV} (hx : vO x) : ordV x x = 0 := by
  rcases ord_an hx hx with q | q | q
  · exact absurd (q.1.symm.trans q.2) (by decide)
  · exact q.1
  · exact absurd (q.1.symm.trans q.2) (by decide)
def leV (x y : vV) : Prop := ordV x y ≠ 1
theorem le_cases {x y : vV} (hx : vO x) (hy : vO y) (h : leV x y) : ordV x y = -1 ∨ x = y := by
  rcases ord_an hx hy with q | q | q
  · exact Or.inl q.1
  · exact Or.inr (ord_0 hx hy q.1)
  · exact absurd q.1 h
theorem le_tr {x y z : vV} (hx : vO x) (hy : vO y) (hz : vO z) (h1 : leV x y) (h2 : leV y z) : leV x z := by
  rcases le_cases hx hy h1 with a | a
  · rcases le_cases hy hz h2 with b | b
    · unfold leV; rw [ord_tr hx hy hz a b]; decide
    · rw [← b]; exact h1
  · rw [a]; exact h2
theorem ins_perm (v : vV) : ∀ s, (insV v s).Perm (v :: s)
  | [] => List.Perm.refl _
  | y :: r => by
    rw [insV]
    by_cases c : ordV y v = 1
    · rw [if_pos c]
    · rw [if_neg c]; exact ((ins_perm v r).cons y).trans (List.Perm.swap v y r)
theorem srt_perm : ∀ l s, (srtV l s).Perm (l ++ s)
  | [], s => List.Perm.refl _
  | v :: r, s => by
    rw [srtV]
    refine (srt_perm r (insV v s)).trans ?_
    refine ((ins_perm v s).append_left r).trans ?_
    exact List.perm_middle
theorem ins_srt {v : vV} (hv : vO v) : ∀ s, (∀ y ∈ s, vO y) → s.Pairwise leV → (insV v s).Pairwise leV
  | [], _, _ => by rw [insV]; exact List.pairwise_singleton _ _
  | y :: r, hy, hs => by
    have hy0 := hy y (List.mem_cons_self ..)
    obtain ⟨h1, h2⟩ := List.pairwise_cons.mp hs
    rw [insV]
    by_cases c : ordV y v = 1
    · rw [if_pos c]
      have hvy : leV v y := by
        rcases ord_an hv hy0 with q | q | q
        · unfold leV; rw [q.1]; decide
        · unfold leV; rw [q.1]; decide
        · rw [c] at q; exact absurd q.2 (by decide)
      refine List.pairwise_cons.mpr ⟨fun z hz => ?_, hs⟩
      rcases List.mem_cons.mp hz with e | e
      · rw [e]; exact hvy
      · exact le_tr hv hy0 (hy z (List.mem_cons_of_mem _ e)) hvy (h1 z e)
    · rw [if_neg c]
      refine List.pairwise_cons.mpr ⟨fun z hz => ?_, ins_srt hv r (fun z hz => hy z (List.mem_cons_of_mem _ hz)) h2⟩
      rcases List.mem_cons.mp ((ins_perm v r).mem_iff.mp hz) with e | e
      · rw [e]; exact c
      · exact h1 z e
theorem srt_srt : ∀ l s, (∀ y ∈ l, vO y) → (∀ y ∈ s, vO y) → s.Pairwise leV → (srtV l s).Pairwise leV
  | [], s, _, _, hs => hs
  | v :: r, s, hl, hy, hs => by
    rw [srtV]
    refine srt_srt r (insV v s) (fun y hy => hl y (List.mem_cons_of_mem _ hy)) (fun y h => ?_) (ins_srt (hl v (List.mem_cons_self ..)) s hy hs)
    rcases List.mem_cons.mp ((ins_perm v s).mem_iff.mp h) with e | e
    · rw [e]; exact hl v (List.mem_cons_self ..)
    · exact hy y e
/-- in a sorted row, what is less than y stands before y's places -/
theorem srt_at : ∀ (s : List vV) (y : vV) (r : Nat), (∀ z ∈ s, vO z) → s.Pairwise leV → s.countP (fun z => ltB z y) ≤ r → r < s.countP (fun z => ltB z y) + s.count y → y ∈ s → s[r]? = some y
  | [], y, r, _, _, _, _, h => by cases h
  | z :: s, y, r, hz, hs, h1, h2, hm => by
    have hz0 := hz z (List.mem_cons_self ..)
    have hy := hz y hm
    obtain ⟨p1, p2⟩ := List.pairwise_cons.mp hs
    rw [List.countP_cons] at h1 h2
    rw [List.count_cons] at h2
    by_cases c : ltB z y = true
    · rw [if_pos c] at h1 h2
      have hne : z ≠ y := fun e => by
        rw [e] at c
        have := ord_rf hy
        unfold ltB at c
        rw [this] at c
        exact absurd c (by decide)
      have hm2 : y ∈ s := by
        rcases List.mem_cons.mp hm with e | e
        · exact absurd e.symm hne
        · exact e
      rw [beq_false_of_ne hne, if_neg (show ¬ false = true by decide)] at h2
      obtain ⟨q, rfl⟩ : ∃ q, r = q + 1 := ⟨r - 1, by omega⟩
      rw [List.getElem?_cons_succ]
      exact srt_at s y q (fun w hw => hz w (List.mem_cons_of_mem _ hw)) p2 (by omega) (by omega) hm2
    · rw [if_neg c] at h1 h2
      have all0 : s.countP (fun w => ltB w y) = 0 := by
        rw [List.countP_eq_zero]
        intro w hw q
        have hw0 := hz w (List.mem_cons_of_mem _ hw)
        have hwy : ordV w y = -1 := by unfold ltB at q; simpa using q
        have hzw := p1 w hw
        rcases le_cases hz0 hw0 hzw with e | e
        · exact c (by unfold ltB; rw [ord_tr hz0 hw0 hy e hwy]; rfl)
        · rw [← e] at hwy; exact c (by unfold ltB; rw [hwy]; rfl)
      have hzy : z = y := by
        rcases List.mem_cons.mp hm with e | e
        · exact e.symm
        · rcases le_cases hz0 hy (p1 y e) with e2 | e2
          · exact absurd (show ltB z y = true by unfold ltB; rw [e2]; rfl) c
          · exact e2
      rw [all0] at h1 h2
      cases r with
      | zero => rw [List.getElem?_cons_zero, hzy]
      | succ q =>
        rw [List.getElem?_cons_succ]
        rw [hzy, beq_self_eq_true, if_pos rfl] at h2
        refine srt_at s y q (fun w hw => hz w (List.mem_cons_of_mem _ hw)) p2 (by omega) (by omega) ?_
        have : 0 < s.count y := by omega
        exact List.count_pos_iff.mp this
theorem occ {y : vV} : ∀ (l : List vV) (i : Nat), i < l.count y → ∃ k, l[k]? = some y ∧ (l.take k).count y = i
  | [], i, h => by simp at h
  | z :: l, i, h => by
    rw [List.count_cons] at h
    by_cases c : z = y
    · rw [c, beq_self_eq_true, if_pos rfl] at h
      cases i with
      | zero => exact ⟨0, by rw [c]; rfl, by rw [List.take_zero]; rfl⟩
      | succ i =>
        obtain ⟨k, h1, h2⟩ := occ (y := y) l i (by omega)
        exact ⟨k + 1, by rw [List.getElem?_cons_succ]; exact h1, by rw [List.take_succ_cons, List.count_cons, h2, c, beq_self_eq_true, if_pos rfl]⟩
    · rw [beq_false_of_ne c, if_neg (show ¬ false = true by decide)] at h
      obtain ⟨k, h1, h2⟩ := occ l i (by omega)
      exact ⟨k + 1, by rw [List.getElem?_cons_succ]; exact h1, by rw [List.take_succ_cons, List.count_cons, h2, beq_false_of_ne c, if_neg (show ¬ false = true by decide), Nat.add_zero]⟩
