/-! ARGUMENTS: what lies on the stack: an ERROR or the number of a value -/
def AR (vs : List vV) (a : Int32) (ox : Option vV) : Prop := (ox = none ∧ a = -4) ∨ ∃ i x, ox = some x ∧ a = nI (i + 1) ∧ vs[i]? = some x
def sA (S : lm_S) (vs : List vV) (at_ : Nat) (xs : List (Option vV)) : Prop := ∀ j ox, xs[j]? = some ox → AR vs (S.2 17 (at_ + j)) ox
theorem sA.f {S S' : lm_S} {vs : List vV} {at_ : Nat} {xs : List (Option vV)} (h : sA S vs at_ xs) (hf : S'.2 17 = S.2 17) : sA S' vs at_ xs := fun j ox hj => by rw [hf]; exact h j ox hj
theorem AR_n {vs : List vV} {a : Int32} (h : AR vs a none) : a = -4 := by
  rcases h with ⟨-, h⟩ | ⟨i, x, h, -⟩
  · exact h
  · cases h
theorem AR_s {vs : List vV} {a : Int32} {x : vV} (h : AR vs a (some x)) : ∃ i, a = nI (i + 1) ∧ vs[i]? = some x := by
  rcases h with ⟨h, -⟩ | ⟨i, y, h, h2, h3⟩
  · cases h
  · injection h with h; subst h; exact ⟨i, h2, h3⟩
def vsO (vs : List vV) : Prop := vs.Nodup ∧ vs.length ≤ 2000 ∧ ∀ x ∈ vs, vO x ∧ x.2.2.2.2.length ≤ 64
theorem vsO.o {vs : List vV} (h : vsO vs) {i : Nat} {x : vV} (hx : vs[i]? = some x) : vO x := (h.2.2 x (List.mem_of_getElem? hx)).1
/-- what keeping answers: none is FULL, some none is ERROR -/
def kV (vs : List vV) (ox : Option vV) : Option (Option vV) × List vV := match ox with
  | none => (some none, vs)
  | some x => if 64 < x.2.2.2.2.length then (some none, vs) else if x ∈ vs then (some (some x), vs) else if vs.length = 2000 then (none, vs) else (some (some x), vs ++ [x])
def rI (vs : List vV) (r : Option (Option vV)) : Int32 := match r with
  | none => -3
  | some none => -4
  | some (some x) => nI (vs.idxOf x + 1)
theorem idx_get {vs : List vV} {x : vV} (h : x ∈ vs) : vs[vs.idxOf x]? = some x := by
  have h1 := List.idxOf_lt_length_of_mem h
  rw [List.getElem?_eq_getElem h1, List.getElem_idxOf h1]
theorem idx_app {vs : List vV} {x : vV} (h : x ∉ vs) : (vs ++ [x]).idxOf x = vs.length := by
  refine idx_of (by rw [List.getElem?_append_right (Nat.le_refl _), Nat.sub_self]; rfl) (fun j hj q => ?_)
  rw [List.getElem?_append_left hj] at q
  exact h (List.mem_of_getElem? q)
theorem kq_kV (vs : List vV) (ox : Option vV) : kq vs ox = (rI (kV vs ox).2 (kV vs ox).1, (kV vs ox).2) := by
  cases ox with
  | none => rfl
  | some x =>
    show kp vs x = _
    unfold kp kV
    by_cases c1 : 64 < x.2.2.2.2.length
    · simp only [c1, if_true]; rfl
    · simp only [if_neg c1]
      by_cases c2 : x ∈ vs
      · simp only [if_pos c2]; rfl
      · simp only [if_neg c2]
        by_cases c3 : vs.length = 2000
        · simp only [if_pos c3]; rfl
        · simp only [if_neg c3, rI, idx_app c2]
theorem kV_sub (vs : List vV) (ox : Option vV) : ∃ l, (kV vs ox).2 = vs ++ l := by
  cases ox with
  | none => exact ⟨[], (List.append_nil vs).symm⟩
  | some x =>
    unfold kV
    by_cases c1 : 64 < x.2.2.2.2.length
    · simp only [if_pos c1]; exact ⟨[], (List.append_nil vs).symm⟩
    · simp only [if_neg c1]
      by_cases c2 : x ∈ vs
      · simp only [if_pos c2]; exact ⟨[], (List.append_nil vs).symm⟩
      · simp only [if_neg c2]
        by_cases c3 : vs.length = 2000
        · simp only [if_pos c3]; exact ⟨[], (List.append_nil vs).symm⟩
        · simp only [if_neg c3]; exact ⟨[x], rfl⟩
theorem kV_mem (vs : List vV) (ox : Option vV) (y : vV) (h : (kV vs ox).1 = some (some y)) : y ∈ (kV vs ox).2 := by
  cases ox with
  | none => cases h
  | some x =>
    unfold kV at h ⊢
    by_cases c1 : 64 < x.2.2.2.2.length
    · simp only [if_pos c1] at h; cases h
    · simp only [if_neg c1] at h ⊢
      by_cases c2 : x ∈ vs
      · simp only [if_pos c2] at h ⊢; injection h with h; injection h with h; subst h; exact c2
      · simp only [if_neg c2] at h ⊢
        by_cases c3 : vs.length = 2000
        · simp only [if_pos c3] at h; cases h
        · simp only [if_neg c3] at h ⊢; injection h with h; injection h with h; subst h; simp
theorem kV_O {vs : List vV} {ox : Option vV} (h : vsO vs) (hx : ∀ x, ox = some x → vO x) : vsO (kV vs ox).2 := by
  cases ox with
  | none => exact h
  | some x =>
    unfold kV
    by_cases c1 : 64 < x.2.2.2.2.length
    · simp only [if_pos c1]; exact h
    · simp only [if_neg c1]
      by_cases c2 : x ∈ vs
      · simp only [if_pos c2]; exact h
      · simp only [if_neg c2]
        by_cases c3 : vs.length = 2000
        · simp only [if_pos c3]; exact h
        · simp only [if_neg c3]
          refine ⟨?_, ?_, ?_⟩
          · rw [List.nodup_append]
            refine ⟨h.1, by simp, fun a ha b hb => ?_⟩
            simp at hb
            rw [hb]
            exact fun q => c2 (q ▸ ha)
          · rw [List.length_append]; have := h.2.1; simp; omega
          · intro y hy
            rcases List.mem_append.mp hy with q | q
            · exact h.2.2 y q
            · simp at q; rw [q]; exact ⟨hx x rfl, by omega⟩
theorem AR.mono {vs : List vV} {a : Int32} {ox : Option vV} (h : AR vs a ox) (l : List vV) : AR (vs ++ l) a ox := by
  rcases h with h | ⟨i, x, h1, h2, h3⟩
  · exact Or.inl h
  · exact Or.inr ⟨i, x, h1, h2, by rw [List.getElem?_append_left (List.getElem?_eq_some_iff.mp h3).1]; exact h3⟩
theorem AR_rI {vs : List vV} {ox : Option vV} (h : ∀ x, ox = some x → x ∈ vs) : AR vs (rI vs (some ox)) ox := by
  cases ox with
  | none => exact Or.inl ⟨rfl, rfl⟩
  | some x => exact Or.inr ⟨vs.idxOf x, x, rfl, rfl, idx_get (h x rfl)⟩
/-- what a method with an answer r (an index, ERROR or FULL) and the values vs' does -/
def RW (o : Nat) (h : hp_H) (S : lm_S) (m : Option (Int32 × hp_H)) (r : Option (Option vV)) (vs' : List vV) : Prop := ∃ S', m = some (rI vs' r, lm_w o h S') ∧ rm_A S' vs' ∧ fS S S'
theorem RK.w {o : Nat} {h : hp_H} {S : lm_S} {vs : List vV} {m : Option (Int32 × hp_H)} {ox : Option vV} (hk : RK o h S vs m ox) : RW o h S m (kV vs ox).1 (kV vs ox).2 := by
  obtain ⟨S', e1, e2, e3⟩ := hk
  rw [kq_kV] at e1 e2
  exact ⟨S', e1, e2, e3⟩
/-! truth of what lies on the stack; AND, OR -/
theorem rm_truA (G : Nat → Nat) (o : Nat) (h : hp_H) (S : lm_S) (vs : List vV) (a : Int32) (ox : Option vV) (hA : rm_A S vs) (hO : vsO vs) (ha : AR vs a ox) : m_M_truthOf G o a (lm_w o h S) = some (tI (ox.bind truV), lm_w o h S) := by
  cases ox with
  | none =>
    rw [AR_n ha]
    unfold m_M_truthOf
    rw [if_neg (by decide)]
    rfl
  | some x =>
    obtain ⟨i, rfl, hx⟩ := AR_s ha
    exact rm_truthOf G o h S vs i x hA hx (hO.o hx)
def btV (s t : Option Bool) (d : Bool) : Option Bool := if s = some d ∨ t = some d then some d else if s = none ∨ t = none then none else some (!d)
theorem rm_both (G : Nat → Nat) (o : Nat) (h : hp_H) (S : lm_S) (vs : List vV) (a b : Int32) (ox oy : Option vV) (d : Bool) (hA : rm_A S vs) (hO : vsO vs) (ha : AR vs a ox) (hb : AR vs b oy) : RK o h S vs (m_M_both G o a b (bI d) (lm_w o h S)) ((btV (ox.bind truV) (oy.bind truV) d).map trV) := by
  unfold m_M_both m_M_both_26 m_M_both_42 m_M_both_54
  simp only [lm_vck, rm_truA G o h S vs a ox hA hO ha, rm_truA G o h S vs b oy hA hO hb, bs, hp_nmE, bq]
  have g := fun t => rm_given G o h S vs t hA
  have no : RK o h S vs (some (-4, lm_w o h S)) none := ⟨S, rfl, hA, fS.rf⟩
  generalize ox.bind truV = s
  generalize oy.bind truV = t
  rcases s with _ | _ | _ <;> rcases t with _ | _ | _ <;> cases d
  · exact no
  · exact no
  · exact g (some false)
  · exact no
  · exact no
  · exact g (some true)
  · exact g (some false)
  · exact no
  · exact g (some false)
  · exact g (some false)
  · exact g (some false)
  · exact g (some true)
  · exact no
  · exact g (some true)
  · exact g (some false)
  · exact g (some true)
  · exact g (some true)
  · exact g (some true)
def bnV (bd : Nat → Nat) (a : Int32) : Int32 := if a < 0 then 0 else if 10 ≤ a then 0 else nI (bd a.toNatClampNeg)
theorem rm_bindingOf (G : Nat → Nat) (o : Nat) (h : hp_H) (S : lm_S) (bd : Nat → Nat) (hb : ∀ k, k < 10 → S.2 16 k = nI (bd k)) (a : Int32) : m_M_bindingOf G o a (lm_w o h S) = some (bnV bd a, lm_w o h S) := by
  unfold m_M_bindingOf m_M_bindingOf_19 m_M_bindingOf_20 bnV
  by_cases c : a < 0
  · rw [if_pos c, if_pos c]
  · rw [if_neg c, if_neg c]
    by_cases c2 : 10 ≤ a
    · rw [if_pos c2, if_pos c2]
    · rw [if_neg c2, if_neg c2]
      obtain ⟨j, hj, rfl⟩ := nI_of c
      have hj2 : j < 10 := Nat.lt_of_not_le fun q => c2 (nI_le (a := 10) q hj)
      have l16 := lm_a16 o h S j hj2
      rw [hb j hj2] at l16
      simp only [lm_g23, l16, bs, nI_clamp hj]
/-! IN -/
def eqA (x : vV) (oy : Option vV) : Option Bool := oy.bind (eqV x)
def inL (x : vV) (ys : List (Option vV)) : Option Bool := if ys.any (fun y => eqA x y == some true) then some true else if ys.any (fun y => eqA x y == none) then none else some false
theorem rm_isIn_22 (G : Nat → Nat) (o : Nat) (h : hp_H) (S0 : lm_S) (vs : List vV) (hO : vsO vs) (i : Nat) (x : vV) (hx : vs[i]? = some x) (at_ m : Nat) (ys : List (Option vV)) (hm : ys.length = m) (hat : at_ + m < 102) (f0 w0 : Bool) : ∀ (n k : Nat) (S : lm_S) (f w : Bool), k ≤ m → m - k < n → rm_A S vs → fS S0 S → S.2 17 at_ = nI (i + 1) → sA S vs (at_ + 1) ys → ((f || (ys.drop k).any (fun y => eqA x y == some true)) = f0) → ((w || (ys.drop k).any (fun y => eqA x y == none)) = w0) → RK o h S0 vs (m_M_isIn_22 G n o (nI at_) (nI m) (bI f) (bI w) (nI (k + 1)) (lm_w o h S)) ((if f0 then some true else if w0 then none else some false).map trV)
  | 0, k, S, f, w, _, hn, _, _, _, _, _, _ => by omega
  | n + 1, k, S, f, w, hk, hn, hA, hS, h0, hs, hf, hw => by
    rw [m_M_isIn_22]
    unfold m_M_isIn_136
    simp only [nI_ltI (show m < 2 ^ 31 by omega) (show k + 1 < 2 ^ 31 by omega), lm_vck, bq]
    by_cases c : m < k + 1
    · rw [if_pos c]
      rw [List.drop_eq_nil_of_le (by omega), List.any_nil, Bool.or_false] at hf hw
      subst hf
      subst hw
      cases f with
      | false =>
        rw [if_pos (show bI false = 0 from rfl), if_neg (show ¬ false = true by decide)]
        cases w with
        | false => rw [if_pos (show bI false = 0 from rfl), if_neg (show ¬ false = true by decide)]; exact RK.from hS (rm_truth G o h S vs false hA)
        | true => rw [if_neg (show ¬ bI true = 0 by decide), if_pos (show true = true from rfl)]; exact ⟨S, rfl, hA, hS⟩
      | true => rw [if_neg (show ¬ bI true = 0 by decide), if_pos (show true = true from rfl)]; exact RK.from hS (rm_truth G o h S vs true hA)
    · rw [if_neg c]
      obtain ⟨oy, hy⟩ : ∃ oy, ys[k]? = some oy := ⟨_, List.getElem?_eq_getElem (by omega)⟩
      have hd : ys.drop k = oy :: ys.drop (k + 1) := by
        obtain ⟨hk2, e⟩ := List.getElem?_eq_some_iff.mp hy
        rw [List.drop_eq_getElem_cons hk2, e]
      rw [hd, List.any_cons, ← Bool.or_assoc] at hf hw
      have ha := hs k oy hy
      rw [show at_ + 1 + k = at_ + (k + 1) by omega] at ha
      have l1 := lm_a17 o h S (at_ + (k + 1)) (by omega)
      have l0 := lm_a17 o h S at_ (by omega)
      rw [h0] at l0
      simp only [lm_g24, nI_add, l1, l0, bs]
      have fin : ∀ S1 : lm_S, xS S S1 → RK o h S0 vs (m_M_isIn_66 G (m_M_isIn_22 G n) o (nI at_) (nI m) (bI f) (bI w) (nI (k + 1)) (tI (eqA x oy)) (lm_w o h S1)) ((if f0 then some true else if w0 then none else some false).map trV) := fun S1 hx1 => by
        unfold m_M_isIn_66 m_M_isIn_78 m_M_isIn_83 m_M_isIn_96 m_M_isIn_101
        simp only [hp_nmE, nI_1]
        have nxt := fun (f' w' : Bool) (e1 : f' = (f || eqA x oy == some true)) (e2 : w' = (w || eqA x oy == none)) => rm_isIn_22 G o h S0 vs hO i x hx at_ m ys hm hat f0 w0 n (k + 1) S1 f' w' (by omega) (by omega) (hx1.A hA) (hS.tr hx1.f) (by rw [hx1.2 17 (by omega) (by omega)]; exact h0) (hs.f (hx1.2 17 (by omega) (by omega))) (by rw [e1]; exact hf) (by rw [e2]; exact hw)
        generalize eqA x oy = e at *
        rcases e with _ | _ | _ <;> cases f <;> cases w
        · exact nxt false true rfl rfl
        · exact nxt false true rfl rfl
        · exact nxt true true rfl rfl
        · exact nxt true true rfl rfl
        · exact nxt false false rfl rfl
        · exact nxt false true rfl rfl
        · exact nxt true false rfl rfl
        · exact nxt true true rfl rfl
        · exact nxt true false rfl rfl
        · exact nxt true true rfl rfl
        · exact nxt true false rfl rfl
        · exact nxt true true rfl rfl
      cases oy with
      | none =>
        rw [AR_n ha, if_pos (show (-4 : Int32) = -4 from rfl)]
        exact fin S xS.rf
      | some y =>
        obtain ⟨j, ej, hyj⟩ := AR_s ha
        obtain ⟨-, -, lj, -⟩ := rm_at hA hyj
        rw [ej, if_neg (show ¬ nI (j + 1) = -4 from fun q => by have := congrArg Int32.toInt q; rw [nI_toInt (by omega)] at this; have z : (-4 : Int32).toInt = -4 := rfl; omega)]
        obtain ⟨S1, e1, e2⟩ := rm_equal G o h S vs hO.1 i j x y hA hx hyj
        simp only [e1, bs]
        exact fin S1 e2
theorem rm_isIn (G : Nat → Nat) (o : Nat) (h : hp_H) (S : lm_S) (vs : List vV) (hO : vsO vs) (at_ m : Nat) (ox : Option vV) (ys : List (Option vV)) (hm : ys.length = m) (hat : at_ + m < 102) (hA : rm_A S vs) (hs : sA S vs at_ (ox :: ys)) : RK o h S vs (m_M_isIn G o (nI at_) (nI m) (lm_w o h S)) ((ox.bind (fun x => inL x ys)).map trV) := by
  unfold m_M_isIn
  have ha := hs 0 ox rfl
  rw [Nat.add_zero] at ha
  have l0 := lm_a17 o h S at_ (by omega)
  simp only [lm_g24, l0, bs, hp_nmE]
  cases ox with
  | none =>
    rw [AR_n ha, if_pos (show (-4 : Int32) = -4 from rfl)]
    exact ⟨S, rfl, hA, fS.rf⟩
  | some x =>
    obtain ⟨i, ei, hx⟩ := AR_s ha
    obtain ⟨-, -, li, -⟩ := rm_at hA hx
    rw [ei, if_neg (show ¬ nI (i + 1) = -4 from fun q => by have := congrArg Int32.toInt q; rw [nI_toInt (by omega)] at this; have z : (-4 : Int32).toInt = -4 := rfl; omega)]
    have hs' : sA S vs (at_ + 1) ys := fun j oy hj => by
      have := hs (j + 1) oy hj
      rw [show at_ + (j + 1) = at_ + 1 + j by omega] at this
      exact this
    have key := rm_isIn_22 G o h S vs hO i x hx at_ m ys hm hat _ _ hp_fu 0 S false false (by omega) (by unfold hp_fu; omega) hA fS.rf ei hs' rfl rfl
    rw [List.drop_zero, Bool.false_or, Bool.false_or] at key
    exact key
/-! chains -/
def rwV (ys : List vV) : Option vV := if ys.all plV then (if (!ys.isEmpty) && ys.all (fun y => y.1 == 6 && y.2.1 == (ys.headD (0, 0, 0, 0, [])).2.1) then some (6, (ys.headD (0, 0, 0, 0, [])).2.1, 0, 0, ys.flatMap (fun y => y.2.2.2.2)) else some (5, 0, 0, 0, ys.flatMap (fun y => y.2.2.2.2))) else none
theorem rm_rowOf_137 (G : Nat → Nat) (o : Nat) (h : hp_H) (S0 : lm_S) (vs : List vV) (at_ m : Nat) (ys : List vV) (hm : ys.length = m) (hm20 : m ≤ 100) (hat : at_ + m < 102) (kd ex : Nat) (hkd : kd ≤ 8) (hex : ex ≤ 9999) : ∀ (n k : Nat) (S : lm_S) (L : List Nat), k ≤ m → m - k < n → rm_A S vs → fS S0 S → sA S vs at_ (ys.map some) → rm_C S (kd, ex, 0, 0, L) → L.length ≤ 64 * k → (∀ b ∈ L, b < 128) → RK o h S0 vs (m_M_rowOf_137 G n o (nI at_) (nI m) (nI k) (lm_w o h S)) (some (kd, ex, 0, 0, L ++ (ys.drop k).flatMap (fun y => y.2.2.2.2)))
  | 0, k, S, L, _, hn, _, _, _, _, _, _ => by omega
  | n + 1, k, S, L, hk, hn, hA, hS, hs, hC, hl, hb => by
    rw [m_M_rowOf_137]
    simp only [nI_leI (show m < 2 ^ 31 by omega) (show k < 2 ^ 31 by omega), lm_vck, bq]
    by_cases c : m ≤ k
    · rw [if_pos c, List.drop_eq_nil_of_le (by omega), List.flatMap_nil, List.append_nil]
      exact rm_fin G o h S0 S vs _ hS hA hC (by show L.length < _; omega) (fun hl2 => ⟨hkd, hex, by show (0 : Int).natAbs < _; decide, Nat.zero_le _, hl2, hb⟩)
    · rw [if_neg c]
      obtain ⟨y, hy⟩ : ∃ y, ys[k]? = some y := ⟨_, List.getElem?_eq_getElem (by omega)⟩
      have hd : ys.drop k = y :: ys.drop (k + 1) := by
        obtain ⟨hk2, e⟩ := List.getElem?_eq_some_iff.mp hy
        rw [List.drop_eq_getElem_cons hk2, e]
      obtain ⟨j, ej, hyj⟩ := AR_s (hs k (some y) (by rw [List.getElem?_map, hy]; rfl))
      obtain ⟨hr, wy, lj, -⟩ := rm_at hA hyj
      have l64 := wy.2.2.2.2.1
      have l1 := lm_a17 o h S (at_ + k) (by omega)
      rw [ej] at l1
      have l6 := lm_a6 o h S (j + 1) (by omega)
      rw [hr.2.2.2.2.1] at l6
      simp only [lm_g24, lm_g6, nI_add, l1, l6, bs, hp_nmE, nI_1]
      obtain ⟨S1, q1, q2, q3⟩ := rm_letterAll G o h S vs j y 0 y.2.2.2.2.length L hA hyj (by omega) (Nat.le_refl _) (hC.L (by omega)) (by omega)
      rw [show (0 : Int32) = nI 0 from rfl, q1]
      simp only [bs]
      rw [List.drop_zero, Nat.sub_zero, List.take_length] at q3
      have key := rm_rowOf_137 G o h S0 vs at_ m ys hm hm20 hat kd ex hkd hex n (k + 1) S1 (L ++ y.2.2.2.2) (by omega) (by omega) (q2.A hA) (hS.tr q2.f) (hs.f (q2.2 17 (by decide))) (hC.to q2 q3) (by rw [List.length_append]; omega) (fun b hb2 => by
        rcases List.mem_append.mp hb2 with z | z
        · exact hb b z
        · exact wy.2.2.2.2.2 b z)
      rw [hd, List.flatMap_cons, ← List.append_assoc]
      exact key
theorem rm_rowOf_13 (G : Nat → Nat) (o : Nat) (h : hp_H) (S : lm_S) (vs : List vV) (at_ m : Nat) (ys : List vV) (hm : ys.length = m) (hm20 : m ≤ 100) (hat : at_ + m < 102) (hA : rm_A S vs) (hs : sA S vs at_ (ys.map some)) : ∀ (n k : Nat) (t : Bool), k ≤ m → m - k < n → (ys.take k).all plV = true → t = ((!ys.isEmpty) && (ys.take k).all (fun y => y.1 == 6 && y.2.1 == (ys.headD (0, 0, 0, 0, [])).2.1)) → RK o h S vs (m_M_rowOf_13 G n o (nI at_) (nI m) (bI t) (nI k) (lm_w o h S)) (rwV ys)
  | 0, k, t, _, hn, _, _ => by omega
  | n + 1, k, t, hk, hn, hp, ht => by
    rw [m_M_rowOf_13]
    simp only [nI_leI (show m < 2 ^ 31 by omega) (show k < 2 ^ 31 by omega), lm_vck]
    by_cases c : m ≤ k
    · rw [if_pos c]
      rw [List.take_of_length_le (by omega)] at hp ht
      unfold rwV
      rw [hp, if_pos (show true = true from rfl), ← ht]
      unfold m_M_rowOf_112 m_M_rowOf_131
      simp only [lm_vck]
      have fin : ∀ (kd ex : Nat), kd ≤ 8 → ex ≤ 9999 → RK o h S vs ((m_M_start G o (nI kd) (nI ex) (lm_w o h S)).bind fun q1 => hp_nm 0 fun x2 => m_M_rowOf_137 G hp_fu o (nI at_) (nI m) x2 q1.2) (some (kd, ex, 0, 0, ys.flatMap (fun y => y.2.2.2.2))) := fun kd ex hkd hex => by
        obtain ⟨S1, e1, e2, e3⟩ := rm_start G o h S kd ex
        simp only [e1, bs, hp_nmE]
        have key := rm_rowOf_137 G o h S vs at_ m ys hm hm20 hat kd ex hkd hex hp_fu 0 S1 [] (by omega) (by unfold hp_fu; omega) (e3.A hA) e3.f (hs.f (e3.2 17 (by decide))) e2 (by decide) (fun b hb => by cases hb)
        rw [List.nil_append, List.drop_zero] at key
        exact key
      cases t with
      | false =>
        rw [if_pos (show bI false = 0 from rfl), if_pos (show bI false = 0 from rfl), if_neg (show ¬ false = true by decide)]
        exact fin 5 0 (by decide) (by decide)
      | true =>
        rw [if_neg (show ¬ bI true = 0 by decide), if_neg (show ¬ bI true = 0 by decide), if_pos (show true = true from rfl)]
        cases ys with
        | nil => cases ht
        | cons y r =>
          obtain ⟨j, ej, hyj⟩ := AR_s (hs 0 (some y) rfl)
          rw [Nat.add_zero] at ej
          obtain ⟨hr, wy, lj, -⟩ := rm_at hA hyj
          have l1 := lm_a17 o h S at_ (by omega)
          rw [ej] at l1
          have l2 := lm_a2 o h S (j + 1) (by omega)
          rw [hr.2.1] at l2
          simp only [lm_g2, lm_g24, l1, l2, bs]
          exact fin 6 y.2.1 (by decide) wy.2.1
    · rw [if_neg c]
      obtain ⟨y, hy⟩ : ∃ y, ys[k]? = some y := ⟨_, List.getElem?_eq_getElem (by omega)⟩
      have htk : ys.take (k + 1) = ys.take k ++ [y] := by
        obtain ⟨hk2, e⟩ := List.getElem?_eq_some_iff.mp hy
        rw [List.take_succ, hy]; rfl
      obtain ⟨j, ej, hyj⟩ := AR_s (hs k (some y) (by rw [List.getElem?_map, hy]; rfl))
      obtain ⟨hr, wy, lj, -⟩ := rm_at hA hyj
      have w1 := wy.1
      have w2 := wy.2.1
      have l1 := lm_a17 o h S (at_ + k) (by omega)
      rw [ej] at l1
      simp only [lm_g24, nI_add, l1, bs, rm_isPlain G o h S (j + 1) y (by omega) hr wy]
      cases hpl : plV y with
      | false =>
        rw [if_pos (show bI false = 0 from rfl)]
        unfold rwV
        rw [if_neg (fun q => by
          have := List.all_eq_true.mp q y (List.mem_of_getElem? hy)
          rw [hpl] at this
          cases this)]
        exact ⟨S, rfl, hA, fS.rf⟩
      | true =>
        rw [if_neg (show ¬ bI true = 0 by decide)]
        have nxt := fun t' (ht' : t' = ((!ys.isEmpty) && (ys.take (k + 1)).all (fun y => y.1 == 6 && y.2.1 == (ys.headD (0, 0, 0, 0, [])).2.1))) => rm_rowOf_13 G o h S vs at_ m ys hm hm20 hat hA hs n (k + 1) t' (by omega) (by omega) (by rw [htk, List.all_append, hp]; simp [hpl]) ht'
        unfold m_M_rowOf_93 m_M_rowOf_94
        simp only [hp_nmE, nI_1]
        rw [htk, List.all_append, ← Bool.and_assoc, ← ht] at nxt
        simp only [List.all_cons, List.all_nil, Bool.and_true] at nxt
        cases t with
        | false =>
          rw [if_pos (show bI false = 0 from rfl)]
          exact nxt false rfl
        | true =>
          rw [if_neg (show ¬ bI true = 0 by decide)]
          rw [Bool.true_and] at nxt
          have m1 := lm_a1 o h S (j + 1) (by omega)
          have m2 := lm_a2 o h S (j + 1) (by omega)
          rw [hr.1] at m1
          rw [hr.2.1] at m2
          obtain ⟨y0, r0, hys⟩ : ∃ y0 r0, ys = y0 :: r0 := by
            cases ys with
            | nil => cases ht
            | cons y r => exact ⟨y, r, rfl⟩
          obtain ⟨j0, ej0, hy0⟩ := AR_s (hs 0 (some y0) (by rw [hys]; rfl))
          rw [Nat.add_zero] at ej0
          obtain ⟨hr0, wy0, lj0, -⟩ := rm_at hA hy0
          have w3 := wy0.2.1
          have l0 := lm_a17 o h S at_ (by omega)
          rw [ej0] at l0
          have m3 := lm_a2 o h S (j0 + 1) (by omega)
          rw [hr0.2.1] at m3
          have hh : (ys.headD (0, 0, 0, 0, [])).2.1 = y0.2.1 := by rw [hys]; rfl
          rw [hh] at nxt
          simp only [lm_g1, lm_g2, lm_g24, l0, l1, m1, m2, m3, bs, ie_6 (show y.1 < 2 ^ 31 by omega), nI_eq (show y.2.1 < 2 ^ 31 by omega) (show y0.2.1 < 2 ^ 31 by omega)]
          by_cases d6 : y.1 = 6
          · rw [if_pos d6]
            rw [d6] at nxt
            by_cases de : y.2.1 = y0.2.1
            · rw [if_pos de]
              exact nxt true (by rw [de]; simp)
            · rw [if_neg de]
              exact nxt false (by rw [beq_false_of_ne de]; rfl)
          · rw [if_neg d6]
            exact nxt false (by rw [beq_false_of_ne d6]; rfl)
theorem rm_rowOf (G : Nat → Nat) (o : Nat) (h : hp_H) (S : lm_S) (vs : List vV) (at_ m : Nat) (ys : List vV) (hm : ys.length = m) (hm20 : m ≤ 100) (hat : at_ + m < 102) (hA : rm_A S vs) (hs : sA S vs at_ (ys.map some)) : RK o h S vs (m_M_rowOf G o (nI at_) (nI m) (lm_w o h S)) (rwV ys) := by
  unfold m_M_rowOf m_M_rowOf_9
  simp only [hp_nmE]
  have key := fun t ht => rm_rowOf_13 G o h S vs at_ m ys hm hm20 hat hA hs hp_fu 0 t (by omega) (by unfold hp_fu; omega) (by rw [List.take_zero]; rfl) ht
  rw [List.take_zero, List.all_nil, Bool.and_true] at key
  by_cases c : m = 0
  · rw [if_pos (by rw [c]; decide)]
    exact key false (by rw [List.length_eq_zero_iff.mp (hm.trans c)]; rfl)
  · rw [if_neg (nI_nle (by omega) (by omega))]
    exact key true (by
      cases ys with
      | nil => exact absurd hm.symm c
      | cons y r => rfl)
