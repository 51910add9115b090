/-! THE CLASS: reading and writing cells of the heap by what is known of them -/
def stC (h : hp_H) (a : Nat) (ce : hp_Ce) : hp_H := (hp_up h.1 a ce, h.2)
theorem stC_s (h : hp_H) (a : Nat) (ce : hp_Ce) : (stC h a ce).1 a = some ce := if_pos rfl
theorem stC_n (h : hp_H) {a b : Nat} (ce : hp_Ce) (hb : b ≠ a) : (stC h a ce).1 b = h.1 b := if_neg hb
theorem stC_2 (h : hp_H) (a : Nat) (ce : hp_Ce) : (stC h a ce).2 = h.2 := rfl
theorem stC_21 (h : hp_H) (a : Nat) (ce : hp_Ce) : (stC h a ce).2.1 = h.2.1 := rfl
theorem stC_22 (h : hp_H) (a : Nat) (ce : hp_Ce) : (stC h a ce).2.2 = h.2.2 := rfl
theorem stC_c (h : hp_H) (a : Nat) (ce ce' : hp_Ce) : stC (stC h a ce) a ce' = stC h a ce' := by
  refine Prod.ext ?_ rfl
  funext b
  by_cases e : b = a
  · subst e; exact (stC_s _ _ _).trans (stC_s _ _ _).symm
  · exact (stC_n _ _ e).trans ((stC_n _ _ e).trans (stC_n _ _ e).symm)
section
variable {h : hp_H} {a ci k : Nat} {fs : List Value}
theorem fs_e (e : h.1 a = some (.inl (ci, fs))) : hp_fs h a ci = some fs := by simp [hp_fs, e]
theorem gI_e (e : h.1 a = some (.inl (ci, fs))) {x : Int32} (hk : fs[k]? = some (.int x)) : hp_gI h a ci k = some x := by rw [hp_gI, fs_e e, bs, hk]; rfl
theorem gL_e (e : h.1 a = some (.inl (ci, fs))) {x : Int64} (hk : fs[k]? = some (.long x)) : hp_gL h a ci k = some x := by rw [hp_gL, fs_e e, bs, hk]; rfl
theorem gR_e (e : h.1 a = some (.inl (ci, fs))) {x : Nat} (hk : fs[k]? = some (.ref x)) : hp_gR h a ci k = some x := by rw [hp_gR, fs_e e, bs, hk]; rfl
theorem p_e (e : h.1 a = some (.inl (ci, fs))) (v : Value) (hk : k < fs.length) : hp_p h a ci k v = some (stC h a (.inl (ci, fs.set k v))) := by rw [hp_p, fs_e e, bs, if_pos hk]; rfl
theorem pZ_e (e : h.1 a = some (.inl (ci, fs))) (w : Bool) (hk : k < fs.length) : hp_pZ h a ci k (bI w) = some (stC h a (.inl (ci, fs.set k (.int (bI w))))) := by
  unfold hp_pZ
  rw [if_pos (by cases w; exact Or.inl rfl; exact Or.inr rfl), p_e e _ hk]
theorem vck_e {β : Type} (e : h.1 a = some (.inl (ci, fs))) (X : Option β) : hp_vck h a ci X = X := by rw [hp_vck, fs_e e]; rfl
end
section
variable {h : hp_H} {a : Nat} {w : Bool} {ty : FieldType} {n : Nat}
theorem arr_e {f : hp_Ar} (e : h.1 a = some (.inr (w, ty, n, f))) : hp_arr h a = some (w, ty, n, f) := by simp [hp_arr, e]
theorem len_e {f : hp_Ar} (e : h.1 a = some (.inr (w, ty, n, f))) : hp_len h a = some (nI n) := by rw [hp_len, arr_e e]; rfl
theorem aI_e {f : Nat → Int32} (e : h.1 a = some (.inr (w, ty, n, .inl f))) {i : Nat} (hi : i < n) (hn : n < 2 ^ 31) : hp_aI h ty a (nI i) = some (f i) := by
  unfold hp_aI
  rw [arr_e e]
  show (if ty = ty ∧ ¬ (nI i < 0 ∨ n ≤ (nI i).toNatClampNeg) then some (f (nI i).toNatClampNeg) else none) = some (f i)
  rw [if_pos ⟨rfl, nI_in hi hn⟩, nI_clamp (by omega)]
theorem aL_e {f : Nat → Int64} (e : h.1 a = some (.inr (w, .long, n, .inr (.inl f)))) {i : Nat} (hi : i < n) (hn : n < 2 ^ 31) : hp_aL h a (nI i) = some (f i) := by
  unfold hp_aL
  rw [arr_e e]
  show (if FieldType.long = .long ∧ ¬ (nI i < 0 ∨ n ≤ (nI i).toNatClampNeg) then some (f (nI i).toNatClampNeg) else none) = some (f i)
  rw [if_pos ⟨rfl, nI_in hi hn⟩, nI_clamp (by omega)]
theorem aR_e {f : Nat → Option Nat} {C : String} (e : h.1 a = some (.inr (w, .object C, n, .inr (.inr f)))) {i : Nat} (hi : i < n) (hn : n < 2 ^ 31) : hp_aR h a (nI i) = f i := by
  unfold hp_aR
  rw [arr_e e]
  show (if (FieldType.object C).isReference = true ∧ ¬ (nI i < 0 ∨ n ≤ (nI i).toNatClampNeg) then f (nI i).toNatClampNeg else none) = f i
  rw [if_pos ⟨rfl, nI_in hi hn⟩, nI_clamp (by omega)]
theorem sI_e {f : Nat → Int32} (e : h.1 a = some (.inr (true, ty, n, .inl f))) {i : Nat} (x : Int32) (hi : i < n) (hn : n < 2 ^ 31) : hp_sI h ty a (nI i) x = some (stC h a (.inr (true, ty, n, .inl (upd f i x)))) := by
  unfold hp_sI
  rw [arr_e e]
  show (if true = true ∧ ty = ty ∧ ¬ (nI i < 0 ∨ n ≤ (nI i).toNatClampNeg) then some (hp_up h.1 a (.inr (true, ty, n, .inl (upd f (nI i).toNatClampNeg x))), h.2) else none) = _
  rw [if_pos ⟨rfl, rfl, nI_in hi hn⟩, nI_clamp (by omega)]
  rfl
theorem sR_e {f : Nat → Option Nat} (e : h.1 a = some (.inr (true, .object "java/lang/Object", n, .inr (.inr f)))) {i y : Nat} (hi : i < n) (hn : n < 2 ^ 31) (hv : hp_isV h (some y) = true) : hp_sR h a (nI i) y = some (stC h a (.inr (true, .object "java/lang/Object", n, .inr (.inr (va_up f i (some y)))))) := by
  unfold hp_sR
  rw [arr_e e]
  show (if true = true ∧ FieldType.object "java/lang/Object" = .object "java/lang/Object" ∧ ¬ (nI i < 0 ∨ n ≤ (nI i).toNatClampNeg) ∧ hp_isV h (some y) = true then some (hp_up h.1 a (.inr (true, .object "java/lang/Object", n, .inr (.inr (va_up f (nI i).toNatClampNeg (some y))))), h.2) else none) = _
  rw [if_pos ⟨rfl, rfl, nI_in hi hn, hv⟩, nI_clamp (by omega)]
  rfl
end
/-- what changed: of the first 44 cells only those of K, and nothing above; or: of the first 44 cells only those of K -/
def chg (c : Nat) (K : List Nat) (h h' : hp_H) : Prop := h'.2 = h.2 ∧ ∀ a, (∀ k ∈ K, a ≠ c + k) → h'.1 a = h.1 a
def fr (c : Nat) (K : List Nat) (h h' : hp_H) : Prop := ∀ a, a < c + 44 → (∀ k ∈ K, a ≠ c + k) → h'.1 a = h.1 a
theorem chg.rf {c : Nat} {K : List Nat} {h : hp_H} : chg c K h h := ⟨rfl, fun _ _ => rfl⟩
theorem chg.tr {c : Nat} {K : List Nat} {h h' h'' : hp_H} (p : chg c K h h') (q : chg c K h' h'') : chg c K h h'' := ⟨q.1.trans p.1, fun a ha => (q.2 a ha).trans (p.2 a ha)⟩
theorem chg.mono {c : Nat} {K K' : List Nat} {h h' : hp_H} (p : chg c K h h') (s : ∀ k ∈ K, k ∈ K') : chg c K' h h' := ⟨p.1, fun a ha => p.2 a (fun k hk => ha k (s k hk))⟩
theorem fr.rf {c : Nat} {K : List Nat} {h : hp_H} : fr c K h h := fun _ _ _ => rfl
theorem fr.tr {c : Nat} {K : List Nat} {h h' h'' : hp_H} (p : fr c K h h') (q : fr c K h' h'') : fr c K h h'' := fun a h1 ha => (q a h1 ha).trans (p a h1 ha)
theorem fr.mono {c : Nat} {K K' : List Nat} {h h' : hp_H} (p : fr c K h h') (s : ∀ k ∈ K, k ∈ K') : fr c K' h h' := fun a h1 ha => p a h1 (fun k hk => ha k (s k hk))
theorem chg.f {c : Nat} {K : List Nat} {h h' : hp_H} (p : chg c K h h') : fr c K h h' := fun a _ ha => p.2 a ha
theorem chg.at {c : Nat} {K : List Nat} {h h' : hp_H} (p : chg c K h h') (k : Nat) (hk : k ∉ K) : h'.1 (c + k) = h.1 (c + k) := p.2 _ (fun j hj e => hk (by have e2 : k = j := (by omega); rw [e2]; exact hj))
theorem fr.at {c : Nat} {K : List Nat} {h h' : hp_H} (p : fr c K h h') (k : Nat) (h44 : k < 44) (hk : k ∉ K) : h'.1 (c + k) = h.1 (c + k) := p _ (by omega) (fun j hj e => hk (by have e2 : k = j := (by omega); rw [e2]; exact hj))
theorem chg.lo {c : Nat} {K : List Nat} {h h' : hp_H} (p : chg c K h h') {a : Nat} (ha : a < c) : h'.1 a = h.1 a := p.2 _ (fun j _ => by omega)
theorem fr.lo {c : Nat} {K : List Nat} {h h' : hp_H} (p : fr c K h h') {a : Nat} (ha : a < c) : h'.1 a = h.1 a := p _ (by omega) (fun j _ => by omega)
theorem chg_st {c : Nat} {K : List Nat} {h : hp_H} {k : Nat} (ce : hp_Ce) (hk : k ∈ K) : chg c K h (stC h (c + k) ce) := ⟨rfl, fun a ha => stC_n h ce (ha k hk)⟩
/-! the constants that lie below c: powers, empty arrays, tables, words -/
def tkT : Nat → Nat := fun k => [0, 0, 0, 1, 2, 2, 2, 2, 2, 2, 2, 2, 2, 2, 2, 2, 2, 1, 1, 1, 1, 1, 3, 0, 1, 1, 3, 1, 1, 0, 2, 2, 2, 2, 2, 1, 1, 1, 1, 1, 1, 1].getD k 0
def tyT : Nat → Nat := fun k => [0, 0, 0, 1002, 1003, 1000, 1001, 0, 1004].getD k 0
def SC (G : Nat → Nat) (c : Nat) (h : hp_H) : Prop := (∀ i, i < 5 → G i < c) ∧ (∃ w f, h.1 (G 0) = some (.inr (w, .long, 19, .inr (.inl f))) ∧ ∀ k, k < 19 → f k = jL ((10 ^ k : Nat) : Int)) ∧ (∃ w f, h.1 (G 1) = some (.inr (w, .byte, 0, .inl f))) ∧ (∃ w f, h.1 (G 2) = some (.inr (w, .int, 42, .inl f)) ∧ ∀ k, k < 42 → f k = nI (tkT k)) ∧ (∃ w f, h.1 (G 3) = some (.inr (w, .int, 9, .inl f)) ∧ ∀ k, k < 9 → f k = nI (tyT k)) ∧ (∃ w f, h.1 (G 4) = some (.inr (w, .object "java/lang/Object", 0, .inr (.inr f)))) ∧ SM G c h
theorem SC.k {G : Nat → Nat} {c : Nat} {h h' : hp_H} (s : SC G c h) (p : ∀ a, a < c → h'.1 a = h.1 a) : SC G c h' := by
  obtain ⟨s0, s1, s2, s3, s4, s5, s6, s7⟩ := s
  refine ⟨s0, ?_, ?_, ?_, ?_, ?_, ⟨⟨s6.1, s6.2.1, s6.2.2.1, fun i hi => ?_⟩, s7⟩⟩
  · rw [p _ (s0 0 (by decide))]; exact s1
  · rw [p _ (s0 1 (by decide))]; exact s2
  · rw [p _ (s0 2 (by decide))]; exact s3
  · rw [p _ (s0 3 (by decide))]; exact s4
  · rw [p _ (s0 4 (by decide))]; exact s5
  · rw [p _ (s7 i hi)]; exact s6.2.2.2 i hi
theorem SC.c {G : Nat → Nat} {c : Nat} {K : List Nat} {h h' : hp_H} (s : SC G c h) (p : chg c K h h') : SC G c h' := s.k (fun _ ha => p.lo ha)
theorem SC.f {G : Nat → Nat} {c : Nat} {K : List Nat} {h h' : hp_H} (s : SC G c h) (p : fr c K h h') : SC G c h' := s.k (fun _ ha => p.lo ha)
