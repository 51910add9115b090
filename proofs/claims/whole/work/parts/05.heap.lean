/-! ROWS THAT READ AND MOVE THE HEAP -/
theorem hp_fs_some {h : hp_H} {a ci : Nat} {fs : List Value} (e : hp_fs h a ci = some fs) : h.1 a = some (.inl (ci, fs)) := by
  unfold hp_fs at e
  split at e
  · rename_i o ho
    split at e
    · rename_i hc
      cases e
      rw [ho, ← hc]
    · cases e
  · cases e
theorem hp_arr_some {h : hp_H} {a : Nat} {o : Bool × FieldType × Nat × hp_Ar} (e : hp_arr h a = some o) : h.1 a = some (.inr o) := by
  unfold hp_arr at e
  split at e
  · rename_i o' ho
    cases e
    exact ho
  · cases e
theorem hp_toI_some {v : Value} {x : Int32} (e : hp_toI v = some x) : v = .int x := by
  cases v <;> simp [hp_toI] at e
  rw [e]
theorem hp_toL_some {v : Value} {x : Int64} (e : hp_toL v = some x) : v = .long x := by
  cases v <;> simp [hp_toL] at e
  rw [e]
theorem hp_toR_some {v : Value} {x : Nat} (e : hp_toR v = some x) : v = .ref x := by
  cases v <;> simp [hp_toR] at e
  rw [e]
theorem hp_g_some {β : Type} {f : Value → Option β} {h : hp_H} {a ci k : Nat} {x : β} (e : ((hp_fs h a ci).bind fun fs => fs[k]?).bind f = some x) : ∃ (fs : List Value) (v : Value), h.1 a = some (.inl (ci, fs)) ∧ fs[k]? = some v ∧ f v = some x := by
  obtain ⟨v, e1, e2⟩ := Option.bind_eq_some_iff.mp e
  obtain ⟨fs, e3, e4⟩ := Option.bind_eq_some_iff.mp e1
  exact ⟨fs, v, hp_fs_some e3, e4, e2⟩
/-- what a field's pool entry 'index' of the method's class 'own' names: field k of the objects of class ci -/
def hp_fl (own : String) (index ci k : Nat) (ty : FieldType) (fin : Bool) : Prop := ∃ (C : String) (T : u_T) (N : Nat) (t0 : Nat → FieldType), classes[ci]? = some (C, T, N) ∧ (∀ w ∈ u_ws C T N, w ∈ hp_T) ∧ (∀ j, j < N → parseFieldDescriptor (T j).2.2.1 = some (t0 j)) ∧ (∀ a, a < N → ∀ b, b < N → a ≠ b → (T a).2.1 ≠ (T b).2.1) ∧ k < N ∧ ∃ ref : String, (ref = (T k).1 ∨ Cond.sameField ref (T k).1 (T k).2.1 (T k).2.2.1 ∈ hp_T) ∧ Cond.fieldLink own index ref (T k).2.1 (T k).2.2.1 ∈ hp_T ∧ (T k).2.2.2 = fin ∧ t0 k = ty
theorem hp_refs {args : Array Value} {s : State} {ref owner name desc : String} (hT : ∀ w ∈ hp_T, w.before args s = true) (h : ref = owner ∨ Cond.sameField ref owner name desc ∈ hp_T) (x : ClassId × Class × Nat × Field) (hx : s.fieldFound? owner name desc = some x) : s.fieldFound? ref name desc = some x := by
  rcases h with h | h
  · rw [h]; exact hx
  · exact u_same (hT _ h) x hx
section HH
variable {p : Program} {l : Launch} {e : Env} {R : Room} {s : State} {m : MethodId} {args : Array Value} {below : List Frame} {meth : Method} {c : Code} {fr lo : Nat} {H : Heap} {locs : List Loc} {cells slots : Nat} {Q : State → Prop} {h : hp_H} {E : hp_E} {Y : hp_Y} {pc : Nat} {ls : Array Slot} {rest : List Value}
theorem hp_Wget {a ci k index : Nat} {fs : List Value} {v : Value} {ty : FieldType} {fin : Bool} (F : hp_F Y p s m args meth c fr lo E) (hR : hp_R E s H h) (hf : hp_fl Y.1 index ci k ty fin) (ha : h.1 a = some (.inl (ci, fs))) (hv : fs[k]? = some v) (hdg : decode Y.2.1 pc = .ok (.getfield index, 3))
    (kk : W p l e R s m args below meth c H locs cells slots Q (F0 m (pc + 3) ls (v :: rest))) : W p l e R s m args below meth c H locs cells slots Q (F0 m pc ls (.ref a :: rest)) := by
  obtain ⟨C, T, N, t0, hc, hin, hty, hnm, hk, ref, hsame, hlink, -, -⟩ := hf
  obtain ⟨-, r, h1, hlen, cell, q1, q2, q3, q4⟩ := hR.2.2.1 a _ ha
  have hr : r = (C, T, N) := Option.some.inj (h1.symm.trans hc)
  subst hr
  obtain ⟨hS, hfc, kC, hkC, hkind⟩ := hR.2.2.2.1 ci _ hc
  obtain ⟨cf, kf, fi, f, hi, hsl⟩ := hS k hk
  refine W.getf F.1 F.2.1 F.2.2.2.1 (F.2.2.2.2.1 _ hlink) (hp_refs F.2.2.2.2.1 hsame _ hi) (u_facts hfc hkC (u_lays F.2.2.2.2.1 hin hk) hi).1 q1 (by rw [q3]; exact fun h => by cases h) (v := v) ?_ rfl rfl hdg kk
  rw [hsl, q4 k hk]
  simp [vp_V, hv]
theorem hp_Wput {a ci k index : Nat} {fs : List Value} {v : Value} {ty : FieldType} {fin : Bool} (F : hp_F Y p s m args meth c fr lo E) (hR : hp_R E s H h) (hf : hp_fl Y.1 index ci k ty fin) (hfin : fin = true → Y.2.2.2.2.1 = "<init>" ∧ (∀ q, classes[ci]? = some q → (q.2.1 k).1 = Y.1)) (ha : h.1 a = some (.inl (ci, fs))) (hn : narrow ty v = v) (hfit : fits ty v = true) (hL : ∀ q ∈ locs, E.2.2.2 ≤ q.base) (hdg : decode Y.2.1 pc = .ok (.putfield index, 3))
    (kk : ∀ (H1 : Heap) (locs1 : List Loc), hp_R E s H1 (hp_up h.1 a (.inl (ci, fs.set k v)), h.2) → (∀ q ∈ locs1, E.2.2.2 ≤ q.base) → W p l e R s m args below meth c H1 locs1 cells slots Q (F0 m (pc + 3) ls rest)) : W p l e R s m args below meth c H locs cells slots Q (F0 m pc ls (v :: .ref a :: rest)) := by
  obtain ⟨C, T, N, t0, hc, hin, hty, hnm, hk, ref, hsame, hlink, hfi, ht0⟩ := hf
  obtain ⟨hB, r, h1, hlen, cell, q1, q2, q3, q4⟩ := hR.2.2.1 a _ ha
  have hr : r = (C, T, N) := Option.some.inj (h1.symm.trans hc)
  subst hr
  have hlen : fs.length = N := hlen
  obtain ⟨hS, hfc, kC, hkC, hkind⟩ := hR.2.2.2.1 ci _ hc
  obtain ⟨cf, kf, fi, f, hi, hsl⟩ := hS k hk
  have hd : parseFieldDescriptor (T k).2.2.1 = some ty := by rw [hty k hk, ht0]
  have hst := (u_facts hfc hkC (u_lays F.2.2.2.2.1 hin hk) hi).1
  have hap : ∀ x y, x < N → y < N → x ≠ y → (E.2.1 ci) x ≠ (E.2.1 ci) y := by
    intro x y hx hy hne
    obtain ⟨_, _, _, fa, hia, ea⟩ := hS x hx
    obtain ⟨_, _, _, fb, hib, eb⟩ := hS y hy
    rw [← ea, ← eb]
    refine u_apart (u_lays F.2.2.2.2.1 hin hx) (u_lays F.2.2.2.2.1 hin hy) hia hib ?_
    rw [(State.fieldFound?_type hia (hty x hx)).1, (State.fieldFound?_type hib (hty y hy)).1]
    exact hnm x hx y hy hne
  have key : ∀ H' : Heap, H'[a]? = some (cell.setSlot f.slot v) → H'.size = H.size → (∀ q, q ≠ a → H'[q]? = H[q]?) → W p l e R s m args below meth c H' (locs ++ [⟨a, f.slot⟩]) cells slots Q (F0 m (pc + 3) ls rest) := by
    intro H' e1 e2 e3
    rw [hsl] at e1 ⊢
    refine kk H' _ (hR.put hB ⟨hB, _, hc, by rw [List.length_set]; exact hlen, t_OB.to (V := updV (vp_V fs) k v) ⟨_, e1, q2, q3, t_set q4 hap hk v⟩ (fun j _ => vp_updV_set (by rw [hlen]; exact hk) v j)⟩ e2 e3) ?_
    intro q hq
    rcases List.mem_append.mp hq with hq | hq
    · exact hL q hq
    · rw [List.mem_singleton.mp hq]; exact hB
  have hlt : f.slot < cell.slots.size := by rw [hsl]; exact k2_hasslot (q4 k hk)
  have hlay := F.2.2.2.2.1 _ (hin _ (u_in_lay hk))
  cases fin with
  | false =>
    unfold u_lay at hlay
    rw [if_neg (by rw [hfi]; decide)] at hlay
    have h6 := u_store hfc hkC hkind hlay hi hd hn hfit
    exact W.putK F.1 F.2.1 (f := f) ⟨F.2.2.2.1, F.2.2.2.2.1 _ hlink, ⟨_, _, _, hp_refs F.2.2.2.2.1 hsame _ hi⟩, hst⟩ (by rw [q2]; exact h6) q1 q3 hlt rfl rfl hdg key
  | true =>
    unfold u_lay at hlay
    rw [if_pos hfi] at hlay
    obtain ⟨hin2, hdecl⟩ := hfin rfl
    have hdecl : (T k).1 = Y.1 := hdecl _ hc
    have h6 := u_fits hfc hkC hkind (Or.inr hlay) hi hd hn hfit
    have hcf : m.cls = cf := by
      obtain ⟨_, _, c', _, _, _, -, -, hf', -, -, -, hown2, -⟩ := Cond.laysFinal_spec hlay
      have e1 : c' = cf := by have := hi.symm.trans hf'; simp at this; exact this.1.symm
      rw [hdecl] at hown2
      rw [← e1]; exact Option.some.inj (F.2.2.2.1.symm.trans hown2)
    exact W.putFinK F.1 F.2.1 F.2.2.2.1 (F.2.2.2.2.1 _ hlink) (hp_refs F.2.2.2.2.1 hsame _ hi) hst hcf (F.2.2.2.2.2.2.2.2.1.trans hin2) (by rw [q2]; exact h6) q1 q3 hlt rfl rfl hdg key
end HH
def hp_nwK {β : Type} (h : hp_H) (ci n : Nat) (fs : List Value) (K : Nat → hp_H → β) : β := K h.2.1 (hp_new h ci n fs)
def hp_naK {β : Type} (h : hp_H) (ty : FieldType) (n : Int32) (f : hp_Ar) (K : Nat → hp_H → Option β) : Option β := if ¬ n < 0 ∧ n.toNatClampNeg * componentBytes ty ≤ 536870912 then K h.2.1 (hp_newa h ty n.toNatClampNeg f) else none
/-- what 'new' at the pool entry 'index' of the class 'own' makes: an object of class ci with the fields fs -/
def hp_nw (own : String) (index ci N : Nat) (fs : List Value) : Prop := ∃ (C : String) (T : u_T) (t0 : Nat → FieldType), classes[ci]? = some (C, T, N) ∧ (∀ w ∈ u_ws C T N, w ∈ hp_T) ∧ (∀ j, j < N → parseFieldDescriptor (T j).2.2.1 = some (t0 j)) ∧ fs.length = N ∧ (∀ j, j < N → defaultValue (t0 j) = vp_V fs j) ∧ Cond.classLink own index C ∈ hp_T ∧ Cond.instantiable C N ∈ hp_T ∧ Cond.initialized C ∈ hp_T
theorem hp_setsz (cell : Cell) (i : Nat) (v : Value) : (cell.setSlot i v).slots.size = cell.slots.size := by simp [Cell.setSlot]
section HK
variable {Y : hp_Y} {Z : hp_Z} {α : Type} {mk : α → Option Value} {h : hp_H} {pc : Nat} {lv : List (Nat × Value)} {st : List Value} {X : Option (α × hp_H)}
theorem hp_getI {a ci k index : Nat} {ty : FieldType} {fin : Bool} {K : Int32 → Option (α × hp_H)} (hf : hp_fl Y.1 index ci k ty fin) (hdg : decode Y.2.1 pc = .ok (.getfield index, 3)) (kk : ∀ x, hp_J Y Z mk h (pc + 3) lv (.int x :: st) (K x)) : hp_J Y Z mk h pc lv (.ref a :: st) ((hp_gI h a ci k).bind K) := by
  obtain ⟨p, l, e, s, m, args, below, meth, c, h0, E, fr, lo⟩ := Z
  intro r h' hX
  obtain ⟨x, e1, e2⟩ := Option.bind_eq_some_iff.mp hX
  obtain ⟨fs, v, ha, hv, hx⟩ := hp_g_some e1
  cases hp_toI_some hx
  obtain ⟨k1, k2⟩ := kk x r h' e2
  exact ⟨k1, fun F a1 a2 H locs ls hR hL hl => hp_Wget F hR hf ha hv hdg (k2 F a1 a2 H locs ls hR hL hl)⟩
theorem hp_getL {a ci k index : Nat} {ty : FieldType} {fin : Bool} {K : Int64 → Option (α × hp_H)} (hf : hp_fl Y.1 index ci k ty fin) (hdg : decode Y.2.1 pc = .ok (.getfield index, 3)) (kk : ∀ x, hp_J Y Z mk h (pc + 3) lv (.long x :: st) (K x)) : hp_J Y Z mk h pc lv (.ref a :: st) ((hp_gL h a ci k).bind K) := by
  obtain ⟨p, l, e, s, m, args, below, meth, c, h0, E, fr, lo⟩ := Z
  intro r h' hX
  obtain ⟨x, e1, e2⟩ := Option.bind_eq_some_iff.mp hX
  obtain ⟨fs, v, ha, hv, hx⟩ := hp_g_some e1
  cases hp_toL_some hx
  obtain ⟨k1, k2⟩ := kk x r h' e2
  exact ⟨k1, fun F a1 a2 H locs ls hR hL hl => hp_Wget F hR hf ha hv hdg (k2 F a1 a2 H locs ls hR hL hl)⟩
theorem hp_getR {a ci k index : Nat} {ty : FieldType} {fin : Bool} {K : Nat → Option (α × hp_H)} (hf : hp_fl Y.1 index ci k ty fin) (hdg : decode Y.2.1 pc = .ok (.getfield index, 3)) (kk : ∀ x, hp_J Y Z mk h (pc + 3) lv (.ref x :: st) (K x)) : hp_J Y Z mk h pc lv (.ref a :: st) ((hp_gR h a ci k).bind K) := by
  obtain ⟨p, l, e, s, m, args, below, meth, c, h0, E, fr, lo⟩ := Z
  intro r h' hX
  obtain ⟨x, e1, e2⟩ := Option.bind_eq_some_iff.mp hX
  obtain ⟨fs, v, ha, hv, hx⟩ := hp_g_some e1
  cases hp_toR_some hx
  obtain ⟨k1, k2⟩ := kk x r h' e2
  exact ⟨k1, fun F a1 a2 H locs ls hR hL hl => hp_Wget F hR hf ha hv hdg (k2 F a1 a2 H locs ls hR hL hl)⟩
theorem hp_put {a ci k index : Nat} {ty : FieldType} {fin : Bool} {v : Value} {K : hp_H → Option (α × hp_H)} (hf : hp_fl Y.1 index ci k ty fin) (hfin : fin = true → Y.2.2.2.2.1 = "<init>" ∧ (∀ q, classes[ci]? = some q → (q.2.1 k).1 = Y.1)) (hn : narrow ty v = v) (hfit : fits ty v = true) (hdg : decode Y.2.1 pc = .ok (.putfield index, 3)) (kk : ∀ h1, hp_J Y Z mk h1 (pc + 3) lv st (K h1)) : hp_J Y Z mk h pc lv (v :: .ref a :: st) ((hp_p h a ci k v).bind K) := by
  obtain ⟨p, l, e, s, m, args, below, meth, c, h0, E, fr, lo⟩ := Z
  intro r h' hX
  obtain ⟨h1, e1, e2⟩ := Option.bind_eq_some_iff.mp hX
  unfold hp_p at e1
  obtain ⟨fs, e3, e4⟩ := Option.bind_eq_some_iff.mp e1
  have ha := hp_fs_some e3
  split at e4
  · cases e4
    obtain ⟨k1, k2⟩ := kk _ r h' e2
    exact ⟨k1, fun F a1 a2 H locs ls hR hL hl => hp_Wput F hR hf hfin ha hn hfit hL hdg (fun H1 locs1 hR1 hL1 => k2 F a1 a2 H1 locs1 ls hR1 hL1 hl)⟩
  · cases e4
theorem hp_putZ {a ci k index : Nat} {fin : Bool} {x : Int32} {K : hp_H → Option (α × hp_H)} (hf : hp_fl Y.1 index ci k .boolean fin) (hfin : fin = true → Y.2.2.2.2.1 = "<init>" ∧ (∀ q, classes[ci]? = some q → (q.2.1 k).1 = Y.1)) (hdg : decode Y.2.1 pc = .ok (.putfield index, 3)) (kk : ∀ h1, hp_J Y Z mk h1 (pc + 3) lv st (K h1)) : hp_J Y Z mk h pc lv (.int x :: .ref a :: st) ((hp_pZ h a ci k x).bind K) := by
  unfold hp_pZ
  by_cases hx : x = 0 ∨ x = 1
  · rw [if_pos hx]
    exact hp_put hf hfin (by rcases hx with rfl | rfl <;> rfl) (by rcases hx with rfl | rfl <;> rfl) hdg kk
  · rw [if_neg hx]; exact hp_fail
theorem hp_newO {index ci N : Nat} {fs : List Value} {K : Nat → hp_H → Option (α × hp_H)} (hw : hp_nw Y.1 index ci N fs) (hdg : decode Y.2.1 pc = .ok (.new index, 3)) (kk : ∀ a h1, hp_J Y Z mk h1 (pc + 3) lv (.ref a :: st) (K a h1)) : hp_J Y Z mk h pc lv st (hp_nwK h ci N fs K) := by
  obtain ⟨p, l, e, s, m, args, below, meth, c, h0, E, fr, lo⟩ := Z
  intro r h' hX
  obtain ⟨C, T, t0, hc, hin, hty, hlen, hdef, hcl, hinst, hini⟩ := hw
  obtain ⟨k1, k2⟩ := kk h.2.1 (hp_new h ci N fs) r h' hX
  have k1a : h.2.1 + 1 ≤ h'.2.1 := k1.1
  have k1b : h.2.2 + N ≤ h'.2.2 := k1.2
  refine ⟨⟨Nat.le_of_succ_le k1a, Nat.le_trans (Nat.le_add_right _ _) k1b⟩, fun F a1 a2 H locs ls hR hL hl => ?_⟩
  have hKn := hR.2.2.2.1 ci _ hc
  refine W.newcK F.1 F.2.1 F.2.2.2.1 (F.2.2.2.2.1 _ hcl) (F.2.2.2.2.1 _ hinst) (F.2.2.2.2.1 _ hini) rfl hdg (show h.2.1 - h0.2.1 + 1 ≤ h'.2.1 - h0.2.1 by omega) (show h.2.2 - h0.2.2 + N ≤ h'.2.2 - h0.2.2 by omega) hKn.2.1 hR.1 fun H1 kC hkC e1 z1 o1 => ?_
  have hR1 : hp_R E s H1 (hp_new h ci N fs) := hR.push N ⟨hR.2.1, _, hc, hlen, (u_born t0 F.2.2.2.2.1 hin hKn hkC e1 hty).to hdef⟩ z1 (fun q hq => o1 q hq)
  have K2 := k2 F (Nat.le_trans a1 (Nat.le_succ _)) (Nat.le_trans a2 (Nat.le_add_right _ _)) H1 locs ls hR1 hL hl
  have c1 : (hp_new h ci N fs).2.1 - h0.2.1 = h.2.1 - h0.2.1 + 1 := by show h.2.1 + 1 - h0.2.1 = _; omega
  have c2 : (hp_new h ci N fs).2.2 - h0.2.2 = h.2.2 - h0.2.2 + N := by show h.2.2 + N - h0.2.2 = _; omega
  rw [c1, c2] at K2
  exact K2
theorem hp_newA {atype : ArrayType} {ty : FieldType} {n : Int32} {f : hp_Ar} {K : Nat → hp_H → Option (α × hp_H)} (hw : Cond.arrayClass ty ∈ hp_T) (hty : newarray.typeOf atype = ty) (hf : ∀ j, hp_av f j = defaultValue ty) (hdg : decode Y.2.1 pc = .ok (.newarray atype, 2)) (kk : ∀ a h1, hp_J Y Z mk h1 (pc + 2) lv (.ref a :: st) (K a h1)) : hp_J Y Z mk h pc lv (.int n :: st) (hp_naK h ty n f K) := by
  obtain ⟨p, l, e, s, m, args, below, meth, c, h0, E, fr, lo⟩ := Z
  intro r h' hX
  unfold hp_naK at hX
  split at hX
  · rename_i hn
    subst hty
    obtain ⟨k1, k2⟩ := kk h.2.1 (hp_newa h (newarray.typeOf atype) n.toNatClampNeg f) r h' hX
    have k1a : h.2.1 + 1 ≤ h'.2.1 := k1.1
    have k1b : h.2.2 + n.toNatClampNeg ≤ h'.2.2 := k1.2
    refine ⟨⟨Nat.le_of_succ_le k1a, Nat.le_trans (Nat.le_add_right _ _) k1b⟩, fun F a1 a2 H locs ls hR hL hl => ?_⟩
    refine va_newaK F.1 F.2.1 (F.2.2.2.2.1 _ hw) rfl hdg rfl hn.1 rfl hn.2 (show h.2.1 - h0.2.1 + 1 ≤ h'.2.1 - h0.2.1 by omega) (show h.2.2 - h0.2.2 + n.toNatClampNeg ≤ h'.2.2 - h0.2.2 by omega) hR.1 fun H1 cA e1 z1 o1 hA hnm => ?_
    rw [show (fun _ : Nat => defaultValue (newarray.typeOf atype)) = hp_av f from funext fun j => (hf j).symm] at e1
    have hR1 : hp_R E s H1 (hp_newa h (newarray.typeOf atype) n.toNatClampNeg f) := hR.push n.toNatClampNeg (hp_at.arr hR.2.1 e1 hA ⟨hnm, fun C hC => by cases atype <;> cases hC⟩) z1 (fun q hq => o1 q hq)
    have K2 := k2 F (Nat.le_trans a1 (Nat.le_succ _)) (Nat.le_trans a2 (Nat.le_add_right _ _)) H1 locs ls hR1 hL hl
    have c1 : (hp_newa h (newarray.typeOf atype) n.toNatClampNeg f).2.1 - h0.2.1 = h.2.1 - h0.2.1 + 1 := by show h.2.1 + 1 - h0.2.1 = _; omega
    have c2 : (hp_newa h (newarray.typeOf atype) n.toNatClampNeg f).2.2 - h0.2.2 = h.2.2 - h0.2.2 + n.toNatClampNeg := by show h.2.2 + n.toNatClampNeg - h0.2.2 = _; omega
    rw [c1, c2] at K2
    exact K2
  · cases hX
theorem hp_iald {a : Nat} {i : Int32} {K : Int32 → Option (α × hp_H)} (hdg : decode Y.2.1 pc = .ok (.iaload, 1)) (kk : ∀ x, hp_J Y Z mk h (pc + 1) lv (.int x :: st) (K x)) : hp_J Y Z mk h pc lv (.int i :: .ref a :: st) ((hp_aI h .int a i).bind K) := by
  obtain ⟨p, l, e, s, m, args, below, meth, c, h0, E, fr, lo⟩ := Z
  intro r h' hX
  obtain ⟨x, e1, e2⟩ := Option.bind_eq_some_iff.mp hX
  unfold hp_aI at e1
  split at e1
  · rename_i w t n f ho
    split at e1
    · rename_i hc
      cases e1
      obtain ⟨rfl, hin⟩ := hc
      obtain ⟨k1, k2⟩ := kk _ r h' e2
      refine ⟨k1, fun F a1 a2 H locs ls hR hL hl => ?_⟩
      obtain ⟨cell, q1, q2, q3, q4, q5, q6, q7⟩ := hR.2.2.1 a _ (hp_arr_some ho)
      have hlt : i.toNatClampNeg < n := Nat.lt_of_not_le (fun q => hin (Or.inr q))
      exact W.iald F.1 F.2.1 q1 q2 q3 (fun q => hin (q.imp id (fun q => Nat.le_trans q4 q))) (q6 _ hlt) rfl rfl hdg (k2 F a1 a2 H locs ls hR hL hl)
    · cases e1
  · cases e1
theorem hp_bald {a : Nat} {i : Int32} {K : Int32 → Option (α × hp_H)} (hdg : decode Y.2.1 pc = .ok (.baload, 1)) (kk : ∀ x, hp_J Y Z mk h (pc + 1) lv (.int x :: st) (K x)) : hp_J Y Z mk h pc lv (.int i :: .ref a :: st) ((hp_aI h .byte a i).bind K) := by
  obtain ⟨p, l, e, s, m, args, below, meth, c, h0, E, fr, lo⟩ := Z
  intro r h' hX
  obtain ⟨x, e1, e2⟩ := Option.bind_eq_some_iff.mp hX
  unfold hp_aI at e1
  split at e1
  · rename_i w t n f ho
    split at e1
    · rename_i hc
      cases e1
      obtain ⟨rfl, hin⟩ := hc
      obtain ⟨k1, k2⟩ := kk _ r h' e2
      refine ⟨k1, fun F a1 a2 H locs ls hR hL hl => ?_⟩
      obtain ⟨cell, q1, q2, q3, q4, q5, q6, q7⟩ := hR.2.2.1 a _ (hp_arr_some ho)
      have hlt : i.toNatClampNeg < n := Nat.lt_of_not_le (fun q => hin (Or.inr q))
      exact W.bald F.1 F.2.1 q1 q2 q3 (fun q => hin (q.imp id (fun q => Nat.le_trans q4 q))) (q6 _ hlt) rfl rfl hdg (k2 F a1 a2 H locs ls hR hL hl)
    · cases e1
  · cases e1
theorem hp_zald {a : Nat} {i : Int32} {K : Int32 → Option (α × hp_H)} (hdg : decode Y.2.1 pc = .ok (.baload, 1)) (kk : ∀ x, hp_J Y Z mk h (pc + 1) lv (.int x :: st) (K x)) : hp_J Y Z mk h pc lv (.int i :: .ref a :: st) ((hp_aI h .boolean a i).bind K) := by
  obtain ⟨p, l, e, s, m, args, below, meth, c, h0, E, fr, lo⟩ := Z
  intro r h' hX
  obtain ⟨x, e1, e2⟩ := Option.bind_eq_some_iff.mp hX
  unfold hp_aI at e1
  split at e1
  · rename_i w t n f ho
    split at e1
    · rename_i hc
      cases e1
      obtain ⟨rfl, hin⟩ := hc
      obtain ⟨k1, k2⟩ := kk _ r h' e2
      refine ⟨k1, fun F a1 a2 H locs ls hR hL hl => ?_⟩
      obtain ⟨cell, q1, q2, q3, q4, q5, q6, q7⟩ := hR.2.2.1 a _ (hp_arr_some ho)
      have hlt : i.toNatClampNeg < n := Nat.lt_of_not_le (fun q => hin (Or.inr q))
      exact W.zald F.1 F.2.1 q1 q2 q3 (fun q => hin (q.imp id (fun q => Nat.le_trans q4 q))) (q6 _ hlt) rfl rfl hdg (k2 F a1 a2 H locs ls hR hL hl)
    · cases e1
  · cases e1
theorem hp_cald {a : Nat} {i : Int32} {K : Int32 → Option (α × hp_H)} (hdg : decode Y.2.1 pc = .ok (.caload, 1)) (kk : ∀ x, hp_J Y Z mk h (pc + 1) lv (.int x :: st) (K x)) : hp_J Y Z mk h pc lv (.int i :: .ref a :: st) ((hp_aI h .char a i).bind K) := by
  obtain ⟨p, l, e, s, m, args, below, meth, c, h0, E, fr, lo⟩ := Z
  intro r h' hX
  obtain ⟨x, e1, e2⟩ := Option.bind_eq_some_iff.mp hX
  unfold hp_aI at e1
  split at e1
  · rename_i w t n f ho
    split at e1
    · rename_i hc
      cases e1
      obtain ⟨rfl, hin⟩ := hc
      obtain ⟨k1, k2⟩ := kk _ r h' e2
      refine ⟨k1, fun F a1 a2 H locs ls hR hL hl => ?_⟩
      obtain ⟨cell, q1, q2, q3, q4, q5, q6, q7⟩ := hR.2.2.1 a _ (hp_arr_some ho)
      have hlt : i.toNatClampNeg < n := Nat.lt_of_not_le (fun q => hin (Or.inr q))
      exact W.cald F.1 F.2.1 q1 q2 q3 (fun q => hin (q.imp id (fun q => Nat.le_trans q4 q))) (q6 _ hlt) rfl rfl hdg (k2 F a1 a2 H locs ls hR hL hl)
    · cases e1
  · cases e1
theorem hp_lald {a : Nat} {i : Int32} {K : Int64 → Option (α × hp_H)} (hdg : decode Y.2.1 pc = .ok (.laload, 1)) (kk : ∀ x, hp_J Y Z mk h (pc + 1) lv (.long x :: st) (K x)) : hp_J Y Z mk h pc lv (.int i :: .ref a :: st) ((hp_aL h a i).bind K) := by
  obtain ⟨p, l, e, s, m, args, below, meth, c, h0, E, fr, lo⟩ := Z
  intro r h' hX
  obtain ⟨x, e1, e2⟩ := Option.bind_eq_some_iff.mp hX
  unfold hp_aL at e1
  split at e1
  · rename_i w t n f ho
    split at e1
    · rename_i hc
      cases e1
      obtain ⟨rfl, hin⟩ := hc
      obtain ⟨k1, k2⟩ := kk _ r h' e2
      refine ⟨k1, fun F a1 a2 H locs ls hR hL hl => ?_⟩
      obtain ⟨cell, q1, q2, q3, q4, q5, q6, q7⟩ := hR.2.2.1 a _ (hp_arr_some ho)
      have hlt : i.toNatClampNeg < n := Nat.lt_of_not_le (fun q => hin (Or.inr q))
      exact W.lald F.1 F.2.1 q1 q2 q3 (fun q => hin (q.imp id (fun q => Nat.le_trans q4 q))) (q6 _ hlt) rfl rfl hdg (k2 F a1 a2 H locs ls hR hL hl)
    · cases e1
  · cases e1
theorem hp_aald {a : Nat} {i : Int32} {K : Nat → Option (α × hp_H)} (hdg : decode Y.2.1 pc = .ok (.aaload, 1)) (kk : ∀ x, hp_J Y Z mk h (pc + 1) lv (.ref x :: st) (K x)) : hp_J Y Z mk h pc lv (.int i :: .ref a :: st) ((hp_aR h a i).bind K) := by
  obtain ⟨p, l, e, s, m, args, below, meth, c, h0, E, fr, lo⟩ := Z
  intro r h' hX
  obtain ⟨x, e1, e2⟩ := Option.bind_eq_some_iff.mp hX
  unfold hp_aR at e1
  split at e1
  · rename_i w t n f ho
    split at e1
    · rename_i hc
      obtain ⟨hty, hin⟩ := hc
      obtain ⟨k1, k2⟩ := kk _ r h' e2
      refine ⟨k1, fun F a1 a2 H locs ls hR hL hl => ?_⟩
      obtain ⟨cell, q1, q2, q3, q4, q5, q6, q7⟩ := hR.2.2.1 a _ (hp_arr_some ho)
      have hlt : i.toNatClampNeg < n := Nat.lt_of_not_le (fun q => hin (Or.inr q))
      have hv := q6 _ hlt
      rw [show hp_av (.inr (.inr f)) i.toNatClampNeg = .ref x by show va_rf (f i.toNatClampNeg) = _; rw [e1]; rfl] at hv
      exact W.aald F.1 F.2.1 q1 q2 hty q3 (fun q => hin (q.imp id (fun q => Nat.le_trans q4 q))) hv rfl rfl hdg (k2 F a1 a2 H locs ls hR hL hl)
    · cases e1
  · cases e1
theorem hp_alen {a : Nat} {K : Int32 → Option (α × hp_H)} (hdg : decode Y.2.1 pc = .ok (.arraylength, 1)) (kk : ∀ x, hp_J Y Z mk h (pc + 1) lv (.int x :: st) (K x)) : hp_J Y Z mk h pc lv (.ref a :: st) ((hp_len h a).bind K) := by
  obtain ⟨p, l, e, s, m, args, below, meth, c, h0, E, fr, lo⟩ := Z
  intro r h' hX
  obtain ⟨x, e1, e2⟩ := Option.bind_eq_some_iff.mp hX
  obtain ⟨o, e3, e4⟩ := Option.map_eq_some_iff.mp e1
  obtain ⟨w, t, n, f⟩ := o
  obtain ⟨k1, k2⟩ := kk _ r h' e2
  refine ⟨k1, fun F a1 a2 H locs ls hR hL hl => ?_⟩
  obtain ⟨cell, q1, q2, q3, q4, q5, q6, q7⟩ := hR.2.2.1 a _ (hp_arr_some e3)
  exact W.alen F.1 F.2.1 q1 q2 (q5.trans e4) rfl rfl hdg (k2 F a1 a2 H locs ls hR hL hl)
theorem hp_iast {a : Nat} {i : Int32} {x : Int32} {K : hp_H → Option (α × hp_H)} (hdg : decode Y.2.1 pc = .ok (.iastore, 1)) (kk : ∀ h1, hp_J Y Z mk h1 (pc + 1) lv st (K h1)) : hp_J Y Z mk h pc lv (.int x :: .int i :: .ref a :: st) ((hp_sI h .int a i (x)).bind K) := by
  obtain ⟨p, l, e, s, m, args, below, meth, c, h0, E, fr, lo⟩ := Z
  intro r h' hX
  obtain ⟨h1, e1, e2⟩ := Option.bind_eq_some_iff.mp hX
  unfold hp_sI at e1
  split at e1
  · rename_i w t n f ho
    split at e1
    · rename_i hc
      cases e1
      obtain ⟨rfl, rfl, hin⟩ := hc
      obtain ⟨k1, k2⟩ := kk _ r h' e2
      refine ⟨k1, fun F a1 a2 H locs ls hR hL hl => ?_⟩
      obtain ⟨cell, q1, q2, q3, q4, q5, q6, q7⟩ := hR.2.2.1 a _ (hp_arr_some ho)
      obtain ⟨hB, cA, rfl, hA, hA2⟩ := q7 rfl
      have hlt : i.toNatClampNeg < n := Nat.lt_of_not_le (fun q => hin (Or.inr q))
      refine W.iast F.1 F.2.1 q1 q2 q3 (fun q => hin (q.imp id (fun q => Nat.le_trans q4 q))) rfl rfl hdg fun H1 b1 b2 b3 => ?_
      rw [arrV_store] at b1
      have hv : updV (hp_av (.inl f)) i.toNatClampNeg (.int x) = hp_av (.inl (upd f i.toNatClampNeg (x))) := by
        funext j
        by_cases hj2 : j = i.toNatClampNeg
        · subst hj2; simp [hp_av, updV, upd]
        · simp [hp_av, updV, upd, hj2]
      rw [hv] at b1
      refine k2 F a1 a2 H1 _ ls (hR.put hB (hp_at.arr hB b1 hA hA2) b2 b3) ?_ hl
      intro q hq
      rcases List.mem_append.mp hq with hq | hq
      · exact hL q hq
      · rw [List.mem_singleton.mp hq]; exact hB
    · cases e1
  · cases e1
theorem hp_bast {a : Nat} {i : Int32} {x : Int32} {K : hp_H → Option (α × hp_H)} (hdg : decode Y.2.1 pc = .ok (.bastore, 1)) (kk : ∀ h1, hp_J Y Z mk h1 (pc + 1) lv st (K h1)) : hp_J Y Z mk h pc lv (.int x :: .int i :: .ref a :: st) ((hp_sI h .byte a i (x.toInt8.toInt32)).bind K) := by
  obtain ⟨p, l, e, s, m, args, below, meth, c, h0, E, fr, lo⟩ := Z
  intro r h' hX
  obtain ⟨h1, e1, e2⟩ := Option.bind_eq_some_iff.mp hX
  unfold hp_sI at e1
  split at e1
  · rename_i w t n f ho
    split at e1
    · rename_i hc
      cases e1
      obtain ⟨rfl, rfl, hin⟩ := hc
      obtain ⟨k1, k2⟩ := kk _ r h' e2
      refine ⟨k1, fun F a1 a2 H locs ls hR hL hl => ?_⟩
      obtain ⟨cell, q1, q2, q3, q4, q5, q6, q7⟩ := hR.2.2.1 a _ (hp_arr_some ho)
      obtain ⟨hB, cA, rfl, hA, hA2⟩ := q7 rfl
      have hlt : i.toNatClampNeg < n := Nat.lt_of_not_le (fun q => hin (Or.inr q))
      refine W.bast F.1 F.2.1 q1 q2 q3 (fun q => hin (q.imp id (fun q => Nat.le_trans q4 q))) rfl rfl hdg fun H1 b1 b2 b3 => ?_
      rw [arrV_store] at b1
      have hv : updV (hp_av (.inl f)) i.toNatClampNeg (narrow .byte (.int x)) = hp_av (.inl (upd f i.toNatClampNeg (x.toInt8.toInt32))) := by
        funext j
        by_cases hj2 : j = i.toNatClampNeg
        · subst hj2; simp [hp_av, updV, upd, narrow_byte]
        · simp [hp_av, updV, upd, hj2]
      rw [hv] at b1
      refine k2 F a1 a2 H1 _ ls (hR.put hB (hp_at.arr hB b1 hA hA2) b2 b3) ?_ hl
      intro q hq
      rcases List.mem_append.mp hq with hq | hq
      · exact hL q hq
      · rw [List.mem_singleton.mp hq]; exact hB
    · cases e1
  · cases e1
theorem hp_last {a : Nat} {i : Int32} {x : Int64} {K : hp_H → Option (α × hp_H)} (hdg : decode Y.2.1 pc = .ok (.lastore, 1)) (kk : ∀ h1, hp_J Y Z mk h1 (pc + 1) lv st (K h1)) : hp_J Y Z mk h pc lv (.long x :: .int i :: .ref a :: st) ((hp_sL h a i (x)).bind K) := by
  obtain ⟨p, l, e, s, m, args, below, meth, c, h0, E, fr, lo⟩ := Z
  intro r h' hX
  obtain ⟨h1, e1, e2⟩ := Option.bind_eq_some_iff.mp hX
  unfold hp_sL at e1
  split at e1
  · rename_i w t n f ho
    split at e1
    · rename_i hc
      cases e1
      obtain ⟨rfl, rfl, hin⟩ := hc
      obtain ⟨k1, k2⟩ := kk _ r h' e2
      refine ⟨k1, fun F a1 a2 H locs ls hR hL hl => ?_⟩
      obtain ⟨cell, q1, q2, q3, q4, q5, q6, q7⟩ := hR.2.2.1 a _ (hp_arr_some ho)
      obtain ⟨hB, cA, rfl, hA, hA2⟩ := q7 rfl
      have hlt : i.toNatClampNeg < n := Nat.lt_of_not_le (fun q => hin (Or.inr q))
      refine W.last F.1 F.2.1 q1 q2 q3 (fun q => hin (q.imp id (fun q => Nat.le_trans q4 q))) rfl rfl hdg fun H1 b1 b2 b3 => ?_
      rw [arrV_store] at b1
      have hv : updV (hp_av (.inr (.inl f))) i.toNatClampNeg (.long x) = hp_av (.inr (.inl (vp_updL f i.toNatClampNeg x))) := by
        funext j
        by_cases hj2 : j = i.toNatClampNeg
        · subst hj2; simp [hp_av, updV, vp_updL]
        · simp [hp_av, updV, vp_updL, hj2]
      rw [hv] at b1
      refine k2 F a1 a2 H1 _ ls (hR.put hB (hp_at.arr hB b1 hA hA2) b2 b3) ?_ hl
      intro q hq
      rcases List.mem_append.mp hq with hq | hq
      · exact hL q hq
      · rw [List.mem_singleton.mp hq]; exact hB
    · cases e1
  · cases e1
end HK
