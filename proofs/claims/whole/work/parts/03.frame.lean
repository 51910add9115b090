/-! THE ABSTRACT HEAP. A cell is an object (its number in 'classes', its fields) or an array (may it be written, its type, its length, what it holds); the heap is a map, the next address, the slots in use.
A method of the program is turned into a function on it ('m_..'), instruction by instruction; the rows 'hp_..' say that the machine does what the function says. -/
abbrev hp_Ar : Type := (Nat → Int32) ⊕ (Nat → Int64) ⊕ (Nat → Option Nat)
abbrev hp_Ce : Type := (Nat × List Value) ⊕ (Bool × FieldType × Nat × hp_Ar)
abbrev hp_H : Type := (Nat → Option hp_Ce) × Nat × Nat
def hp_av (f : hp_Ar) (j : Nat) : Value := match f with
  | .inl g => .int (g j)
  | .inr (.inl g) => .long (g j)
  | .inr (.inr g) => va_rf (g j)
def hp_up (f : Nat → Option hp_Ce) (a : Nat) (c : hp_Ce) : Nat → Option hp_Ce := fun b => if b = a then some c else f b
theorem hp_up_self (f : Nat → Option hp_Ce) (a : Nat) (c : hp_Ce) : hp_up f a c a = some c := if_pos rfl
theorem hp_up_ne (f : Nat → Option hp_Ce) {a b : Nat} (c : hp_Ce) (h : b ≠ a) : hp_up f a c b = f b := if_neg h
/-- class numbers, slots, addresses of what the constant static fields hold, the first address of the run's own cells -/
abbrev hp_E : Type := (Nat → ClassId) × (Nat → Nat → Nat) × (Nat → Nat) × Nat
def hp_at (E : hp_E) (U : State) (H : Heap) (a : Nat) (ce : hp_Ce) : Prop := match ce with
  | .inl (ci, fs) => E.2.2.2 ≤ a ∧ ∃ r : vw_C, classes[ci]? = some r ∧ fs.length = r.2.2 ∧ t_OB a (E.1 ci) r.2.2 (E.2.1 ci) H (vp_V fs)
  | .inr (w, ty, n, f) => ∃ cell : Cell, H[a]? = some cell ∧ U.isArrayOf cell ty ∧ cell.vm ≠ .unknown ∧ n ≤ cell.slots.size ∧ cell.slots.size.toInt32 = Int32.ofNat n ∧ (∀ j : Nat, j < n → cell.slots[j]? = some (hp_av f j)) ∧ (w = true → E.2.2.2 ≤ a ∧ ∃ cA : ClassId, cell = arrV cA n (hp_av f) ∧ ArrOfT U cA ty ∧ U.vm.findClass ("[" ++ ty.toString) = some cA ∧ ∀ C, ty = .object C → va_RA U cA ty)
def hp_K (E : hp_E) (U : State) : Prop := ∀ (c : Nat) (q : vw_C), classes[c]? = some q → u_Kn U q.1 q.2.1 q.2.2 (E.1 c) (E.2.1 c)
def hp_Zs (E : hp_E) (U : State) (H : Heap) : Prop := ∀ (k : Nat) (q : String × String × String), statics[k]? = some q → va_Z q.1 q.2.1 q.2.2 (.ref (E.2.2.1 k)) (fun x => E.2.2.2 ≤ x) U H
/-- the constant Strings (G 5 .. G 7) with their bytes' arrays (G 8 .. G 10), the Class object of Object[] (G 11), two more static fields -/
def hp_Xs (E : hp_E) (U : State) (H : Heap) : Prop := (∀ i : Nat, i < 3 → va_O "java/lang/String" (E.2.2.1 (5 + i)) (fun x => E.2.2.2 ≤ x) U H ∧ va_OF "java/lang/String" "coder" "B" (.int 0) (E.2.2.1 (5 + i)) (fun x => E.2.2.2 ≤ x) U H ∧ va_OF "java/lang/String" "value" "[B" (.ref (E.2.2.1 (8 + i))) (E.2.2.1 (5 + i)) (fun x => E.2.2.2 ≤ x) U H) ∧ va_Mi "[Ljava/lang/Object;" (E.2.2.1 11) U ∧ va_Dc U ∧ va_Z "java/lang/String" "COMPACT_STRINGS" "Z" (.int 1) (fun x => E.2.2.2 ≤ x) U H ∧ va_Zq "jdk/internal/util/Preconditions" "SIOOBE_FORMATTER" "Ljava/util/function/BiFunction;" (fun x => E.2.2.2 ≤ x) U H
theorem hp_Xs.moved {E : hp_E} {u U : State} {H : Heap} (hvm : u.vm.Alike U.vm) (h : hp_Xs E u H) : hp_Xs E U H :=
  ⟨fun i hi => ⟨(h.1 i hi).1.moved hvm, (h.1 i hi).2.1.moved hvm, (h.1 i hi).2.2.moved hvm⟩, h.2.1.moved hvm, h.2.2.1.moved hvm, h.2.2.2.1.moved hvm, h.2.2.2.2.moved hvm⟩
theorem hp_Xs.kept {E : hp_E} {U : State} {H H1 : Heap} (h : hp_Xs E U H) (hq : ∀ a : Nat, a < H.size → ¬ E.2.2.2 ≤ a → H1[a]? = H[a]?) : hp_Xs E U H1 :=
  ⟨fun i hi => ⟨(h.1 i hi).1.kept hq, (h.1 i hi).2.1.kept hq, (h.1 i hi).2.2.kept hq⟩, h.2.1, h.2.2.1, h.2.2.2.1.kept hq, h.2.2.2.2.kept hq⟩
def hp_R (E : hp_E) (U : State) (H : Heap) (h : hp_H) : Prop := H.size = h.2.1 ∧ E.2.2.2 ≤ h.2.1 ∧ (∀ (a : Nat) (ce : hp_Ce), h.1 a = some ce → hp_at E U H a ce) ∧ hp_K E U ∧ hp_Zs E U H ∧ hp_Xs E U H
theorem hp_at.kept {E : hp_E} {U : State} {H H1 : Heap} {a : Nat} {ce : hp_Ce} (h : hp_at E U H a ce) (hq : H1[a]? = H[a]?) : hp_at E U H1 a ce := by
  cases ce with
  | inl o =>
    obtain ⟨h0, r, h1, h2, h3⟩ := h
    exact ⟨h0, r, h1, h2, h3.kept hq⟩
  | inr o =>
    obtain ⟨cell, h1, h2⟩ := h
    exact ⟨cell, hq.trans h1, h2⟩
theorem hp_at.moved {E : hp_E} {u U : State} {H : Heap} {a : Nat} {ce : hp_Ce} (hvm : u.vm.Alike U.vm) (h : hp_at E u H a ce) : hp_at E U H a ce := by
  cases ce with
  | inl o => exact h
  | inr o =>
    obtain ⟨cell, h1, h2, h3, h4, h5, h6, h7⟩ := h
    refine ⟨cell, h1, State.isArrayOf_alike hvm h2, h3, h4, h5, h6, fun hw => ?_⟩
    obtain ⟨q1, cA, q2, q3, q5, q4⟩ := h7 hw
    exact ⟨q1, cA, q2, arrOfT_moved hvm q3, by rw [hvm.findClass]; exact q5, fun C hC => (q4 C hC).moved hvm⟩
theorem hp_at.arr {E : hp_E} {U : State} {H : Heap} {a n : Nat} {ty : FieldType} {f : hp_Ar} {cA : ClassId} (hB : E.2.2.2 ≤ a) (h1 : H[a]? = some (arrV cA n (hp_av f))) (h2 : ArrOfT U cA ty) (h3 : U.vm.findClass ("[" ++ ty.toString) = some cA ∧ ∀ C, ty = .object C → va_RA U cA ty) : hp_at E U H a (.inr (true, ty, n, f)) :=
  ⟨_, h1, h2 _ _, (fun q => by cases q), (by rw [arrV_size]; exact Nat.le_refl _), (by rw [arrV_size]), (fun j hj => arrV_read _ _ hj), fun _ => ⟨hB, cA, rfl, h2, h3⟩⟩
theorem hp_at.lt {E : hp_E} {U : State} {H : Heap} {a : Nat} {ce : hp_Ce} (h : hp_at E U H a ce) : a < H.size := by
  cases ce with
  | inl o =>
    obtain ⟨-, r, -, -, cell, h1, -⟩ := h
    exact (Array.getElem?_eq_some_iff.mp h1).1
  | inr o =>
    obtain ⟨cell, h1, -⟩ := h
    exact (Array.getElem?_eq_some_iff.mp h1).1
theorem hp_R.moved {E : hp_E} {u U : State} {H : Heap} {h : hp_H} (hvm : u.vm.Alike U.vm) (hR : hp_R E u H h) : hp_R E U H h :=
  ⟨hR.1, hR.2.1, fun a ce hc => (hR.2.2.1 a ce hc).moved hvm, fun c q hq => u_Kn_moved hvm (hR.2.2.2.1 c q hq), fun k q hq => va_Z.moved hvm (hR.2.2.2.2.1 k q hq), hR.2.2.2.2.2.moved hvm⟩
theorem hp_R.put {E : hp_E} {U : State} {H H1 : Heap} {h : hp_H} {a : Nat} {ce : hp_Ce} (hR : hp_R E U H h) (hB : E.2.2.2 ≤ a) (hn : hp_at E U H1 a ce) (hz : H1.size = H.size) (ho : ∀ q : Nat, q ≠ a → H1[q]? = H[q]?) : hp_R E U H1 (hp_up h.1 a ce, h.2) := by
  refine ⟨hz.trans hR.1, hR.2.1, fun b cb hb => ?_, hR.2.2.2.1, fun k q hq => (hR.2.2.2.2.1 k q hq).kept (fun x _ hx => ho x (fun e => hx (by rw [e]; exact hB))), hR.2.2.2.2.2.kept (fun x _ hx => ho x (fun e => hx (by rw [e]; exact hB)))⟩
  by_cases e : b = a
  · subst e
    have h1 : hp_up h.1 b ce b = some cb := hb
    rw [hp_up_self] at h1
    cases h1
    exact hn
  · have h1 : hp_up h.1 a ce b = some cb := hb
    rw [hp_up_ne _ _ e] at h1
    exact (hR.2.2.1 b cb h1).kept (ho b e)
theorem hp_R.push {E : hp_E} {U : State} {H H1 : Heap} {h : hp_H} {ce : hp_Ce} (n : Nat) (hR : hp_R E U H h) (hn : hp_at E U H1 h.2.1 ce) (hz : H1.size = h.2.1 + 1) (ho : ∀ q : Nat, q < h.2.1 → H1[q]? = H[q]?) : hp_R E U H1 (hp_up h.1 h.2.1 ce, h.2.1 + 1, h.2.2 + n) := by
  refine ⟨hz, Nat.le_succ_of_le hR.2.1, fun b cb hb => ?_, hR.2.2.2.1, fun k q hq => (hR.2.2.2.2.1 k q hq).kept (fun x hx _ => ho x (by rw [← hR.1]; exact hx)), hR.2.2.2.2.2.kept (fun x hx _ => ho x (by rw [← hR.1]; exact hx))⟩
  by_cases e : b = h.2.1
  · subst e
    have h1 : hp_up h.1 h.2.1 ce h.2.1 = some cb := hb
    rw [hp_up_self] at h1
    cases h1
    exact hn
  · have h1 : hp_up h.1 h.2.1 ce b = some cb := hb
    rw [hp_up_ne _ _ e] at h1
    have h2 := hR.2.2.1 b cb h1
    exact h2.kept (ho b (by rw [← hR.1]; exact h2.lt))
/-! WHAT THE FUNCTIONS ARE MADE OF -/
def hp_fs (h : hp_H) (a ci : Nat) : Option (List Value) := match h.1 a with
  | some (.inl o) => if o.1 = ci then some o.2 else none
  | _ => none
def hp_toI : Value → Option Int32
  | .int x => some x
  | _ => none
def hp_toL : Value → Option Int64
  | .long x => some x
  | _ => none
def hp_toR : Value → Option Nat
  | .ref x => some x
  | _ => none
def hp_gI (h : hp_H) (a ci k : Nat) : Option Int32 := ((hp_fs h a ci).bind fun fs => fs[k]?).bind hp_toI
def hp_gL (h : hp_H) (a ci k : Nat) : Option Int64 := ((hp_fs h a ci).bind fun fs => fs[k]?).bind hp_toL
def hp_gR (h : hp_H) (a ci k : Nat) : Option Nat := ((hp_fs h a ci).bind fun fs => fs[k]?).bind hp_toR
def hp_p (h : hp_H) (a ci k : Nat) (v : Value) : Option hp_H := (hp_fs h a ci).bind fun fs => if k < fs.length then some (hp_up h.1 a (.inl (ci, fs.set k v)), h.2) else none
def hp_pZ (h : hp_H) (a ci k : Nat) (x : Int32) : Option hp_H := if x = 0 ∨ x = 1 then hp_p h a ci k (.int x) else none
def hp_new (h : hp_H) (ci n : Nat) (fs : List Value) : hp_H := (hp_up h.1 h.2.1 (.inl (ci, fs)), h.2.1 + 1, h.2.2 + n)
def hp_newa (h : hp_H) (ty : FieldType) (n : Nat) (f : hp_Ar) : hp_H := (hp_up h.1 h.2.1 (.inr (true, ty, n, f)), h.2.1 + 1, h.2.2 + n)
def hp_arr (h : hp_H) (a : Nat) : Option (Bool × FieldType × Nat × hp_Ar) := match h.1 a with
  | some (.inr o) => some o
  | _ => none
def hp_aI (h : hp_H) (ty : FieldType) (a : Nat) (i : Int32) : Option Int32 := match hp_arr h a with
  | some (_, t, n, .inl f) => if t = ty ∧ ¬ (i < 0 ∨ n ≤ i.toNatClampNeg) then some (f i.toNatClampNeg) else none
  | _ => none
def hp_aL (h : hp_H) (a : Nat) (i : Int32) : Option Int64 := match hp_arr h a with
  | some (_, t, n, .inr (.inl f)) => if t = .long ∧ ¬ (i < 0 ∨ n ≤ i.toNatClampNeg) then some (f i.toNatClampNeg) else none
  | _ => none
def hp_aR (h : hp_H) (a : Nat) (i : Int32) : Option Nat := match hp_arr h a with
  | some (_, t, n, .inr (.inr f)) => if t.isReference = true ∧ ¬ (i < 0 ∨ n ≤ i.toNatClampNeg) then f i.toNatClampNeg else none
  | _ => none
def hp_sI (h : hp_H) (ty : FieldType) (a : Nat) (i x : Int32) : Option hp_H := match hp_arr h a with
  | some (w, t, n, .inl f) => if w = true ∧ t = ty ∧ ¬ (i < 0 ∨ n ≤ i.toNatClampNeg) then some (hp_up h.1 a (.inr (w, t, n, .inl (upd f i.toNatClampNeg x))), h.2) else none
  | _ => none
def hp_sL (h : hp_H) (a : Nat) (i : Int32) (x : Int64) : Option hp_H := match hp_arr h a with
  | some (w, t, n, .inr (.inl f)) => if w = true ∧ t = .long ∧ ¬ (i < 0 ∨ n ≤ i.toNatClampNeg) then some (hp_up h.1 a (.inr (w, t, n, .inr (.inl (vp_updL f i.toNatClampNeg x)))), h.2) else none
  | _ => none
def hp_len (h : hp_H) (a : Nat) : Option Int32 := (hp_arr h a).map fun o => Int32.ofNat o.2.2.1
/-- a receiver's class -/
def hp_vck {β : Type} (h : hp_H) (b ci : Nat) (X : Option β) : Option β := (hp_fs h b ci).bind fun _ => X
def hp_nm {α β : Type} (x : α) (k : α → β) : β := k x
def hp_dI (x y : Int32) : Option Int32 := if y = 0 then none else some (x / y)
def hp_mI (x y : Int32) : Option Int32 := if y = 0 then none else some (x - x / y * y)
def hp_dL (x y : Int64) : Option Int64 := if y = 0 then none else some (x / y)
def hp_mL (x y : Int64) : Option Int64 := if y = 0 then none else some (x - x / y * y)
def hp_rI (x : Int32) : Option Value := some (.int x)
def hp_rL (x : Int64) : Option Value := some (.long x)
def hp_rR (x : Nat) : Option Value := some (.ref x)
def hp_rV (_ : Unit) : Option Value := none
