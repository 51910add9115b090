/-! THE JUDGEMENT. 'hp_J Y Z mk h pc lv st X': the machine in method Y at pc, with locals lv and stack st, over a heap that holds h, comes to the end that X says (if X says one). -/
abbrev hp_Z := Program × Launch × Env × State × MethodId × Array Value × List Frame × Method × Code × hp_H × hp_E × Nat × Nat
abbrev hp_Y : Type := String × ByteArray × Nat × Option FieldType × String × Nat × Nat
abbrev hp_strs : List (String × Nat × String × Nat) := [("ExpressionDesk$Row", 82, "true", 5), ("ExpressionDesk$Row", 84, "false", 6), ("ExpressionDeskModel", 215, ".0", 7), ("ExpressionDeskModel", 194, "true", 5), ("ExpressionDeskModel", 196, "false", 6)]
def hp_N (E : hp_E) (U : State) : Prop := (∀ w ∈ hp_Nst, va_Nw w U) ∧ ∀ q ∈ hp_strs, vk_R q.1 q.2.1 q.2.2.1 (E.2.2.1 q.2.2.2) U
def hp_Q (E : hp_E) (v : Option Value) (h' : hp_H) : Array Value → State → Outcome → State → Prop := fun _ _ o t => o = .returned v ∧ hp_R E t t.heap h'
abbrev hp_Rm (fr lo : Nat) (h0 h' : hp_H) : Room := { frames := fr, cells := h'.2.1 - h0.2.1, slots := h'.2.2 - h0.2.2, locals := lo }
def hp_F (Y : hp_Y) (p : Program) (s : State) (m : MethodId) (args : Array Value) (meth : Method) (c : Code) (fr lo : Nat) (E : hp_E) : Prop :=
  p.tables.exec = Jvm.exec ∧ c.code = Y.2.1 ∧ c.maxLocals = Y.2.2.1 ∧ s.vm.findClass Y.1 = some m.cls ∧ (∀ w ∈ hp_T, w.before args s = true) ∧ hp_N E s ∧ meth.sig.returnType = Y.2.2.2.1 ∧ meth.locks = false ∧ meth.name = Y.2.2.2.2.1 ∧ fr = Y.2.2.2.2.2.1 ∧ lo = Y.2.2.2.2.2.2
def hp_Wk (p : Program) (l : Launch) (e : Env) (s : State) (m : MethodId) (args : Array Value) (below : List Frame) (meth : Method) (c : Code) (h0 : hp_H) (E : hp_E) (fr lo : Nat) (v : Option Value) (h h' : hp_H) (pc : Nat) (lv : List (Nat × Value)) (st : List Value) : Prop :=
  h0.2.1 ≤ h.2.1 → h0.2.2 ≤ h.2.2 → ∀ (H : Heap) (locs : List Loc) (ls : Array Slot), hp_R E s H h → (∀ q ∈ locs, E.2.2.2 ≤ q.base) → lv_has ls c.maxLocals lv →
    W p l e (hp_Rm fr lo h0 h') s m args below meth c H locs (h.2.1 - h0.2.1) (h.2.2 - h0.2.2) (MQ below (hp_Q E v h') args s (h'.2.1 - h0.2.1) (h'.2.2 - h0.2.2) (fun q => E.2.2.2 ≤ q)) (F0 m pc ls st)
def hp_J (Y : hp_Y) (Z : hp_Z) {α : Type} (mk : α → Option Value) (h : hp_H) (pc : Nat) (lv : List (Nat × Value)) (st : List Value) (X : Option (α × hp_H)) : Prop := match Z with
  | (p, l, e, s, m, args, below, meth, c, h0, E, fr, lo) => ∀ (r : α) (h' : hp_H), X = some (r, h') → (h.2.1 ≤ h'.2.1 ∧ h.2.2 ≤ h'.2.2) ∧ (hp_F Y p s m args meth c fr lo E → hp_Wk p l e s m args below meth c h0 E fr lo (mk r) h h' pc lv st)
abbrev hp_ZE (Z : hp_Z) : hp_E := Z.2.2.2.2.2.2.2.2.2.2.1
abbrev hp_G (Z : hp_Z) : Nat → Nat := (hp_ZE Z).2.2.1
section HJ
variable {p : Program} {l : Launch} {e : Env} {s : State} {m : MethodId} {args : Array Value} {below : List Frame} {meth : Method} {c : Code} {h0 : hp_H} {E : hp_E} {fr lo : Nat} {Y : hp_Y} {Z : hp_Z} {α : Type} {mk : α → Option Value} {h : hp_H} {pc : Nat} {lv lv' : List (Nat × Value)} {st : List Value} {X : Option (α × hp_H)}
/-- a step that moves no heap -/
theorem hp_go {pc' : Nat} {st' : List Value}
    (hs : hp_F Y p s m args meth c fr lo E → ∀ (R : Room) (H : Heap) (locs : List Loc) (cells slots : Nat) (Q : State → Prop) (ls : Array Slot), lv_has ls c.maxLocals lv → (∀ ls' : Array Slot, lv_has ls' c.maxLocals lv' → W p l e R s m args below meth c H locs cells slots Q (F0 m pc' ls' st')) → W p l e R s m args below meth c H locs cells slots Q (F0 m pc ls st))
    (k : hp_J Y (p, l, e, s, m, args, below, meth, c, h0, E, fr, lo) mk h pc' lv' st' X) : hp_J Y (p, l, e, s, m, args, below, meth, c, h0, E, fr, lo) mk h pc lv st X := by
  intro r h' hX
  obtain ⟨k1, k2⟩ := k r h' hX
  exact ⟨k1, fun F a1 a2 H locs ls hR hL hl => hs F _ _ _ _ _ _ _ hl (fun ls' hl' => k2 F a1 a2 H locs ls' hR hL hl')⟩
/-- fewer locals -/
theorem hp_sub (ks : List Nat) (hl : lv_pick lv ks = lv') (k : hp_J Y Z mk h pc lv' st X) : hp_J Y Z mk h pc lv st X := by
  obtain ⟨p, l, e, s, m, args, below, meth, c, h0, E, fr, lo⟩ := Z
  exact hp_go (fun _ _ _ _ _ _ _ ls h1 w => w ls (lv_sub h1 ks hl)) k
theorem hp_fail : hp_J Y Z mk h pc lv st (none : Option (α × hp_H)) := by
  obtain ⟨p, l, e, s, m, args, below, meth, c, h0, E, fr, lo⟩ := Z
  intro r h' hX
  cases hX
theorem hp_bindN {β : Type} {o : Option β} {K : β → Option (α × hp_H)} (k : ∀ x, o = some x → hp_J Y Z mk h pc lv st (K x)) : hp_J Y Z mk h pc lv st (o.bind K) := by
  cases o with
  | none => exact hp_fail
  | some x => exact k x rfl
theorem hp_nmI {x : Int32} {K : Int32 → Option (α × hp_H)} (k : ∀ y, hp_J Y Z mk h pc lv (.int y :: st) (K y)) : hp_J Y Z mk h pc lv (.int x :: st) (hp_nm x K) := k x
theorem hp_nmL {x : Int64} {K : Int64 → Option (α × hp_H)} (k : ∀ y, hp_J Y Z mk h pc lv (.long y :: st) (K y)) : hp_J Y Z mk h pc lv (.long x :: st) (hp_nm x K) := k x
theorem hp_iconst {n : Int} {v : Int32} (hdg : decode Y.2.1 pc = .ok (.iconst n, 1)) (hv : Int32.ofInt n = v) (k : hp_J Y Z mk h (pc + 1) lv (.int v :: st) X) : hp_J Y Z mk h pc lv (st) X := by
  obtain ⟨p, l, e, s, m, args, below, meth, c, h0, E, fr, lo⟩ := Z
  exact hp_go (fun F _ _ _ _ _ _ ls h1 w => lv_iconst F.1 F.2.1 hdg hv (w ls h1)) k
theorem hp_bipush {n : Int} {v : Int32} (hdg : decode Y.2.1 pc = .ok (.bipush n, 2)) (hv : (Int8.ofInt n).toInt32 = v) (k : hp_J Y Z mk h (pc + 2) lv (.int v :: st) X) : hp_J Y Z mk h pc lv (st) X := by
  obtain ⟨p, l, e, s, m, args, below, meth, c, h0, E, fr, lo⟩ := Z
  exact hp_go (fun F _ _ _ _ _ _ ls h1 w => lv_bipush F.1 F.2.1 hdg hv (w ls h1)) k
theorem hp_sipush {n : Int} {v : Int32} (hdg : decode Y.2.1 pc = .ok (.sipush n, 3)) (hv : (Int16.ofInt n).toInt32 = v) (k : hp_J Y Z mk h (pc + 3) lv (.int v :: st) X) : hp_J Y Z mk h pc lv (st) X := by
  obtain ⟨p, l, e, s, m, args, below, meth, c, h0, E, fr, lo⟩ := Z
  exact hp_go (fun F _ _ _ _ _ _ ls h1 w => lv_sipush F.1 F.2.1 hdg hv (w ls h1)) k
theorem hp_lconst {n : Fin 2} {v : Int64} (hdg : decode Y.2.1 pc = .ok (.lconst n, 1)) (hv : Int64.ofNat (n : Nat) = v) (k : hp_J Y Z mk h (pc + 1) lv (.long v :: st) X) : hp_J Y Z mk h pc lv (st) X := by
  obtain ⟨p, l, e, s, m, args, below, meth, c, h0, E, fr, lo⟩ := Z
  exact hp_go (fun F _ _ _ _ _ _ ls h1 w => lv_lconst F.1 F.2.1 hdg hv (w ls h1)) k
theorem hp_iload_n {k4 : Fin 4} {i x0 : Nat} {x : Int32} (hdg : decode Y.2.1 pc = .ok (.iload_n k4, 1)) (hi : (k4 : Nat) = i) (hk : lv[x0]? = some (i, .int x)) (k : hp_J Y Z mk h (pc + 1) lv (.int x :: st) X) : hp_J Y Z mk h pc lv (st) X := by
  obtain ⟨p, l, e, s, m, args, below, meth, c, h0, E, fr, lo⟩ := Z
  exact hp_go (fun F _ _ _ _ _ _ ls h1 w => lv_iload_n F.1 F.2.1 hdg hi (lv_at h1 x0 hk) (w ls h1)) k
theorem hp_iload {i x0 : Nat} {x : Int32} (hdg : decode Y.2.1 pc = .ok (.iload i, 2)) (hk : lv[x0]? = some (i, .int x)) (k : hp_J Y Z mk h (pc + 2) lv (.int x :: st) X) : hp_J Y Z mk h pc lv (st) X := by
  obtain ⟨p, l, e, s, m, args, below, meth, c, h0, E, fr, lo⟩ := Z
  exact hp_go (fun F _ _ _ _ _ _ ls h1 w => lv_iload F.1 F.2.1 hdg (lv_at h1 x0 hk) (w ls h1)) k
theorem hp_lload_n {k4 : Fin 4} {i x0 : Nat} {x : Int64} (hdg : decode Y.2.1 pc = .ok (.lload_n k4, 1)) (hi : (k4 : Nat) = i) (hk : lv[x0]? = some (i, .long x)) (k : hp_J Y Z mk h (pc + 1) lv (.long x :: st) X) : hp_J Y Z mk h pc lv (st) X := by
  obtain ⟨p, l, e, s, m, args, below, meth, c, h0, E, fr, lo⟩ := Z
  exact hp_go (fun F _ _ _ _ _ _ ls h1 w => lv_lload_n F.1 F.2.1 hdg hi (lv_at h1 x0 hk) (w ls h1)) k
theorem hp_lload {i x0 : Nat} {x : Int64} (hdg : decode Y.2.1 pc = .ok (.lload i, 2)) (hk : lv[x0]? = some (i, .long x)) (k : hp_J Y Z mk h (pc + 2) lv (.long x :: st) X) : hp_J Y Z mk h pc lv (st) X := by
  obtain ⟨p, l, e, s, m, args, below, meth, c, h0, E, fr, lo⟩ := Z
  exact hp_go (fun F _ _ _ _ _ _ ls h1 w => lv_lload F.1 F.2.1 hdg (lv_at h1 x0 hk) (w ls h1)) k
theorem hp_aload_n {k4 : Fin 4} {i x0 : Nat} {x : Nat} (hdg : decode Y.2.1 pc = .ok (.aload_n k4, 1)) (hi : (k4 : Nat) = i) (hk : lv[x0]? = some (i, .ref x)) (k : hp_J Y Z mk h (pc + 1) lv (.ref x :: st) X) : hp_J Y Z mk h pc lv (st) X := by
  obtain ⟨p, l, e, s, m, args, below, meth, c, h0, E, fr, lo⟩ := Z
  exact hp_go (fun F _ _ _ _ _ _ ls h1 w => lv_aload_n F.1 F.2.1 hdg hi (lv_at h1 x0 hk) (w ls h1)) k
theorem hp_aload {i x0 : Nat} {x : Nat} (hdg : decode Y.2.1 pc = .ok (.aload i, 2)) (hk : lv[x0]? = some (i, .ref x)) (k : hp_J Y Z mk h (pc + 2) lv (.ref x :: st) X) : hp_J Y Z mk h pc lv (st) X := by
  obtain ⟨p, l, e, s, m, args, below, meth, c, h0, E, fr, lo⟩ := Z
  exact hp_go (fun F _ _ _ _ _ _ ls h1 w => lv_aload F.1 F.2.1 hdg (lv_at h1 x0 hk) (w ls h1)) k
theorem hp_istore_n {k4 : Fin 4} {i : Nat} {x : Int32} (lw : Int32 → List (Nat × Value)) {K : Int32 → Option (α × hp_H)} (hdg : decode Y.2.1 pc = .ok (.istore_n k4, 1)) (hi : (k4 : Nat) = i) (hn : i < Y.2.2.1) (hl : ∀ x, (i, Value.int x) :: lv.filter (fun q => !(q.1 == i) && !(q.1 + 1 == i && q.2.category == 2)) = lw x) (k : ∀ y, hp_J Y Z mk h (pc + 1) (lw y) st (K y)) : hp_J Y Z mk h pc lv (.int x :: st) (hp_nm x K) := by
  obtain ⟨p, l, e, s, m, args, below, meth, c, h0, E, fr, lo⟩ := Z
  exact hp_go (fun F _ _ _ _ _ _ ls h1 w => lv_istore_n F.1 F.2.1 hdg hi h1 (by rw [F.2.2.1]; exact hn) (hl x) w) (k x)
theorem hp_istore {i : Nat} {x : Int32} (lw : Int32 → List (Nat × Value)) {K : Int32 → Option (α × hp_H)} (hdg : decode Y.2.1 pc = .ok (.istore i, 2)) (hn : i < Y.2.2.1) (hl : ∀ x, (i, Value.int x) :: lv.filter (fun q => !(q.1 == i) && !(q.1 + 1 == i && q.2.category == 2)) = lw x) (k : ∀ y, hp_J Y Z mk h (pc + 2) (lw y) st (K y)) : hp_J Y Z mk h pc lv (.int x :: st) (hp_nm x K) := by
  obtain ⟨p, l, e, s, m, args, below, meth, c, h0, E, fr, lo⟩ := Z
  exact hp_go (fun F _ _ _ _ _ _ ls h1 w => lv_istore F.1 F.2.1 hdg h1 (by rw [F.2.2.1]; exact hn) (hl x) w) (k x)
theorem hp_lstore_n {k4 : Fin 4} {i : Nat} {x : Int64} (lw : Int64 → List (Nat × Value)) {K : Int64 → Option (α × hp_H)} (hdg : decode Y.2.1 pc = .ok (.lstore_n k4, 1)) (hi : (k4 : Nat) = i) (hn : i + 1 < Y.2.2.1) (hl : ∀ x, (i, Value.long x) :: lv.filter (fun q => !(q.1 == i) && (!(q.1 == i + 1) && !(q.1 + 1 == i && q.2.category == 2))) = lw x) (k : ∀ y, hp_J Y Z mk h (pc + 1) (lw y) st (K y)) : hp_J Y Z mk h pc lv (.long x :: st) (hp_nm x K) := by
  obtain ⟨p, l, e, s, m, args, below, meth, c, h0, E, fr, lo⟩ := Z
  exact hp_go (fun F _ _ _ _ _ _ ls h1 w => lv_lstore_n F.1 F.2.1 hdg hi h1 (by rw [F.2.2.1]; exact hn) (hl x) w) (k x)
theorem hp_lstore {i : Nat} {x : Int64} (lw : Int64 → List (Nat × Value)) {K : Int64 → Option (α × hp_H)} (hdg : decode Y.2.1 pc = .ok (.lstore i, 2)) (hn : i + 1 < Y.2.2.1) (hl : ∀ x, (i, Value.long x) :: lv.filter (fun q => !(q.1 == i) && (!(q.1 == i + 1) && !(q.1 + 1 == i && q.2.category == 2))) = lw x) (k : ∀ y, hp_J Y Z mk h (pc + 2) (lw y) st (K y)) : hp_J Y Z mk h pc lv (.long x :: st) (hp_nm x K) := by
  obtain ⟨p, l, e, s, m, args, below, meth, c, h0, E, fr, lo⟩ := Z
  exact hp_go (fun F _ _ _ _ _ _ ls h1 w => lv_lstore F.1 F.2.1 hdg h1 (by rw [F.2.2.1]; exact hn) (hl x) w) (k x)
theorem hp_astore_n {k4 : Fin 4} {i : Nat} {x : Nat} (lw : Nat → List (Nat × Value)) {K : Nat → Option (α × hp_H)} (hdg : decode Y.2.1 pc = .ok (.astore_n k4, 1)) (hi : (k4 : Nat) = i) (hn : i < Y.2.2.1) (hl : ∀ x, (i, Value.ref x) :: lv.filter (fun q => !(q.1 == i) && !(q.1 + 1 == i && q.2.category == 2)) = lw x) (k : ∀ y, hp_J Y Z mk h (pc + 1) (lw y) st (K y)) : hp_J Y Z mk h pc lv (.ref x :: st) (hp_nm x K) := by
  obtain ⟨p, l, e, s, m, args, below, meth, c, h0, E, fr, lo⟩ := Z
  exact hp_go (fun F _ _ _ _ _ _ ls h1 w => lv_astore_n F.1 F.2.1 hdg hi h1 (by rw [F.2.2.1]; exact hn) (hl x) w) (k x)
theorem hp_astore {i : Nat} {x : Nat} (lw : Nat → List (Nat × Value)) {K : Nat → Option (α × hp_H)} (hdg : decode Y.2.1 pc = .ok (.astore i, 2)) (hn : i < Y.2.2.1) (hl : ∀ x, (i, Value.ref x) :: lv.filter (fun q => !(q.1 == i) && !(q.1 + 1 == i && q.2.category == 2)) = lw x) (k : ∀ y, hp_J Y Z mk h (pc + 2) (lw y) st (K y)) : hp_J Y Z mk h pc lv (.ref x :: st) (hp_nm x K) := by
  obtain ⟨p, l, e, s, m, args, below, meth, c, h0, E, fr, lo⟩ := Z
  exact hp_go (fun F _ _ _ _ _ _ ls h1 w => lv_astore F.1 F.2.1 hdg h1 (by rw [F.2.2.1]; exact hn) (hl x) w) (k x)
theorem hp_iinc {i x0 : Nat} {n : Int} {x d : Int32} (lw : Int32 → List (Nat × Value)) {K : Int32 → Option (α × hp_H)} (hdg : decode Y.2.1 pc = .ok (.iinc i n, 3)) (hk : lv[x0]? = some (i, .int x)) (hd : Int32.ofInt n = d) (hn : i < Y.2.2.1) (hl : ∀ x, (i, Value.int x) :: lv.filter (fun q => !(q.1 == i) && !(q.1 + 1 == i && q.2.category == 2)) = lw x) (k : ∀ y, hp_J Y Z mk h (pc + 3) (lw y) st (K y)) : hp_J Y Z mk h pc lv st (hp_nm (x + d) K) := by
  obtain ⟨p, l, e, s, m, args, below, meth, c, h0, E, fr, lo⟩ := Z
  exact hp_go (fun F _ _ _ _ _ _ ls h1 w => lv_iinc F.1 F.2.1 hdg h1 hk (by rw [hd]) (by rw [F.2.2.1]; exact hn) (hl _) w) (k (x + d))
theorem hp_iadd {x y : Int32} (hdg : decode Y.2.1 pc = .ok (.iadd, 1)) (k : hp_J Y Z mk h (pc + 1) lv (.int (x + y) :: st) X) : hp_J Y Z mk h pc lv (.int y :: .int x :: st) X := by
  obtain ⟨p, l, e, s, m, args, below, meth, c, h0, E, fr, lo⟩ := Z
  exact hp_go (fun F _ _ _ _ _ _ ls h1 w => lv_iadd F.1 F.2.1 hdg (w ls h1)) k
theorem hp_isub {x y : Int32} (hdg : decode Y.2.1 pc = .ok (.isub, 1)) (k : hp_J Y Z mk h (pc + 1) lv (.int (x - y) :: st) X) : hp_J Y Z mk h pc lv (.int y :: .int x :: st) X := by
  obtain ⟨p, l, e, s, m, args, below, meth, c, h0, E, fr, lo⟩ := Z
  exact hp_go (fun F _ _ _ _ _ _ ls h1 w => lv_isub F.1 F.2.1 hdg (w ls h1)) k
theorem hp_imul {x y : Int32} (hdg : decode Y.2.1 pc = .ok (.imul, 1)) (k : hp_J Y Z mk h (pc + 1) lv (.int (x * y) :: st) X) : hp_J Y Z mk h pc lv (.int y :: .int x :: st) X := by
  obtain ⟨p, l, e, s, m, args, below, meth, c, h0, E, fr, lo⟩ := Z
  exact hp_go (fun F _ _ _ _ _ _ ls h1 w => lv_imul F.1 F.2.1 hdg (w ls h1)) k
theorem hp_iand {x y : Int32} (hdg : decode Y.2.1 pc = .ok (.iand, 1)) (k : hp_J Y Z mk h (pc + 1) lv (.int (x &&& y) :: st) X) : hp_J Y Z mk h pc lv (.int y :: .int x :: st) X := by
  obtain ⟨p, l, e, s, m, args, below, meth, c, h0, E, fr, lo⟩ := Z
  exact hp_go (fun F _ _ _ _ _ _ ls h1 w => lv_iand F.1 F.2.1 hdg (w ls h1)) k
theorem hp_ior {x y : Int32} (hdg : decode Y.2.1 pc = .ok (.ior, 1)) (k : hp_J Y Z mk h (pc + 1) lv (.int (x ||| y) :: st) X) : hp_J Y Z mk h pc lv (.int y :: .int x :: st) X := by
  obtain ⟨p, l, e, s, m, args, below, meth, c, h0, E, fr, lo⟩ := Z
  exact hp_go (fun F _ _ _ _ _ _ ls h1 w => lv_ior F.1 F.2.1 hdg (w ls h1)) k
theorem hp_ixor {x y : Int32} (hdg : decode Y.2.1 pc = .ok (.ixor, 1)) (k : hp_J Y Z mk h (pc + 1) lv (.int (x ^^^ y) :: st) X) : hp_J Y Z mk h pc lv (.int y :: .int x :: st) X := by
  obtain ⟨p, l, e, s, m, args, below, meth, c, h0, E, fr, lo⟩ := Z
  exact hp_go (fun F _ _ _ _ _ _ ls h1 w => lv_ixor F.1 F.2.1 hdg (w ls h1)) k
theorem hp_ladd {x y : Int64} (hdg : decode Y.2.1 pc = .ok (.ladd, 1)) (k : hp_J Y Z mk h (pc + 1) lv (.long (x + y) :: st) X) : hp_J Y Z mk h pc lv (.long y :: .long x :: st) X := by
  obtain ⟨p, l, e, s, m, args, below, meth, c, h0, E, fr, lo⟩ := Z
  exact hp_go (fun F _ _ _ _ _ _ ls h1 w => lv_ladd F.1 F.2.1 hdg (w ls h1)) k
theorem hp_lsub {x y : Int64} (hdg : decode Y.2.1 pc = .ok (.lsub, 1)) (k : hp_J Y Z mk h (pc + 1) lv (.long (x - y) :: st) X) : hp_J Y Z mk h pc lv (.long y :: .long x :: st) X := by
  obtain ⟨p, l, e, s, m, args, below, meth, c, h0, E, fr, lo⟩ := Z
  exact hp_go (fun F _ _ _ _ _ _ ls h1 w => lv_lsub F.1 F.2.1 hdg (w ls h1)) k
theorem hp_lmul {x y : Int64} (hdg : decode Y.2.1 pc = .ok (.lmul, 1)) (k : hp_J Y Z mk h (pc + 1) lv (.long (x * y) :: st) X) : hp_J Y Z mk h pc lv (.long y :: .long x :: st) X := by
  obtain ⟨p, l, e, s, m, args, below, meth, c, h0, E, fr, lo⟩ := Z
  exact hp_go (fun F _ _ _ _ _ _ ls h1 w => lv_lmul F.1 F.2.1 hdg (w ls h1)) k
theorem hp_land {x y : Int64} (hdg : decode Y.2.1 pc = .ok (.land, 1)) (k : hp_J Y Z mk h (pc + 1) lv (.long (x &&& y) :: st) X) : hp_J Y Z mk h pc lv (.long y :: .long x :: st) X := by
  obtain ⟨p, l, e, s, m, args, below, meth, c, h0, E, fr, lo⟩ := Z
  exact hp_go (fun F _ _ _ _ _ _ ls h1 w => lv_land F.1 F.2.1 hdg (w ls h1)) k
theorem hp_lor {x y : Int64} (hdg : decode Y.2.1 pc = .ok (.lor, 1)) (k : hp_J Y Z mk h (pc + 1) lv (.long (x ||| y) :: st) X) : hp_J Y Z mk h pc lv (.long y :: .long x :: st) X := by
  obtain ⟨p, l, e, s, m, args, below, meth, c, h0, E, fr, lo⟩ := Z
  exact hp_go (fun F _ _ _ _ _ _ ls h1 w => lv_lor F.1 F.2.1 hdg (w ls h1)) k
theorem hp_lxor {x y : Int64} (hdg : decode Y.2.1 pc = .ok (.lxor, 1)) (k : hp_J Y Z mk h (pc + 1) lv (.long (x ^^^ y) :: st) X) : hp_J Y Z mk h pc lv (.long y :: .long x :: st) X := by
  obtain ⟨p, l, e, s, m, args, below, meth, c, h0, E, fr, lo⟩ := Z
  exact hp_go (fun F _ _ _ _ _ _ ls h1 w => lv_lxor F.1 F.2.1 hdg (w ls h1)) k
theorem hp_ineg {x : Int32} (hdg : decode Y.2.1 pc = .ok (.ineg, 1)) (k : hp_J Y Z mk h (pc + 1) lv (.int (-x) :: st) X) : hp_J Y Z mk h pc lv (.int x :: st) X := by
  obtain ⟨p, l, e, s, m, args, below, meth, c, h0, E, fr, lo⟩ := Z
  exact hp_go (fun F _ _ _ _ _ _ ls h1 w => lv_ineg F.1 F.2.1 hdg (w ls h1)) k
theorem hp_lneg {x : Int64} (hdg : decode Y.2.1 pc = .ok (.lneg, 1)) (k : hp_J Y Z mk h (pc + 1) lv (.long (-x) :: st) X) : hp_J Y Z mk h pc lv (.long x :: st) X := by
  obtain ⟨p, l, e, s, m, args, below, meth, c, h0, E, fr, lo⟩ := Z
  exact hp_go (fun F _ _ _ _ _ _ ls h1 w => lv_lneg F.1 F.2.1 hdg (w ls h1)) k
theorem hp_ishl {x y : Int32} (hdg : decode Y.2.1 pc = .ok (.ishl, 1)) (k : hp_J Y Z mk h (pc + 1) lv (.int (x <<< (y &&& 31)) :: st) X) : hp_J Y Z mk h pc lv (.int y :: .int x :: st) X := by
  obtain ⟨p, l, e, s, m, args, below, meth, c, h0, E, fr, lo⟩ := Z
  exact hp_go (fun F _ _ _ _ _ _ ls h1 w => lv_ishl F.1 F.2.1 hdg (w ls h1)) k
theorem hp_ishr {x y : Int32} (hdg : decode Y.2.1 pc = .ok (.ishr, 1)) (k : hp_J Y Z mk h (pc + 1) lv (.int (x >>> (y &&& 31)) :: st) X) : hp_J Y Z mk h pc lv (.int y :: .int x :: st) X := by
  obtain ⟨p, l, e, s, m, args, below, meth, c, h0, E, fr, lo⟩ := Z
  exact hp_go (fun F _ _ _ _ _ _ ls h1 w => lv_ishr F.1 F.2.1 hdg (w ls h1)) k
theorem hp_iushr {x y : Int32} (hdg : decode Y.2.1 pc = .ok (.iushr, 1)) (k : hp_J Y Z mk h (pc + 1) lv (.int ((x.toUInt32 >>> (y.toUInt32 &&& Int32.toUInt32 31)).toInt32) :: st) X) : hp_J Y Z mk h pc lv (.int y :: .int x :: st) X := by
  obtain ⟨p, l, e, s, m, args, below, meth, c, h0, E, fr, lo⟩ := Z
  exact hp_go (fun F _ _ _ _ _ _ ls h1 w => lv_iushr F.1 F.2.1 hdg rfl (w ls h1)) k
theorem hp_lushr {x : Int64} {y : Int32} (hdg : decode Y.2.1 pc = .ok (.lushr, 1)) (k : hp_J Y Z mk h (pc + 1) lv (.long ((x.toUInt64 >>> (y.toInt64.toUInt64 &&& Int64.toUInt64 63)).toInt64) :: st) X) : hp_J Y Z mk h pc lv (.int y :: .long x :: st) X := by
  obtain ⟨p, l, e, s, m, args, below, meth, c, h0, E, fr, lo⟩ := Z
  exact hp_go (fun F _ _ _ _ _ _ ls h1 w => lv_lushr F.1 F.2.1 hdg rfl (w ls h1)) k
theorem hp_lshl {x : Int64} {y : Int32} (hdg : decode Y.2.1 pc = .ok (.lshl, 1)) (k : hp_J Y Z mk h (pc + 1) lv (.long (x <<< (y.toInt64 &&& 63)) :: st) X) : hp_J Y Z mk h pc lv (.int y :: .long x :: st) X := by
  obtain ⟨p, l, e, s, m, args, below, meth, c, h0, E, fr, lo⟩ := Z
  exact hp_go (fun F _ _ _ _ _ _ ls h1 w => lv_lshl F.1 F.2.1 hdg rfl (w ls h1)) k
theorem hp_lshr {x : Int64} {y : Int32} (hdg : decode Y.2.1 pc = .ok (.lshr, 1)) (k : hp_J Y Z mk h (pc + 1) lv (.long (x >>> (y.toInt64 &&& 63)) :: st) X) : hp_J Y Z mk h pc lv (.int y :: .long x :: st) X := by
  obtain ⟨p, l, e, s, m, args, below, meth, c, h0, E, fr, lo⟩ := Z
  exact hp_go (fun F _ _ _ _ _ _ ls h1 w => lv_lshr F.1 F.2.1 hdg rfl (w ls h1)) k
theorem hp_i2l {x : Int32} (hdg : decode Y.2.1 pc = .ok (.i2l, 1)) (k : hp_J Y Z mk h (pc + 1) lv (.long x.toInt64 :: st) X) : hp_J Y Z mk h pc lv (.int x :: st) X := by
  obtain ⟨p, l, e, s, m, args, below, meth, c, h0, E, fr, lo⟩ := Z
  exact hp_go (fun F _ _ _ _ _ _ ls h1 w => lv_i2l F.1 F.2.1 hdg rfl (w ls h1)) k
theorem hp_l2i {x : Int64} (hdg : decode Y.2.1 pc = .ok (.l2i, 1)) (k : hp_J Y Z mk h (pc + 1) lv (.int x.toInt32 :: st) X) : hp_J Y Z mk h pc lv (.long x :: st) X := by
  obtain ⟨p, l, e, s, m, args, below, meth, c, h0, E, fr, lo⟩ := Z
  exact hp_go (fun F _ _ _ _ _ _ ls h1 w => lv_l2i F.1 F.2.1 hdg rfl (w ls h1)) k
theorem hp_i2b {x : Int32} (hdg : decode Y.2.1 pc = .ok (.i2b, 1)) (k : hp_J Y Z mk h (pc + 1) lv (.int x.toInt8.toInt32 :: st) X) : hp_J Y Z mk h pc lv (.int x :: st) X := by
  obtain ⟨p, l, e, s, m, args, below, meth, c, h0, E, fr, lo⟩ := Z
  exact hp_go (fun F _ _ _ _ _ _ ls h1 w => lv_i2b F.1 F.2.1 hdg rfl (w ls h1)) k
theorem hp_i2c {x : Int32} (hdg : decode Y.2.1 pc = .ok (.i2c, 1)) (k : hp_J Y Z mk h (pc + 1) lv (.int (x.toUInt32 % 65536).toInt32 :: st) X) : hp_J Y Z mk h pc lv (.int x :: st) X := by
  obtain ⟨p, l, e, s, m, args, below, meth, c, h0, E, fr, lo⟩ := Z
  exact hp_go (fun F _ _ _ _ _ _ ls h1 w => lv_i2c F.1 F.2.1 hdg rfl (w ls h1)) k
theorem hp_lcmp {x y : Int64} (hdg : decode Y.2.1 pc = .ok (.lcmp, 1)) (k : hp_J Y Z mk h (pc + 1) lv (.int (lg_cmp x y) :: st) X) : hp_J Y Z mk h pc lv (.long y :: .long x :: st) X := by
  obtain ⟨p, l, e, s, m, args, below, meth, c, h0, E, fr, lo⟩ := Z
  exact hp_go (fun F _ _ _ _ _ _ ls h1 w => W.lcmp F.1 F.2.1 hdg (w ls h1)) k
theorem hp_dup {va : Value} (hdg : decode Y.2.1 pc = .ok (.dup, 1)) (ha : va.category = 1) (k : hp_J Y Z mk h (pc + 1) lv (va :: va :: st) X) : hp_J Y Z mk h pc lv (va :: st) X := by
  obtain ⟨p, l, e, s, m, args, below, meth, c, h0, E, fr, lo⟩ := Z
  exact hp_go (fun F _ _ _ _ _ _ ls h1 w => lv_dup F.1 F.2.1 hdg ha (w ls h1)) k
theorem hp_pop {va : Value} (hdg : decode Y.2.1 pc = .ok (.pop, 1)) (ha : va.category = 1) (k : hp_J Y Z mk h (pc + 1) lv (st) X) : hp_J Y Z mk h pc lv (va :: st) X := by
  obtain ⟨p, l, e, s, m, args, below, meth, c, h0, E, fr, lo⟩ := Z
  exact hp_go (fun F _ _ _ _ _ _ ls h1 w => lv_pop F.1 F.2.1 hdg ha (w ls h1)) k
theorem hp_dup_x1 {va vb : Value} (hdg : decode Y.2.1 pc = .ok (.dup_x1, 1)) (ha : va.category = 1) (hb : vb.category = 1) (k : hp_J Y Z mk h (pc + 1) lv (va :: vb :: va :: st) X) : hp_J Y Z mk h pc lv (va :: vb :: st) X := by
  obtain ⟨p, l, e, s, m, args, below, meth, c, h0, E, fr, lo⟩ := Z
  exact hp_go (fun F _ _ _ _ _ _ ls h1 w => lv_dup_x1 F.1 F.2.1 hdg ha hb (w ls h1)) k
theorem hp_dup_x2 {va vb vd : Value} (hdg : decode Y.2.1 pc = .ok (.dup_x2, 1)) (ha : va.category = 1) (hb : vb.category = 1) (hd : vd.category = 1) (k : hp_J Y Z mk h (pc + 1) lv (va :: vb :: vd :: va :: st) X) : hp_J Y Z mk h pc lv (va :: vb :: vd :: st) X := by
  obtain ⟨p, l, e, s, m, args, below, meth, c, h0, E, fr, lo⟩ := Z
  exact hp_go (fun F _ _ _ _ _ _ ls h1 w => lv_dup_x2 F.1 F.2.1 hdg ha hb hd (w ls h1)) k
theorem hp_dup2_11 {va vb : Value} (hdg : decode Y.2.1 pc = .ok (.dup2, 1)) (ha : va.category = 1) (hb : vb.category = 1) (k : hp_J Y Z mk h (pc + 1) lv (va :: vb :: va :: vb :: st) X) : hp_J Y Z mk h pc lv (va :: vb :: st) X := by
  obtain ⟨p, l, e, s, m, args, below, meth, c, h0, E, fr, lo⟩ := Z
  exact hp_go (fun F _ _ _ _ _ _ ls h1 w => lv_dup2_11 F.1 F.2.1 hdg ha hb (w ls h1)) k
theorem hp_dup2_2 {va : Value} (hdg : decode Y.2.1 pc = .ok (.dup2, 1)) (ha : va.category = 2) (k : hp_J Y Z mk h (pc + 1) lv (va :: va :: st) X) : hp_J Y Z mk h pc lv (va :: st) X := by
  obtain ⟨p, l, e, s, m, args, below, meth, c, h0, E, fr, lo⟩ := Z
  exact hp_go (fun F _ _ _ _ _ _ ls h1 w => lv_dup2_2 F.1 F.2.1 hdg ha (w ls h1)) k
theorem hp_pop2_2 {va : Value} (hdg : decode Y.2.1 pc = .ok (.pop2, 1)) (ha : va.category = 2) (k : hp_J Y Z mk h (pc + 1) lv (st) X) : hp_J Y Z mk h pc lv (va :: st) X := by
  obtain ⟨p, l, e, s, m, args, below, meth, c, h0, E, fr, lo⟩ := Z
  exact hp_go (fun F _ _ _ _ _ _ ls h1 w => lv_pop2_2 F.1 F.2.1 hdg ha (w ls h1)) k
theorem hp_dup2_x1_2 {va vb : Value} (hdg : decode Y.2.1 pc = .ok (.dup2_x1, 1)) (ha : va.category = 2) (hb : vb.category = 1) (k : hp_J Y Z mk h (pc + 1) lv (va :: vb :: va :: st) X) : hp_J Y Z mk h pc lv (va :: vb :: st) X := by
  obtain ⟨p, l, e, s, m, args, below, meth, c, h0, E, fr, lo⟩ := Z
  exact hp_go (fun F _ _ _ _ _ _ ls h1 w => lv_dup2_x1_2 F.1 F.2.1 hdg ha hb (w ls h1)) k
theorem hp_idiv {x y : Int32} {K : Int32 → Option (α × hp_H)} (hdg : decode Y.2.1 pc = .ok (.idiv, 1)) (k : ∀ q, hp_J Y Z mk h (pc + 1) lv (.int q :: st) (K q)) : hp_J Y Z mk h pc lv (.int y :: .int x :: st) ((hp_dI x y).bind K) := by
  obtain ⟨p, l, e, s, m, args, below, meth, c, h0, E, fr, lo⟩ := Z
  by_cases hy : y = 0
  · rw [show hp_dI x y = none from if_pos hy]; exact hp_fail
  · rw [show hp_dI x y = some (x / y) from if_neg hy]
    exact hp_go (fun F _ _ _ _ _ _ ls h1 w => lv_idiv F.1 F.2.1 hdg hy (w ls h1)) (k _)
theorem hp_irem {x y : Int32} {K : Int32 → Option (α × hp_H)} (hdg : decode Y.2.1 pc = .ok (.irem, 1)) (k : ∀ q, hp_J Y Z mk h (pc + 1) lv (.int q :: st) (K q)) : hp_J Y Z mk h pc lv (.int y :: .int x :: st) ((hp_mI x y).bind K) := by
  obtain ⟨p, l, e, s, m, args, below, meth, c, h0, E, fr, lo⟩ := Z
  by_cases hy : y = 0
  · rw [show hp_mI x y = none from if_pos hy]; exact hp_fail
  · rw [show hp_mI x y = some (x - x / y * y) from if_neg hy]
    exact hp_go (fun F _ _ _ _ _ _ ls h1 w => lv_irem F.1 F.2.1 hdg hy (w ls h1)) (k _)
theorem hp_ldiv {x y : Int64} {K : Int64 → Option (α × hp_H)} (hdg : decode Y.2.1 pc = .ok (.ldiv, 1)) (k : ∀ q, hp_J Y Z mk h (pc + 1) lv (.long q :: st) (K q)) : hp_J Y Z mk h pc lv (.long y :: .long x :: st) ((hp_dL x y).bind K) := by
  obtain ⟨p, l, e, s, m, args, below, meth, c, h0, E, fr, lo⟩ := Z
  by_cases hy : y = 0
  · rw [show hp_dL x y = none from if_pos hy]; exact hp_fail
  · rw [show hp_dL x y = some (x / y) from if_neg hy]
    exact hp_go (fun F _ _ _ _ _ _ ls h1 w => lv_ldiv F.1 F.2.1 hdg hy (w ls h1)) (k _)
theorem hp_lrem {x y : Int64} {K : Int64 → Option (α × hp_H)} (hdg : decode Y.2.1 pc = .ok (.lrem, 1)) (k : ∀ q, hp_J Y Z mk h (pc + 1) lv (.long q :: st) (K q)) : hp_J Y Z mk h pc lv (.long y :: .long x :: st) ((hp_mL x y).bind K) := by
  obtain ⟨p, l, e, s, m, args, below, meth, c, h0, E, fr, lo⟩ := Z
  by_cases hy : y = 0
  · rw [show hp_mL x y = none from if_pos hy]; exact hp_fail
  · rw [show hp_mL x y = some (x - x / y * y) from if_neg hy]
    exact hp_go (fun F _ _ _ _ _ _ ls h1 w => lv_lrem F.1 F.2.1 hdg hy (w ls h1)) (k _)
theorem hp_if_eq {x : Int32} {off : Int} {tgt : Nat} {A B : Option (α × hp_H)} (hdg : decode Y.2.1 pc = .ok (.ifCond .eq off, 3)) (ht : (pc : Int) + off = (tgt : Int)) (kt : hp_J Y Z mk h tgt lv st A) (kf : hp_J Y Z mk h (pc + 3) lv st B) : hp_J Y Z mk h pc lv (.int x :: st) (if x = 0 then A else B) := by
  obtain ⟨p, l, e, s, m, args, below, meth, c, h0, E, fr, lo⟩ := Z
  by_cases hc : x = 0
  · rw [if_pos hc]; exact hp_go (fun F _ _ _ _ _ _ ls h1 w => lv_if_eq F.1 F.2.1 hdg ht (fun _ => w ls h1) (fun q => absurd hc q)) kt
  · rw [if_neg hc]; exact hp_go (fun F _ _ _ _ _ _ ls h1 w => lv_if_eq F.1 F.2.1 hdg ht (fun q => absurd q hc) (fun _ => w ls h1)) kf
theorem hp_icmp_eq {x y : Int32} {off : Int} {tgt : Nat} {A B : Option (α × hp_H)} (hdg : decode Y.2.1 pc = .ok (.if_icmp .eq off, 3)) (ht : (pc : Int) + off = (tgt : Int)) (kt : hp_J Y Z mk h tgt lv st A) (kf : hp_J Y Z mk h (pc + 3) lv st B) : hp_J Y Z mk h pc lv (.int y :: .int x :: st) (if x = y then A else B) := by
  obtain ⟨p, l, e, s, m, args, below, meth, c, h0, E, fr, lo⟩ := Z
  by_cases hc : x = y
  · rw [if_pos hc]; exact hp_go (fun F _ _ _ _ _ _ ls h1 w => lv_icmp_eq F.1 F.2.1 hdg ht (fun _ => w ls h1) (fun q => absurd hc q)) kt
  · rw [if_neg hc]; exact hp_go (fun F _ _ _ _ _ _ ls h1 w => lv_icmp_eq F.1 F.2.1 hdg ht (fun q => absurd q hc) (fun _ => w ls h1)) kf
theorem hp_if_ne {x : Int32} {off : Int} {tgt : Nat} {A B : Option (α × hp_H)} (hdg : decode Y.2.1 pc = .ok (.ifCond .ne off, 3)) (ht : (pc : Int) + off = (tgt : Int)) (kf : hp_J Y Z mk h (pc + 3) lv st A) (kt : hp_J Y Z mk h tgt lv st B) : hp_J Y Z mk h pc lv (.int x :: st) (if x = 0 then A else B) := by
  obtain ⟨p, l, e, s, m, args, below, meth, c, h0, E, fr, lo⟩ := Z
  by_cases hc : x = 0
  · rw [if_pos hc]; exact hp_go (fun F _ _ _ _ _ _ ls h1 w => lv_if_ne F.1 F.2.1 hdg ht (fun q => absurd hc q) (fun _ => w ls h1)) kf
  · rw [if_neg hc]; exact hp_go (fun F _ _ _ _ _ _ ls h1 w => lv_if_ne F.1 F.2.1 hdg ht (fun _ => w ls h1) (fun q => absurd q hc)) kt
theorem hp_icmp_ne {x y : Int32} {off : Int} {tgt : Nat} {A B : Option (α × hp_H)} (hdg : decode Y.2.1 pc = .ok (.if_icmp .ne off, 3)) (ht : (pc : Int) + off = (tgt : Int)) (kf : hp_J Y Z mk h (pc + 3) lv st A) (kt : hp_J Y Z mk h tgt lv st B) : hp_J Y Z mk h pc lv (.int y :: .int x :: st) (if x = y then A else B) := by
  obtain ⟨p, l, e, s, m, args, below, meth, c, h0, E, fr, lo⟩ := Z
  by_cases hc : x = y
  · rw [if_pos hc]; exact hp_go (fun F _ _ _ _ _ _ ls h1 w => lv_icmp_ne F.1 F.2.1 hdg ht (fun q => absurd hc q) (fun _ => w ls h1)) kf
  · rw [if_neg hc]; exact hp_go (fun F _ _ _ _ _ _ ls h1 w => lv_icmp_ne F.1 F.2.1 hdg ht (fun _ => w ls h1) (fun q => absurd q hc)) kt
theorem hp_if_lt {x : Int32} {off : Int} {tgt : Nat} {A B : Option (α × hp_H)} (hdg : decode Y.2.1 pc = .ok (.ifCond .lt off, 3)) (ht : (pc : Int) + off = (tgt : Int)) (kt : hp_J Y Z mk h tgt lv st A) (kf : hp_J Y Z mk h (pc + 3) lv st B) : hp_J Y Z mk h pc lv (.int x :: st) (if x < 0 then A else B) := by
  obtain ⟨p, l, e, s, m, args, below, meth, c, h0, E, fr, lo⟩ := Z
  by_cases hc : x < 0
  · rw [if_pos hc]; exact hp_go (fun F _ _ _ _ _ _ ls h1 w => lv_if_lt F.1 F.2.1 hdg ht (fun _ => w ls h1) (fun q => absurd hc q)) kt
  · rw [if_neg hc]; exact hp_go (fun F _ _ _ _ _ _ ls h1 w => lv_if_lt F.1 F.2.1 hdg ht (fun q => absurd q hc) (fun _ => w ls h1)) kf
theorem hp_icmp_lt {x y : Int32} {off : Int} {tgt : Nat} {A B : Option (α × hp_H)} (hdg : decode Y.2.1 pc = .ok (.if_icmp .lt off, 3)) (ht : (pc : Int) + off = (tgt : Int)) (kt : hp_J Y Z mk h tgt lv st A) (kf : hp_J Y Z mk h (pc + 3) lv st B) : hp_J Y Z mk h pc lv (.int y :: .int x :: st) (if x < y then A else B) := by
  obtain ⟨p, l, e, s, m, args, below, meth, c, h0, E, fr, lo⟩ := Z
  by_cases hc : x < y
  · rw [if_pos hc]; exact hp_go (fun F _ _ _ _ _ _ ls h1 w => lv_icmp_lt F.1 F.2.1 hdg ht (fun _ => w ls h1) (fun q => absurd hc q)) kt
  · rw [if_neg hc]; exact hp_go (fun F _ _ _ _ _ _ ls h1 w => lv_icmp_lt F.1 F.2.1 hdg ht (fun q => absurd q hc) (fun _ => w ls h1)) kf
theorem hp_if_ge {x : Int32} {off : Int} {tgt : Nat} {A B : Option (α × hp_H)} (hdg : decode Y.2.1 pc = .ok (.ifCond .ge off, 3)) (ht : (pc : Int) + off = (tgt : Int)) (kt : hp_J Y Z mk h tgt lv st A) (kf : hp_J Y Z mk h (pc + 3) lv st B) : hp_J Y Z mk h pc lv (.int x :: st) (if 0 ≤ x then A else B) := by
  obtain ⟨p, l, e, s, m, args, below, meth, c, h0, E, fr, lo⟩ := Z
  by_cases hc : 0 ≤ x
  · rw [if_pos hc]; exact hp_go (fun F _ _ _ _ _ _ ls h1 w => lv_if_ge F.1 F.2.1 hdg ht (fun _ => w ls h1) (fun q => absurd hc q)) kt
  · rw [if_neg hc]; exact hp_go (fun F _ _ _ _ _ _ ls h1 w => lv_if_ge F.1 F.2.1 hdg ht (fun q => absurd q hc) (fun _ => w ls h1)) kf
theorem hp_icmp_ge {x y : Int32} {off : Int} {tgt : Nat} {A B : Option (α × hp_H)} (hdg : decode Y.2.1 pc = .ok (.if_icmp .ge off, 3)) (ht : (pc : Int) + off = (tgt : Int)) (kt : hp_J Y Z mk h tgt lv st A) (kf : hp_J Y Z mk h (pc + 3) lv st B) : hp_J Y Z mk h pc lv (.int y :: .int x :: st) (if y ≤ x then A else B) := by
  obtain ⟨p, l, e, s, m, args, below, meth, c, h0, E, fr, lo⟩ := Z
  by_cases hc : y ≤ x
  · rw [if_pos hc]; exact hp_go (fun F _ _ _ _ _ _ ls h1 w => lv_icmp_ge F.1 F.2.1 hdg ht (fun _ => w ls h1) (fun q => absurd hc q)) kt
  · rw [if_neg hc]; exact hp_go (fun F _ _ _ _ _ _ ls h1 w => lv_icmp_ge F.1 F.2.1 hdg ht (fun q => absurd q hc) (fun _ => w ls h1)) kf
theorem hp_if_gt {x : Int32} {off : Int} {tgt : Nat} {A B : Option (α × hp_H)} (hdg : decode Y.2.1 pc = .ok (.ifCond .gt off, 3)) (ht : (pc : Int) + off = (tgt : Int)) (kt : hp_J Y Z mk h tgt lv st A) (kf : hp_J Y Z mk h (pc + 3) lv st B) : hp_J Y Z mk h pc lv (.int x :: st) (if 0 < x then A else B) := by
  obtain ⟨p, l, e, s, m, args, below, meth, c, h0, E, fr, lo⟩ := Z
  by_cases hc : 0 < x
  · rw [if_pos hc]; exact hp_go (fun F _ _ _ _ _ _ ls h1 w => lv_if_gt F.1 F.2.1 hdg ht (fun _ => w ls h1) (fun q => absurd hc q)) kt
  · rw [if_neg hc]; exact hp_go (fun F _ _ _ _ _ _ ls h1 w => lv_if_gt F.1 F.2.1 hdg ht (fun q => absurd q hc) (fun _ => w ls h1)) kf
theorem hp_icmp_gt {x y : Int32} {off : Int} {tgt : Nat} {A B : Option (α × hp_H)} (hdg : decode Y.2.1 pc = .ok (.if_icmp .gt off, 3)) (ht : (pc : Int) + off = (tgt : Int)) (kt : hp_J Y Z mk h tgt lv st A) (kf : hp_J Y Z mk h (pc + 3) lv st B) : hp_J Y Z mk h pc lv (.int y :: .int x :: st) (if y < x then A else B) := by
  obtain ⟨p, l, e, s, m, args, below, meth, c, h0, E, fr, lo⟩ := Z
  by_cases hc : y < x
  · rw [if_pos hc]; exact hp_go (fun F _ _ _ _ _ _ ls h1 w => lv_icmp_gt F.1 F.2.1 hdg ht (fun _ => w ls h1) (fun q => absurd hc q)) kt
  · rw [if_neg hc]; exact hp_go (fun F _ _ _ _ _ _ ls h1 w => lv_icmp_gt F.1 F.2.1 hdg ht (fun q => absurd q hc) (fun _ => w ls h1)) kf
theorem hp_if_le {x : Int32} {off : Int} {tgt : Nat} {A B : Option (α × hp_H)} (hdg : decode Y.2.1 pc = .ok (.ifCond .le off, 3)) (ht : (pc : Int) + off = (tgt : Int)) (kt : hp_J Y Z mk h tgt lv st A) (kf : hp_J Y Z mk h (pc + 3) lv st B) : hp_J Y Z mk h pc lv (.int x :: st) (if x ≤ 0 then A else B) := by
  obtain ⟨p, l, e, s, m, args, below, meth, c, h0, E, fr, lo⟩ := Z
  by_cases hc : x ≤ 0
  · rw [if_pos hc]; exact hp_go (fun F _ _ _ _ _ _ ls h1 w => lv_if_le F.1 F.2.1 hdg ht (fun _ => w ls h1) (fun q => absurd hc q)) kt
  · rw [if_neg hc]; exact hp_go (fun F _ _ _ _ _ _ ls h1 w => lv_if_le F.1 F.2.1 hdg ht (fun q => absurd q hc) (fun _ => w ls h1)) kf
theorem hp_icmp_le {x y : Int32} {off : Int} {tgt : Nat} {A B : Option (α × hp_H)} (hdg : decode Y.2.1 pc = .ok (.if_icmp .le off, 3)) (ht : (pc : Int) + off = (tgt : Int)) (kt : hp_J Y Z mk h tgt lv st A) (kf : hp_J Y Z mk h (pc + 3) lv st B) : hp_J Y Z mk h pc lv (.int y :: .int x :: st) (if x ≤ y then A else B) := by
  obtain ⟨p, l, e, s, m, args, below, meth, c, h0, E, fr, lo⟩ := Z
  by_cases hc : x ≤ y
  · rw [if_pos hc]; exact hp_go (fun F _ _ _ _ _ _ ls h1 w => lv_icmp_le F.1 F.2.1 hdg ht (fun _ => w ls h1) (fun q => absurd hc q)) kt
  · rw [if_neg hc]; exact hp_go (fun F _ _ _ _ _ _ ls h1 w => lv_icmp_le F.1 F.2.1 hdg ht (fun q => absurd q hc) (fun _ => w ls h1)) kf
theorem hp_goto {off : Int} {tgt : Nat} (hdg : decode Y.2.1 pc = .ok (.goto off, 3)) (ht : (pc : Int) + off = (tgt : Int)) (k : hp_J Y Z mk h tgt lv st X) : hp_J Y Z mk h pc lv st X := by
  obtain ⟨p, l, e, s, m, args, below, meth, c, h0, E, fr, lo⟩ := Z
  exact hp_go (fun F _ _ _ _ _ _ ls h1 w => lv_goto F.1 F.2.1 hdg ht (w ls h1)) k
theorem hp_ldc {index : Nat} {v : Int32} (hdg : decode Y.2.1 pc = .ok (.ldc index, 2)) (hw : Cond.constant Y.1 index v ∈ hp_T) (k : hp_J Y Z mk h (pc + 2) lv (.int v :: st) X) : hp_J Y Z mk h pc lv st X := by
  obtain ⟨p, l, e, s, m, args, below, meth, c, h0, E, fr, lo⟩ := Z
  exact hp_go (fun F _ _ _ _ _ _ ls h1 w => lv_ldc F.1 F.2.1 F.2.2.2.1 (F.2.2.2.2.1 _ hw) hdg (w ls h1)) k
theorem hp_ldc2 {index : Nat} {v : Int64} (hdg : decode Y.2.1 pc = .ok (.ldc2_w index, 3)) (hw : Cond.constantLong Y.1 index v ∈ hp_T) (k : hp_J Y Z mk h (pc + 3) lv (.long v :: st) X) : hp_J Y Z mk h pc lv st X := by
  obtain ⟨p, l, e, s, m, args, below, meth, c, h0, E, fr, lo⟩ := Z
  exact hp_go (fun F _ _ _ _ _ _ ls h1 w => lv_ldc2 F.1 F.2.1 F.2.2.2.1 (F.2.2.2.2.1 _ hw) hdg (w ls h1)) k
theorem hp_iret {x : Int32} (hdg : decode Y.2.1 pc = .ok (.ireturn, 1)) (hr : Y.2.2.2.1 = some .int) : hp_J Y Z hp_rI h pc lv [.int x] (some (x, h)) := by
  obtain ⟨p, l, e, s, m, args, below, meth, c, h0, E, fr, lo⟩ := Z
  intro r h' hX
  cases hX
  refine ⟨⟨Nat.le_refl _, Nat.le_refl _⟩, fun F a1 a2 H locs ls hR hL hl => ?_⟩
  exact W.iret F.1 F.2.1 (F.2.2.2.2.2.2.1.trans hr) (fun t ht hW => ⟨rfl, by rw [ht]; exact hR.moved hW.alike⟩) hL hdg F.2.2.2.2.2.2.2.1
theorem hp_lret {x : Int64} (hdg : decode Y.2.1 pc = .ok (.lreturn, 1)) (hr : Y.2.2.2.1 = some .long) : hp_J Y Z hp_rL h pc lv [.long x] (some (x, h)) := by
  obtain ⟨p, l, e, s, m, args, below, meth, c, h0, E, fr, lo⟩ := Z
  intro r h' hX
  cases hX
  refine ⟨⟨Nat.le_refl _, Nat.le_refl _⟩, fun F a1 a2 H locs ls hR hL hl => ?_⟩
  exact W.lret F.1 F.2.1 (F.2.2.2.2.2.2.1.trans hr) (fun t ht hW => ⟨rfl, by rw [ht]; exact hR.moved hW.alike⟩) hL hdg F.2.2.2.2.2.2.2.1
def hp_z (x : Int32) (h : hp_H) : Option (Int32 × hp_H) := if x = 0 ∨ x = 1 then some (x, h) else none
theorem hp_zret {x : Int32} (hdg : decode Y.2.1 pc = .ok (.ireturn, 1)) (hr : Y.2.2.2.1 = some .boolean) : hp_J Y Z hp_rI h pc lv [.int x] (hp_z x h) := by
  obtain ⟨p, l, e, s, m, args, below, meth, c, h0, E, fr, lo⟩ := Z
  by_cases hx : x = 0 ∨ x = 1
  · rw [show hp_z x h = some (x, h) from if_pos hx]
    intro r h' hX
    cases hX
    refine ⟨⟨Nat.le_refl _, Nat.le_refl _⟩, fun F a1 a2 H locs ls hR hL hl => ?_⟩
    exact W.zret F.1 F.2.1 (F.2.2.2.2.2.2.1.trans hr) (by rcases hx with rfl | rfl <;> rfl) (fun t ht hW => ⟨rfl, by rw [ht]; exact hR.moved hW.alike⟩) hL hdg F.2.2.2.2.2.2.2.1
  · rw [show hp_z x h = none from if_neg hx]; exact hp_fail
theorem hp_vret (hdg : decode Y.2.1 pc = .ok (.return_, 1)) (hr : Y.2.2.2.1 = none) : hp_J Y Z hp_rV h pc lv [] (some ((), h)) := by
  obtain ⟨p, l, e, s, m, args, below, meth, c, h0, E, fr, lo⟩ := Z
  intro r h' hX
  cases hX
  refine ⟨⟨Nat.le_refl _, Nat.le_refl _⟩, fun F a1 a2 H locs ls hR hL hl => ?_⟩
  exact W.vret F.1 F.2.1 (F.2.2.2.2.2.2.1.trans hr) (fun t ht hW => ⟨rfl, by rw [ht]; exact hR.moved hW.alike⟩) hL hdg F.2.2.2.2.2.2.2.1
theorem hp_aret {x : Nat} {rt : FieldType} (hdg : decode Y.2.1 pc = .ok (.areturn, 1)) (hr : Y.2.2.2.1 = some rt) (hrt : (∃ n, rt = .object n) ∨ ∃ t, rt = .array t) : hp_J Y Z hp_rR h pc lv [.ref x] (some (x, h)) := by
  obtain ⟨p, l, e, s, m, args, below, meth, c, h0, E, fr, lo⟩ := Z
  intro r h' hX
  cases hX
  refine ⟨⟨Nat.le_refl _, Nat.le_refl _⟩, fun F a1 a2 H locs ls hR hL hl => ?_⟩
  exact W.aret F.1 F.2.1 (F.2.2.2.2.2.2.1.trans hr) hrt (Or.inr ⟨_, rfl⟩) (fun t ht hW => ⟨rfl, by rw [ht]; exact hR.moved hW.alike⟩) hL hdg F.2.2.2.2.2.2.2.1
end HJ
