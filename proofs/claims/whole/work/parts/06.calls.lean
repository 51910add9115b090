/-! CALLS -/
/-- a contract: the method y does what f says -/
def hp_M (l : Launch) (E : hp_E) (y : MethodName) (Y : hp_Y) {α : Type} (mk : α → Option Value) (av : List Value) (f : hp_H → Option (α × hp_H)) : Prop :=
  ∀ (h : hp_H) (r : α) (h' : hp_H), f h = some (r, h') → (hp_Z → h.2.1 ≤ h'.2.1 ∧ h.2.2 ≤ h'.2.2) ∧ Met l y (.code y Y.2.1 Y.2.2.1 Y.2.2.2.1 :: hp_T) (hp_Rm Y.2.2.2.2.2.1 Y.2.2.2.2.2.2 h h') (va_Pc av (fun U => hp_R E U U.heap h ∧ hp_N E U)) (hp_Q E (mk r) h') (h'.2.1 - h.2.1) (h'.2.2 - h.2.2) (fun q => E.2.2.2 ≤ q)
theorem hp_ofW {l : Launch} {y : MethodName} {ws ws' : List Cond} {rm : Room} {Pc : Array Value → State → Prop} {Qc : Array Value → State → Outcome → State → Prop} {mc ms : Nat} {free : Addr → Prop} {cc : ByteArray} {maxL : Nat} {ret : Option FieldType}
    (hy : plainFor y = true) (hw : ws = Cond.code y cc maxL ret :: ws')
    (body : ∀ p e s m args below meth c s₁, BodyLoose p l y (headSpec ws rm) cc maxL ret e s m args below meth c s₁ → c.maxLocals = maxL → Pc args s →
      W p l e (headSpec ws rm).room s m args below meth c s.heap [] 0 0 (MQ below Qc args s mc ms free) (entryFrame m args maxL)) : Met l y ws rm Pc Qc mc ms free := by
  refine MetFree.of_bodySF (code := cc) (maxLocals := maxL) (ret := ret) hy ?_ ?_
  · intro args s m h hn
    obtain ⟨meth, c, h1, h2, h3, h4, h5, h6, -, -⟩ := Cond.code_spec hn (atoms_spec (ws := ws) h _ (by rw [hw]; exact List.mem_cons_self))
    exact ⟨meth, c, h1, h2, h3, h4, h5, h6⟩
  · intro p e s m args below meth c s₁ B hml hP _
    have hh0 : s₁.heap = s.heap := by rw [B.state]; rfl
    obtain ⟨t, a1, o, b1, b2, b3⟩ := body p e s m args below meth c s₁ B hml hP s₁ hh0 (Stand.of_body B)
    exact ⟨t, o, a1, b1, b2, ⟨b3.1, b3.2⟩⟩
theorem hp_M.of {l : Launch} {E : hp_E} {y : MethodName} {Y : hp_Y} {α : Type} {mk : α → Option Value} {av : List Value} {f : hp_H → Option (α × hp_H)} (hy : plainFor y = true) (hY : Y.1 = y.cls ∧ Y.2.2.2.2.1 = y.name) (hn : (lg_sl av).length ≤ Y.2.2.1)
    (hJ : ∀ (Z : hp_Z) (h : hp_H), hp_ZE Z = E → hp_J Y Z mk h 0 (lv_args 0 av) [] (f h)) : hp_M l E y Y mk av f := by
  intro h r h' hX
  refine ⟨fun Z => ?_, ?_⟩
  · obtain ⟨p, l, e, s, m, args, below, meth, c, h0, E0, fr, lo⟩ := Z
    exact (hJ (p, l, e, s, m, args, below, meth, c, h0, E, fr, lo) h rfl r h' hX).1
  · refine hp_ofW (cc := Y.2.1) (maxL := Y.2.2.1) (ret := Y.2.2.2.1) hy rfl ?_
    intro p e s m args below meth c s₁ B hml hv
    obtain ⟨rfl, hR, hN⟩ := hv
    have hx := B.exec
    have hb := B.bytes
    have hr := B.returns
    have hts := atoms_spec (ws := Cond.code y Y.2.1 Y.2.2.1 Y.2.2.2.1 :: hp_T) B.pre
    have hown : s.vm.findClass y.cls = some m.cls := findClass_of_methodNamed B.named
    have hlocks := B.notSynchronized
    have hname : meth.name = y.name := (name_of_methodNamed B.named B.method).1
    have J := hJ (p, l, e, s, m, av.toArray, below, meth, c, h, E, Y.2.2.2.2.2.1, Y.2.2.2.2.2.2) h rfl
    obtain ⟨-, J2⟩ := J r h' hX
    have hl := lv_entry av (n := Y.2.2.1) hn
    rw [lg_entry_eq]
    have hl2 : lv_has (lg_sl av ++ List.replicate (Y.2.2.1 - (lg_sl av).length) Slot.unset).toArray c.maxLocals (lv_args 0 av) := by rw [hml]; exact hl
    have K := J2 ⟨hx, hb, hml, by rw [hY.1]; exact hown, fun w hw => hts w (List.mem_cons_of_mem _ hw), hN, hr, hlocks, by rw [hY.2]; exact hname, rfl, rfl⟩ (Nat.le_refl _) (Nat.le_refl _) s.heap [] _ hR (fun q hq => by cases hq) hl2
    rw [Nat.sub_self, Nat.sub_self] at K
    exact K
/-- a call that can be made: o is what it comes to -/
def hp_CR (Y : hp_Y) (Z : hp_Z) (h : hp_H) (pc : Nat) (st rest : List Value) {β : Type} (mkc : β → Option Value) (o : Option (β × hp_H)) : Prop := match Z with
  | (p, l, e, s, m, args, below, meth, c, _, E, fr, lo) => ∀ (r1 : β) (h1 : hp_H), o = some (r1, h1) → (h.2.1 ≤ h1.2.1 ∧ h.2.2 ≤ h1.2.2) ∧ (hp_F Y p s m args meth c fr lo E → ∀ (R : Room) (H : Heap) (locs : List Loc) (ls : Array Slot) (cells slots : Nat), R.frames = fr → R.locals = lo → hp_R E s H h → ls.size = c.maxLocals → cells + (h1.2.1 - h.2.1) ≤ R.cells → slots + (h1.2.2 - h.2.2) ≤ R.slots →
    ∃ a : Array Value, va_Run p l e R s m args below meth c H locs cells slots (h1.2.1 - h.2.1) (h1.2.2 - h.2.2) (F0 m pc ls st) rest (hp_Q E (mkc r1) h1 a) (fun q => E.2.2.2 ≤ q))
section HC
variable {Y : hp_Y} {Z : hp_Z} {α β : Type} {mk : α → Option Value} {mkc : β → Option Value} {h : hp_H} {pc : Nat} {lv : List (Nat × Value)} {st rest : List Value} {o : Option (β × hp_H)} {K : β × hp_H → Option (α × hp_H)}
theorem hp_call (hc : hp_CR Y Z h pc st rest mkc o) (kk : ∀ q : β × hp_H, hp_J Y Z mk q.2 (pc + 3) lv ((mkc q.1).toList ++ rest) (K q)) : hp_J Y Z mk h pc lv st (o.bind K) := by
  obtain ⟨p, l, e, s, m, args, below, meth, c, h0, E, fr, lo⟩ := Z
  intro r h' hX
  obtain ⟨⟨r1, h1⟩, e1, e2⟩ := Option.bind_eq_some_iff.mp hX
  obtain ⟨c1, c2⟩ := hc r1 h1 e1
  obtain ⟨k1, k2⟩ := kk (r1, h1) r h' e2
  have k1a : h1.2.1 ≤ h'.2.1 := k1.1
  have k1b : h1.2.2 ≤ h'.2.2 := k1.2
  refine ⟨⟨Nat.le_trans c1.1 k1a, Nat.le_trans c1.2 k1b⟩, fun F a1 a2 H locs ls hR hL hl => ?_⟩
  have g1 := c1.1
  have g2 := c1.2
  obtain ⟨a, run⟩ := c2 F (hp_Rm fr lo h0 h') H locs ls (h.2.1 - h0.2.1) (h.2.2 - h0.2.2) rfl rfl hR hl.1 (show h.2.1 - h0.2.1 + (h1.2.1 - h.2.1) ≤ h'.2.1 - h0.2.1 by omega) (show h.2.2 - h0.2.2 + (h1.2.2 - h.2.2) ≤ h'.2.2 - h0.2.2 by omega)
  intro T hT X
  obtain ⟨v, st₀, t, T', L, b0, X', hL', b1, b2, ⟨hv, hR'⟩, stp⟩ := run T hT X
  cases hv
  have d1 : h.2.1 - h0.2.1 + (h1.2.1 - h.2.1) = h1.2.1 - h0.2.1 := by omega
  have d2 : h.2.2 - h0.2.2 + (h1.2.2 - h.2.2) = h1.2.2 - h0.2.2 := by omega
  rw [d1, d2] at X'
  have hal : t.vm.Alike s.vm := by rw [← b2]; exact X'.warmed.alike.symm
  have hR2 : hp_R E s T'.heap h1 := by rw [b1]; exact hR'.moved hal
  obtain ⟨t2, w1, w2⟩ := k2 F (Nat.le_trans a1 g1) (Nat.le_trans a2 g2) T'.heap (locs ++ L) ls hR2 (fun q hq => by
    rcases List.mem_append.mp hq with hq | hq
    · exact hL q hq
    · exact hL' q hq) hl T' rfl X'
  exact ⟨t2, stp t2 w1, w2⟩
theorem hp_callI {o : Option (Int32 × hp_H)} {K : Int32 × hp_H → Option (α × hp_H)} (hc : hp_CR Y Z h pc st rest hp_rI o) (kk : ∀ q : Int32 × hp_H, hp_J Y Z mk q.2 (pc + 3) lv (.int q.1 :: rest) (K q)) : hp_J Y Z mk h pc lv st (o.bind K) := hp_call hc kk
theorem hp_callL {o : Option (Int64 × hp_H)} {K : Int64 × hp_H → Option (α × hp_H)} (hc : hp_CR Y Z h pc st rest hp_rL o) (kk : ∀ q : Int64 × hp_H, hp_J Y Z mk q.2 (pc + 3) lv (.long q.1 :: rest) (K q)) : hp_J Y Z mk h pc lv st (o.bind K) := hp_call hc kk
theorem hp_callR {o : Option (Nat × hp_H)} {K : Nat × hp_H → Option (α × hp_H)} (hc : hp_CR Y Z h pc st rest hp_rR o) (kk : ∀ q : Nat × hp_H, hp_J Y Z mk q.2 (pc + 3) lv (.ref q.1 :: rest) (K q)) : hp_J Y Z mk h pc lv st (o.bind K) := hp_call hc kk
theorem hp_callU {o : Option (Unit × hp_H)} {K : Unit × hp_H → Option (α × hp_H)} (hc : hp_CR Y Z h pc st rest hp_rV o) (kk : ∀ q : Unit × hp_H, hp_J Y Z mk q.2 (pc + 3) lv rest (K q)) : hp_J Y Z mk h pc lv st (o.bind K) := hp_call hc kk
end HC
theorem hp_blind {E : hp_E} {h : hp_H} {av : List Value} : FrameBlind (va_Pc av (fun U => hp_R E U U.heap h ∧ hp_N E U)) := fun a U g mk q => ⟨q.1, q.2.1.moved (u := U) (U := U.calling g mk a) (Vm.Alike.refl U.vm), ⟨fun w hw => (hp_Nst_ok w hw).1 U (U.calling g mk a) rfl (q.2.2.1 w hw), fun w hw => vk_R.same rfl (q.2.2.2 w hw)⟩⟩
theorem hp_Nwarm {E : hp_E} {s U : State} (hW : s.WarmedH U.vm) (hN : hp_N E s) : hp_N E U := ⟨fun w hw => (hp_Nst_ok w hw).2 s U hW (hN.1 w hw), fun q hq => (hN.2 q hq).warm hW⟩
/-- the words of a call of y by the pool entry 'index' of the class 'own' -/
def hp_cw (own : String) (index : Nat) (y : MethodName) (Y' : hp_Y) (n : Nat) : Prop := Cond.methodLink own index y ∈ hp_T ∧ Cond.initialized y.cls ∈ hp_T ∧ Cond.code y Y'.2.1 Y'.2.2.1 Y'.2.2.2.1 ∈ hp_T ∧ (y.cls ≠ "java/lang/invoke/MethodHandle" ∧ y.cls ≠ "java/lang/invoke/VarHandle" ∧ (parseMethodDescriptor y.desc).map (fun d => d.parameters.length) = some n)
def hp_cn (own : String) (index : Nat) (y : MethodName) (host : String) (Y' : hp_Y) (n : Nat) : Prop := Cond.methodLinkNest own index y host ∈ hp_Nst ∧ Cond.initialized y.cls ∈ hp_T ∧ Cond.code y Y'.2.1 Y'.2.2.1 Y'.2.2.2.1 ∈ hp_T ∧ (y.cls ≠ "java/lang/invoke/MethodHandle" ∧ y.cls ≠ "java/lang/invoke/VarHandle" ∧ (parseMethodDescriptor y.desc).map (fun d => d.parameters.length) = some n)
theorem hp_goodIn {y : MethodName} {Y' : hp_Y} (hc : Cond.code y Y'.2.1 Y'.2.2.1 Y'.2.2.2.1 ∈ hp_T) : GoodIn hp_T (Cond.code y Y'.2.1 Y'.2.2.1 Y'.2.2.2.1 :: hp_T) := by
  intro w hw
  have h1 : w ∈ hp_T := by
    rcases List.mem_cons.mp hw with hw | hw
    · rw [hw]; exact hc
    · exact hw
  exact ⟨h1, hp_T_ok w h1⟩
section HD
variable {Y Y' : hp_Y} {Z : hp_Z} {β : Type} {mkc : β → Option Value} {h : hp_H} {pc index n : Nat} {st rest : List Value} {y : MethodName} {As : List Value} {f : hp_H → Option (β × hp_H)}
theorem hp_crS (hM : hp_M Z.2.1 (hp_ZE Z) y Y' mkc As f) (hw : hp_cw Y.1 index y Y' n) (hs : Cond.static y ∈ hp_T) (hroom : Y'.2.2.2.2.2.1 + 1 ≤ Y.2.2.2.2.2.1 ∧ 8 + (Y'.2.2.1 + 11) + Y'.2.2.2.2.2.2 ≤ Y.2.2.2.2.2.2) (hn : As.length = n) (hst : st = As.reverse ++ rest) (hcat : (rest.map fun v => v.category).sum ≤ 8) (hdg : decode Y.2.1 pc = .ok (.invokestatic index, 3)) : hp_CR Y Z h pc st rest mkc (f h) := by
  obtain ⟨p, l, e, s, m, args, below, meth, c, h0, E, fr, lo⟩ := Z
  intro r1 h1 e1
  obtain ⟨m1, m2⟩ := hM h r1 h1 e1
  refine ⟨m1 (p, l, e, s, m, args, below, meth, c, h0, E, fr, lo), fun F R H locs ls cells slots hRf hRl hR hz hc hsl => ⟨As.toArray, ?_⟩⟩
  obtain ⟨w1, w2, w3, w4⟩ := hw
  exact va_runS (As := As) (rest := rest) ⟨F.1, F.2.1, F.2.2.1, F.2.2.2.1, F.2.2.2.2.1⟩ m2 ⟨callB_of n F.2.2.2.2.1 (hp_goodIn w3) rfl rfl rfl (F.2.2.2.2.1 _ w2) (F.2.2.2.2.1 _ w1) w4 ⟨by rw [hRf, F.2.2.2.2.2.2.2.2.2.1]; exact hroom.1, by rw [hRl, F.2.2.2.2.2.2.2.2.2.2]; exact hroom.2⟩, F.2.2.2.2.1 _ hs⟩ ⟨hp_blind, fun U hU hW => ⟨rfl, by rw [hU]; exact hR.moved hW.alike, hp_Nwarm hW F.2.2.2.2.2.1⟩⟩ rfl hn (hz.trans F.2.2.1) hst (lv_room hcat) hdg ⟨hc, hsl⟩
theorem hp_crSN {host : String} (hM : hp_M Z.2.1 (hp_ZE Z) y Y' mkc As f) (hw : hp_cn Y.1 index y host Y' n) (hs : Cond.static y ∈ hp_T) (hroom : Y'.2.2.2.2.2.1 + 1 ≤ Y.2.2.2.2.2.1 ∧ 8 + (Y'.2.2.1 + 11) + Y'.2.2.2.2.2.2 ≤ Y.2.2.2.2.2.2) (hn : As.length = n) (hst : st = As.reverse ++ rest) (hcat : (rest.map fun v => v.category).sum ≤ 8) (hdg : decode Y.2.1 pc = .ok (.invokestatic index, 3)) : hp_CR Y Z h pc st rest mkc (f h) := by
  obtain ⟨p, l, e, s, m, args, below, meth, c, h0, E, fr, lo⟩ := Z
  intro r1 h1 e1
  obtain ⟨m1, m2⟩ := hM h r1 h1 e1
  refine ⟨m1 (p, l, e, s, m, args, below, meth, c, h0, E, fr, lo), fun F R H locs ls cells slots hRf hRl hR hz hc hsl => ⟨As.toArray, ?_⟩⟩
  obtain ⟨w1, w2, w3, w4⟩ := hw
  exact va_runSN (As := As) (rest := rest) (host := host) ⟨F.1, F.2.1, F.2.2.1, F.2.2.2.1, F.2.2.2.2.1⟩ m2 ⟨va_cnB n F.2.2.2.2.1 (hp_goodIn w3) rfl rfl rfl (F.2.2.2.2.2.1.1 _ w1) (F.2.2.2.2.1 _ w2) w4 ⟨by rw [hRf, F.2.2.2.2.2.2.2.2.2.1]; exact hroom.1, by rw [hRl, F.2.2.2.2.2.2.2.2.2.2]; exact hroom.2⟩, F.2.2.2.2.1 _ hs, trivial⟩ ⟨hp_blind, fun U hU hW => ⟨rfl, by rw [hU]; exact hR.moved hW.alike, hp_Nwarm hW F.2.2.2.2.2.1⟩⟩ rfl hn (hz.trans F.2.2.1) hst (lv_room hcat) hdg ⟨hc, hsl⟩
theorem hp_recv {E : hp_E} {s : State} {H : Heap} {b ci : Nat} {fs : List Value} {q : vw_C} (hR : hp_R E s H h) (hc : classes[ci]? = some q) (hb : h.1 b = some (.inl (ci, fs))) : ∃ cell : Cell, H[b]? = some cell ∧ cell.vm.isStatics = false ∧ s.vm.findClass q.1 = some cell.cls := by
  obtain ⟨hB, r, h1, hlen, cell, q1, q2, q3, q4⟩ := hR.2.2.1 b _ hb
  refine ⟨cell, q1, by rw [q3]; rfl, ?_⟩
  rw [q2]
  exact (hR.2.2.2.1 ci _ hc).2.1
theorem hp_crV {b ci : Nat} {q : vw_C} (hM : hp_M Z.2.1 (hp_ZE Z) y Y' mkc (.ref b :: As) f) (hw : hp_cw Y.1 index y Y' n) (hq : classes[ci]? = some q) (hs : Cond.instanceMethod y ∈ hp_T ∧ Cond.selects q.1 y y ∈ hp_T) (hroom : Y'.2.2.2.2.2.1 + 1 ≤ Y.2.2.2.2.2.1 ∧ 8 + (Y'.2.2.1 + 11) + Y'.2.2.2.2.2.2 ≤ Y.2.2.2.2.2.2) (hn : As.length = n) (hst : st = As.reverse ++ .ref b :: rest) (hcat : (rest.map fun v => v.category).sum ≤ 8) (hdg : decode Y.2.1 pc = .ok (.invokevirtual index, 3)) : hp_CR Y Z h pc st rest mkc (hp_vck h b ci (f h)) := by
  obtain ⟨p, l, e, s, m, args, below, meth, c, h0, E, fr, lo⟩ := Z
  intro r1 h1 e1
  obtain ⟨fs, e2, e3⟩ := Option.bind_eq_some_iff.mp e1
  obtain ⟨m1, m2⟩ := hM h r1 h1 e3
  refine ⟨m1 (p, l, e, s, m, args, below, meth, c, h0, E, fr, lo), fun F R H locs ls cells slots hRf hRl hR hz hc hsl => ⟨(Value.ref b :: As).toArray, ?_⟩⟩
  obtain ⟨w1, w2, w3, w4⟩ := hw
  exact va_runV (C := q.1) (b := b) (As := As) (rest := rest) ⟨F.1, F.2.1, F.2.2.1, F.2.2.2.1, F.2.2.2.2.1⟩ m2 ⟨callB_of n F.2.2.2.2.1 (hp_goodIn w3) rfl rfl rfl (F.2.2.2.2.1 _ w2) (F.2.2.2.2.1 _ w1) w4 ⟨by rw [hRf, F.2.2.2.2.2.2.2.2.2.1]; exact hroom.1, by rw [hRl, F.2.2.2.2.2.2.2.2.2.2]; exact hroom.2⟩, F.2.2.2.2.1 _ hs.1, F.2.2.2.2.1 _ hs.2⟩ ⟨hp_blind, hp_recv hR hq (hp_fs_some e2), fun U hU hW => ⟨rfl, by rw [hU]; exact hR.moved hW.alike, hp_Nwarm hW F.2.2.2.2.2.1⟩⟩ rfl hn (hz.trans F.2.2.1) hst (lv_room hcat) hdg ⟨hc, hsl⟩
theorem hp_crVN {host : String} {b ci : Nat} {q : vw_C} (hM : hp_M Z.2.1 (hp_ZE Z) y Y' mkc (.ref b :: As) f) (hw : hp_cn Y.1 index y host Y' n) (hq : classes[ci]? = some q) (hs : Cond.instanceMethod y ∈ hp_T ∧ Cond.selects q.1 y y ∈ hp_T) (hroom : Y'.2.2.2.2.2.1 + 1 ≤ Y.2.2.2.2.2.1 ∧ 8 + (Y'.2.2.1 + 11) + Y'.2.2.2.2.2.2 ≤ Y.2.2.2.2.2.2) (hn : As.length = n) (hst : st = As.reverse ++ .ref b :: rest) (hcat : (rest.map fun v => v.category).sum ≤ 8) (hdg : decode Y.2.1 pc = .ok (.invokevirtual index, 3)) : hp_CR Y Z h pc st rest mkc (hp_vck h b ci (f h)) := by
  obtain ⟨p, l, e, s, m, args, below, meth, c, h0, E, fr, lo⟩ := Z
  intro r1 h1 e1
  obtain ⟨fs, e2, e3⟩ := Option.bind_eq_some_iff.mp e1
  obtain ⟨m1, m2⟩ := hM h r1 h1 e3
  refine ⟨m1 (p, l, e, s, m, args, below, meth, c, h0, E, fr, lo), fun F R H locs ls cells slots hRf hRl hR hz hc hsl => ⟨(Value.ref b :: As).toArray, ?_⟩⟩
  obtain ⟨w1, w2, w3, w4⟩ := hw
  exact va_runVN (C := q.1) (b := b) (host := host) (As := As) (rest := rest) ⟨F.1, F.2.1, F.2.2.1, F.2.2.2.1, F.2.2.2.2.1⟩ m2 ⟨va_cnB n F.2.2.2.2.1 (hp_goodIn w3) rfl rfl rfl (F.2.2.2.2.2.1.1 _ w1) (F.2.2.2.2.1 _ w2) w4 ⟨by rw [hRf, F.2.2.2.2.2.2.2.2.2.1]; exact hroom.1, by rw [hRl, F.2.2.2.2.2.2.2.2.2.2]; exact hroom.2⟩, F.2.2.2.2.1 _ hs.1, F.2.2.2.2.1 _ hs.2⟩ ⟨hp_blind, hp_recv hR hq (hp_fs_some e2), fun U hU hW => ⟨rfl, by rw [hU]; exact hR.moved hW.alike, hp_Nwarm hW F.2.2.2.2.2.1⟩⟩ rfl hn (hz.trans F.2.2.1) hst (lv_room hcat) hdg ⟨hc, hsl⟩
theorem hp_crI {b : Nat} (hM : hp_M Z.2.1 (hp_ZE Z) y Y' mkc (.ref b :: As) f) (hw : hp_cw Y.1 index y Y' n) (hs : y.name = "<init>" ∧ Cond.instanceMethod y ∈ hp_T) (hret : Y'.2.2.2.1 = none) (hroom : Y'.2.2.2.2.2.1 + 1 ≤ Y.2.2.2.2.2.1 ∧ 8 + (Y'.2.2.1 + 11) + Y'.2.2.2.2.2.2 ≤ Y.2.2.2.2.2.2) (hn : As.length = n) (hst : st = As.reverse ++ .ref b :: rest) (hcat : (rest.map fun v => v.category).sum ≤ 8) (hdg : decode Y.2.1 pc = .ok (.invokespecial index, 3)) : hp_CR Y Z h pc st rest mkc (f h) := by
  obtain ⟨p, l, e, s, m, args, below, meth, c, h0, E, fr, lo⟩ := Z
  intro r1 h1 e1
  obtain ⟨m1, m2⟩ := hM h r1 h1 e1
  refine ⟨m1 (p, l, e, s, m, args, below, meth, c, h0, E, fr, lo), fun F R H locs ls cells slots hRf hRl hR hz hc hsl => ⟨(Value.ref b :: As).toArray, ?_⟩⟩
  obtain ⟨w1, w2, w3, w4⟩ := hw
  have w5 := hp_goodIn w3
  rw [hret] at w5 m2
  exact va_runI (b := b) (As := As) (rest := rest) ⟨F.1, F.2.1, F.2.2.1, F.2.2.2.1, F.2.2.2.2.1⟩ m2 ⟨callB_of n F.2.2.2.2.1 w5 rfl rfl rfl (F.2.2.2.2.1 _ w2) (F.2.2.2.2.1 _ w1) w4 ⟨by rw [hRf, F.2.2.2.2.2.2.2.2.2.1]; exact hroom.1, by rw [hRl, F.2.2.2.2.2.2.2.2.2.2]; exact hroom.2⟩, hs.1, F.2.2.2.2.1 _ hs.2⟩ ⟨hp_blind, fun U hU hW => ⟨rfl, by rw [hU]; exact hR.moved hW.alike, hp_Nwarm hW F.2.2.2.2.2.1⟩⟩ rfl hn (hz.trans F.2.2.1) hst (lv_room hcat) hdg ⟨hc, hsl⟩
theorem hp_crIN {host : String} {b : Nat} (hM : hp_M Z.2.1 (hp_ZE Z) y Y' mkc (.ref b :: As) f) (hw : hp_cn Y.1 index y host Y' n) (hs : y.name = "<init>" ∧ Cond.instanceMethod y ∈ hp_T) (hret : Y'.2.2.2.1 = none) (hroom : Y'.2.2.2.2.2.1 + 1 ≤ Y.2.2.2.2.2.1 ∧ 8 + (Y'.2.2.1 + 11) + Y'.2.2.2.2.2.2 ≤ Y.2.2.2.2.2.2) (hn : As.length = n) (hst : st = As.reverse ++ .ref b :: rest) (hcat : (rest.map fun v => v.category).sum ≤ 8) (hdg : decode Y.2.1 pc = .ok (.invokespecial index, 3)) : hp_CR Y Z h pc st rest mkc (f h) := by
  obtain ⟨p, l, e, s, m, args, below, meth, c, h0, E, fr, lo⟩ := Z
  intro r1 h1 e1
  obtain ⟨m1, m2⟩ := hM h r1 h1 e1
  refine ⟨m1 (p, l, e, s, m, args, below, meth, c, h0, E, fr, lo), fun F R H locs ls cells slots hRf hRl hR hz hc hsl => ⟨(Value.ref b :: As).toArray, ?_⟩⟩
  obtain ⟨w1, w2, w3, w4⟩ := hw
  have w5 := hp_goodIn w3
  rw [hret] at w5 m2
  exact va_runIN (host := host) (b := b) (As := As) (rest := rest) ⟨F.1, F.2.1, F.2.2.1, F.2.2.2.1, F.2.2.2.2.1⟩ m2 ⟨va_cnB n F.2.2.2.2.1 w5 rfl rfl rfl (F.2.2.2.2.2.1.1 _ w1) (F.2.2.2.2.1 _ w2) w4 ⟨by rw [hRf, F.2.2.2.2.2.2.2.2.2.1]; exact hroom.1, by rw [hRl, F.2.2.2.2.2.2.2.2.2.2]; exact hroom.2⟩, hs.1, F.2.2.2.2.1 _ hs.2⟩ ⟨hp_blind, fun U hU hW => ⟨rfl, by rw [hU]; exact hR.moved hW.alike, hp_Nwarm hW F.2.2.2.2.2.1⟩⟩ rfl hn (hz.trans F.2.2.1) hst (lv_room hcat) hdg ⟨hc, hsl⟩
end HD
section HX
variable {Y : hp_Y} {Z : hp_Z} {α : Type} {mk : α → Option Value} {h : hp_H} {pc : Nat} {lv : List (Nat × Value)} {st : List Value} {X : Option (α × hp_H)}
/-- the constant reference in a static field -/
theorem hp_gets {k index : Nat} {q : String × String × String} (hq : statics[k]? = some q) (hlink : Cond.fieldLink Y.1 index q.1 q.2.1 q.2.2 ∈ hp_T) (hdg : decode Y.2.1 pc = .ok (.getstatic index, 3)) (kk : hp_J Y Z mk h (pc + 3) lv (.ref (hp_G Z k) :: st) X) : hp_J Y Z mk h pc lv st X := by
  obtain ⟨p, l, e, s, m, args, below, meth, c, h0, E, fr, lo⟩ := Z
  intro r h' hX
  obtain ⟨k1, k2⟩ := kk r h' hX
  refine ⟨k1, fun F a1 a2 H locs ls hR hL hl => ?_⟩
  obtain ⟨cf, kf, fi, f, a, cell, z1, z2, z3, z4, z5, z6, z7, z8⟩ := hR.2.2.2.2.1 k q hq
  exact W.gets F.1 F.2.1 F.2.2.2.1 (F.2.2.2.2.1 _ hlink) z1 z2 z3 z4 z5 (fun w => by rw [w] at z6; cases z6) z7 rfl hdg (k2 F a1 a2 H locs ls hR hL hl)
theorem hp_getsN {k index : Nat} {q : String × String × String} {host : String} (hq : statics[k]? = some q) (hlink : Cond.fieldLinkNest Y.1 index q.1 q.2.1 q.2.2 host ∈ hp_Nst) (hdg : decode Y.2.1 pc = .ok (.getstatic index, 3)) (kk : hp_J Y Z mk h (pc + 3) lv (.ref (hp_G Z k) :: st) X) : hp_J Y Z mk h pc lv st X := by
  obtain ⟨p, l, e, s, m, args, below, meth, c, h0, E, fr, lo⟩ := Z
  intro r h' hX
  obtain ⟨k1, k2⟩ := kk r h' hX
  refine ⟨k1, fun F a1 a2 H locs ls hR hL hl => ?_⟩
  obtain ⟨cf, kf, fi, f, a, cell, z1, z2, z3, z4, z5, z6, z7, z8⟩ := hR.2.2.2.2.1 k q hq
  intro T hT X
  obtain ⟨vm', X', stp⟩ := X.getstaticNest F.1 F.2.2.2.1 (va_Nw.use rfl (F.2.2.2.2.2.1.1 _ hlink)) z1 z2 z3 z4 (by rw [hT]; exact z5) (fun w => by rw [w] at z6; cases z6) z7 (g := F0 m pc ls st) rfl (by rw [F.2.1]; exact hdg)
  obtain ⟨t, w1, w2⟩ := k2 F a1 a2 H locs ls hR hL hl (T.setVm vm') hT X'
  exact ⟨t, stp t w1, w2⟩
theorem hp_cast {a ci index : Nat} {q : vw_C} (hq : classes[ci]? = some q) (hw : Cond.classLink Y.1 index q.1 ∈ hp_T) (hdg : decode Y.2.1 pc = .ok (.checkcast index, 3)) (kk : hp_J Y Z mk h (pc + 3) lv (.ref a :: st) X) : hp_J Y Z mk h pc lv (.ref a :: st) (hp_vck h a ci X) := by
  obtain ⟨p, l, e, s, m, args, below, meth, c, h0, E, fr, lo⟩ := Z
  intro r h' hX
  obtain ⟨fs, e1, e2⟩ := Option.bind_eq_some_iff.mp hX
  obtain ⟨k1, k2⟩ := kk r h' e2
  exact ⟨k1, fun F a1 a2 H locs ls hR hL hl => va_castS F.1 F.2.1 F.2.2.2.1 (F.2.2.2.2.1 _ hw) (hR.2.2.2.1 ci _ hq).2 (hp_recv hR hq (hp_fs_some e1)) hdg (k2 F a1 a2 H locs ls hR hL hl)⟩
theorem hp_acmp_eq {x y : Nat} {off : Int} {tgt : Nat} {A B : Option (α × hp_H)} (hdg : decode Y.2.1 pc = .ok (.if_acmp .eq off, 3)) (ht : (pc : Int) + off = (tgt : Int)) (kt : hp_J Y Z mk h tgt lv st A) (kf : hp_J Y Z mk h (pc + 3) lv st B) : hp_J Y Z mk h pc lv (.ref y :: .ref x :: st) (if x = y then A else B) := by
  obtain ⟨p, l, e, s, m, args, below, meth, c, h0, E, fr, lo⟩ := Z
  by_cases hc : x = y
  · rw [if_pos hc]; exact hp_go (fun F _ _ _ _ _ _ ls h1 w => lv_acmp_eq (rx := some x) (ry := some y) F.1 F.2.1 hdg ht (fun _ => w ls h1) (fun q => absurd (by rw [hc]) q)) kt
  · rw [if_neg hc]; exact hp_go (fun F _ _ _ _ _ _ ls h1 w => lv_acmp_eq (rx := some x) (ry := some y) F.1 F.2.1 hdg ht (fun q => absurd (Option.some.inj q) hc) (fun _ => w ls h1)) kf
/-- Object's constructor -/
theorem hp_objInit {a index : Nat} (hw : Cond.methodLink Y.1 index objectInit ∈ hp_T ∧ Cond.instanceMethod objectInit ∈ hp_T ∧ Cond.code objectInit ⟨#[0xb1]⟩ 1 none ∈ hp_T) (hroom : 1 ≤ Y.2.2.2.2.2.1 ∧ 20 ≤ Y.2.2.2.2.2.2) (hcat : (st.map fun v => v.category).sum ≤ 8) (hdg : decode Y.2.1 pc = .ok (.invokespecial index, 3)) (kk : hp_J Y Z mk h (pc + 3) lv st X) : hp_J Y Z mk h pc lv (.ref a :: st) X := by
  obtain ⟨p, l, e, s, m, args, below, meth, c, h0, E, fr, lo⟩ := Z
  intro r h' hX
  obtain ⟨k1, k2⟩ := kk r h' hX
  refine ⟨k1, fun F a1 a2 H locs ls hR hL hl => ?_⟩
  refine W.objInit F.1 F.2.1 F.2.2.2.1 (F.2.2.2.2.1 _ hw.1) (F.2.2.2.2.1 _ hw.2.1) (F.2.2.2.2.1 _ hw.2.2) rfl hl.1 rfl hdg (by show 1 ≤ fr; rw [F.2.2.2.2.2.2.2.2.2.1]; exact hroom.1) (by have := hroom.2; show 2 * 0 + (st.map fun v => v.category).sum + 12 ≤ lo; rw [F.2.2.2.2.2.2.2.2.2.2]; omega) (k2 F a1 a2 H locs ls hR hL hl)
end HX
section HS
variable {Y : hp_Y} {Z : hp_Z} {α : Type} {mk : α → Option Value} {h : hp_H} {pc : Nat} {lv : List (Nat × Value)} {st : List Value} {X : Option (α × hp_H)}
theorem hp_ite {c : Prop} {d : Decidable c} {A B : Option (α × hp_H)} (kt : c → hp_J Y Z mk h pc lv st A) (kf : ¬ c → hp_J Y Z mk h pc lv st B) : hp_J Y Z mk h pc lv st (@ite _ c d A B) := by
  by_cases hc : c
  · rw [if_pos hc]; exact kt hc
  · rw [if_neg hc]; exact kf hc
theorem hp_tabI {dflt lo hi : Int} {offs : Array Int} {len : Nat} {x kv : Int32} {off : Int} {tgt : Nat} (hdg : decode Y.2.1 pc = .ok (.tableswitch dflt lo hi offs, len)) (hx : x = kv) (h1 : ¬ kv.toInt < lo) (h2 : ¬ hi < kv.toInt) (ho : offs[(kv.toInt - lo).toNat]? = some off) (ht : (pc : Int) + off = (tgt : Int)) (k : hp_J Y Z mk h tgt lv st X) : hp_J Y Z mk h pc lv (.int x :: st) X := by
  obtain ⟨p, l, e, s, m, args, below, meth, c, h0, E, fr, lo⟩ := Z
  subst hx
  exact hp_go (fun F _ _ _ _ _ _ ls h3 w => lv_tableIn F.1 F.2.1 hdg h1 h2 ho ht (w ls h3)) k
theorem hp_tabD {dflt lo hi : Int} {offs : Array Int} {len : Nat} {x : Int32} {tgt : Nat} (hdg : decode Y.2.1 pc = .ok (.tableswitch dflt lo hi offs, len)) (hx : x.toInt < lo ∨ hi < x.toInt) (ht : (pc : Int) + dflt = (tgt : Int)) (k : hp_J Y Z mk h tgt lv st X) : hp_J Y Z mk h pc lv (.int x :: st) X := by
  obtain ⟨p, l, e, s, m, args, below, meth, c, h0, E, fr, lo⟩ := Z
  exact hp_go (fun F _ _ _ _ _ _ ls h3 w => lv_tableOut F.1 F.2.1 hdg hx ht (w ls h3)) k
theorem hp_look {dflt : Int} {ps : Array (Int × Int)} {len : Nat} {x : Int32} {off : Int} {tgt : Nat} (hdg : decode Y.2.1 pc = .ok (.lookupswitch dflt ps, len)) (hp : (ps.toList.zip (ps.toList.drop 1)).all (fun (a, next) => a.1 < next.1) = true) (ho : Op.lookupswitch.offset ps.toList dflt x.toInt = off) (ht : (pc : Int) + off = (tgt : Int)) (k : hp_J Y Z mk h tgt lv st X) : hp_J Y Z mk h pc lv (.int x :: st) X := by
  obtain ⟨p, l, e, s, m, args, below, meth, c, h0, E, fr, lo⟩ := Z
  exact hp_go (fun F _ _ _ _ _ _ ls h3 w => lv_lookup F.1 F.2.1 hdg hp ho ht (w ls h3)) k
end HS
def hp_fu : Nat := 4294967296
