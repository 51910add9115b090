/-! WHAT THE LIBRARY'S OWN METHODS NEED: constant Strings, null, arrays of references, arraycopy, clone, getClass -/
def hp_sv (G : Nat → Nat) (a : Nat) : Option Nat := if a = G 5 then some (G 8) else if a = G 6 then some (G 9) else if a = G 7 then some (G 10) else none
def hp_sd (G : Nat → Nat) (a : Nat) : Option Int32 := if a = G 5 ∨ a = G 6 ∨ a = G 7 then some 0 else none
def hp_sck {β : Type} (G : Nat → Nat) (a : Nat) (X : Option β) : Option β := if a = G 5 ∨ a = G 6 ∨ a = G 7 then X else none
def hp_c (x : Int32) (h : hp_H) : Option (Int32 × hp_H) := if (x.toUInt32 % 65536).toInt32 = x then some (x, h) else none
def hp_b (x : Int32) (h : hp_H) : Option (Int32 × hp_H) := if x.toInt8.toInt32 = x then some (x, h) else none
def hp_isV (h : hp_H) (o : Option Nat) : Bool := match o with
  | none => true
  | some y => match h.1 y with
    | some (.inl (3, _)) => true
    | _ => false
def hp_sR (h : hp_H) (a : Nat) (i : Int32) (y : Nat) : Option hp_H := match hp_arr h a with
  | some (w, t, n, .inr (.inr f)) => if w = true ∧ t = .object "java/lang/Object" ∧ ¬ (i < 0 ∨ n ≤ i.toNatClampNeg) ∧ hp_isV h (some y) = true then some (hp_up h.1 a (.inr (w, t, n, .inr (.inr (va_up f i.toNatClampNeg (some y))))), h.2) else none
  | _ => none
def hp_nqK {β : Type} (h : hp_H) (n : Int32) (K : Nat → hp_H → Option β) : Option β := if ¬ n < 0 ∧ n.toNatClampNeg * 4 ≤ 536870912 then K h.2.1 (hp_newa h (.object "java/lang/Object") n.toNatClampNeg (.inr (.inr fun _ => none))) else none
def hp_gck {β : Type} (h : hp_H) (a : Nat) (X : Option β) : Option β := match hp_arr h a with
  | some (w, t, _, _) => if w = true ∧ t = .object "java/lang/Object" then X else none
  | _ => none
def hp_bck {β : Type} (h : hp_H) (a : Nat) (X : Option β) : Option β := match hp_arr h a with
  | some (w, t, _, _) => if w = true ∧ t = .byte then X else none
  | _ => none
/-- System.arraycopy between two arrays of bytes -/
def hp_cpB (h : hp_H) (src : Nat) (sp : Int32) (dst : Nat) (dp n : Int32) : Option hp_H := match hp_arr h src, hp_arr h dst with
  | some (_, t0, n0, .inl f), some (w1, t1, n1, .inl g) => if t0 = .byte ∧ w1 = true ∧ t1 = .byte ∧ ¬ sp < 0 ∧ ¬ dp < 0 ∧ ¬ n < 0 ∧ sp.toNatClampNeg + n.toNatClampNeg ≤ n0 ∧ dp.toNatClampNeg + n.toNatClampNeg ≤ n1 ∧ (∀ i : Nat, i < n.toNatClampNeg → fits .byte (.int (f (sp.toNatClampNeg + i))) = true) then some (hp_up h.1 dst (.inr (true, .byte, n1, .inl (va_cpy f g sp.toNatClampNeg dp.toNatClampNeg n.toNatClampNeg))), h.2) else none
  | _, _ => none
def hp_cpR (h : hp_H) (src : Nat) (sp : Int32) (dst : Nat) (dp n : Int32) : Option hp_H := match hp_arr h src, hp_arr h dst with
  | some (_, t0, n0, .inr (.inr f)), some (w1, t1, n1, .inr (.inr g)) => if t0 = .object "java/lang/Object" ∧ w1 = true ∧ t1 = .object "java/lang/Object" ∧ ¬ sp < 0 ∧ ¬ dp < 0 ∧ ¬ n < 0 ∧ sp.toNatClampNeg + n.toNatClampNeg ≤ n0 ∧ dp.toNatClampNeg + n.toNatClampNeg ≤ n1 ∧ (∀ i : Nat, i < n.toNatClampNeg → hp_isV h (f (sp.toNatClampNeg + i)) = true) then some (hp_up h.1 dst (.inr (true, .object "java/lang/Object", n1, .inr (.inr (va_cpy f g sp.toNatClampNeg dp.toNatClampNeg n.toNatClampNeg)))), h.2) else none
  | _, _ => none
/-- clone of an array of bytes -/
def hp_clK {β : Type} (h : hp_H) (a : Nat) (K : Nat → hp_H → Option β) : Option β := match hp_arr h a with
  | some (w, t, n, .inl f) => if w = true ∧ t = .byte ∧ (∀ i : Nat, i < n → fits .byte (.int (f i)) = true) then K h.2.1 (hp_newa h .byte n (.inl f)) else none
  | _ => none
theorem hp_sv_some {G : Nat → Nat} {a x : Nat} (e : hp_sv G a = some x) : ∃ i : Nat, i < 3 ∧ a = G (5 + i) ∧ x = G (8 + i) := by
  unfold hp_sv at e
  split at e
  · cases e; exact ⟨0, by decide, by assumption, rfl⟩
  · split at e
    · cases e; exact ⟨1, by decide, by assumption, rfl⟩
    · split at e
      · cases e; exact ⟨2, by decide, by assumption, rfl⟩
      · cases e
theorem hp_s3 {G : Nat → Nat} {a : Nat} (e : a = G 5 ∨ a = G 6 ∨ a = G 7) : ∃ i : Nat, i < 3 ∧ a = G (5 + i) := by
  rcases e with e | e | e
  · exact ⟨0, by decide, e⟩
  · exact ⟨1, by decide, e⟩
  · exact ⟨2, by decide, e⟩
theorem hp_isV_some {h : hp_H} {y : Nat} (e : hp_isV h (some y) = true) : ∃ fs, h.1 y = some (.inl (3, fs)) := by
  unfold hp_isV at e
  simp only at e
  split at e
  · rename_i fs hy
    exact ⟨fs, hy⟩
  · cases e
section HY
variable {Y : hp_Y} {Z : hp_Z} {α : Type} {mk : α → Option Value} {h : hp_H} {pc : Nat} {lv : List (Nat × Value)} {st : List Value} {X : Option (α × hp_H)}
theorem hp_ldcS {index k : Nat} {tx : String} (hq : (Y.1, index, tx, k) ∈ hp_strs) (hdg : decode Y.2.1 pc = .ok (.ldc index, 2)) (kk : hp_J Y Z mk h (pc + 2) lv (.ref (hp_G Z k) :: st) X) : hp_J Y Z mk h pc lv st X := by
  obtain ⟨p, l, e, s, m, args, below, meth, c, h0, E, fr, lo⟩ := Z
  exact hp_go (fun F _ _ _ _ _ _ ls h1 w => va_ldcS F.1 F.2.1 F.2.2.2.1 (F.2.2.2.2.2.1.2 _ hq) hdg (w ls h1)) kk
theorem hp_null (hdg : decode Y.2.1 pc = .ok (.aconst_null, 1)) (kk : hp_J Y Z mk h (pc + 1) lv (va_rf none :: st) X) : hp_J Y Z mk h pc lv st X := by
  obtain ⟨p, l, e, s, m, args, below, meth, c, h0, E, fr, lo⟩ := Z
  exact hp_go (fun F _ _ _ _ _ _ ls h1 w => lv_null F.1 F.2.1 hdg (w ls h1)) kk
theorem hp_strV {a index : Nat} {K : Nat → Option (α × hp_H)} (hlink : Cond.fieldLink Y.1 index "java/lang/String" "value" "[B" ∈ hp_T) (hdg : decode Y.2.1 pc = .ok (.getfield index, 3)) (kk : ∀ x, hp_J Y Z mk h (pc + 3) lv (.ref x :: st) (K x)) : hp_J Y Z mk h pc lv (.ref a :: st) ((hp_sv (hp_G Z) a).bind K) := by
  obtain ⟨p, l, e, s, m, args, below, meth, c, h0, E, fr, lo⟩ := Z
  intro r h' hX
  obtain ⟨x, e1, e2⟩ := Option.bind_eq_some_iff.mp hX
  obtain ⟨i, hi, rfl, rfl⟩ := hp_sv_some e1
  obtain ⟨k1, k2⟩ := kk _ r h' e2
  refine ⟨k1, fun F a1 a2 H locs ls hR hL hl => ?_⟩
  obtain ⟨cf, k, fi, f, cell, q1, q2, q3, q4, q5, q6⟩ := (hR.2.2.2.2.2.1 i hi).2.2
  exact W.getf F.1 F.2.1 F.2.2.2.1 (F.2.2.2.2.1 _ hlink) q1 q2 q3 q4 q5 rfl rfl hdg (k2 F a1 a2 H locs ls hR hL hl)
theorem hp_strC {a index : Nat} {K : Int32 → Option (α × hp_H)} (hlink : Cond.fieldLink Y.1 index "java/lang/String" "coder" "B" ∈ hp_T) (hdg : decode Y.2.1 pc = .ok (.getfield index, 3)) (kk : ∀ x, hp_J Y Z mk h (pc + 3) lv (.int x :: st) (K x)) : hp_J Y Z mk h pc lv (.ref a :: st) ((hp_sd (hp_G Z) a).bind K) := by
  obtain ⟨p, l, e, s, m, args, below, meth, c, h0, E, fr, lo⟩ := Z
  intro r h' hX
  obtain ⟨x, e1, e2⟩ := Option.bind_eq_some_iff.mp hX
  unfold hp_sd at e1
  split at e1
  · rename_i ha
    cases e1
    obtain ⟨i, hi, rfl⟩ := hp_s3 ha
    obtain ⟨k1, k2⟩ := kk _ r h' e2
    refine ⟨k1, fun F a1 a2 H locs ls hR hL hl => ?_⟩
    obtain ⟨cf, k, fi, f, cell, q1, q2, q3, q4, q5, q6⟩ := (hR.2.2.2.2.2.1 i hi).2.1
    exact W.getf F.1 F.2.1 F.2.2.2.1 (F.2.2.2.2.1 _ hlink) q1 q2 q3 q4 q5 rfl rfl hdg (k2 F a1 a2 H locs ls hR hL hl)
  · cases e1
theorem hp_comp {index : Nat} (hlink : Cond.fieldLink Y.1 index "java/lang/String" "COMPACT_STRINGS" "Z" ∈ hp_T) (hdg : decode Y.2.1 pc = .ok (.getstatic index, 3)) (kk : hp_J Y Z mk h (pc + 3) lv (.int 1 :: st) X) : hp_J Y Z mk h pc lv st X := by
  obtain ⟨p, l, e, s, m, args, below, meth, c, h0, E, fr, lo⟩ := Z
  intro r h' hX
  obtain ⟨k1, k2⟩ := kk r h' hX
  refine ⟨k1, fun F a1 a2 H locs ls hR hL hl => ?_⟩
  obtain ⟨cf, kf, fi, f, a, cell, z1, z2, z3, z4, z5, z6, z7, z8⟩ := hR.2.2.2.2.2.2.2.2.1
  exact W.gets F.1 F.2.1 F.2.2.2.1 (F.2.2.2.2.1 _ hlink) z1 z2 z3 z4 z5 (fun w => by rw [w] at z6; cases z6) z7 rfl hdg (k2 F a1 a2 H locs ls hR hL hl)
theorem hp_form {index : Nat} (hlink : Cond.fieldLink Y.1 index "jdk/internal/util/Preconditions" "SIOOBE_FORMATTER" "Ljava/util/function/BiFunction;" ∈ hp_T) (hdg : decode Y.2.1 pc = .ok (.getstatic index, 3)) (kk : ∀ o, hp_J Y Z mk h (pc + 3) lv (va_rf o :: st) X) : hp_J Y Z mk h pc lv st X := by
  obtain ⟨p, l, e, s, m, args, below, meth, c, h0, E, fr, lo⟩ := Z
  intro r h' hX
  refine ⟨(kk none r h' hX).1, fun F a1 a2 H locs ls hR hL hl => ?_⟩
  rcases hR.2.2.2.2.2.2.2.2.2 with hz | ⟨t, hz⟩
  · obtain ⟨cf, kf, fi, f, a, cell, z1, z2, z3, z4, z5, z6, z7, z8⟩ := hz
    exact W.gets F.1 F.2.1 F.2.2.2.1 (F.2.2.2.2.1 _ hlink) z1 z2 z3 z4 z5 (fun w => by rw [w] at z6; cases z6) z7 rfl hdg ((kk none r h' hX).2 F a1 a2 H locs ls hR hL hl)
  · obtain ⟨cf, kf, fi, f, a, cell, z1, z2, z3, z4, z5, z6, z7, z8⟩ := hz
    exact W.gets F.1 F.2.1 F.2.2.2.1 (F.2.2.2.2.1 _ hlink) z1 z2 z3 z4 z5 (fun w => by rw [w] at z6; cases z6) z7 rfl hdg ((kk (some t) r h' hX).2 F a1 a2 H locs ls hR hL hl)
theorem hp_cret {x : Int32} (hdg : decode Y.2.1 pc = .ok (.ireturn, 1)) (hr : Y.2.2.2.1 = some .char) : hp_J Y Z hp_rI h pc lv [.int x] (hp_c x h) := by
  obtain ⟨p, l, e, s, m, args, below, meth, c, h0, E, fr, lo⟩ := Z
  by_cases hx : (x.toUInt32 % 65536).toInt32 = x
  · rw [show hp_c x h = some (x, h) from if_pos hx]
    intro r h' hX
    cases hX
    refine ⟨⟨Nat.le_refl _, Nat.le_refl _⟩, fun F a1 a2 H locs ls hR hL hl => ?_⟩
    exact W.zret F.1 F.2.1 (F.2.2.2.2.2.2.1.trans hr) (by have := pk_nc x; rw [hx] at this; exact this) (fun t ht hW => ⟨rfl, by rw [ht]; exact hR.moved hW.alike⟩) hL hdg F.2.2.2.2.2.2.2.1
  · rw [show hp_c x h = none from if_neg hx]; exact hp_fail
theorem hp_bret {x : Int32} (hdg : decode Y.2.1 pc = .ok (.ireturn, 1)) (hr : Y.2.2.2.1 = some .byte) : hp_J Y Z hp_rI h pc lv [.int x] (hp_b x h) := by
  obtain ⟨p, l, e, s, m, args, below, meth, c, h0, E, fr, lo⟩ := Z
  by_cases hx : x.toInt8.toInt32 = x
  · rw [show hp_b x h = some (x, h) from if_pos hx]
    intro r h' hX
    cases hX
    refine ⟨⟨Nat.le_refl _, Nat.le_refl _⟩, fun F a1 a2 H locs ls hR hL hl => ?_⟩
    exact W.zret F.1 F.2.1 (F.2.2.2.2.2.2.1.trans hr) (by have := pk_nb x; rw [hx] at this; exact this) (fun t ht hW => ⟨rfl, by rw [ht]; exact hR.moved hW.alike⟩) hL hdg F.2.2.2.2.2.2.2.1
  · rw [show hp_b x h = none from if_neg hx]; exact hp_fail
theorem hp_aast {a y : Nat} {i : Int32} {K : hp_H → Option (α × hp_H)} (hw : Cond.castable "ExpressionDesk$Value" "java/lang/Object" ∈ hp_Nst) (hdg : decode Y.2.1 pc = .ok (.aastore, 1)) (kk : ∀ h1, hp_J Y Z mk h1 (pc + 1) lv st (K h1)) : hp_J Y Z mk h pc lv (.ref y :: .int i :: .ref a :: st) ((hp_sR h a i y).bind K) := by
  obtain ⟨p, l, e, s, m, args, below, meth, c, h0, E, fr, lo⟩ := Z
  intro r h' hX
  obtain ⟨h1, e1, e2⟩ := Option.bind_eq_some_iff.mp hX
  unfold hp_sR at e1
  split at e1
  · rename_i w t n f ho
    split at e1
    · rename_i hc
      cases e1
      obtain ⟨rfl, rfl, hin, hV⟩ := hc
      obtain ⟨k1, k2⟩ := kk _ r h' e2
      refine ⟨k1, fun F a1 a2 H locs ls hR hL hl => ?_⟩
      obtain ⟨cell, q1, q2, q3, q4, q5, q6, q7⟩ := hR.2.2.1 a _ (hp_arr_some ho)
      obtain ⟨hB, cA, rfl, hA, hA2⟩ := q7 rfl
      obtain ⟨fs, hy⟩ := hp_isV_some hV
      obtain ⟨cv, v1, v2, v3⟩ := hp_recv hR (ci := 3) rfl hy
      obtain ⟨kA, comp, r1, r2, r3, r4⟩ := hA2.2 _ rfl
      obtain ⟨kC, hkC, -⟩ := Vm.findClass_spec v3
      obtain ⟨kE, hkE, -⟩ := Vm.findClass_spec r3
      have hlt : i.toNatClampNeg < n := Nat.lt_of_not_le (fun q => hin (Or.inr q))
      have h00 : ¬ i < 0 := fun q => hin (Or.inl q)
      refine W.aast F.1 F.2.1 q1 (fun q h => by cases h) q3 r1 r2 rfl hkE ⟨h00, by rw [arrV_size]; exact hlt⟩ v1 (fun q h => by rw [h] at v2; cases v2) hkC (vb_asgC (F.2.2.2.2.2.1.1 _ hw) _ _ r3 v3) rfl rfl hdg fun H1 b1 b2 b3 => ?_
      rw [arrV_store] at b1
      have hv : updV (hp_av (.inr (.inr f))) i.toNatClampNeg (.ref y) = hp_av (.inr (.inr (va_up f i.toNatClampNeg (some y)))) := by
        funext j
        by_cases hj2 : j = i.toNatClampNeg
        · subst hj2; simp [hp_av, updV, va_up, va_rf]
        · simp [hp_av, updV, va_up, hj2]
      rw [hv] at b1
      refine k2 F a1 a2 H1 _ ls (hR.put hB (hp_at.arr hB b1 hA hA2) b2 b3) ?_ hl
      intro q hq
      rcases List.mem_append.mp hq with hq | hq
      · exact hL q hq
      · rw [List.mem_singleton.mp hq]; exact hB
    · cases e1
  · cases e1
theorem hp_newQ {index : Nat} {n : Int32} {K : Nat → hp_H → Option (α × hp_H)} (hcl : Cond.classLink Y.1 index "java/lang/Object" ∈ hp_T) (hov : Cond.arrayOver (.object "java/lang/Object") ∈ hp_Nst) (hdg : decode Y.2.1 pc = .ok (.anewarray index, 3)) (kk : ∀ a h1, hp_J Y Z mk h1 (pc + 3) lv (.ref a :: st) (K a h1)) : hp_J Y Z mk h pc lv (.int n :: st) (hp_nqK h n K) := by
  obtain ⟨p, l, e, s, m, args, below, meth, c, h0, E, fr, lo⟩ := Z
  intro r h' hX
  unfold hp_nqK at hX
  split at hX
  · rename_i hn
    obtain ⟨k1, k2⟩ := kk h.2.1 (hp_newa h (.object "java/lang/Object") n.toNatClampNeg (.inr (.inr fun _ => none))) r h' hX
    have k1a : h.2.1 + 1 ≤ h'.2.1 := k1.1
    have k1b : h.2.2 + n.toNatClampNeg ≤ h'.2.2 := k1.2
    refine ⟨⟨Nat.le_of_succ_le k1a, Nat.le_trans (Nat.le_add_right _ _) k1b⟩, fun F a1 a2 H locs ls hR hL hl => ?_⟩
    have hAO : va_AO "java/lang/Object" s := F.2.2.2.2.2.1.1 _ hov
    refine W.anew F.1 F.2.1 F.2.2.2.1 (F.2.2.2.2.1 _ hcl) (va_AO.use hAO) rfl hdg rfl hn.1 hn.2 (show h.2.1 - h0.2.1 + 1 ≤ h'.2.1 - h0.2.1 by omega) (show h.2.2 - h0.2.2 + n.toNatClampNeg ≤ h'.2.2 - h0.2.2 by omega) fun cA kA comp f1 f2 f3 f4 => ?_
    rw [hR.1]
    generalize hH1 : H.push ({ cls := cA, slots := Array.replicate n.toNatClampNeg .null, vm := .none } : Cell) = H1
    have z1 : H1.size = h.2.1 + 1 := by rw [← hH1, Array.size_push, hR.1]
    have e1 : H1[h.2.1]? = some (arrV cA n.toNatClampNeg (hp_av (.inr (.inr fun _ => none)))) := by
      rw [← hH1, ← hR.1, Array.getElem?_push_size, arrV_new]; rfl
    have o1 : ∀ q : Nat, q < h.2.1 → H1[q]? = H[q]? := fun q hq => by rw [← hH1, Array.getElem?_push, if_neg (by rw [hR.1]; exact Nat.ne_of_lt hq)]
    have hR1 : hp_R E s H1 (hp_newa h (.object "java/lang/Object") n.toNatClampNeg (.inr (.inr fun _ => none))) := hR.push n.toNatClampNeg (hp_at.arr hR.2.1 e1 (fun N z => ⟨(fun k h => by cases h), kA, f2, comp, f3⟩) ⟨f1, fun C hC => by cases hC; exact ⟨kA, comp, f2, f3, f4, f1⟩⟩) z1 o1
    have K2 := k2 F (Nat.le_trans a1 (Nat.le_succ _)) (Nat.le_trans a2 (Nat.le_add_right _ _)) H1 locs ls hR1 hL hl
    have c1 : (hp_newa h (.object "java/lang/Object") n.toNatClampNeg (.inr (.inr fun _ => none))).2.1 - h0.2.1 = h.2.1 - h0.2.1 + 1 := by show h.2.1 + 1 - h0.2.1 = _; omega
    have c2 : (hp_newa h (.object "java/lang/Object") n.toNatClampNeg (.inr (.inr fun _ => none))).2.2 - h0.2.2 = h.2.2 - h0.2.2 + n.toNatClampNeg := by show h.2.2 + n.toNatClampNeg - h0.2.2 = _; omega
    rw [c1, c2] at K2
    exact K2
  · cases hX
theorem hp_getC {a index : Nat} (hw : Cond.methodLink Y.1 index ⟨"java/lang/Object", "getClass", "()Ljava/lang/Class;"⟩ ∈ hp_T ∧ Cond.selects "[Ljava/lang/Object;" ⟨"java/lang/Object", "getClass", "()Ljava/lang/Class;"⟩ ⟨"java/lang/Object", "getClass", "()Ljava/lang/Class;"⟩ ∈ hp_T ∧ Cond.instanceMethod ⟨"java/lang/Object", "getClass", "()Ljava/lang/Class;"⟩ ∈ hp_T ∧ Cond.native ⟨"java/lang/Object", "getClass", "()Ljava/lang/Class;"⟩ ∈ hp_T) (hroom : 1 ≤ Y.2.2.2.2.2.1 ∧ 22 ≤ Y.2.2.2.2.2.2) (hcat : (st.map fun v => v.category).sum ≤ 8) (hdg : decode Y.2.1 pc = .ok (.invokevirtual index, 3)) (kk : hp_J Y Z mk h (pc + 3) lv (.ref (hp_G Z 11) :: st) X) : hp_J Y Z mk h pc lv (.ref a :: st) (hp_gck h a X) := by
  obtain ⟨p, l, e, s, m, args, below, meth, c, h0, E, fr, lo⟩ := Z
  intro r h' hX
  unfold hp_gck at hX
  split at hX
  · rename_i w t n f ho
    split at hX
    · rename_i hc
      obtain ⟨rfl, rfl⟩ := hc
      obtain ⟨k1, k2⟩ := kk r h' hX
      refine ⟨k1, fun F a1 a2 H locs ls hR hL hl => ?_⟩
      obtain ⟨cell, q1, q2, q3, q4, q5, q6, q7⟩ := hR.2.2.1 a _ (hp_arr_some ho)
      obtain ⟨hB, cA, rfl, hA, hA2⟩ := q7 rfl
      exact va_getC F.1 F.2.1 hl.1.symm F.2.2.2.1 (F.2.2.2.2.1 _ hw.1) (va_Dc.use hR.2.2.2.2.2.2.2.1) (F.2.2.2.2.1 _ hw.2.1) (F.2.2.2.2.1 _ hw.2.2.1) (F.2.2.2.2.1 _ hw.2.2.2) hR.2.2.2.2.2.2.1 ⟨_, q1, rfl, va_nmO (hA2.2 _ rfl) rfl⟩ (by show 1 ≤ fr; rw [F.2.2.2.2.2.2.2.2.2.1]; exact hroom.1) (by have := hroom.2; show _ ≤ lo; rw [F.2.2.2.2.2.2.2.2.2.2]; omega) hdg (k2 F a1 a2 H locs ls hR hL hl)
    · cases hX
  · cases hX
theorem hp_ldcC {index : Nat} (hw : Cond.classLink Y.1 index "[Ljava/lang/Object;" ∈ hp_T) (hdg : decode Y.2.1 pc = .ok (.ldc index, 2)) (kk : hp_J Y Z mk h (pc + 2) lv (.ref (hp_G Z 11) :: st) X) : hp_J Y Z mk h pc lv st X := by
  obtain ⟨p, l, e, s, m, args, below, meth, c, h0, E, fr, lo⟩ := Z
  intro r h' hX
  obtain ⟨k1, k2⟩ := kk r h' hX
  exact ⟨k1, fun F a1 a2 H locs ls hR hL hl => va_ldcM F.1 F.2.1 F.2.2.2.1 (F.2.2.2.2.1 _ hw) hR.2.2.2.2.2.2.1 hdg (k2 F a1 a2 H locs ls hR hL hl)⟩
theorem hp_acmp_ne {x y : Nat} {off : Int} {tgt : Nat} {A B : Option (α × hp_H)} (hdg : decode Y.2.1 pc = .ok (.if_acmp .ne off, 3)) (ht : (pc : Int) + off = (tgt : Int)) (kf : hp_J Y Z mk h (pc + 3) lv st A) (kt : hp_J Y Z mk h tgt lv st B) : hp_J Y Z mk h pc lv (.ref y :: .ref x :: st) (if x = y then A else B) := by
  obtain ⟨p, l, e, s, m, args, below, meth, c, h0, E, fr, lo⟩ := Z
  by_cases hc : x = y
  · rw [if_pos hc]; exact hp_go (fun F _ _ _ _ _ _ ls h1 w => lv_acmp_ne (rx := some x) (ry := some y) F.1 F.2.1 hdg ht (fun q => absurd (by rw [hc]) q) (fun _ => w ls h1)) kf
  · rw [if_neg hc]; exact hp_go (fun F _ _ _ _ _ _ ls h1 w => lv_acmp_ne (rx := some x) (ry := some y) F.1 F.2.1 hdg ht (fun _ => w ls h1) (fun q => absurd (Option.some.inj q) hc)) kt
theorem hp_crVS {Y' : hp_Y} {β : Type} {mkc : β → Option Value} {index n : Nat} {rest : List Value} {y : MethodName} {As : List Value} {f : hp_H → Option (β × hp_H)} {b : Nat} (hM : hp_M Z.2.1 (hp_ZE Z) y Y' mkc (.ref b :: As) f) (hw : hp_cw Y.1 index y Y' n) (hs : Cond.instanceMethod y ∈ hp_T ∧ Cond.selects "java/lang/String" y y ∈ hp_T) (hroom : Y'.2.2.2.2.2.1 + 1 ≤ Y.2.2.2.2.2.1 ∧ 8 + (Y'.2.2.1 + 11) + Y'.2.2.2.2.2.2 ≤ Y.2.2.2.2.2.2) (hn : As.length = n) (hst : st = As.reverse ++ .ref b :: rest) (hcat : (rest.map fun v => v.category).sum ≤ 8) (hdg : decode Y.2.1 pc = .ok (.invokevirtual index, 3)) : hp_CR Y Z h pc st rest mkc (hp_sck (hp_G Z) b (f h)) := by
  obtain ⟨p, l, e, s, m, args, below, meth, c, h0, E, fr, lo⟩ := Z
  intro r1 h1 e1
  unfold hp_sck at e1
  split at e1
  · rename_i hb
    obtain ⟨i, hi, rfl⟩ := hp_s3 hb
    obtain ⟨m1, m2⟩ := hM h r1 h1 e1
    refine ⟨m1 (p, l, e, s, m, args, below, meth, c, h0, E, fr, lo), fun F R H locs ls cells slots hRf hRl hR hz hc hsl => ⟨(Value.ref (E.2.2.1 (5 + i)) :: As).toArray, ?_⟩⟩
    obtain ⟨w1, w2, w3, w4⟩ := hw
    obtain ⟨cell, v1, v2, v3, -⟩ := (hR.2.2.2.2.2.1 i hi).1
    exact va_runV (C := "java/lang/String") (b := E.2.2.1 (5 + i)) (As := As) (rest := rest) ⟨F.1, F.2.1, F.2.2.1, F.2.2.2.1, F.2.2.2.2.1⟩ m2 ⟨callB_of n F.2.2.2.2.1 (hp_goodIn w3) rfl rfl rfl (F.2.2.2.2.1 _ w2) (F.2.2.2.2.1 _ w1) w4 ⟨by rw [hRf, F.2.2.2.2.2.2.2.2.2.1]; exact hroom.1, by rw [hRl, F.2.2.2.2.2.2.2.2.2.2]; exact hroom.2⟩, F.2.2.2.2.1 _ hs.1, F.2.2.2.2.1 _ hs.2⟩ ⟨hp_blind, ⟨cell, v1, v2, v3⟩, fun U hU hW => ⟨rfl, by rw [hU]; exact hR.moved hW.alike, hp_Nwarm hW F.2.2.2.2.2.1⟩⟩ rfl hn (hz.trans F.2.2.1) hst (lv_room hcat) hdg ⟨hc, hsl⟩
  · cases e1
end HY
def hp_acw (own : String) (index : Nat) : Prop := Cond.methodLink own index arraycopyName ∈ hp_T ∧ Cond.native arraycopyName ∈ hp_T ∧ Cond.static arraycopyName ∈ hp_T ∧ Cond.initialized "java/lang/System" ∈ hp_T
theorem hp_nn (z : Int32) (hz : ¬ z < 0) : z.toInt = (z.toNatClampNeg : Int) := by
  have hz0 : (0 : Int) ≤ z.toInt := by
    have := Int32.not_lt.mp hz
    simpa using Int32.le_iff_toInt_le.mp this
  show z.toInt = ((z.toInt.toNat : Nat) : Int)
  omega
section HV
variable {Y : hp_Y} {Z : hp_Z} {α : Type} {mk : α → Option Value} {h : hp_H} {pc : Nat} {lv : List (Nat × Value)} {st : List Value} {X : Option (α × hp_H)}
theorem hp_acpB {src dst index : Nat} {sp dp n : Int32} {K : hp_H → Option (α × hp_H)} (hw : hp_acw Y.1 index) (hroom : 1 ≤ Y.2.2.2.2.2.1 ∧ 8 + (nativeFrameWords "java/lang/System" "arraycopy" 5 + 11) ≤ Y.2.2.2.2.2.2) (hcat : (st.map fun v => v.category).sum ≤ 8) (hdg : decode Y.2.1 pc = .ok (.invokestatic index, 3)) (kk : ∀ h1, hp_J Y Z mk h1 (pc + 3) lv st (K h1)) : hp_J Y Z mk h pc lv (.int n :: .int dp :: .ref dst :: .int sp :: .ref src :: st) ((hp_cpB h src sp dst dp n).bind K) := by
  obtain ⟨p, l, e, s, m, args, below, meth, c, h0, E, fr, lo⟩ := Z
  intro r h' hX
  obtain ⟨h1, e1, e2⟩ := Option.bind_eq_some_iff.mp hX
  unfold hp_cpB at e1
  split at e1
  · rename_i w0 t0 n0 f w1 t1 n1 g ho0 ho1
    split at e1
    · rename_i hc
      cases e1
      obtain ⟨rfl, rfl, rfl, g1, g2, g3, g4, g5, g6⟩ := hc
      obtain ⟨k1, k2⟩ := kk _ r h' e2
      refine ⟨k1, fun F a1 a2 H locs ls hR hL hl => ?_⟩
      obtain ⟨scr, q1, q2, q3, q4, q5, q6, q7⟩ := hR.2.2.1 src _ (hp_arr_some ho0)
      obtain ⟨cd, p1, p2, p3, p4, p5, p6, p7⟩ := hR.2.2.1 dst _ (hp_arr_some ho1)
      obtain ⟨hB, c1, rfl, hA, hA2⟩ := p7 rfl
      obtain ⟨hs6, kk0, hk0, cm0, hkk0⟩ := q2
      obtain ⟨-, kk1, hk1, cm1, hkk1⟩ := p2
      intro T hT X
      obtain ⟨vm', X', step⟩ := X.arraycopy F.1 F.2.2.2.1 (F.2.2.2.2.1 _ hw.1) (F.2.2.2.2.1 _ hw.2.1) (F.2.2.2.2.1 _ hw.2.2.1) (F.2.2.2.2.1 _ hw.2.2.2) (src := src) (dst := dst) (cs := scr) (cd := arrV c1 n1 (hp_av (.inl g))) (srcPos := sp) (destPos := dp) (n := n) (by rw [hT]; exact q1) (by rw [hT]; exact p1)
        hs6 (fun _ h => by cases h) q3 (fun h => by cases h) hk0 hk1 hkk0 hkk1 (by simp [refKind]) g1 g2 g3
        (by rw [hp_nn sp g1, hp_nn n g3]; omega)
        (by rw [hp_nn dp g2, hp_nn n g3, arrV_size]; omega)
        (fun vm₁ _ i hi => by
          have e : scr.slots.getD (sp.toNatClampNeg + i) .null = .int (f (sp.toNatClampNeg + i)) := by
            rw [Array.getD_eq_getD_getElem?, q6 _ (by omega)]
            rfl
          refine ⟨?_, ?_⟩
          · rw [e]
            exact g6 i hi
          · rw [e]
            exact trivial)
        (g := F0 m pc ls (.int n :: .int dp :: .ref dst :: .int sp :: .ref src :: st)) rfl hl.1 (rest := st) rfl (by rw [F.2.1]; exact hdg) (by show 1 ≤ fr; rw [F.2.2.2.2.2.2.2.2.2.1]; exact hroom.1) (by have := hroom.2; show 2 * 0 + _ + _ ≤ lo; rw [F.2.2.2.2.2.2.2.2.2.2]; omega)
      have e1 : copied scr (arrV c1 n1 (hp_av (.inl g))) sp dp n = arrV c1 n1 (hp_av (.inl (va_cpy f g sp.toNatClampNeg dp.toNatClampNeg n.toNatClampNeg))) := va_copiedX (fun z => .int z) scr c1 f g q6 g4
      rw [e1] at X' step
      have hlt : dst < H.size := (Array.getElem?_eq_some_iff.mp p1).1
      generalize hnew : arrV c1 n1 (hp_av (.inl (va_cpy f g sp.toNatClampNeg dp.toNatClampNeg n.toNatClampNeg))) = nc at X' step
      have hheap : ((T.setVm vm').setCell dst nc).heap = H.setIfInBounds dst nc := by rw [← hT]; rfl
      have oq : ∀ q : Nat, q ≠ dst → (H.setIfInBounds dst nc)[q]? = H[q]? := fun q hq => by simp [Array.getElem?_setIfInBounds, Ne.symm hq]
      have he : (H.setIfInBounds dst nc)[dst]? = some nc := by simp [Array.getElem?_setIfInBounds, hlt]
      obtain ⟨t, b1, b2⟩ := k2 F a1 a2 (H.setIfInBounds dst nc) _ ls (hR.put hB (hp_at.arr hB (by rw [hnew]; exact he) hA hA2) (by simp) oq) (fun q hq => by
        rcases List.mem_append.mp hq with h | h
        · exact hL q h
        · obtain ⟨z, -, hz⟩ := List.mem_map.mp h
          rw [← hz]
          exact hB) hl _ hheap X'
      exact ⟨t, step t b1, b2⟩
    · cases e1
  · cases e1
theorem hp_acpR {src dst index : Nat} {sp dp n : Int32} {K : hp_H → Option (α × hp_H)} (hw : hp_acw Y.1 index) (hca : Cond.castable "ExpressionDesk$Value" "java/lang/Object" ∈ hp_Nst) (hroom : 1 ≤ Y.2.2.2.2.2.1 ∧ 8 + (nativeFrameWords "java/lang/System" "arraycopy" 5 + 11) ≤ Y.2.2.2.2.2.2) (hcat : (st.map fun v => v.category).sum ≤ 8) (hdg : decode Y.2.1 pc = .ok (.invokestatic index, 3)) (kk : ∀ h1, hp_J Y Z mk h1 (pc + 3) lv st (K h1)) : hp_J Y Z mk h pc lv (.int n :: .int dp :: .ref dst :: .int sp :: .ref src :: st) ((hp_cpR h src sp dst dp n).bind K) := by
  obtain ⟨p, l, e, s, m, args, below, meth, c, h0, E, fr, lo⟩ := Z
  intro r h' hX
  obtain ⟨h1, e1, e2⟩ := Option.bind_eq_some_iff.mp hX
  unfold hp_cpR at e1
  split at e1
  · rename_i w0 t0 n0 f w1 t1 n1 g ho0 ho1
    split at e1
    · rename_i hc
      cases e1
      obtain ⟨rfl, rfl, rfl, g1, g2, g3, g4, g5, g6⟩ := hc
      obtain ⟨k1, k2⟩ := kk _ r h' e2
      refine ⟨k1, fun F a1 a2 H locs ls hR hL hl => ?_⟩
      obtain ⟨scr, q1, q2, q3, q4, q5, q6, q7⟩ := hR.2.2.1 src _ (hp_arr_some ho0)
      obtain ⟨cd, p1, p2, p3, p4, p5, p6, p7⟩ := hR.2.2.1 dst _ (hp_arr_some ho1)
      obtain ⟨hB, c1, rfl, hA, hA2⟩ := p7 rfl
      obtain ⟨hs6, kk0, hk0, cm0, hkk0⟩ := q2
      obtain ⟨-, kk1, hk1, cm1, hkk1⟩ := p2
      obtain ⟨kA, comp, r1, r2, r3, r4⟩ := hA2.2 _ rfl
      cases hk1.symm.trans r1
      cases hkk1.symm.trans r2
      intro T hT X
      obtain ⟨vm', X', step⟩ := X.arraycopy F.1 F.2.2.2.1 (F.2.2.2.2.1 _ hw.1) (F.2.2.2.2.1 _ hw.2.1) (F.2.2.2.2.1 _ hw.2.2.1) (F.2.2.2.2.1 _ hw.2.2.2) (src := src) (dst := dst) (cs := scr) (cd := arrV c1 n1 (hp_av (.inr (.inr g)))) (srcPos := sp) (destPos := dp) (n := n) (by rw [hT]; exact q1) (by rw [hT]; exact p1)
        hs6 (fun _ h => by cases h) q3 (fun h => by cases h) hk0 hk1 hkk0 hkk1 rfl g1 g2 g3
        (by rw [hp_nn sp g1, hp_nn n g3]; omega)
        (by rw [hp_nn dp g2, hp_nn n g3, arrV_size]; omega)
        (fun vm₁ hal i hi => by
          have e : scr.slots.getD (sp.toNatClampNeg + i) .null = va_rf (f (sp.toNatClampNeg + i)) := by
            rw [Array.getD_eq_getD_getElem?, q6 _ (by omega)]
            rfl
          rw [e]
          have gi := g6 i hi
          cases hy : f (sp.toNatClampNeg + i) with
          | none => exact ⟨rfl, trivial⟩
          | some y =>
            rw [hy] at gi
            obtain ⟨fs, hyV⟩ := hp_isV_some gi
            obtain ⟨cv, v1, v2, v3⟩ := hp_recv hR (ci := 3) rfl hyV
            obtain ⟨kC, hkC, -⟩ := Vm.findClass_spec v3
            obtain ⟨kE, hkE, -⟩ := Vm.findClass_spec r3
            obtain ⟨kC', hkC', -⟩ := hal.2.2 _ _ hkC
            obtain ⟨kE', hkE', -⟩ := hal.2.2 _ _ hkE
            refine ⟨rfl, cv, (show T.heap[y]? = some cv by rw [hT]; exact v1), (fun q h => by rw [h] at v2; cases v2), ⟨kC', hkC'⟩, ?_, ?_⟩
            · exact ⟨kE', hkE'⟩
            · show vm₁.assignable _ _ = true
              rw [hal.assignable]
              exact vb_asgC (F.2.2.2.2.2.1.1 _ hca) _ _ r3 v3)
        (g := F0 m pc ls (.int n :: .int dp :: .ref dst :: .int sp :: .ref src :: st)) rfl hl.1 (rest := st) rfl (by rw [F.2.1]; exact hdg) (by show 1 ≤ fr; rw [F.2.2.2.2.2.2.2.2.2.1]; exact hroom.1) (by have := hroom.2; show 2 * 0 + _ + _ ≤ lo; rw [F.2.2.2.2.2.2.2.2.2.2]; omega)
      have e1 : copied scr (arrV c1 n1 (hp_av (.inr (.inr g)))) sp dp n = arrV c1 n1 (hp_av (.inr (.inr (va_cpy f g sp.toNatClampNeg dp.toNatClampNeg n.toNatClampNeg)))) := va_copiedX (fun z => va_rf z) scr c1 f g q6 g4
      rw [e1] at X' step
      have hlt : dst < H.size := (Array.getElem?_eq_some_iff.mp p1).1
      generalize hnew : arrV c1 n1 (hp_av (.inr (.inr (va_cpy f g sp.toNatClampNeg dp.toNatClampNeg n.toNatClampNeg)))) = nc at X' step
      have hheap : ((T.setVm vm').setCell dst nc).heap = H.setIfInBounds dst nc := by rw [← hT]; rfl
      have oq : ∀ q : Nat, q ≠ dst → (H.setIfInBounds dst nc)[q]? = H[q]? := fun q hq => by simp [Array.getElem?_setIfInBounds, Ne.symm hq]
      have he : (H.setIfInBounds dst nc)[dst]? = some nc := by simp [Array.getElem?_setIfInBounds, hlt]
      obtain ⟨t, b1, b2⟩ := k2 F a1 a2 (H.setIfInBounds dst nc) _ ls (hR.put hB (hp_at.arr hB (by rw [hnew]; exact he) hA hA2) (by simp) oq) (fun q hq => by
        rcases List.mem_append.mp hq with h | h
        · exact hL q h
        · obtain ⟨z, -, hz⟩ := List.mem_map.mp h
          rw [← hz]
          exact hB) hl _ hheap X'
      exact ⟨t, step t b1, b2⟩
    · cases e1
  · cases e1
def hp_clw (own : String) (index : Nat) : Prop := Cond.methodLink own index ⟨"[B", "clone", "()Ljava/lang/Object;"⟩ ∈ hp_T ∧ Cond.sameMethod "[B" "java/lang/Object" "clone" "()Ljava/lang/Object;" ∈ hp_T ∧ Cond.native ⟨"java/lang/Object", "clone", "()Ljava/lang/Object;"⟩ ∈ hp_T ∧ Cond.instanceMethod ⟨"java/lang/Object", "clone", "()Ljava/lang/Object;"⟩ ∈ hp_T ∧ Cond.selects "[B" ⟨"[B", "clone", "()Ljava/lang/Object;"⟩ ⟨"java/lang/Object", "clone", "()Ljava/lang/Object;"⟩ ∈ hp_T ∧ Cond.castable "[B" "java/lang/Cloneable" ∈ hp_Nst
theorem hp_clone {a index : Nat} {K : Nat → hp_H → Option (α × hp_H)} (hw : hp_clw Y.1 index) (hroom : 1 ≤ Y.2.2.2.2.2.1 ∧ 22 ≤ Y.2.2.2.2.2.2) (hcat : (st.map fun v => v.category).sum ≤ 8) (hdg : decode Y.2.1 pc = .ok (.invokevirtual index, 3)) (kk : ∀ b h1, hp_J Y Z mk h1 (pc + 3) lv (.ref b :: st) (K b h1)) : hp_J Y Z mk h pc lv (.ref a :: st) (hp_clK h a K) := by
  obtain ⟨p, l, e, s, m, args, below, meth, c, h0, E, fr, lo⟩ := Z
  intro r h' hX
  unfold hp_clK at hX
  split at hX
  · rename_i w t n f ho
    split at hX
    · rename_i hc
      obtain ⟨rfl, rfl, hfit⟩ := hc
      obtain ⟨k1, k2⟩ := kk h.2.1 (hp_newa h .byte n (.inl f)) r h' hX
      have k1a : h.2.1 + 1 ≤ h'.2.1 := k1.1
      have k1b : h.2.2 + n ≤ h'.2.2 := k1.2
      refine ⟨⟨Nat.le_of_succ_le k1a, Nat.le_trans (Nat.le_add_right _ _) k1b⟩, fun F a1 a2 H locs ls hR hL hl => ?_⟩
      obtain ⟨cell, q1, q2, q3, q4, q5, q6, q7⟩ := hR.2.2.1 a _ (hp_arr_some ho)
      obtain ⟨hB, cA, rfl, hA, hA2⟩ := q7 rfl
      have hnm : s.vm.findClass "[B" = some cA := hA2.1
      obtain ⟨c0, t0', f1, f2, f3⟩ := Cond.castable_spec (va_Nw.use (A := args) rfl (F.2.2.2.2.2.1.1 _ hw.2.2.2.2.2))
      cases hnm.symm.trans f1
      intro T hT X
      obtain ⟨-, kA, hkA, comp, hkind⟩ := State.isArrayOf_alike X.warmed.alike (hA 0 (fun _ => .null))
      obtain ⟨-, kS, hkS, compS, hkindS⟩ := hA 0 (fun _ => .null)
      obtain ⟨vm', X', stp⟩ := X.cloneArray F.1 F.2.2.2.1 (F.2.2.2.2.1 _ hw.1) (F.2.2.2.2.1 _ hw.2.1) (F.2.2.2.2.1 _ hw.2.2.1) (F.2.2.2.2.1 _ hw.2.2.2.1) (F.2.2.2.2.1 _ hw.2.2.2.2.1) (a := a) (cell := arrV cA n (hp_av (.inl f))) (by rw [hT]; exact q1) (fun k h => by cases h) (fun h => by cases h) hnm f2 f3
        (fun i v hv => by
          have hk' : T.vm.classes[cA]? = some kA := hkA
          have hv2 : fits .byte v = true := va_fit (ty := .byte) (fun i hi => hfit i hi) i v hv
          simpa [State.fitsSlot, State.slotType?, hk', hkind, arrV] using hv2)
        (g := F0 m pc ls (.ref a :: st)) rfl hl.1 rfl (by rw [F.2.1]; exact hdg) (by show 1 ≤ fr; rw [F.2.2.2.2.2.2.2.2.2.1]; exact hroom.1) (by have := hroom.2; show 2 * 0 + _ + 14 ≤ lo; rw [F.2.2.2.2.2.2.2.2.2.2]; omega) (show h.2.1 - h0.2.1 + 1 ≤ h'.2.1 - h0.2.1 by omega) (by rw [arrV_size]; show h.2.2 - h0.2.2 + n ≤ h'.2.2 - h0.2.2; omega) (hloader := Vm.clonesLoader_of_array hkS hkindS)
      have hcE : ({ cls := (arrV cA n (hp_av (.inl f))).cls, slots := (arrV cA n (hp_av (.inl f))).slots } : Cell) = arrV cA n (hp_av (.inl f)) := rfl
      rw [hcE, arrV_size] at X'
      generalize hH1 : H.push (arrV cA n (hp_av (.inl f))) = H1
      have z1 : H1.size = h.2.1 + 1 := by rw [← hH1, Array.size_push, hR.1]
      have e1 : H1[h.2.1]? = some (arrV cA n (hp_av (.inl f))) := by rw [← hH1, ← hR.1, Array.getElem?_push_size]
      have o1 : ∀ q : Nat, q < h.2.1 → H1[q]? = H[q]? := fun q hq => by rw [← hH1, Array.getElem?_push, if_neg (by rw [hR.1]; exact Nat.ne_of_lt hq)]
      have hR1 : hp_R E s H1 (hp_newa h .byte n (.inl f)) := hR.push n (hp_at.arr hR.2.1 e1 hA hA2) z1 o1
      have K2 := k2 F (Nat.le_trans a1 (Nat.le_succ _)) (Nat.le_trans a2 (Nat.le_add_right _ _)) H1 locs ls hR1 hL hl
      have c1 : (hp_newa h .byte n (.inl f)).2.1 - h0.2.1 = h.2.1 - h0.2.1 + 1 := by show h.2.1 + 1 - h0.2.1 = _; omega
      have c2 : (hp_newa h .byte n (.inl f)).2.2 - h0.2.2 = h.2.2 - h0.2.2 + n := by show h.2.2 + n - h0.2.2 = _; omega
      rw [c1, c2] at K2
      obtain ⟨t, b1, b2⟩ := K2 ((T.setVm vm').pushCell (arrV cA n (hp_av (.inl f)))) (by rw [← hH1, ← hT]; rfl) X'
      refine ⟨t, stp t ?_, b2⟩
      rw [hcE, hT, hR.1]
      exact b1
    · cases hX
  · cases hX
theorem hp_castB {a index : Nat} (hw : Cond.classLink Y.1 index "[B" ∈ hp_T) (hdg : decode Y.2.1 pc = .ok (.checkcast index, 3)) (kk : hp_J Y Z mk h (pc + 3) lv (.ref a :: st) X) : hp_J Y Z mk h pc lv (.ref a :: st) (hp_bck h a X) := by
  obtain ⟨p, l, e, s, m, args, below, meth, c, h0, E, fr, lo⟩ := Z
  intro r h' hX
  unfold hp_bck at hX
  split at hX
  · rename_i w t n f ho
    split at hX
    · rename_i hc
      obtain ⟨rfl, rfl⟩ := hc
      obtain ⟨k1, k2⟩ := kk r h' hX
      refine ⟨k1, fun F a1 a2 H locs ls hR hL hl => ?_⟩
      obtain ⟨cell, q1, q2, q3, q4, q5, q6, q7⟩ := hR.2.2.1 a _ (hp_arr_some ho)
      obtain ⟨hB, cA, rfl, hA, hA2⟩ := q7 rfl
      exact va_castE F.1 F.2.1 F.2.2.2.1 (F.2.2.2.2.1 _ hw) ⟨_, q1, rfl, hA2.1⟩ hdg (k2 F a1 a2 H locs ls hR hL hl)
    · cases hX
  · cases hX
end HV
