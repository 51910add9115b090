/-! THE CLASS: the desk's other methods -/
section
variable (G : Nat → Nat) {c q0 : Nat} {h h' : hp_H} {vs vs' : List vV} {T : List Nat} {ws : List (Nat × Int32)} {bd : Nat → Nat} {g : gG}
theorem CD.tape (D : CD G c q0 h vs T ws bd g) {T' : List Nat} (C : chg c [7, 8] h h') (R : RR h' (c + 7) T') (hl : T'.length ≤ 64) (hb : ∀ b ∈ T', b < 256) : CD G c q0 h' vs T' ws bd g := by
  obtain ⟨d1, ⟨st, d2⟩, -, d6⟩ := D
  have S := d6.1.c C (by simp)
  exact ⟨fr.d C.f (by simp) d1, ⟨st, fr.x G C.f (by simp) d2 S d6.2.1 ⟨[], (List.append_nil _).symm⟩⟩, ⟨R, hl, hb⟩, fr.gg G C.f (by simp) d6 S d6.2.1 ⟨[], (List.append_nil _).symm⟩⟩
theorem byK_lt (v : Int64) (k : Nat) : byK v k < 256 := Nat.mod_lt _ (by decide)
theorem byK_8 (v : Int64) (k : Nat) (hk : k < 8) : (((v.toUInt64 >>> (((8 : Int32) * nI k).toInt64.toUInt64 &&& Int64.toUInt64 63)).toInt64).toInt32).toInt8.toInt32 = sB (byK v k) := by
  have sh : ∀ k, k < 8 → (((8 : Int32) * nI k).toInt64.toUInt64 &&& Int64.toUInt64 63) = UInt64.ofNat (8 * k) := by decide +kernel
  rw [sh k hk]
  unfold sB
  refine congrArg Int8.toInt32 ?_
  refine Int8.toBitVec_inj.mp ?_
  have e1 : (v.toUInt64 >>> UInt64.ofNat (8 * k)).toBitVec = v.toBitVec >>> (8 * k) := by
    rw [UInt64.toBitVec_shiftRight]
    have m : (UInt64.ofNat (8 * k)).toBitVec % 64 = BitVec.ofNat 64 (8 * k) := by
      have : ∀ k, k < 8 → (UInt64.ofNat (8 * k)).toBitVec % 64 = BitVec.ofNat 64 (8 * k) := by decide +kernel
      exact this k hk
    rw [m]
    show v.toBitVec >>> (BitVec.ofNat 64 (8 * k)) = _
    rw [BitVec.ushiftRight_eq']
    rw [BitVec.toNat_ofNat, Nat.mod_eq_of_lt (show 8 * k < 2 ^ 64 by omega)]
  apply BitVec.eq_of_getLsbD_eq
  intro i hi
  show (BitVec.signExtend 8 (BitVec.signExtend 32 (v.toUInt64 >>> UInt64.ofNat (8 * k)).toBitVec)).getLsbD i = (BitVec.signExtend 8 (BitVec.ofNat 32 (byK v k))).getLsbD i
  rw [e1, BitVec.getLsbD_signExtend, BitVec.getLsbD_signExtend, BitVec.getLsbD_signExtend, decide_eq_true hi, Bool.true_and, Bool.true_and, if_pos (by omega), if_pos (by omega), if_pos (by omega), decide_eq_true (show i < 32 by omega), Bool.true_and, BitVec.getLsbD_ushiftRight, BitVec.getLsbD_ofNat, decide_eq_true (show i < 32 by omega), Bool.true_and]
  unfold byK
  rw [show (256 : Nat) = 2 ^ 8 from rfl, Nat.testBit_mod_two_pow, Nat.testBit_div_two_pow, decide_eq_true hi, Bool.true_and]
  rw [BitVec.getLsbD, Nat.add_comm]
theorem cd_type_35 (v : Int64) : ∀ (n k : Nat) (h : hp_H) (T : List Nat), k < n → k ≤ 8 → CD G c q0 h vs T ws bd g → T.length + k ≤ 64 → DR G c q0 h (m_D_type_35 G n c v (iI ((k : Int) - 1)) h) (nI (T.length + k)) vs (T ++ bytesK v k) ws bd g
  | 0, k, h, T, hn, _, _, _ => by omega
  | n + 1, k, h, T, hn, hk, D, hl => by
    rw [m_D_type_35]
    cases k with
    | zero =>
      rw [if_pos (show iI (((0 : Nat) : Int) - 1) < 0 by decide), D.g1, bs, gI_e (k := 1) D.2.2.1.1.1 rfl, bs, bytesK, List.append_nil, Nat.add_zero, show min T.length 64 = T.length by omega]
      exact D.same G _
    | succ k =>
      have ep : iI (((k + 1 : Nat) : Int) - 1) = nI k := iI_nat (by omega)
      obtain ⟨h1, e1, e2, e3⟩ := cl_put G D.2.2.1.1 (byK_8 v k (by omega))
      have em : nI k + -1 = iI ((k : Int) - 1) := by rw [show (-1 : Int32) = iI (-1) from rfl, nI_iI, iI_add]; exact congrArg iI (by omega)
      rw [ep, if_neg (nI_pos (by omega)), D.g1, bs, D.tk, e1, bs, hp_nmE, em]
      have D1 := D.tape G e3 e2 (by rw [List.length_append]; show T.length + 1 ≤ 64; omega) (fun b hb => by
        rcases List.mem_append.mp hb with q | q
        · exact D.2.2.1.2.2 b q
        · simp at q; rw [q]; exact byK_lt v k)
      obtain ⟨h2, f1, f2, f3⟩ := cd_type_35 v n k h1 _ (by omega) (by omega) D1 (by rw [List.length_append]; show T.length + 1 + k ≤ 64; omega)
      rw [List.length_append] at f1
      rw [List.append_assoc] at f2
      refine ⟨h2, ?_, f2, fun a ha => (f3 a ha).trans (e3.f.r (by simp) a ha)⟩
      rw [f1]
      exact congrArg (fun z => some (nI z, h2)) (show T.length + 1 + k = T.length + (k + 1) by omega)
theorem cd_type (D : CD G c q0 h vs T ws bd g) (v : Int64) (n : Int32) : DR G c q0 h (m_D_type G c v n h) (typeV T v n).1 vs (typeV T v n).2 ws bd g := by
  have hT := D.2.2.1.2.1
  unfold m_D_type m_D_type_11 typeV
  by_cases n1 : n < 1
  · rw [if_pos n1, if_neg (fun q => q.1 n1)]; exact D.same G _
  · rw [if_neg n1]
    by_cases n8 : n ≤ 8
    · obtain ⟨k, hk, rfl⟩ := nI_of (x := n) (fun z => n1 (by rw [Int32.lt_iff_toInt_lt] at z ⊢; have o : (1 : Int32).toInt = 1 := rfl; have z0 : (0 : Int32).toInt = 0 := rfl; rw [z0] at z; rw [o]; omega))
      have k8 : k ≤ 8 := Nat.le_of_not_lt (fun q => nI_ge (a := 8) (b := k) q hk n8)
      have k1 : 1 ≤ k := Nat.le_of_not_lt (fun q => n1 (nI_lt (b := 1) q (by decide)))
      rw [if_pos n8, if_pos ⟨n1, n8⟩, D.g1, bs, gI_e (k := 1) D.2.2.1.1.1 rfl, bs, nI_clamp hk, show min T.length 64 = T.length by omega, nI_add, show (64 : Int32) = nI 64 from rfl]
      simp only [nI_leI (show T.length + k < 2 ^ 31 by omega) (show 64 < 2 ^ 31 by decide)]
      by_cases l : T.length + k ≤ 64
      · rw [if_pos l, if_pos l, hp_nmE, show nI k - 1 = iI ((k : Int) - 1) by rw [show (1 : Int32) = iI 1 from rfl, nI_iI, iI_sub]]
        exact cd_type_35 G v hp_fu k h T (by unfold hp_fu; omega) k8 D l
      · rw [if_neg l, if_neg l]; exact D.same G _
    · rw [if_neg n8, if_neg (fun q => n8 q.2)]; exact D.same G _
theorem cl_textKind (k e : Int32) (h : hp_H) : m_D_isTextKind G k e h = some (bI (tkB k e), h) := by
  unfold m_D_isTextKind m_D_isTextKind_14 m_D_isTextKind_27 m_D_isTextKind_41 m_D_isTextKind_42 tkB
  have z1 : hp_z 1 h = some (1, h) := rfl
  have z0 : hp_z 0 h = some (0, h) := rfl
  rw [z1, z0]
  have c99 : (99 : Int32) < e ↔ 100 ≤ e := by
    rw [Int32.lt_iff_toInt_lt, Int32.le_iff_toInt_le]
    have a : (99 : Int32).toInt = 99 := rfl
    have b : (100 : Int32).toInt = 100 := rfl
    omega
  by_cases k5 : k = 5
  · rw [if_pos k5, if_pos k5]
    by_cases e0 : e = 0
    · rw [if_pos e0, decide_eq_true e0]; rfl
    · rw [if_neg e0, decide_eq_false e0]; rfl
  · rw [if_neg k5, if_neg k5]
    have go : (k = 6 ∨ k = 7) → (if e < 0 then some ((0 : Int32), h) else if 99 < e then some (0, h) else some (1, h)) = some (bI (decide ((k = 6 ∨ k = 7) ∧ ¬ e < 0 ∧ ¬ 100 ≤ e)), h) := fun hk => by
      by_cases e0 : e < 0
      · rw [if_pos e0, decide_eq_false (fun q => q.2.1 e0)]; rfl
      · rw [if_neg e0]
        by_cases e9 : 99 < e
        · rw [if_pos e9, decide_eq_false (fun q => q.2.2 (c99.mp e9))]; rfl
        · rw [if_neg e9, decide_eq_true ⟨hk, e0, fun q => e9 (c99.mpr q)⟩]; rfl
    by_cases k6 : k = 6
    · rw [if_pos k6]; exact go (Or.inl k6)
    · rw [if_neg k6]
      by_cases k7 : k = 7
      · rw [if_pos k7]; exact go (Or.inr k7)
      · rw [if_neg k7, decide_eq_false (fun q => by rcases q.1 with z | z; exact k6 z; exact k7 z)]; rfl
theorem tk_vO {k e : Int32} (ht : tkB k e = true) (hT : T.all okB = true) (hl : T.length ≤ 64) : ∃ kn en : Nat, k = nI kn ∧ e = nI en ∧ vO (kn, en, 0, 0, T) ∧ vW (kn, en, 0, 0, T) ∧ kn < 2 ^ 31 ∧ en < 2 ^ 31 := by
  have hb : ∀ b ∈ T, 0 < b ∧ b < 128 := fun b hb => by
    have := List.all_eq_true.mp hT b hb
    unfold okB at this
    exact of_decide_eq_true this
  have mk : ∀ kn en : Nat, (kn = 5 ∧ en = 0 ∨ (kn = 6 ∨ kn = 7) ∧ en < 100) → vO (kn, en, 0, 0, T) := fun kn en h => by
    refine ⟨?_, ?_, ?_, fun q => ?_, fun _ _ => ⟨rfl, rfl⟩, fun q => ?_, fun q => ?_, fun q => ?_, fun q => ?_, hb⟩
    · show 1 ≤ kn; omega
    · show kn ≤ 8; omega
    · show en ≤ 9999; omega
    · have q : kn = 3 ∨ kn = 4 := q
      omega
    · have q : kn = 8 := q
      omega
    · have q : kn < 5 ∨ kn = 8 := q
      omega
    · have q : kn = 5 := q
      show en = 0; omega
    · have q : kn = 6 ∨ kn = 7 := q
      show en < 100; omega
  unfold tkB at ht
  by_cases k5 : k = 5
  · rw [if_pos k5] at ht
    have e0 : e = 0 := of_decide_eq_true ht
    have o := mk 5 0 (Or.inl ⟨rfl, rfl⟩)
    exact ⟨5, 0, k5, e0, o, o.W hl, by decide, by decide⟩
  · rw [if_neg k5] at ht
    obtain ⟨hk, e0, e1⟩ := of_decide_eq_true ht
    obtain ⟨en, hen, rfl⟩ := nI_of e0
    have e100 : en < 100 := Nat.lt_of_not_le (fun q => e1 (nI_le (a := 100) q hen))
    rcases hk with hk | hk
    · have o := mk 6 en (Or.inr ⟨Or.inl rfl, e100⟩)
      exact ⟨6, en, hk, rfl, o, o.W hl, by decide, hen⟩
    · have o := mk 7 en (Or.inr ⟨Or.inr rfl, e100⟩)
      exact ⟨7, en, hk, rfl, o, o.W hl, by decide, hen⟩
theorem cd_text (D : CD G c q0 h vs T ws bd g) (k e : Int32) : DR G c q0 h (m_D_text G c k e h) (textV vs T k e).1 (textV vs T k e).2 [] ws bd g := by
  obtain ⟨hR, hl, hb⟩ := D.2.2.1
  have fin : ∀ (h1 : hp_H) (vs1 : List vV) (a : Int32), CD G c q0 h1 vs1 T ws bd g → rF23 c h h1 → DR G c q0 h (m_D_text_45 G c a h1) a vs1 [] ws bd g := fun h1 vs1 a D1 F1 => by
    unfold m_D_text_45
    obtain ⟨h2, e1, e2, e3⟩ := cl_clear G D1.2.2.1.1
    rw [hp_nmE, D1.g1, bs, D1.tk, e1, bs]
    exact ⟨h2, rfl, D1.tape G e3 e2 (by decide) (fun b hb => by cases hb), fun a ha => (e3.f.r (by simp) a ha).trans (F1 a ha)⟩
  unfold m_D_text m_D_text_22 textV txV
  rw [cl_textKind, bs, D.g1, bs, D.tk, cl_isText G hb hl hR, bs]
  have no : DR G c q0 h (m_D_text_23 G c k e 0 h) (-1) vs [] ws bd g := by
    unfold m_D_text_23
    rw [hp_nmE, if_pos (show (0 : Int32) = 0 from rfl)]
    exact fin h vs (-1) D (fun _ _ => rfl)
  cases ht : tkB k e with
  | false => rw [if_pos (show bI false = 0 from rfl), Bool.false_and, if_neg (show ¬ false = true by decide)]; exact no
  | true =>
    rw [if_neg (show ¬ bI true = 0 by decide), Bool.true_and]
    cases hT : T.all okB with
    | false => rw [if_pos (show bI false = 0 from rfl), if_neg (show ¬ false = true by decide)]; exact no
    | true =>
      rw [if_neg (show ¬ bI true = 0 by decide), if_pos (show true = true from rfl)]
      obtain ⟨kn, en, rfl, rfl, o1, o2, o3, o4⟩ := tk_vO ht hT hl
      rw [nI_clamp o3, nI_clamp o4]
      unfold m_D_text_23
      obtain ⟨h1, f1, f2, f3⟩ := D.kq G (ox := some (kn, en, 0, 0, T)) (cl_keepRow G D.S D.O kn en T (fun _ => o2) (k := 7) (by decide) hR) (fun x hx => by cases hx; exact o1)
      rw [hp_nmE, if_neg (show ¬ (1 : Int32) = 0 by decide), D.g0, bs, D.g1, bs, D.sk, f1, bs]
      exact fin h1 _ _ f2 f3
theorem CD.exp (D : CD G c q0 h vs T ws bd g) {K : List Nat} (F : fr c K h h') (hK : ∀ k ∈ K, k ∈ [2, 3, 9, 10, 11, 12, 13, 14, 15, 16]) {ws' : List (Nat × Int32)} {bd' : Nat → Nat} {st : List (Option vV)} (X : XX G c q0 h' vs' ws' bd' st) (hv : ∃ l, vs' = vs ++ l) : CD G c q0 h' vs' T ws' bd' g ∧ rF23 c h h' := by
  obtain ⟨d1, -, ⟨d3, d4, d5⟩, d6⟩ := D
  have n : ∀ k ∈ K, k = 2 ∨ k = 3 ∨ 9 ≤ k ∧ k ≤ 16 := fun k hk => by have := hK k hk; simp at this; omega
  exact ⟨⟨fr.d F (fun z => by have := n 0 z; omega) d1, ⟨st, X⟩, ⟨d3.f F (by decide) (fun z => by have := n 7 z; omega) (fun z => by have := n 8 z; omega), d4, d5⟩, fr.gg G F (fun k hk => by have := n k hk; omega) d6 X.1 X.2.1 hv⟩, F.r (fun k hk => by have := n k hk; omega)⟩
theorem cd_begin (D : CD G c q0 h vs T ws bd g) : DR G c q0 h (m_D_begin G c h) (nI ws.length) vs T [] bd g := by
  obtain ⟨st, X⟩ := D.2.1
  unfold m_D_begin m_E_restart
  rw [D.g2, bs, D.ek, gI_e (k := 7) X.2.2.1 rfl, bs, hp_nmE, p_e (k := 7) X.2.2.1 _ (show 7 < 9 by decide), bs, bs]
  have C1 : chg c [9] h (stC h (c + 9) (.inl (5, eF c (nI ([] : List (Nat × Int32)).length) st.length))) := chg_st (k := 9) _ (by simp)
  have T1 : (stC h (c + 9) (.inl (5, eF c (nI ([] : List (Nat × Int32)).length) st.length))).1 (c + 9) = some (.inl (5, eF c (nI ([] : List (Nat × Int32)).length) st.length)) := stC_s _ _ _
  show DR G c q0 h (some (nI ws.length, stC h (c + 9) (.inl (5, eF c (nI ([] : List (Nat × Int32)).length) st.length)))) (nI ws.length) vs T [] bd g
  generalize stC h (c + 9) (.inl (5, eF c (nI ([] : List (Nat × Int32)).length) st.length)) = h1 at C1 T1
  obtain ⟨x1, x2, x3, ⟨x4, fo, fn, x5, x6, x7⟩, ⟨fb, x8, x9⟩, ⟨f, x10, x11⟩, x12, ⟨L, xR⟩, ⟨b, w, a, s, K1, K2⟩⟩ := X
  have X1 : XX G c q0 h1 vs [] bd st := ⟨x1.c C1 (by simp), x2, T1, ⟨by decide, fo, fn, by rw [C1.at 10 (by simp)]; exact x5, by rw [C1.at 11 (by simp)]; exact x6, fun k w hk => by cases hk⟩, ⟨fb, by rw [C1.at 12 (by simp)]; exact x8, x9⟩, ⟨f, by rw [C1.at 13 (by simp)]; exact x10, x11⟩, x12, ⟨L, xR.c C1 (by simp) (by simp)⟩, b, w, a, s, by rw [C1.at 16 (by simp)]; exact K1, K2⟩
  obtain ⟨d1, d2⟩ := D.exp G C1.f (by simp) X1 ⟨[], (List.append_nil _).symm⟩
  exact ⟨h1, rfl, d1, d2⟩
theorem cd_bind (D : CD G c q0 h vs T ws bd g) (k v : Int32) : DR G c q0 h (m_D_bind G c k v h) (bI (bindV vs bd k v).1) vs T ws (bindV vs bd k v).2 g := by
  obtain ⟨st, X⟩ := D.2.1
  have hl := D.O.2.1
  have z1 : ∀ h : hp_H, hp_z 1 h = some (1, h) := fun _ => rfl
  have z0 : ∀ h : hp_H, hp_z 0 h = some (0, h) := fun _ => rfl
  have z0' : ∀ h : hp_H, m_E_let_25 G h = some (0, h) := fun _ => rfl
  have no : DR G c q0 h (some ((0 : Int32), h)) (bI false) vs T ws bd g := D.same G _
  have c10 : (10 : Int32) ≤ k ↔ 9 < k := by
    rw [Int32.lt_iff_toInt_lt, Int32.le_iff_toInt_le]
    have a : (10 : Int32).toInt = 10 := rfl
    have b : (9 : Int32).toInt = 9 := rfl
    omega
  unfold m_D_bind m_E_let bindV
  rw [D.g2, bs, D.ek]
  by_cases k0 : k < 0
  · rw [if_pos k0, z0', bs, z0, if_neg (fun q => q.1 k0)]; exact no
  · rw [if_neg k0]
    by_cases k10 : 10 ≤ k
    · rw [if_pos k10, z0', bs, z0, if_neg (fun q => q.2.1 (c10.mp k10))]; exact no
    · rw [if_neg k10]
      by_cases v0 : v < 0
      · rw [if_pos v0, z0', bs, z0, if_neg (fun q => q.2.2.1 v0)]; exact no
      · rw [if_neg v0, gR_e (k := 0) X.2.2.1 rfl, bs, D.sk, cl_count G D.S, bs]
        by_cases vl : v ≤ nI vs.length
        · obtain ⟨kn, hkn, rfl⟩ := nI_of k0
          obtain ⟨vn, hvn, rfl⟩ := nI_of v0
          have kn10 : kn < 10 := Nat.lt_of_not_le (fun q => k10 (nI_le (a := 10) q hkn))
          have vnl : vn ≤ vs.length := Nat.le_of_not_lt (fun q => nI_ge (a := vs.length) (b := vn) q hvn vl)
          obtain ⟨x1, x2, x3, ⟨x4, fo, fn, x5, x6, x7⟩, ⟨fb, x8, x9⟩, ⟨f, x10, x11⟩, x12, ⟨L, xR⟩, ⟨b, w, a, s, K1, K2⟩⟩ := X
          rw [if_pos vl, if_pos ⟨k0, fun q => k10 (c10.mpr q), v0, vl⟩, gR_e (k := 3) x3 rfl, bs, sI_e x8 _ kn10 (by decide), bs, z1, bs, z1, nI_clamp hkn, nI_clamp hvn]
          have C1 : chg c [12] h (stC h (c + 12) (.inr (true, .int, 10, .inl (upd fb kn (nI vn))))) := chg_st (k := 12) _ (by simp)
          have T1 : (stC h (c + 12) (.inr (true, .int, 10, .inl (upd fb kn (nI vn))))).1 (c + 12) = some (.inr (true, .int, 10, .inl (upd fb kn (nI vn)))) := stC_s _ _ _
          generalize stC h (c + 12) (.inr (true, .int, 10, .inl (upd fb kn (nI vn)))) = h1 at C1 T1
          have X1 : XX G c q0 h1 vs ws (bdU bd kn vn) st := ⟨x1.c C1 (by simp), x2, by rw [C1.at 9 (by simp)]; exact x3, ⟨x4, fo, fn, by rw [C1.at 10 (by simp)]; exact x5, by rw [C1.at 11 (by simp)]; exact x6, x7⟩, ⟨_, T1, fun j hj => by
            unfold bdU
            by_cases e : j = kn
            · rw [if_pos e, e, upd_s]; exact ⟨rfl, vnl⟩
            · rw [if_neg e, upd_n _ _ e]; exact x9 j hj⟩, ⟨f, by rw [C1.at 13 (by simp)]; exact x10, x11⟩, x12, ⟨L, xR.c C1 (by simp) (by simp)⟩, b, w, a, s, by rw [C1.at 16 (by simp)]; exact K1, K2⟩
          obtain ⟨d1, d2⟩ := D.exp G C1.f (by simp) X1 ⟨[], (List.append_nil _).symm⟩
          exact ⟨h1, rfl, d1, d2⟩
        · rw [if_neg vl, z0', bs, z0, if_neg (fun q => vl q.2.2.2)]; exact no
theorem cd_word (D : CD G c q0 h vs T ws bd g) (o a : Int32) : DR G c q0 h (m_D_word G c o a h) (wordV ws o a).1 vs T (wordV ws o a).2 bd g := by
  obtain ⟨st, X⟩ := D.2.1
  have hwl := X.2.2.2.1.1
  unfold m_D_word m_E_append m_E_append_10 wordV
  rw [D.g2, bs, D.ek, bq]
  by_cases o0 : o < 0
  · rw [if_pos o0, if_neg (fun q => q.1 o0)]; exact D.same G _
  · obtain ⟨n, hn, rfl⟩ := nI_of o0
    rw [if_neg o0, nI_clamp hn]
    by_cases o41 : nI n ≤ 41
    · have n41 : n ≤ 41 := Nat.le_of_not_lt (fun q => nI_ge (a := 41) (b := n) q hn o41)
      have nlt : ¬ (41 : Int32) < nI n := nI_nlt (a := 41) (b := n) n41 (by decide)
      rw [if_pos o41]
      simp only [ie_23 hn, ie_24 hn, ie_29 hn]
      have put : wO (n, a) → DR G c q0 h (m_E_append_44 G (c + 9) (nI n) a h) (if ws.length = 100 then ((-3 : Int32), ws) else (nI (ws.length + 1), ws ++ [(n, a)])).1 vs T (if ws.length = 100 then ((-3 : Int32), ws) else (nI (ws.length + 1), ws ++ [(n, a)])).2 bd g := fun hw => by
        obtain ⟨x1, x2, x3, ⟨x4, fo, fn, x5, x6, x7⟩, ⟨fb, x8, x9⟩, ⟨f, x10, x11⟩, x12, ⟨L, xR⟩, ⟨b, w, a', s, K1, K2⟩⟩ := X
        unfold m_E_append_44
        rw [gI_e (k := 7) x3 rfl, bs, show (100 : Int32) = nI 100 from rfl]
        simp only [nI_ltI (show ws.length < 2 ^ 31 by omega) (show 100 < 2 ^ 31 by decide)]
        by_cases l : ws.length = 100
        · rw [if_neg (by omega), if_pos l]; exact D.same G _
        · rw [if_pos (by omega), if_neg l, gR_e (k := 1) x3 rfl, bs, bs, sI_e x5 (nI n) (show ws.length < 100 by omega) (by decide), bs]
          have T1 : (stC h (c + 10) (.inr (true, .int, 100, .inl (upd fo ws.length (nI n))))).1 (c + 9) = some (.inl (5, eF c (nI ws.length) st.length)) := by rw [stC_n _ _ (by omega)]; exact x3
          have T2 : (stC h (c + 10) (.inr (true, .int, 100, .inl (upd fo ws.length (nI n))))).1 (c + 11) = some (.inr (true, .int, 100, .inl fn)) := by rw [stC_n _ _ (by omega)]; exact x6
          have T3 : (stC h (c + 10) (.inr (true, .int, 100, .inl (upd fo ws.length (nI n))))).1 (c + 10) = some (.inr (true, .int, 100, .inl (upd fo ws.length (nI n)))) := stC_s _ _ _
          have C1 : chg c [9, 10, 11] h (stC h (c + 10) (.inr (true, .int, 100, .inl (upd fo ws.length (nI n))))) := chg_st (k := 10) _ (by simp)
          generalize stC h (c + 10) (.inr (true, .int, 100, .inl (upd fo ws.length (nI n)))) = h1 at T1 T2 T3 C1
          rw [gR_e (k := 2) T1 rfl, bs, gI_e (k := 7) T1 rfl, bs, sI_e T2 a (show ws.length < 100 by omega) (by decide), bs]
          have U1 : (stC h1 (c + 11) (.inr (true, .int, 100, .inl (upd fn ws.length a)))).1 (c + 9) = some (.inl (5, eF c (nI ws.length) st.length)) := by rw [stC_n _ _ (by omega)]; exact T1
          have U2 : (stC h1 (c + 11) (.inr (true, .int, 100, .inl (upd fn ws.length a)))).1 (c + 11) = some (.inr (true, .int, 100, .inl (upd fn ws.length a))) := stC_s _ _ _
          have U3 : (stC h1 (c + 11) (.inr (true, .int, 100, .inl (upd fn ws.length a)))).1 (c + 10) = some (.inr (true, .int, 100, .inl (upd fo ws.length (nI n)))) := by rw [stC_n _ _ (by omega)]; exact T3
          have C2 : chg c [9, 10, 11] h1 (stC h1 (c + 11) (.inr (true, .int, 100, .inl (upd fn ws.length a)))) := chg_st (k := 11) _ (by simp)
          generalize stC h1 (c + 11) (.inr (true, .int, 100, .inl (upd fn ws.length a))) = h2 at U1 U2 U3 C2
          rw [gI_e (k := 7) U1 rfl, bs, p_e (k := 7) U1 _ (show 7 < 9 by decide), bs]
          have V1 : (stC h2 (c + 9) (.inl (5, (eF c (nI ws.length) st.length).set 7 (.int (nI ws.length + 1))))).1 (c + 9) = some (.inl (5, eF c (nI (ws ++ [(n, a)]).length) st.length)) := by
            rw [stC_s, List.length_append, nI_1]; rfl
          have V2 : (stC h2 (c + 9) (.inl (5, (eF c (nI ws.length) st.length).set 7 (.int (nI ws.length + 1))))).1 (c + 11) = some (.inr (true, .int, 100, .inl (upd fn ws.length a))) := by rw [stC_n _ _ (by omega)]; exact U2
          have V3 : (stC h2 (c + 9) (.inl (5, (eF c (nI ws.length) st.length).set 7 (.int (nI ws.length + 1))))).1 (c + 10) = some (.inr (true, .int, 100, .inl (upd fo ws.length (nI n)))) := by rw [stC_n _ _ (by omega)]; exact U3
          have C3 : chg c [9, 10, 11] h2 (stC h2 (c + 9) (.inl (5, (eF c (nI ws.length) st.length).set 7 (.int (nI ws.length + 1))))) := chg_st (k := 9) _ (by simp)
          generalize stC h2 (c + 9) (.inl (5, (eF c (nI ws.length) st.length).set 7 (.int (nI ws.length + 1)))) = h3 at V1 V2 V3 C3
          have C := (C1.tr C2).tr C3
          have g7 : hp_gI h3 (c + 9) 5 7 = some (nI (ws.length + 1)) := by
            rw [gI_e (k := 7) V1 rfl, List.length_append]; rfl
          rw [g7, bs]
          have X1 : XX G c q0 h3 vs (ws ++ [(n, a)]) bd st := ⟨x1.c C (by simp), x2, V1, ⟨by rw [List.length_append]; show ws.length + 1 ≤ 100; omega, _, _, V3, V2, fun j w hj => by
            by_cases jl : j < ws.length
            · rw [List.getElem?_append_left jl] at hj
              rw [upd_n _ _ (by omega), upd_n _ _ (by omega)]
              exact x7 j w hj
            · have ej : j = ws.length := by
                have := (List.getElem?_eq_some_iff.mp hj).1
                rw [List.length_append] at this
                simp at this
                omega
              subst ej
              rw [List.getElem?_append_right (Nat.le_refl _), Nat.sub_self] at hj
              cases hj
              rw [upd_s, upd_s]
              exact ⟨rfl, rfl, hw⟩⟩, ⟨fb, by rw [C.at 12 (by simp)]; exact x8, x9⟩, ⟨f, by rw [C.at 13 (by simp)]; exact x10, x11⟩, x12, ⟨L, xR.c C (by simp) (by simp)⟩, b, w, a', s, by rw [C.at 16 (by simp)]; exact K1, K2⟩
          obtain ⟨d1, d2⟩ := D.exp G C.f (by simp) X1 ⟨[], (List.append_nil _).symm⟩
          exact ⟨h3, rfl, d1, d2⟩
      have go : ∀ fw : Nat, fw = (if n = 23 then 1 else 0) → DR G c q0 h (m_E_append_23 G (c + 9) (nI n) a (nI fw) h) (if ¬ nI n < 0 ∧ ¬ 41 < nI n ∧ ((n = 23 ∨ n = 24 ∨ n = 29) → ¬ 20 < a ∧ ¬ a < 0) ∧ (n = 23 → a ≠ 0) then (if ws.length = 100 then ((-3 : Int32), ws) else (nI (ws.length + 1), ws ++ [(n, a)])) else (-1, ws)).1 vs T (if ¬ nI n < 0 ∧ ¬ 41 < nI n ∧ ((n = 23 ∨ n = 24 ∨ n = 29) → ¬ 20 < a ∧ ¬ a < 0) ∧ (n = 23 → a ≠ 0) then (if ws.length = 100 then ((-3 : Int32), ws) else (nI (ws.length + 1), ws ++ [(n, a)])) else (-1, ws)).2 bd g := fun fw hfw => by
        unfold m_E_append_23 m_E_append_42
        rw [hp_nmE, cl_many G hn h, bs]
        cases hm : mnB n with
        | false =>
          have nm : ¬ (n = 23 ∨ n = 24 ∨ n = 29) := by unfold mnB at hm; simp at hm; omega
          rw [if_pos (show bI false = 0 from rfl), if_pos ⟨o0, nlt, fun q => absurd q nm, fun q => absurd (Or.inl q) nm⟩]
          exact put ⟨n41, fun q => absurd q nm⟩
        | true =>
          have nm : n = 23 ∨ n = 24 ∨ n = 29 := by unfold mnB at hm; simp at hm; omega
          rw [if_neg (show ¬ bI true = 0 by decide)]
          by_cases a0 : a < nI fw
          · rw [if_pos a0, if_neg (fun q => by
              have q1 := (q.2.2.1 nm).2
              by_cases n23 : n = 23
              · have q2 := q.2.2.2 n23
                rw [hfw, if_pos n23] at a0
                obtain ⟨m, hmm, rfl⟩ := nI_of q1
                have : m = 0 := by
                  have := Nat.lt_of_not_le (fun z => nI_nlt (a := m) (b := 1) z hmm a0)
                  omega
                exact q2 (by rw [this]; rfl)
              · rw [hfw, if_neg n23] at a0
                exact q1 a0)]
            exact D.same G _
          · rw [if_neg a0]
            have a1 : ¬ a < 0 := fun z => a0 (by
              rw [Int32.lt_iff_toInt_lt] at z ⊢
              have : (nI fw).toInt = fw := nI_toInt (by rw [hfw]; split <;> omega)
              have z0 : (0 : Int32).toInt = 0 := rfl
              omega)
            obtain ⟨m, hmm, rfl⟩ := nI_of a1
            by_cases a20 : nI m ≤ 20
            · have m20 : m ≤ 20 := Nat.le_of_not_lt (fun q => nI_ge (a := 20) (b := m) q hmm a20)
              have m1 : n = 23 → 1 ≤ m := fun n23 => Nat.le_of_not_lt (fun q => a0 (by rw [hfw, if_pos n23]; exact nI_lt (b := 1) q (by decide)))
              rw [if_pos a20, if_pos ⟨o0, nlt, fun _ => ⟨nI_nlt (a := 20) (b := m) m20 (by decide), a1⟩, fun n23 z => by
                have := m1 n23
                exact nI_ne0 (show 0 < m by omega) hmm z⟩]
              exact put ⟨n41, fun _ => ⟨m, m20, rfl, m1⟩⟩
            · rw [if_neg a20, if_neg (fun q => (q.2.2.1 nm).1 (by
                rw [Int32.lt_iff_toInt_lt]
                rw [Int32.le_iff_toInt_le] at a20
                omega))]
              exact D.same G _
      by_cases n23 : n = 23
      · rw [if_pos n23]; exact go 1 (by rw [if_pos n23])
      · rw [if_neg n23]; exact go 0 (by rw [if_neg n23])
    · rw [if_neg o41, if_neg (fun q => q.2.1 (by rw [Int32.lt_iff_toInt_lt]; rw [Int32.le_iff_toInt_le] at o41; omega))]
      exact D.same G _
theorem cd_eval (D : CD G c q0 h vs T ws bd g) : ∃ h', m_E_evaluate G (c + 9) h = some ((runV vs bd ws).1, h') ∧ CD G c q0 h' (runV vs bd ws).2 T ws bd g ∧ rF23 c h h' := by
  obtain ⟨st, X⟩ := D.2.1
  have hs := D.S.2.2.2.2.2.2
  unfold m_E_evaluate runV
  have ir : m_E_isRight G (c + 9) h = some (bI (rtL ws 0), h) := by
    unfold m_E_isRight
    rw [hp_nmE, hp_nmE]
    have := cl_isRight_4 G hs (ln := 0) X.2.2.1 X.2.2.2.1 hp_fu 0 0 (by unfold hp_fu; have := X.2.2.2.1.1; omega) (by omega) (by omega)
    rw [List.drop_zero] at this
    exact this
  rw [D.ek, ir, bs]
  cases hr : rtL ws 0 with
  | false => rw [if_pos (show bI false = 0 from rfl), if_neg (show ¬ false = true by decide)]; exact ⟨h, rfl, D, fun _ _ => rfl⟩
  | true =>
    rw [if_neg (show ¬ bI true = 0 by decide), if_pos (show true = true from rfl), show hp_p h (c + 9) 5 8 (.int 0) = _ from X.top G 0, bs, hp_nmE]
    have C1 : chg c [9] h (stC h (c + 9) (.inl (5, eF c (nI ws.length) 0))) := chg_st (k := 9) _ (by simp)
    have T1 : (stC h (c + 9) (.inl (5, eF c (nI ws.length) 0))).1 (c + 9) = some (.inl (5, eF c (nI ws.length) 0)) := stC_s _ _ _
    generalize stC h (c + 9) (.inl (5, eF c (nI ws.length) 0)) = h1 at C1 T1
    obtain ⟨x1, x2, x3, ⟨x4, fo, fn, x5, x6, x7⟩, ⟨fb, x8, x9⟩, ⟨f, x10, x11⟩, x12, ⟨L, xR⟩, ⟨b, w, a, s, K1, K2⟩⟩ := X
    have X1 : XX G c q0 h1 vs ws bd [] := ⟨x1.c C1 (by simp), x2, T1, ⟨x4, fo, fn, by rw [C1.at 10 (by simp)]; exact x5, by rw [C1.at 11 (by simp)]; exact x6, x7⟩, ⟨fb, by rw [C1.at 12 (by simp)]; exact x8, x9⟩, ⟨f, by rw [C1.at 13 (by simp)]; exact x10, fun j ox hj => by cases hj⟩, by decide, ⟨L, xR.c C1 (by simp) (by simp)⟩, b, w, a, s, by rw [C1.at 16 (by simp)]; exact K1, K2⟩
    have key := cl_eval_16 G ws bd hp_fu 0 h1 vs [] (by unfold hp_fu; omega) (by omega) (by decide) X1 (by rw [List.drop_zero]; exact hr)
    rw [List.drop_zero] at key
    obtain ⟨h2, st2, k1, k2, k3⟩ := key
    have sub : ∃ l, (rnV bd ws [] vs).2 = vs ++ l := by
      have : ∀ (ws : List (Nat × Int32)) (st : List (Option vV)) (vs : List vV), ∃ l, (rnV bd ws st vs).2 = vs ++ l := by
        intro ws
        induction ws with
        | nil => intro st vs; exact ⟨[], (List.append_nil _).symm⟩
        | cons w r ih =>
          intro st vs
          have ds : ∃ l, (dnV vs bd w (st.take (tk w)).reverse).2 = vs ++ l := by
            unfold dnV
            have nil : ∃ l, vs = vs ++ l := ⟨[], (List.append_nil _).symm⟩
            split
            · exact nil
            · split
              · exact nil
              · split
                · exact kV_sub _ _
                · split
                  · exact kV_sub _ _
                  · split
                    · exact kV_sub _ _
                    · split
                      · exact nil
                      · split
                        · exact nil
                        · split
                          · exact kV_sub _ _
                          · split
                            · exact nil
                            · exact kV_sub _ _
          obtain ⟨l, hl⟩ := ds
          rw [rnV]
          cases (dnV vs bd w (st.take (tk w)).reverse).1 with
          | none => exact ⟨l, hl⟩
          | some ox =>
            obtain ⟨l2, h2⟩ := ih (ox :: st.drop (tk w)) (dnV vs bd w (st.take (tk w)).reverse).2
            exact ⟨l ++ l2, by rw [← List.append_assoc, ← hl]; exact h2⟩
      exact this ws [] vs
    obtain ⟨d1, d2⟩ := D.exp G (fr.tr (C1.f.mono (K' := [2, 3, 9, 13, 14, 15, 16]) (by simp)) k3) (by simp) k2 sub
    exact ⟨h2, k1, d1, d2⟩
theorem cd_run (D : CD G c q0 h vs T ws bd g) : DR G c q0 h (m_D_run G c h) (runV vs bd ws).1 (runV vs bd ws).2 T ws bd g := by
  obtain ⟨h', e1, e2, e3⟩ := cd_eval G D
  unfold m_D_run
  rw [D.g2, bs, D.ek, bq]
  exact ⟨h', e1, e2, e3⟩
theorem cd_test (D : CD G c q0 h vs T ws bd g) : DR G c q0 h (m_D_test G c h) (testV vs bd ws).1 (testV vs bd ws).2 T ws bd g := by
  obtain ⟨h', e1, e2, e3⟩ := cd_eval G D
  have v2 : (testV vs bd ws).2 = (runV vs bd ws).2 := by
    unfold testV runV
    split
    · split <;> rfl
    · rfl
  have v1 : (testV vs bd ws).1 = if (runV vs bd ws).1 ≤ 0 then (runV vs bd ws).1 else tI ((vAt (runV vs bd ws).2 (runV vs bd ws).1).bind truV) := by
    unfold testV runV
    cases hr : rtL ws 0 with
    | false => rw [if_neg (show ¬ false = true by decide), if_neg (show ¬ false = true by decide), if_pos (show (-1 : Int32) ≤ 0 by decide)]
    | true =>
      rw [if_pos (show true = true from rfl), if_pos (show true = true from rfl)]
      have O2 : vsO (rnV bd ws [] vs).2 := by
        have := e2.O
        unfold runV at this
        rw [hr, if_pos (show true = true from rfl)] at this
        exact this
      have rn := rn_O (bd := bd) ws [] vs 0 (fun w hw => by
        obtain ⟨st, X⟩ := D.2.1
        obtain ⟨-, fo, fn, -, -, x7⟩ := X.2.2.2.1
        obtain ⟨k, hk, ek⟩ := List.getElem_of_mem hw
        exact (x7 k w (by rw [List.getElem?_eq_getElem hk, ek])).2.2) rfl hr D.O (fun x hx => by cases hx)
      generalize rnV bd ws [] vs = R at *
      obtain ⟨r, vs'⟩ := R
      simp only [] at O2 rn ⊢
      cases r with
      | none => rw [if_pos (show rI vs' none ≤ 0 from (by decide : (-3 : Int32) ≤ 0))]; rfl
      | some ox =>
        cases ox with
        | none => rw [if_pos (show rI vs' (some none) ≤ 0 from (by decide : (-4 : Int32) ≤ 0))]; rfl
        | some x =>
          have mx := rn.2 x rfl
          have il : vs'.idxOf x ≤ vs'.length := List.idxOf_le_length
          have := O2.2.1
          rw [if_neg (show ¬ rI vs' (some (some x)) ≤ 0 from nI_nle (by omega) (by omega))]
          show tI ((some x).bind truV) = tI ((vAt vs' (nI (vs'.idxOf x + 1))).bind truV)
          rw [vAt_n vs' _ (by omega), idx_get mx]
  unfold m_D_test m_D_test_27
  rw [D.g2, bs, D.ek, e1, bs, hp_nmE, v1, v2]
  by_cases q : (runV vs bd ws).1 ≤ 0
  · rw [if_pos q, if_pos q]; exact ⟨h', rfl, e2, e3⟩
  · rw [if_neg q, if_neg q, e2.g0, bs, e2.sk]
    obtain ⟨p, p1, p2⟩ := cl_at G e2.S e2.O.2.1 (runV vs bd ws).1
    rw [p1, bs, p2.k]
    cases z : vAt (runV vs bd ws).2 (runV vs bd ws).1 with
    | none =>
      rw [z] at p2
      rw [cl_truthOf G p2 vD_W (fun q => absurd q (by decide)), bs]
      exact ⟨h', rfl, e2, e3⟩
    | some x =>
      rw [z] at p2
      obtain ⟨ox, lx, wx, -⟩ := kd_0 G e2 z
      have p2 : VP c h' p x := p2
      rw [cl_truthOf G p2 wx ox.2.2.2.2.2.1, bs]
      exact ⟨h', rfl, e2, e3⟩
theorem cd_gather (D : CD G c q0 h vs T ws bd g) (w : Int32) (e : Bool) (t : Int32) : DR G c q0 h (m_D_gather G c w (bI e) t h) (gaV vs g w e t).1 vs T ws bd (gaV vs g w e t).2 := by
  obtain ⟨d1, ⟨st, d2⟩, ⟨d3, d4, d5⟩, d6⟩ := id D
  obtain ⟨h', e1, e2, e3⟩ := cl_restart G d6 w e t
  unfold m_D_gather
  rw [D.g3, bs, D.gk, bq]
  exact ⟨h', e1, ⟨fr.d e3.f (by simp) d1, ⟨st, fr.x G e3.f (by simp) d2 e2.1 e2.2.1 ⟨[], (List.append_nil _).symm⟩⟩, ⟨d3.c e3 (by simp) (by simp), d4, d5⟩, e2⟩, e3.f.r (by simp)⟩
theorem cd_add (D : CD G c q0 h vs T ws bd g) (v : Int32) : DR G c q0 h (m_D_add G c v h) (addV vs g v).1 vs T ws bd (addV vs g v).2 := by
  obtain ⟨d1, ⟨st, d2⟩, ⟨d3, d4, d5⟩, d6⟩ := id D
  obtain ⟨h', e1, e2, e3⟩ := cl_take G d6 v
  unfold m_D_add
  rw [D.g3, bs, D.gk, bq]
  exact ⟨h', e1, ⟨fr.d e3.f (by simp) d1, ⟨st, fr.x G e3.f (by simp) d2 e2.1 e2.2.1 ⟨[], (List.append_nil _).symm⟩⟩, ⟨d3.c e3 (by simp) (by simp), d4, d5⟩, e2⟩, e3.f.r (by simp)⟩
end
