/-! THE CLASS: the desk -/
def dF (c : Nat) : List Value := [.ref (c + 1), .ref (c + 7), .ref (c + 9), .ref (c + 17)]
def CD (G : Nat → Nat) (c q0 : Nat) (h : hp_H) (vs : List vV) (T : List Nat) (ws : List (Nat × Int32)) (bd : Nat → Nat) (g : gG) : Prop := h.1 c = some (.inl (0, dF c)) ∧ (∃ st, XX G c q0 h vs ws bd st) ∧ (RR h (c + 7) T ∧ T.length ≤ 64 ∧ ∀ b ∈ T, b < 256) ∧ GG G c q0 h vs g
/-- below the reference's cells and the constants nothing else changes -/
def rF23 (c : Nat) (h h' : hp_H) : Prop := ∀ a, a < c ∨ c + 23 ≤ a ∧ a < c + 44 → h'.1 a = h.1 a
theorem fr.r {c : Nat} {K : List Nat} {h h' : hp_H} (p : fr c K h h') (hK : ∀ k ∈ K, k < 23) : rF23 c h h' := fun a ha => p a (by omega) (fun k hk => by have := hK k hk; omega)
section
variable (G : Nat → Nat) {c q0 : Nat} {h h' : hp_H} {vs vs' : List vV} {T : List Nat} {ws : List (Nat × Int32)} {bd : Nat → Nat} {g : gG}
theorem fr.gg {K : List Nat} (p : fr c K h h') (hK : ∀ k ∈ K, ¬ (17 ≤ k ∧ k ≤ 22)) (X : GG G c q0 h vs g) (S : ST G c q0 h' vs') (O : vsO vs') (hv : ∃ l, vs' = vs ++ l) : GG G c q0 h' vs' g := by
  obtain ⟨x1, x2, x3, x4, x5, x6, ⟨f, x7, x8⟩, ⟨f2, x9⟩, ⟨L, xR⟩, ⟨b, w, a, s, K1, K2⟩⟩ := X
  obtain ⟨l, rfl⟩ := hv
  have at_ : ∀ k, 17 ≤ k → k ≤ 22 → h'.1 (c + k) = h.1 (c + k) := fun k k1 k2 => p.at k (by omega) (fun z => hK k z ⟨k1, k2⟩)
  refine ⟨S, O, by rw [at_ 17 (by omega) (by omega)]; exact x3, x4, x5, fun e => ?_, ⟨f, by rw [at_ 18 (by omega) (by omega)]; exact x7, fun k n hk => ⟨(x8 k n hk).1, by have := (x8 k n hk).2; rw [List.length_append]; omega⟩⟩, ⟨f2, by rw [at_ 19 (by omega) (by omega)]; exact x9⟩, ⟨L, xR.e (at_ 20 (by omega) (by omega)) (at_ 21 (by omega) (by omega))⟩, b, w, a, s, by rw [at_ 22 (by omega) (by omega)]; exact K1, K2⟩
  obtain ⟨t, t1, t2⟩ := x6 e
  exact ⟨t, vAt_app t1 l, t2⟩
theorem fr.x {K : List Nat} (p : fr c K h h') (hK : ∀ k ∈ K, ¬ (9 ≤ k ∧ k ≤ 16)) {st : List (Option vV)} (X : XX G c q0 h vs ws bd st) (S : ST G c q0 h' vs') (O : vsO vs') (hv : ∃ l, vs' = vs ++ l) : XX G c q0 h' vs' ws bd st := by
  obtain ⟨x1, x2, x3, ⟨x4, fo, fn, x5, x6, x7⟩, ⟨fb, x8, x9⟩, ⟨f, x10, x11⟩, x12, ⟨L, xR⟩, ⟨b, w, a, s, K1, K2⟩⟩ := X
  obtain ⟨l, rfl⟩ := hv
  have at_ : ∀ k, 9 ≤ k → k ≤ 16 → h'.1 (c + k) = h.1 (c + k) := fun k k1 k2 => p.at k (by omega) (fun z => hK k z ⟨k1, k2⟩)
  exact ⟨S, O, by rw [at_ 9 (by omega) (by omega)]; exact x3, ⟨x4, fo, fn, by rw [at_ 10 (by omega) (by omega)]; exact x5, by rw [at_ 11 (by omega) (by omega)]; exact x6, x7⟩, ⟨fb, by rw [at_ 12 (by omega) (by omega)]; exact x8, fun k hk => ⟨(x9 k hk).1, by have := (x9 k hk).2; rw [List.length_append]; omega⟩⟩, ⟨f, by rw [at_ 13 (by omega) (by omega)]; exact x10, fun j ox hj => (x11 j ox hj).mono l⟩, x12, ⟨L, xR.e (at_ 14 (by omega) (by omega)) (at_ 15 (by omega) (by omega))⟩, b, w, a, s, by rw [at_ 16 (by omega) (by omega)]; exact K1, K2⟩
theorem fr.d {K : List Nat} (p : fr c K h h') (hK : 0 ∉ K) (e : h.1 c = some (.inl (0, dF c))) : h'.1 c = some (.inl (0, dF c)) := by
  rw [p c (by omega) (fun k hk z => hK (by have e2 : k = 0 := (by omega); rw [← e2]; exact hk))]; exact e
/-- what a method of the desk does -/
def DR (G : Nat → Nat) (c q0 : Nat) {α : Type} (h : hp_H) (m : Option (α × hp_H)) (r : α) (vs : List vV) (T : List Nat) (ws : List (Nat × Int32)) (bd : Nat → Nat) (g : gG) : Prop := ∃ h', m = some (r, h') ∧ CD G c q0 h' vs T ws bd g ∧ rF23 c h h'
theorem CD.S (D : CD G c q0 h vs T ws bd g) : ST G c q0 h vs := D.2.2.2.1
theorem CD.O (D : CD G c q0 h vs T ws bd g) : vsO vs := D.2.2.2.2.1
theorem CD.g0 (D : CD G c q0 h vs T ws bd g) : hp_gR h c 0 0 = some (c + 1) := gR_e D.1 rfl
theorem CD.g1 (D : CD G c q0 h vs T ws bd g) : hp_gR h c 0 1 = some (c + 7) := gR_e D.1 rfl
theorem CD.g2 (D : CD G c q0 h vs T ws bd g) : hp_gR h c 0 2 = some (c + 9) := gR_e D.1 rfl
theorem CD.g3 (D : CD G c q0 h vs T ws bd g) : hp_gR h c 0 3 = some (c + 17) := gR_e D.1 rfl
theorem CD.sk (D : CD G c q0 h vs T ws bd g) {β : Type} (Y : Option β) : hp_vck h (c + 1) 1 Y = Y := vck_e D.S.2.1 Y
theorem CD.ek (D : CD G c q0 h vs T ws bd g) {β : Type} (Y : Option β) : hp_vck h (c + 9) 5 Y = Y := by
  obtain ⟨st, X⟩ := D.2.1
  exact vck_e X.2.2.1 Y
theorem CD.gk (D : CD G c q0 h vs T ws bd g) {β : Type} (Y : Option β) : hp_vck h (c + 17) 7 Y = Y := D.2.2.2.k G Y
theorem CD.tk (D : CD G c q0 h vs T ws bd g) {β : Type} (Y : Option β) : hp_vck h (c + 7) 4 Y = Y := vck_e D.2.2.1.1.1 Y
theorem CD.same (D : CD G c q0 h vs T ws bd g) {α : Type} (a : α) : DR G c q0 h (some (a, h)) a vs T ws bd g := ⟨h, rfl, D, fun _ _ => rfl⟩
theorem CD.st (D : CD G c q0 h vs T ws bd g) (S : ST G c q0 h' vs') (O : vsO vs') (hv : ∃ l, vs' = vs ++ l) (F : fr c [2, 3] h h') : CD G c q0 h' vs' T ws bd g := by
  obtain ⟨d1, ⟨st, d2⟩, ⟨d3, d4, d5⟩, d6⟩ := D
  exact ⟨fr.d F (by simp) d1, ⟨st, fr.x G F (by simp) d2 S O hv⟩, ⟨d3.f F (by decide) (by simp) (by simp), d4, d5⟩, fr.gg G F (by simp) d6 S O hv⟩
theorem kq_O {ox : Option vV} (O : vsO vs) (hx : ∀ x, ox = some x → vO x) : vsO (kq vs ox).2 ∧ ∃ l, (kq vs ox).2 = vs ++ l := by
  rw [kq_kV]
  exact ⟨kV_O O hx, kV_sub vs ox⟩
theorem CD.kq (D : CD G c q0 h vs T ws bd g) {m : Option (Int32 × hp_H)} {ox : Option vV} (q : CK G c q0 [2, 3] h m (kq vs ox)) (hx : ∀ x, ox = some x → vO x) : DR G c q0 h m (kq vs ox).1 (kq vs ox).2 T ws bd g := by
  obtain ⟨h', e1, e2, e3⟩ := q
  obtain ⟨o1, o2⟩ := kq_O D.O hx
  exact ⟨h', e1, D.st G e2 o1 o2 e3, e3.r (by simp)⟩
theorem cl_inSize (x : Int64) (h : hp_H) : m_D_isInSize G x h = some (bI (decide (x.toInt.natAbs < 10 ^ 18)), h) := by
  unfold m_D_isInSize m_D_isInSize_20 m_D_isInSize_21
  have t : (10 : Nat) ^ 18 = 1000000000000000000 := rfl
  have c1 : lg_cmp x (-1000000000000000000) ≤ 0 ↔ x.toInt ≤ -1000000000000000000 := by
    rw [lgc_le, Int64.le_iff_toInt_le]; exact Iff.rfl
  have c2 : 0 ≤ lg_cmp x 1000000000000000000 ↔ 1000000000000000000 ≤ x.toInt := by
    rw [lgc_ge, Int64.le_iff_toInt_le]; exact Iff.rfl
  by_cases a : x.toInt ≤ -1000000000000000000
  · rw [if_pos (c1.mpr a), decide_eq_false (by rw [t]; omega)]; rfl
  · rw [if_neg (fun z => a (c1.mp z))]
    by_cases b : 1000000000000000000 ≤ x.toInt
    · rw [if_pos (c2.mpr b), decide_eq_false (by rw [t]; omega)]; rfl
    · rw [if_neg (fun z => b (c2.mp z)), decide_eq_true (by rw [t]; omega)]; rfl
theorem cd_whole (D : CD G c q0 h vs T ws bd g) (v : Int64) : DR G c q0 h (m_D_whole G c v h) (wholeV vs v).1 (wholeV vs v).2 T ws bd g := by
  unfold m_D_whole m_D_whole_21 wholeV
  rw [cl_inSize, bs]
  by_cases q : v.toInt.natAbs < 10 ^ 18
  · rw [decide_eq_true q, if_neg (show ¬ bI true = 0 by decide), if_pos q, D.g0, bs, D.sk, bq]
    have n := nm_x (kd := 3) (Or.inl rfl) (a := v.toInt) (s := 0) q (by decide) (Or.inl rfl)
    have n : nmI (v.toInt * 10 ^ 9) true = some (3, 0, v.toInt, 0, []) := n
    have k := cl_keepNumber G D.S D.O 3 v.toInt 0 ⟨by show 3 ≤ 8; decide, by show 0 ≤ 9999; decide, q, by show 0 ≤ 9; decide, by show 0 ≤ 64; decide, fun b hb => by cases hb⟩
    rw [jL_of] at k
    refine D.kq G ?_ (fun x hx => vO_nmI hx (fun _ => ⟨_, rfl⟩))
    rw [n]
    exact k
  · rw [decide_eq_false q, if_pos (show bI false = 0 from rfl), if_neg q]
    exact D.same G _
theorem dec_step {v : Int} (hz : v.tmod 10 = 0) : v.natAbs % 10 = 0 ∧ (v.tdiv 10).natAbs = v.natAbs / 10 ∧ (v.tdiv 10).sign = v.sign ∨ v = 0 := by
  have h1 := Int.natAbs_tmod v 10
  have h2 := Int.natAbs_tdiv v 10
  have h3 := Int.mul_tdiv_add_tmod v 10
  rw [hz] at h1 h3
  by_cases v0 : v = 0
  · exact Or.inr v0
  · left
    have e : (10 : Int).natAbs = 10 := rfl
    rw [e] at h1 h2
    refine ⟨by rw [← h1]; rfl, h2, ?_⟩
    rcases Int.lt_trichotomy v 0 with q | q | q
    · rw [Int.sign_eq_neg_one_of_neg q, Int.sign_eq_neg_one_of_neg (by omega)]
    · exact absurd q v0
    · rw [Int.sign_eq_one_of_pos q, Int.sign_eq_one_of_pos (by omega)]
theorem cd_decimal_25 (D : CD G c q0 h vs T ws bd g) (T0 : Int) : ∀ (n s : Nat) (v : Int), s < n → s ≤ 9 → v.natAbs < 10 ^ 18 → T0 = v * 10 ^ (9 - s) → CK G c q0 [2, 3] h (m_D_decimal_25 G n c (jL v) (nI s) h) (kq vs (nmI T0 false))
  | 0, s, v, hn, _, _, _ => by omega
  | n + 1, s, v, hn, hs, hv, hT => by
    have fin : (s = 0 ∨ v.natAbs % 10 ≠ 0) → CK G c q0 [2, 3] h (m_D_decimal_55 G c (jL v) (nI s) h) (kq vs (nmI T0 false)) := fun hz => by
      unfold m_D_decimal_55
      rw [D.g0, bs, D.sk, bq, hT]
      have n : nmI (v * 10 ^ (9 - s)) false = some (4, 0, v, s, []) := nm_x (kd := 4) (Or.inr rfl) hv hs hz
      rw [n]
      exact cl_keepNumber G D.S D.O 4 v s ⟨by show 4 ≤ 8; decide, by show 0 ≤ 9999; decide, hv, hs, by show 0 ≤ 64; decide, fun b hb => by cases hb⟩
    rw [m_D_decimal_25]
    by_cases s0 : s = 0
    · rw [if_pos (show nI s ≤ 0 by rw [s0]; decide)]
      exact fin (Or.inl s0)
    · have iv : iM v := by unfold iM; omega
      have iq : iL (v.tmod 10) := (td_b (a := v) (b := 10) iv ⟨by decide, by decide⟩).2.2.2.1
      rw [if_neg (nI_nle (by omega) (by omega)), show (10 : Int64) = jL 10 from rfl, hp_mL_j iv.L (by unfold iL; omega) (by decide) (by decide), bs]
      have c0 : lg_cmp (jL (v.tmod 10)) 0 = 0 ↔ v.tmod 10 = 0 := by rw [lgc_eq, ← jL_0, jL_eq iq iL_0]
      by_cases z : v.tmod 10 = 0
      · rw [if_pos (c0.mpr z), hp_dL_j iv.L (by unfold iL; omega) (by decide) (by decide), bs, hp_nmE, hp_nmE]
        have em : nI s + -1 = nI (s - 1) := by
          obtain ⟨y, rfl⟩ : ∃ y, s = y + 1 := ⟨s - 1, by omega⟩
          exact pk_m1 y
        rw [em]
        have h3 := Int.mul_tdiv_add_tmod v 10
        rw [z, Int.add_zero] at h3
        refine cd_decimal_25 D T0 n (s - 1) (v.tdiv 10) (by omega) (by omega) ?_ ?_
        · have := Int.natAbs_tdiv v 10
          have e : (10 : Int).natAbs = 10 := rfl
          rw [e] at this
          rw [this]
          exact Nat.lt_of_le_of_lt (Nat.div_le_self _ _) hv
        · rw [hT, show 9 - (s - 1) = (9 - s) + 1 by omega, Int.pow_succ, Int.mul_comm (10 ^ (9 - s)) 10, ← Int.mul_assoc, Int.mul_comm (v.tdiv 10) 10, h3]
      · rw [if_neg (fun q => z (c0.mp q))]
        refine fin (Or.inr (fun q => z ?_))
        have h1 := Int.natAbs_tmod v 10
        have e : (10 : Int).natAbs = 10 := rfl
        rw [e, q] at h1
        exact Int.natAbs_eq_zero.mp h1
theorem cd_decimal (D : CD G c q0 h vs T ws bd g) (v : Int64) (p : Int32) : DR G c q0 h (m_D_decimal G c v p h) (decV vs v p).1 (decV vs v p).2 T ws bd g := by
  unfold m_D_decimal m_D_decimal_17 decV
  by_cases p0 : p < 0
  · rw [if_pos p0, if_neg (fun q => q.2.1 p0)]; exact D.same G _
  · obtain ⟨s, hs, rfl⟩ := nI_of p0
    rw [if_neg p0, show (9 : Int32) = nI 9 from rfl]
    simp only [nI_ltI (show 9 < 2 ^ 31 by decide) hs, nI_leI hs (show 9 < 2 ^ 31 by decide)]
    by_cases p9 : 9 < s
    · rw [if_pos p9, if_neg (fun q => by omega)]; exact D.same G _
    · rw [if_neg p9, cl_inSize, bs]
      by_cases q : v.toInt.natAbs < 10 ^ 18
      · rw [decide_eq_true q, if_neg (show ¬ bI true = 0 by decide), if_pos ⟨q, p0, by omega⟩, hp_nmE, hp_nmE, nI_clamp hs]
        have k := cd_decimal_25 G D (v.toInt * 10 ^ (9 - s)) hp_fu s v.toInt (by unfold hp_fu; clear q; omega) (by omega) q rfl
        rw [jL_of] at k
        exact D.kq G k (fun x hx => vO_nmI hx (fun z => by cases z))
      · rw [decide_eq_false q, if_pos (show bI false = 0 from rfl), if_neg (fun z => q z.1)]; exact D.same G _
theorem cd_truth (D : CD G c q0 h vs T ws bd g) (w : Bool) : DR G c q0 h (m_D_truth G c (bI w) h) (kp vs (trV w)).1 (kp vs (trV w)).2 T ws bd g := by
  unfold m_D_truth
  rw [D.g0, bs, D.sk, bq]
  exact D.kq G (ox := some (trV w)) (cl_keepTruth G D.S D.O w) (fun x hx => by cases hx; exact vO_tr w)
theorem vO_named {k e : Nat} (hk : k = 1 ∨ k = 2) (he : e ≤ 9999) : vO (k, e, 0, 0, []) := by
  refine ⟨?_, ?_, he, fun q => ?_, fun _ _ => ⟨rfl, rfl⟩, fun q => ?_, fun _ => rfl, fun q => ?_, fun q => ?_, fun b hb => by cases hb⟩
  · show 1 ≤ k; omega
  · show k ≤ 8; omega
  · have q : k = 3 ∨ k = 4 := q
    omega
  · have q : k = 8 := q
    omega
  · have q : k = 5 := q
    omega
  · have q : k = 6 ∨ k = 7 := q
    omega
theorem cd_named (D : CD G c q0 h vs T ws bd g) (k e : Int32) : DR G c q0 h (m_D_named G c k e h) (namedV vs k e).1 (namedV vs k e).2 T ws bd g := by
  unfold m_D_named m_D_named_10 m_D_named_21 namedV
  have go : ∀ kn : Nat, (kn = 1 ∨ kn = 2) → k = nI kn → DR G c q0 h (if e < 0 then some (-1, h) else if e ≤ 9999 then ((hp_gR h c 0 0).bind fun x1 => (hp_vck h x1 1 (m_S_keepNumbered G x1 k e h)).bind fun q2 => some (q2.1, q2.2)) else some (-1, h)) (if (k = 1 ∨ k = 2) ∧ ¬ e < 0 ∧ e ≤ 9999 then kp vs (k.toNatClampNeg, e.toNatClampNeg, 0, 0, []) else (-1, vs)).1 (if (k = 1 ∨ k = 2) ∧ ¬ e < 0 ∧ e ≤ 9999 then kp vs (k.toNatClampNeg, e.toNatClampNeg, 0, 0, []) else (-1, vs)).2 T ws bd g := fun kn hkn ek => by
    have ok : k = 1 ∨ k = 2 := by rcases hkn with q | q <;> rw [ek, q]; exact Or.inl rfl; exact Or.inr rfl
    by_cases e0 : e < 0
    · rw [if_pos e0, if_neg (fun q => q.2.1 e0)]; exact D.same G _
    · rw [if_neg e0]
      by_cases e9 : e ≤ 9999
      · obtain ⟨en, hen, rfl⟩ := nI_of e0
        have en9 : en ≤ 9999 := Nat.le_of_not_lt (fun q => by have := nI_ge (a := 9999) (b := en) q hen; exact this e9)
        rw [if_pos e9, if_pos ⟨ok, e0, e9⟩, D.g0, bs, D.sk, bq, ek, nI_clamp (show kn < 2 ^ 31 by omega), nI_clamp hen]
        exact D.kq G (ox := some (kn, en, 0, 0, [])) (cl_keepNumbered G D.S D.O kn en ⟨by show kn ≤ 8; omega, en9, by show (0 : Int).natAbs < _; decide, by show 0 ≤ 9; decide, by show 0 ≤ 64; decide, fun b hb => by cases hb⟩) (fun x hx => by cases hx; exact vO_named hkn en9)
      · rw [if_neg e9, if_neg (fun q => e9 q.2.2)]; exact D.same G _
  by_cases k1 : k = 1
  · rw [if_pos k1]; exact go 1 (Or.inl rfl) k1
  · rw [if_neg k1]
    by_cases k2 : k = 2
    · rw [if_pos k2]; exact go 2 (Or.inr rfl) k2
    · rw [if_neg k2, if_neg (fun q => by rcases q.1 with z | z; exact k1 z; exact k2 z)]; exact D.same G _
theorem cd_values (D : CD G c q0 h vs T ws bd g) : DR G c q0 h (m_D_values G c h) (nI vs.length) vs T ws bd g := by
  unfold m_D_values
  rw [D.g0, bs, D.sk, cl_count G D.S, bs]
  exact D.same G _
theorem kd_0 (D : CD G c q0 h vs T ws bd g) {a : Int32} {x : vV} (z : vAt vs a = some x) : vO x ∧ x.2.2.2.2.length ≤ 64 ∧ vW x ∧ ¬ nI x.1 = 0 := by
  obtain ⟨i, -, hx⟩ := vAt_some z
  have q := D.O.2.2 x (List.mem_of_getElem? hx)
  have o1 := q.1.1
  have o2 := q.1.2.1
  exact ⟨q.1, q.2, q.1.W q.2, nI_ne0 (by omega) (by omega)⟩
theorem cd_told (D : CD G c q0 h vs T ws bd g) (a w : Int32) : DR G c q0 h (m_D_told G c a w h) (toldV vs a w) vs T ws bd g := by
  obtain ⟨p, p1, p2⟩ := cl_at G D.S D.O.2.1 a
  obtain ⟨b, b1, b2, b3⟩ := p2.g4
  unfold m_D_told toldV
  rw [D.g0, bs, D.sk, p1, bs, hp_nmE, p2.g0, bs, bs, p2.g1, bs, p2.g3, bs, b1, bs, b2.l, bs]
  cases z : vAt vs a with
  | none => rw [if_pos (show nI ((none : Option vV).getD vD).1 = 0 from rfl)]; exact D.same G _
  | some x =>
    rw [if_neg (show ¬ nI ((some x).getD vD).1 = 0 from (kd_0 G D z).2.2.2)]
    show DR G c q0 h _ (if w = 0 then nI x.1 else if w = 1 then nI x.2.1 else if w = 2 then nI x.2.2.2.1 else if w = 3 then nI x.2.2.2.2.length else -1) vs T ws bd g
    by_cases w0 : w = 0
    · rw [if_pos w0, if_pos w0]; exact D.same G _
    · rw [if_neg w0, if_neg w0]
      by_cases w1 : w = 1
      · rw [if_pos w1, if_pos w1]; exact D.same G _
      · rw [if_neg w1, if_neg w1]
        by_cases w2 : w = 2
        · rw [if_pos w2, if_pos w2]; exact D.same G _
        · rw [if_neg w2, if_neg w2]
          by_cases w3 : w = 3
          · rw [if_pos w3, if_pos w3]; exact D.same G _
          · rw [if_neg w3, if_neg w3]; exact D.same G _
theorem cd_amount (D : CD G c q0 h vs T ws bd g) (a : Int32) : DR G c q0 h (m_D_amount G c a h) (amtV vs a) vs T ws bd g := by
  obtain ⟨p, p1, p2⟩ := cl_at G D.S D.O.2.1 a
  unfold m_D_amount amtV
  rw [D.g0, bs, D.sk, p1, bs, p2.g2, bs]
  cases z : vAt vs a with
  | none => exact D.same G _
  | some x => exact D.same G _
theorem cd_byteOf (D : CD G c q0 h vs T ws bd g) (a i : Int32) : DR G c q0 h (m_D_byteOf G c a i h) (byteV vs a i) vs T ws bd g := by
  obtain ⟨p, p1, p2⟩ := cl_at G D.S D.O.2.1 a
  obtain ⟨b, b1, b2, b3⟩ := p2.g4
  unfold m_D_byteOf m_D_byteOf_28 m_D_byteOf_29 byteV
  rw [D.g0, bs, D.sk, p1, bs, b1, bs, hp_nmE, b2.l, bs]
  cases z : vAt vs a with
  | none =>
    show DR G c q0 h (if i < 0 then some (-1, h) else if nI ([] : List Nat).length ≤ i then some (-1, h) else _) (-1) vs T ws bd g
    by_cases i0 : i < 0
    · rw [if_pos i0]; exact D.same G _
    · rw [if_neg i0, if_pos (show nI ([] : List Nat).length ≤ i by show (0 : Int32) ≤ i; exact not_lt0 i0)]; exact D.same G _
  | some x =>
    rw [z] at b2
    have b2 : BA h b x.2.2.2.2 := b2
    obtain ⟨ox, lx, wx, -⟩ := kd_0 G D z
    show DR G c q0 h (if i < 0 then some (-1, h) else if nI x.2.2.2.2.length ≤ i then some (-1, h) else (hp_aI h .byte b i).bind fun x6 => some (x6, h)) (if i < 0 then -1 else if nI x.2.2.2.2.length ≤ i then -1 else nI (x.2.2.2.2.getD i.toNatClampNeg 0)) vs T ws bd g
    by_cases i0 : i < 0
    · rw [if_pos i0, if_pos i0]; exact D.same G _
    · obtain ⟨n, hn, rfl⟩ := nI_of i0
      rw [if_neg i0, if_neg i0, nI_clamp hn]
      by_cases l : nI x.2.2.2.2.length ≤ nI n
      · rw [if_pos l, if_pos l]; exact D.same G _
      · have nl : n < x.2.2.2.2.length := Nat.lt_of_not_le (fun q => l (nI_le q hn))
        rw [if_neg l, if_neg l, b2.a nl lx, bs]; exact D.same G _
theorem cd_order (D : CD G c q0 h vs T ws bd g) (a b : Int32) : DR G c q0 h (m_D_order G c a b h) (orderV vs a b) vs T ws bd g := by
  obtain ⟨p, p1, p2⟩ := cl_at G D.S D.O.2.1 a
  obtain ⟨r, r1, r2⟩ := cl_at G D.S D.O.2.1 b
  unfold m_D_order m_D_order_34 orderV
  rw [D.g0, bs, D.sk, p1, bs, hp_nmE, D.g0, bs, D.sk, r1, bs, hp_nmE, p2.g0, bs, r2.g0, bs]
  cases z : vAt vs a with
  | none => rw [if_pos (show nI ((none : Option vV).getD vD).1 = 0 from rfl)]; exact D.same G _
  | some x =>
    rw [if_neg (show ¬ nI ((some x).getD vD).1 = 0 from (kd_0 G D z).2.2.2)]
    cases y : vAt vs b with
    | none => rw [if_pos (show nI ((none : Option vV).getD vD).1 = 0 from rfl)]; exact D.same G _
    | some w =>
      rw [if_neg (show ¬ nI ((some w).getD vD).1 = 0 from (kd_0 G D y).2.2.2)]
      rw [z] at p2
      rw [y] at r2
      have p2 : VP c h p x := p2
      have r2 : VP c h r w := r2
      obtain ⟨ox, lx, -, -⟩ := kd_0 G D z
      obtain ⟨ow, lw, -, -⟩ := kd_0 G D y
      rw [p2.k, cl_comparedTo G D.S.2.2.2.2.2.2 p2 r2 ox ow lx lw, bs]
      exact D.same G _
end
