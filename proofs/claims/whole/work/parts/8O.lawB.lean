/-! THE LAW'S LOOP -/
/-- what holds between two steps: at b the script; c the class's first cell; the reference's cells behind the class's -/
def LI (G : Nat → Nat) (c q0 b N : Nat) (f : Nat → Int32) (H : hp_H) (S : lm_S) (vs : List vV) (T : List Nat) (ws : List (Nat × Int32)) (bd : Nat → Nat) (g : gG) : Prop := H = lm_w (c + 23) H S ∧ CD G c q0 H vs T ws bd g ∧ RD S vs T ws bd g ∧ b < c ∧ ∃ w, H.1 b = some (.inr (w, .int, N, .inl f))
theorem lm_lo (o : Nat) (h : hp_H) (S : lm_S) {a : Nat} (ha : a < o) : (lm_w o h S).1 a = h.1 a := by
  show (if a = o then _ else if o < a ∧ a ≤ o + 20 then _ else h.1 a) = h.1 a
  rw [if_neg (by omega), if_neg (by omega)]
theorem lm_hi (o : Nat) (h : hp_H) (S : lm_S) {a : Nat} (ha : o + 20 < a) : (lm_w o h S).1 a = h.1 a := by
  show (if a = o then _ else if o < a ∧ a ≤ o + 20 then _ else h.1 a) = h.1 a
  rw [if_neg (by omega), if_neg (by omega)]
theorem lm_is {o : Nat} {h : hp_H} {S : lm_S} (e : ∀ a, o ≤ a → a ≤ o + 20 → h.1 a = (lm_w o h S).1 a) : h = lm_w o h S := by
  refine Prod.ext ?_ rfl
  funext a
  by_cases q : o ≤ a ∧ a ≤ o + 20
  · exact e a q.1 q.2
  · by_cases z : a < o
    · exact (lm_lo o h S z).symm
    · exact (lm_hi o h S (by omega)).symm
theorem lm_in (o : Nat) (h h' : hp_H) (S : lm_S) {a : Nat} (h1 : o ≤ a) (h2 : a ≤ o + 20) : (lm_w o h S).1 a = (lm_w o h' S).1 a := by
  show (if a = o then _ else if o < a ∧ a ≤ o + 20 then _ else h.1 a) = (if a = o then _ else if o < a ∧ a ≤ o + 20 then _ else h'.1 a)
  by_cases e : a = o
  · rw [if_pos e, if_pos e]
  · rw [if_neg e, if_neg e, if_pos (by omega), if_pos (by omega)]
def K44 : List Nat := [23, 24, 25, 26, 27, 28, 29, 30, 31, 32, 33, 34, 35, 36, 37, 38, 39, 40, 41, 42, 43]
theorem K44_m {k : Nat} (h1 : 23 ≤ k) (h2 : k < 44) : k ∈ K44 := by
  have : ∀ k, k < 44 → 23 ≤ k → k ∈ K44 := by decide
  exact this k h2 h1
theorem K44_r : ∀ k ∈ K44, 23 ≤ k ∧ k < 44 := by decide
theorem CD.ref {G : Nat → Nat} {c q0 : Nat} {H : hp_H} {vs : List vV} {T : List Nat} {ws : List (Nat × Int32)} {bd : Nat → Nat} {g : gG} (D : CD G c q0 H vs T ws bd g) (S : lm_S) : CD G c q0 (lm_w (c + 23) H S) vs T ws bd g := by
  have C : chg c K44 H (lm_w (c + 23) H S) := ⟨rfl, fun a ha => by
    by_cases q : a < c + 23
    · exact lm_lo _ _ _ q
    · by_cases z : c + 43 < a
      · exact lm_hi _ _ _ (by omega)
      · exact absurd (show a = c + (a - c) by omega) (ha (a - c) (K44_m (by omega) (by omega)))⟩
  obtain ⟨d1, ⟨st, d2⟩, ⟨d3, d4, d5⟩, d6⟩ := D
  have r := K44_r
  have nm : ∀ k, k < 23 → k ∉ K44 := fun k hk z => by have := r k z; omega
  have Sn := d6.1.c C (fun k hk => by have := r k hk; omega)
  exact ⟨fr.d C.f (nm 0 (by omega)) d1, ⟨st, fr.x G C.f (fun k hk => by have := r k hk; omega) d2 Sn d6.2.1 (nil_sub _)⟩, ⟨d3.c C (nm 7 (by omega)) (nm 8 (by omega)), d4, d5⟩, fr.gg G C.f (fun k hk => by have := r k hk; omega) d6 Sn d6.2.1 (nil_sub _)⟩
section
variable {G : Nat → Nat} {c q0 b N : Nat} {f : Nat → Int32} {H : hp_H} {S : lm_S} {vs vs' : List vV} {T T' : List Nat} {ws ws' : List (Nat × Int32)} {bd bd' : Nat → Nat} {g g' : gG}
/-- after the class's method -/
theorem LI.one {α : Type} {m : Option (α × hp_H)} {r : α} (I : LI G c q0 b N f H S vs T ws bd g) (q : DR G c q0 H m r vs' T' ws' bd' g') : ∃ H1, m = some (r, H1) ∧ CD G c q0 H1 vs' T' ws' bd' g' ∧ H1 = lm_w (c + 23) H1 S ∧ ∃ w, H1.1 b = some (.inr (w, .int, N, .inl f)) := by
  obtain ⟨H1, e1, e2, e3⟩ := q
  obtain ⟨i1, -, -, i4, w, i5⟩ := I
  refine ⟨H1, e1, e2, lm_is (fun a h1 h2 => ?_), w, by rw [e3 b (Or.inl i4)]; exact i5⟩
  rw [e3 a (Or.inr ⟨h1, by omega⟩)]
  conv => lhs; rw [i1]
  exact lm_in _ _ _ _ h1 h2
/-- after the reference's -/
theorem LI.two {α : Type} {H1 : hp_H} {m : Option (α × hp_H)} {r : α} (hb : b < c) (D : CD G c q0 H1 vs' T' ws' bd' g') (hB : ∃ w, H1.1 b = some (.inr (w, .int, N, .inl f))) (q : RDR (c + 23) H1 m r vs' T' ws' bd' g') : ∃ H2 S2, m = some (r, H2) ∧ LI G c q0 b N f H2 S2 vs' T' ws' bd' g' := by
  obtain ⟨S2, e1, e2⟩ := q
  obtain ⟨w, hB⟩ := hB
  refine ⟨_, S2, e1, lm_is (fun a h1 h2 => lm_in _ _ _ _ h1 h2), D.ref S2, e2, hb, w, ?_⟩
  rw [lm_lo _ _ _ (by omega)]; exact hB
theorem LI.sm (I : LI G c q0 b N f H S vs T ws bd g) : SM G (c + 23) H := by
  have := I.2.1.S.2.2.2.2.2.2.2.2.2.2.2.2
  exact ⟨this.1, fun i hi => by have := this.2 i hi; omega⟩
theorem CD.sm (D : CD G c q0 H vs T ws bd g) : SM G (c + 23) H := by
  have := D.S.2.2.2.2.2.2.2.2.2.2.2.2
  exact ⟨this.1, fun i hi => by have := this.2 i hi; omega⟩
theorem lw_ck {β : Type} (hH : H = lm_w (c + 23) H S) (X : Option β) : hp_vck H (c + 23) 8 X = X := by rw [hH]; exact lm_vck _ _ _ X
theorem CD.ck {β : Type} (D : CD G c q0 H vs T ws bd g) (X : Option β) : hp_vck H c 0 X = X := vck_e D.1 X
theorem sc_at (hB : ∃ w, H.1 b = some (.inr (w, .int, N, .inl f))) {k : Nat} (hk : k < N) (hN : N < 2 ^ 31) : hp_aI H .int b (nI k) = some (f k) := by
  obtain ⟨w, hB⟩ := hB
  exact aI_e hB hk hN
theorem a_2 (k : Nat) : nI k + 2 = nI (k + 2) := nI_add k 2
theorem a_3 (k : Nat) : nI k + 3 = nI (k + 3) := nI_add k 3
theorem a_4 (k : Nat) : nI k + 4 = nI (k + 4) := nI_add k 4
/-- where the loop ends: all that was made is bounded -/
def LE_ (c q0 : Nat) (H : hp_H) : Prop := H.2.1 ≤ c + 44 + 6000 ∧ H.2.2 ≤ q0 + 6200000
theorem law_18 (hN : N < 2 ^ 31) : ∀ (n k : Nat) (H : hp_H) (S : lm_S) (vs : List vV) (T : List Nat) (ws : List (Nat × Int32)) (bd : Nat → Nat) (g : gG), N - k < 4 * n → k ≤ N → LI G c q0 b N f H S vs T ws bd g → ∃ H', m_L_law_18 G n b c (c + 23) (nI k) H = some (1, H') ∧ LE_ c q0 H'
  | 0, k, H, S, vs, T, ws, bd, g, hn, _, _ => by omega
  | n + 1, k, H, S, vs, T, ws, bd, g, hn, hk, I => by
    obtain ⟨i1, i2, i3, i4, iB⟩ := id I
    obtain ⟨w, iB'⟩ := id iB
    rw [m_L_law_18, len_e iB', bs]
    have cnd : nI N - 4 < nI k ↔ N < k + 4 := by
      rw [show (4 : Int32) = iI 4 from rfl, nI_iI, nI_iI, iI_sub, iI_lt (by omega) (by omega) (by omega) (by omega)]; omega
    by_cases e : N < k + 4
    · rw [if_pos (cnd.mpr e)]
      refine ⟨H, rfl, ?_⟩
      have s0 := i2.S.1
      have hl := i2.O.2.1
      exact ⟨by omega, by omega⟩
    · have fin : ∀ (H2 : hp_H) (S2 : lm_S) (vs2 : List vV) (T2 : List Nat) (ws2 : List (Nat × Int32)) (bd2 : Nat → Nat) (g2 : gG), LI G c q0 b N f H2 S2 vs2 T2 ws2 bd2 g2 → ∃ H', m_L_law_744 G (m_L_law_18 G n) b c (c + 23) (nI k) H2 = some (1, H') ∧ LE_ c q0 H' := fun H2 S2 vs2 T2 ws2 bd2 g2 I2 => by
        unfold m_L_law_744
        rw [hp_nmE, a_4]
        exact law_18 hN n (k + 4) H2 S2 vs2 T2 ws2 bd2 g2 (by omega) (by omega) I2
      rw [if_neg (fun z => e (cnd.mp z)), sc_at iB (show k < N by omega) hN, bs]
      by_cases o0 : f k &&& 31 = 0
      · rw [if_pos o0]
        rw [nI_1, sc_at iB (show k + 1 < N by omega) hN, bs, a_2, sc_at iB (show k + 2 < N by omega) hN, bs, a_3, sc_at iB (show k + 3 < N by omega) hN, bs]
        obtain ⟨H1, e1, D1, L1, B1⟩ := I.one (cd_type G i2 (((f (k + 1)).toInt64 <<< ((32 : Int32).toInt64 &&& 63)) ||| ((f (k + 2)).toInt64 &&& (4294967295 : Int64))) (f (k + 3)))
        obtain ⟨H2, S2, e2, I2⟩ := LI.two i4 D1 B1 (rd_type (G := G) (o := c + 23) (h := H1) i3 (((f (k + 1)).toInt64 <<< ((32 : Int32).toInt64 &&& 63)) ||| ((f (k + 2)).toInt64 &&& (4294967295 : Int64))) (f (k + 3)))
        rw [← L1] at e2
        rw [i2.ck, e1, bs]
        rw [sc_at B1 (show k + 1 < N by omega) hN, bs, sc_at B1 (show k + 2 < N by omega) hN, bs, sc_at B1 (show k + 3 < N by omega) hN, bs]
        rw [lw_ck L1, e2, bs, if_pos rfl]
        exact fin _ _ _ _ _ _ _ I2
      rw [if_neg o0]
      by_cases o1 : f k &&& 31 = 1
      · rw [if_pos o1]
        rw [nI_1, sc_at iB (show k + 1 < N by omega) hN, bs, a_2, sc_at iB (show k + 2 < N by omega) hN, bs]
        obtain ⟨H1, e1, D1, L1, B1⟩ := I.one (cd_whole G i2 (((f (k + 1)).toInt64 <<< ((32 : Int32).toInt64 &&& 63)) ||| ((f (k + 2)).toInt64 &&& (4294967295 : Int64))))
        obtain ⟨H2, S2, e2, I2⟩ := LI.two i4 D1 B1 (rd_whole (G := G) (o := c + 23) (h := H1) i3 (((f (k + 1)).toInt64 <<< ((32 : Int32).toInt64 &&& 63)) ||| ((f (k + 2)).toInt64 &&& (4294967295 : Int64))))
        rw [← L1] at e2
        rw [i2.ck, e1, bs]
        rw [sc_at B1 (show k + 1 < N by omega) hN, bs, sc_at B1 (show k + 2 < N by omega) hN, bs]
        rw [lw_ck L1, e2, bs, if_pos rfl]
        exact fin _ _ _ _ _ _ _ I2
      rw [if_neg o1]
      by_cases o2 : f k &&& 31 = 2
      · rw [if_pos o2]
        rw [nI_1, sc_at iB (show k + 1 < N by omega) hN, bs, a_2, sc_at iB (show k + 2 < N by omega) hN, bs, a_3, sc_at iB (show k + 3 < N by omega) hN, bs]
        obtain ⟨H1, e1, D1, L1, B1⟩ := I.one (cd_decimal G i2 (((f (k + 1)).toInt64 <<< ((32 : Int32).toInt64 &&& 63)) ||| ((f (k + 2)).toInt64 &&& (4294967295 : Int64))) (f (k + 3)))
        obtain ⟨H2, S2, e2, I2⟩ := LI.two i4 D1 B1 (rd_decimal (G := G) (o := c + 23) (h := H1) i3 (((f (k + 1)).toInt64 <<< ((32 : Int32).toInt64 &&& 63)) ||| ((f (k + 2)).toInt64 &&& (4294967295 : Int64))) (f (k + 3)))
        rw [← L1] at e2
        rw [i2.ck, e1, bs]
        rw [sc_at B1 (show k + 1 < N by omega) hN, bs, sc_at B1 (show k + 2 < N by omega) hN, bs, sc_at B1 (show k + 3 < N by omega) hN, bs]
        rw [lw_ck L1, e2, bs, if_pos rfl]
        exact fin _ _ _ _ _ _ _ I2
      rw [if_neg o2]
      by_cases o3 : f k &&& 31 = 3
      · rw [if_pos o3]
        rw [nI_1, sc_at iB (show k + 1 < N by omega) hN, bs]
        have go : ∀ w : Bool, w = decide (f (k + 1) ≠ 0) → ∃ H', m_L_law_317 G (m_L_law_18 G n) b c (c + 23) (nI k) (bI w) c H = some (1, H') ∧ LE_ c q0 H' := fun w hw => by
          obtain ⟨H1, e1, D1, L1, B1⟩ := I.one (cd_truth G i2 w)
          unfold m_L_law_317 m_L_law_334
          obtain ⟨H2, S2, e2, I2⟩ := LI.two i4 D1 B1 (rd_truth (G := G) (o := c + 23) (h := H1) i3 w)
          rw [← L1] at e2
          have e3 : ∀ z : Int32, z = bI w → ((hp_vck H1 (c + 23) 8 (m_M_truth G (c + 23) z H1)).bind fun q1 => if (kp vs (trV w)).1 = q1.1 then (m_L_law_744 G (m_L_law_18 G n) b c (c + 23) (nI k) q1.2) else (hp_z (0 : Int32) q1.2)) = m_L_law_744 G (m_L_law_18 G n) b c (c + 23) (nI k) H2 := fun z hz => by
            rw [hz, lw_ck L1, e2, bs, if_pos rfl]
          rw [i2.ck, e1, bs, nI_1, sc_at B1 (show k + 1 < N by omega) hN, bs]
          by_cases z : f (k + 1) = 0
          · have w0 : w = false := by rw [hw, decide_eq_false (fun q => q z)]
            rw [if_pos z, e3 0 (by rw [w0]; rfl)]
            exact fin _ _ _ _ _ _ _ I2
          · have w1 : w = true := by rw [hw, decide_eq_true z]
            rw [if_neg z, e3 1 (by rw [w1]; rfl)]
            exact fin _ _ _ _ _ _ _ I2
        by_cases z : f (k + 1) = 0
        · rw [if_pos z]; exact go false (by rw [decide_eq_false (fun q => q z)])
        · rw [if_neg z]; exact go true (by rw [decide_eq_true z])
      rw [if_neg o3]
      by_cases o4 : f k &&& 31 = 4
      · rw [if_pos o4]
        rw [nI_1, sc_at iB (show k + 1 < N by omega) hN, bs, a_2, sc_at iB (show k + 2 < N by omega) hN, bs]
        obtain ⟨H1, e1, D1, L1, B1⟩ := I.one (cd_named G i2 (f (k + 1)) (f (k + 2)))
        obtain ⟨H2, S2, e2, I2⟩ := LI.two i4 D1 B1 (rd_named (G := G) (o := c + 23) (h := H1) i3 (f (k + 1)) (f (k + 2)))
        rw [← L1] at e2
        rw [i2.ck, e1, bs]
        rw [sc_at B1 (show k + 1 < N by omega) hN, bs, sc_at B1 (show k + 2 < N by omega) hN, bs]
        rw [lw_ck L1, e2, bs, if_pos rfl]
        exact fin _ _ _ _ _ _ _ I2
      rw [if_neg o4]
      by_cases o5 : f k &&& 31 = 5
      · rw [if_pos o5]
        rw [nI_1, sc_at iB (show k + 1 < N by omega) hN, bs, a_2, sc_at iB (show k + 2 < N by omega) hN, bs]
        obtain ⟨H1, e1, D1, L1, B1⟩ := I.one (cd_text G i2 (f (k + 1)) (f (k + 2)))
        obtain ⟨H2, S2, e2, I2⟩ := LI.two i4 D1 B1 (rd_text (G := G) (o := c + 23) (h := H1) i3 (f (k + 1)) (f (k + 2)))
        rw [← L1] at e2
        rw [i2.ck, e1, bs]
        rw [sc_at B1 (show k + 1 < N by omega) hN, bs, sc_at B1 (show k + 2 < N by omega) hN, bs]
        rw [lw_ck L1, e2, bs, if_pos rfl]
        exact fin _ _ _ _ _ _ _ I2
      rw [if_neg o5]
      by_cases o6 : f k &&& 31 = 6
      · rw [if_pos o6]
        rw [nI_1, sc_at iB (show k + 1 < N by omega) hN, bs, a_2, sc_at iB (show k + 2 < N by omega) hN, bs]
        obtain ⟨H1, e1, D1, L1, B1⟩ := I.one (cd_told G i2 (f (k + 1)) (f (k + 2)))
        obtain ⟨H2, S2, e2, I2⟩ := LI.two i4 D1 B1 (rd_told (G := G) (o := c + 23) (h := H1) i3 (f (k + 1)) (f (k + 2)))
        rw [← L1] at e2
        rw [i2.ck, e1, bs]
        rw [sc_at B1 (show k + 1 < N by omega) hN, bs, sc_at B1 (show k + 2 < N by omega) hN, bs]
        rw [lw_ck L1, e2, bs, if_pos rfl]
        exact fin _ _ _ _ _ _ _ I2
      rw [if_neg o6]
      by_cases o7 : f k &&& 31 = 7
      · rw [if_pos o7]
        rw [nI_1, sc_at iB (show k + 1 < N by omega) hN, bs]
        obtain ⟨H1, e1, D1, L1, B1⟩ := I.one (cd_amount G i2 (f (k + 1)))
        obtain ⟨H2, S2, e2, I2⟩ := LI.two i4 D1 B1 (rd_amount (G := G) (o := c + 23) (h := H1) i3 (f (k + 1)))
        rw [← L1] at e2
        rw [i2.ck, e1, bs]
        rw [sc_at B1 (show k + 1 < N by omega) hN, bs]
        rw [lw_ck L1, e2, bs, if_pos ((lgc_eq _ _).mpr rfl)]
        exact fin _ _ _ _ _ _ _ I2
      rw [if_neg o7]
      by_cases o8 : f k &&& 31 = 8
      · rw [if_pos o8]
        rw [nI_1, sc_at iB (show k + 1 < N by omega) hN, bs, a_2, sc_at iB (show k + 2 < N by omega) hN, bs]
        obtain ⟨H1, e1, D1, L1, B1⟩ := I.one (cd_byteOf G i2 (f (k + 1)) (f (k + 2)))
        obtain ⟨H2, S2, e2, I2⟩ := LI.two i4 D1 B1 (rd_byteOf (G := G) (o := c + 23) (h := H1) i3 (f (k + 1)) (f (k + 2)))
        rw [← L1] at e2
        rw [i2.ck, e1, bs]
        rw [sc_at B1 (show k + 1 < N by omega) hN, bs, sc_at B1 (show k + 2 < N by omega) hN, bs]
        rw [lw_ck L1, e2, bs, if_pos rfl]
        exact fin _ _ _ _ _ _ _ I2
      rw [if_neg o8]
      by_cases o9 : f k &&& 31 = 9
      · rw [if_pos o9]
        obtain ⟨H1, e1, D1, L1, B1⟩ := I.one (cd_values G i2 )
        obtain ⟨H2, S2, e2, I2⟩ := LI.two i4 D1 B1 (rd_values (G := G) (o := c + 23) (h := H1) i3 )
        rw [← L1] at e2
        rw [i2.ck, e1, bs]
        rw [lw_ck L1, e2, bs, if_pos rfl]
        exact fin _ _ _ _ _ _ _ I2
      rw [if_neg o9]
      by_cases o10 : f k &&& 31 = 10
      · rw [if_pos o10]
        rw [nI_1, sc_at iB (show k + 1 < N by omega) hN, bs, a_2, sc_at iB (show k + 2 < N by omega) hN, bs]
        obtain ⟨H1, e1, D1, L1, B1⟩ := I.one (cd_order G i2 (f (k + 1)) (f (k + 2)))
        obtain ⟨H2, S2, e2, I2⟩ := LI.two i4 D1 B1 (rd_order (G := G) (o := c + 23) (h := H1) i3 (f (k + 1)) (f (k + 2)))
        rw [← L1] at e2
        rw [i2.ck, e1, bs]
        rw [sc_at B1 (show k + 1 < N by omega) hN, bs, sc_at B1 (show k + 2 < N by omega) hN, bs]
        rw [lw_ck L1, e2, bs, if_pos rfl]
        exact fin _ _ _ _ _ _ _ I2
      rw [if_neg o10]
      by_cases o11 : f k &&& 31 = 11
      · rw [if_pos o11]
        rw [nI_1, sc_at iB (show k + 1 < N by omega) hN, bs, a_2, sc_at iB (show k + 2 < N by omega) hN, bs]
        obtain ⟨H1, e1, D1, L1, B1⟩ := I.one (cd_word G i2 (f (k + 1)) (f (k + 2)))
        obtain ⟨H2, S2, e2, I2⟩ := LI.two i4 D1 B1 (rd_word (G := G) (o := c + 23) (h := H1) i3 (f (k + 1)) (f (k + 2)))
        rw [← L1] at e2
        rw [i2.ck, e1, bs]
        rw [sc_at B1 (show k + 1 < N by omega) hN, bs, sc_at B1 (show k + 2 < N by omega) hN, bs]
        rw [lw_ck L1, e2, bs, if_pos rfl]
        exact fin _ _ _ _ _ _ _ I2
      rw [if_neg o11]
      by_cases o12 : f k &&& 31 = 12
      · rw [if_pos o12]
        obtain ⟨H1, e1, D1, L1, B1⟩ := I.one (cd_begin G i2 )
        obtain ⟨H2, S2, e2, I2⟩ := LI.two i4 D1 B1 (rd_begin (G := G) (o := c + 23) (h := H1) i3 )
        rw [← L1] at e2
        rw [i2.ck, e1, bs]
        rw [lw_ck L1, e2, bs, if_pos rfl]
        exact fin _ _ _ _ _ _ _ I2
      rw [if_neg o12]
      by_cases o13 : f k &&& 31 = 13
      · rw [if_pos o13]
        rw [nI_1, sc_at iB (show k + 1 < N by omega) hN, bs, a_2, sc_at iB (show k + 2 < N by omega) hN, bs]
        obtain ⟨H1, e1, D1, L1, B1⟩ := I.one (cd_bind G i2 (f (k + 1)) (f (k + 2)))
        obtain ⟨H2, S2, e2, I2⟩ := LI.two i4 D1 B1 (rd_bind (G := G) (o := c + 23) (h := H1) i3 (f (k + 1)) (f (k + 2)))
        rw [← L1] at e2
        rw [i2.ck, e1, bs]
        rw [sc_at B1 (show k + 1 < N by omega) hN, bs, sc_at B1 (show k + 2 < N by omega) hN, bs]
        rw [lw_ck L1, e2, bs, if_pos rfl]
        exact fin _ _ _ _ _ _ _ I2
      rw [if_neg o13]
      by_cases o14 : f k &&& 31 = 14
      · rw [if_pos o14]
        obtain ⟨H1, e1, D1, L1, B1⟩ := I.one (cd_run G i2 )
        have D1s := D1.sm
        obtain ⟨H2, S2, e2, I2⟩ := LI.two i4 D1 B1 (rd_run (G := G) (o := c + 23) (h := H1) D1s i2.O i3 )
        rw [← L1] at e2
        rw [i2.ck, e1, bs]
        rw [lw_ck L1, e2, bs, if_pos rfl]
        exact fin _ _ _ _ _ _ _ I2
      rw [if_neg o14]
      by_cases o15 : f k &&& 31 = 15
      · rw [if_pos o15]
        obtain ⟨H1, e1, D1, L1, B1⟩ := I.one (cd_test G i2 )
        have D1s := D1.sm
        obtain ⟨H2, S2, e2, I2⟩ := LI.two i4 D1 B1 (rd_test (G := G) (o := c + 23) (h := H1) D1s i2.O i3 )
        rw [← L1] at e2
        rw [i2.ck, e1, bs]
        rw [lw_ck L1, e2, bs, if_pos rfl]
        exact fin _ _ _ _ _ _ _ I2
      rw [if_neg o15]
      by_cases o16 : f k &&& 31 = 16
      · rw [if_pos o16]
        rw [nI_1, sc_at iB (show k + 1 < N by omega) hN, bs, a_2, sc_at iB (show k + 2 < N by omega) hN, bs]
        have go : ∀ w : Bool, w = decide (f (k + 2) ≠ 0) → ∃ H', m_L_law_668 G (m_L_law_18 G n) b c (c + 23) (nI k) (bI w) (f (k + 1)) c H = some (1, H') ∧ LE_ c q0 H' := fun w hw => by
          obtain ⟨H1, e1, D1, L1, B1⟩ := I.one (cd_gather G i2 (f (k + 1)) w (f (k + 3)))
          unfold m_L_law_668 m_L_law_695
          obtain ⟨H2, S2, e2, I2⟩ := LI.two i4 D1 B1 (rd_gather (G := G) (o := c + 23) (h := H1) i3 (f (k + 1)) w (f (k + 3)))
          rw [← L1] at e2
          have e3 : ∀ z : Int32, z = bI w → ((hp_aI H1 .int b (nI k + (3 : Int32))).bind fun x1 => (hp_vck H1 (c + 23) 8 (m_M_gather G (c + 23) (f (k + 1)) z x1 H1)).bind fun q2 => if (gaV vs g (f (k + 1)) w (f (k + 3))).1 = q2.1 then (m_L_law_744 G (m_L_law_18 G n) b c (c + 23) (nI k) q2.2) else (hp_z (0 : Int32) q2.2)) = m_L_law_744 G (m_L_law_18 G n) b c (c + 23) (nI k) H2 := fun z hz => by
            rw [a_3, sc_at B1 (show k + 3 < N by omega) hN, bs, hz, lw_ck L1, e2, bs, if_pos rfl]
          rw [a_3, sc_at iB (show k + 3 < N by omega) hN, bs, i2.ck, e1, bs, nI_1, sc_at B1 (show k + 1 < N by omega) hN, bs, a_2, sc_at B1 (show k + 2 < N by omega) hN, bs, ← a_3]
          by_cases z : f (k + 2) = 0
          · have w0 : w = false := by rw [hw, decide_eq_false (fun q => q z)]
            rw [if_pos z, e3 0 (by rw [w0]; rfl)]
            exact fin _ _ _ _ _ _ _ I2
          · have w1 : w = true := by rw [hw, decide_eq_true z]
            rw [if_neg z, e3 1 (by rw [w1]; rfl)]
            exact fin _ _ _ _ _ _ _ I2
        by_cases z : f (k + 2) = 0
        · rw [if_pos z]; exact go false (by rw [decide_eq_false (fun q => q z)])
        · rw [if_neg z]; exact go true (by rw [decide_eq_true z])
      rw [if_neg o16]
      by_cases o17 : f k &&& 31 = 17
      · rw [if_pos o17]
        rw [nI_1, sc_at iB (show k + 1 < N by omega) hN, bs]
        obtain ⟨H1, e1, D1, L1, B1⟩ := I.one (cd_add G i2 (f (k + 1)))
        obtain ⟨H2, S2, e2, I2⟩ := LI.two i4 D1 B1 (rd_add (G := G) (o := c + 23) (h := H1) i3 (f (k + 1)))
        rw [← L1] at e2
        rw [i2.ck, e1, bs]
        rw [sc_at B1 (show k + 1 < N by omega) hN, bs]
        rw [lw_ck L1, e2, bs, if_pos rfl]
        exact fin _ _ _ _ _ _ _ I2
      rw [if_neg o17]
      by_cases o18 : f k &&& 31 = 18
      · rw [if_pos o18]
        obtain ⟨H1, e1, D1, L1, B1⟩ := I.one (cd_together G i2 )
        have D1s := D1.sm
        obtain ⟨H2, S2, e2, I2⟩ := LI.two i4 D1 B1 (rd_together (G := G) (o := c + 23) (h := H1) D1s i2.O i3 )
        rw [← L1] at e2
        rw [i2.ck, e1, bs]
        rw [lw_ck L1, e2, bs, if_pos rfl]
        exact fin _ _ _ _ _ _ _ I2
      rw [if_neg o18]
      exact fin _ _ _ _ _ _ _ I
end
