/-! THE LETTERS UNDER WAY -/
def rm_L (S : lm_S) (L : List Nat) : Prop := S.1 16 = nI L.length ∧ (∀ k, k < L.length → k < 64 → S.2 10 k = nI (L.getD k 0)) ∧ L.length < 1000000
def lT (S S' : lm_S) : Prop := (∀ i, i ≠ 16 → S'.1 i = S.1 i) ∧ ∀ j, j ≠ 10 → S'.2 j = S.2 j
theorem lT.rf {S : lm_S} : lT S S := ⟨fun _ _ => rfl, fun _ _ => rfl⟩
theorem lT.tr {S S' S'' : lm_S} (h1 : lT S S') (h2 : lT S' S'') : lT S S'' := ⟨fun i hi => (h2.1 i hi).trans (h1.1 i hi), fun j hj => (h2.2 j hj).trans (h1.2 j hj)⟩
theorem lT.A {S S' : lm_S} {vs : List vV} (q : lT S S') (h : rm_A S vs) : rm_A S' vs := h.keep (q.1 0 (by decide)) (fun j _ h7 => q.2 j (by omega))
theorem lT.f {S S' : lm_S} (q : lT S S') : fS S S' := ⟨⟨q.1 9 (by decide), q.1 22 (by decide), q.1 26 (by decide), q.1 27 (by decide), q.1 28 (by decide), q.1 29 (by decide)⟩, q.2 8 (by decide), q.2 14 (by decide), q.2 15 (by decide), q.2 16 (by decide), q.2 17 (by decide), q.2 18 (by decide)⟩
theorem rm_C.L {S : lm_S} {k e s : Nat} {a : Int} {L : List Nat} (h : rm_C S (k, e, a, s, L)) (hl : L.length < 1000000) : rm_L S L := ⟨h.2.2.2.2.1, h.2.2.2.2.2.2, hl⟩
theorem rm_C.to {S S' : lm_S} {k e s : Nat} {a : Int} {L L' : List Nat} (h : rm_C S (k, e, a, s, L)) (q : lT S S') (hL : rm_L S' L') : rm_C S' (k, e, a, s, L') :=
  ⟨(q.1 10 (by decide)).trans h.1, (q.1 11 (by decide)).trans h.2.1, (q.1 12 (by decide)).trans h.2.2.1, (q.1 13 (by decide)).trans h.2.2.2.1, hL.1, fun k hk => by rw [q.2 9 (by decide)]; exact h.2.2.2.2.2.1 k hk, hL.2.1⟩
theorem getD_snoc (L : List Nat) (b k : Nat) (hk : k < L.length + 1) : (L ++ [b]).getD k 0 = if k < L.length then L.getD k 0 else b := by
  by_cases c : k < L.length
  · rw [if_pos c, List.getD_eq_getElem?_getD, List.getD_eq_getElem?_getD, List.getElem?_append_left c]
  · have : k = L.length := by omega
    subst this
    rw [if_neg c, List.getD_eq_getElem?_getD, List.getElem?_append_right (Nat.le_refl _), Nat.sub_self]
    rfl
theorem rm_letter (G : Nat → Nat) (o : Nat) (h : hp_H) (S : lm_S) (L : List Nat) (b : Nat) (hL : rm_L S L) (hl : L.length + 1 < 1000000) : ∃ S', m_M_letter G o (nI b) (lm_w o h S) = some ((), lm_w o h S') ∧ lT S S' ∧ rm_L S' (L ++ [b]) := by
  obtain ⟨h1, h2, h3⟩ := hL
  unfold m_M_letter m_M_letter_19
  simp (disch := omega) only [lm_g0, lm_g1, lm_g2, lm_g3, lm_g4, lm_g5, lm_g6, lm_g7, lm_g8, lm_g9, lm_g10, lm_g11, lm_g12, lm_g13, lm_g14, lm_g15, lm_g16, lm_g17, lm_g18, lm_g19, lm_g20, lm_g21, lm_g22, lm_g23, lm_g24, lm_g25, lm_g26, lm_g27, lm_g28, lm_g29, lm_g30, lm_g31, lm_g32, lm_g33, lm_p0, lm_p9, lm_p10, lm_p11, lm_p12, lm_p13, lm_p16, lm_p22, lm_p26, lm_p27, lm_p28, lm_p29, lm_p31, lm_p32, lm_a1, lm_a2, lm_a3, lm_a4, lm_a5, lm_a6, lm_a7, lm_a8, lm_a9, lm_a10, lm_a11, lm_a12, lm_a13, lm_a14, lm_a15, lm_a16, lm_a17, lm_a18, lm_a19, lm_a20, lm_s1, lm_s2, lm_s3, lm_s4, lm_s5, lm_s6, lm_s7, lm_s8, lm_s9, lm_s10, lm_s11, lm_s12, lm_s13, lm_s14, lm_s15, lm_s16, lm_s17, lm_s18, lm_s19, lm_s20, lm_vck, lm_ups, lm_upn, upd_s, upd_n, Option.bind_some, hp_nmE, hp_z1, hp_z0, bq, reduceIte, il_0, il_1, il_2, il_3, il_4, il_5, il_6, il_7, il_8, il_9, il_10, il_11, il_12, il_13, il_14, il_15, il_16, il_17, il_18, il_19, il_20, il_21, il_22, il_23, il_24, il_25, il_26, il_27, il_28, il_29, il_30, il_31, il_32, il_33, il_34, il_35, il_36, il_37, il_38, il_39, il_40, il_41, il_45, il_46, il_48, il_63, il_64, il_65, il_90, il_97, il_99, il_100, il_122, il_127, il_128, il_255, il_500, il_1000, il_1001, il_1002, il_1003, il_1004, il_2000, il_9999, nI_add, pk_mul, pk_sub, nI_leI, nI_ltI, nI_eq, hp_dI_n, hp_mI_n, h1]
  by_cases c : 64 ≤ L.length
  · rw [if_pos c]
    refine ⟨_, rfl, ⟨fun i hi => upd_n _ _ hi, fun _ _ => rfl⟩, ?_, fun k hk hk2 => ?_, by simp; omega⟩
    · rw [List.length_append]; simp only [upd_s]; rfl
    · rw [getD_snoc _ _ _ (by simpa using hk), if_pos (by omega)]
      exact h2 k (by omega) hk2
  · rw [if_neg c]
    refine ⟨_, rfl, ⟨fun i hi => upd_n _ _ hi, fun j hj => lm_upn _ _ hj⟩, ?_, fun k hk hk2 => ?_, by simp; omega⟩
    · rw [List.length_append]; simp only [upd_s]; rfl
    · rw [getD_snoc _ _ _ (by simpa using hk)]
      simp only [lm_ups]
      by_cases ck : k < L.length
      · rw [if_pos ck, upd_n _ _ (by omega)]; exact h2 k ck hk2
      · have : k = L.length := by simp at hk; omega
        subst this
        rw [if_neg ck, upd_s]
theorem take_s {B : List Nat} {n : Nat} (h : n < B.length) : B.drop n = B.getD n 0 :: B.drop (n + 1) := by
  rw [List.drop_eq_getElem_cons h, List.getD_eq_getElem?_getD, List.getElem?_eq_getElem h]; rfl
theorem rm_letterAll_3 (G : Nat → Nat) (o : Nat) (h : hp_H) (v : Nat) (x : vV) (hv : v ≤ 2000) (hx : x.2.2.2.2.length ≤ 64) : ∀ (n a b : Nat) (S : lm_S) (L : List Nat), rm_V S v x → b ≤ x.2.2.2.2.length → b - a < n → rm_L S L → L.length + (b - a) < 1000000 → ∃ S', m_M_letterAll_3 G n o (nI v) (nI b) (nI a) (lm_w o h S) = some ((), lm_w o h S') ∧ lT S S' ∧ rm_L S' (L ++ (x.2.2.2.2.drop a).take (b - a)) ∨ ¬ a < 2147483648
  | 0, a, b, S, L, _, _, hn, _, _ => by omega
  | n + 1, a, b, S, L, hr, hb, hn, hL, hl => by
    by_cases la : a < 2147483648
    · rw [m_M_letterAll_3]
      simp (disch := omega) only [lm_g0, lm_g1, lm_g2, lm_g3, lm_g4, lm_g5, lm_g6, lm_g7, lm_g8, lm_g9, lm_g10, lm_g11, lm_g12, lm_g13, lm_g14, lm_g15, lm_g16, lm_g17, lm_g18, lm_g19, lm_g20, lm_g21, lm_g22, lm_g23, lm_g24, lm_g25, lm_g26, lm_g27, lm_g28, lm_g29, lm_g30, lm_g31, lm_g32, lm_g33, lm_p0, lm_p9, lm_p10, lm_p11, lm_p12, lm_p13, lm_p16, lm_p22, lm_p26, lm_p27, lm_p28, lm_p29, lm_p31, lm_p32, lm_a1, lm_a2, lm_a3, lm_a4, lm_a5, lm_a6, lm_a7, lm_a8, lm_a9, lm_a10, lm_a11, lm_a12, lm_a13, lm_a14, lm_a15, lm_a16, lm_a17, lm_a18, lm_a19, lm_a20, lm_s1, lm_s2, lm_s3, lm_s4, lm_s5, lm_s6, lm_s7, lm_s8, lm_s9, lm_s10, lm_s11, lm_s12, lm_s13, lm_s14, lm_s15, lm_s16, lm_s17, lm_s18, lm_s19, lm_s20, lm_vck, lm_ups, lm_upn, upd_s, upd_n, Option.bind_some, hp_nmE, hp_z1, hp_z0, bq, reduceIte, il_0, il_1, il_2, il_3, il_4, il_5, il_6, il_7, il_8, il_9, il_10, il_11, il_12, il_13, il_14, il_15, il_16, il_17, il_18, il_19, il_20, il_21, il_22, il_23, il_24, il_25, il_26, il_27, il_28, il_29, il_30, il_31, il_32, il_33, il_34, il_35, il_36, il_37, il_38, il_39, il_40, il_41, il_45, il_46, il_48, il_63, il_64, il_65, il_90, il_97, il_99, il_100, il_122, il_127, il_128, il_255, il_500, il_1000, il_1001, il_1002, il_1003, il_1004, il_2000, il_9999, nI_add, pk_mul, pk_sub, nI_leI, nI_ltI, nI_eq, hp_dI_n, hp_mI_n]
      by_cases c : b ≤ a
      · rw [if_pos c, show b - a = 0 by omega, List.take_zero, List.append_nil]
        exact ⟨S, Or.inl ⟨rfl, lT.rf, hL⟩⟩
      · rw [if_neg c]
        simp (disch := omega) only [lm_a7, Option.bind_some, hr.2.2.2.2.2.2 a (by omega)]
        obtain ⟨S1, e1, e2, e3⟩ := rm_letter G o h S L (x.2.2.2.2.getD a 0) hL (by omega)
        simp only [e1, Option.bind_some]
        obtain ⟨S', q⟩ := rm_letterAll_3 G o h v x hv hx n (a + 1) b S1 (L ++ [x.2.2.2.2.getD a 0]) (hr.keep (fun j _ h7 => e2.2 j (by omega))) hb (by omega) e3 (by simp; omega)
        rcases q with ⟨q1, q2, q3⟩ | q
        · refine ⟨S', Or.inl ⟨q1, e2.tr q2, ?_⟩⟩
          rw [take_s (show a < x.2.2.2.2.length by omega), show b - a = (b - (a + 1)) + 1 by omega, List.take_succ_cons]
          rw [List.append_assoc] at q3
          exact q3
        · omega
    · exact ⟨S, Or.inr la⟩
theorem rm_letterAll (G : Nat → Nat) (o : Nat) (h : hp_H) (S : lm_S) (vs : List vV) (i : Nat) (x : vV) (a b : Nat) (L : List Nat) (hA : rm_A S vs) (hx : vs[i]? = some x) (ha : a ≤ 64) (hb : b ≤ x.2.2.2.2.length) (hL : rm_L S L) (hl : L.length + 64 < 1000000) : ∃ S', m_M_letterAll G o (nI (i + 1)) (nI a) (nI b) (lm_w o h S) = some ((), lm_w o h S') ∧ lT S S' ∧ rm_L S' (L ++ (x.2.2.2.2.drop a).take (b - a)) := by
  obtain ⟨hr, wx, li, -⟩ := rm_at hA hx
  have l64 := wx.2.2.2.2.1
  unfold m_M_letterAll
  rw [hp_nmE]
  obtain ⟨S', q⟩ := rm_letterAll_3 G o h (i + 1) x (by omega) l64 hp_fu a b S L hr hb (by unfold hp_fu; omega) hL (by omega)
  rcases q with q | q
  · exact ⟨S', q⟩
  · omega
/-! the constant Strings -/
def bts (L : List Nat) (f : Nat → Int32) : Prop := ∀ k, k < L.length → f k = nI (L.getD k 0)
def wdS : Nat → List Nat := fun i => match i with
  | 0 => [116, 114, 117, 101]
  | 1 => [102, 97, 108, 115, 101]
  | _ => [46, 48]
def SG (G : Nat → Nat) (h : hp_H) : Prop := G 5 ≠ G 6 ∧ G 5 ≠ G 7 ∧ G 6 ≠ G 7 ∧ ∀ i, i < 3 → ∃ w f, h.1 (G (8 + i)) = some (.inr (w, .byte, (wdS i).length, .inl f)) ∧ bts (wdS i) f
theorem hp_sv_i {G : Nat → Nat} {h : hp_H} (hG : SG G h) (i : Nat) (hi : i < 3) : hp_sv G (G (5 + i)) = some (G (8 + i)) := by
  unfold hp_sv
  obtain ⟨a, b, c, -⟩ := hG
  rcases (show i = 0 ∨ i = 1 ∨ i = 2 by omega) with e | e | e <;> subst e
  · rw [if_pos rfl]
  · rw [if_neg (fun q => a q.symm), if_pos rfl]
  · rw [if_neg (fun q => b q.symm), if_neg (fun q => c q.symm), if_pos rfl]
theorem hp_s_i (G : Nat → Nat) (i : Nat) (hi : i < 3) : G (5 + i) = G 5 ∨ G (5 + i) = G 6 ∨ G (5 + i) = G 7 := by
  rcases (show i = 0 ∨ i = 1 ∨ i = 2 by omega) with e | e | e <;> subst e
  · exact Or.inl rfl
  · exact Or.inr (Or.inl rfl)
  · exact Or.inr (Or.inr rfl)
theorem st_length {G : Nat → Nat} {h : hp_H} (hG : SG G h) (i : Nat) (hi : i < 3) : m_ST_length G (G (5 + i)) h = some (nI (wdS i).length, h) := by
  obtain ⟨w, f, e1, -⟩ := hG.2.2.2 i hi
  have e2 : hp_arr h (G (8 + i)) = some (w, .byte, (wdS i).length, .inl f) := by unfold hp_arr; rw [e1]
  unfold m_ST_length m_ST_coder m_ST_coder_14
  rw [hp_sv_i hG i hi]
  simp only [Option.bind_some, hp_len, e2, Option.map_some, hp_sck, hp_sd, if_pos (hp_s_i G i hi)]
  rw [if_neg (by decide)]
  have hb : hp_b 0 h = some (0, h) := by rw [hp_b, if_pos (by decide)]
  rw [hb]
  simp only [Option.bind_some]
  have hsh : ∀ i, i < 3 → Int32.ofNat (wdS i).length >>> ((0 : Int32) &&& 31) = nI (wdS i).length := by decide +kernel
  rw [hsh i hi]
theorem wd_b : ∀ i, i < 3 → ∀ k, k < (wdS i).length → (((nI ((wdS i).getD k 0) &&& 255).toUInt32 % 65536).toInt32 = nI ((wdS i).getD k 0)) := by decide +kernel
theorem st_charAt {G : Nat → Nat} {h : hp_H} (hG : SG G h) (i : Nat) (hi : i < 3) (k : Nat) (hk : k < (wdS i).length) : m_ST_charAt G (G (5 + i)) (nI k) h = some (nI ((wdS i).getD k 0), h) := by
  obtain ⟨w, f, e1, e3⟩ := hG.2.2.2 i hi
  have e2 : hp_arr h (G (8 + i)) = some (w, .byte, (wdS i).length, .inl f) := by unfold hp_arr; rw [e1]
  have l5 : (wdS i).length ≤ 5 := by rcases (show i = 0 ∨ i = 1 ∨ i = 2 by omega) with e | e | e <;> subst e <;> decide
  unfold m_ST_charAt m_ST_isLatin1 m_ST_isLatin1_18 m_SL_charAt m_ST_checkIndex m_PR_checkIndex
  have wb := wd_b i hi k hk
  have w2 : (nI ((wdS i).getD k 0)).toUInt32 % 65536 = ((nI ((wdS i).getD k 0)).toUInt32) := by
    rcases (show i = 0 ∨ i = 1 ∨ i = 2 by omega) with e | e | e <;> subst e
    · rcases (show k = 0 ∨ k = 1 ∨ k = 2 ∨ k = 3 by simp [wdS] at hk; omega) with e | e | e | e <;> subst e <;> rfl
    · rcases (show k = 0 ∨ k = 1 ∨ k = 2 ∨ k = 3 ∨ k = 4 by simp [wdS] at hk; omega) with e | e | e | e | e <;> subst e <;> rfl
    · rcases (show k = 0 ∨ k = 1 by simp [wdS] at hk; omega) with e | e <;> subst e <;> rfl
  simp only [hp_sck, hp_sd, if_pos (hp_s_i G i hi), Option.bind_some]
  rw [if_neg (by decide), if_pos trivial, hp_sv_i hG i hi]
  simp only [hp_z, Option.bind_some, hp_len, e2, Option.map_some]
  rw [if_pos (Or.inr trivial)]
  simp only [Option.bind_some]
  rw [if_neg (by decide)]
  simp only [e2, Option.map_some, Option.bind_some]
  rw [if_neg (nI_pos (by omega)), if_pos (show nI k < Int32.ofNat (wdS i).length from nI_lt hk (by omega))]
  simp only [Option.bind_some]
  unfold hp_aI
  rw [e2]
  simp only [true_and]
  rw [if_pos (nI_in hk (by omega)), nI_clamp (by omega), e3 k hk]
  simp only [Option.bind_some, hp_c]
  rw [wb, if_pos (by rw [w2]; rfl)]
  simp only [Option.bind_some]
  rw [if_pos (by rw [w2]; rfl)]
/-- the words of the constant Strings lie below the reference's object -/
def SM (G : Nat → Nat) (o : Nat) (h : hp_H) : Prop := SG G h ∧ ∀ i, i < 3 → G (8 + i) < o
theorem SM.w {G : Nat → Nat} {o : Nat} {h : hp_H} (q : SM G o h) (S : lm_S) : SG G (lm_w o h S) := by
  obtain ⟨⟨a, b, c, d⟩, l⟩ := q
  refine ⟨a, b, c, fun i hi => ?_⟩
  obtain ⟨w, f, e1, e2⟩ := d i hi
  have := l i hi
  refine ⟨w, f, ?_, e2⟩
  rw [← e1]
  unfold lm_w lm_m
  simp only
  rw [if_neg (by omega), if_neg (by omega)]
theorem rm_spell_2 (G : Nat → Nat) (o : Nat) (h : hp_H) (hG : SM G o h) (i : Nat) (hi : i < 3) : ∀ (n k : Nat) (S : lm_S) (L : List Nat), k ≤ (wdS i).length → (wdS i).length - k < n → rm_L S L → L.length + ((wdS i).length - k) < 1000000 → ∃ S', m_M_spell_2 G n o (G (5 + i)) (nI k) (lm_w o h S) = some ((), lm_w o h S') ∧ lT S S' ∧ rm_L S' (L ++ (wdS i).drop k)
  | 0, k, S, L, _, hn, _, _ => by omega
  | n + 1, k, S, L, hk, hn, hL, hl => by
    have l5 : (wdS i).length ≤ 5 := by rcases (show i = 0 ∨ i = 1 ∨ i = 2 by omega) with e | e | e <;> subst e <;> decide
    rw [m_M_spell_2]
    simp only [hp_sck, if_pos (hp_s_i G i hi), st_length (hG.w S) i hi, Option.bind_some]
    by_cases c : k = (wdS i).length
    · rw [if_pos (nI_le (by omega) (by omega)), c, List.drop_length, List.append_nil]
      exact ⟨S, rfl, lT.rf, hL⟩
    · rw [if_neg (nI_ge (by omega) (by omega)), st_charAt (hG.w S) i hi k (by omega)]
      simp only [Option.bind_some, lm_vck]
      obtain ⟨S1, e1, e2, e3⟩ := rm_letter G o h S L ((wdS i).getD k 0) hL (by omega)
      simp only [e1, Option.bind_some, hp_nmE, nI_1]
      obtain ⟨S', q1, q2, q3⟩ := rm_spell_2 G o h hG i hi n (k + 1) S1 (L ++ [(wdS i).getD k 0]) (by omega) (by omega) e3 (by simp; omega)
      refine ⟨S', q1, e2.tr q2, ?_⟩
      rw [take_s (show k < (wdS i).length by omega)]
      rw [List.append_assoc] at q3
      exact q3
theorem rm_spell (G : Nat → Nat) (o : Nat) (h : hp_H) (hG : SM G o h) (S : lm_S) (L : List Nat) (i : Nat) (hi : i < 3) (hL : rm_L S L) (hl : L.length + 64 < 1000000) : ∃ S', m_M_spell G o (G (5 + i)) (lm_w o h S) = some ((), lm_w o h S') ∧ lT S S' ∧ rm_L S' (L ++ wdS i) := by
  have l5 : (wdS i).length ≤ 5 := by rcases (show i = 0 ∨ i = 1 ∨ i = 2 by omega) with e | e | e <;> subst e <;> decide
  unfold m_M_spell
  rw [hp_nmE]
  exact rm_spell_2 G o h hG i hi hp_fu 0 S L (by omega) (by unfold hp_fu; omega) hL (by omega)
/-! digits as letters: the places p - 1 down to 0; how many places there are -/
def dl (n : Nat) : Nat → List Nat
  | 0 => []
  | p + 1 => (48 + dg n p) :: dl n p
theorem dl_len (n : Nat) : ∀ p, (dl n p).length = p
  | 0 => rfl
  | p + 1 => by rw [dl, List.length_cons, dl_len]
def cnt (n l : Nat) : Nat → Nat
  | 0 => 0
  | p + 1 => if dg n p ≠ 0 ∨ p < l then p + 1 else cnt n l p
theorem cnt_le (n l : Nat) : ∀ p, cnt n l p ≤ p
  | 0 => Nat.le_refl _
  | p + 1 => by
    rw [cnt]
    by_cases c : dg n p ≠ 0 ∨ p < l
    · rw [if_pos c]; exact Nat.le_refl _
    · rw [if_neg c]; have := cnt_le n l p; omega
theorem cnt_ge (n l : Nat) : ∀ p, l ≤ p → l ≤ cnt n l p
  | 0, h => h
  | p + 1, h => by
    rw [cnt]
    by_cases c : dg n p ≠ 0 ∨ p < l
    · rw [if_pos c]; exact h
    · rw [if_neg c]; exact cnt_ge n l p (by omega)
/-- the digits of a number that is no less than 0 -/
def dec (n : Nat) : List Nat := dl n (cnt n 1 19)
theorem rm_digitsOf_20 (G : Nat → Nat) (o : Nat) (h : hp_H) (m : Nat) (hm : m < 100000) : ∀ (n p : Nat) (S : lm_S) (L : List Nat), p ≤ 5 → p < n → rm_L S L → L.length + p < 1000000 → ∃ S', m_M_digitsOf_20 G n o (nI m) (nI (10 ^ p / 10)) (lm_w o h S) = some ((), lm_w o h S') ∧ lT S S' ∧ rm_L S' (L ++ dl m p)
  | 0, p, S, L, _, hn, _, _ => by omega
  | n + 1, p, S, L, hp, hn, hL, hl => by
    rw [m_M_digitsOf_20]
    cases p with
    | zero =>
      rw [if_pos (by decide)]
      exact ⟨S, rfl, lT.rf, by rw [dl, List.append_nil]; exact hL⟩
    | succ p =>
      have hp0 := pw_pos p
      have hp5 : 10 ^ p ≤ 10 ^ 5 := Nat.pow_le_pow_right (by decide) (by omega)
      have hs : 10 ^ (p + 1) / 10 = 10 ^ p := by rw [Nat.pow_succ, Nat.mul_div_cancel _ (by decide)]
      have hq : m / 10 ^ p < 2 ^ 31 := by have := Nat.div_le_self m (10 ^ p); omega
      have hd := dg_lt m p
      rw [hs, if_neg (nI_nle hp0 (by omega)), hp_dI_n (by omega) hp0 (by omega)]
      simp only [Option.bind_some, show (10 : Int32) = nI 10 from rfl, hp_mI_n hq (by decide) (show 10 < 2 ^ 31 by decide), hp_dI_n (show 10 ^ p < 2 ^ 31 by omega) (by decide) (show 10 < 2 ^ 31 by decide), show (48 : Int32) = nI 48 from rfl, nI_add, lm_vck, hp_nmE]
      obtain ⟨S1, e1, e2, e3⟩ := rm_letter G o h S L (48 + m / 10 ^ p % 10) hL (by omega)
      simp only [e1, Option.bind_some]
      obtain ⟨S', q1, q2, q3⟩ := rm_digitsOf_20 G o h m hm n p S1 (L ++ [48 + m / 10 ^ p % 10]) (by omega) (by omega) e3 (by simp; omega)
      refine ⟨S', q1, e2.tr q2, ?_⟩
      rw [dl]
      rw [List.append_assoc] at q3
      exact q3
theorem cnt_is {m p : Nat} (h1 : m < 10 ^ p) (h2 : p = 1 ∨ 10 ^ (p - 1) ≤ m) (hp : 1 ≤ p) : ∀ d, cnt m 1 (p + d) = p
  | 0 => by
    obtain ⟨q, rfl⟩ : ∃ q, p = q + 1 := ⟨p - 1, by omega⟩
    rw [Nat.add_zero, cnt, if_pos]
    rcases h2 with h2 | h2
    · exact Or.inr (by omega)
    · left
      rw [Nat.add_sub_cancel] at h2
      intro c
      rw [dg_e] at c
      have h3 : m / 10 ^ q < 10 := by rw [Nat.div_lt_iff_lt_mul (pw_pos q), Nat.mul_comm, ← Nat.pow_succ]; exact h1
      have h4 : 1 ≤ m / 10 ^ q := by rw [Nat.le_div_iff_mul_le (pw_pos q)]; omega
      omega
  | d + 1 => by
    rw [← Nat.add_assoc, cnt, if_neg, cnt_is h1 h2 hp d]
    intro c
    rcases c with c | c
    · exact c (dg_big h1 (by omega))
    · omega
theorem rm_digitsOf_2 (G : Nat → Nat) (o : Nat) (h : hp_H) (m : Nat) (hm : m < 100000) (S : lm_S) (L : List Nat) (hL : rm_L S L) (hl : L.length + 64 < 1000000) : ∀ (n p : Nat), p ≤ 4 → 5 - p < n → (p = 0 ∨ 10 ^ p ≤ m) → ∃ S', m_M_digitsOf_2 G n o (nI m) (nI (10 ^ p)) (lm_w o h S) = some ((), lm_w o h S') ∧ lT S S' ∧ rm_L S' (L ++ dec m)
  | 0, p, _, hn, _ => by omega
  | n + 1, p, hp, hn, h0 => by
    have hp0 := pw_pos p
    have hp5 : 10 ^ p ≤ 10 ^ 4 := Nat.pow_le_pow_right (by decide) (by omega)
    have hq : m / 10 ^ p < 2 ^ 31 := by have := Nat.div_le_self m (10 ^ p); omega
    rw [m_M_digitsOf_2, hp_dI_n (by omega) hp0 (by omega)]
    simp only [Option.bind_some, hp_nmE, show (9 : Int32) = nI 9 from rfl, nI_leI hq (show 9 < 2 ^ 31 by decide)]
    by_cases c : m / 10 ^ p ≤ 9
    · rw [if_pos c]
      have h1 : m < 10 ^ (p + 1) := by rw [Nat.pow_succ, Nat.mul_comm, ← Nat.div_lt_iff_lt_mul hp0]; omega
      have hc : cnt m 1 19 = p + 1 := by
        have := cnt_is (m := m) (p := p + 1) h1 (by rcases h0 with q | q; left; omega; right; exact q) (by omega) (18 - p)
        rw [show p + 1 + (18 - p) = 19 by omega] at this
        exact this
      have hs : 10 ^ (p + 1) / 10 = 10 ^ p := by rw [Nat.pow_succ, Nat.mul_div_cancel _ (by decide)]
      obtain ⟨S', q1, q2, q3⟩ := rm_digitsOf_20 G o h m hm hp_fu (p + 1) S L (by omega) (by unfold hp_fu; omega) hL (by omega)
      rw [hs] at q1
      exact ⟨S', q1, q2, by unfold dec; rw [hc]; exact q3⟩
    · rw [if_neg c, show (10 : Int32) = nI 10 from rfl, pk_mul, ← Nat.pow_succ]
      have h2 : 10 ^ (p + 1) ≤ m := by rw [Nat.pow_succ, Nat.mul_comm, ← Nat.le_div_iff_mul_le hp0]; omega
      have h4 : p ≤ 3 := by
        refine Nat.le_of_not_lt fun q => ?_
        have : p = 4 := by omega
        subst this
        omega
      exact rm_digitsOf_2 G o h m hm S L hL hl n (p + 1) (by omega) (by omega) (Or.inr h2)
theorem rm_digitsOf (G : Nat → Nat) (o : Nat) (h : hp_H) (m : Nat) (hm : m < 100000) (S : lm_S) (L : List Nat) (hL : rm_L S L) (hl : L.length + 64 < 1000000) : ∃ S', m_M_digitsOf G o (nI m) (lm_w o h S) = some ((), lm_w o h S') ∧ lT S S' ∧ rm_L S' (L ++ dec m) := by
  unfold m_M_digitsOf
  rw [hp_nmE]
  exact rm_digitsOf_2 G o h m hm S L hL hl hp_fu 0 (by omega) (by decide) (Or.inl rfl)
