/-! THE CLASS: keep -/
def CK (G : Nat → Nat) (c q0 : Nat) (K : List Nat) (h : hp_H) (m : Option (Int32 × hp_H)) (r : Int32 × List vV) : Prop := ∃ h', m = some (r.1, h') ∧ ST G c q0 h' r.2 ∧ fr c K h h'
theorem BA.o {h h' : hp_H} {b : Nat} {L : List Nat} (q : BA h b L) (e : h'.1 b = h.1 b) : BA h' b L := by
  obtain ⟨w, f, e1, e2⟩ := q
  exact ⟨w, f, e.trans e1, e2⟩
section
variable (G : Nat → Nat) {c q0 : Nat} {h : hp_H} {vs : List vV}
/-- the store with a value more. h: as it was; h1: with the bytes at b -/
theorem cl_keep_176 {h1 : hp_H} (hs : ST G c q0 h vs) (x : vV) (n2 : vs.length < 2000) (b : Nat) (o1 : ∀ a, a < h.2.1 → h1.1 a = h.1 a) (z1 : h.2.1 ≤ h1.2.1 ∧ h1.2.1 ≤ h.2.1 + 1 ∧ h1.2.2 ≤ h.2.2 + 64) (hb : BA h1 b x.2.2.2.2) (hb2 : b = G 1 ∨ c + 44 ≤ b ∧ b < h1.2.1) : CK G c q0 [2, 3] h (m_S_keep_176 G (c + 1) (nI x.1) (nI x.2.1) (jL x.2.2.1) (nI x.2.2.2.1) (nI (hsh x)) b h1) (nI (vs.length + 1), vs ++ [x]) := by
  obtain ⟨⟨s0, s01, s02⟩, s1, ⟨e, mc, cap, w, f, s2, s3, s4, s5, s6⟩, ⟨hd, s7, s8⟩, s9, s10, s11⟩ := id hs
  have q256 := (hs_e x).2
  have g4 := s11.1 4 (by decide)
  have g1 := s11.1 1 (by decide)
  have S1 : h1.1 (c + 1) = some (.inl (1, [.ref (c + 2), .ref (c + 3), .ref (c + 4), .ref (c + 5)])) := by rw [o1 _ (by omega)]; exact s1
  unfold m_S_keep_176
  rw [hp_nmE, gR_e (k := 0) S1 rfl, bs, hp_nwK]
  have N1 := new_s h1 3 6 [.int 0, .int 0, .long 0, .int 0, .null, .int 0]
  have N2 : ∀ a, a ≠ h1.2.1 → (hp_new h1 3 6 [.int 0, .int 0, .long 0, .int 0, .null, .int 0]).1 a = h1.1 a := fun a ha => new_n _ _ _ _ ha
  have N3 : (hp_new h1 3 6 [.int 0, .int 0, .long 0, .int 0, .null, .int 0]).2 = (h1.2.1 + 1, h1.2.2 + 6) := rfl
  generalize hp_new h1 3 6 [.int 0, .int 0, .long 0, .int 0, .null, .int 0] = h4 at N1 N2 N3
  have lo4 : ∀ a, a < h.2.1 → h4.1 a = h.1 a := fun a ha => by rw [N2 a (by omega), o1 a ha]
  have S4 : h4.1 (c + 1) = some (.inl (1, [.ref (c + 2), .ref (c + 3), .ref (c + 4), .ref (c + 5)])) := by rw [lo4 _ (by omega)]; exact s1
  have H4 : h4.1 (c + 3) = some (.inr (true, .int, 256, .inl hd)) := by rw [lo4 _ (by omega)]; exact s7
  rw [gR_e (k := 1) S4 rfl, bs, aI_e H4 q256 (by decide), bs, s8 _ q256, cl_Vinit G _ _ _ _ _ _ N1 rfl, bs]
  have V5 : (stC h4 h1.2.1 (.inl (3, [.int (nI x.1), .int (nI x.2.1), .long (jL x.2.2.1), .int (nI x.2.2.2.1), .ref b, .int (nI (lst vs (hsh x) vs.length))]))).1 h1.2.1 = some (.inl (3, vF x b (nI (lst vs (hsh x) vs.length)))) := stC_s _ _ _
  have O5 : ∀ a, a ≠ h1.2.1 → (stC h4 h1.2.1 (.inl (3, [.int (nI x.1), .int (nI x.2.1), .long (jL x.2.2.1), .int (nI x.2.2.2.1), .ref b, .int (nI (lst vs (hsh x) vs.length))]))).1 a = h4.1 a := fun a ha => stC_n _ _ ha
  have Z5 : (stC h4 h1.2.1 (.inl (3, [.int (nI x.1), .int (nI x.2.1), .long (jL x.2.2.1), .int (nI x.2.2.2.1), .ref b, .int (nI (lst vs (hsh x) vs.length))]))).2 = (h1.2.1 + 1, h1.2.2 + 6) := by rw [stC_2, N3]
  generalize stC h4 h1.2.1 (.inl (3, [.int (nI x.1), .int (nI x.2.1), .long (jL x.2.2.1), .int (nI x.2.2.2.1), .ref b, .int (nI (lst vs (hsh x) vs.length))])) = h5 at V5 O5 Z5
  have lo5 : ∀ a, a < h.2.1 → h5.1 a = h.1 a := fun a ha => by rw [O5 a (by omega), lo4 a ha]
  have z51 : h5.2.1 = h1.2.1 + 1 := by rw [Z5]
  have z52 : h5.2.2 = h1.2.2 + 6 := by rw [Z5]
  have A5 : h5.1 (c + 2) = some (.inl (2, [.ref e, .int (nI vs.length), .int mc])) := by rw [lo5 _ (by omega)]; exact s2
  have cl5 : c < h.2.1 := Nat.lt_of_lt_of_le (Nat.lt_add_of_pos_right (by decide)) s0
  have el : e < h.2.1 := by
    rcases s4 with q | q
    · rw [q.1]; exact Nat.lt_trans g4 cl5
    · exact q.2.2.1
  have lt5 : h1.2.1 < h5.2.1 := by rw [z51]; exact Nat.lt_succ_self _
  have lt4 : h.2.1 < h5.2.1 := Nat.lt_of_le_of_lt z1.1 lt5
  have E5 : h5.1 e = some (.inr (w, .object "java/lang/Object", cap, .inr (.inr f))) := by rw [lo5 _ el]; exact s3
  obtain ⟨h6, e', cap', f', t1, t2, t3, t4, t5, t6, t7, t8, t9⟩ := cl_alAdd G (h := h5) (n := vs.length) (y := h1.2.1) A5 E5 (by
    rcases s4 with q | q
    · exact Or.inl q
    · exact Or.inr ⟨q.1, q.2.1, by omega, q.2.2.2⟩) s5 n2 (by omega) g4 (fun i hi => by
    obtain ⟨a, b, a1, a2, a3, a4, a5, a6⟩ := s6 i _ (List.getElem?_eq_getElem hi)
    exact ⟨a, _, a1, a2, by omega, by rw [lo5 a a3]; exact a4⟩) V5 (by omega) (by omega)
  have fr6 : ∀ a, a < c + 44 → a ≠ c + 2 → h6.1 a = h.1 a := fun a ha h2 => by rw [t8 a h2 (by omega), lo5 a (by omega)]
  rw [vck_e A5, t1, bs]
  have S6 : h6.1 (c + 1) = some (.inl (1, [.ref (c + 2), .ref (c + 3), .ref (c + 4), .ref (c + 5)])) := by rw [fr6 _ (by omega) (by omega)]; exact s1
  have H6 : h6.1 (c + 3) = some (.inr (true, .int, 256, .inl hd)) := by rw [fr6 _ (by omega) (by omega)]; exact s7
  rw [gR_e (k := 1) S6 rfl, bs, gR_e (k := 0) S6 rfl, bs, vck_e t2]
  unfold m_AL_size
  rw [gI_e (k := 1) t2 rfl, bs, bs, sI_e H6 _ q256 (by decide), bs]
  have S7 : (stC h6 (c + 3) (.inr (true, .int, 256, .inl (upd hd (hsh x) (nI (vs.length + 1)))))).1 (c + 1) = some (.inl (1, [.ref (c + 2), .ref (c + 3), .ref (c + 4), .ref (c + 5)])) := by rw [stC_n _ _ (by omega)]; exact S6
  have A7 : (stC h6 (c + 3) (.inr (true, .int, 256, .inl (upd hd (hsh x) (nI (vs.length + 1)))))).1 (c + 2) = some (.inl (2, [.ref e', .int (nI (vs.length + 1)), .int (mc + 1)])) := by rw [stC_n _ _ (by omega)]; exact t2
  have H7 : (stC h6 (c + 3) (.inr (true, .int, 256, .inl (upd hd (hsh x) (nI (vs.length + 1)))))).1 (c + 3) = some (.inr (true, .int, 256, .inl (upd hd (hsh x) (nI (vs.length + 1))))) := stC_s _ _ _
  have O7 : ∀ a, a ≠ c + 3 → (stC h6 (c + 3) (.inr (true, .int, 256, .inl (upd hd (hsh x) (nI (vs.length + 1)))))).1 a = h6.1 a := fun a ha => stC_n _ _ ha
  have Z7 : (stC h6 (c + 3) (.inr (true, .int, 256, .inl (upd hd (hsh x) (nI (vs.length + 1)))))).2 = h6.2 := rfl
  generalize stC h6 (c + 3) (.inr (true, .int, 256, .inl (upd hd (hsh x) (nI (vs.length + 1))))) = h7 at S7 A7 H7 O7 Z7
  rw [gR_e (k := 0) S7 rfl, bs, vck_e A7, gI_e (k := 1) A7 rfl, bs, bs]
  have fr7 : fr c [2, 3] h h7 := fun a ha hk => by rw [O7 a (hk 3 (by simp)), fr6 a ha (hk 2 (by simp))]
  have big : ∀ a, a ≠ c + 2 → a ≠ c + 3 → a ≠ e' → a ≠ h1.2.1 → h7.1 a = h1.1 a := fun a a1 a2 a3 a4 => by rw [O7 a a2, t8 a a1 a3, O5 a a4, N2 a a4]
  have len1 : (vs ++ [x]).length = vs.length + 1 := by rw [List.length_append]; rfl
  refine ⟨h7, rfl, ⟨⟨?_, ?_, ?_⟩, S7, ⟨e', mc + 1, cap', true, f', ?_, ?_, Or.inr ⟨rfl, t4.1, ?_, t4.2.2.1, t4.2.2.2.1⟩, ?_, fun i y hi => ?_⟩, ⟨_, H7, fun q hq => ?_⟩, ?_, s10.f (k := 5) fr7 (by omega) (by simp) (by simp), s11.f fr7⟩, fr7⟩
  · rw [Z7]; omega
  · rw [Z7, len1]; omega
  · rw [Z7, len1]; omega
  · rw [A7, len1]
  · rw [O7 _ (by omega)]; exact t3
  · rw [Z7]; exact t4.2.1
  · rw [len1]; exact t4.2.2.2.2
  · by_cases hlt : i < vs.length
    · rw [List.getElem?_append_left hlt] at hi
      obtain ⟨a, b', a1, a2, a3, a4, a5, a6⟩ := s6 i y hi
      have ae : a ≠ e' := by
        rcases t7 with q | q
        · rw [q]; intro z; rw [z, s3] at a4; cases a4
        · exact Nat.ne_of_lt (by rw [q]; exact Nat.lt_trans a3 lt4)
      refine ⟨a, b', ?_, a2, by rw [Z7]; omega, ?_, ?_, ?_⟩
      · rw [t6 i hlt]; exact a1
      · rw [big a (by omega) (by omega) ae (by omega), o1 a a3, lst_app (by omega)]; exact a4
      · have be : b' ≠ e' := by
          rcases t7 with q | q
          · rw [q]; intro z
            obtain ⟨w', f'', a7, -⟩ := a5
            rw [z, s3] at a7; cases a7
          · refine Nat.ne_of_lt ?_
            rw [q]
            rcases a6 with z | z
            · rw [z]; exact Nat.lt_trans (Nat.lt_trans g1 cl5) lt4
            · exact Nat.lt_trans z.2 lt4
        exact a5.o (by rw [big b' (by omega) (by omega) be (by omega), o1 b' (by omega)])
      · rw [Z7]; omega
    · have ei : i = vs.length := by
        have := (List.getElem?_eq_some_iff.mp hi).1
        rw [len1] at this
        omega
      subst ei
      rw [List.getElem?_append_right (Nat.le_refl _), Nat.sub_self] at hi
      cases hi
      have oe : h1.2.1 ≠ e' := by
        rcases t7 with q | q
        · exact Nat.ne_of_gt (by rw [q]; exact Nat.lt_of_lt_of_le el z1.1)
        · exact Nat.ne_of_lt (by rw [q]; exact lt5)
      refine ⟨h1.2.1, b, t5, by omega, by rw [Z7]; omega, ?_, ?_, ?_⟩
      · rw [O7 _ (by omega), t8 _ (by omega) oe, V5, lst_app (Nat.le_refl _)]
      · have be : b ≠ e' := by
          rcases t7 with q | q
          · rw [q]; intro z
            obtain ⟨w', f'', a7, -⟩ := hb
            rw [z, o1 e el, s3] at a7; cases a7
          · refine Nat.ne_of_lt ?_
            rw [q]
            rcases hb2 with z | z
            · rw [z]; exact Nat.lt_trans (Nat.lt_trans g1 cl5) lt4
            · exact Nat.lt_trans z.2 lt5
        have bo : b ≠ h1.2.1 := by rcases hb2 with z | z <;> omega
        exact hb.o (big b (by omega) (by omega) be bo)
      · rw [Z7]; omega
  · rw [len1, lst, List.getElem?_append_right (Nat.le_refl _), Nat.sub_self]
    show upd hd (hsh x) (nI (vs.length + 1)) q = nI (if hsh x = q then vs.length + 1 else lst (vs ++ [x]) q vs.length)
    by_cases eq : hsh x = q
    · rw [if_pos eq, ← eq, upd_s]
    · rw [if_neg eq, upd_n _ _ (fun z => eq z.symm), s8 q hq, lst_app (Nat.le_refl _)]
  · rw [fr7.at 4 (by decide) (by simp)]; exact s9
theorem cl_keep_133 (hs : ST G c q0 h vs) (hV : vsO vs) (x : vV) (hw : vW x) {k : Nat} (k43 : k < 43) (hr : RR h (c + k) x.2.2.2.2) (hx : x ∉ vs) : CK G c q0 [2, 3] h (m_S_keep_133 G (c + 1) (nI x.1) (nI x.2.1) (jL x.2.2.1) (nI x.2.2.2.1) (c + k) (nI (hsh x)) h) (kp vs x) := by
  have l64 := hw.2.2.2.2.1
  have hl := hV.2.1
  have s0 := hs.1
  unfold m_S_keep_133 kp
  rw [if_neg (by omega), if_neg hx, gR_e (k := 0) hs.2.1 rfl, bs, al_vck G hs, cl_size G hs, bs, show (2000 : Int32) = nI 2000 from rfl]
  simp only [nI_ltI (show vs.length < 2 ^ 31 by omega) (show 2000 < 2 ^ 31 by decide)]
  by_cases c2 : vs.length = 2000
  · rw [if_neg (by omega), if_pos c2]
    exact ⟨h, rfl, hs, fr.rf⟩
  · rw [if_pos (by omega), if_neg c2, gI_e (k := 1) hr.1 rfl, bs, show min x.2.2.2.2.length 64 = x.2.2.2.2.length by omega]
    by_cases c0 : x.2.2.2.2.length = 0
    · rw [if_pos (by rw [c0]; decide)]
      obtain ⟨w, f, e⟩ := hs.2.2.2.2.2.2.2.2.1
      exact cl_keep_176 G hs x (by omega) (G 1) (fun _ _ => rfl) (by omega) ⟨w, f, by rw [c0]; exact e, fun j hj => by omega⟩ (Or.inl rfl)
    · rw [if_neg (nI_nle (by omega) (by omega)), gR_e (k := 0) hr.1 rfl, bs, bs]
      obtain ⟨h1, t1, t2, t3, t4⟩ := cl_copyOf G hr (by omega) l64 hw.2.2.2.2.2 (by omega)
      rw [t1, bs]
      exact cl_keep_176 G hs x (by omega) h.2.1 (fun a ha => t3 a (by omega)) (by rw [t4]; show h.2.1 ≤ h.2.1 + 1 ∧ h.2.1 + 1 ≤ h.2.1 + 1 ∧ h.2.2 + x.2.2.2.2.length ≤ h.2.2 + 64; omega) t2 (Or.inr ⟨by omega, by rw [t4]; show h.2.1 < h.2.1 + 1; omega⟩)
theorem cl_keep_24 (hs : ST G c q0 h vs) (hV : vsO vs) (x : vV) (hw : vW x) {k : Nat} (k43 : k < 43) (hr : RR h (c + k) x.2.2.2.2) : ∀ (n m st : Nat), m < n → m ≤ vs.length → st + m ≤ 2000 → (∀ i, m ≤ i → vs[i]? ≠ some x) → CK G c q0 [2, 3] h (m_S_keep_24 G n (c + 1) (nI x.1) (nI x.2.1) (jL x.2.2.1) (nI x.2.2.2.1) (c + k) (nI (hsh x)) (nI (lst vs (hsh x) m)) (nI st) h) (kp vs x)
  | 0, m, st, hn, _, _, _ => by omega
  | n + 1, m, st, hn, hm, hst, hno => by
    have hl := hV.2.1
    have ll := lst_le vs (hsh x) m
    rw [m_S_keep_24]
    by_cases l0 : lst vs (hsh x) m = 0
    · rw [if_pos (show nI (lst vs (hsh x) m) < 1 by rw [l0]; decide)]
      refine cl_keep_133 G hs hV x hw k43 hr (fun q => ?_)
      obtain ⟨i, hi, e⟩ := List.getElem_of_mem q
      have e : vs[i]? = some x := by rw [List.getElem?_eq_getElem hi, e]
      by_cases im : i < m
      · exact lst_no (q := hsh x) (by omega) im e rfl
      · exact hno i (by omega) e
    · obtain ⟨j, hj⟩ : ∃ j, lst vs (hsh x) m = j + 1 := ⟨lst vs (hsh x) m - 1, by omega⟩
      rw [hj]
      obtain ⟨y, hy, hhy, jm⟩ := lst_at hj
      rw [if_neg (show ¬ nI (j + 1) < 1 from nI_nlt (a := j + 1) (b := 1) (by omega) (by omega)), gR_e (k := 0) hs.2.1 rfl, bs, al_vck G hs, cl_size G hs, bs, if_neg (nI_nlt (show j + 1 ≤ vs.length by omega) (by omega)), if_neg (show ¬ (2000 : Int32) ≤ nI st from nI_ge (a := st) (b := 2000) (by omega) (by decide)), gR_e (k := 0) hs.2.1 rfl, bs, al_vck G hs, show nI (j + 1) - 1 = nI j from nI_pred j]
      obtain ⟨a, b, p1, p2, p3, p4, p5⟩ := cl_get G hs hl hy
      have wy : vW y := by have := hV.2.2 y (List.mem_of_getElem? hy); exact this.1.W this.2
      rw [p1, bs, vck_e p3, hp_nmE, gI_e (k := 0) p3 rfl, bs]
      have next : y ≠ x → CK G c q0 [2, 3] h (m_S_keep_120 G (m_S_keep_24 G n) (c + 1) (nI x.1) (nI x.2.1) (jL x.2.2.1) (nI x.2.2.2.1) (c + k) (nI (hsh x)) (nI st) a h) (kp vs x) := fun ne => by
        rw [m_S_keep_120, gI_e (k := 5) p3 rfl, bs, hp_nmE, hp_nmE, nI_1, hhy]
        refine cl_keep_24 hs hV x hw k43 hr n j (st + 1) (by omega) (by omega) (by omega) (fun i hi e => ?_)
        by_cases ij : i = j
        · subst ij; rw [hy] at e; exact ne (Option.some.inj e)
        · by_cases im : i < m
          · exact lst_no (q := hsh x) (by omega) im e rfl
          · exact hno i (by omega) e
      have x1 := hw.1
      have x2 := hw.2.1
      have x3 := hw.2.2.1
      have x4 := hw.2.2.2.1
      have y1 := wy.1
      have y2 := wy.2.1
      have y3 := wy.2.2.1
      have y4 := wy.2.2.2.1
      have c3 : lg_cmp (jL y.2.2.1) (jL x.2.2.1) = 0 ↔ y.2.2.1 = x.2.2.1 := by
        rw [lgc_eq, jL_eq (by unfold iL; omega) (by unfold iL; omega)]
      clear x3 y3
      simp only [nI_eq (show y.1 < 2 ^ 31 by omega) (show x.1 < 2 ^ 31 by omega)]
      by_cases e1 : y.1 = x.1
      · rw [if_pos e1, gI_e (k := 1) p3 rfl, bs]
        simp only [nI_eq (show y.2.1 < 2 ^ 31 by omega) (show x.2.1 < 2 ^ 31 by omega)]
        by_cases e2 : y.2.1 = x.2.1
        · rw [if_pos e2, gL_e (k := 2) p3 rfl, bs]
          by_cases e3 : y.2.2.1 = x.2.2.1
          · rw [if_pos (c3.mpr e3), gI_e (k := 3) p3 rfl, bs]
            simp only [nI_eq (show y.2.2.2.1 < 2 ^ 31 by omega) (show x.2.2.2.1 < 2 ^ 31 by omega)]
            by_cases e4 : y.2.2.2.1 = x.2.2.2.1
            · rw [if_pos e4, gR_e (k := 4) p3 rfl, bs, vck_e hr.1, cl_holds G hw.2.2.2.2.1 wy.2.2.2.2.1 hw.2.2.2.2.2 wy.2.2.2.2.2 hr p4, bs]
              by_cases e5 : x.2.2.2.2 = y.2.2.2.2
              · rw [decide_eq_true e5, if_neg (show ¬ bI true = 0 by decide)]
                have ex : y = x := Prod.ext e1 (Prod.ext e2 (Prod.ext e3 (Prod.ext e4 e5.symm)))
                subst ex
                unfold kp
                rw [if_neg (by have := hw.2.2.2.2.1; omega), if_pos (List.mem_of_getElem? hy), idx_at hV.1 hy]
                exact ⟨h, rfl, hs, fr.rf⟩
              · rw [decide_eq_false e5, if_pos (show bI false = 0 from rfl)]
                exact next (fun z => e5 (by rw [z]))
            · rw [if_neg e4]; exact next (fun z => e4 (by rw [z]))
          · rw [if_neg (fun z => e3 (c3.mp z))]; exact next (fun z => e3 (by rw [z]))
        · rw [if_neg e2]; exact next (fun z => e2 (by rw [z]))
      · rw [if_neg e1]; exact next (fun z => e1 (by rw [z]))
theorem cl_keep (hs : ST G c q0 h vs) (hV : vsO vs) (x : vV) (hw : vW x) {k : Nat} (k43 : k < 43) (hr : RR h (c + k) x.2.2.2.2) : CK G c q0 [2, 3] h (m_S_keep G (c + 1) (nI x.1) (nI x.2.1) (jL x.2.2.1) (nI x.2.2.2.1) (c + k) h) (kp vs x) := by
  have hl := hV.2.1
  obtain ⟨hd, s7, s8⟩ := hs.2.2.2.1
  have q256 := (hs_e x).2
  unfold m_S_keep
  rw [cl_chainOf G x rfl hw.2.2.2.2.1 hr, bs, hp_nmE, gR_e (k := 1) hs.2.1 rfl, bs, aI_e s7 q256 (by decide), bs, s8 _ q256, hp_nmE, hp_nmE]
  exact cl_keep_24 G hs hV x hw k43 hr hp_fu vs.length 0 (by unfold hp_fu; omega) (Nat.le_refl _) (by omega) (fun i hi e => by have := (List.getElem?_eq_some_iff.mp e).1; omega)
theorem cl_keepNumber (hs : ST G c q0 h vs) (hV : vsO vs) (kd : Nat) (a : Int) (sc : Nat) (hw : vW (kd, 0, a, sc, [])) : CK G c q0 [2, 3] h (m_S_keepNumber G (c + 1) (nI kd) (jL a) (nI sc) h) (kp vs (kd, 0, a, sc, [])) := by
  unfold m_S_keepNumber
  rw [gR_e (k := 3) hs.2.1 rfl, bs, vck_e hs.2.1, bq]
  exact cl_keep G hs hV (kd, 0, a, sc, []) hw (k := 5) (by decide) hs.2.2.2.2.2.1
theorem cl_keepTruth (hs : ST G c q0 h vs) (hV : vsO vs) (w : Bool) : CK G c q0 [2, 3] h (m_S_keepTruth G (c + 1) (bI w) h) (kp vs (trV w)) := by
  unfold m_S_keepTruth m_S_keepTruth_12
  have := cl_keep G hs hV (trV w) (by cases w <;> exact ⟨by decide, by decide, by decide, by decide, by decide, fun b hb => by cases hb⟩) (k := 5) (by decide) hs.2.2.2.2.2.1
  cases w with
  | false =>
    rw [if_pos (show bI false = 0 from rfl), gR_e (k := 3) hs.2.1 rfl, bs, vck_e hs.2.1, bq]
    exact this
  | true =>
    rw [if_neg (show ¬ bI true = 0 by decide), gR_e (k := 3) hs.2.1 rfl, bs, vck_e hs.2.1, bq]
    exact this
theorem cl_keepNumbered (hs : ST G c q0 h vs) (hV : vsO vs) (kd e : Nat) (hw : vW (kd, e, 0, 0, [])) : CK G c q0 [2, 3] h (m_S_keepNumbered G (c + 1) (nI kd) (nI e) h) (kp vs (kd, e, 0, 0, [])) := by
  unfold m_S_keepNumbered
  rw [gR_e (k := 3) hs.2.1 rfl, bs, vck_e hs.2.1, bq]
  exact cl_keep G hs hV (kd, e, 0, 0, []) hw (k := 5) (by decide) hs.2.2.2.2.2.1
theorem cl_keepRow (hs : ST G c q0 h vs) (hV : vsO vs) (kd e : Nat) (L : List Nat) (hw : L.length ≤ 64 → vW (kd, e, 0, 0, L)) {k : Nat} (k43 : k < 43) (hr : RR h (c + k) L) : CK G c q0 [2, 3] h (m_S_keepRow G (c + 1) (nI kd) (nI e) (c + k) h) (kp vs (kd, e, 0, 0, L)) := by
  unfold m_S_keepRow m_S_keepRow_21
  rw [gI_e (k := 2) hr.1 rfl, bs]
  by_cases l : 64 < L.length
  · rw [decide_eq_true l, if_neg (show ¬ bI true = 0 by decide)]
    unfold kp
    rw [if_pos l]
    exact ⟨h, rfl, hs, fr.rf⟩
  · rw [decide_eq_false l, if_pos (show bI false = 0 from rfl), vck_e hs.2.1, bq]
    exact cl_keep G hs hV (kd, e, 0, 0, L) (hw (by omega)) k43 hr
end
