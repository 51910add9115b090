/-! THE CLASS: rows of bytes. RR: a row (at r, its bytes at r + 1) to which L was put; what is above 64 is lost, and that it was is kept -/
def sB (b : Nat) : Int32 := (nI b).toInt8.toInt32
theorem sB_lt {b : Nat} (h : b < 128) : sB b = nI b := by
  have : ∀ b, b < 128 → sB b = nI b := by decide +kernel
  exact this b h
theorem t8_8 (x : Int32) : x.toInt8.toInt32.toInt8.toInt32 = x.toInt8.toInt32 := by simp
theorem sB_fit (b : Nat) : fits .byte (.int (sB b)) = true := by
  have key : ∀ x : Int8, fits .byte (.int x.toInt32) = true := fun x => by
    show (decide ((-128 : Int32) ≤ x.toInt32) && decide (x.toInt32 ≤ 127)) = true
    have h1 := x.le_toInt
    have h2 := x.toInt_lt
    rw [decide_eq_true, decide_eq_true]
    · rfl
    · rw [Int32.le_iff_toInt_le, Int8.toInt_toInt32]
      show x.toInt ≤ 127
      omega
    · rw [Int32.le_iff_toInt_le, Int8.toInt_toInt32]
      show -128 ≤ x.toInt
      omega
  exact key _
def BA (h : hp_H) (b : Nat) (L : List Nat) : Prop := ∃ w f, h.1 b = some (.inr (w, .byte, L.length, .inl f)) ∧ bts L f
def rF (r : Nat) (L : List Nat) : List Value := [.ref (r + 1), .int (nI (min L.length 64)), .int (bI (decide (64 < L.length)))]
def RR (h : hp_H) (r : Nat) (L : List Nat) : Prop := h.1 r = some (.inl (4, rF r L)) ∧ ∃ f, h.1 (r + 1) = some (.inr (true, .byte, 64, .inl f)) ∧ ∀ k, k < L.length → k < 64 → f k = sB (L.getD k 0)
def off (c b : Nat) : Prop := b < c ∨ c + 44 ≤ b
theorem chg.off {c : Nat} {K : List Nat} {h h' : hp_H} (p : chg c K h h') (hK : ∀ k ∈ K, k < 44) {b : Nat} (hb : off c b) : h'.1 b = h.1 b := p.2 b (fun k hk e => by have := hK k hk; rcases hb with q | q <;> omega)
theorem BA.c {c : Nat} {K : List Nat} {h h' : hp_H} {b : Nat} {L : List Nat} (q : BA h b L) (p : chg c K h h') (hK : ∀ k ∈ K, k < 44) (hb : off c b) : BA h' b L := by
  obtain ⟨w, f, e1, e2⟩ := q
  exact ⟨w, f, by rw [p.off hK hb]; exact e1, e2⟩
theorem RR.e {h h' : hp_H} {r : Nat} {L : List Nat} (q : RR h r L) (e1 : h'.1 r = h.1 r) (e2 : h'.1 (r + 1) = h.1 (r + 1)) : RR h' r L := by
  obtain ⟨q1, f, q2, q3⟩ := q
  exact ⟨e1.trans q1, f, e2.trans q2, q3⟩
theorem RR.c {c k : Nat} {K : List Nat} {h h' : hp_H} {L : List Nat} (q : RR h (c + k) L) (p : chg c K h h') (h1 : k ∉ K) (h2 : k + 1 ∉ K) : RR h' (c + k) L := q.e (p.at k h1) (p.at (k + 1) h2)
theorem RR.f {c k : Nat} {K : List Nat} {h h' : hp_H} {L : List Nat} (q : RR h (c + k) L) (p : fr c K h h') (h0 : k < 43) (h1 : k ∉ K) (h2 : k + 1 ∉ K) : RR h' (c + k) L := q.e (p.at k (by omega) h1) (p.at (k + 1) (by omega) h2)
section
variable (G : Nat → Nat) {c k : Nat} {h : hp_H} {L : List Nat}
theorem cl_put {x : Int32} {b : Nat} (hr : RR h (c + k) L) (hx : x.toInt8.toInt32 = sB b) : ∃ h', m_R_put G (c + k) x h = some ((), h') ∧ RR h' (c + k) (L ++ [b]) ∧ chg c [k, k + 1] h h' := by
  obtain ⟨q1, f, q2, q3⟩ := hr
  have g1 : hp_gI h (c + k) 4 1 = some (nI (min L.length 64)) := gI_e q1 rfl
  have g0 : hp_gR h (c + k) 4 0 = some (c + k + 1) := gR_e q1 rfl
  unfold m_R_put
  rw [g1, bs, show (64 : Int32) = nI 64 from rfl]
  simp only [nI_ltI (show min L.length 64 < 2 ^ 31 by omega) (show 64 < 2 ^ 31 by decide)]
  by_cases e : L.length < 64
  · rw [if_pos (by omega), g0, bs, bs, t8_8, hx, show min L.length 64 = L.length by omega, sI_e q2 (sB b) e (by decide), bs]
    have e1 : (stC h (c + k + 1) (.inr (true, .byte, 64, .inl (upd f L.length (sB b))))).1 (c + k) = some (.inl (4, rF (c + k) L)) := by rw [stC_n _ _ (by omega)]; exact q1
    rw [gI_e (k := 1) e1 rfl, bs, p_e (k := 1) e1 _ (show 1 < 3 by decide), bs]
    refine ⟨_, rfl, ⟨?_, ?_⟩, ?_⟩
    · rw [stC_s]
      refine congrArg (fun l => some (Sum.inl (4, l))) ?_
      show [Value.ref (c + k + 1), .int (nI (min L.length 64) + 1), .int (bI (decide (64 < L.length)))] = rF (c + k) (L ++ [b])
      unfold rF
      rw [List.length_append, nI_1, show min L.length 64 + 1 = min (L.length + [b].length) 64 by simp; omega, decide_eq_false (show ¬ 64 < L.length by omega), decide_eq_false (show ¬ 64 < L.length + [b].length by simp; omega)]
    · refine ⟨upd f L.length (sB b), ?_, fun j hj h64 => ?_⟩
      · rw [stC_n _ _ (by omega), stC_s]
      · rw [List.length_append] at hj
        have hj : j < L.length + 1 := hj
        rw [getD_snoc L b j hj]
        by_cases ej : j < L.length
        · rw [if_pos ej, upd_n _ _ (by omega)]; exact q3 j ej h64
        · rw [if_neg ej, show j = L.length by omega, upd_s]
    · exact chg.tr (chg_st (k := k + 1) _ (by simp)) (chg_st (k := k) _ (by simp))
  · rw [if_neg (by omega), show (1 : Int32) = bI true from rfl, pZ_e (k := 2) q1 true (show 2 < 3 by decide), bs]
    refine ⟨_, rfl, ⟨?_, f, ?_, fun j hj h64 => ?_⟩, chg_st (k := k) _ (by simp)⟩
    · rw [stC_s]
      refine congrArg (fun l => some (Sum.inl (4, l))) ?_
      show [Value.ref (c + k + 1), .int (nI (min L.length 64)), .int (bI true)] = rF (c + k) (L ++ [b])
      unfold rF
      rw [List.length_append, show min (L.length + [b].length) 64 = min L.length 64 by simp; omega, decide_eq_true (show 64 < L.length + [b].length by simp; omega)]
    · rw [stC_n _ _ (by omega)]; exact q2
    · rw [List.length_append] at hj
      have hj : j < L.length + 1 := hj
      rw [getD_snoc L b j hj, if_pos (by omega)]
      exact q3 j (by omega) h64
theorem cl_clear (hr : RR h (c + k) L) : ∃ h', m_R_clear G (c + k) h = some ((), h') ∧ RR h' (c + k) [] ∧ chg c [k, k + 1] h h' := by
  obtain ⟨q1, f, q2, q3⟩ := hr
  unfold m_R_clear
  rw [p_e (k := 1) q1 _ (show 1 < 3 by decide), bs, show hp_pZ (stC h (c + k) (.inl (4, (rF (c + k) L).set 1 (.int 0)))) (c + k) 4 2 0 = _ from pZ_e (k := 2) (stC_s _ _ _) false (show 2 < 3 by decide), bs, stC_c]
  refine ⟨_, rfl, ⟨?_, f, ?_, fun j hj => by cases hj⟩, chg_st (k := k) _ (by simp)⟩
  · rw [stC_s]; rfl
  · rw [stC_n _ _ (by omega)]; exact q2
theorem cl_putPart_7 {a : Nat} {B : List Nat} (ha : off c a) (hk : k < 43) (hB : ∀ b ∈ B, b < 128) (e : Nat) (he : e < 2 ^ 31) (hBl : B.length < 2 ^ 31) : ∀ (n i : Nat) (h : hp_H) (L : List Nat), e - i < n → i < 2 ^ 31 → RR h (c + k) L → BA h a B → ∃ h', m_R_putPart_7 G n (c + k) a (nI e) (nI i) h = some ((), h') ∧ RR h' (c + k) (L ++ (B.drop i).take (e - i)) ∧ chg c [k, k + 1] h h'
  | 0, i, h, L, hn, _, _, _ => by omega
  | n + 1, i, h, L, hn, hi, hr, hb => by
    obtain ⟨w, f, b1, b2⟩ := id hb
    rw [m_R_putPart_7]
    simp only [nI_leI he hi]
    by_cases q : e ≤ i
    · rw [if_pos q, show e - i = 0 by omega, List.take_zero, List.append_nil]
      exact ⟨h, rfl, hr, chg.rf⟩
    · rw [if_neg q, len_e b1, bs]
      simp only [nI_leI hBl hi]
      by_cases q2 : B.length ≤ i
      · rw [if_pos q2, List.drop_eq_nil_of_le q2, List.take_nil, List.append_nil]
        exact ⟨h, rfl, hr, chg.rf⟩
      · rw [if_neg q2, aI_e b1 (show i < B.length by omega) hBl, bs, b2 i (by omega), vck_e hr.1]
        have bx : B.getD i 0 < 128 := hB _ (by rw [List.getD_eq_getElem?_getD, List.getElem?_eq_getElem (by omega)]; exact List.getElem_mem _)
        obtain ⟨h1, e1, e2, e3⟩ := cl_put G hr (x := nI (B.getD i 0)) (b := B.getD i 0) rfl
        rw [e1, bs, hp_nmE, nI_1]
        obtain ⟨h2, f1, f2, f3⟩ := cl_putPart_7 ha hk hB e he hBl n (i + 1) h1 (L ++ [B.getD i 0]) (by omega) (by omega) e2 (hb.c e3 (by simp; omega) ha)
        refine ⟨h2, f1, ?_, e3.tr f3⟩
        rw [take_s (show i < B.length by omega), show e - i = (e - (i + 1)) + 1 by omega, List.take_succ_cons]
        rw [List.append_assoc] at f2
        exact f2
theorem cl_putPart {a : Nat} {B : List Nat} (ha : off c a) (hk : k < 43) (hB : ∀ b ∈ B, b < 128) {s e : Nat} (hs : s < 2 ^ 31) (he : e < 2 ^ 31) (hBl : B.length < 2 ^ 31) (hr : RR h (c + k) L) (hb : BA h a B) : ∃ h', m_R_putPart G (c + k) a (nI s) (nI e) h = some ((), h') ∧ RR h' (c + k) (L ++ (B.drop s).take (e - s)) ∧ chg c [k, k + 1] h h' := by
  unfold m_R_putPart
  rw [show m_MA_max G (nI s) 0 h = _ from cl_max G h (b := 0) hs (by decide), bs, hp_nmE, Nat.max_eq_left (Nat.zero_le s)]
  exact cl_putPart_7 G ha hk hB e he hBl hp_fu s h L (by unfold hp_fu; omega) hs hr hb
/-- the whole of it -/
theorem cl_putAll {a : Nat} {B : List Nat} (ha : off c a) (hk : k < 43) (hB : ∀ b ∈ B, b < 128) (hBl : B.length < 2 ^ 31) (hr : RR h (c + k) L) (hb : BA h a B) : ∃ h', m_R_putPart G (c + k) a 0 (nI B.length) h = some ((), h') ∧ RR h' (c + k) (L ++ B) ∧ chg c [k, k + 1] h h' := by
  have := cl_putPart G ha hk hB (s := 0) (by decide) hBl hBl hr hb
  rw [List.drop_zero, Nat.sub_zero, List.take_of_length_le (Nat.le_refl _)] at this
  exact this
theorem sm_c {K : List Nat} {h' : hp_H} (s : SM G c h) (p : chg c K h h') : SM G c h' := ⟨⟨s.1.1, s.1.2.1, s.1.2.2.1, fun i hi => by rw [p.lo (s.2 i hi)]; exact s.1.2.2.2 i hi⟩, s.2⟩
theorem cl_putWord_2 (i : Nat) (hi : i < 3) : ∀ (n j : Nat) (h : hp_H) (L : List Nat), (wdS i).length - j < n → j ≤ (wdS i).length → SM G c h → RR h (c + k) L → ∃ h', m_R_putWord_2 G n (c + k) (G (5 + i)) (nI j) h = some ((), h') ∧ RR h' (c + k) (L ++ (wdS i).drop j) ∧ chg c [k, k + 1] h h'
  | 0, j, h, L, hn, _, _, _ => by omega
  | n + 1, j, h, L, hn, hj, hG, hr => by
    have l5 : (wdS i).length ≤ 5 := by rcases (show i = 0 ∨ i = 1 ∨ i = 2 by omega) with e | e | e <;> subst e <;> decide
    have sck : ∀ {β : Type} (X : Option β), hp_sck G (G (5 + i)) X = X := fun X => by rw [hp_sck, if_pos (hp_s_i G i hi)]
    rw [m_R_putWord_2, sck, st_length hG.1 i hi, bs]
    simp only [nI_leI (show (wdS i).length < 2 ^ 31 by omega) (show j < 2 ^ 31 by omega)]
    by_cases e : (wdS i).length ≤ j
    · rw [if_pos e, List.drop_eq_nil_of_le e, List.append_nil]
      exact ⟨h, rfl, hr, chg.rf⟩
    · rw [if_neg e, sck, st_charAt hG.1 i hi j (by omega), bs, vck_e hr.1]
      obtain ⟨h1, e1, e2, e3⟩ := cl_put G hr (x := nI ((wdS i).getD j 0)) (b := (wdS i).getD j 0) rfl
      rw [e1, bs, hp_nmE, nI_1]
      obtain ⟨h2, f1, f2, f3⟩ := cl_putWord_2 i hi n (j + 1) h1 (L ++ [(wdS i).getD j 0]) (by omega) (by omega) (sm_c G hG e3) e2
      refine ⟨h2, f1, ?_, e3.tr f3⟩
      rw [take_s (show j < (wdS i).length by omega)]
      rw [List.append_assoc] at f2
      exact f2
theorem cl_putWord (i : Nat) (hi : i < 3) (hG : SM G c h) (hr : RR h (c + k) L) : ∃ h', m_R_putWord G (c + k) (G (5 + i)) h = some ((), h') ∧ RR h' (c + k) (L ++ wdS i) ∧ chg c [k, k + 1] h h' := by
  have l5 : (wdS i).length ≤ 5 := by rcases (show i = 0 ∨ i = 1 ∨ i = 2 by omega) with e | e | e <;> subst e <;> decide
  unfold m_R_putWord
  rw [hp_nmE]
  exact cl_putWord_2 G i hi hp_fu 0 h L (by unfold hp_fu; omega) (by omega) hG hr
theorem dg_dL {a p : Nat} (ha : iM (a : Int)) (hp : p < 19) : ∃ z, hp_dL (jL (a : Int)) (jL ((10 ^ p : Nat) : Int)) = some z ∧ hp_mL z 10 = some (jL ((dg a p : Nat) : Int)) := by
  have ip := iP_k hp
  have i1 := ip.1
  refine ⟨_, hp_dL_j ha.L ip.L (by omega) (by omega), ?_⟩
  have e : ((a : Int).tdiv ((10 ^ p : Nat) : Int)) = ((a / 10 ^ p : Nat) : Int) := Int.ofNat_tdiv a (10 ^ p)
  have l : iL ((a / 10 ^ p : Nat) : Int) := by
    have := Nat.div_le_self a (10 ^ p)
    unfold iM at ha
    unfold iL
    generalize a / 10 ^ p = z at *
    omega
  rw [e, show (10 : Int64) = jL 10 from rfl, hp_mL_j l ⟨by decide, by decide⟩ (by decide) (by decide)]
  exact congrArg (fun z => some (jL z)) (Int.ofNat_tmod _ 10)
theorem dg_put {a p : Nat} : ((48 : Int64) + jL ((dg a p : Nat) : Int)).toInt32.toInt8.toInt32 = sB (48 + dg a p) := by
  have d := dg_lt a p
  rw [show (48 : Int64) = jL 48 from rfl, jL_add, jL_32]
  exact congrArg (fun z : Int32 => z.toInt8.toInt32) (iI_nat (by omega))
theorem cl_putDigits_11 (a l : Nat) (hl : l < 2 ^ 31) (ha : iM (a : Int)) : ∀ (n p : Nat) (h : hp_H) (L : List Nat) (w : Bool), p < n → p ≤ 19 → SC G c h → RR h (c + k) L → ∃ h', m_R_putDigits_11 G n (c + k) (jL (a : Int)) (nI l) (bI w) (iI ((p : Int) - 1)) h = some ((), h') ∧ RR h' (c + k) (L ++ dl a (if w then p else cnt a l p)) ∧ chg c [k, k + 1] h h'
  | 0, p, h, L, w, hn, _, _, _ => by omega
  | n + 1, p, h, L, w, hn, hp, hs, hr => by
    rw [m_R_putDigits_11]
    cases p with
    | zero =>
      rw [if_pos (show iI (((0 : Nat) : Int) - 1) < 0 by decide)]
      have : dl a (if w then 0 else cnt a l 0) = [] := by cases w <;> rfl
      rw [this, List.append_nil]
      exact ⟨h, rfl, hr, chg.rf⟩
    | succ p =>
      have ep : iI (((p + 1 : Nat) : Int) - 1) = nI p := iI_nat (by omega)
      rw [ep, if_neg (nI_pos (by omega)), cl_power G h hs (show p < 19 by omega), bs]
      obtain ⟨z, z1, z2⟩ := dg_dL ha (show p < 19 by omega)
      have em : nI p + -1 = iI ((p : Int) - 1) := by rw [show (-1 : Int32) = iI (-1) from rfl, nI_iI, iI_add]; exact congrArg iI (by omega)
      have dgl := dg_lt a p
      have c0 : lg_cmp (jL ((dg a p : Nat) : Int)) 0 = 0 ↔ dg a p = 0 := by
        rw [lgc_eq, ← jL_0, jL_eq (by unfold iL; omega) iL_0]; omega
      have yes : ∃ h', m_R_putDigits_52 G (m_R_putDigits_11 G n) (c + k) (jL (a : Int)) (nI l) (nI p) (jL ((dg a p : Nat) : Int)) 1 h = some ((), h') ∧ RR h' (c + k) (L ++ dl a (p + 1)) ∧ chg c [k, k + 1] h h' := by
        rw [m_R_putDigits_52, hp_nmE, if_neg (show ¬ (1 : Int32) = 0 by decide), vck_e hr.1]
        obtain ⟨h1, e1, e2, e3⟩ := cl_put G hr (x := ((48 : Int64) + jL ((dg a p : Nat) : Int)).toInt32) (b := 48 + dg a p) dg_put
        rw [e1, bs, m_R_putDigits_70, hp_nmE, em]
        obtain ⟨h2, f1, f2, f3⟩ := cl_putDigits_11 a l hl ha n p h1 (L ++ [48 + dg a p]) true (by omega) (by omega) (hs.c e3) e2
        refine ⟨h2, f1, ?_, e3.tr f3⟩
        rw [List.append_assoc] at f2
        rw [dl]
        exact f2
      rw [z1, bs, z2, bs, hp_nmE]
      unfold m_R_putDigits_47
      cases w with
      | true =>
        rw [if_neg (show ¬ bI true = 0 by decide), if_pos (show true = true from rfl)]
        exact yes
      | false =>
        rw [if_pos (show bI false = 0 from rfl), if_neg (show ¬ false = true by decide), cnt]
        by_cases d : dg a p = 0
        · rw [if_pos (c0.mpr d)]
          simp only [nI_leI hl (show p < 2 ^ 31 by omega)]
          by_cases q : l ≤ p
          · rw [if_pos q, if_neg (fun z => by rcases z with z | z; exact z d; omega), m_R_putDigits_52, hp_nmE, if_pos (show (0 : Int32) = 0 from rfl), m_R_putDigits_70, hp_nmE, em]
            exact cl_putDigits_11 a l hl ha n p h L false (by omega) (by omega) hs hr
          · rw [if_neg q, if_pos (Or.inr (by omega))]
            exact yes
        · rw [if_neg (fun z => d (c0.mp z)), if_pos (Or.inl d)]
          exact yes
theorem cl_putDigits {a l : Nat} (hl : l < 2 ^ 31) (ha : iM (a : Int)) (hs : SC G c h) (hr : RR h (c + k) L) : ∃ h', m_R_putDigits G (c + k) (jL (a : Int)) (nI l) h = some ((), h') ∧ RR h' (c + k) (L ++ dl a (cnt a l 19)) ∧ chg c [k, k + 1] h h' := by
  obtain ⟨w, f, e1, -⟩ := hs.2.1
  unfold m_R_putDigits
  simp only [hp_nmE, len_e e1, bs]
  exact cl_putDigits_11 G a l hl ha hp_fu 19 h L false (by decide) (by omega) hs hr
theorem cl_isText_2 {T : List Nat} (hT : ∀ b ∈ T, b < 256) (hl : T.length ≤ 64) (hr : RR h (c + k) T) : ∀ (n i : Nat), T.length - i < n → i ≤ T.length → T.all okB = (T.drop i).all okB → m_R_isText_2 G n (c + k) (nI i) h = some (bI (T.all okB), h)
  | 0, i, hn, _, _ => by omega
  | n + 1, i, hn, hi, he => by
    obtain ⟨q1, f, q2, q3⟩ := hr
    rw [m_R_isText_2, gI_e (k := 1) q1 rfl, bs, show min T.length 64 = T.length by omega]
    simp only [nI_leI (show T.length < 2 ^ 31 by omega) (show i < 2 ^ 31 by omega)]
    by_cases e : T.length ≤ i
    · rw [if_pos e, he, List.drop_eq_nil_of_le e]; rfl
    · rw [if_neg e, if_neg (show ¬ (64 : Int32) ≤ nI i from nI_ge (a := i) (b := 64) (by omega) (by decide)), gR_e (k := 0) q1 rfl, bs, aI_e q2 (show i < 64 by omega) (by decide), bs, q3 i (by omega) (by omega)]
      have bx : T.getD i 0 < 256 := hT _ (by rw [List.getD_eq_getElem?_getD, List.getElem?_eq_getElem (by omega)]; exact List.getElem_mem _)
      have key : ∀ b, b < 256 → ((0 < sB b) ↔ okB b = true) := by decide +kernel
      rw [take_s (show i < T.length by omega), List.all_cons] at he
      by_cases d : okB (T.getD i 0) = true
      · rw [if_pos ((key _ bx).mpr d), hp_nmE, nI_1]
        rw [d, Bool.true_and] at he
        exact cl_isText_2 hT hl ⟨q1, f, q2, q3⟩ n (i + 1) (by omega) (by omega) he
      · rw [if_neg (fun z => d ((key _ bx).mp z)), he]
        rw [Bool.not_eq_true] at d
        rw [d]; rfl
theorem cl_isText {T : List Nat} (hT : ∀ b ∈ T, b < 256) (hl : T.length ≤ 64) (hr : RR h (c + k) T) : m_R_isText G (c + k) h = some (bI (T.all okB), h) := by
  unfold m_R_isText
  rw [hp_nmE]
  exact cl_isText_2 G hT hl hr hp_fu 0 (by unfold hp_fu; omega) (by omega) (by rw [List.drop_zero])
theorem cl_holds_13 {B : List Nat} {a : Nat} (hl : L.length ≤ 64) (hL : ∀ b ∈ L, b < 128) (hB : ∀ b ∈ B, b < 128) (he : L.length = B.length) (hr : RR h (c + k) L) (hb : BA h a B) : ∀ (n i : Nat), L.length - i < n → i ≤ L.length → (∀ j, j < i → L.getD j 0 = B.getD j 0) → m_R_holds_13 G n (c + k) a (nI i) h = some (bI (decide (L = B)), h)
  | 0, i, hn, _, _ => by omega
  | n + 1, i, hn, hi, hz => by
    obtain ⟨q1, f, q2, q3⟩ := hr
    obtain ⟨w, g, b1, b2⟩ := hb
    rw [m_R_holds_13, gI_e (k := 1) q1 rfl, bs, show min L.length 64 = L.length by omega]
    simp only [nI_leI (show L.length < 2 ^ 31 by omega) (show i < 2 ^ 31 by omega)]
    by_cases e : L.length ≤ i
    · rw [if_pos e, decide_eq_true (list_ext0 he (fun j hj => hz j (by omega)))]; rfl
    · rw [if_neg e, len_e b1, bs, if_neg (nI_ge (by omega) (by omega)), gR_e (k := 0) q1 rfl, bs, aI_e q2 (show i < 64 by omega) (by decide), bs, q3 i (by omega) (by omega), aI_e b1 (show i < B.length by omega) (by omega), bs, b2 i (by omega)]
      have bx : L.getD i 0 < 128 := hL _ (by rw [List.getD_eq_getElem?_getD, List.getElem?_eq_getElem (by omega)]; exact List.getElem_mem _)
      have by_ : B.getD i 0 < 128 := hB _ (by rw [List.getD_eq_getElem?_getD, List.getElem?_eq_getElem (by omega)]; exact List.getElem_mem _)
      rw [sB_lt bx]
      simp only [nI_eq (show L.getD i 0 < 2 ^ 31 by omega) (show B.getD i 0 < 2 ^ 31 by omega)]
      by_cases d : L.getD i 0 = B.getD i 0
      · rw [if_pos d, hp_nmE, nI_1]
        exact cl_holds_13 hl hL hB he ⟨q1, f, q2, q3⟩ ⟨w, g, b1, b2⟩ n (i + 1) (by omega) (by omega) (fun j hj => by
          by_cases ej : j = i
          · subst ej; exact d
          · exact hz j (by omega))
      · rw [if_neg d, decide_eq_false (fun z => d (by rw [z]))]; rfl
theorem cl_holds {B : List Nat} {a : Nat} (hl : L.length ≤ 64) (hBl : B.length ≤ 64) (hL : ∀ b ∈ L, b < 128) (hB : ∀ b ∈ B, b < 128) (hr : RR h (c + k) L) (hb : BA h a B) : m_R_holds G (c + k) a h = some (bI (decide (L = B)), h) := by
  obtain ⟨w, g, b1, b2⟩ := id hb
  unfold m_R_holds
  rw [gI_e (k := 1) hr.1 rfl, bs, len_e b1, bs, show min L.length 64 = L.length by omega]
  simp only [nI_eq (show L.length < 2 ^ 31 by omega) (show B.length < 2 ^ 31 by omega)]
  by_cases e : L.length = B.length
  · rw [if_pos e, hp_nmE]
    exact cl_holds_13 G hl hL hB e hr hb hp_fu 0 (by unfold hp_fu; omega) (by omega) (fun j hj => by omega)
  · rw [if_neg e, decide_eq_false (fun z => e (by rw [z]))]; rfl
end
