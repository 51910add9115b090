/-! THE CLASS: chained, searched, of any value -/
section
variable (G : Nat → Nat) {c q0 : Nat} {h : hp_H} {vs : List vV} {t : Nat} {xs : List (Option vV)}
/-- what is taken, all of it values -/
theorem al_at : ∀ {xs : List (Option vV)} {ys : List vV}, alV xs = some ys → xs = ys.map some
  | [], ys, e => by cases e; rfl
  | none :: r, ys, e => by cases e
  | some x :: r, ys, e => by
    rw [alV] at e
    cases q : alV r with
    | none => rw [q] at e; cases e
    | some l => rw [q] at e; cases e; rw [al_at q]; rfl
theorem al_gt {ys : List vV} (e : xs = ys.map some) {j : Nat} {y : vV} (h : ys[j]? = some y) : xs.getD j none = some y := by
  rw [e, List.getD_eq_getElem?_getD, List.getElem?_map, h]; rfl
def tgB (tag : Nat) (y : vV) : Bool := y.1 == 6 && y.2.1 == tag
theorem cl_chained_29 {h0 : hp_H} (ys : List vV) (e : xs = ys.map some) (hl : ys.length ≤ 20) (tag : Nat) (htag : tag ≤ 9999) : ∀ (n i : Nat) (h : hp_H) (L : List Nat) (b : Bool), XC G c q0 h vs t xs → chg c [14, 15] h0 h → RR h (c + 14) L → ys.length - i < n → i ≤ ys.length → (∀ z ∈ L, z < 128) → (b = true → 0 < ys.length) → CE G c q0 h0 (m_E_chained_29 G n (c + 9) (nI ys.length) (nI tag) (bI b) (nI i) h) (kq vs (if (ys.drop i).all plV then (if b && (ys.drop i).all (tgB tag) then some (6, tag, 0, 0, L ++ (ys.drop i).flatMap (fun y => y.2.2.2.2)) else some (5, 0, 0, 0, L ++ (ys.drop i).flatMap (fun y => y.2.2.2.2))) else none))
  | 0, i, h, L, b, _, _, _, hn, _, _, _ => by omega
  | n + 1, i, h, L, b, X, C, R, hn, hi, hL, hb => by
    rw [m_E_chained_29]
    simp only [nI_leI (show ys.length < 2 ^ 31 by omega) (show i < 2 ^ 31 by omega)]
    by_cases q : ys.length ≤ i
    · rw [if_pos q, List.drop_eq_nil_of_le q, List.all_nil, List.all_nil, List.flatMap_nil, List.append_nil, if_pos (show true = true from rfl), Bool.and_true]
      unfold m_E_chained_115 m_E_chained_149
      rw [X.g0, bs, X.g5, bs, X.sk, bq, bs, bs, X.sk, bq]
      cases b with
      | false =>
        rw [if_pos (show bI false = 0 from rfl), if_neg (show ¬ false = true by decide)]
        exact xc_row G X C 5 0 R (fun z => ⟨by show 5 ≤ 8; decide, by show 0 ≤ 9999; decide, by show (0 : Int).natAbs < _; decide, by show 0 ≤ 9; decide, z, hL⟩)
      | true =>
        rw [if_neg (show ¬ bI true = 0 by decide), if_pos (show true = true from rfl)]
        exact xc_row G X C 6 tag R (fun z => ⟨by show 6 ≤ 8; decide, htag, by show (0 : Int).natAbs < _; decide, by show 0 ≤ 9; decide, z, hL⟩)
    · rw [if_neg q, if_neg (show ¬ (20 : Int32) ≤ nI i from nI_ge (a := i) (b := 20) (by omega) (by decide))]
      obtain ⟨y, hy⟩ : ∃ y, ys[i]? = some y := ⟨_, List.getElem?_eq_getElem (by omega)⟩
      have hdr : ys.drop i = y :: ys.drop (i + 1) := by
        obtain ⟨hk2, e⟩ := List.getElem?_eq_some_iff.mp hy
        rw [List.drop_eq_getElem_cons hk2, e]
      have hx := al_gt e hy
      obtain ⟨-, oy, ly, wy, -⟩ := xc_mem G X hx
      obtain ⟨p, p1, p2⟩ := xc_val G X hx
      have y1 := wy.1
      have y2 := wy.2.1
      rw [X.k, p1, bs, hp_nmE, p2.k, cl_isPlain G p2 y1, bs, hdr, List.all_cons, List.all_cons, List.flatMap_cons]
      cases hp : plV y with
      | false =>
        rw [if_pos (show bI false = 0 from rfl), Bool.false_and, if_neg (show ¬ false = true by decide)]
        exact CE.of C (by simp) ⟨L, R⟩ X.2.2.2.2.2.2 ⟨h, rfl, X.1, fr.rf⟩
      | true =>
        rw [if_neg (show ¬ bI true = 0 by decide), Bool.true_and]
        obtain ⟨B, b1, b2, b3⟩ := p2.g4
        have go : ∀ b' : Bool, b' = (b && tgB tag y) → CE G c q0 h0 (m_E_chained_89 G (m_E_chained_29 G n) (c + 9) (nI ys.length) (nI tag) (nI i) p (bI b') h) (kq vs (if (ys.drop (i + 1)).all plV then (if b && (tgB tag y && (ys.drop (i + 1)).all (tgB tag)) then some (6, tag, 0, 0, L ++ (y.2.2.2.2 ++ (ys.drop (i + 1)).flatMap (fun y => y.2.2.2.2))) else some (5, 0, 0, 0, L ++ (y.2.2.2.2 ++ (ys.drop (i + 1)).flatMap (fun y => y.2.2.2.2)))) else none)) := fun b' hb' => by
          unfold m_E_chained_89
          obtain ⟨h1, g1, g2, g3⟩ := cl_putAll G (k := 14) b3 (by decide) wy.2.2.2.2.2 (by omega) R b2
          rw [hp_nmE, X.g5, bs, b1, bs, bs, b2.l, bs, X.rk, g1, bs, hp_nmE, nI_1]
          have key := cl_chained_29 ys e hl tag htag n (i + 1) h1 _ b' (X.r G g3 g2) (C.tr g3) g2 (by omega) (by omega) (fun z hz => by
            rcases List.mem_append.mp hz with v | v
            · exact hL z v
            · exact wy.2.2.2.2.2 z v) (fun z => by omega)
          rw [hb', Bool.and_assoc, List.append_assoc] at key
          rw [hb']
          exact key
        unfold m_E_chained_88
        cases b with
        | false => rw [if_pos (show bI false = 0 from rfl)]; exact go false rfl
        | true =>
          rw [if_neg (show ¬ bI true = 0 by decide), p2.g0, bs, p2.g1, bs]
          simp only [ie_6 (show y.1 < 2 ^ 31 by omega), nI_eq (show y.2.1 < 2 ^ 31 by omega) (show tag < 2 ^ 31 by omega)]
          by_cases k6 : y.1 = 6
          · rw [if_pos k6]
            by_cases kt : y.2.1 = tag
            · rw [if_pos kt]; exact go true (by unfold tgB; rw [k6, kt, beq_self_eq_true, beq_self_eq_true]; rfl)
            · rw [if_neg kt]; exact go false (by unfold tgB; rw [k6, beq_false_of_ne kt]; rfl)
          · rw [if_neg k6]; exact go false (by unfold tgB; rw [beq_false_of_ne k6]; rfl)
theorem cl_chained (X : XC G c q0 h vs t xs) (ys : List vV) (e : xs = ys.map some) (hl : ys.length ≤ 20) : CE G c q0 h (m_E_chained G (c + 9) (nI ys.length) h) (kq vs (rwV ys)) := by
  obtain ⟨h1, c1, c2, c3, X1⟩ := xc_clear G X
  unfold m_E_chained m_E_chained_25
  rw [X.g5, bs, X.rk, c1, bs, X1.k]
  by_cases l0 : ys.length = 0
  · have : ys = [] := List.length_eq_zero_iff.mp l0
    subst this
    obtain ⟨p, x, p1, p2⟩ := xc_takenAny G X1
    rw [p1, bs, p2.g1, bs, hp_nmE, if_pos (show nI ([] : List vV).length ≤ 0 by decide), hp_nmE, hp_nmE]
    have : ∀ tg : Int32, CE G c q0 h (m_E_chained_29 G hp_fu (c + 9) (nI ([] : List vV).length) tg 0 0 h1) (kq vs (rwV [])) := fun tg => by
      rw [show hp_fu = 4294967295 + 1 from rfl, m_E_chained_29, if_pos (show nI ([] : List vV).length ≤ 0 by decide)]
      unfold m_E_chained_115 m_E_chained_149
      rw [if_pos (show (0 : Int32) = 0 from rfl), X1.g0, bs, X1.g5, bs, X1.sk, bq]
      exact xc_row G X1 c3 5 0 c2 (fun z => ⟨by show 5 ≤ 8; decide, by show 0 ≤ 9999; decide, by show (0 : Int).natAbs < _; decide, by show 0 ≤ 9; decide, z, fun b hb => by cases hb⟩)
    exact this _
  · obtain ⟨y, hy⟩ : ∃ y, ys[0]? = some y := ⟨_, List.getElem?_eq_getElem (by omega)⟩
    have hx := al_gt e hy
    obtain ⟨-, oy, ly, wy, -⟩ := xc_mem G X1 hx
    obtain ⟨p, p1, p2⟩ := xc_val G X1 hx
    rw [show m_E_taken G (c + 9) 0 h1 = _ from p1, bs, p2.g1, bs, hp_nmE, if_neg (nI_nle (by omega) (by omega)), hp_nmE, hp_nmE]
    have key := cl_chained_29 G (h0 := h) ys e hl y.2.1 wy.2.1 hp_fu 0 h1 [] true X1 c3 c2 (by unfold hp_fu; omega) (by omega) (fun z hz => by cases hz) (fun _ => by omega)
    rw [List.drop_zero, Bool.true_and, List.nil_append] at key
    have hd : ys.headD (0, 0, 0, 0, []) = y := by
      cases ys with
      | nil => cases hy
      | cons a r => rw [List.getElem?_cons_zero] at hy; exact Option.some.inj hy
    have ne : (!ys.isEmpty) = true := by
      cases ys with
      | nil => cases hy
      | cons a r => rfl
    unfold rwV
    rw [hd, ne, Bool.true_and]
    exact key
theorem cl_isAt_17 {a b : Nat} {A B : List Nat} (hA : BA h a A) (hB : BA h b B) (lA : A.length ≤ 64) (lB : B.length ≤ 64) (bA : ∀ z ∈ A, z < 128) (bB : ∀ z ∈ B, z < 128) (f : Nat) (hf : f + B.length ≤ A.length) : ∀ (n i : Nat), B.length - i < n → i ≤ B.length → (∀ j, j < i → A.getD (f + j) 0 = B.getD j 0) → m_E_isAt_17 G n a b (nI f) (nI i) h = some (bI (atN A B f), h)
  | 0, i, hn, _, _ => by omega
  | n + 1, i, hn, hi, hz => by
    rw [m_E_isAt_17, hB.l, bs]
    simp only [nI_leI (show B.length < 2 ^ 31 by omega) (show i < 2 ^ 31 by omega)]
    by_cases e : B.length ≤ i
    · have : atN A B f = true := decide_eq_true ⟨hf, fun k hk => hz k (by omega)⟩
      rw [if_pos e, this]; rfl
    · have bx : A.getD (f + i) 0 < 128 := bA _ (by rw [List.getD_eq_getElem?_getD, List.getElem?_eq_getElem (by omega)]; exact List.getElem_mem _)
      have by_ : B.getD i 0 < 128 := bB _ (by rw [List.getD_eq_getElem?_getD, List.getElem?_eq_getElem (by omega)]; exact List.getElem_mem _)
      rw [if_neg e, nI_add, hA.a (show f + i < _ by omega) lA, bs, hB.a (show i < _ by omega) lB, bs]
      simp only [nI_eq (show A.getD (f + i) 0 < 2 ^ 31 by omega) (show B.getD i 0 < 2 ^ 31 by omega)]
      by_cases d : A.getD (f + i) 0 = B.getD i 0
      · rw [if_pos d, hp_nmE, nI_1]
        exact cl_isAt_17 hA hB lA lB bA bB f hf n (i + 1) (by omega) (by omega) (fun j hj => by
          by_cases ej : j = i
          · subst ej; exact d
          · exact hz j (by omega))
      · have : atN A B f = false := decide_eq_false (fun q => d (q.2 i (by omega)))
        rw [if_neg d, this]; rfl
theorem cl_isAt {a b : Nat} {A B : List Nat} (hA : BA h a A) (hB : BA h b B) (lA : A.length ≤ 64) (lB : B.length ≤ 64) (bA : ∀ z ∈ A, z < 128) (bB : ∀ z ∈ B, z < 128) (f : Nat) (hf : f ≤ 64) : m_E_isAt G a b (nI f) h = some (bI (atN A B f), h) := by
  unfold m_E_isAt m_E_isAt_13
  rw [if_neg (nI_pos (by omega)), hA.l, bs, hB.l, bs, nI_iI, nI_iI, nI_iI, iI_sub]
  have cnd : iI (f : Int) ≤ iI ((A.length : Int) - (B.length : Int)) ↔ f + B.length ≤ A.length := by
    rw [iI_le (by omega) (by omega) (by omega) (by omega)]; omega
  by_cases e : f + B.length ≤ A.length
  · rw [if_pos (cnd.mpr e), hp_nmE, ← nI_iI]
    exact cl_isAt_17 G hA hB lA lB bA bB f e hp_fu 0 (by unfold hp_fu; omega) (by omega) (fun j hj => by omega)
  · have : atN A B f = false := decide_eq_false (fun q => e q.1)
    rw [if_neg (fun z => e (cnd.mp z)), this]; rfl
theorem cl_isAtNeg {a b : Nat} {z : Int32} (hz : z < 0) : m_E_isAt G a b z h = some (0, h) := by
  unfold m_E_isAt m_E_isAt_13
  rw [if_pos hz]; rfl
theorem wiF_no {X Y : List Nat} : ∀ (n f : Nat), X.length < f + Y.length → wiF X Y n f = none
  | 0, f, _ => rfl
  | n + 1, f, h => by
    have : atN X Y f = false := decide_eq_false (fun q => by have := q.1; omega)
    rw [wiF, this, if_neg (show ¬ false = true by decide), wiF_no n (f + 1) (by omega)]
theorem cl_first_2 {a b : Nat} {A B : List Nat} (hA : BA h a A) (hB : BA h b B) (lA : A.length ≤ 64) (lB : B.length ≤ 64) (bA : ∀ z ∈ A, z < 128) (bB : ∀ z ∈ B, z < 128) : ∀ (n f : Nat), A.length + 1 - f < n → f ≤ A.length + 1 → m_E_firstPlace_2 G n a b (nI f) h = some (wI (wiF A B (A.length + 1 - f) f), h)
  | 0, f, hn, _ => by omega
  | n + 1, f, hn, hf => by
    rw [m_E_firstPlace_2, hA.l, bs, hB.l, bs]
    have cnd : nI A.length - nI B.length < nI f ↔ A.length < f + B.length := by
      rw [nI_iI, nI_iI, nI_iI, iI_sub, iI_lt (by omega) (by omega) (by omega) (by omega)]; omega
    by_cases e : A.length < f + B.length
    · rw [if_pos (cnd.mpr e), wiF_no _ _ e]; rfl
    · rw [if_neg (fun z => e (cnd.mp z)), cl_isAt G hA hB lA lB bA bB f (by omega), bs, show A.length + 1 - f = (A.length + 1 - (f + 1)) + 1 by omega, wiF]
      cases atN A B f with
      | false =>
        rw [if_pos (show bI false = 0 from rfl), if_neg (show ¬ false = true by decide), hp_nmE, nI_1]
        exact cl_first_2 hA hB lA lB bA bB n (f + 1) (by omega) (by omega)
      | true => rw [if_neg (show ¬ bI true = 0 by decide), if_pos (show true = true from rfl)]; rfl
theorem cl_first {a b : Nat} {A B : List Nat} (hA : BA h a A) (hB : BA h b B) (lA : A.length ≤ 64) (lB : B.length ≤ 64) (bA : ∀ z ∈ A, z < 128) (bB : ∀ z ∈ B, z < 128) : m_E_firstPlace G a b h = some (wI (wiV A B), h) := by
  unfold m_E_firstPlace
  rw [hp_nmE]
  exact cl_first_2 G hA hB lA lB bA bB hp_fu 0 (by unfold hp_fu; omega) (by omega)
theorem cl_cut (X : XC G c q0 h vs t xs) {x : vV} {p : Nat} (p2 : VP c h p x) (wx : vW x) (s e : Nat) (hs : s < 2 ^ 31) (he : e < 2 ^ 31) (pl : Int32) : CE G c q0 h (m_E_cut G (c + 9) p pl (nI s) (nI e) h) (kq vs (if 0 ≤ pl then some (ltrs x ((x.2.2.2.2.drop s).take (e - s))) else some (5, 0, 0, 0, []))) := by
  obtain ⟨h1, c1, c2, c3, X1⟩ := xc_clear G X
  have p3 := p2.c c3 rK
  have lx := wx.2.2.2.2.1
  unfold m_E_cut
  rw [X.g5, bs, X.rk, c1, bs]
  by_cases q : 0 ≤ pl
  · rw [if_pos q, if_pos q]
    obtain ⟨B, b1, b2, b3⟩ := p3.g4
    obtain ⟨h2, g1, g2, g3⟩ := cl_putPart G (k := 14) (L := []) b3 (by decide) wx.2.2.2.2.2 hs he (by omega) c2 b2
    have X2 := X1.r G g3 g2
    have p4 := p3.c g3 rK
    rw [X1.g5, bs, b1, bs, X1.rk, g1, bs, X2.g0, bs, p4.g0, bs, p4.g1, bs, X2.g5, bs, X2.sk, bq]
    rw [List.nil_append] at g2
    exact xc_row G X2 (c3.tr g3) x.1 x.2.1 g2 (ltrs_W wx (fun b hb => wx.2.2.2.2.2 b (mem_dt hb)))
  · rw [if_neg q, if_neg q, X1.g0, bs, X1.g5, bs, X1.sk, bq]
    exact xc_row G X1 c3 5 0 c2 (fun z => ⟨by show 5 ≤ 8; decide, by show 0 ≤ 9999; decide, by show (0 : Int).natAbs < _; decide, by show 0 ≤ 9; decide, z, fun b hb => by cases hb⟩)
theorem wiV_0 (X Y : List Nat) (hX : X.length ≤ 64) : wI (wiV X Y) = 0 ↔ atN X Y 0 = true := by
  unfold wiV
  rw [wiF]
  by_cases q : atN X Y 0 = true
  · rw [if_pos q]; exact ⟨fun _ => q, fun _ => rfl⟩
  · rw [if_neg q]
    refine ⟨fun z => ?_, fun z => absurd z q⟩
    cases w : wiF X Y X.length (0 + 1) with
    | none => rw [w] at z; exact absurd z (by decide)
    | some f =>
      rw [w] at z
      have z : nI f = 0 := z
      have h1 := (wiF_le X Y _ _ f w)
      have g : 1 ≤ f := by
        have : ∀ (n s f : Nat), wiF X Y n s = some f → s ≤ f := by
          intro n
          induction n with
          | zero => intro s f h; cases h
          | succ n ih =>
            intro s f h
            rw [wiF] at h
            by_cases c : atN X Y s = true
            · rw [if_pos c] at h; cases h; exact Nat.le_refl _
            · rw [if_neg c] at h; have := ih (s + 1) f h; omega
        exact this _ _ _ w
      exact absurd z (nI_ne0 (by omega) (by omega))
theorem cl_cutNo (X : XC G c q0 h vs t xs) {p : Nat} {pl : Int32} (hp : ¬ 0 ≤ pl) (a3 a4 : Int32) : CE G c q0 h (m_E_cut G (c + 9) p pl a3 a4 h) (kq vs (some (5, 0, 0, 0, []))) := by
  obtain ⟨h1, c1, c2, c3, X1⟩ := xc_clear G X
  unfold m_E_cut
  rw [X.g5, bs, X.rk, c1, bs, if_neg hp, X1.g0, bs, X1.g5, bs, X1.sk, bq]
  exact xc_row G X1 c3 5 0 c2 (fun z => ⟨by show 5 ≤ 8; decide, by show 0 ≤ 9999; decide, by show (0 : Int).natAbs < _; decide, by show 0 ≤ 9; decide, z, fun b hb => by cases hb⟩)
theorem cl_searched_71 (X : XC G c q0 h vs t xs) {x y : vV} {p r : Nat} (p2 : VP c h p x) (r2 : VP c h r y) (wx : vW x) (wy : vW y) (hg : gwV x y = true) (o : Nat) (ho : 30 ≤ o) (h34 : o ≤ 34) : CE G c q0 h (m_E_searched_71 G (c + 9) (nI o) p r h) (kq vs (arV o x y)) := by
  have lx := wx.2.2.2.2.1
  have ly := wy.2.2.2.2.1
  obtain ⟨a, a1, a2, a3⟩ := p2.g4
  obtain ⟨b, b1, b2, b3⟩ := r2.g4
  have b31 : o < 2 ^ 31 := by omega
  have t1 := cl_tr G X true
  have t0 := cl_tr G X false
  unfold m_E_searched_71 m_E_searched_142 m_E_searched_181 arV
  rw [if_pos hg, a1, bs, b1, bs, cl_first G a2 b2 lx ly wx.2.2.2.2.2 wy.2.2.2.2.2, bs, hp_nmE]
  simp only [a1, b1, a2.l, b2.l, bs, hp_nmE, X.g0, X.sk, bq, X.k, ie_30 b31, ie_31 b31, ie_32 b31, ie_33 b31]
  by_cases e30 : o = 30
  · rw [if_pos e30, if_pos e30]
    by_cases z : atN x.2.2.2.2 y.2.2.2.2 0 = true
    · rw [if_pos ((wiV_0 _ _ lx).mpr z), z]; exact t1
    · rw [if_neg (fun q => z ((wiV_0 _ _ lx).mp q))]
      rw [Bool.not_eq_true] at z
      rw [z]; exact t0
  · rw [if_neg e30, if_neg e30]
    by_cases e31 : o = 31
    · rw [if_pos e31, if_pos e31]
      by_cases l : y.2.2.2.2.length ≤ x.2.2.2.2.length
      · rw [pk_sub l, cl_isAt G a2 b2 lx ly wx.2.2.2.2.2 wy.2.2.2.2.2 _ (by omega), bs]
        simp only [X.sk, bq]
        rw [decide_eq_true l, Bool.true_and]
        exact cl_tr G X _
      · rw [nI_iI, nI_iI, iI_sub, cl_isAtNeg G (show iI ((x.2.2.2.2.length : Int) - (y.2.2.2.2.length : Int)) < 0 by rw [show (0 : Int32) = iI 0 from rfl, iI_lt (by omega) (by omega) (by omega) (by omega)]; omega), bs]
        simp only [X.sk, bq]
        rw [decide_eq_false l, Bool.false_and]
        exact t0
    · rw [if_neg e31, if_neg e31]
      by_cases e32 : o = 32
      · rw [if_pos e32, if_pos e32]
        cases w : wiV x.2.2.2.2 y.2.2.2.2 with
        | none => rw [if_pos (show wI none < 0 by decide)]; exact t0
        | some f =>
          have := (wiF_le _ _ _ _ _ w).1
          rw [if_neg (show ¬ wI (some f) < 0 from nI_pos (by omega))]; exact t1
      · rw [if_neg e32, if_neg e32]
        by_cases e33 : o = 33
        · rw [if_pos e33]
          cases w : wiV x.2.2.2.2 y.2.2.2.2 with
          | none => exact cl_cutNo G X (show ¬ 0 ≤ wI none by decide) _ _
          | some f =>
            have f1 := (wiF_le _ _ _ _ _ w).1
            have key := cl_cut G X p2 wx 0 f (by decide) (by omega) (nI f)
            rw [if_pos (nI_pos' (by omega))] at key
            show CE G c q0 h _ (kq vs (if o = 33 then _ else _))
            rw [if_pos e33]
            exact key
        · rw [if_neg e33]
          cases w : wiV x.2.2.2.2 y.2.2.2.2 with
          | none => exact cl_cutNo G X (show ¬ 0 ≤ wI none by decide) _ _
          | some f =>
            have f1 := (wiF_le _ _ _ _ _ w).1
            have key := cl_cut G X p2 wx (f + y.2.2.2.2.length) x.2.2.2.2.length (by omega) (by omega) (nI f)
            rw [if_pos (nI_pos' (by omega))] at key
            show CE G c q0 h (m_E_cut G (c + 9) p (nI f) (nI f + nI y.2.2.2.2.length) (nI x.2.2.2.2.length) h) (kq vs (if o = 33 then _ else _))
            rw [if_neg e33, nI_add]
            exact key
theorem cl_searched (X : XC G c q0 h vs t xs) {x y : vV} (hx : xs.getD 0 none = some x) (hy : xs.getD 1 none = some y) (o : Nat) (ho : 30 ≤ o) (h34 : o ≤ 34) : CE G c q0 h (m_E_searched G (c + 9) (nI o) h) (kq vs (arV o x y)) := by
  obtain ⟨-, ox, lx, wx, -⟩ := xc_mem G X hx
  obtain ⟨-, oy, ly, wy, -⟩ := xc_mem G X hy
  obtain ⟨p, p1, p2⟩ := xc_val G X hx
  obtain ⟨r, r1, r2⟩ := xc_val G X hy
  have x1 := wx.1
  have y1 := wy.1
  have x2 := wx.2.1
  have y2 := wy.2.1
  have go : ∀ al : Bool, al = (y.1 == 6 && (x.1 == 6 && x.2.1 == y.2.1)) → CE G c q0 h (m_E_searched_46 G (c + 9) (nI o) p r (bI al) h) (kq vs (arV o x y)) := fun al hal => by
    unfold m_E_searched_46 m_E_searched_68
    rw [hp_nmE, p2.k, cl_isPlain G p2 x1, bs]
    have gw : gwV x y = (plV x && (y.1 == 5 || al)) := by unfold gwV; rw [hal]
    have no : gwV x y = false → CE G c q0 h (some (-4, h)) (kq vs (arV o x y)) := fun z => by
      unfold arV
      rw [z, if_neg (show ¬ false = true by decide)]
      exact X.no G
    cases hp : plV x with
    | false => rw [if_pos (show bI false = 0 from rfl)]; exact no (by rw [gw, hp]; rfl)
    | true =>
      rw [if_neg (show ¬ bI true = 0 by decide), r2.g0, bs]
      simp only [ie_5 (show y.1 < 2 ^ 31 by omega)]
      by_cases k5 : y.1 = 5
      · rw [if_pos k5]
        exact cl_searched_71 G X p2 r2 wx wy (by rw [gw, hp, k5]; rfl) o ho h34
      · rw [if_neg k5]
        cases al with
        | false => rw [if_pos (show bI false = 0 from rfl)]; exact no (by rw [gw, hp, beq_false_of_ne k5]; rfl)
        | true => rw [if_neg (show ¬ bI true = 0 by decide)]; exact cl_searched_71 G X p2 r2 wx wy (by rw [gw, hp, Bool.or_true]; rfl) o ho h34
  unfold m_E_searched m_E_searched_45
  rw [X.k, show m_E_taken G (c + 9) 0 h = _ from p1, bs, hp_nmE, X.k, show m_E_taken G (c + 9) 1 h = _ from r1, bs, hp_nmE, r2.g0, bs, p2.g0, bs, r2.g1, bs, p2.g1, bs]
  simp only [ie_6 (show y.1 < 2 ^ 31 by omega), ie_6 (show x.1 < 2 ^ 31 by omega), nI_eq (show y.2.1 < 2 ^ 31 by omega) (show x.2.1 < 2 ^ 31 by omega)]
  by_cases k6 : y.1 = 6
  · rw [if_pos k6]
    by_cases j6 : x.1 = 6
    · rw [if_pos j6]
      by_cases e : y.2.1 = x.2.1
      · rw [if_pos e]; exact go true (by rw [k6, j6, e, beq_self_eq_true, beq_self_eq_true]; rfl)
      · rw [if_neg e]; exact go false (by rw [k6, j6, beq_false_of_ne (fun z => e z.symm)]; rfl)
    · rw [if_neg j6]; exact go false (by rw [k6, beq_false_of_ne j6]; rfl)
  · rw [if_neg k6]; exact go false (by rw [beq_false_of_ne k6]; rfl)
theorem tyT_e : ∀ k, k < 9 → 2 < k → k ≠ 7 → tyT k = if k = 5 then 1000 else if k = 6 then 1001 else if k = 3 then 1002 else if k = 4 then 1003 else 1004 := by decide
theorem cl_ofAny (X : XC G c q0 h vs t xs) {x : vV} (hx : xs.getD 0 none = some x) (o : Nat) (ho : 35 ≤ o) (h41 : o ≤ 41) : CE G c q0 h (m_E_ofAny G (c + 9) (nI o) h) (kq vs (val1 o x)) := by
  obtain ⟨-, ox, lx, wx, -⟩ := xc_mem G X hx
  obtain ⟨p, p1, p2⟩ := xc_val G X hx
  have hs := X.1.2.2.2.2.2.2
  have x1 := wx.1
  have x2 := wx.2.1
  have b31 : x.1 < 2 ^ 31 := by omega
  have t1 := cl_tr G X true
  have t0 := cl_tr G X false
  unfold m_E_ofAny m_E_ofAny_80 m_E_ofAny_110 m_E_ofAny_131 m_E_ofAny_152
  rw [X.k, show m_E_taken G (c + 9) 0 h = _ from p1, bs, hp_nmE]
  rcases (show o = 35 ∨ o = 36 ∨ o = 37 ∨ o = 38 ∨ o = 39 ∨ o = 40 ∨ o = 41 by omega) with e | e | e | e | e | e | e <;> subst e
  · obtain ⟨h1, c1, c2, c3, X1⟩ := xc_clear G X
    obtain ⟨h2, g1, g2, g3⟩ := cl_string G (k := 14) (p2.c c3 rK) ox lx (by decide) (by decide) (hs.c c3) c2
    have X2 := X1.r G g3 g2
    rw [if_pos (show nI 35 = 35 from rfl), X.g5, bs, X.rk, c1, bs, X1.g5, bs, X1.rk, g1, bs, X2.g0, bs, X2.g5, bs, X2.sk, bq, val1_35]
    cases z : strS x with
    | none =>
      rw [if_pos (show bI (none : Option (List Nat)).isSome = 0 from rfl)]
      exact CE.of (c3.tr g3) (by simp) ⟨_, g2⟩ X2.2.2.2.2.2.2 ⟨h2, rfl, X2.1, fr.rf⟩
    | some L =>
      rw [if_neg (show ¬ bI (some L).isSome = 0 from (by decide : ¬ bI true = 0))]
      rw [z, List.nil_append] at g2
      exact xc_row G X2 (c3.tr g3) 5 0 g2 (fun q => ⟨by show 5 ≤ 8; decide, by show 0 ≤ 9999; decide, by show (0 : Int).natAbs < _; decide, by show 0 ≤ 9; decide, q, fun b hb => (strS_b' ox z b hb).2⟩)
  · rw [if_neg (show ¬ nI 36 = 35 by decide), if_pos (show nI 36 = 36 from rfl), X.k, bq, val1_36]
    unfold m_E_tagText m_E_tagText_40
    rw [p2.g0, bs, show (3 : Int32) = nI 3 from rfl]
    simp only [nI_leI (show 3 < 2 ^ 31 by decide) b31]
    by_cases k3 : 2 < x.1
    · obtain ⟨h1, c1, c2, c3, X1⟩ := xc_clear G X
      have p3 := p2.c c3 rK
      rw [if_pos (by omega), if_pos k3, X.g5, bs, X.rk, c1, bs, p3.g0, bs]
      simp only [ie_6 b31]
      by_cases k6 : x.1 = 6
      · obtain ⟨h2, g1, g2, g3⟩ := cl_putDigits G (k := 14) (a := x.2.1) (l := 1) (by decide) (by unfold iM; omega) (hs.c c3) c2
        have X2 := X1.r G g3 g2
        rw [if_pos k6, if_pos k6, X1.g5, bs, p3.g1, bs, X1.rk, nI_64L _ (by omega), show (1 : Int32) = nI 1 from rfl, g1, bs, X2.g0, bs, X2.g5, bs, X2.sk, bq]
        rw [List.nil_append] at g2
        exact xc_row G X2 (c3.tr g3) 5 0 g2 (fun q => ⟨by show 5 ≤ 8; decide, by show 0 ≤ 9999; decide, by show (0 : Int).natAbs < _; decide, by show 0 ≤ 9; decide, q, fun b hb => (dl_b _ _ b hb).2⟩)
      · rw [if_neg k6, if_neg k6, X1.g0, bs, X1.g5, bs, X1.sk, bq]
        exact xc_row G X1 c3 5 0 c2 (fun q => ⟨by show 5 ≤ 8; decide, by show 0 ≤ 9999; decide, by show (0 : Int).natAbs < _; decide, by show 0 ≤ 9; decide, q, fun b hb => by cases hb⟩)
    · rw [if_neg (by omega), if_neg k3]; exact X.no G
  · rw [if_neg (show ¬ nI 37 = 35 by decide), if_neg (show ¬ nI 37 = 36 by decide), if_pos (show nI 37 = 37 from rfl), X.k, bq, val1_37]
    unfold m_E_typeName m_E_typeName_19 m_E_typeName_51
    obtain ⟨w, f, f1, f2⟩ := hs.2.2.2.2.1
    rw [p2.g0, bs, show (3 : Int32) = nI 3 from rfl]
    simp only [nI_ltI b31 (show 3 < 2 ^ 31 by decide)]
    by_cases k3 : 2 < x.1
    · rw [if_neg (by omega), if_pos k3, bs, len_e f1, bs, if_pos (nI_lt (show x.1 < 9 by omega) (by decide)), X.g0, bs, bs]
      simp only [ie_7 b31]
      by_cases k7 : x.1 = 7
      · rw [if_pos k7, p2.g1, bs, X.sk, bq]
        have : tyN x = x.2.1 := by unfold tyN; rw [if_pos k7]
        rw [this]
        exact X.ce G (cl_keepNumbered G X.1 X.2.1 2 x.2.1 ⟨by show 2 ≤ 8; decide, x2, by show (0 : Int).natAbs < _; decide, by show 0 ≤ 9; decide, by show 0 ≤ 64; decide, fun b hb => by cases hb⟩)
      · rw [if_neg k7, bs, aI_e f1 (by omega) (by decide), bs, f2 x.1 (by omega), X.sk, bq]
        have : tyN x = tyT x.1 := by unfold tyN; rw [if_neg k7, tyT_e x.1 (by omega) k3 k7]
        rw [this]
        refine X.ce G (cl_keepNumbered G X.1 X.2.1 2 (tyT x.1) ⟨by show 2 ≤ 8; decide, ?_, by show (0 : Int).natAbs < _; decide, by show 0 ≤ 9; decide, by show 0 ≤ 64; decide, fun b hb => by cases hb⟩)
        have : ∀ k, k < 9 → tyT k ≤ 9999 := by decide
        exact this x.1 (by omega)
    · rw [if_pos (by omega), if_neg k3]; exact X.no G
  · rw [if_neg (show ¬ nI 38 = 35 by decide), if_neg (show ¬ nI 38 = 36 by decide), if_neg (show ¬ nI 38 = 37 by decide), if_pos (show nI 38 = 38 from rfl), X.g0, bs, p2.g0, bs, X.sk, bq, X.sk, bq, val1_38]
    simp only [ie_2 b31]
    by_cases k : x.1 = 2
    · rw [if_pos k, k]; exact t1
    · rw [if_neg k, beq_false_of_ne k]; exact t0
  · rw [if_neg (show ¬ nI 39 = 35 by decide), if_neg (show ¬ nI 39 = 36 by decide), if_neg (show ¬ nI 39 = 37 by decide), if_neg (show ¬ nI 39 = 38 by decide), if_pos (show nI 39 = 39 from rfl), X.g0, bs, p2.g0, bs, X.sk, bq, X.sk, bq, val1_39]
    simp only [ie_1 b31]
    by_cases k : x.1 = 1
    · rw [if_pos k, k]; exact t1
    · rw [if_neg k, beq_false_of_ne k]; exact t0
  · rw [if_neg (show ¬ nI 40 = 35 by decide), if_neg (show ¬ nI 40 = 36 by decide), if_neg (show ¬ nI 40 = 37 by decide), if_neg (show ¬ nI 40 = 38 by decide), if_neg (show ¬ nI 40 = 39 by decide), if_pos (show nI 40 = 40 from rfl), X.g0, bs, p2.g0, bs, X.sk, bq, X.sk, bq, val1_40, show (3 : Int32) = nI 3 from rfl]
    simp only [nI_ltI b31 (show 3 < 2 ^ 31 by decide)]
    by_cases k : 2 < x.1
    · rw [if_neg (by omega), decide_eq_true k]; exact t1
    · rw [if_pos (by omega), decide_eq_false k]; exact t0
  · rw [if_neg (show ¬ nI 41 = 35 by decide), if_neg (show ¬ nI 41 = 36 by decide), if_neg (show ¬ nI 41 = 37 by decide), if_neg (show ¬ nI 41 = 38 by decide), if_neg (show ¬ nI 41 = 39 by decide), if_neg (show ¬ nI 41 = 40 by decide), X.g0, bs, p2.k, cl_isNumber G p2 x1, bs, X.sk, bq, val1_41]
    exact cl_tr G X _
end
