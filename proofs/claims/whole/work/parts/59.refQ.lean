/-! texts within texts -/
def plV (x : vV) : Bool := x.1 == 5 || x.1 == 6
theorem rm_isPlain (G : Nat → Nat) (o : Nat) (h : hp_H) (S : lm_S) (a : Nat) (x : vV) (ha : a ≤ 2000) (hx : rm_V S a x) (wx : vW x) : m_M_isPlain G o (nI a) (lm_w o h S) = some (bI (plV x), lm_w o h S) := by
  have w1 := wx.1
  have l1 := lm_a1 o h S a (by omega)
  rw [hx.1] at l1
  unfold m_M_isPlain m_M_isPlain_21 m_M_isPlain_26 plV
  simp only [lm_g1, bs, l1, ie_5 (show x.1 < 2 ^ 31 by omega), ie_6 (show x.1 < 2 ^ 31 by omega)]
  by_cases c : x.1 = 5
  · rw [if_pos c, c]; rfl
  · rw [if_neg c]
    by_cases c4 : x.1 = 6
    · rw [if_pos c4, c4]; rfl
    · rw [if_neg c4, beq_false_of_ne c, beq_false_of_ne c4]; rfl
def gwV (x y : vV) : Bool := plV x && (y.1 == 5 || (y.1 == 6 && (x.1 == 6 && x.2.1 == y.2.1)))
theorem rm_goWith (G : Nat → Nat) (o : Nat) (h : hp_H) (S : lm_S) (a b : Nat) (x y : vV) (ha : a ≤ 2000) (hb : b ≤ 2000) (hx : rm_V S a x) (hy : rm_V S b y) (wx : vW x) (wy : vW y) : m_M_goWith G o (nI a) (nI b) (lm_w o h S) = some (bI (gwV x y), lm_w o h S) := by
  have w1 := wx.1
  have w2 := wy.1
  have w3 := wx.2.1
  have w4 := wy.2.1
  have l1 := lm_a1 o h S a (by omega)
  have l2 := lm_a1 o h S b (by omega)
  have l3 := lm_a2 o h S a (by omega)
  have l4 := lm_a2 o h S b (by omega)
  rw [hx.1] at l1
  rw [hy.1] at l2
  rw [hx.2.1] at l3
  rw [hy.2.1] at l4
  unfold m_M_goWith m_M_goWith_55 m_M_goWith_59 m_M_goWith_60 gwV
  simp only [lm_vck, rm_isPlain G o h S a x ha hx wx, lm_g1, lm_g2, bs, l1, l2, l3, l4, ie_5 (show y.1 < 2 ^ 31 by omega), ie_6 (show x.1 < 2 ^ 31 by omega), ie_6 (show y.1 < 2 ^ 31 by omega), nI_eq (show x.2.1 < 2 ^ 31 by omega) (show y.2.1 < 2 ^ 31 by omega)]
  cases plV x with
  | false => rw [if_pos (show bI false = 0 from rfl)]; rfl
  | true =>
    rw [if_neg (show ¬ bI true = 0 by decide), Bool.true_and]
    by_cases c5 : y.1 = 5
    · rw [if_pos c5, c5]; rfl
    · rw [if_neg c5, beq_false_of_ne c5, Bool.false_or]
      by_cases c6 : y.1 = 6
      · rw [if_pos c6, c6, show (6 == 6) = true from rfl, Bool.true_and]
        by_cases d6 : x.1 = 6
        · rw [if_pos d6, d6, show (6 == 6) = true from rfl, Bool.true_and]
          by_cases de : x.2.1 = y.2.1
          · rw [if_pos de, de, beq_self_eq_true]; rfl
          · rw [if_neg de, beq_false_of_ne de]; rfl
        · rw [if_neg d6, beq_false_of_ne d6]; rfl
      · rw [if_neg c6, beq_false_of_ne c6]; rfl
/-- the row Y lies in X at f -/
def atN (X Y : List Nat) (f : Nat) : Bool := decide (f + Y.length ≤ X.length ∧ ∀ k, k < Y.length → X.getD (f + k) 0 = Y.getD k 0)
theorem rm_isAt_31_0 (G : Nat → Nat) (o : Nat) (h : hp_H) (S : lm_S) (b : Nat) (y : vV) (hb : b ≤ 2000) (hy : rm_V S b y) (a1 a3 k : Int32) (n : Nat) : m_M_isAt_31 G (n + 1) o a1 (nI b) a3 0 k (lm_w o h S) = some (0, lm_w o h S) := by
  have l2 := lm_a6 o h S b (by omega)
  rw [m_M_isAt_31]
  unfold m_M_isAt_89
  simp only [lm_g6, l2, bs]
  by_cases c : S.2 6 b ≤ k
  · rw [if_pos c]; rfl
  · rw [if_neg c, if_pos trivial]; rfl
theorem rm_isAt_31 (G : Nat → Nat) (o : Nat) (h : hp_H) (S : lm_S) (a b : Nat) (x y : vV) (ha : a ≤ 2000) (hb : b ≤ 2000) (hx : rm_V S a x) (hy : rm_V S b y) (wx : vW x) (wy : vW y) (f : Nat) (hf : f + y.2.2.2.2.length ≤ x.2.2.2.2.length) : ∀ (n k : Nat), k ≤ y.2.2.2.2.length → y.2.2.2.2.length - k + 1 < n → (∀ j, j < k → x.2.2.2.2.getD (f + j) 0 = y.2.2.2.2.getD j 0) → m_M_isAt_31 G n o (nI a) (nI b) (nI f) 1 (nI k) (lm_w o h S) = some (bI (atN x.2.2.2.2 y.2.2.2.2 f), lm_w o h S)
  | 0, k, _, hn, _ => by omega
  | n + 1, k, hk, hn, he => by
    have lx := wx.2.2.2.2.1
    have l2 := lm_a6 o h S b (by omega)
    rw [hy.2.2.2.2.1] at l2
    rw [m_M_isAt_31]
    unfold m_M_isAt_89 m_M_isAt_81
    simp only [lm_g6, l2, bs, nI_leI (show y.2.2.2.2.length < 2 ^ 31 by omega) (show k < 2 ^ 31 by omega)]
    by_cases c : y.2.2.2.2.length ≤ k
    · rw [if_pos c, show atN x.2.2.2.2 y.2.2.2.2 f = true from decide_eq_true ⟨hf, fun j hj => he j (by omega)⟩]; rfl
    · rw [if_neg c, if_neg (show ¬ (1 : Int32) = 0 by decide)]
      have m1 := lm_a7 o h S (64 * a + (f + k)) (by omega)
      have m2 := lm_a7 o h S (64 * b + k) (by omega)
      rw [hx.2.2.2.2.2.2 (f + k) (by omega)] at m1
      rw [hy.2.2.2.2.2.2 k (by omega)] at m2
      have b1 : x.2.2.2.2.getD (f + k) 0 < 128 := wx.2.2.2.2.2 _ (by rw [List.getD_eq_getElem?_getD, List.getElem?_eq_getElem (by omega)]; exact List.getElem_mem _)
      have b2 : y.2.2.2.2.getD k 0 < 128 := wy.2.2.2.2.2 _ (by rw [List.getD_eq_getElem?_getD, List.getElem?_eq_getElem (by omega)]; exact List.getElem_mem _)
      simp only [lm_g7, nI_64, nI_add, Nat.add_assoc, m1, m2, bs, nI_eq (show x.2.2.2.2.getD (f + k) 0 < 2 ^ 31 by omega) (show y.2.2.2.2.getD k 0 < 2 ^ 31 by omega), hp_nmE, nI_1]
      by_cases eb : x.2.2.2.2.getD (f + k) 0 = y.2.2.2.2.getD k 0
      · rw [if_pos eb]
        exact rm_isAt_31 G o h S a b x y ha hb hx hy wx wy f hf n (k + 1) (by omega) (by omega) (fun j hj => by
          by_cases ej : j = k
          · subst ej; exact eb
          · exact he j (by omega))
      · rw [if_neg eb]
        obtain ⟨n', rfl⟩ : ∃ n', n = n' + 1 := ⟨n - 1, by omega⟩
        rw [rm_isAt_31_0 G o h S b y hb hy, show atN x.2.2.2.2 y.2.2.2.2 f = false from decide_eq_false (fun q => eb (q.2 k (by omega)))]
        rfl
theorem rm_isAt (G : Nat → Nat) (o : Nat) (h : hp_H) (S : lm_S) (a b : Nat) (x y : vV) (ha : a ≤ 2000) (hb : b ≤ 2000) (hx : rm_V S a x) (hy : rm_V S b y) (wx : vW x) (wy : vW y) (f : Nat) (hf : f ≤ 1000) : m_M_isAt G o (nI a) (nI b) (nI f) (lm_w o h S) = some (bI (atN x.2.2.2.2 y.2.2.2.2 f), lm_w o h S) := by
  have lx := wx.2.2.2.2.1
  have ly := wy.2.2.2.2.1
  have l1 := lm_a6 o h S a (by omega)
  have l2 := lm_a6 o h S b (by omega)
  rw [hx.2.2.2.2.1] at l1
  rw [hy.2.2.2.2.1] at l2
  unfold m_M_isAt m_M_isAt_25 m_M_isAt_26
  rw [if_neg (nI_pos (by omega))]
  simp only [lm_g6, l1, l2, bs, nI_add, nI_ltI (show x.2.2.2.2.length < 2 ^ 31 by omega) (show f + y.2.2.2.2.length < 2 ^ 31 by omega), hp_nmE]
  by_cases c : x.2.2.2.2.length < f + y.2.2.2.2.length
  · rw [if_pos c, show atN x.2.2.2.2 y.2.2.2.2 f = false from decide_eq_false (fun q => by omega)]
    exact rm_isAt_31_0 G o h S b y hb hy _ _ _ 4294967295
  · rw [if_neg c]
    exact rm_isAt_31 G o h S a b x y ha hb hx hy wx wy f (by omega) hp_fu 0 (by omega) (by unfold hp_fu; omega) (fun j hj => by omega)
theorem rm_isAt_n (G : Nat → Nat) (o : Nat) (h : hp_H) (S : lm_S) (b : Nat) (y : vV) (hb : b ≤ 2000) (hy : rm_V S b y) (a1 f : Int32) (hf : f < 0) : m_M_isAt G o a1 (nI b) f (lm_w o h S) = some (bI false, lm_w o h S) := by
  unfold m_M_isAt m_M_isAt_25 m_M_isAt_26
  rw [if_pos hf]
  simp only [hp_nmE]
  exact rm_isAt_31_0 G o h S b y hb hy _ _ _ 4294967295
/-- the first place at which Y lies in X, from f on, n places looked at -/
def wiF (X Y : List Nat) : Nat → Nat → Option Nat
  | 0, _ => none
  | n + 1, f => if atN X Y f then some f else wiF X Y n (f + 1)
def wiV (X Y : List Nat) : Option Nat := wiF X Y (X.length + 1) 0
def wI (w : Option Nat) : Int32 := match w with
  | none => -1
  | some f => nI f
theorem rm_within_2 (G : Nat → Nat) (o : Nat) (h : hp_H) (S : lm_S) (a b : Nat) (x y : vV) (ha : a ≤ 2000) (hb : b ≤ 2000) (hx : rm_V S a x) (hy : rm_V S b y) (wx : vW x) (wy : vW y) : ∀ (n f : Nat), f ≤ x.2.2.2.2.length + 1 → x.2.2.2.2.length + 1 - f < n → m_M_within_2 G n o (nI a) (nI b) (nI f) (lm_w o h S) = some (wI (wiF x.2.2.2.2 y.2.2.2.2 (x.2.2.2.2.length + 1 - f) f), lm_w o h S)
  | 0, f, _, hn => by omega
  | n + 1, f, hf, hn => by
    have lx := wx.2.2.2.2.1
    have l1 := lm_a6 o h S a (by omega)
    rw [hx.2.2.2.2.1] at l1
    rw [m_M_within_2]
    unfold m_M_within_28 m_M_within_43
    simp only [lm_g6, l1, bs, lm_vck, rm_isAt G o h S a b x y ha hb hx hy wx wy f (by omega), nI_ltI (show x.2.2.2.2.length < 2 ^ 31 by omega) (show f < 2 ^ 31 by omega), hp_nmE, nI_1]
    by_cases c : x.2.2.2.2.length < f
    · rw [if_pos c, if_pos c, show x.2.2.2.2.length + 1 - f = 0 by omega]; rfl
    · rw [if_neg c, if_neg c, show x.2.2.2.2.length + 1 - f = (x.2.2.2.2.length + 1 - (f + 1)) + 1 by omega, wiF]
      cases atN x.2.2.2.2 y.2.2.2.2 f with
      | false =>
        rw [if_pos (show bI false = 0 from rfl), if_neg (show ¬ false = true by decide)]
        exact rm_within_2 G o h S a b x y ha hb hx hy wx wy n (f + 1) (by omega) (by omega)
      | true => rw [if_neg (show ¬ bI true = 0 by decide), if_pos rfl]; rfl
theorem rm_within (G : Nat → Nat) (o : Nat) (h : hp_H) (S : lm_S) (a b : Nat) (x y : vV) (ha : a ≤ 2000) (hb : b ≤ 2000) (hx : rm_V S a x) (hy : rm_V S b y) (wx : vW x) (wy : vW y) : m_M_within G o (nI a) (nI b) (lm_w o h S) = some (wI (wiV x.2.2.2.2 y.2.2.2.2), lm_w o h S) := by
  have lx := wx.2.2.2.2.1
  unfold m_M_within
  rw [hp_nmE]
  exact rm_within_2 G o h S a b x y ha hb hx hy wx wy hp_fu 0 (by omega) (by unfold hp_fu; omega)
theorem wiF_le (X Y : List Nat) : ∀ (n f k : Nat), wiF X Y n f = some k → k < f + n ∧ atN X Y k = true
  | 0, f, k, h => by cases h
  | n + 1, f, k, h => by
    rw [wiF] at h
    by_cases c : atN X Y f = true
    · rw [if_pos c] at h; injection h with h; subst h; exact ⟨by omega, c⟩
    · rw [if_neg c] at h; have := wiF_le X Y n (f + 1) k h; exact ⟨by omega, this.2⟩
/-- a value of the same sort with other letters -/
def ltrs (x : vV) (L : List Nat) : vV := (x.1, x.2.1, 0, 0, L)
theorem ltrs_W {x : vV} (wx : vW x) {L : List Nat} (hL : ∀ b ∈ L, b < 128) : L.length ≤ 64 → vW (ltrs x L) := fun hl => ⟨wx.1, wx.2.1, by show (0 : Int).natAbs < _; decide, Nat.zero_le _, hl, hL⟩
theorem rm_fin (G : Nat → Nat) (o : Nat) (h : hp_H) (S S1 : lm_S) (vs : List vV) (y : vV) (hf : fS S S1) (hA : rm_A S1 vs) (hc : rm_C S1 y) (hb : y.2.2.2.2.length < 1000000) (hy : y.2.2.2.2.length ≤ 64 → vW y) : RK o h S vs (m_M_keep G o (lm_w o h S1)) (some y) := by
  obtain ⟨S2, f1, f2, f3⟩ := rm_keep G o h S1 vs y hA hc (by omega) hy
  exact ⟨S2, f1, f2, hf.tr f3⟩
theorem rm_piece (G : Nat → Nat) (o : Nat) (h : hp_H) (S : lm_S) (vs : List vV) (i : Nat) (x : vV) (a b : Nat) (hA : rm_A S vs) (hx : vs[i]? = some x) (ha : a ≤ 64) (hb : b ≤ x.2.2.2.2.length) : RK o h S vs (m_M_piece G o (nI (i + 1)) (nI a) (nI b) (lm_w o h S)) (some (ltrs x ((x.2.2.2.2.drop a).take (b - a)))) := by
  obtain ⟨hr, wx, li, -⟩ := rm_at hA hx
  have lx := wx.2.2.2.2.1
  have l1 := lm_a1 o h S (i + 1) (by omega)
  have l2 := lm_a2 o h S (i + 1) (by omega)
  rw [hr.1] at l1
  rw [hr.2.1] at l2
  unfold m_M_piece
  obtain ⟨S1, e1, e2, e3⟩ := rm_start G o h S x.1 x.2.1
  simp only [lm_g1, lm_g2, l1, l2, bs, lm_vck, e1, bq]
  obtain ⟨S2, q1, q2, q3⟩ := rm_letterAll G o h S1 vs i x a b [] (e3.A hA) hx ha hb (e2.L (by decide)) (by decide)
  simp only [q1, bs, lm_vck]
  rw [List.nil_append] at q3
  refine rm_fin G o h S S2 vs _ (e3.f.tr q2.f) (q2.A (e3.A hA)) (e2.to q2 q3) ?_ (ltrs_W wx (fun c hc => wx.2.2.2.2.2 c (List.mem_of_mem_drop (List.mem_of_mem_take hc))))
  show ((x.2.2.2.2.drop a).take (b - a)).length < _
  rw [List.length_take, List.length_drop]
  omega
def arV (ox : Nat) (x y : vV) : Option vV := if gwV x y then (if ox = 30 then some (trV (atN x.2.2.2.2 y.2.2.2.2 0)) else if ox = 31 then some (trV (decide (y.2.2.2.2.length ≤ x.2.2.2.2.length) && atN x.2.2.2.2 y.2.2.2.2 (x.2.2.2.2.length - y.2.2.2.2.length))) else if ox = 32 then some (trV (wiV x.2.2.2.2 y.2.2.2.2).isSome) else match wiV x.2.2.2.2 y.2.2.2.2 with
  | none => some (5, 0, 0, 0, [])
  | some f => if ox = 33 then some (ltrs x ((x.2.2.2.2.drop 0).take (f - 0))) else some (ltrs x ((x.2.2.2.2.drop (f + y.2.2.2.2.length)).take (x.2.2.2.2.length - (f + y.2.2.2.2.length))))) else none
theorem rm_around (G : Nat → Nat) (o : Nat) (h : hp_H) (S : lm_S) (vs : List vV) (ox i k : Nat) (x y : vV) (ho : ox ≤ 41) (hA : rm_A S vs) (hx : vs[i]? = some x) (hy : vs[k]? = some y) : RK o h S vs (m_M_around G o (nI ox) (nI (i + 1)) (nI (k + 1)) (lm_w o h S)) (arV ox x y) := by
  obtain ⟨hr, wx, li, -⟩ := rm_at hA hx
  obtain ⟨hs, wy, lk, -⟩ := rm_at hA hy
  have lx := wx.2.2.2.2.1
  have ly := wy.2.2.2.2.1
  have l1 := lm_a6 o h S (i + 1) (by omega)
  have l2 := lm_a6 o h S (k + 1) (by omega)
  rw [hr.2.2.2.2.1] at l1
  rw [hs.2.2.2.2.1] at l2
  have g1 := rm_goWith G o h S (i + 1) (k + 1) x y (by omega) (by omega) hr hs wx wy
  have g2 := rm_within G o h S (i + 1) (k + 1) x y (by omega) (by omega) hr hs wx wy
  unfold m_M_around m_M_around_95 m_M_around_152 arV
  simp only [lm_vck, g1, bs]
  cases gwV x y with
  | false => rw [if_pos (show bI false = 0 from rfl), if_neg (show ¬ false = true by decide)]; exact ⟨S, rfl, hA, fS.rf⟩
  | true =>
    rw [if_neg (show ¬ bI true = 0 by decide), if_pos rfl, g2]
    simp only [bs, hp_nmE, lm_vck, bq]
    by_cases c30 : ox = 30
    · rw [if_pos ((ie_30 (by omega)).mpr c30), if_pos c30, show (0 : Int32) = nI 0 from rfl, rm_isAt G o h S (i + 1) (k + 1) x y (by omega) (by omega) hr hs wx wy 0 (by decide)]
      simp only [bs, lm_vck]
      exact rm_truth G o h S vs _ hA
    · rw [if_neg (fun q => c30 ((ie_30 (by omega)).mp q)), if_neg c30]
      by_cases c31 : ox = 31
      · rw [if_pos ((ie_31 (by omega)).mpr c31), if_pos c31]
        simp only [lm_g6, l1, l2, bs]
        by_cases c : y.2.2.2.2.length ≤ x.2.2.2.2.length
        · rw [pk_sub c, rm_isAt G o h S (i + 1) (k + 1) x y (by omega) (by omega) hr hs wx wy _ (by omega), decide_eq_true c, Bool.true_and]
          simp only [bs, lm_vck]
          exact rm_truth G o h S vs _ hA
        · rw [rm_isAt_n G o h S (k + 1) y (by omega) hs _ _ (pk_sneg (by omega) (by omega)), decide_eq_false c, Bool.false_and]
          simp only [bs, lm_vck]
          exact rm_truth G o h S vs _ hA
      · rw [if_neg (fun q => c31 ((ie_31 (by omega)).mp q)), if_neg c31]
        by_cases c32 : ox = 32
        · rw [if_pos ((ie_32 (by omega)).mpr c32), if_pos c32]
          cases hw : wiV x.2.2.2.2 y.2.2.2.2 with
          | none => rw [if_pos (show wI none < 0 by decide)]; exact rm_truth G o h S vs false hA
          | some f =>
            have hf := (wiF_le _ _ _ _ _ hw).1
            rw [if_neg (show ¬ wI (some f) < 0 from nI_pos (by omega))]; exact rm_truth G o h S vs true hA
        · rw [if_neg (fun q => c32 ((ie_32 (by omega)).mp q)), if_neg c32]
          cases hw : wiV x.2.2.2.2 y.2.2.2.2 with
          | none =>
            rw [if_neg (show ¬ 0 ≤ wI none by decide)]
            exact rm_sk G o h S vs 5 0 (by decide) (by decide) hA
          | some f =>
            have hf := wiF_le _ _ _ _ _ hw
            have ha := (of_decide_eq_true hf.2).1
            rw [if_pos (show 0 ≤ wI (some f) from nI_pos' (by omega))]
            simp only
            by_cases c33 : ox = 33
            · rw [if_pos ((ie_33 (by omega)).mpr c33), if_pos c33]
              exact rm_piece G o h S vs i x 0 f hA hx (by decide) (by omega)
            · rw [if_neg (fun q => c33 ((ie_33 (by omega)).mp q)), if_neg c33]
              simp only [lm_g6, l1, l2, bs]
              rw [show wI (some f) + nI y.2.2.2.2.length = nI (f + y.2.2.2.2.length) from nI_add _ _]
              exact rm_piece G o h S vs i x (f + y.2.2.2.2.length) x.2.2.2.2.length hA hx (by omega) (Nat.le_refl _)
