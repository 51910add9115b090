/-! sums -/
def fit (t : Int) : Bool := decide ((rd 9 t.natAbs).1 < 10 ^ 18)
theorem rm_isFit_31_0 (G : Nat → Nat) (o : Nat) (h : hp_H) (S : lm_S) : ∀ (n k : Nat), k ≤ 64 → 64 - k < n → m_M_isFit_31 G n o 0 (nI k) (lm_w o h S) = some (0, lm_w o h S)
  | 0, k, _, hn => by omega
  | n + 1, k, hk, hn => by
    rw [m_M_isFit_31]
    by_cases e : k = 64
    · subst e; rw [if_pos (by decide)]; rfl
    · rw [if_neg (show ¬ (64 : Int32) ≤ nI k from nI_ge (a := k) (b := 64) (by omega) (by decide)), if_pos (by rfl), m_M_isFit_54, m_M_isFit_55]
      simp only [hp_nmE, nI_1]
      exact rm_isFit_31_0 G o h S n (k + 1) (by omega) (by omega)
theorem rm_isFit_31 (G : Nat → Nat) (o : Nat) (h : hp_H) (S : lm_S) (u sc : Nat) (hsc : sc ≤ 9) (lu : u * 10 ^ (18 - sc) < 10 ^ 64) (hr : RV (S.2 19) (u * 10 ^ (18 - sc))) : ∀ (n k : Nat), 18 - sc + 18 ≤ k → k ≤ 64 → 64 - k < n → (∀ i, 18 ≤ i → i < k - (18 - sc) → dg u i = 0) → m_M_isFit_31 G n o 1 (nI k) (lm_w o h S) = some (bI (decide (u < 10 ^ 18)), lm_w o h S)
  | 0, k, _, _, hn, _ => by omega
  | n + 1, k, hl, hk, hn, hz => by
    rw [m_M_isFit_31]
    by_cases e : k = 64
    · subst e
      rw [if_pos (by decide)]
      have : u < 10 ^ 18 := by
        have e1 : u / 10 ^ 18 < 10 ^ (28 + sc) := by
          have : u < 10 ^ (46 + sc) := by
            refine Nat.lt_of_mul_lt_mul_right (a := 10 ^ (18 - sc)) ?_
            rw [← Nat.pow_add, show 46 + sc + (18 - sc) = 64 by omega]
            exact lu
          rw [Nat.div_lt_iff_lt_mul (pw_pos 18), ← Nat.pow_add, show 28 + sc + 18 = 46 + sc by omega]
          exact this
        have e2 : u / 10 ^ 18 = 0 := dg_ext e1 (pw_pos _) (fun i hi => by
          rw [dg_zero, dg_e, Nat.div_div_eq_div_mul, ← Nat.pow_add]
          exact hz (18 + i) (by omega) (by omega))
        exact (Nat.div_eq_zero_iff_lt (pw_pos 18)).mp e2
      rw [decide_eq_true this]; rfl
    · rw [if_neg (show ¬ (64 : Int32) ≤ nI k from nI_ge (a := k) (b := 64) (by omega) (by decide)), if_neg (show ¬ (1 : Int32) = 0 by decide)]
      have l19 := lm_a19 o h S k (by omega)
      rw [hr k (by omega), dg_shift, if_pos (by omega)] at l19
      simp only [lm_g30, l19, bs]
      have d1 := dg_lt u (k - (18 - sc))
      by_cases c : dg u (k - (18 - sc)) = 0
      · rw [if_pos (by rw [c]; rfl), m_M_isFit_55]
        simp only [hp_nmE, nI_1]
        exact rm_isFit_31 G o h S u sc hsc lu hr n (k + 1) (by omega) (by omega) (by omega) (fun i h1 h2 => by
          by_cases ei : i = k - (18 - sc)
          · subst ei; exact c
          · exact hz i h1 (by omega))
      · rw [if_neg (nI_ne0 (by omega) (by omega)), m_M_isFit_54, m_M_isFit_55]
        simp only [hp_nmE, nI_1]
        rw [rm_isFit_31_0 G o h S n (k + 1) (by omega) (by omega), decide_eq_false (fun q => c (dg_big q (by omega)))]
        rfl
theorem rm_isFit_3 (G : Nat → Nat) (o : Nat) (h : hp_H) (S : lm_S) (N q : Nat) (hr : RV (S.2 19) N) : ∀ (n d p : Nat), d ≤ 9 → d < n → N = p * 10 ^ (18 - d) → rd 9 q = rd d p → m_M_isFit_3 G n o (nI (18 - d)) (lm_w o h S) = m_M_isFit_24 G o (nI (18 - (rd 9 q).2)) (lm_w o h S)
  | 0, d, p, _, hn, _, _ => by omega
  | n + 1, d, p, hd, hn, hN, he => by
    rw [m_M_isFit_3, he]
    cases d with
    | zero => rw [if_pos (by decide)]; rfl
    | succ d =>
      have l19 := lm_a19 o h S (18 - (d + 1)) (by omega)
      rw [hr _ (by omega), hN, dg_shift, if_pos (Nat.le_refl _), Nat.sub_self, dg_0] at l19
      rw [if_neg (show ¬ (18 : Int32) ≤ nI (18 - (d + 1)) from nI_ge (a := 18 - (d + 1)) (b := 18) (by omega) (by decide))]
      simp only [lm_g30, l19, bs, hp_nmE, nI_1]
      rw [rd_s] at he ⊢
      by_cases c : p % 10 = 0
      · rw [if_pos (by rw [c]; rfl), if_pos c, ← (he.trans (if_pos c)), show 18 - (d + 1) + 1 = 18 - d by omega]
        refine rm_isFit_3 G o h S N q hr n d (p / 10) (by omega) (by omega) ?_ (he.trans (if_pos c))
        rw [hN, show 18 - d = 18 - (d + 1) + 1 by omega, Nat.pow_succ, Nat.mul_comm (10 ^ (18 - (d + 1))) 10, ← Nat.mul_assoc, show p / 10 * 10 = p by omega]
      · rw [if_neg (nI_ne0 (by omega) (by omega)), if_neg c]
theorem rm_isFit (G : Nat → Nat) (o : Nat) (h : hp_H) (S : lm_S) (t : Int) (ht : t.natAbs < 10 ^ 55) (hr : RV (S.2 19) (t.natAbs * 10 ^ 9)) : m_M_isFit G o (lm_w o h S) = some (bI (fit t), lm_w o h S) := by
  have e9 := rd_le 9 t.natAbs
  have ev := rd_v 9 t.natAbs
  have hN : t.natAbs * 10 ^ 9 = (rd 9 t.natAbs).1 * 10 ^ (18 - (rd 9 t.natAbs).2) := by
    rw [show 18 - (rd 9 t.natAbs).2 = 9 - (rd 9 t.natAbs).2 + 9 by omega, Nat.pow_add, ← Nat.mul_assoc, ← ev]
  have lN : t.natAbs * 10 ^ 9 < 10 ^ 64 := by omega
  unfold m_M_isFit
  rw [hp_nmE]
  rw [show (9 : Int32) = nI (18 - 9) from rfl, rm_isFit_3 G o h S _ t.natAbs hr hp_fu 9 t.natAbs (by decide) (by decide) rfl rfl]
  unfold fit m_M_isFit_24
  generalize rd 9 t.natAbs = r at *
  rw [hp_nmE, hp_nmE, show (18 : Int32) = nI 18 from rfl, nI_add]
  rw [hN] at lN hr
  exact rm_isFit_31 G o h S r.1 r.2 e9 lN hr hp_fu (18 - r.2 + 18) (Nat.le_refl _) (by omega) (by unfold hp_fu; omega) (fun i h1 h2 => by omega)
theorem fit_lt {t : Int} (h : fit t = true) : t.natAbs < 10 ^ 27 := by
  have c := of_decide_eq_true h
  have ev := rd_v 9 t.natAbs
  have e9 : 10 ^ (9 - (rd 9 t.natAbs).2) ≤ 10 ^ 9 := Nat.pow_le_pow_right (by decide) (by omega)
  rw [ev]
  calc (rd 9 t.natAbs).1 * 10 ^ (9 - (rd 9 t.natAbs).2) ≤ (rd 9 t.natAbs).1 * 10 ^ 9 := Nat.mul_le_mul_left _ e9
    _ < 10 ^ 18 * 10 ^ 9 := Nat.mul_lt_mul_of_pos_right c (pw_pos 9)
    _ = 10 ^ 27 := by rw [← Nat.pow_add]
def gv (vs : List vV) (n : Nat) : Option vV := if n = 0 then none else vs[n - 1]?
def smA : List (Option vV) → Int → Bool → Option (Int × Bool)
  | [], t, w => some (t, w)
  | none :: _, _, _ => none
  | some x :: r, t, w => if nbV x then (if fit (t + am9 x) then smA r (t + am9 x) (w && x.1 == 3) else none) else none
theorem rm_sum_175 (G : Nat → Nat) (o : Nat) (h : hp_H) (r19 : Nat → Int32 → hp_H → Option (Int32 × hp_H)) (a1 : Int32) (v : Nat) (hv : v ≤ 2000) (N : Nat) : ∀ (n k : Nat) (S : lm_S), k ≤ 64 → 64 - k < n → RV (S.2 12) N → (∀ t, t < k → S.2 19 t = nI (dg N t)) → ∃ f, m_M_sumAll_175 G r19 n o a1 (nI v) (nI k) (lm_w o h S) = m_M_sumAll_209 G r19 o a1 (lm_w o h (upd S.1 31 (S.2 3 v), lm_up S.2 19 f)) ∧ RV f N
  | 0, k, S, _, hn, _, _ => by omega
  | n + 1, k, S, hk, hn, hy, hz => by
    rw [m_M_sumAll_175]
    by_cases e : k = 64
    · subst e
      rw [if_pos (by decide)]
      have l3 := lm_a3 o h S v (by omega)
      simp only [lm_g3, l3, bs, lm_p31]
      exact ⟨S.2 19, by rw [lm_upi], hz⟩
    · rw [if_neg (show ¬ (64 : Int32) ≤ nI k from nI_ge (a := k) (b := 64) (by omega) (by decide))]
      have l12 := lm_a12 o h S k (by omega)
      have l19 := lm_s19 o h S k (S.2 12 k) (by omega)
      simp only [lm_g30, lm_g18, l12, l19, bs, hp_nmE, nI_1]
      obtain ⟨f, e1, e2⟩ := rm_sum_175 G o h r19 a1 v hv N n (k + 1) (S.1, lm_up S.2 19 (upd (S.2 19) k (S.2 12 k))) (by omega) (by omega) (by simp (disch := omega) only [lm_upn]; exact hy) (fun t ht => by
        simp only [lm_ups]
        by_cases et : t = k
        · subst et; rw [upd_s]; exact hy t (by omega)
        · rw [upd_n _ _ et]; exact hz t (by omega))
      refine ⟨f, ?_, e2⟩
      rw [e1]
      simp (disch := omega) only [lm_upu, lm_upn]
/-- only y, total and its sign and kind have changed -/
def tS (S S' : lm_S) : Prop := (∀ i, i ≠ 31 → i ≠ 32 → S'.1 i = S.1 i) ∧ ∀ j, j ≠ 12 → j ≠ 19 → S'.2 j = S.2 j
theorem tS.rf {S : lm_S} : tS S S := ⟨fun _ _ _ => rfl, fun _ _ _ => rfl⟩
theorem tS.tr {S S' S'' : lm_S} (h1 : tS S S') (h2 : tS S' S'') : tS S S'' := ⟨fun i a b => (h2.1 i a b).trans (h1.1 i a b), fun j a b => (h2.2 j a b).trans (h1.2 j a b)⟩
theorem tS.f {S S' : lm_S} (q : tS S S') : fS S S' := by
  obtain ⟨q1, q2⟩ := q
  exact ⟨⟨q1 9 (by omega) (by omega), q1 22 (by omega) (by omega), q1 26 (by omega) (by omega), q1 27 (by omega) (by omega), q1 28 (by omega) (by omega), q1 29 (by omega) (by omega)⟩, q2 8 (by omega) (by omega), q2 14 (by omega) (by omega), q2 15 (by omega) (by omega), q2 16 (by omega) (by omega), q2 17 (by omega) (by omega), q2 18 (by omega) (by omega)⟩
theorem tS.A {S S' : lm_S} {vs : List vV} (q : tS S S') (h : rm_A S vs) : rm_A S' vs := h.keep (q.1 0 (by omega) (by omega)) (fun j _ h7 => q.2 j (by omega) (by omega))
/-- one step of the sum: what is left is told by 'r19' -/
theorem rm_sum_209 (G : Nat → Nat) (o : Nat) (h : hp_H) (r19 : Nat → Int32 → hp_H → Option (Int32 × hp_H)) (S : lm_S) (k : Nat) (t : Int) (s : Int32) (ht : t.natAbs < 10 ^ 55) (hr : RV (S.2 19) (t.natAbs * 10 ^ 9)) (h31 : S.1 31 = s) (hs : t ≠ 0 → s = sgI t) : ∃ S', S'.2 = S.2 ∧ (∀ i, i ≠ 31 → S'.1 i = S.1 i) ∧ S'.1 31 = sgI t ∧ m_M_sumAll_209 G r19 o (nI k) (lm_w o h S) = if fit t then r19 o (nI (k + 1)) (lm_w o h S') else some (0, lm_w o h S') := by
  have l64 : t.natAbs * 10 ^ 9 < 10 ^ 64 := by clear hr; omega
  unfold m_M_sumAll_209
  simp only [lm_g30, bs, rm_isZero G o h S 19 (by unfold RJ; clear ht l64; omega) _ hr l64]
  have fin : ∀ S1 : lm_S, S1.2 = S.2 → m_M_sumAll_224 G r19 o (nI k) (lm_w o h S1) = if fit t then r19 o (nI (k + 1)) (lm_w o h S1) else some (0, lm_w o h S1) := fun S1 e => by
    unfold m_M_sumAll_224
    rw [lm_vck, rm_isFit G o h S1 t ht (by rw [e]; exact hr), bs]
    cases fit t with
    | false => rw [if_pos (show bI false = 0 from rfl), if_neg (show ¬ false = true by decide)]; rfl
    | true => rw [if_neg (show ¬ bI true = 0 by decide), if_pos (show true = true from rfl), hp_nmE, nI_1]
  by_cases c : t = 0
  · subst c
    rw [if_neg (by rw [if_pos (show (0 : Int).natAbs * 10 ^ 9 = 0 from rfl)]; decide), lm_p31, bs]
    exact ⟨(upd S.1 31 0, S.2), rfl, fun i hi => upd_n _ _ hi, by simp only [upd_s]; rfl, fin _ rfl⟩
  · have : 0 < t.natAbs * 10 ^ 9 := Nat.mul_pos (by clear ht l64 hr; omega) (pw_pos 9)
    rw [if_pos (by rw [if_neg (show ¬ t.natAbs * 10 ^ 9 = 0 from fun q => by rw [q] at this; exact Nat.lt_irrefl 0 this)])]
    exact ⟨S, rfl, fun _ _ => rfl, h31.trans (hs c), fin S rfl⟩
