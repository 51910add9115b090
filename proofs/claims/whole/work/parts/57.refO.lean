/-! whole, decimal, truth, named, type, text -/
theorem rm_isFar (G : Nat → Nat) (h : hp_H) (v : Int) (hv : iL v) : m_M_isFar G (jL v) h = some (bI (!decide (v.natAbs < 10 ^ 18)), h) := by
  unfold m_M_isFar m_M_isFar_16 m_M_isFar_21
  rw [show (999999999999999999 : Int64) = jL 999999999999999999 from rfl, jL_neg]
  have i1 : iL 999999999999999999 := ⟨by decide, by decide⟩
  have i2 : iL (-999999999999999999) := ⟨by decide, by decide⟩
  have c1 := (lgc_gt (jL v) (jL 999999999999999999)).trans (jL_lt i1 hv)
  have c2 := (lgc_ge (jL v) (jL (-999999999999999999))).trans (jL_le i2 hv)
  by_cases c : v.natAbs < 10 ^ 18
  · rw [if_neg (fun q => by have := c1.mp q; omega), if_pos (c2.mpr (by omega)), decide_eq_true c]; rfl
  · rw [decide_eq_false c]
    by_cases q : 999999999999999999 < v
    · rw [if_pos (c1.mpr q)]; rfl
    · rw [if_neg (fun z => q (c1.mp z)), if_neg (fun z => by have := c2.mp z; omega)]; rfl
/-- what a public method that may refuse does -/
def RQ (o : Nat) (h : hp_H) (S : lm_S) (m : Option (Int32 × hp_H)) (r : Int32 × List vV) : Prop := ∃ S', m = some (r.1, lm_w o h S') ∧ rm_A S' r.2 ∧ fS S S'
def wholeV (vs : List vV) (v : Int64) : Int32 × List vV := if v.toInt.natAbs < 10 ^ 18 then kq vs (nmI (v.toInt * 10 ^ 9) true) else (-1, vs)
theorem rm_whole (G : Nat → Nat) (o : Nat) (h : hp_H) (S : lm_S) (vs : List vV) (v : Int64) (hA : rm_A S vs) : RQ o h S (m_M_whole G o v (lm_w o h S)) (wholeV vs v) := by
  unfold m_M_whole m_M_whole_18 wholeV
  have e := rm_isFar G (lm_w o h S) v.toInt (iL_of v)
  rw [jL_of] at e
  simp only [e, bs, lm_vck]
  by_cases c : v.toInt.natAbs < 10 ^ 18
  · rw [decide_eq_true c, if_pos c, if_pos (by rfl), bq]
    have key := rm_numbered G o h S vs v.toInt 0 true c (by decide) hA
    rw [jL_of] at key
    exact key
  · rw [decide_eq_false c, if_neg c, if_neg (by decide)]
    exact ⟨S, rfl, hA, fS.rf⟩
def decV (vs : List vV) (v : Int64) (p : Int32) : Int32 × List vV := if v.toInt.natAbs < 10 ^ 18 ∧ ¬ p < 0 ∧ p ≤ 9 then kq vs (nmI (v.toInt * 10 ^ (9 - p.toNatClampNeg)) false) else (-1, vs)
theorem rm_decimal (G : Nat → Nat) (o : Nat) (h : hp_H) (S : lm_S) (vs : List vV) (v : Int64) (p : Int32) (hA : rm_A S vs) : RQ o h S (m_M_decimal G o v p (lm_w o h S)) (decV vs v p) := by
  unfold m_M_decimal m_M_decimal_17 m_M_decimal_28 decV
  have e := rm_isFar G (lm_w o h S) v.toInt (iL_of v)
  rw [jL_of] at e
  simp only [e, bs, lm_vck]
  by_cases c : v.toInt.natAbs < 10 ^ 18
  · rw [decide_eq_true c, if_pos (by rfl)]
    by_cases c0 : p < 0
    · rw [if_pos c0, if_neg (fun q => q.2.1 c0)]; exact ⟨S, rfl, hA, fS.rf⟩
    · rw [if_neg c0]
      by_cases c9 : p ≤ 9
      · rw [if_pos c9, if_pos ⟨c, c0, c9⟩, bq]
        obtain ⟨j, hj, rfl⟩ := nI_of c0
        have : j ≤ 9 := (nI_leI (b := 9) hj (by decide)).mp c9
        have key := rm_numbered G o h S vs v.toInt j false c this hA
        rw [jL_of] at key
        rw [nI_clamp hj]
        exact key
      · rw [if_neg c9, if_neg (fun q => c9 q.2.2)]; exact ⟨S, rfl, hA, fS.rf⟩
  · rw [decide_eq_false c, if_neg (by decide), if_neg (fun q => c q.1)]
    exact ⟨S, rfl, hA, fS.rf⟩
theorem lm_F.f {S S' : lm_S} (q : lm_F [10, 11, 12, 13, 16] [9] S S') : fS S S' := by
  refine ⟨⟨?_, ?_, ?_, ?_, ?_, ?_⟩, ?_, ?_, ?_, ?_, ?_, ?_⟩
  · exact q.1 9 (by decide)
  · exact q.1 22 (by decide)
  · exact q.1 26 (by decide)
  · exact q.1 27 (by decide)
  · exact q.1 28 (by decide)
  · exact q.1 29 (by decide)
  · exact q.2 8 (by decide)
  · exact q.2 14 (by decide)
  · exact q.2 15 (by decide)
  · exact q.2 16 (by decide)
  · exact q.2 17 (by decide)
  · exact q.2 18 (by decide)
theorem lm_F.A {S S' : lm_S} {vs : List vV} (q : lm_F [10, 11, 12, 13, 16] [9] S S') (h : rm_A S vs) : rm_A S' vs := h.keep (q.1 0 (by decide)) (fun j _ h7 => q.2 j (by simp; omega))
theorem rm_sk (G : Nat → Nat) (o : Nat) (h : hp_H) (S : lm_S) (vs : List vV) (k e : Nat) (hk : k ≤ 8) (he : e ≤ 9999) (hA : rm_A S vs) : RK o h S vs ((m_M_start G o (nI k) (nI e) (lm_w o h S)).bind fun q1 => hp_vck q1.2 o 8 (m_M_keep G o q1.2)) (some (k, e, 0, 0, [])) := by
  obtain ⟨S1, e1, e2, e3⟩ := rm_start G o h S k e
  simp only [e1, bs, lm_vck]
  obtain ⟨S2, f1, f2, f3⟩ := rm_keep G o h S1 vs _ (e3.A hA) e2 (by simp) (fun _ => ⟨hk, he, by simp, by simp, by simp, by simp⟩)
  exact ⟨S2, f1, f2, e3.f.tr f3⟩
def trV (w : Bool) : vV := (8, oI w, 0, 0, [])
theorem rm_truth (G : Nat → Nat) (o : Nat) (h : hp_H) (S : lm_S) (vs : List vV) (w : Bool) (hA : rm_A S vs) : RK o h S vs (m_M_truth G o (bI w) (lm_w o h S)) (some (trV w)) := by
  unfold m_M_truth m_M_truth_12 trV
  simp only [lm_vck, bq]
  cases w with
  | false => rw [if_pos (by rfl)]; exact rm_sk G o h S vs 8 0 (by decide) (by decide) hA
  | true => rw [if_neg (by decide)]; exact rm_sk G o h S vs 8 1 (by decide) (by decide) hA
def namedV (vs : List vV) (k e : Int32) : Int32 × List vV := if (k = 1 ∨ k = 2) ∧ ¬ e < 0 ∧ e ≤ 9999 then kp vs (k.toNatClampNeg, e.toNatClampNeg, 0, 0, []) else (-1, vs)
theorem rm_named (G : Nat → Nat) (o : Nat) (h : hp_H) (S : lm_S) (vs : List vV) (k e : Int32) (hA : rm_A S vs) : RQ o h S (m_M_named G o k e (lm_w o h S)) (namedV vs k e) := by
  unfold m_M_named m_M_named_10 m_M_named_21 namedV
  have no : RQ o h S (some (-1, lm_w o h S)) (-1, vs) := ⟨S, rfl, hA, fS.rf⟩
  simp only [lm_vck, bq]
  have yes : ∀ n : Nat, n ≤ 8 → k = nI n → (k = 1 ∨ k = 2) → RQ o h S (if e < 0 then some (-1, lm_w o h S) else if e ≤ 9999 then (m_M_start G o k e (lm_w o h S)).bind fun q1 => hp_vck q1.2 o 8 (m_M_keep G o q1.2) else some (-1, lm_w o h S)) (if (k = 1 ∨ k = 2) ∧ ¬ e < 0 ∧ e ≤ 9999 then kp vs (k.toNatClampNeg, e.toNatClampNeg, 0, 0, []) else (-1, vs)) := fun n hn hk hk2 => by
    by_cases c0 : e < 0
    · rw [if_pos c0, if_neg (fun q => q.2.1 c0)]; exact no
    · rw [if_neg c0]
      by_cases c9 : e ≤ 9999
      · rw [if_pos c9, if_pos ⟨hk2, c0, c9⟩]
        obtain ⟨j, hj, rfl⟩ := nI_of c0
        have : j ≤ 9999 := (nI_leI (b := 9999) hj (by decide)).mp c9
        rw [hk, nI_clamp hj, nI_clamp (by omega)]
        exact rm_sk G o h S vs n j hn this hA
      · rw [if_neg c9, if_neg (fun q => c9 q.2.2)]; exact no
  by_cases c1 : k = 1
  · rw [if_pos c1]; exact yes 1 (by decide) c1 (Or.inl c1)
  · rw [if_neg c1]
    by_cases c2 : k = 2
    · rw [if_pos c2]; exact yes 2 (by decide) c2 (Or.inr c2)
    · rw [if_neg c2, if_neg (fun q => by rcases q.1 with z | z; exact c1 z; exact c2 z)]; exact no
/-! the tape -/
def rm_T (S : lm_S) (T : List Nat) : Prop := S.1 9 = nI T.length ∧ T.length ≤ 64 ∧ (∀ k, k < T.length → S.2 8 k = nI (T.getD k 0)) ∧ ∀ b ∈ T, b < 256
def byK (v : Int64) (k : Nat) : Nat := v.toBitVec.toNat / 2 ^ (8 * k) % 256
def bytesK (v : Int64) : Nat → List Nat
  | 0 => []
  | k + 1 => byK v k :: bytesK v k
theorem bytesK_len (v : Int64) : ∀ k, (bytesK v k).length = k
  | 0 => rfl
  | k + 1 => by rw [bytesK, List.length_cons, bytesK_len]
theorem tb255 (i : Nat) : (255 : Nat).testBit i = decide (i < 8) := by
  rw [show (255 : Nat) = 2 ^ 8 - 1 from rfl, Nat.testBit_two_pow_sub_one]
theorem bb_K (v : BitVec 64) (k i : Nat) : (v.toNat / 2 ^ (8 * k) % 256).testBit i = (decide (i < 8) && v.getLsbD (8 * k + i)) := by
  rw [show (256 : Nat) = 2 ^ 8 from rfl, Nat.testBit_mod_two_pow, Nat.testBit_div_two_pow, Nat.add_comm]
  rfl
theorem sh_K (v : Int64) (k : Nat) (hk : k < 8) : ((v >>> ((8 * nI k).toInt64 &&& 63)) &&& 255).toInt32 = nI (byK v k) := by
  have e1 : ∀ k, k < 8 → ((((8 : Int32) * nI k).toInt64 &&& 63).toBitVec.smod 64).toNat = 8 * k := by decide +kernel
  refine Int32.toBitVec.inj (BitVec.eq_of_getLsbD_eq fun i hi => ?_)
  have hR : (nI (byK v k)).toBitVec.getLsbD i = (decide (i < 8) && v.toBitVec.getLsbD (8 * k + i)) := by
    show (BitVec.ofNat 32 (byK v k)).getLsbD i = _
    rw [BitVec.getLsbD_ofNat, decide_eq_true hi, Bool.true_and]
    exact bb_K v.toBitVec k i
  rw [hR]
  show (((v >>> (((8 : Int32) * nI k).toInt64 &&& 63)) &&& 255).toBitVec.signExtend 32).getLsbD i = _
  rw [BitVec.getLsbD_signExtend, decide_eq_true hi, Bool.true_and, if_pos (by omega)]
  rw [Int64.toBitVec_and, BitVec.getLsbD_and, Int64.toBitVec_shiftRight]
  have h255 : (255 : Int64).toBitVec.getLsbD i = decide (i < 8) := by
    show (BitVec.ofNat 64 255).getLsbD i = _
    rw [BitVec.getLsbD_ofNat, tb255, decide_eq_true (show i < 64 by omega), Bool.true_and]
  rw [h255]
  by_cases c : i < 8
  · rw [decide_eq_true c, Bool.and_true, Bool.true_and]
    show (v.toBitVec.sshiftRight _).getLsbD i = _
    rw [BitVec.getLsbD_sshiftRight]
    have e2 := e1 k hk
    rw [e2, if_pos (by omega)]
    rw [decide_eq_false (show ¬ 64 ≤ i by omega)]
    rfl
  · rw [decide_eq_false c, Bool.and_false, Bool.false_and]
theorem rm_type_32 (G : Nat → Nat) (o : Nat) (h : hp_H) (v : Int64) : ∀ (n k : Nat) (S : lm_S) (T : List Nat), k ≤ 8 → k < n → rm_T S T → T.length + k ≤ 64 → ∃ S', m_M_type_32 G n o v (iI ((k : Int) - 1)) (lm_w o h S) = some (nI (T.length + k), lm_w o h S') ∧ rm_T S' (T ++ bytesK v k) ∧ (∀ i, i ≠ 9 → S'.1 i = S.1 i) ∧ ∀ j, j ≠ 8 → S'.2 j = S.2 j
  | 0, k, S, T, _, hn, _, _ => by omega
  | n + 1, k, S, T, hk, hn, hT, hl => by
    obtain ⟨t1, t2, t3, t4⟩ := id hT
    rw [m_M_type_32]
    cases k with
    | zero =>
      rw [if_pos (by decide)]
      simp only [lm_g9, bs, t1]
      exact ⟨S, rfl, by rw [bytesK, List.append_nil]; exact hT, fun _ _ => rfl, fun _ _ => rfl⟩
    | succ k =>
      rw [show iI (((k + 1 : Nat) : Int) - 1) = nI k from iI_nat (by omega), if_neg (nI_pos (by omega)), sh_K v k (by omega)]
      have l8 := lm_s8 o h S T.length (nI (byK v k)) (by omega)
      simp only [lm_g8, lm_g9, bs, t1, l8, lm_p9, hp_nmE, show (1 : Int32) = nI 1 from rfl, nI_add]
      rw [show nI k + -nI 1 = iI ((k : Int) - 1) by rw [nI_iI, show -nI 1 = iI (-1) from rfl, iI_add]; exact congrArg iI (by omega)]
      have hb : byK v k < 256 := Nat.mod_lt _ (by decide)
      obtain ⟨S', e1, e2, e3, e4⟩ := rm_type_32 G o h v n k (upd S.1 9 (nI (T.length + 1)), lm_up S.2 8 (upd (S.2 8) T.length (nI (byK v k)))) (T ++ [byK v k]) (by omega) (by omega) ⟨by simp only [upd_s, List.length_append]; rfl, by simp; omega, fun i hi => by
        rw [getD_snoc _ _ _ (by simpa using hi)]
        simp only [lm_ups]
        by_cases c : i < T.length
        · rw [if_pos c, upd_n _ _ (by omega)]; exact t3 i c
        · have : i = T.length := by simp at hi; omega
          subst this
          rw [if_neg c, upd_s], fun b hb2 => by
        rcases List.mem_append.mp hb2 with q | q
        · exact t4 b q
        · simp at q; rw [q]; exact hb⟩ (by simp; omega)
      refine ⟨S', ?_, ?_, ?_, ?_⟩
      · rw [e1]
        refine congrArg (fun z => some (nI z, lm_w o h S')) ?_
        simp; omega
      · rw [bytesK]
        rw [List.append_assoc] at e2
        exact e2
      · intro i hi; rw [e3 i hi]; exact upd_n _ _ hi
      · intro j hj; rw [e4 j hj]; exact lm_upn _ _ hj
def typeV (T : List Nat) (v : Int64) (n : Int32) : Int32 × List Nat := if ¬ n < 1 ∧ n ≤ 8 then (if T.length + n.toNatClampNeg ≤ 64 then (nI (T.length + n.toNatClampNeg), T ++ bytesK v n.toNatClampNeg) else (-3, T)) else (-1, T)
theorem rm_type (G : Nat → Nat) (o : Nat) (h : hp_H) (S : lm_S) (T : List Nat) (v : Int64) (n : Int32) (hT : rm_T S T) : ∃ S', m_M_type G o v n (lm_w o h S) = some ((typeV T v n).1, lm_w o h S') ∧ rm_T S' (typeV T v n).2 ∧ (∀ i, i ≠ 9 → S'.1 i = S.1 i) ∧ ∀ j, j ≠ 8 → S'.2 j = S.2 j := by
  unfold m_M_type m_M_type_11 typeV
  have no : ∀ r : Int32, ∃ S', some (r, lm_w o h S) = some (r, lm_w o h S') ∧ rm_T S' T ∧ (∀ i, i ≠ 9 → S'.1 i = S.1 i) ∧ ∀ j, j ≠ 8 → S'.2 j = S.2 j := fun r => ⟨S, rfl, hT, fun _ _ => rfl, fun _ _ => rfl⟩
  by_cases c1 : n < 1
  · rw [if_pos c1, if_neg (fun q => q.1 c1)]; exact no _
  · rw [if_neg c1]
    by_cases c8 : n ≤ 8
    · rw [if_pos c8, if_pos ⟨c1, c8⟩]
      obtain ⟨j, hj, rfl⟩ : ∃ j : Nat, j ≤ 8 ∧ n = nI j := by
        obtain ⟨j, hj, rfl⟩ := nI_of (x := n) (fun q => c1 (by rw [Int32.lt_iff_toInt_lt] at q ⊢; have z : (0 : Int32).toInt = 0 := rfl; have z1 : (1 : Int32).toInt = 1 := rfl; omega))
        exact ⟨j, (nI_leI (b := 8) hj (by decide)).mp c8, rfl⟩
      have t2 := hT.2.1
      have hj1 : 1 ≤ j := by
        refine Nat.le_of_not_lt fun q => c1 ?_
        rw [show j = 0 by omega]; decide
      rw [nI_clamp (by omega)]
      simp only [lm_g9, bs, hT.1, nI_add, show (64 : Int32) = nI 64 from rfl, nI_leI (show T.length + j < 2 ^ 31 by omega) (show 64 < 2 ^ 31 by decide), hp_nmE]
      by_cases c : T.length + j ≤ 64
      · rw [if_pos c, if_pos c]
        rw [show nI j - 1 = iI ((j : Int) - 1) by rw [nI_iI, show (1 : Int32) = iI 1 from rfl, iI_sub]]
        exact rm_type_32 G o h v hp_fu j S T hj (by unfold hp_fu; omega) hT c
      · rw [if_neg c, if_neg c]; exact no _
    · rw [if_neg c8, if_neg (fun q => c8 q.2)]; exact no _
