/-! THE CLASS: the reckoner -/
def KR (c : Nat) (h : hp_H) (k : Nat) (g w : Bool) (a : Int) (s : Nat) : Prop := h.1 (c + k) = some (.inl (6, [.int (bI g), .int (bI w), .long (jL a), .int (nI s)])) ∧ a.natAbs < 10 ^ 18 ∧ s ≤ 9
def ftB (N : Nat) : Bool := decide ((rd 9 N).1 < 10 ^ 18)
/-- it holds T, or that T is too large -/
def KN (c : Nat) (h : hp_H) (k : Nat) (w : Bool) (T : Int) : Prop := ∃ a s, KR c h k (ftB T.natAbs) w a s ∧ (ftB T.natAbs = true → a = T.sign * ((rd 9 T.natAbs).1 : Int) ∧ s = (rd 9 T.natAbs).2)
theorem rd_hl (hi : Nat) : ∀ (k lo : Nat), rd k (hi * 10 ^ k + lo) = (hi * 10 ^ (rd k lo).2 + (rd k lo).1, (rd k lo).2)
  | 0, lo => by rw [rd, rd, Nat.pow_zero, Nat.mul_one]
  | k + 1, lo => by
    rw [rd_s, rd_s, Nat.pow_succ]
    have e1 : (hi * (10 ^ k * 10) + lo) % 10 = lo % 10 := by
      rw [← Nat.mul_assoc]; omega
    have e2 : (hi * (10 ^ k * 10) + lo) / 10 = hi * 10 ^ k + lo / 10 := by
      rw [← Nat.mul_assoc]; omega
    rw [e1, e2]
    by_cases z : lo % 10 = 0
    · rw [if_pos z, if_pos z]; exact rd_hl hi k (lo / 10)
    · rw [if_neg z, if_neg z]
      show _ = (hi * 10 ^ (k + 1) + lo, k + 1)
      rw [Nat.pow_succ]
theorem rd_le1 (k lo : Nat) : (rd k lo).1 ≤ lo := by
  have h1 := rd_v k lo
  have h2 := Nat.pow_pos (n := k - (rd k lo).2) (show 0 < 10 by decide)
  have h3 := Nat.le_mul_of_pos_right (rd k lo).1 h2
  omega
theorem iL_q {n : Nat} (h : n ≤ 999999999999999999) : iL (n : Int) := by unfold iL; omega
section
variable (G : Nat → Nat) {c k : Nat} {h : hp_H}
theorem KR.k1 {g w : Bool} {a : Int} {s : Nat} {β : Type} (r : KR c h k g w a s) (X : Option β) : hp_vck h (c + k) 6 X = X := vck_e r.1 X
theorem cl_start {g w : Bool} {a : Int} {s : Nat} (r : KR c h k g w a s) (w' : Bool) (a' : Int) (s' : Nat) (ha : a'.natAbs < 10 ^ 18) (hs : s' ≤ 9) : ∃ h', m_K_start G (c + k) (bI w') (jL a') (nI s') h = some ((), h') ∧ KR c h' k true w' a' s' ∧ chg c [k] h h' := by
  unfold m_K_start
  rw [show hp_pZ h (c + k) 6 0 1 = _ from pZ_e (k := 0) r.1 true (by simp), bs, pZ_e (k := 1) (stC_s _ _ _) w' (by simp), bs, stC_c, p_e (k := 2) (stC_s _ _ _) _ (by simp), bs, stC_c, p_e (k := 3) (stC_s _ _ _) _ (by simp), bs, stC_c]
  exact ⟨_, rfl, ⟨stC_s _ _ _, ha, hs⟩, chg_st _ (by simp)⟩
theorem cl_settle_38 {g w : Bool} {a : Int} {s : Nat} (hs : SC G c h) (r : KR c h k g w a s) (below : Bool) (hi d rest : Nat) (hd : d ≤ 9) (hh : hi ≤ 4000000000000000000) (hr : rest ≤ 1000000000) : ∃ h', m_K_settle_38 G (c + k) (bI below) (jL (hi : Int)) (nI d) (jL (rest : Int)) h = some ((), h') ∧ chg c [k] h h' ∧ (hi * 10 ^ d + rest < 10 ^ 18 → KR c h' k g w (if below then -((hi * 10 ^ d + rest : Nat) : Int) else ((hi * 10 ^ d + rest : Nat) : Int)) d) ∧ (¬ hi * 10 ^ d + rest < 10 ^ 18 → KR c h' k false w a s) := by
  have ip := iP_k (k := d) (by omega)
  have ip1 := ip.1
  have pw := Nat.pow_pos (n := d) (show 0 < 10 by decide)
  have i1 : iL (999999999999999999 - (rest : Int)) := by unfold iL; omega
  have e1 : (999999999999999999 - (rest : Int)).tdiv ((10 ^ d : Nat) : Int) = (((999999999999999999 - rest) / 10 ^ d : Nat) : Int) := by
    rw [show (999999999999999999 - (rest : Int)) = ((999999999999999999 - rest : Nat) : Int) by omega]
    exact Int.ofNat_tdiv _ _
  have q1 : (999999999999999999 - rest) / 10 ^ d ≤ 999999999999999999 := Nat.le_trans (Nat.div_le_self _ _) (Nat.sub_le _ _)
  have key : (lg_cmp (jL (hi : Int)) (jL (((999999999999999999 - rest) / 10 ^ d : Nat) : Int)) ≤ 0) ↔ hi * 10 ^ d + rest < 10 ^ 18 := by
    rw [lgc_le, jL_le (by unfold iL; omega) (iL_q q1)]
    have := Nat.le_div_iff_mul_le (x := hi) (y := 999999999999999999 - rest) pw
    have t : (10 : Nat) ^ 18 = 1000000000000000000 := rfl
    rw [t]
    omega
  unfold m_K_settle_38
  rw [cl_power G h hs (by omega), bs, show (999999999999999999 : Int64) = jL 999999999999999999 from rfl, jL_sub, hp_dL_j i1 ip.L (by omega) (by omega), bs, e1]
  by_cases q : hi * 10 ^ d + rest < 10 ^ 18
  · rw [if_pos (key.mpr q), cl_power G h hs (by omega), bs, hp_nmE, jL_mul, jL_add]
    have e2 : (hi : Int) * ((10 ^ d : Nat) : Int) + (rest : Int) = ((hi * 10 ^ d + rest : Nat) : Int) := by rw [Int.natCast_add, Int.natCast_mul]
    rw [e2]
    unfold m_K_settle_86
    have fin : ∀ z : Int, z.natAbs < 10 ^ 18 → ∃ h', ((hp_p h (c + k) 6 2 (.long (jL z))).bind fun h1 => (hp_p h1 (c + k) 6 3 (.int (nI d))).bind fun h2 => some ((), h2)) = some ((), h') ∧ chg c [k] h h' ∧ KR c h' k g w z d := fun z hz => by
      rw [p_e (k := 2) r.1 _ (by simp), bs, p_e (k := 3) (stC_s _ _ _) _ (by simp), bs, stC_c]
      exact ⟨_, rfl, chg_st _ (by simp), stC_s _ _ _, hz, hd⟩
    cases below with
    | false =>
      rw [if_pos (show bI false = 0 from rfl)]
      obtain ⟨h', f1, f2, f3⟩ := fin ((hi * 10 ^ d + rest : Nat) : Int) (by rw [Int.natAbs_natCast]; exact q)
      exact ⟨h', f1, f2, fun _ => f3, fun n => absurd q n⟩
    | true =>
      rw [if_neg (show ¬ bI true = 0 by decide), jL_neg]
      obtain ⟨h', f1, f2, f3⟩ := fin (-((hi * 10 ^ d + rest : Nat) : Int)) (by rw [Int.natAbs_neg, Int.natAbs_natCast]; exact q)
      exact ⟨h', f1, f2, fun _ => f3, fun n => absurd q n⟩
  · rw [if_neg (fun z => q (key.mp z)), show hp_pZ h (c + k) 6 0 0 = _ from pZ_e (k := 0) r.1 false (by simp), bs]
    exact ⟨_, rfl, chg_st _ (by simp), fun z => absurd z q, fun _ => ⟨stC_s _ _ _, r.2⟩⟩
theorem cl_settle_8 {g w : Bool} {a : Int} {s : Nat} (hs : SC G c h) (r : KR c h k g w a s) (below : Bool) (hi lo : Nat) (hh : hi ≤ 4000000000000000000) : ∀ (n d rest : Nat), d < n → d ≤ 9 → rest ≤ 1000000000 → rd 9 lo = rd d rest → ∃ h', m_K_settle_8 G n (c + k) (bI below) (jL (hi : Int)) (nI d) (jL (rest : Int)) h = some ((), h') ∧ chg c [k] h h' ∧ (hi * 10 ^ (rd 9 lo).2 + (rd 9 lo).1 < 10 ^ 18 → KR c h' k g w (if below then -((hi * 10 ^ (rd 9 lo).2 + (rd 9 lo).1 : Nat) : Int) else ((hi * 10 ^ (rd 9 lo).2 + (rd 9 lo).1 : Nat) : Int)) (rd 9 lo).2) ∧ (¬ hi * 10 ^ (rd 9 lo).2 + (rd 9 lo).1 < 10 ^ 18 → KR c h' k false w a s)
  | 0, d, rest, hn, _, _, _ => by omega
  | n + 1, d, rest, hn, hd, hr, he => by
    rw [m_K_settle_8]
    cases d with
    | zero =>
      rw [if_pos (by decide), he, rd]
      exact cl_settle_38 G hs r below hi 0 rest (by omega) hh hr
    | succ d =>
      have iR : iL (rest : Int) := by unfold iL; omega
      rw [if_neg (nI_nle (by omega) (by omega)), show (10 : Int64) = jL 10 from rfl, hp_mL_j iR (by unfold iL; omega) (by decide) (by decide), bs]
      have e1 : (rest : Int).tmod 10 = ((rest % 10 : Nat) : Int) := Int.ofNat_tmod rest 10
      have e2 : (rest : Int).tdiv 10 = ((rest / 10 : Nat) : Int) := Int.ofNat_tdiv rest 10
      have c0 : lg_cmp (jL ((rest : Int).tmod 10)) 0 = 0 ↔ rest % 10 = 0 := by
        rw [lgc_eq, e1, ← jL_0, jL_eq (by unfold iL; omega) iL_0]; omega
      rw [rd_s d rest] at he
      by_cases z : rest % 10 = 0
      · rw [if_pos (c0.mpr z), hp_dL_j iR (by unfold iL; omega) (by decide) (by decide), bs, hp_nmE, hp_nmE, e2, show nI (d + 1) + -1 = nI d from pk_m1 d]
        rw [if_pos z] at he
        exact cl_settle_8 hs r below hi lo hh n d (rest / 10) (by omega) (by omega) (by omega) he
      · rw [if_neg (fun q => z (c0.mp q))]
        rw [if_neg z] at he
        rw [he]
        exact cl_settle_38 G hs r below hi (d + 1) rest hd hh hr
theorem cl_settle {g w : Bool} {a : Int} {s : Nat} (hs : SC G c h) (r : KR c h k g w a s) (below : Bool) (hi lo : Nat) (hh : hi ≤ 4000000000000000000) (hl : lo ≤ 1000000000) : ∃ h', m_K_settle G (c + k) (bI below) (jL (hi : Int)) (jL (lo : Int)) h = some ((), h') ∧ chg c [k] h h' ∧ (ftB (hi * 10 ^ 9 + lo) = true → KR c h' k g w (if below then -((rd 9 (hi * 10 ^ 9 + lo)).1 : Int) else ((rd 9 (hi * 10 ^ 9 + lo)).1 : Int)) (rd 9 (hi * 10 ^ 9 + lo)).2) ∧ (ftB (hi * 10 ^ 9 + lo) = false → KR c h' k false w a s) := by
  unfold m_K_settle
  rw [hp_nmE, hp_nmE]
  obtain ⟨h', e1, e2, e3, e4⟩ := cl_settle_8 G hs r below hi lo hh hp_fu 9 lo (by decide) (by decide) hl rfl
  refine ⟨h', e1, e2, fun z => ?_, fun z => ?_⟩
  · unfold ftB at z
    rw [rd_hl] at z ⊢
    exact e3 (of_decide_eq_true z)
  · unfold ftB at z
    rw [rd_hl] at z
    exact e4 (of_decide_eq_false z)
/-- what was settled, as a number T of billionths -/
theorem cl_settleN {w : Bool} {a : Int} {s : Nat} (hs : SC G c h) (r : KR c h k true w a s) (below : Bool) (hi lo : Nat) (hh : hi ≤ 4000000000000000000) (hl : lo ≤ 1000000000) (T : Int) (hT : T.natAbs = hi * 10 ^ 9 + lo) (hb : T ≠ 0 → (below = true ↔ T < 0)) : ∃ h', m_K_settle G (c + k) (bI below) (jL (hi : Int)) (jL (lo : Int)) h = some ((), h') ∧ chg c [k] h h' ∧ KN c h' k w T := by
  obtain ⟨h', e1, e2, e3, e4⟩ := cl_settle G hs r below hi lo hh hl
  rw [← hT] at e3 e4
  refine ⟨h', e1, e2, ?_⟩
  cases f : ftB T.natAbs with
  | false => exact ⟨a, s, by rw [f]; exact e4 f, fun z => by rw [f] at z; cases z⟩
  | true =>
    refine ⟨_, _, by rw [f]; exact e3 f, fun _ => ⟨?_, rfl⟩⟩
    by_cases t0 : T = 0
    · have : (rd 9 T.natAbs).1 = 0 := by rw [rd_0, t0]; rfl
      rw [this]
      cases below <;> simp
    · have hb := hb t0
      rcases Int.lt_trichotomy T 0 with q | q | q
      · rw [hb.mpr q, if_pos (show true = true from rfl), Int.sign_eq_neg_one_of_neg q]; omega
      · exact absurd q t0
      · have : below = false := by
          cases below with
          | false => rfl
          | true => have := hb.mp rfl; omega
        rw [this, if_neg (show ¬ false = true by decide), Int.sign_eq_one_of_pos q]; omega
variable {q0 : Nat} {vs : List vV}
theorem cl_keepReckoned (hS : ST G c q0 h vs) (hV : vsO vs) {w : Bool} {T : Int} (r : KN c h k w T) : CK G c q0 [2, 3] h (m_S_keepReckoned G (c + 1) (c + k) h) (kq vs (nmI T w)) := by
  obtain ⟨a, s, ⟨r1, r2, r3⟩, r4⟩ := r
  unfold m_S_keepReckoned m_S_keepReckoned_23
  rw [gI_e (k := 0) r1 rfl, bs]
  unfold nmI
  cases f : ftB T.natAbs with
  | false =>
    have f' : 10 ^ 18 ≤ (rd 9 T.natAbs).1 := by unfold ftB at f; exact Nat.le_of_not_lt (of_decide_eq_false f)
    rw [if_pos (show bI false = 0 from rfl), if_pos f']
    exact ⟨h, rfl, hS, fr.rf⟩
  | true =>
    have f' : (rd 9 T.natAbs).1 < 10 ^ 18 := by unfold ftB at f; exact of_decide_eq_true f
    obtain ⟨t1, t2⟩ := r4 f
    rw [if_neg (show ¬ bI true = 0 by decide), if_neg (Nat.not_le_of_lt f'), gI_e (k := 1) r1 rfl, bs, ← t1, ← t2]
    cases w with
    | false =>
      rw [if_pos (show bI false = 0 from rfl), gL_e (k := 2) r1 rfl, bs, gI_e (k := 3) r1 rfl, bs, vck_e hS.2.1, bq]
      exact cl_keepNumber G hS hV 4 a s ⟨by show 4 ≤ 8; decide, by show 0 ≤ 9999; decide, r2, r3, by show 0 ≤ 64; decide, fun b hb => by cases hb⟩
    | true =>
      rw [if_neg (show ¬ bI true = 0 by decide), gL_e (k := 2) r1 rfl, bs, gI_e (k := 3) r1 rfl, bs, vck_e hS.2.1, bq]
      exact cl_keepNumber G hS hV 3 a s ⟨by show 3 ≤ 8; decide, by show 0 ≤ 9999; decide, r2, r3, by show 0 ≤ 64; decide, fun b hb => by cases hb⟩
end
