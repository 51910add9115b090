/-! WHAT IS MADE IS A VALUE AS IT SHOULD BE -/
theorem vO_tr (b : Bool) : vO (trV b) := by
  unfold trV oI vO
  cases b <;> simp
theorem rd_10 : ∀ (d q : Nat), rd d (q * 10 ^ d) = (q, 0)
  | 0, q => by simp [rd]
  | d + 1, q => by
    have e : q * 10 ^ (d + 1) = q * 10 ^ d * 10 := by rw [Nat.pow_succ, ← Nat.mul_assoc]
    rw [rd_s, e, Nat.mul_mod_left, if_pos rfl, Nat.mul_div_cancel _ (by decide), rd_10 d q]
theorem vO_nmI {t : Int} {w : Bool} {x : vV} (h : nmI t w = some x) (hw : w = true → ∃ q : Int, t = q * 10 ^ 9) : vO x := by
  unfold nmI at h
  by_cases c : 10 ^ 18 ≤ (rd 9 t.natAbs).1
  · rw [if_pos c] at h; cases h
  · rw [if_neg c] at h
    injection h with h
    subst h
    have h9 := rd_le 9 t.natAbs
    have hm := rd_m 9 t.natAbs
    have h0 : (rd 9 t.natAbs).1 = 0 ↔ t = 0 := (rd_0 9 t.natAbs).trans (by omega)
    obtain ⟨-, ha⟩ := sg_mul t (rd 9 t.natAbs).1 h0
    have hk : (if w = true then 3 else 4 : Nat) = 3 ∨ (if w = true then 3 else 4 : Nat) = 4 := by cases w <;> simp
    have hsc : (if w = true then 3 else 4 : Nat) = 3 → (rd 9 t.natAbs).2 = 0 := fun q => by
      cases w with
      | false => simp at q
      | true =>
        obtain ⟨q2, e⟩ := hw rfl
        rw [e, Int.natAbs_mul, Int.natAbs_pow]
        show (rd 9 (q2.natAbs * 10 ^ 9)).2 = 0
        rw [rd_10]
    have c2 : (rd 9 t.natAbs).1 < 10 ^ 18 := Nat.lt_of_not_le c
    clear c hw h0
    generalize (if w = true then 3 else 4 : Nat) = kd at *
    generalize rd 9 t.natAbs = r at *
    refine ⟨by show 1 ≤ kd; omega, by show kd ≤ 8; omega, by show 0 ≤ 9999; omega, fun _ => ⟨rfl, rfl, hsc, h9, by show (t.sign * (r.1 : Int)).natAbs < 10 ^ 18; rw [ha]; exact c2, by show r.2 = 0 ∨ (t.sign * (r.1 : Int)).natAbs % 10 ≠ 0; rw [ha]; exact hm⟩, fun q1 q2 => ?_, fun q => ?_, fun _ => rfl, fun q => ?_, fun q => ?_, fun b hb => by cases hb⟩
    · have q1 : kd ≠ 3 := q1
      have q2 : kd ≠ 4 := q2
      omega
    · have q : kd = 8 := q
      omega
    · have q : kd = 5 := q
      omega
    · have q : kd = 6 ∨ kd = 7 := q
      omega
theorem vO_ltrs {x : vV} (h : vO x) (hp : plV x = true) {L : List Nat} (hL : ∀ b ∈ L, 0 < b ∧ b < 128) : vO (ltrs x L) := by
  have hk : x.1 = 5 ∨ x.1 = 6 := by
    unfold plV at hp
    rcases Bool.or_eq_true_iff.mp hp with q | q
    · exact Or.inl (by simpa using q)
    · exact Or.inr (by simpa using q)
  obtain ⟨h1, h2, h3, h4, h5, h6, h7, h8, h9, h10⟩ := h
  refine ⟨h1, h2, h3, fun q => ?_, fun _ _ => ⟨rfl, rfl⟩, h6, fun q => ?_, h8, h9, hL⟩
  · have q : x.1 = 3 ∨ x.1 = 4 := q
    omega
  · have q : x.1 < 5 ∨ x.1 = 8 := q
    omega
theorem vO_text {L : List Nat} (hL : ∀ b ∈ L, 0 < b ∧ b < 128) : vO (5, 0, 0, 0, L) := by
  refine ⟨by simp, by simp, by simp, fun q => ?_, fun _ _ => ⟨rfl, rfl⟩, fun q => ?_, fun q => ?_, fun _ => rfl, fun q => ?_, hL⟩
  · have q : (5 : Nat) = 3 ∨ (5 : Nat) = 4 := q
    omega
  · exact Nat.zero_le _
  · have q : (5 : Nat) < 5 ∨ (5 : Nat) = 8 := q
    omega
  · simp
theorem am9_w {x : vV} (h : vO x) (h3 : x.1 = 3) : am9 x = x.2.2.1 * 10 ^ 9 := by
  have := (h.2.2.2.1 (Or.inl h3)).2.2.1 h3
  unfold am9
  rw [this]
theorem q_end2 (z : Nat) : (z * 10 ^ 9 + 500000000) / 10 ^ 9 = z := by omega
theorem pr9_w (a b : Int) : ∃ q : Int, pr9 (a * 10 ^ 9) (b * 10 ^ 9) = q * 10 ^ 9 := by
  unfold pr9
  have e0 : (a * 10 ^ 9).natAbs * (b * 10 ^ 9).natAbs = a.natAbs * b.natAbs * 10 ^ 9 * 10 ^ 9 := by
    rw [Int.natAbs_mul, Int.natAbs_mul, show ((10 : Int) ^ 9).natAbs = 10 ^ 9 from rfl]
    simp only [Nat.mul_assoc, Nat.mul_comm, Nat.mul_left_comm]
  rw [e0, q_end2]
  refine ⟨(a * 10 ^ 9 * (b * 10 ^ 9)).sign * ((a.natAbs * b.natAbs : Nat) : Int), ?_⟩
  rw [Int.natCast_mul (a.natAbs * b.natAbs) (10 ^ 9), ← Int.mul_assoc]
  rfl
theorem wh9_w (o : Nat) (t : Int) : ∃ q : Int, wh9 o t = q * 10 ^ 9 := by
  unfold wh9
  exact ⟨_, rfl⟩
theorem nb_w {x : vV} (h : (x.1 == 3) = true) : x.1 = 3 := by simpa using h
theorem vO_tru {t : Option Bool} {x : vV} (h : t.map trV = some x) : vO x := by
  cases t with
  | none => cases h
  | some b => injection h with h; rw [← h]; exact vO_tr b
theorem vO_val1 {o : Nat} {x y : vV} (hx : vO x) (h : val1 o x = some y) : vO y := by
  unfold val1 at h
  by_cases c3 : o = 3
  · rw [if_pos c3] at h; exact vO_tru h
  rw [if_neg c3] at h
  by_cases c17 : o = 17
  · rw [if_pos c17] at h
    cases hn : nbV x with
    | false => rw [hn] at h; cases h
    | true => rw [hn, if_pos rfl] at h; exact vO_nmI h (fun q => ⟨-x.2.2.1, by rw [am9_w hx (nb_w q), Int.neg_mul]⟩)
  rw [if_neg c17] at h
  by_cases c18 : o = 18
  · rw [if_pos c18] at h
    cases hn : nbV x with
    | false => rw [hn] at h; cases h
    | true =>
      rw [hn, if_pos rfl] at h
      refine vO_nmI h (fun q => ?_)
      by_cases c : x.2.2.1 < 0
      · rw [decide_eq_true c, if_pos rfl]; exact ⟨-x.2.2.1, by rw [am9_w hx (nb_w q), Int.neg_mul]⟩
      · rw [decide_eq_false c, if_neg (by decide)]; exact ⟨x.2.2.1, am9_w hx (nb_w q)⟩
  rw [if_neg c18] at h
  by_cases c19 : o = 19 ∨ o = 20 ∨ o = 21
  · rw [if_pos c19] at h
    cases hn : nbV x with
    | false => rw [hn] at h; cases h
    | true => rw [hn, if_pos rfl] at h; exact vO_nmI h (fun _ => wh9_w _ _)
  rw [if_neg c19] at h
  by_cases c25 : o = 25
  · rw [if_pos c25] at h
    cases hn : plV x with
    | false => rw [hn] at h; cases h
    | true => rw [hn, if_pos rfl] at h; exact vO_nmI h (fun _ => ⟨(x.2.2.2.2.length : Int), rfl⟩)
  rw [if_neg c25] at h
  by_cases c27 : o = 27 ∨ o = 28
  · rw [if_pos c27] at h
    unfold csV at h
    cases hn : plV x with
    | false => rw [hn] at h; cases h
    | true =>
      rw [hn, if_pos rfl] at h
      injection h with h
      rw [← h]
      refine vO_ltrs hx hn (fun b hb => ?_)
      obtain ⟨a, ha, e⟩ := List.mem_map.mp hb
      have hab := hx.2.2.2.2.2.2.2.2.2 a ha
      have key : ∀ f, f = 97 ∨ f = 65 → ∀ a, a < 128 → 0 < a → 0 < csB f a := by
        intro f hf
        rcases hf with e | e <;> subst e <;> decide +kernel
      rw [← e]
      exact ⟨key _ (by by_cases c : o = 27 <;> simp [c]) a hab.2 hab.1, csB_lt hab.2⟩
  rw [if_neg c27] at h
  by_cases c35 : o = 35
  · rw [if_pos c35] at h
    cases hs : strS x with
    | none => rw [hs] at h; cases h
    | some L => rw [hs] at h; injection h with h; rw [← h]; exact vO_text (strS_b' hx hs)
  rw [if_neg c35] at h
  by_cases c36 : o = 36
  · rw [if_pos c36] at h
    by_cases c2 : 2 < x.1
    · rw [if_pos c2] at h
      injection h with h
      rw [← h]
      refine vO_text (fun b hb => ?_)
      by_cases c6 : x.1 = 6
      · rw [if_pos c6] at hb; exact dec_b' _ b hb
      · rw [if_neg c6] at hb; cases hb
    · rw [if_neg c2] at h; cases h
  rw [if_neg c36] at h
  by_cases c37 : o = 37
  · rw [if_pos c37] at h
    by_cases c2 : 2 < x.1
    · rw [if_pos c2] at h
      injection h with h
      rw [← h]
      have ht : tyN x ≤ 9999 := by
        have := hx.2.2.1
        unfold tyN
        by_cases c7 : x.1 = 7
        · rw [if_pos c7]; omega
        · rw [if_neg c7]
          by_cases c5 : x.1 = 5
          · rw [if_pos c5]; omega
          · rw [if_neg c5]
            by_cases c6 : x.1 = 6
            · rw [if_pos c6]; omega
            · rw [if_neg c6]
              by_cases c3 : x.1 = 3
              · rw [if_pos c3]; omega
              · rw [if_neg c3]
                by_cases c4 : x.1 = 4
                · rw [if_pos c4]; omega
                · rw [if_neg c4]; omega
      refine ⟨by simp, by simp, ht, fun q => ?_, fun _ _ => ⟨rfl, rfl⟩, fun q => ?_, fun _ => rfl, fun q => ?_, fun q => ?_, fun b hb => by cases hb⟩
      · have q : (2 : Nat) = 3 ∨ (2 : Nat) = 4 := q
        omega
      · have q : (2 : Nat) = 8 := q
        omega
      · have q : (2 : Nat) = 5 := q
        omega
      · have q : (2 : Nat) = 6 ∨ (2 : Nat) = 7 := q
        omega
    · rw [if_neg c2] at h; cases h
  rw [if_neg c37] at h
  by_cases c38 : o = 38
  · rw [if_pos c38] at h; injection h with h; rw [← h]; exact vO_tr _
  rw [if_neg c38] at h
  by_cases c39 : o = 39
  · rw [if_pos c39] at h; injection h with h; rw [← h]; exact vO_tr _
  rw [if_neg c39] at h
  by_cases c40 : o = 40
  · rw [if_pos c40] at h; injection h with h; rw [← h]; exact vO_tr _
  rw [if_neg c40] at h
  injection h with h; rw [← h]; exact vO_tr _
theorem mem_dt {X : List Nat} {a n b : Nat} (h : b ∈ (X.drop a).take n) : b ∈ X := List.mem_of_mem_drop (List.mem_of_mem_take h)
theorem vO_arV {o : Nat} {x y z : vV} (hx : vO x) (h : arV o x y = some z) : vO z := by
  unfold arV at h
  cases hg : gwV x y with
  | false => rw [hg] at h; cases h
  | true =>
    have hp : plV x = true := by
      unfold gwV at hg
      exact (Bool.and_eq_true_iff.mp hg).1
    have hb := hx.2.2.2.2.2.2.2.2.2
    rw [hg, if_pos rfl] at h
    by_cases c30 : o = 30
    · rw [if_pos c30] at h; injection h with h; rw [← h]; exact vO_tr _
    rw [if_neg c30] at h
    by_cases c31 : o = 31
    · rw [if_pos c31] at h; injection h with h; rw [← h]; exact vO_tr _
    rw [if_neg c31] at h
    by_cases c32 : o = 32
    · rw [if_pos c32] at h; injection h with h; rw [← h]; exact vO_tr _
    rw [if_neg c32] at h
    cases hw : wiV x.2.2.2.2 y.2.2.2.2 with
    | none => rw [hw] at h; injection h with h; rw [← h]; exact vO_text (fun b hb => by cases hb)
    | some f =>
      rw [hw] at h
      simp only at h
      by_cases c33 : o = 33
      · rw [if_pos c33] at h; injection h with h; rw [← h]; exact vO_ltrs hx hp (fun b q => hb b (mem_dt q))
      · rw [if_neg c33] at h; injection h with h; rw [← h]; exact vO_ltrs hx hp (fun b q => hb b (mem_dt q))
theorem vO_val2 {o : Nat} {x y z : vV} (hx : vO x) (hy : vO y) (h : val2 o x y = some z) : vO z := by
  unfold val2 at h
  by_cases c6 : o = 6
  · rw [if_pos c6] at h; exact vO_tru h
  rw [if_neg c6] at h
  by_cases c7 : o = 7
  · rw [if_pos c7] at h; exact vO_tru h
  rw [if_neg c7] at h
  by_cases c8 : o = 8
  · rw [if_pos c8] at h; exact vO_tru h
  rw [if_neg c8] at h
  by_cases c9 : o = 9
  · rw [if_pos c9] at h; exact vO_tru h
  rw [if_neg c9] at h
  by_cases c10 : o = 10
  · rw [if_pos c10] at h; exact vO_tru h
  rw [if_neg c10] at h
  by_cases c11 : o = 11
  · rw [if_pos c11] at h; exact vO_tru h
  rw [if_neg c11] at h
  by_cases c12 : o = 12
  · rw [if_pos c12] at h; injection h with h; rw [← h]; exact vO_tr _
  rw [if_neg c12] at h
  by_cases c29 : 29 < o
  · rw [if_pos c29] at h; exact vO_arV hx h
  rw [if_neg c29] at h
  cases hn : nbV x && nbV y with
  | false => rw [hn] at h; cases h
  | true =>
    rw [hn, if_pos rfl] at h
    have ww : (x.1 == 3 && y.1 == 3) = true → x.1 = 3 ∧ y.1 = 3 := fun q => ⟨nb_w (Bool.and_eq_true_iff.mp q).1, nb_w (Bool.and_eq_true_iff.mp q).2⟩
    by_cases c13 : o = 13
    · rw [if_pos c13] at h
      exact vO_nmI h (fun q => ⟨x.2.2.1 + y.2.2.1, by rw [am9_w hx (ww q).1, am9_w hy (ww q).2, Int.one_mul, Int.add_mul]⟩)
    rw [if_neg c13] at h
    by_cases c14 : o = 14
    · rw [if_pos c14] at h
      exact vO_nmI h (fun q => ⟨x.2.2.1 - y.2.2.1, by rw [am9_w hx (ww q).1, am9_w hy (ww q).2, Int.sub_mul]; omega⟩)
    rw [if_neg c14] at h
    by_cases c15 : o = 15
    · rw [if_pos c15] at h
      exact vO_nmI h (fun q => by rw [am9_w hx (ww q).1, am9_w hy (ww q).2]; exact pr9_w _ _)
    rw [if_neg c15] at h
    by_cases c0 : y.2.2.1 = 0
    · rw [if_pos c0] at h; cases h
    · rw [if_neg c0] at h; exact vO_nmI h (fun q => by cases q)
theorem vO_rwV {ys : List vV} {z : vV} (hy : ∀ y ∈ ys, vO y) (h : rwV ys = some z) : vO z := by
  unfold rwV at h
  have hb : ∀ b ∈ ys.flatMap (fun y => y.2.2.2.2), 0 < b ∧ b < 128 := fun b hb => by
    obtain ⟨y, hy2, hb2⟩ := List.mem_flatMap.mp hb
    exact (hy y hy2).2.2.2.2.2.2.2.2.2 b hb2
  cases ha : ys.all plV with
  | false => rw [ha] at h; cases h
  | true =>
    rw [ha, if_pos rfl] at h
    by_cases c : ((!ys.isEmpty) && ys.all (fun y => y.1 == 6 && y.2.1 == (ys.headD (0, 0, 0, 0, [])).2.1)) = true
    · rw [if_pos c] at h
      injection h with h
      rw [← h]
      obtain ⟨c1, c2⟩ := Bool.and_eq_true_iff.mp c
      cases ys with
      | nil => cases c1
      | cons y r =>
        have hy0 := hy y (List.mem_cons_self ..)
        have hy6 : y.1 = 6 := by
          have := List.all_eq_true.mp c2 y (List.mem_cons_self ..)
          have := (Bool.and_eq_true_iff.mp this).1
          simpa using this
        have h100 := hy0.2.2.2.2.2.2.2.2.1 (Or.inl hy6)
        refine ⟨by simp, by simp, by show y.2.1 ≤ 9999; omega, fun q => ?_, fun _ _ => ⟨rfl, rfl⟩, fun q => ?_, fun q => ?_, fun q => ?_, fun _ => h100, hb⟩
        · have q : (6 : Nat) = 3 ∨ (6 : Nat) = 4 := q
          omega
        · have q : (6 : Nat) = 8 := q
          omega
        · have q : (6 : Nat) < 5 ∨ (6 : Nat) = 8 := q
          omega
        · have q : (6 : Nat) = 5 := q
          omega
    · rw [if_neg c] at h
      injection h with h
      rw [← h]
      exact vO_text hb
theorem vO_smV {x y z w : vV} (hx : vO x) (h : smV x y z = some w) : vO w := by
  unfold smV at h
  cases hp : plV x && (y.1 == 3 && z.1 == 3) with
  | false => rw [hp] at h; cases h
  | true =>
    rw [hp, if_pos rfl] at h
    injection h with h
    rw [← h]
    exact vO_ltrs hx (Bool.and_eq_true_iff.mp hp).1 (fun b hb => hx.2.2.2.2.2.2.2.2.2 b (smR_mem _ _ _ _ _ hb))
