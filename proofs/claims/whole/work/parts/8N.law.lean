/-! BOTH TOGETHER: the reference's state and the class's, by what they are told -/
def RD (S : lm_S) (vs : List vV) (T : List Nat) (ws : List (Nat × Int32)) (bd : Nat → Nat) (g : gG) : Prop := rm_A S vs ∧ rm_T S T ∧ rm_W S ws ∧ (∀ k, k < 10 → S.2 16 k = nI (bd k) ∧ bd k ≤ vs.length) ∧ rm_G S vs g
def RDR {α : Type} (o : Nat) (h : hp_H) (m : Option (α × hp_H)) (r : α) (vs : List vV) (T : List Nat) (ws : List (Nat × Int32)) (bd : Nat → Nat) (g : gG) : Prop := ∃ S', m = some (r, lm_w o h S') ∧ RD S' vs T ws bd g
section
variable {G : Nat → Nat} {o : Nat} {h : hp_H} {S : lm_S} {vs : List vV} {T : List Nat} {ws : List (Nat × Int32)} {bd : Nat → Nat} {g : gG}
theorem rm_T.q {S S' : lm_S} {T : List Nat} (q : rm_T S T) (e1 : S'.1 9 = S.1 9) (e2 : S'.2 8 = S.2 8) : rm_T S' T := ⟨by rw [e1]; exact q.1, q.2.1, fun k hk => by rw [e2]; exact q.2.2.1 k hk, q.2.2.2⟩
theorem rm_W.q {S S' : lm_S} {ws : List (Nat × Int32)} (q : rm_W S ws) (e1 : S'.1 22 = S.1 22) (e2 : S'.2 14 = S.2 14) (e3 : S'.2 15 = S.2 15) : rm_W S' ws := ⟨by rw [e1]; exact q.1, q.2.1, fun k w hk => by rw [e2, e3]; exact q.2.2 k w hk⟩
theorem rm_G.q {S S' : lm_S} {vs : List vV} {g : gG} (q : rm_G S vs g) (e1 : S'.1 26 = S.1 26) (e2 : S'.1 27 = S.1 27) (e3 : S'.1 28 = S.1 28) (e4 : S'.1 29 = S.1 29) (e5 : S'.2 18 = S.2 18) (l : List vV) : rm_G S' (vs ++ l) g := by
  obtain ⟨⟨h1, h2, h3, h4⟩, h5, h6, h7, h8⟩ := q
  refine ⟨⟨by rw [e1]; exact h1, by rw [e2]; exact h2, by rw [e3]; exact h3, by rw [e4]; exact h4⟩, h5, h6, fun e => ?_, fun k n hk => ?_⟩
  · obtain ⟨t, ht, h⟩ := h7 e
    exact ⟨t, vAt_app ht l, h⟩
  · rw [e5]
    have := h8 k n hk
    exact ⟨this.1, by rw [List.length_append]; omega⟩
theorem RD.r {S' : lm_S} {vs' : List vV} (R : RD S vs T ws bd g) (q : fR S S') (hA : rm_A S' vs') (hv : ∃ l, vs' = vs ++ l) : RD S' vs' T ws bd g := by
  obtain ⟨r1, r2, r3, r4, r5⟩ := R
  obtain ⟨l, rfl⟩ := hv
  obtain ⟨⟨q9, q22, q26, q27, q28, q29⟩, q8, q14, q15, q16, q18⟩ := q
  exact ⟨hA, r2.q q9 q8, r3.q q22 q14 q15, fun k hk => by rw [q16]; have := r4 k hk; exact ⟨this.1, by rw [List.length_append]; omega⟩, r5.q q26 q27 q28 q29 q18 l⟩
theorem RD.kq {m : Option (Int32 × hp_H)} {r : Int32 × List vV} (R : RD S vs T ws bd g) (q : RQ o h S m r) (hv : ∃ l, r.2 = vs ++ l) : RDR o h m r.1 r.2 T ws bd g := by
  obtain ⟨S', e1, e2, e3⟩ := q
  exact ⟨S', e1, R.r e3.r e2 hv⟩
theorem kq_sub (vs : List vV) (ox : Option vV) : ∃ l, (kq vs ox).2 = vs ++ l := by rw [kq_kV]; exact kV_sub vs ox
theorem nil_sub (vs : List vV) : ∃ l, vs = vs ++ l := ⟨[], (List.append_nil _).symm⟩
theorem rd_whole (R : RD S vs T ws bd g) (v : Int64) : RDR o h (m_M_whole G o v (lm_w o h S)) (wholeV vs v).1 (wholeV vs v).2 T ws bd g := R.kq (rm_whole G o h S vs v R.1) (by unfold wholeV; split; exact kq_sub _ _; exact nil_sub _)
theorem rd_decimal (R : RD S vs T ws bd g) (v : Int64) (p : Int32) : RDR o h (m_M_decimal G o v p (lm_w o h S)) (decV vs v p).1 (decV vs v p).2 T ws bd g := R.kq (rm_decimal G o h S vs v p R.1) (by unfold decV; split; exact kq_sub _ _; exact nil_sub _)
theorem rd_truth (R : RD S vs T ws bd g) (w : Bool) : RDR o h (m_M_truth G o (bI w) (lm_w o h S)) (kp vs (trV w)).1 (kp vs (trV w)).2 T ws bd g := R.kq (r := kp vs (trV w)) (rm_truth G o h S vs w R.1) (kq_sub vs (some (trV w)))
theorem rd_named (R : RD S vs T ws bd g) (k e : Int32) : RDR o h (m_M_named G o k e (lm_w o h S)) (namedV vs k e).1 (namedV vs k e).2 T ws bd g := R.kq (rm_named G o h S vs k e R.1) (by unfold namedV; split; exact kq_sub vs (some _); exact nil_sub _)
theorem rd_same {α : Type} (R : RD S vs T ws bd g) (a : α) : RDR o h (some (a, lm_w o h S)) a vs T ws bd g := ⟨S, rfl, R⟩
theorem rd_told (R : RD S vs T ws bd g) (a w : Int32) : RDR o h (m_M_told G o a w (lm_w o h S)) (toldV vs a w) vs T ws bd g := by rw [rm_told G o h S vs a w R.1]; exact rd_same R _
theorem rd_amount (R : RD S vs T ws bd g) (a : Int32) : RDR o h (m_M_amount G o a (lm_w o h S)) (amtV vs a) vs T ws bd g := by rw [rm_amount G o h S vs a R.1]; exact rd_same R _
theorem rd_byteOf (R : RD S vs T ws bd g) (a i : Int32) : RDR o h (m_M_byteOf G o a i (lm_w o h S)) (byteV vs a i) vs T ws bd g := by rw [rm_byteOf G o h S vs a i R.1]; exact rd_same R _
theorem rd_values (R : RD S vs T ws bd g) : RDR o h (m_M_values G o (lm_w o h S)) (nI vs.length) vs T ws bd g := by rw [rm_values G o h S vs R.1]; exact rd_same R _
theorem rd_order (R : RD S vs T ws bd g) (a b : Int32) : RDR o h (m_M_order G o a b (lm_w o h S)) (orderV vs a b) vs T ws bd g := by
  obtain ⟨S', e1, e2⟩ := rm_order G o h S vs a b R.1
  exact ⟨S', e1, R.r e2.f.r (e2.A R.1) (nil_sub _)⟩
theorem rd_type (R : RD S vs T ws bd g) (v : Int64) (n : Int32) : RDR o h (m_M_type G o v n (lm_w o h S)) (typeV T v n).1 vs (typeV T v n).2 ws bd g := by
  obtain ⟨r1, r2, r3, r4, r5⟩ := R
  obtain ⟨S', e1, e2, e3, e4⟩ := rm_type G o h S T v n r2
  have g5 := r5.q (S' := S') (e3 26 (by decide)) (e3 27 (by decide)) (e3 28 (by decide)) (e3 29 (by decide)) (e4 18 (by decide)) []
  rw [List.append_nil] at g5
  exact ⟨S', e1, r1.keep (e3 0 (by decide)) (fun j _ h7 => e4 j (by omega)), e2, r3.q (e3 22 (by decide)) (e4 14 (by decide)) (e4 15 (by decide)), fun k hk => by rw [e4 16 (by decide)]; exact r4 k hk, g5⟩
theorem rd_text (R : RD S vs T ws bd g) (k e : Int32) : RDR o h (m_M_text G o k e (lm_w o h S)) (textV vs T k e).1 (textV vs T k e).2 [] ws bd g := by
  obtain ⟨r1, r2, r3, r4, r5⟩ := R
  obtain ⟨S', e1, e2, e3, e4⟩ := rm_text G o h S vs T k e r1 r2
  obtain ⟨⟨q22, q26, q27, q28, q29⟩, q14, q15, q16, q17, q18⟩ := e4
  obtain ⟨l, hl⟩ : ∃ l, (textV vs T k e).2 = vs ++ l := by unfold textV txV; split; exact kq_sub vs (some _); exact nil_sub _
  refine ⟨S', e1, e2, e3, r3.q q22 q14 q15, fun k hk => ?_, ?_⟩
  · rw [q16, hl, List.length_append]; have := r4 k hk; exact ⟨this.1, by omega⟩
  · rw [hl]; exact r5.q q26 q27 q28 q29 q18 l
theorem rd_word (R : RD S vs T ws bd g) (k a : Int32) : RDR o h (m_M_word G o k a (lm_w o h S)) (wordV ws k a).1 vs T (wordV ws k a).2 bd g := by
  obtain ⟨r1, r2, r3, r4, r5⟩ := R
  obtain ⟨S', e1, e2, e3, e4⟩ := rm_word G o h S ws k a r3
  have g5 := r5.q (S' := S') (e3 26 (by decide)) (e3 27 (by decide)) (e3 28 (by decide)) (e3 29 (by decide)) (e4 18 (by decide) (by decide)) []
  rw [List.append_nil] at g5
  exact ⟨S', e1, r1.keep (e3 0 (by decide)) (fun j _ h7 => e4 j (by omega) (by omega)), r2.q (e3 9 (by decide)) (e4 8 (by decide) (by decide)), e2, fun k hk => by rw [e4 16 (by decide) (by decide)]; exact r4 k hk, g5⟩
theorem rd_begin (R : RD S vs T ws bd g) : RDR o h (m_M_begin G o (lm_w o h S)) (nI ws.length) vs T [] bd g := by
  obtain ⟨r1, r2, r3, r4, r5⟩ := R
  obtain ⟨S', e1, e2, e3, e4⟩ := rm_begin G o h S ws r3
  have g5 := r5.q (S' := S') (e3 26 (by decide)) (e3 27 (by decide)) (e3 28 (by decide)) (e3 29 (by decide)) (by rw [e4]) []
  rw [List.append_nil] at g5
  exact ⟨S', e1, r1.keep (e3 0 (by decide)) (fun j _ h7 => by rw [e4]), r2.q (e3 9 (by decide)) (by rw [e4]), e2, fun k hk => by rw [e4]; exact r4 k hk, g5⟩
theorem rd_bind (R : RD S vs T ws bd g) (k v : Int32) : RDR o h (m_M_bind G o k v (lm_w o h S)) (bI (bindV vs bd k v).1) vs T ws (bindV vs bd k v).2 g := by
  obtain ⟨r1, r2, r3, r4, r5⟩ := R
  obtain ⟨S', e1, e2, e3, e4⟩ := rm_bind G o h S vs bd k v r1 r4
  have g5 := r5.q (S' := S') (by rw [e3]) (by rw [e3]) (by rw [e3]) (by rw [e3]) (e4 18 (by decide)) []
  rw [List.append_nil] at g5
  exact ⟨S', e1, r1.keep (by rw [e3]) (fun j _ h7 => e4 j (by omega)), r2.q (by rw [e3]) (e4 8 (by decide)), r3.q (by rw [e3]) (e4 14 (by decide)) (e4 15 (by decide)), e2, g5⟩
theorem rn_sub (bd : Nat → Nat) : ∀ (ws : List (Nat × Int32)) (st : List (Option vV)) (vs : List vV), ∃ l, (rnV bd ws st vs).2 = vs ++ l
  | [], st, vs => nil_sub vs
  | w :: r, st, vs => by
    have ds : ∃ l, (dnV vs bd w (st.take (tk w)).reverse).2 = vs ++ l := by
      unfold dnV
      split
      · exact nil_sub vs
      · split
        · exact nil_sub vs
        · split
          · exact kV_sub _ _
          · split
            · exact kV_sub _ _
            · split
              · exact kV_sub _ _
              · split
                · exact nil_sub vs
                · split
                  · exact nil_sub vs
                  · split
                    · exact kV_sub _ _
                    · split
                      · exact nil_sub vs
                      · exact kV_sub _ _
    obtain ⟨l, hl⟩ := ds
    rw [rnV]
    cases (dnV vs bd w (st.take (tk w)).reverse).1 with
    | none => exact ⟨l, hl⟩
    | some ox =>
      obtain ⟨l2, h2⟩ := rn_sub bd r (ox :: st.drop (tk w)) (dnV vs bd w (st.take (tk w)).reverse).2
      exact ⟨l ++ l2, by rw [← List.append_assoc, ← hl]; exact h2⟩
theorem rd_run (hG : SM G o h) (hO : vsO vs) (R : RD S vs T ws bd g) : RDR o h (m_M_run G o (lm_w o h S)) (runV vs bd ws).1 (runV vs bd ws).2 T ws bd g := by
  obtain ⟨S', e1, e2, e3⟩ := rm_run G o h hG S vs ws bd R.1 hO R.2.2.1 R.2.2.2.1
  exact ⟨S', e1, R.r e3 e2 (by unfold runV; split; exact rn_sub bd ws [] vs; exact nil_sub _)⟩
theorem rd_test (hG : SM G o h) (hO : vsO vs) (R : RD S vs T ws bd g) : RDR o h (m_M_test G o (lm_w o h S)) (testV vs bd ws).1 (testV vs bd ws).2 T ws bd g := by
  obtain ⟨S', e1, e2, e3⟩ := rm_test G o h hG S vs ws bd R.1 hO R.2.2.1 R.2.2.2.1
  refine ⟨S', e1, R.r e3 e2 ?_⟩
  unfold testV
  split
  · split
    · exact rn_sub bd ws [] vs
    · exact rn_sub bd ws [] vs
  · exact nil_sub _
theorem rd_gather (R : RD S vs T ws bd g) (w : Int32) (e : Bool) (t : Int32) : RDR o h (m_M_gather G o w (bI e) t (lm_w o h S)) (gaV vs g w e t).1 vs T ws bd (gaV vs g w e t).2 := by
  obtain ⟨r1, r2, r3, r4, r5⟩ := R
  obtain ⟨S', e1, e2, e3, e4⟩ := rm_gather G o h S vs g w e t r1 r5
  exact ⟨S', e1, r1.keep (e3 0 (by decide) (by decide) (by decide) (by decide)) (fun j _ h7 => by rw [e4]), r2.q (e3 9 (by decide) (by decide) (by decide) (by decide)) (by rw [e4]), r3.q (e3 22 (by decide) (by decide) (by decide) (by decide)) (by rw [e4]) (by rw [e4]), fun k hk => by rw [e4]; exact r4 k hk, e2⟩
theorem rd_add (R : RD S vs T ws bd g) (v : Int32) : RDR o h (m_M_add G o v (lm_w o h S)) (addV vs g v).1 vs T ws bd (addV vs g v).2 := by
  obtain ⟨r1, r2, r3, r4, r5⟩ := R
  obtain ⟨S', e1, e2, e3, e4⟩ := rm_add G o h S vs g v r1 r5
  exact ⟨S', e1, r1.keep (e3 0 (by decide)) (fun j _ h7 => e4 j (by omega)), r2.q (e3 9 (by decide)) (e4 8 (by decide)), r3.q (e3 22 (by decide)) (e4 14 (by decide)) (e4 15 (by decide)), fun k hk => by rw [e4 16 (by decide)]; exact r4 k hk, e2⟩
theorem rd_together (hG : SM G o h) (hO : vsO vs) (R : RD S vs T ws bd g) : RDR o h (m_M_together G o (lm_w o h S)) (togV vs g).1 (togV vs g).2 T ws bd g := by
  obtain ⟨S', e1, e2, e3⟩ := rm_together G o h hG S vs g hO R.1 R.2.2.2.2
  exact ⟨S', e1, R.r e3.r e2 (tog_O hO).2⟩
end
