/-! THE CLASS: the store. Chains by a mix of what a value holds -/
theorem and255 (y : Int32) : ∃ n, n < 256 ∧ y &&& 255 = nI n := by
  refine ⟨(y &&& 255).toBitVec.toNat, ?_, ?_⟩
  · rw [Int32.toBitVec_and, BitVec.toNat_and]
    have : (255 : Int32).toBitVec.toNat = 255 := rfl
    rw [this]
    exact Nat.lt_of_le_of_lt Nat.and_le_right (by decide)
  · refine Int32.toBitVec_inj.mp ?_
    show _ = (Int32.ofNat _).toBitVec
    rw [Int32.toBitVec_ofNat']
    simp
theorem shr1 (n : Nat) (h : n < 2147483648) : nI n >>> ((1 : Int32) &&& 31) = nI (n / 2) := by
  refine Int32.toBitVec_inj.mp ?_
  rw [Int32.toBitVec_shiftRight]
  have e : ((1 : Int32) &&& 31).toBitVec.smod 32 = 1#32 := by decide
  rw [e]
  show (BitVec.ofNat 32 n).sshiftRight 1 = BitVec.ofNat 32 (n / 2)
  rw [BitVec.sshiftRight_eq_of_msb_false]
  · apply BitVec.eq_of_toNat_eq
    simp [Nat.shiftRight_eq_div_pow]
    omega
  · rw [BitVec.msb_eq_decide]
    simp
    omega
def mixL : Int64 → List Nat → Int64
  | m, [] => m
  | m, b :: r => mixL (m * 31 + (sB b).toInt64) r
def hsF (a6 : Int64) : Int32 := (((a6 ^^^ ((a6.toUInt64 >>> ((21 : Int32).toInt64.toUInt64 &&& Int64.toUInt64 63)).toInt64)) ^^^ ((a6.toUInt64 >>> ((42 : Int32).toInt64.toUInt64 &&& Int64.toUInt64 63)).toInt64)).toInt32) &&& (255 : Int32)
def hs0 (x : vV) : Int32 := hsF (mixL ((((((nI x.1).toInt64 * (31 : Int64)) + (nI x.2.1).toInt64) * (31 : Int64)) + (nI x.2.2.2.1).toInt64) * (31 : Int64) + jL x.2.2.1) x.2.2.2.2)
def hsh (x : vV) : Nat := (hs0 x).toNatClampNeg
theorem hs_e (x : vV) : hs0 x = nI (hsh x) ∧ hsh x < 256 := by
  obtain ⟨n, h1, h2⟩ := and255 ((((mixL ((((((nI x.1).toInt64 * (31 : Int64)) + (nI x.2.1).toInt64) * (31 : Int64)) + (nI x.2.2.2.1).toInt64) * (31 : Int64) + jL x.2.2.1) x.2.2.2.2) ^^^ (((mixL ((((((nI x.1).toInt64 * (31 : Int64)) + (nI x.2.1).toInt64) * (31 : Int64)) + (nI x.2.2.2.1).toInt64) * (31 : Int64) + jL x.2.2.1) x.2.2.2.2).toUInt64 >>> ((21 : Int32).toInt64.toUInt64 &&& Int64.toUInt64 63)).toInt64)) ^^^ (((mixL ((((((nI x.1).toInt64 * (31 : Int64)) + (nI x.2.1).toInt64) * (31 : Int64)) + (nI x.2.2.2.1).toInt64) * (31 : Int64) + jL x.2.2.1) x.2.2.2.2).toUInt64 >>> ((42 : Int32).toInt64.toUInt64 &&& Int64.toUInt64 63)).toInt64)).toInt32)
  have e : hs0 x = nI n := h2
  have : hsh x = n := by unfold hsh; rw [e, nI_clamp (by omega)]
  rw [this]
  exact ⟨e, h1⟩
section
variable (G : Nat → Nat) {c k : Nat} {h : hp_H} {L : List Nat}
theorem cl_chainOf_28 (hl : L.length ≤ 64) (hr : RR h (c + k) L) : ∀ (n i : Nat) (m : Int64), L.length - i < n → i ≤ L.length → m_S_chainOf_28 G n (c + k) m (nI i) h = some (hsF (mixL m (L.drop i)), h)
  | 0, i, m, hn, _ => by omega
  | n + 1, i, m, hn, hi => by
    obtain ⟨q1, f, q2, q3⟩ := id hr
    rw [m_S_chainOf_28, gI_e (k := 1) q1 rfl, bs, show min L.length 64 = L.length by omega]
    simp only [nI_leI (show L.length < 2 ^ 31 by omega) (show i < 2 ^ 31 by omega)]
    by_cases e : L.length ≤ i
    · rw [if_pos e, List.drop_eq_nil_of_le e, mixL]; rfl
    · rw [if_neg e, if_neg (show ¬ (64 : Int32) ≤ nI i from nI_ge (a := i) (b := 64) (by omega) (by decide)), gR_e (k := 0) q1 rfl, bs, aI_e q2 (show i < 64 by omega) (by decide), bs, q3 i (by omega) (by omega), hp_nmE, hp_nmE, nI_1, take_s (show i < L.length by omega), mixL]
      exact cl_chainOf_28 hl hr n (i + 1) _ (by omega) (by omega)
theorem cl_chainOf (x : vV) (hx : x.2.2.2.2 = L) (hl : L.length ≤ 64) (hr : RR h (c + k) L) : m_S_chainOf G (nI x.1) (nI x.2.1) (jL x.2.2.1) (nI x.2.2.2.1) (c + k) h = some (nI (hsh x), h) := by
  unfold m_S_chainOf
  rw [hp_nmE, hp_nmE, show (0 : Int32) = nI 0 from rfl, cl_chainOf_28 G hl hr hp_fu 0 _ (by unfold hp_fu; omega) (by omega), List.drop_zero, ← (hs_e x).1, hs0, hx]
end
/-- the number of the last of the first n values whose chain is q, or 0 -/
def lst (vs : List vV) (q : Nat) : Nat → Nat
  | 0 => 0
  | n + 1 => match vs[n]? with
    | none => lst vs q n
    | some x => if hsh x = q then n + 1 else lst vs q n
theorem lst_le (vs : List vV) (q : Nat) : ∀ n, lst vs q n ≤ n
  | 0 => Nat.le_refl _
  | n + 1 => by
    have := lst_le vs q n
    rw [lst]
    split
    · omega
    · split <;> omega
theorem lst_at {vs : List vV} {q : Nat} : ∀ {n j : Nat}, lst vs q n = j + 1 → ∃ x, vs[j]? = some x ∧ hsh x = q ∧ j < n
  | 0, j, h => by cases h
  | n + 1, j, h => by
    rw [lst] at h
    split at h
    · obtain ⟨x, a, b, d⟩ := lst_at h; exact ⟨x, a, b, by omega⟩
    · rename_i x hx
      split at h
      · have : n = j := by omega
        subst this
        exact ⟨x, hx, by assumption, by omega⟩
      · obtain ⟨x, a, b, d⟩ := lst_at h; exact ⟨x, a, b, by omega⟩
theorem lst_no {vs : List vV} {q : Nat} : ∀ {n i : Nat} {x : vV}, lst vs q n ≤ i → i < n → vs[i]? = some x → hsh x ≠ q
  | 0, i, x, _, h, _ => by omega
  | n + 1, i, x, h1, h2, h3 => by
    rw [lst] at h1
    by_cases e : i = n
    · subst e
      rw [h3] at h1
      have h1 : (if hsh x = q then i + 1 else lst vs q i) ≤ i := h1
      by_cases d : hsh x = q
      · rw [if_pos d] at h1; omega
      · exact d
    · split at h1
      · exact lst_no h1 (by omega) h3
      · split at h1
        · omega
        · exact lst_no h1 (by omega) h3
theorem lst_app {vs l : List vV} {q : Nat} : ∀ {n : Nat}, n ≤ vs.length → lst (vs ++ l) q n = lst vs q n
  | 0, _ => rfl
  | n + 1, h => by
    rw [lst, lst, List.getElem?_append_left (by omega), lst_app (by omega)]
/-- what the store is, where it holds the values vs; q0: the slots in use before -/
def vF (x : vV) (b : Nat) (nx : Int32) : List Value := [.int (nI x.1), .int (nI x.2.1), .long (jL x.2.2.1), .int (nI x.2.2.2.1), .ref b, .int nx]
def VP (c : Nat) (h : hp_H) (p : Nat) (x : vV) : Prop := (p = c + 4 ∨ c + 44 ≤ p) ∧ ∃ b nx, h.1 p = some (.inl (3, vF x b nx)) ∧ BA h b x.2.2.2.2 ∧ off c b
def EA (G : Nat → Nat) (c : Nat) (h : hp_H) (vs : List vV) (e cap : Nat) (w : Bool) (f : Nat → Option Nat) : Prop := h.1 e = some (.inr (w, .object "java/lang/Object", cap, .inr (.inr f))) ∧ ((e = G 4 ∧ cap = 0) ∨ (w = true ∧ c + 44 ≤ e ∧ e < h.2.1 ∧ 0 < cap ∧ cap ≤ 3000)) ∧ vs.length ≤ cap ∧ ∀ i x, vs[i]? = some x → ∃ a b, f i = some a ∧ c + 44 ≤ a ∧ a < h.2.1 ∧ h.1 a = some (.inl (3, vF x b (nI (lst vs (hsh x) i)))) ∧ BA h b x.2.2.2.2 ∧ (b = G 1 ∨ c + 44 ≤ b ∧ b < h.2.1)
def ST (G : Nat → Nat) (c q0 : Nat) (h : hp_H) (vs : List vV) : Prop := (c + 44 ≤ h.2.1 ∧ h.2.1 ≤ c + 44 + 3 * vs.length ∧ h.2.2 ≤ q0 + 3100 * vs.length) ∧ h.1 (c + 1) = some (.inl (1, [.ref (c + 2), .ref (c + 3), .ref (c + 4), .ref (c + 5)])) ∧ (∃ e mc cap w f, h.1 (c + 2) = some (.inl (2, [.ref e, .int (nI vs.length), .int mc])) ∧ EA G c h vs e cap w f) ∧ (∃ hd, h.1 (c + 3) = some (.inr (true, .int, 256, .inl hd)) ∧ ∀ q, q < 256 → hd q = nI (lst vs q vs.length)) ∧ h.1 (c + 4) = some (.inl (3, vF vD (G 1) 0)) ∧ RR h (c + 5) [] ∧ SC G c h
theorem ST.c {G : Nat → Nat} {c q0 : Nat} {K : List Nat} {h h' : hp_H} {vs : List vV} (s : ST G c q0 h vs) (p : chg c K h h') (hK : ∀ k ∈ K, 7 ≤ k ∧ k < 44) : ST G c q0 h' vs := by
  obtain ⟨s0, s1, ⟨e, mc, cap, w, f, s2, s3, s4, s5, s6⟩, ⟨hd, s7, s8⟩, s9, s10, s11⟩ := s
  have lo : ∀ k, k < 7 → h'.1 (c + k) = h.1 (c + k) := fun k hk => p.at k (fun z => by have := hK k z; omega)
  have hK' : ∀ k ∈ K, k < 44 := fun k hk => (hK k hk).2
  have g4 := s11.1 4 (by decide)
  have g1 := s11.1 1 (by decide)
  refine ⟨by rw [p.1]; exact s0, by rw [lo 1 (by decide)]; exact s1, ⟨e, mc, cap, w, f, by rw [lo 2 (by decide)]; exact s2, ?_, ?_, s5, fun i x hx => ?_⟩, ⟨hd, by rw [lo 3 (by decide)]; exact s7, s8⟩, by rw [lo 4 (by decide)]; exact s9, s10.e (lo 5 (by decide)) (lo 6 (by decide)), s11.c p⟩
  · rw [p.off hK' (by unfold off; omega)]; exact s3
  · rw [p.1]; exact s4
  · obtain ⟨a, b, a1, a2, a3, a4, a5, a6⟩ := s6 i x hx
    refine ⟨a, b, a1, a2, by rw [p.1]; exact a3, ?_, ?_, by rw [p.1]; exact a6⟩
    · rw [p.off hK' (by unfold off; omega)]; exact a4
    · exact a5.c p hK' (by unfold off; omega)
section
variable (G : Nat → Nat) {c q0 : Nat} {h : hp_H} {vs : List vV}
theorem cl_size (hs : ST G c q0 h vs) : m_AL_size G (c + 2) h = some (nI vs.length, h) := by
  obtain ⟨-, -, ⟨e, mc, cap, w, f, s2, -⟩, -⟩ := hs
  unfold m_AL_size
  rw [gI_e (k := 1) s2 rfl, bs]
theorem al_vck {β : Type} (hs : ST G c q0 h vs) (X : Option β) : hp_vck h (c + 2) 2 X = X := by
  obtain ⟨-, -, ⟨e, mc, cap, w, f, s2, -⟩, -⟩ := hs
  exact vck_e s2 X
theorem cl_count (hs : ST G c q0 h vs) : m_S_count G (c + 1) h = some (nI vs.length, h) := by
  unfold m_S_count
  rw [gR_e (k := 0) hs.2.1 rfl, bs, al_vck G hs, cl_size G hs, bs]
theorem cl_get (hs : ST G c q0 h vs) (hl : vs.length ≤ 2000) {i : Nat} {x : vV} (hx : vs[i]? = some x) : ∃ a b, m_AL_get G (c + 2) (nI i) h = some (a, h) ∧ c + 44 ≤ a ∧ h.1 a = some (.inl (3, vF x b (nI (lst vs (hsh x) i)))) ∧ BA h b x.2.2.2.2 ∧ off c b := by
  obtain ⟨-, -, ⟨e, mc, cap, w, f, s2, s3, s4, s5, s6⟩, -, -, -, s11⟩ := id hs
  have g1 := s11.1 1 (by decide)
  have il := (List.getElem?_eq_some_iff.mp hx).1
  obtain ⟨a, b, a1, a2, a3, a4, a5, a6⟩ := s6 i x hx
  refine ⟨a, b, ?_, a2, a4, a5, by unfold off; omega⟩
  unfold m_AL_get m_OB_checkIndex m_PR_checkIndex
  rw [gI_e (k := 1) s2 rfl, bs, if_neg (nI_pos (by omega)), if_pos (nI_lt il (by omega)), bs, bs, vck_e s2]
  unfold m_AL_elementData
  rw [gR_e (k := 0) s2 rfl, bs, aR_e s3 (by omega) (by omega), a1, bs, bs]
theorem cl_at (hs : ST G c q0 h vs) (hl : vs.length ≤ 2000) (a : Int32) : ∃ p, m_S_at G (c + 1) a h = some (p, h) ∧ VP c h p ((vAt vs a).getD vD) := by
  have g1 := hs.2.2.2.2.2.2.1 1 (by decide)
  have no : VP c h (c + 4) vD := ⟨Or.inl rfl, G 1, 0, hs.2.2.2.2.1, by
    obtain ⟨w, f, e⟩ := hs.2.2.2.2.2.2.2.2.1
    exact ⟨w, f, e, fun k hk => by cases hk⟩, Or.inl g1⟩
  have at4 : m_S_at_32 G (c + 1) h = some (c + 4, h) := by
    unfold m_S_at_32 m_S_at_36
    rw [gR_e (k := 2) hs.2.1 rfl, bs]
  unfold m_S_at
  by_cases a0 : 0 < a
  · obtain ⟨i, hi, rfl⟩ := pos_nI a0
    rw [if_neg (show ¬ nI (i + 1) < 1 from nI_nlt (a := i + 1) (b := 1) (by omega) hi), gR_e (k := 0) hs.2.1 rfl, bs, al_vck G hs, cl_size G hs, bs, vAt_n vs i hi]
    simp only [nI_ltI (show vs.length < 2 ^ 31 by omega) hi]
    cases hx : vs[i]? with
    | none =>
      rw [if_pos (by have := List.getElem?_eq_none_iff.mp hx; omega)]
      exact ⟨c + 4, at4, no⟩
    | some x =>
      have il := (List.getElem?_eq_some_iff.mp hx).1
      rw [if_neg (by omega), gR_e (k := 0) hs.2.1 rfl, bs, al_vck G hs, show nI (i + 1) - 1 = nI i from nI_pred i]
      obtain ⟨p, b, p1, p2, p3, p4, p5⟩ := cl_get G hs hl hx
      rw [p1, bs, vck_e p3, m_S_at_36]
      exact ⟨p, rfl, Or.inr p2, b, _, p3, p4, p5⟩
  · have : a < 1 := by
      rw [Int32.lt_iff_toInt_lt] at a0 ⊢
      have z : (0 : Int32).toInt = 0 := rfl
      have o : (1 : Int32).toInt = 1 := rfl
      omega
    rw [if_pos this]
    have : vAt vs a = none := by unfold vAt; rw [if_neg a0]
    rw [this]
    exact ⟨c + 4, at4, no⟩
end
