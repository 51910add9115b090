/-! THE CLASS: keeping a value -/
theorem nq_e {β : Type} (h : hp_H) (n : Nat) (hn : n ≤ 3000) (K : Nat → hp_H → Option β) : hp_nqK h (nI n) K = K h.2.1 (hp_newa h (.object "java/lang/Object") n (.inr (.inr fun _ => none))) := by
  unfold hp_nqK
  rw [nI_clamp (by omega), if_pos ⟨nI_pos (by omega), by omega⟩]
theorem cpR_e {h : hp_H} {s d n n0 n1 : Nat} {w : Bool} {f g : Nat → Option Nat} (e1 : h.1 s = some (.inr (w, .object "java/lang/Object", n0, .inr (.inr f)))) (e2 : h.1 d = some (.inr (true, .object "java/lang/Object", n1, .inr (.inr g)))) (h0 : n ≤ n0) (h1 : n ≤ n1) (hn : n < 2 ^ 31) (hv : ∀ i, i < n → hp_isV h (f i) = true) : hp_cpR h s 0 d 0 (nI n) = some (stC h d (.inr (true, .object "java/lang/Object", n1, .inr (.inr (va_cpy f g 0 0 n))))) := by
  simp only [hp_cpR, arr_e e1, arr_e e2]
  have e0 : (0 : Int32).toNatClampNeg = 0 := rfl
  rw [e0, nI_clamp hn]
  rw [if_pos ⟨trivial, trivial, trivial, by decide, by decide, nI_pos hn, by omega, by omega, fun i hi => by rw [Nat.zero_add]; exact hv i hi⟩]
  rfl
theorem isV_e {h : hp_H} {y : Nat} {fs : List Value} (e : h.1 y = some (.inl (3, fs))) : hp_isV h (some y) = true := by simp [hp_isV, e]
theorem newa_s (h : hp_H) (ty : FieldType) (n : Nat) (f : hp_Ar) : (hp_newa h ty n f).1 h.2.1 = some (.inr (true, ty, n, f)) := if_pos rfl
theorem newa_n (h : hp_H) (ty : FieldType) (n : Nat) (f : hp_Ar) {a : Nat} (ha : a ≠ h.2.1) : (hp_newa h ty n f).1 a = h.1 a := if_neg ha
theorem newa_2 (h : hp_H) (ty : FieldType) (n : Nat) (f : hp_Ar) : (hp_newa h ty n f).2 = (h.2.1 + 1, h.2.2 + n) := rfl
theorem new_s (h : hp_H) (ci n : Nat) (fs : List Value) : (hp_new h ci n fs).1 h.2.1 = some (.inl (ci, fs)) := if_pos rfl
theorem new_n (h : hp_H) (ci n : Nat) (fs : List Value) {a : Nat} (ha : a ≠ h.2.1) : (hp_new h ci n fs).1 a = h.1 a := if_neg ha
theorem new_2 (h : hp_H) (ci n : Nat) (fs : List Value) : (hp_new h ci n fs).2 = (h.2.1 + 1, h.2.2 + n) := rfl
section
variable (G : Nat → Nat) {c : Nat} {h : hp_H}
theorem cl_newLength {n m : Nat} (hn : 0 < n) (h2 : n < 2000) (hm : m = max 1 (n / 2)) : m_AS_newLength G (nI n) (nI (n + 1) - nI n) (nI n >>> ((1 : Int32) &&& 31)) h = some (nI (n + m), h) := by
  unfold m_AS_newLength
  rw [shr1 n (by omega), pk_sub (show n ≤ n + 1 by omega), show n + 1 - n = 1 by omega, cl_max G h (by omega) (by omega), bs, ← hm, hp_nmE, nI_add]
  rw [if_neg (nI_nle (show 0 < n + m by omega) (by omega)), if_neg (show ¬ (2147483639 : Int32) < nI (n + m) from nI_nlt (a := 2147483639) (b := n + m) (by omega) (by decide))]
/-- adding at the end of the list -/
theorem cl_alAdd {n e cap y : Nat} {mc : Int32} {w : Bool} {f : Nat → Option Nat} {fs : List Value} (s2 : h.1 (c + 2) = some (.inl (2, [.ref e, .int (nI n), .int mc]))) (hE : h.1 e = some (.inr (w, .object "java/lang/Object", cap, .inr (.inr f)))) (alt : (e = G 4 ∧ cap = 0) ∨ (w = true ∧ c + 44 ≤ e ∧ e < h.2.1 ∧ 0 < cap ∧ cap ≤ 3000)) (hn : n ≤ cap) (n2 : n < 2000) (hc : c + 44 ≤ h.2.1) (hG : G 4 < c) (hV : ∀ i, i < n → ∃ a fs, f i = some a ∧ c + 44 ≤ a ∧ a < h.2.1 ∧ h.1 a = some (.inl (3, fs))) (hy : h.1 y = some (.inl (3, fs))) (hy1 : c + 44 ≤ y) (hy2 : y < h.2.1) : ∃ h' e' cap' f', m_AL_add G (c + 2) y h = some (1, h') ∧ h'.1 (c + 2) = some (.inl (2, [.ref e', .int (nI (n + 1)), .int (mc + 1)])) ∧ h'.1 e' = some (.inr (true, .object "java/lang/Object", cap', .inr (.inr f'))) ∧ (c + 44 ≤ e' ∧ e' < h'.2.1 ∧ 0 < cap' ∧ cap' ≤ 3000 ∧ n + 1 ≤ cap') ∧ f' n = some y ∧ (∀ i, i < n → f' i = f i) ∧ (e' = e ∨ e' = h.2.1) ∧ (∀ a, a ≠ c + 2 → a ≠ e' → h'.1 a = h.1 a) ∧ (h.2.1 ≤ h'.2.1 ∧ h'.2.1 ≤ h.2.1 + 1 ∧ h'.2.2 ≤ h.2.2 + 3000) := by
  have ec : e ≠ c + 2 := by omega
  have yc : y ≠ c + 2 := by omega
  have ye : y ≠ e := fun q => by rw [q, hE] at hy; cases hy
  unfold m_AL_add
  rw [gI_e (k := 2) s2 rfl, bs, p_e (k := 2) s2 _ (show 2 < 3 by decide), bs]
  have t2 : (stC h (c + 2) (.inl (2, [Value.ref e, .int (nI n), .int mc].set 2 (.int (mc + 1))))).1 (c + 2) = some (.inl (2, [.ref e, .int (nI n), .int (mc + 1)])) := stC_s _ _ _
  generalize hh2 : stC h (c + 2) (.inl (2, [Value.ref e, .int (nI n), .int mc].set 2 (.int (mc + 1)))) = h2 at t2
  have o2 : ∀ a, a ≠ c + 2 → h2.1 a = h.1 a := fun a ha => by rw [← hh2]; exact stC_n _ _ ha
  have z2 : h2.2 = h.2 := by rw [← hh2]; rfl
  have E2 : h2.1 e = some (.inr (w, .object "java/lang/Object", cap, .inr (.inr f))) := by rw [o2 e ec]; exact hE
  have Y2 : h2.1 y = some (.inl (3, fs)) := by rw [o2 y yc]; exact hy
  rw [gR_e (k := 0) t2 rfl, bs, gI_e (k := 1) t2 rfl, bs, vck_e t2]
  unfold m_AL_add2
  rw [len_e E2, bs]
  have cl : cap < 2 ^ 31 := by omega
  simp only [nI_eq (show n < 2 ^ 31 by omega) cl]
  by_cases g : n = cap
  · rw [if_pos g, vck_e t2]
    unfold m_AL_grow
    rw [gI_e (k := 1) t2 rfl, bs, vck_e t2, nI_1]
    unfold m_AL_grow2
    rw [gR_e (k := 0) t2 rfl, bs, len_e E2, bs, hp_nmE]
    have grown : ∃ h3 cap' f', (if 0 < nI cap then m_AL_grow2_20 G (c + 2) (nI (n + 1)) (nI cap) h2 else (some e).bind fun x4 => if x4 = G 4 then ((m_MA_max G (10 : Int32) (nI (n + 1)) h2).bind fun q5 => hp_nqK q5.2 q5.1 fun o6 h7 => (hp_p h7 (c + 2) 2 0 (.ref o6)).bind fun h8 => some (o6, h8)) else m_AL_grow2_20 G (c + 2) (nI (n + 1)) (nI cap) h2) = some (h.2.1, h3) ∧ h3.1 (c + 2) = some (.inl (2, [.ref h.2.1, .int (nI n), .int (mc + 1)])) ∧ h3.1 h.2.1 = some (.inr (true, .object "java/lang/Object", cap', .inr (.inr f'))) ∧ (cap' ≤ 3000 ∧ n + 1 ≤ cap') ∧ (∀ i, i < n → f' i = f i) ∧ (∀ a, a ≠ c + 2 → a ≠ h.2.1 → h3.1 a = h.1 a) ∧ (h3.2.1 = h.2.1 + 1 ∧ h3.2.2 ≤ h.2.2 + 3000) := by
      by_cases c0 : 0 < cap
      · rw [if_pos (show 0 < nI cap from nI_lt (a := 0) c0 cl)]
        have wt : w = true := by rcases alt with q | q; omega; exact q.1
        have el : e < h.2.1 := by rcases alt with q | q; omega; exact q.2.2.1
        subst wt
        unfold m_AL_grow2_20
        rw [← g, cl_newLength G (m := max 1 (n / 2)) (by omega) n2 rfl, bs, hp_nmE, gR_e (k := 0) t2 rfl, bs]
        unfold m_AR_copyOf2 m_AR_copyOf3
        have gck : ∀ {β : Type} (X : Option β), hp_gck h2 e X = X := fun X => by simp [hp_gck, arr_e E2]
        rw [gck, if_pos rfl, nq_e h2 (n + max 1 (n / 2)) (by omega)]
        unfold m_AR_copyOf3_24
        have z21 : h2.2.1 = h.2.1 := by rw [z2]
        rw [z21, hp_nmE]
        have N1 := newa_s h2 (.object "java/lang/Object") (n + max 1 (n / 2)) (.inr (.inr fun _ => none))
        rw [z21] at N1
        have N2 : ∀ a, a ≠ h.2.1 → (hp_newa h2 (.object "java/lang/Object") (n + max 1 (n / 2)) (.inr (.inr fun _ => none))).1 a = h2.1 a := fun a ha => newa_n _ _ _ _ (by rw [z21]; exact ha)
        have N3 : (hp_newa h2 (.object "java/lang/Object") (n + max 1 (n / 2)) (.inr (.inr fun _ => none))).2 = (h.2.1 + 1, h.2.2 + (n + max 1 (n / 2))) := by rw [newa_2, z2]
        generalize hp_newa h2 (.object "java/lang/Object") (n + max 1 (n / 2)) (.inr (.inr fun _ => none)) = h3 at N1 N2 N3
        have E3 : h3.1 e = some (.inr (true, .object "java/lang/Object", cap, .inr (.inr f))) := by rw [N2 e (by omega)]; exact E2
        rw [len_e E3, bs, cl_min G h3 cl (by omega), bs, show min cap (n + max 1 (n / 2)) = n by omega]
        rw [cpR_e E3 N1 (by omega) (by omega) (by omega) (fun i hi => by
          obtain ⟨a, fs', v1, v2, v3, v4⟩ := hV i hi
          rw [v1]
          exact isV_e (fs := fs') (by rw [N2 a (by omega), o2 a (by omega)]; exact v4)), bs, bs]
        have T4 : (stC h3 h.2.1 (.inr (true, .object "java/lang/Object", n + max 1 (n / 2), .inr (.inr (va_cpy f (fun _ => none) 0 0 n))))).1 (c + 2) = some (.inl (2, [.ref e, .int (nI n), .int (mc + 1)])) := by rw [stC_n _ _ (by omega), N2 _ (by omega)]; exact t2
        rw [bs, p_e (k := 0) T4 _ (show 0 < 3 by decide), bs]
        refine ⟨_, n + max 1 (n / 2), va_cpy f (fun _ => none) 0 0 n, rfl, stC_s _ _ _, ?_, by omega, fun i hi => ?_, fun a a1 a2 => ?_, ?_⟩
        · rw [stC_n _ _ (by omega), stC_s]
        · unfold va_cpy
          rw [if_pos ⟨by omega, by omega⟩]
          exact congrArg f (by omega)
        · rw [stC_n _ _ a1, stC_n _ _ a2, N2 a a2, o2 a a1]
        · rw [stC_21, stC_21, stC_22, stC_22, N3]
          exact ⟨rfl, by show h.2.2 + (n + max 1 (n / 2)) ≤ _; omega⟩
      · have ce : e = G 4 := by rcases alt with q | q; exact q.1; omega
        rw [if_neg (show ¬ 0 < nI cap by rw [show cap = 0 by omega]; decide), bs, if_pos ce]
        have n0 : n = 0 := by omega
        subst n0
        rw [show (10 : Int32) = nI 10 from rfl, cl_max G h2 (by decide) (by decide), bs, show max 10 (0 + 1) = 10 from rfl, nq_e h2 10 (by decide)]
        have z21 : h2.2.1 = h.2.1 := by rw [z2]
        rw [z21]
        have N1 := newa_s h2 (.object "java/lang/Object") 10 (.inr (.inr fun _ => none))
        rw [z21] at N1
        have N2 : ∀ a, a ≠ h.2.1 → (hp_newa h2 (.object "java/lang/Object") 10 (.inr (.inr fun _ => none))).1 a = h2.1 a := fun a ha => newa_n _ _ _ _ (by rw [z21]; exact ha)
        have N3 : (hp_newa h2 (.object "java/lang/Object") 10 (.inr (.inr fun _ => none))).2 = (h.2.1 + 1, h.2.2 + 10) := by rw [newa_2, z2]
        generalize hp_newa h2 (.object "java/lang/Object") 10 (.inr (.inr fun _ => none)) = h3 at N1 N2 N3
        have T4 : h3.1 (c + 2) = some (.inl (2, [.ref e, .int (nI 0), .int (mc + 1)])) := by rw [N2 _ (by omega)]; exact t2
        rw [p_e (k := 0) T4 _ (show 0 < 3 by decide), bs]
        refine ⟨_, 10, fun _ => none, rfl, stC_s _ _ _, ?_, by omega, fun i hi => by omega, fun a a1 a2 => ?_, ?_⟩
        · rw [stC_n _ _ (by omega)]; exact N1
        · rw [stC_n _ _ a1, N2 a a2, o2 a a1]
        · rw [stC_21, stC_22, N3]
          exact ⟨rfl, by show h.2.2 + 10 ≤ _; omega⟩
    obtain ⟨h3, cap', f', g1, g2, g3, g4, g5, g6, g7⟩ := grown
    rw [g1, bs, bs, hp_nmE]
    unfold m_AL_add2_11
    have Y3 : h3.1 y = some (.inl (3, fs)) := by rw [g6 y yc (by omega)]; exact hy
    rw [sR_e g3 (show n < cap' by omega) (by omega) (isV_e Y3), bs]
    have T4 : (stC h3 h.2.1 (.inr (true, .object "java/lang/Object", cap', .inr (.inr (va_up f' n (some y)))))).1 (c + 2) = some (.inl (2, [.ref h.2.1, .int (nI n), .int (mc + 1)])) := by rw [stC_n _ _ (by omega)]; exact g2
    rw [p_e (k := 1) T4 _ (show 1 < 3 by decide), bs, bs]
    refine ⟨_, h.2.1, cap', va_up f' n (some y), rfl, ?_, ?_, ⟨hc, ?_, by omega, by omega, by omega⟩, if_pos rfl, fun i hi => ?_, Or.inr rfl, fun a a1 a2 => ?_, ?_⟩
    · rw [stC_s, ← nI_1]; rfl
    · rw [stC_n _ _ (by omega), stC_s]
    · rw [stC_21, stC_21, g7.1]; exact Nat.lt_succ_self _
    · exact (if_neg (by omega)).trans (g5 i hi)
    · rw [stC_n _ _ a1, stC_n _ _ a2, g6 a a1 a2]
    · rw [stC_21, stC_21, stC_22, stC_22]; omega
  · rw [if_neg g]
    unfold m_AL_add2_11
    have alt2 : w = true ∧ c + 44 ≤ e ∧ e < h.2.1 ∧ 0 < cap ∧ cap ≤ 3000 := by rcases alt with q | q; omega; exact q
    obtain ⟨rfl, b1, b2, b3, b4⟩ := alt2
    rw [sR_e E2 (show n < cap by omega) cl (isV_e Y2), bs]
    have T4 : (stC h2 e (.inr (true, .object "java/lang/Object", cap, .inr (.inr (va_up f n (some y)))))).1 (c + 2) = some (.inl (2, [.ref e, .int (nI n), .int (mc + 1)])) := by rw [stC_n _ _ (by omega)]; exact t2
    rw [p_e (k := 1) T4 _ (show 1 < 3 by decide), bs, bs]
    refine ⟨_, e, cap, va_up f n (some y), rfl, ?_, ?_, ⟨b1, ?_, b3, b4, by omega⟩, if_pos rfl, fun i hi => if_neg (by omega), Or.inl rfl, fun a a1 a2 => ?_, ?_⟩
    · rw [stC_s, ← nI_1]; rfl
    · rw [stC_n _ _ ec, stC_s]
    · rw [stC_21, stC_21, z2]; exact b2
    · rw [stC_n _ _ a1, stC_n _ _ a2, o2 a a1]
    · rw [stC_21, stC_21, stC_22, stC_22, z2]; omega
theorem na_e {β : Type} (h : hp_H) (n : Nat) (hn : n ≤ 3000) (f : hp_Ar) (K : Nat → hp_H → Option β) : hp_naK h .byte (nI n) f K = K h.2.1 (hp_newa h .byte n f) := by
  unfold hp_naK
  rw [nI_clamp (by omega), if_pos ⟨nI_pos (by omega), by show n * 1 ≤ _; omega⟩]
theorem cl_copyOf {k : Nat} {L : List Nat} (hr : RR h (c + k) L) (h0 : 0 < L.length) (hl : L.length ≤ 64) (hb : ∀ b ∈ L, b < 128) (hc : c + k + 1 < h.2.1) : ∃ h', m_AR_copyOf G (c + k + 1) (nI L.length) h = some (h.2.1, h') ∧ BA h' h.2.1 L ∧ (∀ a, a ≠ h.2.1 → h'.1 a = h.1 a) ∧ h'.2 = (h.2.1 + 1, h.2.2 + L.length) := by
  obtain ⟨q1, f, q2, q3⟩ := hr
  have gd : ∀ i, i < L.length → L.getD i 0 < 128 := fun i hi => hb _ (by rw [List.getD_eq_getElem?_getD, List.getElem?_eq_getElem hi]; exact List.getElem_mem _)
  unfold m_AR_copyOf
  rw [len_e q2, bs]
  simp only [nI_eq (show L.length < 2 ^ 31 by omega) (show 64 < 2 ^ 31 by decide)]
  by_cases e : L.length = 64
  · rw [if_pos e]
    have cl : hp_clK h (c + k + 1) (fun o8 h9 => hp_bck h9 o8 <| some (o8, h9)) = hp_bck (hp_newa h .byte 64 (.inl f)) h.2.1 (some (h.2.1, hp_newa h .byte 64 (.inl f))) := by
      simp only [hp_clK, arr_e q2]
      rw [if_pos ⟨trivial, trivial, fun i hi => by rw [q3 i (by omega) hi]; exact sB_fit _⟩]
    rw [cl]
    have bck : ∀ {β : Type} (X : Option β), hp_bck (hp_newa h .byte 64 (.inl f)) h.2.1 X = X := fun X => by simp [hp_bck, arr_e (newa_s h .byte 64 (.inl f))]
    rw [bck]
    refine ⟨_, rfl, ⟨true, f, by rw [e]; exact newa_s _ _ _ _, fun i hi => ?_⟩, fun a ha => newa_n _ _ _ _ ha, by rw [newa_2, e]⟩
    rw [q3 i hi (by omega), sB_lt (gd i hi)]
  · rw [if_neg e, na_e h L.length (by omega), hp_nmE]
    have N1 := newa_s h .byte L.length (.inl fun _ => 0)
    have N2 : ∀ a, a ≠ h.2.1 → (hp_newa h .byte L.length (.inl fun _ => 0)).1 a = h.1 a := fun a ha => newa_n _ _ _ _ ha
    have N3 : (hp_newa h .byte L.length (.inl fun _ => 0)).2 = (h.2.1 + 1, h.2.2 + L.length) := rfl
    generalize hp_newa h .byte L.length (.inl fun _ => 0) = h3 at N1 N2 N3
    have Q3 : h3.1 (c + k + 1) = some (.inr (true, .byte, 64, .inl f)) := by rw [N2 _ (by omega)]; exact q2
    rw [len_e Q3, bs, cl_min G h3 (by decide) (by omega), bs, show min 64 L.length = L.length by omega]
    have cp : hp_cpB h3 (c + k + 1) 0 h.2.1 0 (nI L.length) = some (stC h3 h.2.1 (.inr (true, .byte, L.length, .inl (va_cpy f (fun _ => 0) 0 0 L.length)))) := by
      simp only [hp_cpB, arr_e Q3, arr_e N1]
      have e0 : (0 : Int32).toNatClampNeg = 0 := rfl
      rw [e0, nI_clamp (by omega)]
      rw [if_pos ⟨trivial, trivial, trivial, by decide, by decide, nI_pos (by omega), by omega, by omega, fun i hi => by rw [Nat.zero_add, q3 i hi (by omega)]; exact sB_fit _⟩]
      rfl
    rw [cp, bs]
    refine ⟨_, rfl, ⟨true, _, stC_s _ _ _, fun i hi => ?_⟩, fun a ha => by rw [stC_n _ _ ha, N2 a ha], by rw [stC_2, N3]⟩
    unfold va_cpy
    rw [if_pos ⟨by omega, by omega⟩, show 0 + (i - 0) = i by omega, q3 i hi (by omega), sB_lt (gd i hi)]
theorem cl_Vinit {p : Nat} {fs : List Value} (a1 a2 : Int32) (a3 : Int64) (a5 : Int32) (a6 : Nat) (a7 : Int32) (e : h.1 p = some (.inl (3, fs))) (hl : fs.length = 6) : m_V_init G p a1 a2 a3 a5 a6 a7 h = some ((), stC h p (.inl (3, [.int a1, .int a2, .long a3, .int a5, .ref a6, .int a7]))) := by
  obtain ⟨f0, f1, f2, f3, f4, f5, rfl⟩ : ∃ f0 f1 f2 f3 f4 f5, fs = [f0, f1, f2, f3, f4, f5] := by
    match fs, hl with
    | [f0, f1, f2, f3, f4, f5], _ => exact ⟨_, _, _, _, _, _, rfl⟩
  unfold m_V_init
  rw [p_e (k := 0) e _ (by simp), bs, p_e (k := 1) (stC_s _ _ _) _ (by simp), bs, stC_c, p_e (k := 2) (stC_s _ _ _) _ (by simp), bs, stC_c, p_e (k := 3) (stC_s _ _ _) _ (by simp), bs, stC_c, p_e (k := 4) (stC_s _ _ _) _ (by simp), bs, stC_c, p_e (k := 5) (stC_s _ _ _) _ (by simp), bs, stC_c]
  rfl
end
