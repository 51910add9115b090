/-! MAKING: the class's object and the reference's -/
theorem nw_e {β : Type} {h : hp_H} {p : Nat} (z : h.2.1 = p) (ci n : Nat) (fs : List Value) (K : Nat → hp_H → β) : hp_nwK h ci n fs K = K p (hp_new h ci n fs) := by rw [← z]; rfl
theorem nai_e {β : Type} {h : hp_H} {p : Nat} (z : h.2.1 = p) (n : Nat) {x : Int32} (hx : x = nI n) (hn : n ≤ 130000) (f : hp_Ar) (K : Nat → hp_H → Option β) : hp_naK h .int x f K = K p (hp_newa h .int n f) := by
  subst hx
  unfold hp_naK
  rw [nI_clamp (by omega), if_pos ⟨nI_pos (by omega), by show n * 4 ≤ _; omega⟩, z]
theorem nab_e {β : Type} {h : hp_H} {p : Nat} (z : h.2.1 = p) (n : Nat) {x : Int32} (hx : x = nI n) (hn : n ≤ 130000) (f : hp_Ar) (K : Nat → hp_H → Option β) : hp_naK h .byte x f K = K p (hp_newa h .byte n f) := by
  subst hx
  unfold hp_naK
  rw [nI_clamp (by omega), if_pos ⟨nI_pos (by omega), by show n * 1 ≤ _; omega⟩, z]
theorem nwF {h : hp_H} {p q : Nat} (z : h.2 = (p, q)) (ci n : Nat) (fs : List Value) : ∃ h1, hp_new h ci n fs = h1 ∧ h1.1 p = some (.inl (ci, fs)) ∧ (∀ a, a < p → h1.1 a = h.1 a) ∧ h1.2 = (p + 1, q + n) := by
  have z1 : h.2.1 = p := by rw [z]
  refine ⟨_, rfl, by rw [← z1]; exact new_s _ _ _ _, fun a ha => new_n _ _ _ _ (by omega), by rw [new_2, z]⟩
theorem naF {h : hp_H} {p q : Nat} (z : h.2 = (p, q)) (ty : FieldType) (n : Nat) (f : hp_Ar) : ∃ h1, hp_newa h ty n f = h1 ∧ h1.1 p = some (.inr (true, ty, n, f)) ∧ (∀ a, a < p → h1.1 a = h.1 a) ∧ h1.2 = (p + 1, q + n) := by
  have z1 : h.2.1 = p := by rw [z]
  refine ⟨_, rfl, by rw [← z1]; exact newa_s _ _ _ _, fun a ha => newa_n _ _ _ _ (by omega), by rw [newa_2, z]⟩
theorem puF {h : hp_H} {a ci k : Nat} {fs : List Value} (e : h.1 a = some (.inl (ci, fs))) (v : Value) (hk : k < fs.length) : ∃ h1, hp_p h a ci k v = some h1 ∧ h1.1 a = some (.inl (ci, fs.set k v)) ∧ (∀ b, b ≠ a → h1.1 b = h.1 b) ∧ h1.2 = h.2 := ⟨_, p_e e v hk, stC_s _ _ _, fun _ hb => stC_n _ _ hb, rfl⟩
theorem in_R (G : Nat → Nat) {r q : Nat} {h0 : hp_H} (c0_0 : h0.1 r = some (.inl (4, [.null, .int 0, .int 0]))) (z0 : h0.2 = (r + 1, q)) : ∃ h', m_R_init G r h0 = some ((), h') ∧ RR h' r [] ∧ (∀ a, a < r → h'.1 a = h0.1 a) ∧ h'.2 = (r + 2, q + 64) := by
  unfold m_R_init
  rw [nab_e (p := r + 1) (by rw [z0]) 64 (x := 64) rfl (by decide)]
  obtain ⟨h1, E, N, O, z1⟩ := naF z0 .byte 64 (.inl fun _ => 0)
  rw [E]
  obtain ⟨h2, E2, N2, O2, z2⟩ := puF (k := 0) ((O r (by omega)).trans c0_0) (.ref (r + 1)) (by simp)
  rw [E2, bs]
  exact ⟨h2, rfl, ⟨N2, _, (O2 (r + 1) (by omega)).trans N, fun k hk => by cases hk⟩, fun a ha => (O2 a (by omega)).trans (O a (by omega)), z2.trans z1⟩
def SI (G : Nat → Nat) (s : Nat) (h : hp_H) : Prop := h.1 s = some (.inl (1, [.ref (s + 1), .ref (s + 2), .ref (s + 3), .ref (s + 4)])) ∧ h.1 (s + 1) = some (.inl (2, [.ref (G 4), .int 0, .int 0])) ∧ h.1 (s + 2) = some (.inr (true, .int, 256, .inl fun _ => 0)) ∧ h.1 (s + 3) = some (.inl (3, vF vD (G 1) 0)) ∧ RR h (s + 4) []
theorem in_S (G : Nat → Nat) {s q : Nat} {h0 : hp_H} (c0_0 : h0.1 s = some (.inl (1, [.null, .null, .null, .null]))) (z0 : h0.2 = (s + 1, q)) : ∃ h', m_S_init G s h0 = some ((), h') ∧ SI G s h' ∧ (∀ a, a < s → h'.1 a = h0.1 a) ∧ h'.2 = (s + 6, q + 3 + 256 + 6 + 3 + 64) := by
  unfold m_S_init
  have l0 : ∀ a, a < s → h0.1 a = h0.1 a := fun _ _ => rfl
  rw [nw_e (p := s + 1) (by rw [z0])]
  obtain ⟨h1, E, N, O, z1⟩ := nwF z0 2 3 [.null, .int 0, .int 0]
  rw [E]
  clear E
  have c1_0 := (O (s) (by omega)).trans c0_0
  have l1 : ∀ a, a < s → h1.1 a = h0.1 a := fun a ha => (O a (by omega)).trans (l0 a ha)
  have c1_1 := N
  clear N O
  clear c0_0 l0
  replace z1 : h1.2 = (s + 2, q + 3) := z1
  unfold m_AL_init m_AB_init m_AC_init
  rw [bs]
  obtain ⟨h2, E, N, O, z2⟩ := puF (k := 2) c1_1 (.int 0) (by simp)
  rw [z1] at z2
  rw [E, bs]
  clear E
  have c2_0 := (O (s) (by omega)).trans c1_0
  have l2 : ∀ a, a < s → h2.1 a = h0.1 a := fun a ha => (O a (by omega)).trans (l1 a ha)
  have c2_1 : h2.1 (s + 1) = some (.inl (2, [.null, .int 0, .int 0])) := N
  clear N O
  clear c1_0 c1_1 l1
  rw [bs]
  obtain ⟨h3, E, N, O, z3⟩ := puF (k := 0) c2_1 (.ref (G 4)) (by simp)
  rw [z2] at z3
  rw [E, bs]
  clear E
  have c3_0 := (O (s) (by omega)).trans c2_0
  have l3 : ∀ a, a < s → h3.1 a = h0.1 a := fun a ha => (O a (by omega)).trans (l2 a ha)
  have c3_1 : h3.1 (s + 1) = some (.inl (2, [.ref (G 4), .int 0, .int 0])) := N
  clear N O
  clear c2_0 c2_1 l2
  rw [bs]
  obtain ⟨h4, E, N, O, z4⟩ := puF (k := 0) c3_0 (.ref (s + 1)) (by simp)
  rw [z3] at z4
  rw [E, bs]
  clear E
  have c4_1 := (O (s + 1) (by omega)).trans c3_1
  have l4 : ∀ a, a < s → h4.1 a = h0.1 a := fun a ha => (O a (by omega)).trans (l3 a ha)
  have c4_0 : h4.1 (s) = some (.inl (1, [.ref (s + 1), .null, .null, .null])) := N
  clear N O
  clear c3_0 c3_1 l3
  rw [nai_e (p := s + 2) (by rw [z4]) 256 (x := 256) rfl (by decide)]
  obtain ⟨h5, E, N, O, z5⟩ := naF z4 .int 256 (.inl fun _ => 0)
  rw [E]
  clear E
  have c5_0 := (O (s) (by omega)).trans c4_0
  have c5_1 := (O (s + 1) (by omega)).trans c4_1
  have l5 : ∀ a, a < s → h5.1 a = h0.1 a := fun a ha => (O a (by omega)).trans (l4 a ha)
  have c5_2 := N
  clear N O
  clear c4_0 c4_1 l4
  replace z5 : h5.2 = (s + 3, q + 3 + 256) := z5
  obtain ⟨h6, E, N, O, z6⟩ := puF (k := 1) c5_0 (.ref (s + 2)) (by simp)
  rw [z5] at z6
  rw [E, bs]
  clear E
  have c6_1 := (O (s + 1) (by omega)).trans c5_1
  have c6_2 := (O (s + 2) (by omega)).trans c5_2
  have l6 : ∀ a, a < s → h6.1 a = h0.1 a := fun a ha => (O a (by omega)).trans (l5 a ha)
  have c6_0 : h6.1 (s) = some (.inl (1, [.ref (s + 1), .ref (s + 2), .null, .null])) := N
  clear N O
  clear c5_0 c5_1 c5_2 l5
  rw [nw_e (p := s + 3) (by rw [z6])]
  obtain ⟨h7, E, N, O, z7⟩ := nwF z6 3 6 [.int 0, .int 0, .long 0, .int 0, .null, .int 0]
  rw [E]
  clear E
  have c7_0 := (O (s) (by omega)).trans c6_0
  have c7_1 := (O (s + 1) (by omega)).trans c6_1
  have c7_2 := (O (s + 2) (by omega)).trans c6_2
  have l7 : ∀ a, a < s → h7.1 a = h0.1 a := fun a ha => (O a (by omega)).trans (l6 a ha)
  have c7_3 := N
  clear N O
  clear c6_0 c6_1 c6_2 l6
  replace z7 : h7.2 = (s + 4, q + 3 + 256 + 6) := z7
  rw [cl_Vinit G 0 0 0 0 (G 1) 0 c7_3 rfl, bs]
  obtain ⟨h8, hE⟩ : ∃ h8, stC h7 (s + 3) (.inl (3, [.int 0, .int 0, .long 0, .int 0, .ref (G 1), .int 0])) = h8 := ⟨_, rfl⟩
  have O : ∀ b, b ≠ s + 3 → h8.1 b = h7.1 b := fun b hb => by rw [← hE]; exact stC_n _ _ hb
  have N : h8.1 (s + 3) = some (.inl (3, vF vD (G 1) 0)) := by rw [← hE]; exact stC_s _ _ _
  have z8 : h8.2 = (s + 4, q + 3 + 256 + 6) := by rw [← hE, stC_2, z7]
  rw [hE]
  clear hE
  have c8_0 := (O (s) (by omega)).trans c7_0
  have c8_1 := (O (s + 1) (by omega)).trans c7_1
  have c8_2 := (O (s + 2) (by omega)).trans c7_2
  have l8 : ∀ a, a < s → h8.1 a = h0.1 a := fun a ha => (O a (by omega)).trans (l7 a ha)
  have c8_3 := N
  clear N O
  clear c7_0 c7_1 c7_2 c7_3 l7
  obtain ⟨h9, E, N, O, z9⟩ := puF (k := 2) c8_0 (.ref (s + 3)) (by simp)
  rw [z8] at z9
  rw [E, bs]
  clear E
  have c9_1 := (O (s + 1) (by omega)).trans c8_1
  have c9_2 := (O (s + 2) (by omega)).trans c8_2
  have c9_3 := (O (s + 3) (by omega)).trans c8_3
  have l9 : ∀ a, a < s → h9.1 a = h0.1 a := fun a ha => (O a (by omega)).trans (l8 a ha)
  have c9_0 : h9.1 (s) = some (.inl (1, [.ref (s + 1), .ref (s + 2), .ref (s + 3), .null])) := N
  clear N O
  clear c8_0 c8_1 c8_2 c8_3 l8
  rw [nw_e (p := s + 4) (by rw [z9])]
  obtain ⟨h10, E, N, O, z10⟩ := nwF z9 4 3 [.null, .int 0, .int 0]
  rw [E]
  clear E
  have c10_0 := (O (s) (by omega)).trans c9_0
  have c10_1 := (O (s + 1) (by omega)).trans c9_1
  have c10_2 := (O (s + 2) (by omega)).trans c9_2
  have c10_3 := (O (s + 3) (by omega)).trans c9_3
  have l10 : ∀ a, a < s → h10.1 a = h0.1 a := fun a ha => (O a (by omega)).trans (l9 a ha)
  have c10_4 := N
  clear N O
  clear c9_0 c9_1 c9_2 c9_3 l9
  replace z10 : h10.2 = (s + 5, q + 3 + 256 + 6 + 3) := z10
  obtain ⟨h11, E, R, O, z11⟩ := in_R G (r := s + 4) c10_4 z10
  rw [E, bs]
  clear E
  have c11_0 := (O (s) (by omega)).trans c10_0
  have c11_1 := (O (s + 1) (by omega)).trans c10_1
  have c11_2 := (O (s + 2) (by omega)).trans c10_2
  have c11_3 := (O (s + 3) (by omega)).trans c10_3
  have l11 : ∀ a, a < s → h11.1 a = h0.1 a := fun a ha => (O a (by omega)).trans (l10 a ha)
  clear O
  clear c10_0 c10_1 c10_2 c10_3 c10_4 l10
  replace z11 : h11.2 = (s + 6, q + 3 + 256 + 6 + 3 + 64) := z11
  obtain ⟨h12, E, N, O, z12⟩ := puF (k := 3) c11_0 (.ref (s + 4)) (by simp)
  rw [E, bs]
  exact ⟨h12, rfl, ⟨N, (O _ (by omega)).trans c11_1, (O _ (by omega)).trans c11_2, (O _ (by omega)).trans c11_3, R.e (O _ (by omega)) (O _ (by omega))⟩, fun a ha => (O a (by omega)).trans (l11 a ha), z12.trans z11⟩
def EI (e w : Nat) (h : hp_H) : Prop := h.1 e = some (.inl (5, [.ref w, .ref (e + 1), .ref (e + 2), .ref (e + 3), .ref (e + 4), .ref (e + 5), .ref (e + 7), .int 0, .int 0])) ∧ h.1 (e + 1) = some (.inr (true, .int, 100, .inl fun _ => 0)) ∧ h.1 (e + 2) = some (.inr (true, .int, 100, .inl fun _ => 0)) ∧ h.1 (e + 3) = some (.inr (true, .int, 10, .inl fun _ => 0)) ∧ h.1 (e + 4) = some (.inr (true, .int, 100, .inl fun _ => 0)) ∧ RR h (e + 5) [] ∧ h.1 (e + 7) = some (.inl (6, [.int 0, .int 0, .long 0, .int 0]))
theorem in_E (G : Nat → Nat) {e w q : Nat} {h0 : hp_H} (c0_0 : h0.1 e = some (.inl (5, [.null, .null, .null, .null, .null, .null, .null, .int 0, .int 0]))) (z0 : h0.2 = (e + 1, q)) : ∃ h', m_E_init G e w h0 = some ((), h') ∧ EI e w h' ∧ (∀ a, a < e → h'.1 a = h0.1 a) ∧ h'.2 = (e + 8, q + 100 + 100 + 10 + 100 + 3 + 64 + 4) := by
  unfold m_E_init
  have l0 : ∀ a, a < e → h0.1 a = h0.1 a := fun _ _ => rfl
  rw [nai_e (p := e + 1) (by rw [z0]) 100 (x := 100) rfl (by decide)]
  obtain ⟨h1, E, N, O, z1⟩ := naF z0 .int 100 (.inl fun _ => 0)
  rw [E]
  clear E
  have c1_0 := (O (e) (by omega)).trans c0_0
  have l1 : ∀ a, a < e → h1.1 a = h0.1 a := fun a ha => (O a (by omega)).trans (l0 a ha)
  have c1_1 := N
  clear N O
  clear c0_0 l0
  replace z1 : h1.2 = (e + 2, q + 100) := z1
  obtain ⟨h2, E, N, O, z2⟩ := puF (k := 1) c1_0 (.ref (e + 1)) (by simp)
  rw [z1] at z2
  rw [E, bs]
  clear E
  have c2_1 := (O (e + 1) (by omega)).trans c1_1
  have l2 : ∀ a, a < e → h2.1 a = h0.1 a := fun a ha => (O a (by omega)).trans (l1 a ha)
  have c2_0 : h2.1 (e) = some (.inl (5, [.null, .ref (e + 1), .null, .null, .null, .null, .null, .int 0, .int 0])) := N
  clear N O
  clear c1_0 c1_1 l1
  rw [nai_e (p := e + 2) (by rw [z2]) 100 (x := 100) rfl (by decide)]
  obtain ⟨h3, E, N, O, z3⟩ := naF z2 .int 100 (.inl fun _ => 0)
  rw [E]
  clear E
  have c3_0 := (O (e) (by omega)).trans c2_0
  have c3_1 := (O (e + 1) (by omega)).trans c2_1
  have l3 : ∀ a, a < e → h3.1 a = h0.1 a := fun a ha => (O a (by omega)).trans (l2 a ha)
  have c3_2 := N
  clear N O
  clear c2_0 c2_1 l2
  replace z3 : h3.2 = (e + 3, q + 100 + 100) := z3
  obtain ⟨h4, E, N, O, z4⟩ := puF (k := 2) c3_0 (.ref (e + 2)) (by simp)
  rw [z3] at z4
  rw [E, bs]
  clear E
  have c4_1 := (O (e + 1) (by omega)).trans c3_1
  have c4_2 := (O (e + 2) (by omega)).trans c3_2
  have l4 : ∀ a, a < e → h4.1 a = h0.1 a := fun a ha => (O a (by omega)).trans (l3 a ha)
  have c4_0 : h4.1 (e) = some (.inl (5, [.null, .ref (e + 1), .ref (e + 2), .null, .null, .null, .null, .int 0, .int 0])) := N
  clear N O
  clear c3_0 c3_1 c3_2 l3
  rw [nai_e (p := e + 3) (by rw [z4]) 10 (x := 10) rfl (by decide)]
  obtain ⟨h5, E, N, O, z5⟩ := naF z4 .int 10 (.inl fun _ => 0)
  rw [E]
  clear E
  have c5_0 := (O (e) (by omega)).trans c4_0
  have c5_1 := (O (e + 1) (by omega)).trans c4_1
  have c5_2 := (O (e + 2) (by omega)).trans c4_2
  have l5 : ∀ a, a < e → h5.1 a = h0.1 a := fun a ha => (O a (by omega)).trans (l4 a ha)
  have c5_3 := N
  clear N O
  clear c4_0 c4_1 c4_2 l4
  replace z5 : h5.2 = (e + 4, q + 100 + 100 + 10) := z5
  obtain ⟨h6, E, N, O, z6⟩ := puF (k := 3) c5_0 (.ref (e + 3)) (by simp)
  rw [z5] at z6
  rw [E, bs]
  clear E
  have c6_1 := (O (e + 1) (by omega)).trans c5_1
  have c6_2 := (O (e + 2) (by omega)).trans c5_2
  have c6_3 := (O (e + 3) (by omega)).trans c5_3
  have l6 : ∀ a, a < e → h6.1 a = h0.1 a := fun a ha => (O a (by omega)).trans (l5 a ha)
  have c6_0 : h6.1 (e) = some (.inl (5, [.null, .ref (e + 1), .ref (e + 2), .ref (e + 3), .null, .null, .null, .int 0, .int 0])) := N
  clear N O
  clear c5_0 c5_1 c5_2 c5_3 l5
  rw [nai_e (p := e + 4) (by rw [z6]) 100 (x := 100) rfl (by decide)]
  obtain ⟨h7, E, N, O, z7⟩ := naF z6 .int 100 (.inl fun _ => 0)
  rw [E]
  clear E
  have c7_0 := (O (e) (by omega)).trans c6_0
  have c7_1 := (O (e + 1) (by omega)).trans c6_1
  have c7_2 := (O (e + 2) (by omega)).trans c6_2
  have c7_3 := (O (e + 3) (by omega)).trans c6_3
  have l7 : ∀ a, a < e → h7.1 a = h0.1 a := fun a ha => (O a (by omega)).trans (l6 a ha)
  have c7_4 := N
  clear N O
  clear c6_0 c6_1 c6_2 c6_3 l6
  replace z7 : h7.2 = (e + 5, q + 100 + 100 + 10 + 100) := z7
  obtain ⟨h8, E, N, O, z8⟩ := puF (k := 4) c7_0 (.ref (e + 4)) (by simp)
  rw [z7] at z8
  rw [E, bs]
  clear E
  have c8_1 := (O (e + 1) (by omega)).trans c7_1
  have c8_2 := (O (e + 2) (by omega)).trans c7_2
  have c8_3 := (O (e + 3) (by omega)).trans c7_3
  have c8_4 := (O (e + 4) (by omega)).trans c7_4
  have l8 : ∀ a, a < e → h8.1 a = h0.1 a := fun a ha => (O a (by omega)).trans (l7 a ha)
  have c8_0 : h8.1 (e) = some (.inl (5, [.null, .ref (e + 1), .ref (e + 2), .ref (e + 3), .ref (e + 4), .null, .null, .int 0, .int 0])) := N
  clear N O
  clear c7_0 c7_1 c7_2 c7_3 c7_4 l7
  rw [nw_e (p := e + 5) (by rw [z8])]
  obtain ⟨h9, E, N, O, z9⟩ := nwF z8 4 3 [.null, .int 0, .int 0]
  rw [E]
  clear E
  have c9_0 := (O (e) (by omega)).trans c8_0
  have c9_1 := (O (e + 1) (by omega)).trans c8_1
  have c9_2 := (O (e + 2) (by omega)).trans c8_2
  have c9_3 := (O (e + 3) (by omega)).trans c8_3
  have c9_4 := (O (e + 4) (by omega)).trans c8_4
  have l9 : ∀ a, a < e → h9.1 a = h0.1 a := fun a ha => (O a (by omega)).trans (l8 a ha)
  have c9_5 := N
  clear N O
  clear c8_0 c8_1 c8_2 c8_3 c8_4 l8
  replace z9 : h9.2 = (e + 6, q + 100 + 100 + 10 + 100 + 3) := z9
  obtain ⟨h10, E, R, O, z10⟩ := in_R G (r := e + 5) c9_5 z9
  rw [E, bs]
  clear E
  have c10_0 := (O (e) (by omega)).trans c9_0
  have c10_1 := (O (e + 1) (by omega)).trans c9_1
  have c10_2 := (O (e + 2) (by omega)).trans c9_2
  have c10_3 := (O (e + 3) (by omega)).trans c9_3
  have c10_4 := (O (e + 4) (by omega)).trans c9_4
  have l10 : ∀ a, a < e → h10.1 a = h0.1 a := fun a ha => (O a (by omega)).trans (l9 a ha)
  clear O
  clear c9_0 c9_1 c9_2 c9_3 c9_4 c9_5 l9
  replace z10 : h10.2 = (e + 7, q + 100 + 100 + 10 + 100 + 3 + 64) := z10
  have r10_5 := R
  clear R
  obtain ⟨h11, E, N, O, z11⟩ := puF (k := 5) c10_0 (.ref (e + 5)) (by simp)
  rw [z10] at z11
  rw [E, bs]
  clear E
  have c11_1 := (O (e + 1) (by omega)).trans c10_1
  have c11_2 := (O (e + 2) (by omega)).trans c10_2
  have c11_3 := (O (e + 3) (by omega)).trans c10_3
  have c11_4 := (O (e + 4) (by omega)).trans c10_4
  have r11_5 := r10_5.e (O (e + 5) (by omega)) (O (e + 5 + 1) (by omega))
  have l11 : ∀ a, a < e → h11.1 a = h0.1 a := fun a ha => (O a (by omega)).trans (l10 a ha)
  have c11_0 : h11.1 (e) = some (.inl (5, [.null, .ref (e + 1), .ref (e + 2), .ref (e + 3), .ref (e + 4), .ref (e + 5), .null, .int 0, .int 0])) := N
  clear N O
  clear c10_0 c10_1 c10_2 c10_3 c10_4 r10_5 l10
  rw [nw_e (p := e + 7) (by rw [z11])]
  obtain ⟨h12, E, N, O, z12⟩ := nwF z11 6 4 [.int 0, .int 0, .long 0, .int 0]
  rw [E]
  clear E
  have c12_0 := (O (e) (by omega)).trans c11_0
  have c12_1 := (O (e + 1) (by omega)).trans c11_1
  have c12_2 := (O (e + 2) (by omega)).trans c11_2
  have c12_3 := (O (e + 3) (by omega)).trans c11_3
  have c12_4 := (O (e + 4) (by omega)).trans c11_4
  have r12_5 := r11_5.e (O (e + 5) (by omega)) (O (e + 5 + 1) (by omega))
  have l12 : ∀ a, a < e → h12.1 a = h0.1 a := fun a ha => (O a (by omega)).trans (l11 a ha)
  have c12_7 := N
  clear N O
  clear c11_0 c11_1 c11_2 c11_3 c11_4 r11_5 l11
  replace z12 : h12.2 = (e + 8, q + 100 + 100 + 10 + 100 + 3 + 64 + 4) := z12
  unfold m_K_init
  rw [bs]
  obtain ⟨h13, E, N, O, z13⟩ := puF (k := 6) c12_0 (.ref (e + 7)) (by simp)
  rw [z12] at z13
  rw [E, bs]
  clear E
  have c13_1 := (O (e + 1) (by omega)).trans c12_1
  have c13_2 := (O (e + 2) (by omega)).trans c12_2
  have c13_3 := (O (e + 3) (by omega)).trans c12_3
  have c13_4 := (O (e + 4) (by omega)).trans c12_4
  have c13_7 := (O (e + 7) (by omega)).trans c12_7
  have r13_5 := r12_5.e (O (e + 5) (by omega)) (O (e + 5 + 1) (by omega))
  have l13 : ∀ a, a < e → h13.1 a = h0.1 a := fun a ha => (O a (by omega)).trans (l12 a ha)
  have c13_0 : h13.1 (e) = some (.inl (5, [.null, .ref (e + 1), .ref (e + 2), .ref (e + 3), .ref (e + 4), .ref (e + 5), .ref (e + 7), .int 0, .int 0])) := N
  clear N O
  clear c12_0 c12_1 c12_2 c12_3 c12_4 c12_7 r12_5 l12
  obtain ⟨h14, E, N, O, z14⟩ := puF (k := 0) c13_0 (.ref w) (by simp)
  rw [z13] at z14
  rw [E, bs]
  clear E
  have c14_1 := (O (e + 1) (by omega)).trans c13_1
  have c14_2 := (O (e + 2) (by omega)).trans c13_2
  have c14_3 := (O (e + 3) (by omega)).trans c13_3
  have c14_4 := (O (e + 4) (by omega)).trans c13_4
  have c14_7 := (O (e + 7) (by omega)).trans c13_7
  have r14_5 := r13_5.e (O (e + 5) (by omega)) (O (e + 5 + 1) (by omega))
  have l14 : ∀ a, a < e → h14.1 a = h0.1 a := fun a ha => (O a (by omega)).trans (l13 a ha)
  have c14_0 : h14.1 (e) = some (.inl (5, [.ref w, .ref (e + 1), .ref (e + 2), .ref (e + 3), .ref (e + 4), .ref (e + 5), .ref (e + 7), .int 0, .int 0])) := N
  clear N O
  clear c13_0 c13_1 c13_2 c13_3 c13_4 c13_7 r13_5 l13
  exact ⟨h14, rfl, ⟨c14_0, c14_1, c14_2, c14_3, c14_4, r14_5, c14_7⟩, l14, z14⟩
def GI (e w : Nat) (h : hp_H) : Prop := h.1 e = some (.inl (7, [.ref w, .ref (e + 1), .ref (e + 2), .ref (e + 3), .ref (e + 5), .int 0, .int 0, .int 0, .int 0])) ∧ h.1 (e + 1) = some (.inr (true, .int, 500, .inl fun _ => 0)) ∧ h.1 (e + 2) = some (.inr (true, .int, 500, .inl fun _ => 0)) ∧ RR h (e + 3) [] ∧ h.1 (e + 5) = some (.inl (6, [.int 0, .int 0, .long 0, .int 0]))
theorem in_G (G : Nat → Nat) {e w q : Nat} {h0 : hp_H} (c0_0 : h0.1 e = some (.inl (7, [.null, .null, .null, .null, .null, .int 0, .int 0, .int 0, .int 0]))) (z0 : h0.2 = (e + 1, q)) : ∃ h', m_G_init G e w h0 = some ((), h') ∧ GI e w h' ∧ (∀ a, a < e → h'.1 a = h0.1 a) ∧ h'.2 = (e + 6, q + 500 + 500 + 3 + 64 + 4) := by
  unfold m_G_init
  have l0 : ∀ a, a < e → h0.1 a = h0.1 a := fun _ _ => rfl
  rw [nai_e (p := e + 1) (by rw [z0]) 500 (x := 500) rfl (by decide)]
  obtain ⟨h1, E, N, O, z1⟩ := naF z0 .int 500 (.inl fun _ => 0)
  rw [E]
  clear E
  have c1_0 := (O (e) (by omega)).trans c0_0
  have l1 : ∀ a, a < e → h1.1 a = h0.1 a := fun a ha => (O a (by omega)).trans (l0 a ha)
  have c1_1 := N
  clear N O
  clear c0_0 l0
  replace z1 : h1.2 = (e + 2, q + 500) := z1
  obtain ⟨h2, E, N, O, z2⟩ := puF (k := 1) c1_0 (.ref (e + 1)) (by simp)
  rw [z1] at z2
  rw [E, bs]
  clear E
  have c2_1 := (O (e + 1) (by omega)).trans c1_1
  have l2 : ∀ a, a < e → h2.1 a = h0.1 a := fun a ha => (O a (by omega)).trans (l1 a ha)
  have c2_0 : h2.1 (e) = some (.inl (7, [.null, .ref (e + 1), .null, .null, .null, .int 0, .int 0, .int 0, .int 0])) := N
  clear N O
  clear c1_0 c1_1 l1
  rw [nai_e (p := e + 2) (by rw [z2]) 500 (x := 500) rfl (by decide)]
  obtain ⟨h3, E, N, O, z3⟩ := naF z2 .int 500 (.inl fun _ => 0)
  rw [E]
  clear E
  have c3_0 := (O (e) (by omega)).trans c2_0
  have c3_1 := (O (e + 1) (by omega)).trans c2_1
  have l3 : ∀ a, a < e → h3.1 a = h0.1 a := fun a ha => (O a (by omega)).trans (l2 a ha)
  have c3_2 := N
  clear N O
  clear c2_0 c2_1 l2
  replace z3 : h3.2 = (e + 3, q + 500 + 500) := z3
  obtain ⟨h4, E, N, O, z4⟩ := puF (k := 2) c3_0 (.ref (e + 2)) (by simp)
  rw [z3] at z4
  rw [E, bs]
  clear E
  have c4_1 := (O (e + 1) (by omega)).trans c3_1
  have c4_2 := (O (e + 2) (by omega)).trans c3_2
  have l4 : ∀ a, a < e → h4.1 a = h0.1 a := fun a ha => (O a (by omega)).trans (l3 a ha)
  have c4_0 : h4.1 (e) = some (.inl (7, [.null, .ref (e + 1), .ref (e + 2), .null, .null, .int 0, .int 0, .int 0, .int 0])) := N
  clear N O
  clear c3_0 c3_1 c3_2 l3
  rw [nw_e (p := e + 3) (by rw [z4])]
  obtain ⟨h5, E, N, O, z5⟩ := nwF z4 4 3 [.null, .int 0, .int 0]
  rw [E]
  clear E
  have c5_0 := (O (e) (by omega)).trans c4_0
  have c5_1 := (O (e + 1) (by omega)).trans c4_1
  have c5_2 := (O (e + 2) (by omega)).trans c4_2
  have l5 : ∀ a, a < e → h5.1 a = h0.1 a := fun a ha => (O a (by omega)).trans (l4 a ha)
  have c5_3 := N
  clear N O
  clear c4_0 c4_1 c4_2 l4
  replace z5 : h5.2 = (e + 4, q + 500 + 500 + 3) := z5
  obtain ⟨h6, E, R, O, z6⟩ := in_R G (r := e + 3) c5_3 z5
  rw [E, bs]
  clear E
  have c6_0 := (O (e) (by omega)).trans c5_0
  have c6_1 := (O (e + 1) (by omega)).trans c5_1
  have c6_2 := (O (e + 2) (by omega)).trans c5_2
  have l6 : ∀ a, a < e → h6.1 a = h0.1 a := fun a ha => (O a (by omega)).trans (l5 a ha)
  clear O
  clear c5_0 c5_1 c5_2 c5_3 l5
  replace z6 : h6.2 = (e + 5, q + 500 + 500 + 3 + 64) := z6
  have r6_3 := R
  clear R
  obtain ⟨h7, E, N, O, z7⟩ := puF (k := 3) c6_0 (.ref (e + 3)) (by simp)
  rw [z6] at z7
  rw [E, bs]
  clear E
  have c7_1 := (O (e + 1) (by omega)).trans c6_1
  have c7_2 := (O (e + 2) (by omega)).trans c6_2
  have r7_3 := r6_3.e (O (e + 3) (by omega)) (O (e + 3 + 1) (by omega))
  have l7 : ∀ a, a < e → h7.1 a = h0.1 a := fun a ha => (O a (by omega)).trans (l6 a ha)
  have c7_0 : h7.1 (e) = some (.inl (7, [.null, .ref (e + 1), .ref (e + 2), .ref (e + 3), .null, .int 0, .int 0, .int 0, .int 0])) := N
  clear N O
  clear c6_0 c6_1 c6_2 r6_3 l6
  rw [nw_e (p := e + 5) (by rw [z7])]
  obtain ⟨h8, E, N, O, z8⟩ := nwF z7 6 4 [.int 0, .int 0, .long 0, .int 0]
  rw [E]
  clear E
  have c8_0 := (O (e) (by omega)).trans c7_0
  have c8_1 := (O (e + 1) (by omega)).trans c7_1
  have c8_2 := (O (e + 2) (by omega)).trans c7_2
  have r8_3 := r7_3.e (O (e + 3) (by omega)) (O (e + 3 + 1) (by omega))
  have l8 : ∀ a, a < e → h8.1 a = h0.1 a := fun a ha => (O a (by omega)).trans (l7 a ha)
  have c8_5 := N
  clear N O
  clear c7_0 c7_1 c7_2 r7_3 l7
  replace z8 : h8.2 = (e + 6, q + 500 + 500 + 3 + 64 + 4) := z8
  unfold m_K_init
  rw [bs]
  obtain ⟨h9, E, N, O, z9⟩ := puF (k := 4) c8_0 (.ref (e + 5)) (by simp)
  rw [z8] at z9
  rw [E, bs]
  clear E
  have c9_1 := (O (e + 1) (by omega)).trans c8_1
  have c9_2 := (O (e + 2) (by omega)).trans c8_2
  have c9_5 := (O (e + 5) (by omega)).trans c8_5
  have r9_3 := r8_3.e (O (e + 3) (by omega)) (O (e + 3 + 1) (by omega))
  have l9 : ∀ a, a < e → h9.1 a = h0.1 a := fun a ha => (O a (by omega)).trans (l8 a ha)
  have c9_0 : h9.1 (e) = some (.inl (7, [.null, .ref (e + 1), .ref (e + 2), .ref (e + 3), .ref (e + 5), .int 0, .int 0, .int 0, .int 0])) := N
  clear N O
  clear c8_0 c8_1 c8_2 c8_5 r8_3 l8
  obtain ⟨h10, E, N, O, z10⟩ := puF (k := 5) c9_0 (.int 0) (by simp)
  rw [z9] at z10
  rw [E, bs]
  clear E
  have c10_1 := (O (e + 1) (by omega)).trans c9_1
  have c10_2 := (O (e + 2) (by omega)).trans c9_2
  have c10_5 := (O (e + 5) (by omega)).trans c9_5
  have r10_3 := r9_3.e (O (e + 3) (by omega)) (O (e + 3 + 1) (by omega))
  have l10 : ∀ a, a < e → h10.1 a = h0.1 a := fun a ha => (O a (by omega)).trans (l9 a ha)
  have c10_0 : h10.1 (e) = some (.inl (7, [.null, .ref (e + 1), .ref (e + 2), .ref (e + 3), .ref (e + 5), .int 0, .int 0, .int 0, .int 0])) := N
  clear N O
  clear c9_0 c9_1 c9_2 c9_5 r9_3 l9
  obtain ⟨h11, E, N, O, z11⟩ := puF (k := 0) c10_0 (.ref w) (by simp)
  rw [z10] at z11
  rw [E, bs]
  clear E
  have c11_1 := (O (e + 1) (by omega)).trans c10_1
  have c11_2 := (O (e + 2) (by omega)).trans c10_2
  have c11_5 := (O (e + 5) (by omega)).trans c10_5
  have r11_3 := r10_3.e (O (e + 3) (by omega)) (O (e + 3 + 1) (by omega))
  have l11 : ∀ a, a < e → h11.1 a = h0.1 a := fun a ha => (O a (by omega)).trans (l10 a ha)
  have c11_0 : h11.1 (e) = some (.inl (7, [.ref w, .ref (e + 1), .ref (e + 2), .ref (e + 3), .ref (e + 5), .int 0, .int 0, .int 0, .int 0])) := N
  clear N O
  clear c10_0 c10_1 c10_2 c10_5 r10_3 l10
  exact ⟨h11, rfl, ⟨c11_0, c11_1, c11_2, r11_3, c11_5⟩, l11, z11⟩
def MI (o : Nat) (h : hp_H) : Prop := h.1 o = some (.inl (8, [.int 0, .ref (o + 1), .ref (o + 2), .ref (o + 3), .ref (o + 4), .ref (o + 5), .ref (o + 6), .ref (o + 7), .ref (o + 8), .int 0, .int 0, .int 0, .int 0, .int 0, .ref (o + 9), .ref (o + 10), .int 0, .ref (o + 11), .ref (o + 12), .ref (o + 13), .ref (o + 14), .ref (o + 15), .int 0, .ref (o + 16), .ref (o + 17), .ref (o + 18), .int 0, .int 0, .int 0, .int 0, .ref (o + 19), .int 0, .int 0, .ref (o + 20)])) ∧ h.1 (o + 1) = some (.inr (true, .int, 2001, .inl fun _ => 0)) ∧ h.1 (o + 2) = some (.inr (true, .int, 2001, .inl fun _ => 0)) ∧ h.1 (o + 3) = some (.inr (true, .int, 2001, .inl fun _ => 0)) ∧ h.1 (o + 4) = some (.inr (true, .int, 2001, .inl fun _ => 0)) ∧ h.1 (o + 5) = some (.inr (true, .int, 36018, .inl fun _ => 0)) ∧ h.1 (o + 6) = some (.inr (true, .int, 2001, .inl fun _ => 0)) ∧ h.1 (o + 7) = some (.inr (true, .int, 128064, .inl fun _ => 0)) ∧ h.1 (o + 8) = some (.inr (true, .int, 64, .inl fun _ => 0)) ∧ h.1 (o + 9) = some (.inr (true, .int, 18, .inl fun _ => 0)) ∧ h.1 (o + 10) = some (.inr (true, .int, 64, .inl fun _ => 0)) ∧ h.1 (o + 11) = some (.inr (true, .int, 64, .inl fun _ => 0)) ∧ h.1 (o + 12) = some (.inr (true, .int, 64, .inl fun _ => 0)) ∧ h.1 (o + 13) = some (.inr (true, .int, 64, .inl fun _ => 0)) ∧ h.1 (o + 14) = some (.inr (true, .int, 100, .inl fun _ => 0)) ∧ h.1 (o + 15) = some (.inr (true, .int, 100, .inl fun _ => 0)) ∧ h.1 (o + 16) = some (.inr (true, .int, 10, .inl fun _ => 0)) ∧ h.1 (o + 17) = some (.inr (true, .int, 102, .inl fun _ => 0)) ∧ h.1 (o + 18) = some (.inr (true, .int, 500, .inl fun _ => 0)) ∧ h.1 (o + 19) = some (.inr (true, .int, 64, .inl fun _ => 0)) ∧ h.1 (o + 20) = some (.inr (true, .int, 500, .inl fun _ => 0))
theorem in_M (G : Nat → Nat) {o q : Nat} {h0 : hp_H} (c0_0 : h0.1 o = some (.inl (8, [.int 0, .null, .null, .null, .null, .null, .null, .null, .null, .int 0, .int 0, .int 0, .int 0, .int 0, .null, .null, .int 0, .null, .null, .null, .null, .null, .int 0, .null, .null, .null, .int 0, .int 0, .int 0, .int 0, .null, .int 0, .int 0, .null]))) (z0 : h0.2 = (o + 1, q)) : ∃ h', m_M_init G o h0 = some ((), h') ∧ MI o h' ∧ (∀ a, a < o → h'.1 a = h0.1 a) ∧ h'.2 = (o + 21, q + 2001 + 2001 + 2001 + 2001 + 36018 + 2001 + 128064 + 64 + 18 + 64 + 64 + 64 + 64 + 100 + 100 + 10 + 102 + 500 + 64 + 500) := by
  unfold m_M_init
  have l0 : ∀ a, a < o → h0.1 a = h0.1 a := fun _ _ => rfl
  rw [nai_e (p := o + 1) (by rw [z0]) 2001 (x := 2001) rfl (by decide)]
  obtain ⟨h1, E, N, O, z1⟩ := naF z0 .int 2001 (.inl fun _ => 0)
  rw [E]
  clear E
  have c1_0 := (O (o) (by omega)).trans c0_0
  have l1 : ∀ a, a < o → h1.1 a = h0.1 a := fun a ha => (O a (by omega)).trans (l0 a ha)
  have c1_1 := N
  clear N O
  clear c0_0 l0
  replace z1 : h1.2 = (o + 2, q + 2001) := z1
  obtain ⟨h2, E, N, O, z2⟩ := puF (k := 1) c1_0 (.ref (o + 1)) (by simp)
  rw [z1] at z2
  rw [E, bs]
  clear E
  have c2_1 := (O (o + 1) (by omega)).trans c1_1
  have l2 : ∀ a, a < o → h2.1 a = h0.1 a := fun a ha => (O a (by omega)).trans (l1 a ha)
  have c2_0 : h2.1 (o) = some (.inl (8, [.int 0, .ref (o + 1), .null, .null, .null, .null, .null, .null, .null, .int 0, .int 0, .int 0, .int 0, .int 0, .null, .null, .int 0, .null, .null, .null, .null, .null, .int 0, .null, .null, .null, .int 0, .int 0, .int 0, .int 0, .null, .int 0, .int 0, .null])) := N
  clear N O
  clear c1_0 c1_1 l1
  rw [nai_e (p := o + 2) (by rw [z2]) 2001 (x := 2001) rfl (by decide)]
  obtain ⟨h3, E, N, O, z3⟩ := naF z2 .int 2001 (.inl fun _ => 0)
  rw [E]
  clear E
  have c3_0 := (O (o) (by omega)).trans c2_0
  have c3_1 := (O (o + 1) (by omega)).trans c2_1
  have l3 : ∀ a, a < o → h3.1 a = h0.1 a := fun a ha => (O a (by omega)).trans (l2 a ha)
  have c3_2 := N
  clear N O
  clear c2_0 c2_1 l2
  replace z3 : h3.2 = (o + 3, q + 2001 + 2001) := z3
  obtain ⟨h4, E, N, O, z4⟩ := puF (k := 2) c3_0 (.ref (o + 2)) (by simp)
  rw [z3] at z4
  rw [E, bs]
  clear E
  have c4_1 := (O (o + 1) (by omega)).trans c3_1
  have c4_2 := (O (o + 2) (by omega)).trans c3_2
  have l4 : ∀ a, a < o → h4.1 a = h0.1 a := fun a ha => (O a (by omega)).trans (l3 a ha)
  have c4_0 : h4.1 (o) = some (.inl (8, [.int 0, .ref (o + 1), .ref (o + 2), .null, .null, .null, .null, .null, .null, .int 0, .int 0, .int 0, .int 0, .int 0, .null, .null, .int 0, .null, .null, .null, .null, .null, .int 0, .null, .null, .null, .int 0, .int 0, .int 0, .int 0, .null, .int 0, .int 0, .null])) := N
  clear N O
  clear c3_0 c3_1 c3_2 l3
  rw [nai_e (p := o + 3) (by rw [z4]) 2001 (x := 2001) rfl (by decide)]
  obtain ⟨h5, E, N, O, z5⟩ := naF z4 .int 2001 (.inl fun _ => 0)
  rw [E]
  clear E
  have c5_0 := (O (o) (by omega)).trans c4_0
  have c5_1 := (O (o + 1) (by omega)).trans c4_1
  have c5_2 := (O (o + 2) (by omega)).trans c4_2
  have l5 : ∀ a, a < o → h5.1 a = h0.1 a := fun a ha => (O a (by omega)).trans (l4 a ha)
  have c5_3 := N
  clear N O
  clear c4_0 c4_1 c4_2 l4
  replace z5 : h5.2 = (o + 4, q + 2001 + 2001 + 2001) := z5
  obtain ⟨h6, E, N, O, z6⟩ := puF (k := 3) c5_0 (.ref (o + 3)) (by simp)
  rw [z5] at z6
  rw [E, bs]
  clear E
  have c6_1 := (O (o + 1) (by omega)).trans c5_1
  have c6_2 := (O (o + 2) (by omega)).trans c5_2
  have c6_3 := (O (o + 3) (by omega)).trans c5_3
  have l6 : ∀ a, a < o → h6.1 a = h0.1 a := fun a ha => (O a (by omega)).trans (l5 a ha)
  have c6_0 : h6.1 (o) = some (.inl (8, [.int 0, .ref (o + 1), .ref (o + 2), .ref (o + 3), .null, .null, .null, .null, .null, .int 0, .int 0, .int 0, .int 0, .int 0, .null, .null, .int 0, .null, .null, .null, .null, .null, .int 0, .null, .null, .null, .int 0, .int 0, .int 0, .int 0, .null, .int 0, .int 0, .null])) := N
  clear N O
  clear c5_0 c5_1 c5_2 c5_3 l5
  rw [nai_e (p := o + 4) (by rw [z6]) 2001 (x := 2001) rfl (by decide)]
  obtain ⟨h7, E, N, O, z7⟩ := naF z6 .int 2001 (.inl fun _ => 0)
  rw [E]
  clear E
  have c7_0 := (O (o) (by omega)).trans c6_0
  have c7_1 := (O (o + 1) (by omega)).trans c6_1
  have c7_2 := (O (o + 2) (by omega)).trans c6_2
  have c7_3 := (O (o + 3) (by omega)).trans c6_3
  have l7 : ∀ a, a < o → h7.1 a = h0.1 a := fun a ha => (O a (by omega)).trans (l6 a ha)
  have c7_4 := N
  clear N O
  clear c6_0 c6_1 c6_2 c6_3 l6
  replace z7 : h7.2 = (o + 5, q + 2001 + 2001 + 2001 + 2001) := z7
  obtain ⟨h8, E, N, O, z8⟩ := puF (k := 4) c7_0 (.ref (o + 4)) (by simp)
  rw [z7] at z8
  rw [E, bs]
  clear E
  have c8_1 := (O (o + 1) (by omega)).trans c7_1
  have c8_2 := (O (o + 2) (by omega)).trans c7_2
  have c8_3 := (O (o + 3) (by omega)).trans c7_3
  have c8_4 := (O (o + 4) (by omega)).trans c7_4
  have l8 : ∀ a, a < o → h8.1 a = h0.1 a := fun a ha => (O a (by omega)).trans (l7 a ha)
  have c8_0 : h8.1 (o) = some (.inl (8, [.int 0, .ref (o + 1), .ref (o + 2), .ref (o + 3), .ref (o + 4), .null, .null, .null, .null, .int 0, .int 0, .int 0, .int 0, .int 0, .null, .null, .int 0, .null, .null, .null, .null, .null, .int 0, .null, .null, .null, .int 0, .int 0, .int 0, .int 0, .null, .int 0, .int 0, .null])) := N
  clear N O
  clear c7_0 c7_1 c7_2 c7_3 c7_4 l7
  rw [nai_e (p := o + 5) (by rw [z8]) 36018 (x := 36018) rfl (by decide)]
  obtain ⟨h9, E, N, O, z9⟩ := naF z8 .int 36018 (.inl fun _ => 0)
  rw [E]
  clear E
  have c9_0 := (O (o) (by omega)).trans c8_0
  have c9_1 := (O (o + 1) (by omega)).trans c8_1
  have c9_2 := (O (o + 2) (by omega)).trans c8_2
  have c9_3 := (O (o + 3) (by omega)).trans c8_3
  have c9_4 := (O (o + 4) (by omega)).trans c8_4
  have l9 : ∀ a, a < o → h9.1 a = h0.1 a := fun a ha => (O a (by omega)).trans (l8 a ha)
  have c9_5 := N
  clear N O
  clear c8_0 c8_1 c8_2 c8_3 c8_4 l8
  replace z9 : h9.2 = (o + 6, q + 2001 + 2001 + 2001 + 2001 + 36018) := z9
  obtain ⟨h10, E, N, O, z10⟩ := puF (k := 5) c9_0 (.ref (o + 5)) (by simp)
  rw [z9] at z10
  rw [E, bs]
  clear E
  have c10_1 := (O (o + 1) (by omega)).trans c9_1
  have c10_2 := (O (o + 2) (by omega)).trans c9_2
  have c10_3 := (O (o + 3) (by omega)).trans c9_3
  have c10_4 := (O (o + 4) (by omega)).trans c9_4
  have c10_5 := (O (o + 5) (by omega)).trans c9_5
  have l10 : ∀ a, a < o → h10.1 a = h0.1 a := fun a ha => (O a (by omega)).trans (l9 a ha)
  have c10_0 : h10.1 (o) = some (.inl (8, [.int 0, .ref (o + 1), .ref (o + 2), .ref (o + 3), .ref (o + 4), .ref (o + 5), .null, .null, .null, .int 0, .int 0, .int 0, .int 0, .int 0, .null, .null, .int 0, .null, .null, .null, .null, .null, .int 0, .null, .null, .null, .int 0, .int 0, .int 0, .int 0, .null, .int 0, .int 0, .null])) := N
  clear N O
  clear c9_0 c9_1 c9_2 c9_3 c9_4 c9_5 l9
  rw [nai_e (p := o + 6) (by rw [z10]) 2001 (x := 2001) rfl (by decide)]
  obtain ⟨h11, E, N, O, z11⟩ := naF z10 .int 2001 (.inl fun _ => 0)
  rw [E]
  clear E
  have c11_0 := (O (o) (by omega)).trans c10_0
  have c11_1 := (O (o + 1) (by omega)).trans c10_1
  have c11_2 := (O (o + 2) (by omega)).trans c10_2
  have c11_3 := (O (o + 3) (by omega)).trans c10_3
  have c11_4 := (O (o + 4) (by omega)).trans c10_4
  have c11_5 := (O (o + 5) (by omega)).trans c10_5
  have l11 : ∀ a, a < o → h11.1 a = h0.1 a := fun a ha => (O a (by omega)).trans (l10 a ha)
  have c11_6 := N
  clear N O
  clear c10_0 c10_1 c10_2 c10_3 c10_4 c10_5 l10
  replace z11 : h11.2 = (o + 7, q + 2001 + 2001 + 2001 + 2001 + 36018 + 2001) := z11
  obtain ⟨h12, E, N, O, z12⟩ := puF (k := 6) c11_0 (.ref (o + 6)) (by simp)
  rw [z11] at z12
  rw [E, bs]
  clear E
  have c12_1 := (O (o + 1) (by omega)).trans c11_1
  have c12_2 := (O (o + 2) (by omega)).trans c11_2
  have c12_3 := (O (o + 3) (by omega)).trans c11_3
  have c12_4 := (O (o + 4) (by omega)).trans c11_4
  have c12_5 := (O (o + 5) (by omega)).trans c11_5
  have c12_6 := (O (o + 6) (by omega)).trans c11_6
  have l12 : ∀ a, a < o → h12.1 a = h0.1 a := fun a ha => (O a (by omega)).trans (l11 a ha)
  have c12_0 : h12.1 (o) = some (.inl (8, [.int 0, .ref (o + 1), .ref (o + 2), .ref (o + 3), .ref (o + 4), .ref (o + 5), .ref (o + 6), .null, .null, .int 0, .int 0, .int 0, .int 0, .int 0, .null, .null, .int 0, .null, .null, .null, .null, .null, .int 0, .null, .null, .null, .int 0, .int 0, .int 0, .int 0, .null, .int 0, .int 0, .null])) := N
  clear N O
  clear c11_0 c11_1 c11_2 c11_3 c11_4 c11_5 c11_6 l11
  rw [nai_e (p := o + 7) (by rw [z12]) 128064 (x := 128064) rfl (by decide)]
  obtain ⟨h13, E, N, O, z13⟩ := naF z12 .int 128064 (.inl fun _ => 0)
  rw [E]
  clear E
  have c13_0 := (O (o) (by omega)).trans c12_0
  have c13_1 := (O (o + 1) (by omega)).trans c12_1
  have c13_2 := (O (o + 2) (by omega)).trans c12_2
  have c13_3 := (O (o + 3) (by omega)).trans c12_3
  have c13_4 := (O (o + 4) (by omega)).trans c12_4
  have c13_5 := (O (o + 5) (by omega)).trans c12_5
  have c13_6 := (O (o + 6) (by omega)).trans c12_6
  have l13 : ∀ a, a < o → h13.1 a = h0.1 a := fun a ha => (O a (by omega)).trans (l12 a ha)
  have c13_7 := N
  clear N O
  clear c12_0 c12_1 c12_2 c12_3 c12_4 c12_5 c12_6 l12
  replace z13 : h13.2 = (o + 8, q + 2001 + 2001 + 2001 + 2001 + 36018 + 2001 + 128064) := z13
  obtain ⟨h14, E, N, O, z14⟩ := puF (k := 7) c13_0 (.ref (o + 7)) (by simp)
  rw [z13] at z14
  rw [E, bs]
  clear E
  have c14_1 := (O (o + 1) (by omega)).trans c13_1
  have c14_2 := (O (o + 2) (by omega)).trans c13_2
  have c14_3 := (O (o + 3) (by omega)).trans c13_3
  have c14_4 := (O (o + 4) (by omega)).trans c13_4
  have c14_5 := (O (o + 5) (by omega)).trans c13_5
  have c14_6 := (O (o + 6) (by omega)).trans c13_6
  have c14_7 := (O (o + 7) (by omega)).trans c13_7
  have l14 : ∀ a, a < o → h14.1 a = h0.1 a := fun a ha => (O a (by omega)).trans (l13 a ha)
  have c14_0 : h14.1 (o) = some (.inl (8, [.int 0, .ref (o + 1), .ref (o + 2), .ref (o + 3), .ref (o + 4), .ref (o + 5), .ref (o + 6), .ref (o + 7), .null, .int 0, .int 0, .int 0, .int 0, .int 0, .null, .null, .int 0, .null, .null, .null, .null, .null, .int 0, .null, .null, .null, .int 0, .int 0, .int 0, .int 0, .null, .int 0, .int 0, .null])) := N
  clear N O
  clear c13_0 c13_1 c13_2 c13_3 c13_4 c13_5 c13_6 c13_7 l13
  rw [nai_e (p := o + 8) (by rw [z14]) 64 (x := 64) rfl (by decide)]
  obtain ⟨h15, E, N, O, z15⟩ := naF z14 .int 64 (.inl fun _ => 0)
  rw [E]
  clear E
  have c15_0 := (O (o) (by omega)).trans c14_0
  have c15_1 := (O (o + 1) (by omega)).trans c14_1
  have c15_2 := (O (o + 2) (by omega)).trans c14_2
  have c15_3 := (O (o + 3) (by omega)).trans c14_3
  have c15_4 := (O (o + 4) (by omega)).trans c14_4
  have c15_5 := (O (o + 5) (by omega)).trans c14_5
  have c15_6 := (O (o + 6) (by omega)).trans c14_6
  have c15_7 := (O (o + 7) (by omega)).trans c14_7
  have l15 : ∀ a, a < o → h15.1 a = h0.1 a := fun a ha => (O a (by omega)).trans (l14 a ha)
  have c15_8 := N
  clear N O
  clear c14_0 c14_1 c14_2 c14_3 c14_4 c14_5 c14_6 c14_7 l14
  replace z15 : h15.2 = (o + 9, q + 2001 + 2001 + 2001 + 2001 + 36018 + 2001 + 128064 + 64) := z15
  obtain ⟨h16, E, N, O, z16⟩ := puF (k := 8) c15_0 (.ref (o + 8)) (by simp)
  rw [z15] at z16
  rw [E, bs]
  clear E
  have c16_1 := (O (o + 1) (by omega)).trans c15_1
  have c16_2 := (O (o + 2) (by omega)).trans c15_2
  have c16_3 := (O (o + 3) (by omega)).trans c15_3
  have c16_4 := (O (o + 4) (by omega)).trans c15_4
  have c16_5 := (O (o + 5) (by omega)).trans c15_5
  have c16_6 := (O (o + 6) (by omega)).trans c15_6
  have c16_7 := (O (o + 7) (by omega)).trans c15_7
  have c16_8 := (O (o + 8) (by omega)).trans c15_8
  have l16 : ∀ a, a < o → h16.1 a = h0.1 a := fun a ha => (O a (by omega)).trans (l15 a ha)
  have c16_0 : h16.1 (o) = some (.inl (8, [.int 0, .ref (o + 1), .ref (o + 2), .ref (o + 3), .ref (o + 4), .ref (o + 5), .ref (o + 6), .ref (o + 7), .ref (o + 8), .int 0, .int 0, .int 0, .int 0, .int 0, .null, .null, .int 0, .null, .null, .null, .null, .null, .int 0, .null, .null, .null, .int 0, .int 0, .int 0, .int 0, .null, .int 0, .int 0, .null])) := N
  clear N O
  clear c15_0 c15_1 c15_2 c15_3 c15_4 c15_5 c15_6 c15_7 c15_8 l15
  rw [nai_e (p := o + 9) (by rw [z16]) 18 (x := 18) rfl (by decide)]
  obtain ⟨h17, E, N, O, z17⟩ := naF z16 .int 18 (.inl fun _ => 0)
  rw [E]
  clear E
  have c17_0 := (O (o) (by omega)).trans c16_0
  have c17_1 := (O (o + 1) (by omega)).trans c16_1
  have c17_2 := (O (o + 2) (by omega)).trans c16_2
  have c17_3 := (O (o + 3) (by omega)).trans c16_3
  have c17_4 := (O (o + 4) (by omega)).trans c16_4
  have c17_5 := (O (o + 5) (by omega)).trans c16_5
  have c17_6 := (O (o + 6) (by omega)).trans c16_6
  have c17_7 := (O (o + 7) (by omega)).trans c16_7
  have c17_8 := (O (o + 8) (by omega)).trans c16_8
  have l17 : ∀ a, a < o → h17.1 a = h0.1 a := fun a ha => (O a (by omega)).trans (l16 a ha)
  have c17_9 := N
  clear N O
  clear c16_0 c16_1 c16_2 c16_3 c16_4 c16_5 c16_6 c16_7 c16_8 l16
  replace z17 : h17.2 = (o + 10, q + 2001 + 2001 + 2001 + 2001 + 36018 + 2001 + 128064 + 64 + 18) := z17
  obtain ⟨h18, E, N, O, z18⟩ := puF (k := 14) c17_0 (.ref (o + 9)) (by simp)
  rw [z17] at z18
  rw [E, bs]
  clear E
  have c18_1 := (O (o + 1) (by omega)).trans c17_1
  have c18_2 := (O (o + 2) (by omega)).trans c17_2
  have c18_3 := (O (o + 3) (by omega)).trans c17_3
  have c18_4 := (O (o + 4) (by omega)).trans c17_4
  have c18_5 := (O (o + 5) (by omega)).trans c17_5
  have c18_6 := (O (o + 6) (by omega)).trans c17_6
  have c18_7 := (O (o + 7) (by omega)).trans c17_7
  have c18_8 := (O (o + 8) (by omega)).trans c17_8
  have c18_9 := (O (o + 9) (by omega)).trans c17_9
  have l18 : ∀ a, a < o → h18.1 a = h0.1 a := fun a ha => (O a (by omega)).trans (l17 a ha)
  have c18_0 : h18.1 (o) = some (.inl (8, [.int 0, .ref (o + 1), .ref (o + 2), .ref (o + 3), .ref (o + 4), .ref (o + 5), .ref (o + 6), .ref (o + 7), .ref (o + 8), .int 0, .int 0, .int 0, .int 0, .int 0, .ref (o + 9), .null, .int 0, .null, .null, .null, .null, .null, .int 0, .null, .null, .null, .int 0, .int 0, .int 0, .int 0, .null, .int 0, .int 0, .null])) := N
  clear N O
  clear c17_0 c17_1 c17_2 c17_3 c17_4 c17_5 c17_6 c17_7 c17_8 c17_9 l17
  rw [nai_e (p := o + 10) (by rw [z18]) 64 (x := 64) rfl (by decide)]
  obtain ⟨h19, E, N, O, z19⟩ := naF z18 .int 64 (.inl fun _ => 0)
  rw [E]
  clear E
  have c19_0 := (O (o) (by omega)).trans c18_0
  have c19_1 := (O (o + 1) (by omega)).trans c18_1
  have c19_2 := (O (o + 2) (by omega)).trans c18_2
  have c19_3 := (O (o + 3) (by omega)).trans c18_3
  have c19_4 := (O (o + 4) (by omega)).trans c18_4
  have c19_5 := (O (o + 5) (by omega)).trans c18_5
  have c19_6 := (O (o + 6) (by omega)).trans c18_6
  have c19_7 := (O (o + 7) (by omega)).trans c18_7
  have c19_8 := (O (o + 8) (by omega)).trans c18_8
  have c19_9 := (O (o + 9) (by omega)).trans c18_9
  have l19 : ∀ a, a < o → h19.1 a = h0.1 a := fun a ha => (O a (by omega)).trans (l18 a ha)
  have c19_10 := N
  clear N O
  clear c18_0 c18_1 c18_2 c18_3 c18_4 c18_5 c18_6 c18_7 c18_8 c18_9 l18
  replace z19 : h19.2 = (o + 11, q + 2001 + 2001 + 2001 + 2001 + 36018 + 2001 + 128064 + 64 + 18 + 64) := z19
  obtain ⟨h20, E, N, O, z20⟩ := puF (k := 15) c19_0 (.ref (o + 10)) (by simp)
  rw [z19] at z20
  rw [E, bs]
  clear E
  have c20_1 := (O (o + 1) (by omega)).trans c19_1
  have c20_2 := (O (o + 2) (by omega)).trans c19_2
  have c20_3 := (O (o + 3) (by omega)).trans c19_3
  have c20_4 := (O (o + 4) (by omega)).trans c19_4
  have c20_5 := (O (o + 5) (by omega)).trans c19_5
  have c20_6 := (O (o + 6) (by omega)).trans c19_6
  have c20_7 := (O (o + 7) (by omega)).trans c19_7
  have c20_8 := (O (o + 8) (by omega)).trans c19_8
  have c20_9 := (O (o + 9) (by omega)).trans c19_9
  have c20_10 := (O (o + 10) (by omega)).trans c19_10
  have l20 : ∀ a, a < o → h20.1 a = h0.1 a := fun a ha => (O a (by omega)).trans (l19 a ha)
  have c20_0 : h20.1 (o) = some (.inl (8, [.int 0, .ref (o + 1), .ref (o + 2), .ref (o + 3), .ref (o + 4), .ref (o + 5), .ref (o + 6), .ref (o + 7), .ref (o + 8), .int 0, .int 0, .int 0, .int 0, .int 0, .ref (o + 9), .ref (o + 10), .int 0, .null, .null, .null, .null, .null, .int 0, .null, .null, .null, .int 0, .int 0, .int 0, .int 0, .null, .int 0, .int 0, .null])) := N
  clear N O
  clear c19_0 c19_1 c19_2 c19_3 c19_4 c19_5 c19_6 c19_7 c19_8 c19_9 c19_10 l19
  rw [nai_e (p := o + 11) (by rw [z20]) 64 (x := 64) rfl (by decide)]
  obtain ⟨h21, E, N, O, z21⟩ := naF z20 .int 64 (.inl fun _ => 0)
  rw [E]
  clear E
  have c21_0 := (O (o) (by omega)).trans c20_0
  have c21_1 := (O (o + 1) (by omega)).trans c20_1
  have c21_2 := (O (o + 2) (by omega)).trans c20_2
  have c21_3 := (O (o + 3) (by omega)).trans c20_3
  have c21_4 := (O (o + 4) (by omega)).trans c20_4
  have c21_5 := (O (o + 5) (by omega)).trans c20_5
  have c21_6 := (O (o + 6) (by omega)).trans c20_6
  have c21_7 := (O (o + 7) (by omega)).trans c20_7
  have c21_8 := (O (o + 8) (by omega)).trans c20_8
  have c21_9 := (O (o + 9) (by omega)).trans c20_9
  have c21_10 := (O (o + 10) (by omega)).trans c20_10
  have l21 : ∀ a, a < o → h21.1 a = h0.1 a := fun a ha => (O a (by omega)).trans (l20 a ha)
  have c21_11 := N
  clear N O
  clear c20_0 c20_1 c20_2 c20_3 c20_4 c20_5 c20_6 c20_7 c20_8 c20_9 c20_10 l20
  replace z21 : h21.2 = (o + 12, q + 2001 + 2001 + 2001 + 2001 + 36018 + 2001 + 128064 + 64 + 18 + 64 + 64) := z21
  obtain ⟨h22, E, N, O, z22⟩ := puF (k := 17) c21_0 (.ref (o + 11)) (by simp)
  rw [z21] at z22
  rw [E, bs]
  clear E
  have c22_1 := (O (o + 1) (by omega)).trans c21_1
  have c22_2 := (O (o + 2) (by omega)).trans c21_2
  have c22_3 := (O (o + 3) (by omega)).trans c21_3
  have c22_4 := (O (o + 4) (by omega)).trans c21_4
  have c22_5 := (O (o + 5) (by omega)).trans c21_5
  have c22_6 := (O (o + 6) (by omega)).trans c21_6
  have c22_7 := (O (o + 7) (by omega)).trans c21_7
  have c22_8 := (O (o + 8) (by omega)).trans c21_8
  have c22_9 := (O (o + 9) (by omega)).trans c21_9
  have c22_10 := (O (o + 10) (by omega)).trans c21_10
  have c22_11 := (O (o + 11) (by omega)).trans c21_11
  have l22 : ∀ a, a < o → h22.1 a = h0.1 a := fun a ha => (O a (by omega)).trans (l21 a ha)
  have c22_0 : h22.1 (o) = some (.inl (8, [.int 0, .ref (o + 1), .ref (o + 2), .ref (o + 3), .ref (o + 4), .ref (o + 5), .ref (o + 6), .ref (o + 7), .ref (o + 8), .int 0, .int 0, .int 0, .int 0, .int 0, .ref (o + 9), .ref (o + 10), .int 0, .ref (o + 11), .null, .null, .null, .null, .int 0, .null, .null, .null, .int 0, .int 0, .int 0, .int 0, .null, .int 0, .int 0, .null])) := N
  clear N O
  clear c21_0 c21_1 c21_2 c21_3 c21_4 c21_5 c21_6 c21_7 c21_8 c21_9 c21_10 c21_11 l21
  rw [nai_e (p := o + 12) (by rw [z22]) 64 (x := 64) rfl (by decide)]
  obtain ⟨h23, E, N, O, z23⟩ := naF z22 .int 64 (.inl fun _ => 0)
  rw [E]
  clear E
  have c23_0 := (O (o) (by omega)).trans c22_0
  have c23_1 := (O (o + 1) (by omega)).trans c22_1
  have c23_2 := (O (o + 2) (by omega)).trans c22_2
  have c23_3 := (O (o + 3) (by omega)).trans c22_3
  have c23_4 := (O (o + 4) (by omega)).trans c22_4
  have c23_5 := (O (o + 5) (by omega)).trans c22_5
  have c23_6 := (O (o + 6) (by omega)).trans c22_6
  have c23_7 := (O (o + 7) (by omega)).trans c22_7
  have c23_8 := (O (o + 8) (by omega)).trans c22_8
  have c23_9 := (O (o + 9) (by omega)).trans c22_9
  have c23_10 := (O (o + 10) (by omega)).trans c22_10
  have c23_11 := (O (o + 11) (by omega)).trans c22_11
  have l23 : ∀ a, a < o → h23.1 a = h0.1 a := fun a ha => (O a (by omega)).trans (l22 a ha)
  have c23_12 := N
  clear N O
  clear c22_0 c22_1 c22_2 c22_3 c22_4 c22_5 c22_6 c22_7 c22_8 c22_9 c22_10 c22_11 l22
  replace z23 : h23.2 = (o + 13, q + 2001 + 2001 + 2001 + 2001 + 36018 + 2001 + 128064 + 64 + 18 + 64 + 64 + 64) := z23
  obtain ⟨h24, E, N, O, z24⟩ := puF (k := 18) c23_0 (.ref (o + 12)) (by simp)
  rw [z23] at z24
  rw [E, bs]
  clear E
  have c24_1 := (O (o + 1) (by omega)).trans c23_1
  have c24_2 := (O (o + 2) (by omega)).trans c23_2
  have c24_3 := (O (o + 3) (by omega)).trans c23_3
  have c24_4 := (O (o + 4) (by omega)).trans c23_4
  have c24_5 := (O (o + 5) (by omega)).trans c23_5
  have c24_6 := (O (o + 6) (by omega)).trans c23_6
  have c24_7 := (O (o + 7) (by omega)).trans c23_7
  have c24_8 := (O (o + 8) (by omega)).trans c23_8
  have c24_9 := (O (o + 9) (by omega)).trans c23_9
  have c24_10 := (O (o + 10) (by omega)).trans c23_10
  have c24_11 := (O (o + 11) (by omega)).trans c23_11
  have c24_12 := (O (o + 12) (by omega)).trans c23_12
  have l24 : ∀ a, a < o → h24.1 a = h0.1 a := fun a ha => (O a (by omega)).trans (l23 a ha)
  have c24_0 : h24.1 (o) = some (.inl (8, [.int 0, .ref (o + 1), .ref (o + 2), .ref (o + 3), .ref (o + 4), .ref (o + 5), .ref (o + 6), .ref (o + 7), .ref (o + 8), .int 0, .int 0, .int 0, .int 0, .int 0, .ref (o + 9), .ref (o + 10), .int 0, .ref (o + 11), .ref (o + 12), .null, .null, .null, .int 0, .null, .null, .null, .int 0, .int 0, .int 0, .int 0, .null, .int 0, .int 0, .null])) := N
  clear N O
  clear c23_0 c23_1 c23_2 c23_3 c23_4 c23_5 c23_6 c23_7 c23_8 c23_9 c23_10 c23_11 c23_12 l23
  rw [nai_e (p := o + 13) (by rw [z24]) 64 (x := 64) rfl (by decide)]
  obtain ⟨h25, E, N, O, z25⟩ := naF z24 .int 64 (.inl fun _ => 0)
  rw [E]
  clear E
  have c25_0 := (O (o) (by omega)).trans c24_0
  have c25_1 := (O (o + 1) (by omega)).trans c24_1
  have c25_2 := (O (o + 2) (by omega)).trans c24_2
  have c25_3 := (O (o + 3) (by omega)).trans c24_3
  have c25_4 := (O (o + 4) (by omega)).trans c24_4
  have c25_5 := (O (o + 5) (by omega)).trans c24_5
  have c25_6 := (O (o + 6) (by omega)).trans c24_6
  have c25_7 := (O (o + 7) (by omega)).trans c24_7
  have c25_8 := (O (o + 8) (by omega)).trans c24_8
  have c25_9 := (O (o + 9) (by omega)).trans c24_9
  have c25_10 := (O (o + 10) (by omega)).trans c24_10
  have c25_11 := (O (o + 11) (by omega)).trans c24_11
  have c25_12 := (O (o + 12) (by omega)).trans c24_12
  have l25 : ∀ a, a < o → h25.1 a = h0.1 a := fun a ha => (O a (by omega)).trans (l24 a ha)
  have c25_13 := N
  clear N O
  clear c24_0 c24_1 c24_2 c24_3 c24_4 c24_5 c24_6 c24_7 c24_8 c24_9 c24_10 c24_11 c24_12 l24
  replace z25 : h25.2 = (o + 14, q + 2001 + 2001 + 2001 + 2001 + 36018 + 2001 + 128064 + 64 + 18 + 64 + 64 + 64 + 64) := z25
  obtain ⟨h26, E, N, O, z26⟩ := puF (k := 19) c25_0 (.ref (o + 13)) (by simp)
  rw [z25] at z26
  rw [E, bs]
  clear E
  have c26_1 := (O (o + 1) (by omega)).trans c25_1
  have c26_2 := (O (o + 2) (by omega)).trans c25_2
  have c26_3 := (O (o + 3) (by omega)).trans c25_3
  have c26_4 := (O (o + 4) (by omega)).trans c25_4
  have c26_5 := (O (o + 5) (by omega)).trans c25_5
  have c26_6 := (O (o + 6) (by omega)).trans c25_6
  have c26_7 := (O (o + 7) (by omega)).trans c25_7
  have c26_8 := (O (o + 8) (by omega)).trans c25_8
  have c26_9 := (O (o + 9) (by omega)).trans c25_9
  have c26_10 := (O (o + 10) (by omega)).trans c25_10
  have c26_11 := (O (o + 11) (by omega)).trans c25_11
  have c26_12 := (O (o + 12) (by omega)).trans c25_12
  have c26_13 := (O (o + 13) (by omega)).trans c25_13
  have l26 : ∀ a, a < o → h26.1 a = h0.1 a := fun a ha => (O a (by omega)).trans (l25 a ha)
  have c26_0 : h26.1 (o) = some (.inl (8, [.int 0, .ref (o + 1), .ref (o + 2), .ref (o + 3), .ref (o + 4), .ref (o + 5), .ref (o + 6), .ref (o + 7), .ref (o + 8), .int 0, .int 0, .int 0, .int 0, .int 0, .ref (o + 9), .ref (o + 10), .int 0, .ref (o + 11), .ref (o + 12), .ref (o + 13), .null, .null, .int 0, .null, .null, .null, .int 0, .int 0, .int 0, .int 0, .null, .int 0, .int 0, .null])) := N
  clear N O
  clear c25_0 c25_1 c25_2 c25_3 c25_4 c25_5 c25_6 c25_7 c25_8 c25_9 c25_10 c25_11 c25_12 c25_13 l25
  rw [nai_e (p := o + 14) (by rw [z26]) 100 (x := 100) rfl (by decide)]
  obtain ⟨h27, E, N, O, z27⟩ := naF z26 .int 100 (.inl fun _ => 0)
  rw [E]
  clear E
  have c27_0 := (O (o) (by omega)).trans c26_0
  have c27_1 := (O (o + 1) (by omega)).trans c26_1
  have c27_2 := (O (o + 2) (by omega)).trans c26_2
  have c27_3 := (O (o + 3) (by omega)).trans c26_3
  have c27_4 := (O (o + 4) (by omega)).trans c26_4
  have c27_5 := (O (o + 5) (by omega)).trans c26_5
  have c27_6 := (O (o + 6) (by omega)).trans c26_6
  have c27_7 := (O (o + 7) (by omega)).trans c26_7
  have c27_8 := (O (o + 8) (by omega)).trans c26_8
  have c27_9 := (O (o + 9) (by omega)).trans c26_9
  have c27_10 := (O (o + 10) (by omega)).trans c26_10
  have c27_11 := (O (o + 11) (by omega)).trans c26_11
  have c27_12 := (O (o + 12) (by omega)).trans c26_12
  have c27_13 := (O (o + 13) (by omega)).trans c26_13
  have l27 : ∀ a, a < o → h27.1 a = h0.1 a := fun a ha => (O a (by omega)).trans (l26 a ha)
  have c27_14 := N
  clear N O
  clear c26_0 c26_1 c26_2 c26_3 c26_4 c26_5 c26_6 c26_7 c26_8 c26_9 c26_10 c26_11 c26_12 c26_13 l26
  replace z27 : h27.2 = (o + 15, q + 2001 + 2001 + 2001 + 2001 + 36018 + 2001 + 128064 + 64 + 18 + 64 + 64 + 64 + 64 + 100) := z27
  obtain ⟨h28, E, N, O, z28⟩ := puF (k := 20) c27_0 (.ref (o + 14)) (by simp)
  rw [z27] at z28
  rw [E, bs]
  clear E
  have c28_1 := (O (o + 1) (by omega)).trans c27_1
  have c28_2 := (O (o + 2) (by omega)).trans c27_2
  have c28_3 := (O (o + 3) (by omega)).trans c27_3
  have c28_4 := (O (o + 4) (by omega)).trans c27_4
  have c28_5 := (O (o + 5) (by omega)).trans c27_5
  have c28_6 := (O (o + 6) (by omega)).trans c27_6
  have c28_7 := (O (o + 7) (by omega)).trans c27_7
  have c28_8 := (O (o + 8) (by omega)).trans c27_8
  have c28_9 := (O (o + 9) (by omega)).trans c27_9
  have c28_10 := (O (o + 10) (by omega)).trans c27_10
  have c28_11 := (O (o + 11) (by omega)).trans c27_11
  have c28_12 := (O (o + 12) (by omega)).trans c27_12
  have c28_13 := (O (o + 13) (by omega)).trans c27_13
  have c28_14 := (O (o + 14) (by omega)).trans c27_14
  have l28 : ∀ a, a < o → h28.1 a = h0.1 a := fun a ha => (O a (by omega)).trans (l27 a ha)
  have c28_0 : h28.1 (o) = some (.inl (8, [.int 0, .ref (o + 1), .ref (o + 2), .ref (o + 3), .ref (o + 4), .ref (o + 5), .ref (o + 6), .ref (o + 7), .ref (o + 8), .int 0, .int 0, .int 0, .int 0, .int 0, .ref (o + 9), .ref (o + 10), .int 0, .ref (o + 11), .ref (o + 12), .ref (o + 13), .ref (o + 14), .null, .int 0, .null, .null, .null, .int 0, .int 0, .int 0, .int 0, .null, .int 0, .int 0, .null])) := N
  clear N O
  clear c27_0 c27_1 c27_2 c27_3 c27_4 c27_5 c27_6 c27_7 c27_8 c27_9 c27_10 c27_11 c27_12 c27_13 c27_14 l27
  rw [nai_e (p := o + 15) (by rw [z28]) 100 (x := 100) rfl (by decide)]
  obtain ⟨h29, E, N, O, z29⟩ := naF z28 .int 100 (.inl fun _ => 0)
  rw [E]
  clear E
  have c29_0 := (O (o) (by omega)).trans c28_0
  have c29_1 := (O (o + 1) (by omega)).trans c28_1
  have c29_2 := (O (o + 2) (by omega)).trans c28_2
  have c29_3 := (O (o + 3) (by omega)).trans c28_3
  have c29_4 := (O (o + 4) (by omega)).trans c28_4
  have c29_5 := (O (o + 5) (by omega)).trans c28_5
  have c29_6 := (O (o + 6) (by omega)).trans c28_6
  have c29_7 := (O (o + 7) (by omega)).trans c28_7
  have c29_8 := (O (o + 8) (by omega)).trans c28_8
  have c29_9 := (O (o + 9) (by omega)).trans c28_9
  have c29_10 := (O (o + 10) (by omega)).trans c28_10
  have c29_11 := (O (o + 11) (by omega)).trans c28_11
  have c29_12 := (O (o + 12) (by omega)).trans c28_12
  have c29_13 := (O (o + 13) (by omega)).trans c28_13
  have c29_14 := (O (o + 14) (by omega)).trans c28_14
  have l29 : ∀ a, a < o → h29.1 a = h0.1 a := fun a ha => (O a (by omega)).trans (l28 a ha)
  have c29_15 := N
  clear N O
  clear c28_0 c28_1 c28_2 c28_3 c28_4 c28_5 c28_6 c28_7 c28_8 c28_9 c28_10 c28_11 c28_12 c28_13 c28_14 l28
  replace z29 : h29.2 = (o + 16, q + 2001 + 2001 + 2001 + 2001 + 36018 + 2001 + 128064 + 64 + 18 + 64 + 64 + 64 + 64 + 100 + 100) := z29
  obtain ⟨h30, E, N, O, z30⟩ := puF (k := 21) c29_0 (.ref (o + 15)) (by simp)
  rw [z29] at z30
  rw [E, bs]
  clear E
  have c30_1 := (O (o + 1) (by omega)).trans c29_1
  have c30_2 := (O (o + 2) (by omega)).trans c29_2
  have c30_3 := (O (o + 3) (by omega)).trans c29_3
  have c30_4 := (O (o + 4) (by omega)).trans c29_4
  have c30_5 := (O (o + 5) (by omega)).trans c29_5
  have c30_6 := (O (o + 6) (by omega)).trans c29_6
  have c30_7 := (O (o + 7) (by omega)).trans c29_7
  have c30_8 := (O (o + 8) (by omega)).trans c29_8
  have c30_9 := (O (o + 9) (by omega)).trans c29_9
  have c30_10 := (O (o + 10) (by omega)).trans c29_10
  have c30_11 := (O (o + 11) (by omega)).trans c29_11
  have c30_12 := (O (o + 12) (by omega)).trans c29_12
  have c30_13 := (O (o + 13) (by omega)).trans c29_13
  have c30_14 := (O (o + 14) (by omega)).trans c29_14
  have c30_15 := (O (o + 15) (by omega)).trans c29_15
  have l30 : ∀ a, a < o → h30.1 a = h0.1 a := fun a ha => (O a (by omega)).trans (l29 a ha)
  have c30_0 : h30.1 (o) = some (.inl (8, [.int 0, .ref (o + 1), .ref (o + 2), .ref (o + 3), .ref (o + 4), .ref (o + 5), .ref (o + 6), .ref (o + 7), .ref (o + 8), .int 0, .int 0, .int 0, .int 0, .int 0, .ref (o + 9), .ref (o + 10), .int 0, .ref (o + 11), .ref (o + 12), .ref (o + 13), .ref (o + 14), .ref (o + 15), .int 0, .null, .null, .null, .int 0, .int 0, .int 0, .int 0, .null, .int 0, .int 0, .null])) := N
  clear N O
  clear c29_0 c29_1 c29_2 c29_3 c29_4 c29_5 c29_6 c29_7 c29_8 c29_9 c29_10 c29_11 c29_12 c29_13 c29_14 c29_15 l29
  rw [nai_e (p := o + 16) (by rw [z30]) 10 (x := 10) rfl (by decide)]
  obtain ⟨h31, E, N, O, z31⟩ := naF z30 .int 10 (.inl fun _ => 0)
  rw [E]
  clear E
  have c31_0 := (O (o) (by omega)).trans c30_0
  have c31_1 := (O (o + 1) (by omega)).trans c30_1
  have c31_2 := (O (o + 2) (by omega)).trans c30_2
  have c31_3 := (O (o + 3) (by omega)).trans c30_3
  have c31_4 := (O (o + 4) (by omega)).trans c30_4
  have c31_5 := (O (o + 5) (by omega)).trans c30_5
  have c31_6 := (O (o + 6) (by omega)).trans c30_6
  have c31_7 := (O (o + 7) (by omega)).trans c30_7
  have c31_8 := (O (o + 8) (by omega)).trans c30_8
  have c31_9 := (O (o + 9) (by omega)).trans c30_9
  have c31_10 := (O (o + 10) (by omega)).trans c30_10
  have c31_11 := (O (o + 11) (by omega)).trans c30_11
  have c31_12 := (O (o + 12) (by omega)).trans c30_12
  have c31_13 := (O (o + 13) (by omega)).trans c30_13
  have c31_14 := (O (o + 14) (by omega)).trans c30_14
  have c31_15 := (O (o + 15) (by omega)).trans c30_15
  have l31 : ∀ a, a < o → h31.1 a = h0.1 a := fun a ha => (O a (by omega)).trans (l30 a ha)
  have c31_16 := N
  clear N O
  clear c30_0 c30_1 c30_2 c30_3 c30_4 c30_5 c30_6 c30_7 c30_8 c30_9 c30_10 c30_11 c30_12 c30_13 c30_14 c30_15 l30
  replace z31 : h31.2 = (o + 17, q + 2001 + 2001 + 2001 + 2001 + 36018 + 2001 + 128064 + 64 + 18 + 64 + 64 + 64 + 64 + 100 + 100 + 10) := z31
  obtain ⟨h32, E, N, O, z32⟩ := puF (k := 23) c31_0 (.ref (o + 16)) (by simp)
  rw [z31] at z32
  rw [E, bs]
  clear E
  have c32_1 := (O (o + 1) (by omega)).trans c31_1
  have c32_2 := (O (o + 2) (by omega)).trans c31_2
  have c32_3 := (O (o + 3) (by omega)).trans c31_3
  have c32_4 := (O (o + 4) (by omega)).trans c31_4
  have c32_5 := (O (o + 5) (by omega)).trans c31_5
  have c32_6 := (O (o + 6) (by omega)).trans c31_6
  have c32_7 := (O (o + 7) (by omega)).trans c31_7
  have c32_8 := (O (o + 8) (by omega)).trans c31_8
  have c32_9 := (O (o + 9) (by omega)).trans c31_9
  have c32_10 := (O (o + 10) (by omega)).trans c31_10
  have c32_11 := (O (o + 11) (by omega)).trans c31_11
  have c32_12 := (O (o + 12) (by omega)).trans c31_12
  have c32_13 := (O (o + 13) (by omega)).trans c31_13
  have c32_14 := (O (o + 14) (by omega)).trans c31_14
  have c32_15 := (O (o + 15) (by omega)).trans c31_15
  have c32_16 := (O (o + 16) (by omega)).trans c31_16
  have l32 : ∀ a, a < o → h32.1 a = h0.1 a := fun a ha => (O a (by omega)).trans (l31 a ha)
  have c32_0 : h32.1 (o) = some (.inl (8, [.int 0, .ref (o + 1), .ref (o + 2), .ref (o + 3), .ref (o + 4), .ref (o + 5), .ref (o + 6), .ref (o + 7), .ref (o + 8), .int 0, .int 0, .int 0, .int 0, .int 0, .ref (o + 9), .ref (o + 10), .int 0, .ref (o + 11), .ref (o + 12), .ref (o + 13), .ref (o + 14), .ref (o + 15), .int 0, .ref (o + 16), .null, .null, .int 0, .int 0, .int 0, .int 0, .null, .int 0, .int 0, .null])) := N
  clear N O
  clear c31_0 c31_1 c31_2 c31_3 c31_4 c31_5 c31_6 c31_7 c31_8 c31_9 c31_10 c31_11 c31_12 c31_13 c31_14 c31_15 c31_16 l31
  rw [nai_e (p := o + 17) (by rw [z32]) 102 (x := 102) rfl (by decide)]
  obtain ⟨h33, E, N, O, z33⟩ := naF z32 .int 102 (.inl fun _ => 0)
  rw [E]
  clear E
  have c33_0 := (O (o) (by omega)).trans c32_0
  have c33_1 := (O (o + 1) (by omega)).trans c32_1
  have c33_2 := (O (o + 2) (by omega)).trans c32_2
  have c33_3 := (O (o + 3) (by omega)).trans c32_3
  have c33_4 := (O (o + 4) (by omega)).trans c32_4
  have c33_5 := (O (o + 5) (by omega)).trans c32_5
  have c33_6 := (O (o + 6) (by omega)).trans c32_6
  have c33_7 := (O (o + 7) (by omega)).trans c32_7
  have c33_8 := (O (o + 8) (by omega)).trans c32_8
  have c33_9 := (O (o + 9) (by omega)).trans c32_9
  have c33_10 := (O (o + 10) (by omega)).trans c32_10
  have c33_11 := (O (o + 11) (by omega)).trans c32_11
  have c33_12 := (O (o + 12) (by omega)).trans c32_12
  have c33_13 := (O (o + 13) (by omega)).trans c32_13
  have c33_14 := (O (o + 14) (by omega)).trans c32_14
  have c33_15 := (O (o + 15) (by omega)).trans c32_15
  have c33_16 := (O (o + 16) (by omega)).trans c32_16
  have l33 : ∀ a, a < o → h33.1 a = h0.1 a := fun a ha => (O a (by omega)).trans (l32 a ha)
  have c33_17 := N
  clear N O
  clear c32_0 c32_1 c32_2 c32_3 c32_4 c32_5 c32_6 c32_7 c32_8 c32_9 c32_10 c32_11 c32_12 c32_13 c32_14 c32_15 c32_16 l32
  replace z33 : h33.2 = (o + 18, q + 2001 + 2001 + 2001 + 2001 + 36018 + 2001 + 128064 + 64 + 18 + 64 + 64 + 64 + 64 + 100 + 100 + 10 + 102) := z33
  obtain ⟨h34, E, N, O, z34⟩ := puF (k := 24) c33_0 (.ref (o + 17)) (by simp)
  rw [z33] at z34
  rw [E, bs]
  clear E
  have c34_1 := (O (o + 1) (by omega)).trans c33_1
  have c34_2 := (O (o + 2) (by omega)).trans c33_2
  have c34_3 := (O (o + 3) (by omega)).trans c33_3
  have c34_4 := (O (o + 4) (by omega)).trans c33_4
  have c34_5 := (O (o + 5) (by omega)).trans c33_5
  have c34_6 := (O (o + 6) (by omega)).trans c33_6
  have c34_7 := (O (o + 7) (by omega)).trans c33_7
  have c34_8 := (O (o + 8) (by omega)).trans c33_8
  have c34_9 := (O (o + 9) (by omega)).trans c33_9
  have c34_10 := (O (o + 10) (by omega)).trans c33_10
  have c34_11 := (O (o + 11) (by omega)).trans c33_11
  have c34_12 := (O (o + 12) (by omega)).trans c33_12
  have c34_13 := (O (o + 13) (by omega)).trans c33_13
  have c34_14 := (O (o + 14) (by omega)).trans c33_14
  have c34_15 := (O (o + 15) (by omega)).trans c33_15
  have c34_16 := (O (o + 16) (by omega)).trans c33_16
  have c34_17 := (O (o + 17) (by omega)).trans c33_17
  have l34 : ∀ a, a < o → h34.1 a = h0.1 a := fun a ha => (O a (by omega)).trans (l33 a ha)
  have c34_0 : h34.1 (o) = some (.inl (8, [.int 0, .ref (o + 1), .ref (o + 2), .ref (o + 3), .ref (o + 4), .ref (o + 5), .ref (o + 6), .ref (o + 7), .ref (o + 8), .int 0, .int 0, .int 0, .int 0, .int 0, .ref (o + 9), .ref (o + 10), .int 0, .ref (o + 11), .ref (o + 12), .ref (o + 13), .ref (o + 14), .ref (o + 15), .int 0, .ref (o + 16), .ref (o + 17), .null, .int 0, .int 0, .int 0, .int 0, .null, .int 0, .int 0, .null])) := N
  clear N O
  clear c33_0 c33_1 c33_2 c33_3 c33_4 c33_5 c33_6 c33_7 c33_8 c33_9 c33_10 c33_11 c33_12 c33_13 c33_14 c33_15 c33_16 c33_17 l33
  rw [nai_e (p := o + 18) (by rw [z34]) 500 (x := 500) rfl (by decide)]
  obtain ⟨h35, E, N, O, z35⟩ := naF z34 .int 500 (.inl fun _ => 0)
  rw [E]
  clear E
  have c35_0 := (O (o) (by omega)).trans c34_0
  have c35_1 := (O (o + 1) (by omega)).trans c34_1
  have c35_2 := (O (o + 2) (by omega)).trans c34_2
  have c35_3 := (O (o + 3) (by omega)).trans c34_3
  have c35_4 := (O (o + 4) (by omega)).trans c34_4
  have c35_5 := (O (o + 5) (by omega)).trans c34_5
  have c35_6 := (O (o + 6) (by omega)).trans c34_6
  have c35_7 := (O (o + 7) (by omega)).trans c34_7
  have c35_8 := (O (o + 8) (by omega)).trans c34_8
  have c35_9 := (O (o + 9) (by omega)).trans c34_9
  have c35_10 := (O (o + 10) (by omega)).trans c34_10
  have c35_11 := (O (o + 11) (by omega)).trans c34_11
  have c35_12 := (O (o + 12) (by omega)).trans c34_12
  have c35_13 := (O (o + 13) (by omega)).trans c34_13
  have c35_14 := (O (o + 14) (by omega)).trans c34_14
  have c35_15 := (O (o + 15) (by omega)).trans c34_15
  have c35_16 := (O (o + 16) (by omega)).trans c34_16
  have c35_17 := (O (o + 17) (by omega)).trans c34_17
  have l35 : ∀ a, a < o → h35.1 a = h0.1 a := fun a ha => (O a (by omega)).trans (l34 a ha)
  have c35_18 := N
  clear N O
  clear c34_0 c34_1 c34_2 c34_3 c34_4 c34_5 c34_6 c34_7 c34_8 c34_9 c34_10 c34_11 c34_12 c34_13 c34_14 c34_15 c34_16 c34_17 l34
  replace z35 : h35.2 = (o + 19, q + 2001 + 2001 + 2001 + 2001 + 36018 + 2001 + 128064 + 64 + 18 + 64 + 64 + 64 + 64 + 100 + 100 + 10 + 102 + 500) := z35
  obtain ⟨h36, E, N, O, z36⟩ := puF (k := 25) c35_0 (.ref (o + 18)) (by simp)
  rw [z35] at z36
  rw [E, bs]
  clear E
  have c36_1 := (O (o + 1) (by omega)).trans c35_1
  have c36_2 := (O (o + 2) (by omega)).trans c35_2
  have c36_3 := (O (o + 3) (by omega)).trans c35_3
  have c36_4 := (O (o + 4) (by omega)).trans c35_4
  have c36_5 := (O (o + 5) (by omega)).trans c35_5
  have c36_6 := (O (o + 6) (by omega)).trans c35_6
  have c36_7 := (O (o + 7) (by omega)).trans c35_7
  have c36_8 := (O (o + 8) (by omega)).trans c35_8
  have c36_9 := (O (o + 9) (by omega)).trans c35_9
  have c36_10 := (O (o + 10) (by omega)).trans c35_10
  have c36_11 := (O (o + 11) (by omega)).trans c35_11
  have c36_12 := (O (o + 12) (by omega)).trans c35_12
  have c36_13 := (O (o + 13) (by omega)).trans c35_13
  have c36_14 := (O (o + 14) (by omega)).trans c35_14
  have c36_15 := (O (o + 15) (by omega)).trans c35_15
  have c36_16 := (O (o + 16) (by omega)).trans c35_16
  have c36_17 := (O (o + 17) (by omega)).trans c35_17
  have c36_18 := (O (o + 18) (by omega)).trans c35_18
  have l36 : ∀ a, a < o → h36.1 a = h0.1 a := fun a ha => (O a (by omega)).trans (l35 a ha)
  have c36_0 : h36.1 (o) = some (.inl (8, [.int 0, .ref (o + 1), .ref (o + 2), .ref (o + 3), .ref (o + 4), .ref (o + 5), .ref (o + 6), .ref (o + 7), .ref (o + 8), .int 0, .int 0, .int 0, .int 0, .int 0, .ref (o + 9), .ref (o + 10), .int 0, .ref (o + 11), .ref (o + 12), .ref (o + 13), .ref (o + 14), .ref (o + 15), .int 0, .ref (o + 16), .ref (o + 17), .ref (o + 18), .int 0, .int 0, .int 0, .int 0, .null, .int 0, .int 0, .null])) := N
  clear N O
  clear c35_0 c35_1 c35_2 c35_3 c35_4 c35_5 c35_6 c35_7 c35_8 c35_9 c35_10 c35_11 c35_12 c35_13 c35_14 c35_15 c35_16 c35_17 c35_18 l35
  rw [nai_e (p := o + 19) (by rw [z36]) 64 (x := 64) rfl (by decide)]
  obtain ⟨h37, E, N, O, z37⟩ := naF z36 .int 64 (.inl fun _ => 0)
  rw [E]
  clear E
  have c37_0 := (O (o) (by omega)).trans c36_0
  have c37_1 := (O (o + 1) (by omega)).trans c36_1
  have c37_2 := (O (o + 2) (by omega)).trans c36_2
  have c37_3 := (O (o + 3) (by omega)).trans c36_3
  have c37_4 := (O (o + 4) (by omega)).trans c36_4
  have c37_5 := (O (o + 5) (by omega)).trans c36_5
  have c37_6 := (O (o + 6) (by omega)).trans c36_6
  have c37_7 := (O (o + 7) (by omega)).trans c36_7
  have c37_8 := (O (o + 8) (by omega)).trans c36_8
  have c37_9 := (O (o + 9) (by omega)).trans c36_9
  have c37_10 := (O (o + 10) (by omega)).trans c36_10
  have c37_11 := (O (o + 11) (by omega)).trans c36_11
  have c37_12 := (O (o + 12) (by omega)).trans c36_12
  have c37_13 := (O (o + 13) (by omega)).trans c36_13
  have c37_14 := (O (o + 14) (by omega)).trans c36_14
  have c37_15 := (O (o + 15) (by omega)).trans c36_15
  have c37_16 := (O (o + 16) (by omega)).trans c36_16
  have c37_17 := (O (o + 17) (by omega)).trans c36_17
  have c37_18 := (O (o + 18) (by omega)).trans c36_18
  have l37 : ∀ a, a < o → h37.1 a = h0.1 a := fun a ha => (O a (by omega)).trans (l36 a ha)
  have c37_19 := N
  clear N O
  clear c36_0 c36_1 c36_2 c36_3 c36_4 c36_5 c36_6 c36_7 c36_8 c36_9 c36_10 c36_11 c36_12 c36_13 c36_14 c36_15 c36_16 c36_17 c36_18 l36
  replace z37 : h37.2 = (o + 20, q + 2001 + 2001 + 2001 + 2001 + 36018 + 2001 + 128064 + 64 + 18 + 64 + 64 + 64 + 64 + 100 + 100 + 10 + 102 + 500 + 64) := z37
  obtain ⟨h38, E, N, O, z38⟩ := puF (k := 30) c37_0 (.ref (o + 19)) (by simp)
  rw [z37] at z38
  rw [E, bs]
  clear E
  have c38_1 := (O (o + 1) (by omega)).trans c37_1
  have c38_2 := (O (o + 2) (by omega)).trans c37_2
  have c38_3 := (O (o + 3) (by omega)).trans c37_3
  have c38_4 := (O (o + 4) (by omega)).trans c37_4
  have c38_5 := (O (o + 5) (by omega)).trans c37_5
  have c38_6 := (O (o + 6) (by omega)).trans c37_6
  have c38_7 := (O (o + 7) (by omega)).trans c37_7
  have c38_8 := (O (o + 8) (by omega)).trans c37_8
  have c38_9 := (O (o + 9) (by omega)).trans c37_9
  have c38_10 := (O (o + 10) (by omega)).trans c37_10
  have c38_11 := (O (o + 11) (by omega)).trans c37_11
  have c38_12 := (O (o + 12) (by omega)).trans c37_12
  have c38_13 := (O (o + 13) (by omega)).trans c37_13
  have c38_14 := (O (o + 14) (by omega)).trans c37_14
  have c38_15 := (O (o + 15) (by omega)).trans c37_15
  have c38_16 := (O (o + 16) (by omega)).trans c37_16
  have c38_17 := (O (o + 17) (by omega)).trans c37_17
  have c38_18 := (O (o + 18) (by omega)).trans c37_18
  have c38_19 := (O (o + 19) (by omega)).trans c37_19
  have l38 : ∀ a, a < o → h38.1 a = h0.1 a := fun a ha => (O a (by omega)).trans (l37 a ha)
  have c38_0 : h38.1 (o) = some (.inl (8, [.int 0, .ref (o + 1), .ref (o + 2), .ref (o + 3), .ref (o + 4), .ref (o + 5), .ref (o + 6), .ref (o + 7), .ref (o + 8), .int 0, .int 0, .int 0, .int 0, .int 0, .ref (o + 9), .ref (o + 10), .int 0, .ref (o + 11), .ref (o + 12), .ref (o + 13), .ref (o + 14), .ref (o + 15), .int 0, .ref (o + 16), .ref (o + 17), .ref (o + 18), .int 0, .int 0, .int 0, .int 0, .ref (o + 19), .int 0, .int 0, .null])) := N
  clear N O
  clear c37_0 c37_1 c37_2 c37_3 c37_4 c37_5 c37_6 c37_7 c37_8 c37_9 c37_10 c37_11 c37_12 c37_13 c37_14 c37_15 c37_16 c37_17 c37_18 c37_19 l37
  rw [nai_e (p := o + 20) (by rw [z38]) 500 (x := 500) rfl (by decide)]
  obtain ⟨h39, E, N, O, z39⟩ := naF z38 .int 500 (.inl fun _ => 0)
  rw [E]
  clear E
  have c39_0 := (O (o) (by omega)).trans c38_0
  have c39_1 := (O (o + 1) (by omega)).trans c38_1
  have c39_2 := (O (o + 2) (by omega)).trans c38_2
  have c39_3 := (O (o + 3) (by omega)).trans c38_3
  have c39_4 := (O (o + 4) (by omega)).trans c38_4
  have c39_5 := (O (o + 5) (by omega)).trans c38_5
  have c39_6 := (O (o + 6) (by omega)).trans c38_6
  have c39_7 := (O (o + 7) (by omega)).trans c38_7
  have c39_8 := (O (o + 8) (by omega)).trans c38_8
  have c39_9 := (O (o + 9) (by omega)).trans c38_9
  have c39_10 := (O (o + 10) (by omega)).trans c38_10
  have c39_11 := (O (o + 11) (by omega)).trans c38_11
  have c39_12 := (O (o + 12) (by omega)).trans c38_12
  have c39_13 := (O (o + 13) (by omega)).trans c38_13
  have c39_14 := (O (o + 14) (by omega)).trans c38_14
  have c39_15 := (O (o + 15) (by omega)).trans c38_15
  have c39_16 := (O (o + 16) (by omega)).trans c38_16
  have c39_17 := (O (o + 17) (by omega)).trans c38_17
  have c39_18 := (O (o + 18) (by omega)).trans c38_18
  have c39_19 := (O (o + 19) (by omega)).trans c38_19
  have l39 : ∀ a, a < o → h39.1 a = h0.1 a := fun a ha => (O a (by omega)).trans (l38 a ha)
  have c39_20 := N
  clear N O
  clear c38_0 c38_1 c38_2 c38_3 c38_4 c38_5 c38_6 c38_7 c38_8 c38_9 c38_10 c38_11 c38_12 c38_13 c38_14 c38_15 c38_16 c38_17 c38_18 c38_19 l38
  replace z39 : h39.2 = (o + 21, q + 2001 + 2001 + 2001 + 2001 + 36018 + 2001 + 128064 + 64 + 18 + 64 + 64 + 64 + 64 + 100 + 100 + 10 + 102 + 500 + 64 + 500) := z39
  obtain ⟨h40, E, N, O, z40⟩ := puF (k := 33) c39_0 (.ref (o + 20)) (by simp)
  rw [z39] at z40
  rw [E, bs]
  clear E
  have c40_1 := (O (o + 1) (by omega)).trans c39_1
  have c40_2 := (O (o + 2) (by omega)).trans c39_2
  have c40_3 := (O (o + 3) (by omega)).trans c39_3
  have c40_4 := (O (o + 4) (by omega)).trans c39_4
  have c40_5 := (O (o + 5) (by omega)).trans c39_5
  have c40_6 := (O (o + 6) (by omega)).trans c39_6
  have c40_7 := (O (o + 7) (by omega)).trans c39_7
  have c40_8 := (O (o + 8) (by omega)).trans c39_8
  have c40_9 := (O (o + 9) (by omega)).trans c39_9
  have c40_10 := (O (o + 10) (by omega)).trans c39_10
  have c40_11 := (O (o + 11) (by omega)).trans c39_11
  have c40_12 := (O (o + 12) (by omega)).trans c39_12
  have c40_13 := (O (o + 13) (by omega)).trans c39_13
  have c40_14 := (O (o + 14) (by omega)).trans c39_14
  have c40_15 := (O (o + 15) (by omega)).trans c39_15
  have c40_16 := (O (o + 16) (by omega)).trans c39_16
  have c40_17 := (O (o + 17) (by omega)).trans c39_17
  have c40_18 := (O (o + 18) (by omega)).trans c39_18
  have c40_19 := (O (o + 19) (by omega)).trans c39_19
  have c40_20 := (O (o + 20) (by omega)).trans c39_20
  have l40 : ∀ a, a < o → h40.1 a = h0.1 a := fun a ha => (O a (by omega)).trans (l39 a ha)
  have c40_0 : h40.1 (o) = some (.inl (8, [.int 0, .ref (o + 1), .ref (o + 2), .ref (o + 3), .ref (o + 4), .ref (o + 5), .ref (o + 6), .ref (o + 7), .ref (o + 8), .int 0, .int 0, .int 0, .int 0, .int 0, .ref (o + 9), .ref (o + 10), .int 0, .ref (o + 11), .ref (o + 12), .ref (o + 13), .ref (o + 14), .ref (o + 15), .int 0, .ref (o + 16), .ref (o + 17), .ref (o + 18), .int 0, .int 0, .int 0, .int 0, .ref (o + 19), .int 0, .int 0, .ref (o + 20)])) := N
  clear N O
  clear c39_0 c39_1 c39_2 c39_3 c39_4 c39_5 c39_6 c39_7 c39_8 c39_9 c39_10 c39_11 c39_12 c39_13 c39_14 c39_15 c39_16 c39_17 c39_18 c39_19 c39_20 l39
  exact ⟨h40, rfl, ⟨c40_0, c40_1, c40_2, c40_3, c40_4, c40_5, c40_6, c40_7, c40_8, c40_9, c40_10, c40_11, c40_12, c40_13, c40_14, c40_15, c40_16, c40_17, c40_18, c40_19, c40_20⟩, l40, z40⟩
