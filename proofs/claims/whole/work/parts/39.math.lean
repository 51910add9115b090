/-! DIGITS: the k-th digit of a number, the number of a row of digits -/
def dg (n k : Nat) : Nat := n / 10 ^ k % 10
theorem dg_lt (n k : Nat) : dg n k < 10 := Nat.mod_lt _ (by decide)
theorem dg_0 (n : Nat) : dg n 0 = n % 10 := by simp [dg]
theorem dg_s (n k : Nat) : dg n (k + 1) = dg (n / 10) k := by
  unfold dg
  rw [Nat.pow_succ, Nat.mul_comm, Nat.div_div_eq_div_mul]
theorem dg_zero (k : Nat) : dg 0 k = 0 := by simp [dg]
theorem dg_ext : ∀ {N n m : Nat}, n < 10 ^ N → m < 10 ^ N → (∀ k, k < N → dg n k = dg m k) → n = m
  | 0, n, m, hn, hm, _ => by simp at hn hm; omega
  | N + 1, n, m, hn, hm, h => by
    have e0 := h 0 (Nat.succ_pos N)
    rw [dg_0, dg_0] at e0
    have hp : 10 ^ (N + 1) = 10 * 10 ^ N := by rw [Nat.pow_succ, Nat.mul_comm]
    have e1 : n / 10 = m / 10 := dg_ext (N := N) (by omega) (by omega) (fun k hk => by rw [← dg_s, ← dg_s]; exact h (k + 1) (by omega))
    omega
theorem dg_big {N n k : Nat} (hn : n < 10 ^ N) (hk : N ≤ k) : dg n k = 0 := by
  unfold dg
  have h1 : 10 ^ N ≤ 10 ^ k := Nat.pow_le_pow_right (by decide) hk
  rw [Nat.div_eq_of_lt (by omega)]
def rv (f : Nat → Nat) : Nat → Nat
  | 0 => 0
  | N + 1 => rv f N + f N * 10 ^ N
theorem rv_lt {f : Nat → Nat} : ∀ {N : Nat}, (∀ k, k < N → f k < 10) → rv f N < 10 ^ N
  | 0, _ => by simp [rv]
  | N + 1, h => by
    have h1 := rv_lt (N := N) (fun k hk => h k (by omega))
    have h2 := h N (by omega)
    have hp : 10 ^ (N + 1) = 10 ^ N * 10 := Nat.pow_succ 10 N
    have h3 : f N * 10 ^ N ≤ 9 * 10 ^ N := Nat.mul_le_mul_right _ (by omega)
    show rv f N + f N * 10 ^ N < 10 ^ (N + 1)
    omega
theorem rv_congr {f g : Nat → Nat} : ∀ {N : Nat}, (∀ k, k < N → f k = g k) → rv f N = rv g N
  | 0, _ => rfl
  | N + 1, h => by
    show rv f N + f N * 10 ^ N = rv g N + g N * 10 ^ N
    rw [rv_congr (N := N) (fun k hk => h k (by omega)), h N (by omega)]
theorem rv_dg : ∀ {N n : Nat}, rv (dg n) N = n % 10 ^ N
  | 0, n => by simp [rv, Nat.mod_one]
  | N + 1, n => by
    show rv (dg n) N + dg n N * 10 ^ N = n % 10 ^ (N + 1)
    rw [rv_dg (N := N), Nat.pow_succ, Nat.mod_mul]
    unfold dg
    rw [Nat.mul_comm (10 ^ N)]
theorem rv_dg' {N n : Nat} (h : n < 10 ^ N) : rv (dg n) N = n := by rw [rv_dg, Nat.mod_eq_of_lt h]
theorem dg_rv {f : Nat → Nat} {N k : Nat} (h : ∀ k, k < N → f k < 10) (hk : k < N) : dg (rv f N) k = f k := by
  induction N with
  | zero => omega
  | succ N ih =>
    have h1 := rv_lt (f := f) (N := N) (fun k hk => h k (by omega))
    show dg (rv f N + f N * 10 ^ N) k = f k
    by_cases e : k = N
    · subst e
      unfold dg
      rw [Nat.add_mul_div_right _ _ (Nat.pow_pos (by decide)), Nat.div_eq_of_lt h1, Nat.zero_add]
      exact Nat.mod_eq_of_lt (h k (by omega))
    · have hk2 : k < N := by omega
      rw [← ih (fun k hk => h k (by omega)) hk2]
      unfold dg
      obtain ⟨d, hd⟩ : ∃ d, N = k + 1 + d := ⟨N - (k + 1), by omega⟩
      have hpw : 10 ^ N = 10 ^ d * 10 * 10 ^ k := by
        rw [hd, Nat.pow_add, Nat.pow_succ, Nat.mul_comm, Nat.mul_comm (10 ^ k) 10, ← Nat.mul_assoc]
      have hp : f N * 10 ^ N = (f N * 10 ^ d * 10) * 10 ^ k := by
        rw [hpw, Nat.mul_assoc (f N), ← Nat.mul_assoc (f N)]
      rw [hp, Nat.add_mul_div_right _ _ (Nat.pow_pos (by decide)), Nat.add_mul_mod_self_right]
theorem rv_ext {f g : Nat → Nat} {N : Nat} (hf : ∀ k, k < N → f k < 10) (hg : ∀ k, k < N → g k < 10) (e : rv f N = rv g N) (k : Nat) (hk : k < N) : f k = g k := by
  rw [← dg_rv hf hk, ← dg_rv hg hk, e]
theorem rv_zero {N : Nat} : rv (fun _ => 0) N = 0 := by
  induction N with
  | zero => rfl
  | succ N ih => show rv _ N + 0 * 10 ^ N = 0; rw [ih]; simp
/-- a sign as the machine holds it -/
def sgI (z : Int) : Int32 := if z < 0 then -1 else if z = 0 then 0 else 1
theorem sgI_inj {a b : Int} (h : sgI a = sgI b) : (a < 0 ↔ b < 0) ∧ (a = 0 ↔ b = 0) := by
  unfold sgI at h
  by_cases a1 : a < 0 <;> by_cases b1 : b < 0 <;> by_cases a2 : a = 0 <;> by_cases b2 : b = 0 <;> simp [a1, b1, a2, b2] at h ⊢ <;> first | omega | (exact absurd h (by decide))
theorem sg_ext {a b : Int} (h : sgI a = sgI b) (hn : a.natAbs = b.natAbs) : a = b := by
  have := sgI_inj h
  omega
