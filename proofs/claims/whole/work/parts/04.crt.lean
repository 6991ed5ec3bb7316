/-! pure: remainders put together -/
theorem cr_one {P p x T c : Nat} (hP : 0 < P) (hc : Nat.Coprime P p) (hx : x = T % P) (hcp : c < p) (hm : (x + P * c) % p = T % p) : x + P * c = T % (P * p) := by
  have hp : 0 < p := by omega
  have hPp : 0 < P * p := Nat.mul_pos hP hp
  have h1 : (x + P * c) % P = (T % (P * p)) % P := by rw [Nat.mod_mul_right_mod, Nat.add_mul_mod_self_left, hx, Nat.mod_mod]
  have h2 : (x + P * c) % p = (T % (P * p)) % p := by rw [Nat.mod_mul_left_mod, hm]
  have hlt : T % (P * p) < P * p := Nat.mod_lt _ hPp
  have hxlt : x < P := by rw [hx]; exact Nat.mod_lt _ hP
  have hylt : x + P * c < P * p := by
    have h3 : P * c + P ≤ P * p := by
      have h4 : P * (c + 1) ≤ P * p := Nat.mul_le_mul_left P hcp
      rw [Nat.mul_add, Nat.mul_one] at h4
      exact h4
    omega
  generalize T % (P * p) = t at h1 h2 hlt ⊢
  generalize x + P * c = y at h1 h2 hylt ⊢
  have key : ∀ a b : Nat, a % P = b % P → a % p = b % p → b ≤ a → a < P * p → a = b := by
    intro a b e1 e2 hle ha
    have d1 : P ∣ a - b := Nat.dvd_of_mod_eq_zero (Nat.sub_mod_eq_zero_of_mod_eq e1)
    have d2 : p ∣ a - b := Nat.dvd_of_mod_eq_zero (Nat.sub_mod_eq_zero_of_mod_eq e2)
    have d3 : P * p ∣ a - b := Nat.Coprime.mul_dvd_of_dvd_of_dvd hc d1 d2
    rcases Nat.eq_zero_or_pos (a - b) with q | q
    · omega
    · have h9 := Nat.le_of_dvd q d3
      omega
  rcases Nat.le_total t y with q | q
  · exact key y t h1 h2 q hylt
  · exact (key t y h1.symm h2.symm q hlt).symm
/-- what is to be added: by the gap, times what undoes P -/
theorem cr_gap {P p x due gap inv : Nat} (hg : (x % p + gap) % p = due % p) (hi : (P % p) * inv % p = 1) : (x + P * (gap * inv % p)) % p = due % p := by
  have e1 : P * (gap * inv % p) % p = gap % p := by
    rw [Nat.mul_mod, Nat.mod_mod, ← Nat.mul_mod]
    have e2 : P * (gap * inv) = gap * (P * inv) := by
      rw [Nat.mul_left_comm]
    rw [e2, Nat.mul_mod, Nat.mul_mod P inv]
    rw [← Nat.mod_mul_mod] at hi
    have e3 : P % p * (inv % p) % p = 1 := by
      rw [← Nat.mul_mod]
      rw [Nat.mul_mod, Nat.mod_mod] at hi
      rw [Nat.mul_mod]
      simpa using hi
    rw [e3, Nat.mul_one, Nat.mod_mod]
  rw [Nat.add_mod, e1, ← Nat.add_mod]
  rw [← hg, Nat.add_mod x gap, Nat.add_mod (x % p) gap, Nat.mod_mod]
/-- two primes -/
theorem pr_cop {p q : Nat} (hp : pr_ p) (hq : pr_ q) (h : p ≠ q) : Nat.Coprime p q := by
  rcases hp.2 (Nat.gcd p q) (Nat.gcd_dvd_left p q) with c | c
  · exact c
  · exfalso
    have h1 : p ∣ q := by rw [← c]; exact Nat.gcd_dvd_right p q
    rcases hq.2 p h1 with e | e
    · have := hp.1; omega
    · exact h e
/-! digits of 31 places -/
def dg (N k : Nat) : Nat := N / 2147483648 ^ k % 2147483648
theorem dg_lt (N k : Nat) : dg N k < 2147483648 := Nat.mod_lt _ (by omega)
theorem bs_pos (k : Nat) : 0 < 2147483648 ^ k := Nat.pow_pos (by omega)
theorem dg_lo (N k : Nat) : N % 2147483648 ^ (k + 1) = N % 2147483648 ^ k + dg N k * 2147483648 ^ k := by
  unfold dg
  rw [Nat.pow_succ, Nat.mod_mul]
  rw [Nat.mul_comm]
theorem dg_hi {N k : Nat} (h : N < 2147483648 ^ k) : dg N k = 0 := by
  unfold dg
  rw [Nat.div_eq_of_lt h]
/-- numbers by their first k digits -/
theorem dg_ext : ∀ (k : Nat) {M N : Nat}, (∀ j, j < k → dg M j = dg N j) → M % 2147483648 ^ k = N % 2147483648 ^ k
  | 0, _, _, _ => by simp [Nat.mod_one]
  | k + 1, M, N, h => by rw [dg_lo, dg_lo, dg_ext k (fun j hj => h j (by omega)), h k (by omega)]
/-- one step of a sum: what lies below place k is X, its carry X / B ^ k; the digit s comes -/
theorem dg_step {X s k : Nat} : (X + s * 2147483648 ^ k) / 2147483648 ^ (k + 1) = (X / 2147483648 ^ k + s) / 2147483648 := by
  rw [Nat.pow_succ, ← Nat.div_div_eq_div_mul, Nat.add_mul_div_right _ _ (bs_pos k)]
theorem dg_of {Z X s k : Nat} (h : Z % 2147483648 ^ (k + 1) = (X + s * 2147483648 ^ k) % 2147483648 ^ (k + 1)) : dg Z k = (X / 2147483648 ^ k + s) % 2147483648 := by
  have e : ∀ Y : Nat, dg Y k = Y % 2147483648 ^ (k + 1) / 2147483648 ^ k := by
    intro Y
    unfold dg
    rw [Nat.pow_succ, Nat.mod_mul_right_div_self]
  rw [e, h, ← e]
  unfold dg
  rw [Nat.add_mul_div_right _ _ (bs_pos k)]
/-- numbers plus multiples, digit by digit -/
theorem dg_am {N M f k : Nat} : dg (N + M * f) k = ((N % 2147483648 ^ k + M % 2147483648 ^ k * f) / 2147483648 ^ k + (dg N k + dg M k * f)) % 2147483648 := by
  refine dg_of ?_
  have e1 := dg_lo N k
  have e2 := dg_lo M k
  have e3 : N % 2147483648 ^ k + M % 2147483648 ^ k * f + (dg N k + dg M k * f) * 2147483648 ^ k = N % 2147483648 ^ (k + 1) + M % 2147483648 ^ (k + 1) * f := by
    rw [e1, e2]
    simp only [Nat.add_mul]
    have e4 : dg M k * f * 2147483648 ^ k = dg M k * 2147483648 ^ k * f := by rw [Nat.mul_right_comm]
    omega
  have e5 : ∀ Q : Nat, (N + M * f) % Q = (N % Q + M % Q * f) % Q := fun Q => by rw [Nat.add_mod (N % Q), Nat.mod_mod, Nat.mod_mul_mod, ← Nat.add_mod]
  rw [e3]
  exact e5 _
theorem dg_amc {N M f k : Nat} : (N % 2147483648 ^ (k + 1) + M % 2147483648 ^ (k + 1) * f) / 2147483648 ^ (k + 1) = ((N % 2147483648 ^ k + M % 2147483648 ^ k * f) / 2147483648 ^ k + (dg N k + dg M k * f)) / 2147483648 := by
  rw [← dg_step]
  congr 1
  rw [dg_lo N k, dg_lo M k]
  simp only [Nat.add_mul]
  have e4 : dg M k * f * 2147483648 ^ k = dg M k * 2147483648 ^ k * f := by rw [Nat.mul_right_comm]
  omega
