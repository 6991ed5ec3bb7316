/-! pure: twos and common divisors -/
theorem od_cop {a o : Nat} (h : o % 2 = 1) : Nat.Coprime (2 ^ a) o := by
  refine Nat.Coprime.pow_left a ?_
  show Nat.gcd 2 o = 1
  rw [Nat.gcd_rec, h]
  rfl
/-- two numbers of which one is odd: their common divisors are those of their odd parts -/
theorem gc_odd {a b o1 o2 : Nat} (h1 : o1 % 2 = 1) (h2 : o2 % 2 = 1) (h : a = 0 ∨ b = 0) : Nat.gcd (2 ^ a * o1) (2 ^ b * o2) = Nat.gcd o1 o2 := by
  rcases h with rfl | rfl
  · rw [Nat.pow_zero, Nat.one_mul]
    exact Nat.Coprime.gcd_mul_left_cancel_right o2 (od_cop h1)
  · rw [Nat.pow_zero, Nat.one_mul]
    exact Nat.Coprime.gcd_mul_left_cancel o1 (od_cop h2)
/-- one step: the greater less the other, its twos dropped -/
theorem gc_step {x y t z : Nat} (hy : y % 2 = 1) (hle : y ≤ x) (h : x - y = 2 ^ t * z) : Nat.gcd z y = Nat.gcd x y := by
  have e : Nat.gcd (2 ^ t * z) y = Nat.gcd z y := Nat.Coprime.gcd_mul_left_cancel z (od_cop hy)
  rw [← e, ← h]
  rw [Nat.gcd_sub_self_left hle]
theorem gc_half {x y t z : Nat} (ht : 0 < t) (hy : 0 < y) (hle : y ≤ x) (h : x - y = 2 ^ t * z) : 2 * (z * y) < x * y := by
  obtain ⟨u, rfl⟩ : ∃ u, t = u + 1 := ⟨t - 1, by omega⟩
  have h1 : 2 * z ≤ x - y := by
    rw [h, Nat.pow_succ, Nat.mul_assoc]
    exact Nat.le_mul_of_pos_left (2 * z) (Nat.pow_pos (by omega))
  have h2 : 2 * z < x := by omega
  have h3 : 2 * z * y < x * y := (Nat.mul_lt_mul_right hy).mpr h2
  rw [Nat.mul_assoc] at h3
  exact h3
/-- least terms are one pair -/
theorem lt_uniq {A B A' B' a b : Nat} (hB : 0 < B) (hb : 0 < b) (hc : Nat.gcd a b = 1) (hc' : Nat.gcd A' B' = 1) (hB' : 0 < B') (h : A * b = a * B) (h' : A * B' = A' * B) : A' = a ∧ B' = b := by
  have e : A' * b = a * B' := by
    have h1 : B * (A' * b) = B * (a * B') := by
      have h2 : B * (A' * b) = A' * B * b := by grind
      have h3 : B * (a * B') = a * B * B' := by grind
      rw [h2, h3, ← h', ← h]
      grind
    exact Nat.eq_of_mul_eq_mul_left hB h1
  have d1 : b ∣ B' := by
    have h1 : b ∣ a * B' := ⟨A', by rw [← e]; exact Nat.mul_comm _ _⟩
    exact Nat.Coprime.dvd_of_dvd_mul_left (show Nat.Coprime b a by rw [Nat.Coprime, Nat.gcd_comm]; exact hc) h1
  have d2 : B' ∣ b := by
    have h1 : B' ∣ A' * b := ⟨a, by rw [e]; exact Nat.mul_comm _ _⟩
    exact Nat.Coprime.dvd_of_dvd_mul_left (show Nat.Coprime B' A' by rw [Nat.Coprime, Nat.gcd_comm]; exact hc') h1
  have eb : B' = b := Nat.dvd_antisymm d2 d1
  refine ⟨?_, eb⟩
  rw [eb] at e
  exact Nat.eq_of_mul_eq_mul_right hb e
/-! exact division from the lowest digit -/
theorem ed_digit {d q inv R k : Nat} (hi : d * inv % 2147483648 = 1) (hR : R = d * (q / 2147483648 ^ k)) : R % 2147483648 * inv % 2147483648 = dg q k := by
  unfold dg
  generalize q / 2147483648 ^ k = z at hR ⊢
  subst hR
  rw [Nat.mod_mul_mod, show d * z * inv = d * inv * z by grind, Nat.mul_mod, hi, Nat.one_mul, Nat.mod_mod]
theorem ed_next {d q R k : Nat} (hR : R = d * (q / 2147483648 ^ k)) : R - d * dg q k = d * (q / 2147483648 ^ (k + 1)) * 2147483648 ∧ d * dg q k ≤ R := by
  have e : q / 2147483648 ^ k = q / 2147483648 ^ (k + 1) * 2147483648 + dg q k := by
    unfold dg
    rw [Nat.pow_succ, ← Nat.div_div_eq_div_mul]
    have := Nat.div_add_mod (q / 2147483648 ^ k) 2147483648
    omega
  have e2 : R = d * (q / 2147483648 ^ (k + 1)) * 2147483648 + d * dg q k := by
    rw [hR, e, Nat.mul_add, Nat.mul_assoc]
  omega
