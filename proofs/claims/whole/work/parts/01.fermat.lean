/-! pure: primes by trial division, Fermat -/
/-- trial division by lo, lo + 2, .. : 2 ^ k of them -/
def tp_chk (p : Nat) : Nat → Nat → Bool
  | 0, lo => !(p % lo == 0)
  | k + 1, lo => tp_chk p k lo && tp_chk p k (lo + 2 * 2 ^ k)
theorem tp_spec (p : Nat) : ∀ (k lo : Nat), tp_chk p k lo = true → ∀ i, i < 2 ^ k → ¬ p % (lo + 2 * i) = 0
  | 0, lo, h, i, hi => by
    have hi0 : i = 0 := by simp at hi; exact hi
    subst hi0
    simpa [tp_chk] using h
  | k + 1, lo, h, i, hi => by
    have hh : tp_chk p k lo = true ∧ tp_chk p k (lo + 2 * 2 ^ k) = true := by simpa [tp_chk] using h
    have h3 : 2 ^ (k + 1) = 2 ^ k + 2 ^ k := by rw [Nat.pow_succ]; omega
    by_cases c : i < 2 ^ k
    · exact tp_spec p k lo hh.1 i c
    · have h2 : i - 2 ^ k < 2 ^ k := by omega
      have h4 := tp_spec p k (lo + 2 * 2 ^ k) hh.2 (i - 2 ^ k) h2
      have e : lo + 2 * 2 ^ k + 2 * (i - 2 ^ k) = lo + 2 * i := by omega
      rw [e] at h4
      exact h4
def pr_ (p : Nat) : Prop := 2 ≤ p ∧ ∀ d, d ∣ p → d = 1 ∨ d = p
theorem tp_prime {p : Nat} (h0 : 3 < p) (hp : p < 2 ^ 31) (h2 : p % 2 = 1) (h : tp_chk p 15 3 = true) : pr_ p := by
  have key : ∀ a b, p = a * b → a ≤ b → a = 1 := by
    intro a b hab hle
    have ha : a < 65536 := by
      rcases Nat.lt_or_ge a 65536 with q | q
      · exact q
      · have h9 : 65536 * 65536 ≤ a * b := Nat.mul_le_mul q (Nat.le_trans q hle)
        omega
    have hodd : a % 2 = 1 := by
      rcases Nat.mod_two_eq_zero_or_one a with q | q
      · have h9 : p % 2 = 0 := by rw [hab, Nat.mul_mod, q]; simp
        omega
      · exact q
    rcases Nat.lt_or_ge a 3 with q | q
    · omega
    · have hs := tp_spec p 15 3 h ((a - 3) / 2) (by omega)
      have e1 : 3 + 2 * ((a - 3) / 2) = a := by omega
      rw [e1] at hs
      exact absurd (by rw [hab]; exact Nat.mul_mod_right a b) hs
  refine ⟨by omega, fun d hd => ?_⟩
  obtain ⟨e, he⟩ := hd
  rcases Nat.le_total d e with q | q
  · exact Or.inl (key d e he q)
  · have h9 := key e d (by rw [he, Nat.mul_comm]) q
    subst h9
    right
    omega
theorem pr_dvd {p a b : Nat} (hp : pr_ p) (h : p ∣ a * b) : p ∣ a ∨ p ∣ b := by
  rcases hp.2 (Nat.gcd p a) (Nat.gcd_dvd_left p a) with q | q
  · right
    exact Nat.Coprime.dvd_of_dvd_mul_left (show Nat.Coprime p a from q) h
  · left
    rw [← q]
    exact Nat.gcd_dvd_right p a
def bi_ : Nat → Nat → Nat
  | _, 0 => 1
  | 0, _ + 1 => 0
  | n + 1, k + 1 => bi_ n k + bi_ n (k + 1)
theorem bi_0 (n : Nat) : bi_ n 0 = 1 := by cases n <;> rfl
theorem bi_s (n k : Nat) : bi_ (n + 1) (k + 1) = bi_ n k + bi_ n (k + 1) := rfl
theorem bi_big : ∀ (n k : Nat), n < k → bi_ n k = 0
  | _, 0, h => absurd h (Nat.not_lt_zero _)
  | 0, _ + 1, _ => rfl
  | n + 1, k + 1, h => by rw [bi_s, bi_big n k (by omega), bi_big n (k + 1) (by omega)]
theorem bi_self : ∀ n : Nat, bi_ n n = 1
  | 0 => rfl
  | n + 1 => by rw [bi_s, bi_self n, bi_big n (n + 1) (by omega)]
theorem bi_mul : ∀ (n k : Nat), (k + 1) * bi_ (n + 1) (k + 1) = (n + 1) * bi_ n k
  | 0, 0 => by simp [bi_]
  | 0, k + 1 => by simp [bi_]
  | n + 1, 0 => by
    have h := bi_mul n 0
    rw [bi_0] at h
    rw [bi_s (n + 1) 0, bi_0]
    omega
  | n + 1, k + 1 => by
    have h1 := bi_mul n k
    have h2 := bi_mul n (k + 1)
    rw [bi_s (n + 1) (k + 1)]
    rw [bi_s n k] at h1 ⊢
    generalize bi_ (n + 1) (k + 1 + 1) = z at h2 ⊢
    generalize bi_ n k = x at h1 ⊢
    generalize bi_ n (k + 1) = y at h1 h2 ⊢
    simp only [Nat.add_mul, Nat.mul_add, Nat.one_mul] at h1 h2 ⊢
    omega
def bt_ (n a : Nat) : Nat → Nat
  | 0 => 0
  | m + 1 => bt_ n a m + bi_ n m * a ^ m
theorem bt_s (n a m : Nat) : bt_ n a (m + 1) = bt_ n a m + bi_ n m * a ^ m := rfl
theorem bt_rec (n a : Nat) : ∀ m : Nat, bt_ (n + 1) a (m + 1) = a * bt_ n a m + bt_ n a (m + 1)
  | 0 => by rw [bt_s, bt_s, bi_0, bi_0]; simp [bt_]
  | m + 1 => by
    have ih := bt_rec n a m
    have e5 : a * (bi_ n m * a ^ m) = bi_ n m * a ^ (m + 1) := by rw [Nat.pow_succ, Nat.mul_left_comm, Nat.mul_comm a]
    have e6 : a * bt_ n a (m + 1) = a * bt_ n a m + bi_ n m * a ^ (m + 1) := by rw [bt_s n a m, Nat.mul_add, e5]
    have e1 := bt_s (n + 1) a (m + 1)
    have e2 := bt_s n a (m + 1)
    rw [bi_s, Nat.add_mul] at e1
    omega
theorem bt_pow (a : Nat) : ∀ n : Nat, bt_ n a (n + 1) = (a + 1) ^ n
  | 0 => by simp [bt_, bi_]
  | n + 1 => by
    have e : bt_ n a (n + 1 + 1) = bt_ n a (n + 1) := by rw [bt_s n a (n + 1), bi_big n (n + 1) (by omega)]; simp
    rw [bt_rec, e, bt_pow a n, Nat.pow_succ, Nat.mul_add, Nat.mul_one, Nat.mul_comm]
theorem bi_dvd {p k : Nat} (hp : pr_ p) (hk : k + 1 < p) : p ∣ bi_ p (k + 1) := by
  obtain ⟨q, rfl⟩ : ∃ q, p = q + 1 := ⟨p - 1, by have := hp.1; omega⟩
  have h := bi_mul q k
  have h1 : q + 1 ∣ (k + 1) * bi_ (q + 1) (k + 1) := ⟨bi_ q k, h⟩
  rcases pr_dvd hp h1 with c | c
  · exact absurd (Nat.le_of_dvd (by omega) c) (by omega)
  · exact c
theorem bt_mod {p : Nat} (hp : pr_ p) (a : Nat) : ∀ m : Nat, m < p → bt_ p a (m + 1) % p = 1 % p
  | 0, _ => by rw [bt_s, bi_0]; simp [bt_]
  | m + 1, hm => by
    have ih := bt_mod hp a m (by omega)
    obtain ⟨z, hz⟩ := bi_dvd hp hm
    rw [bt_s p a (m + 1), hz, Nat.mul_assoc, Nat.add_mul_mod_self_left]
    exact ih
theorem fe_ {p : Nat} (hp : pr_ p) : ∀ a : Nat, a ^ p % p = a % p
  | 0 => by rw [Nat.zero_pow (by have := hp.1; omega)]
  | a + 1 => by
    have ih := fe_ hp a
    have h2 := hp.1
    have e : bt_ p a p % p = 1 % p := by
      have h := bt_mod hp a (p - 1) (by omega)
      rw [show p - 1 + 1 = p by omega] at h
      exact h
    rw [← bt_pow a p, bt_s p a p, bi_self, Nat.one_mul, Nat.add_mod, e, ih, ← Nat.add_mod, Nat.add_comm]
theorem fe_inv {p a : Nat} (hp : pr_ p) (h : ¬ p ∣ a) : a * a ^ (p - 2) % p = 1 := by
  have h2 := hp.1
  have h1 : (a ^ p - a) % p = 0 := Nat.sub_mod_eq_zero_of_mod_eq (fe_ hp a)
  have e1 : a ^ p = a * a ^ (p - 1) := by
    rw [Nat.mul_comm, ← Nat.pow_succ, show (p - 1).succ = p by omega]
  have e2 : a * a ^ (p - 2) = a ^ (p - 1) := by
    rw [Nat.mul_comm, ← Nat.pow_succ, show (p - 2).succ = p - 1 by omega]
  have h3 : p ∣ a * (a ^ (p - 1) - 1) := by
    rw [Nat.mul_sub, Nat.mul_one, ← e1]
    exact Nat.dvd_of_mod_eq_zero h1
  have ha : 0 < a := Nat.pos_of_ne_zero (fun q => h (q ▸ Nat.dvd_zero p))
  have hpos : 0 < a ^ (p - 1) := Nat.pow_pos ha
  rcases pr_dvd hp h3 with c | c
  · exact absurd c h
  · obtain ⟨z, hz⟩ := c
    rw [e2, show a ^ (p - 1) = 1 + p * z by omega, Nat.add_mul_mod_self_left]
    exact Nat.mod_eq_of_lt (by omega)
