/-! pure: digits of 24 places, as those of 31 -/
def eg (N k : Nat) : Nat := N / 16777216 ^ k % 16777216
theorem eg_lt (N k : Nat) : eg N k < 16777216 := Nat.mod_lt _ (by omega)
theorem be_pos (k : Nat) : 0 < 16777216 ^ k := Nat.pow_pos (by omega)
theorem eg_lo (N k : Nat) : N % 16777216 ^ (k + 1) = N % 16777216 ^ k + eg N k * 16777216 ^ k := by
  unfold eg
  rw [Nat.pow_succ, Nat.mod_mul]
  rw [Nat.mul_comm]
theorem eg_hi {N k : Nat} (h : N < 16777216 ^ k) : eg N k = 0 := by
  unfold eg
  rw [Nat.div_eq_of_lt h]
theorem eg_ext : ∀ (k : Nat) {M N : Nat}, (∀ j, j < k → eg M j = eg N j) → M % 16777216 ^ k = N % 16777216 ^ k
  | 0, _, _, _ => by simp [Nat.mod_one]
  | k + 1, M, N, h => by rw [eg_lo, eg_lo, eg_ext k (fun j hj => h j (by omega)), h k (by omega)]
theorem eg_step {X s k : Nat} : (X + s * 16777216 ^ k) / 16777216 ^ (k + 1) = (X / 16777216 ^ k + s) / 16777216 := by
  rw [Nat.pow_succ, ← Nat.div_div_eq_div_mul, Nat.add_mul_div_right _ _ (be_pos k)]
theorem eg_of {Z X s k : Nat} (h : Z % 16777216 ^ (k + 1) = (X + s * 16777216 ^ k) % 16777216 ^ (k + 1)) : eg Z k = (X / 16777216 ^ k + s) % 16777216 := by
  have e : ∀ Y : Nat, eg Y k = Y % 16777216 ^ (k + 1) / 16777216 ^ k := by
    intro Y
    unfold eg
    rw [Nat.pow_succ, Nat.mod_mul_right_div_self]
  rw [e, h, ← e]
  unfold eg
  rw [Nat.add_mul_div_right _ _ (be_pos k)]
theorem eg_am {N M f k : Nat} : eg (N + M * f) k = ((N % 16777216 ^ k + M % 16777216 ^ k * f) / 16777216 ^ k + (eg N k + eg M k * f)) % 16777216 := by
  refine eg_of ?_
  have e1 := eg_lo N k
  have e2 := eg_lo M k
  have e3 : N % 16777216 ^ k + M % 16777216 ^ k * f + (eg N k + eg M k * f) * 16777216 ^ k = N % 16777216 ^ (k + 1) + M % 16777216 ^ (k + 1) * f := by
    rw [e1, e2]
    simp only [Nat.add_mul]
    have e4 : eg M k * f * 16777216 ^ k = eg M k * 16777216 ^ k * f := by rw [Nat.mul_right_comm]
    omega
  have e5 : ∀ Q : Nat, (N + M * f) % Q = (N % Q + M % Q * f) % Q := fun Q => by rw [Nat.add_mod (N % Q), Nat.mod_mod, Nat.mod_mul_mod, ← Nat.add_mod]
  rw [e3]
  exact e5 _
theorem eg_amc {N M f k : Nat} : (N % 16777216 ^ (k + 1) + M % 16777216 ^ (k + 1) * f) / 16777216 ^ (k + 1) = ((N % 16777216 ^ k + M % 16777216 ^ k * f) / 16777216 ^ k + (eg N k + eg M k * f)) / 16777216 := by
  rw [← eg_step]
  congr 1
  rw [eg_lo N k, eg_lo M k]
  simp only [Nat.add_mul]
  have e4 : eg M k * f * 16777216 ^ k = eg M k * 16777216 ^ k * f := by rw [Nat.mul_right_comm]
  omega
theorem eg31 (N k : Nat) : eg N k < 2 ^ 31 := by have := eg_lt N k; omega
theorem he_step (N k : Nat) : N / 16777216 ^ k = N / 16777216 ^ (k + 1) * 16777216 + eg N k := by
  unfold eg
  rw [Nat.pow_succ, ← Nat.div_div_eq_div_mul]
  have := Nat.div_add_mod (N / 16777216 ^ k) 16777216
  omega
theorem he_0 (N : Nat) : N / 16777216 ^ 0 = N := by rw [Nat.pow_zero, Nat.div_one]
theorem eg_mod (Y k : Nat) : eg Y k = Y % 16777216 ^ (k + 1) / 16777216 ^ k := by
  unfold eg
  rw [Nat.pow_succ, Nat.mod_mul_right_div_self]
theorem eg_sub {N M k c : Nat} (h : M ≤ N) (hc : (c = 0 ∧ M % 16777216 ^ k ≤ N % 16777216 ^ k) ∨ (c = 1 ∧ N % 16777216 ^ k < M % 16777216 ^ k)) :
    (eg M k + c ≤ eg N k → eg (N - M) k = eg N k - eg M k - c ∧ M % 16777216 ^ (k + 1) ≤ N % 16777216 ^ (k + 1)) ∧
    (eg N k < eg M k + c → eg (N - M) k = 16777216 + eg N k - eg M k - c ∧ N % 16777216 ^ (k + 1) < M % 16777216 ^ (k + 1)) := by
  have hP := be_pos k
  have hQ := be_pos (k + 1)
  have eQ : 16777216 ^ (k + 1) = 16777216 * 16777216 ^ k := by rw [Nat.pow_succ, Nat.mul_comm]
  have n1 := eg_lo N k
  have m1 := eg_lo M k
  have n0 := Nat.mod_lt N hP
  have m0 := Nat.mod_lt M hP
  have hn := eg_lt N k
  have hm := eg_lt M k
  rw [eg_mod (N - M) k]
  generalize eg N k = a at n1 hn ⊢
  generalize eg M k = b at m1 hm ⊢
  generalize N % 16777216 ^ k = x at n1 n0 hc ⊢
  generalize M % 16777216 ^ k = y at m1 m0 hc ⊢
  constructor
  · intro h2
    have hle : M % 16777216 ^ (k + 1) ≤ N % 16777216 ^ (k + 1) := by
      rw [n1, m1]
      rcases hc with ⟨rfl, q⟩ | ⟨rfl, q⟩
      · have : b * 16777216 ^ k ≤ a * 16777216 ^ k := Nat.mul_le_mul_right _ (by omega)
        omega
      · have : (b + 1) * 16777216 ^ k ≤ a * 16777216 ^ k := Nat.mul_le_mul_right _ h2
        rw [Nat.add_mul, Nat.one_mul] at this
        omega
    refine ⟨?_, hle⟩
    rw [sub_mod_ge hQ h hle, n1, m1]
    rcases hc with ⟨rfl, q⟩ | ⟨rfl, q⟩
    · refine quo_of hP (r := x - y) ?_ (by omega)
      obtain ⟨d, rfl⟩ : ∃ d, a = b + d := ⟨a - b, by omega⟩
      rw [show b + d - b - 0 = d by omega, Nat.add_mul]
      omega
    · refine quo_of hP (r := 16777216 ^ k + x - y) ?_ (by omega)
      obtain ⟨d, rfl⟩ : ∃ d, a = b + 1 + d := ⟨a - b - 1, by omega⟩
      rw [show b + 1 + d - b - 1 = d by omega, Nat.add_mul, Nat.add_mul, Nat.one_mul]
      omega
  · intro h2
    have hlt : N % 16777216 ^ (k + 1) < M % 16777216 ^ (k + 1) := by
      rw [n1, m1]
      rcases hc with ⟨rfl, q⟩ | ⟨rfl, q⟩
      · have : (a + 1) * 16777216 ^ k ≤ b * 16777216 ^ k := Nat.mul_le_mul_right _ (by omega)
        rw [Nat.add_mul, Nat.one_mul] at this
        omega
      · have : a * 16777216 ^ k ≤ b * 16777216 ^ k := Nat.mul_le_mul_right _ (by omega)
        omega
    refine ⟨?_, hlt⟩
    rw [sub_mod_lt hQ h hlt, n1, m1]
    rcases hc with ⟨rfl, q⟩ | ⟨rfl, q⟩
    · refine quo_of hP (r := x - y) ?_ (by omega)
      obtain ⟨d, hd⟩ : ∃ d, 16777216 + a = b + d := ⟨16777216 + a - b, by omega⟩
      rw [show 16777216 + a - b - 0 = d by omega, eQ]
      have e : (16777216 + a) * 16777216 ^ k = (b + d) * 16777216 ^ k := by rw [hd]
      rw [Nat.add_mul, Nat.add_mul] at e
      omega
    · refine quo_of hP (r := 16777216 ^ k + x - y) ?_ (by omega)
      obtain ⟨d, hd⟩ : ∃ d, 16777216 + a = b + 1 + d := ⟨16777216 + a - b - 1, by omega⟩
      rw [show 16777216 + a - b - 1 = d by omega, eQ]
      have e : (16777216 + a) * 16777216 ^ k = (b + 1 + d) * 16777216 ^ k := by rw [hd]
      rw [Nat.add_mul, Nat.add_mul, Nat.add_mul, Nat.one_mul] at e
      omega
/-! ints that wrap -/
/-- a register of 22 words at r holds N -/
def rq (z : Nat → Int32) (r N : Nat) : Prop := ∀ k, k < 22 → z (r + k) = nI (eg N k)
def b22 (N : Nat) : Prop := N < 16777216 ^ 22
theorem rq_keep {z z' : Nat → Int32} {r N : Nat} (h : rq z r N) (e : ∀ k, k < 22 → z' (r + k) = z (r + k)) : rq z' r N := fun k hk => (e k hk).trans (h k hk)
theorem rq_all0 {N : Nat} (h : b22 N) (h0 : ∀ j, j < 22 → eg N j = 0) : N = 0 := by
  have e := eg_ext 22 (M := N) (N := 0) (fun j hj => by rw [h0 j hj]; simp [eg])
  rw [Nat.mod_eq_of_lt h] at e
  simpa using e
theorem v1100 {k : Nat} (h : k < 1100) : vp_in (nI k) 1100 := vp_in_nI h (by decide)
theorem l22 {k : Nat} (h : k < 2 ^ 31) : (22 : Int32) ≤ nI k ↔ 22 ≤ k := nI_leI (a := 22) (by decide) h
theorem sp_mcopy {t fr : Nat} {th vn vh vk vm vp : Int32} {z : Nat → Int32} {post : (Nat → Int32) → Prop} (ht : t + 22 ≤ 1100) (hf : fr + 22 ≤ 1100) (hap : t + 22 ≤ fr ∨ fr + 22 ≤ t ∨ t = fr) (hp : ∀ z', (∀ k, k < 22 → z' (t + k) = z (fr + k)) → (∀ q, q < t ∨ t + 22 ≤ q → z' q = z q) → post z') : wp_Model_copy post th vn vh vk vm vp (nI t) (nI fr) z := by
  have main : ∀ (m k : Nat) (z' : Nat → Int32), k + m = 22 → (∀ j, j < k → z' (t + j) = z (fr + j)) → (∀ q, (q < t ∨ t + k ≤ q) → z' q = z q) → wp_Model_copy_2 post th vn vh vk vm vp (m + 1) (nI t) (nI fr) (nI k) z' := by
    intro m
    induction m with
    | zero =>
      intro k z' hk h1 h2
      unfold wp_Model_copy_2
      exact ⟨fun _ => hp z' (fun j hj => h1 j (by omega)) (fun q hq => h2 q (by omega)), fun c => absurd ((l22 (by omega)).mpr (by omega)) c⟩
    | succ m ih =>
      intro k z' hk h1 h2
      unfold wp_Model_copy_2
      refine ⟨fun c => absurd ((l22 (by omega)).mp c) (by omega), fun _ => ?_⟩
      rw [nI_add, nI_add, ic (by omega), ic (by omega)]
      refine ⟨v1100 (by omega), v1100 (by omega), fun x ex => ?_⟩
      rw [ex, nI_1]
      refine ih (k + 1) _ (by omega) (fun j hj => ?_) (fun q hq => ?_)
      · by_cases w : j = k
        · rw [w, pk_us]
          exact (by
            rcases hap with g | g | g
            · exact h2 _ (by omega)
            · exact h2 _ (by omega)
            · exact h2 _ (by omega))
        · rw [pk_un (by omega)]
          exact h1 j (by omega)
      · rw [pk_un (by omega)]
        exact h2 q (by omega)
  exact ⟨23, main 22 0 z rfl (fun j h => absurd h (by omega)) (fun q _ => rfl)⟩
