/-! pure: Natural: subtract, remainder, takeDigit -/
theorem dg_mod (Y k : Nat) : dg Y k = Y % 2147483648 ^ (k + 1) / 2147483648 ^ k := by
  unfold dg
  rw [Nat.pow_succ, Nat.mod_mul_right_div_self]
theorem sub_mod_ge {N M Q : Nat} (hQ : 0 < Q) (h : M ≤ N) (h1 : M % Q ≤ N % Q) : (N - M) % Q = N % Q - M % Q := by
  have e1 := Nat.div_add_mod N Q
  have e2 := Nat.div_add_mod M Q
  have e3 : M / Q ≤ N / Q := Nat.div_le_div_right h
  obtain ⟨t, ht⟩ : ∃ t, N / Q = M / Q + t := ⟨N / Q - M / Q, by omega⟩
  rw [ht, Nat.mul_add] at e1
  have e4 : N - M = (N % Q - M % Q) + Q * t := by omega
  rw [e4, Nat.add_mul_mod_self_left]
  have := Nat.mod_lt N hQ
  exact Nat.mod_eq_of_lt (by omega)
theorem sub_mod_lt {N M Q : Nat} (hQ : 0 < Q) (h : M ≤ N) (h1 : N % Q < M % Q) : (N - M) % Q = Q + N % Q - M % Q := by
  have e1 := Nat.div_add_mod N Q
  have e2 := Nat.div_add_mod M Q
  have e3 : M / Q ≤ N / Q := Nat.div_le_div_right h
  have e5 : M / Q ≠ N / Q := fun q => by rw [q] at e2; omega
  obtain ⟨t, ht⟩ : ∃ t, N / Q = M / Q + (t + 1) := ⟨N / Q - M / Q - 1, by omega⟩
  rw [ht, Nat.mul_add, Nat.mul_add, Nat.mul_one] at e1
  have hM := Nat.mod_lt M hQ
  have e4 : N - M = (Q + N % Q - M % Q) + Q * t := by omega
  rw [e4, Nat.add_mul_mod_self_left]
  exact Nat.mod_eq_of_lt (by omega)
theorem quo_of {X r q P : Nat} (hP : 0 < P) (h : X = r + q * P) (hr : r < P) : X / P = q := by
  rw [h, Nat.add_mul_div_right _ _ hP, Nat.div_eq_of_lt hr, Nat.zero_add]
/-- the digit of a difference, and the borrow behind it -/
theorem dg_sub {N M k c : Nat} (h : M ≤ N) (hc : (c = 0 ∧ M % 2147483648 ^ k ≤ N % 2147483648 ^ k) ∨ (c = 1 ∧ N % 2147483648 ^ k < M % 2147483648 ^ k)) :
    (dg M k + c ≤ dg N k → dg (N - M) k = dg N k - dg M k - c ∧ M % 2147483648 ^ (k + 1) ≤ N % 2147483648 ^ (k + 1)) ∧
    (dg N k < dg M k + c → dg (N - M) k = 2147483648 + dg N k - dg M k - c ∧ N % 2147483648 ^ (k + 1) < M % 2147483648 ^ (k + 1)) := by
  have hP := bs_pos k
  have hQ := bs_pos (k + 1)
  have eQ : 2147483648 ^ (k + 1) = 2147483648 * 2147483648 ^ k := by rw [Nat.pow_succ, Nat.mul_comm]
  have n1 := dg_lo N k
  have m1 := dg_lo M k
  have n0 := Nat.mod_lt N hP
  have m0 := Nat.mod_lt M hP
  have hn := dg_lt N k
  have hm := dg_lt M k
  rw [dg_mod (N - M) k]
  generalize dg N k = a at n1 hn ⊢
  generalize dg M k = b at m1 hm ⊢
  generalize N % 2147483648 ^ k = x at n1 n0 hc ⊢
  generalize M % 2147483648 ^ k = y at m1 m0 hc ⊢
  constructor
  · intro h2
    have hle : M % 2147483648 ^ (k + 1) ≤ N % 2147483648 ^ (k + 1) := by
      rw [n1, m1]
      rcases hc with ⟨rfl, q⟩ | ⟨rfl, q⟩
      · have : b * 2147483648 ^ k ≤ a * 2147483648 ^ k := Nat.mul_le_mul_right _ (by omega)
        omega
      · have : (b + 1) * 2147483648 ^ k ≤ a * 2147483648 ^ k := Nat.mul_le_mul_right _ h2
        rw [Nat.add_mul, Nat.one_mul] at this
        omega
    refine ⟨?_, hle⟩
    rw [sub_mod_ge hQ h hle, n1, m1]
    rcases hc with ⟨rfl, q⟩ | ⟨rfl, q⟩
    · refine quo_of hP (r := x - y) ?_ (by omega)
      obtain ⟨d, rfl⟩ : ∃ d, a = b + d := ⟨a - b, by omega⟩
      rw [show b + d - b - 0 = d by omega, Nat.add_mul]
      omega
    · refine quo_of hP (r := 2147483648 ^ k + x - y) ?_ (by omega)
      obtain ⟨d, rfl⟩ : ∃ d, a = b + 1 + d := ⟨a - b - 1, by omega⟩
      rw [show b + 1 + d - b - 1 = d by omega, Nat.add_mul, Nat.add_mul, Nat.one_mul]
      omega
  · intro h2
    have hlt : N % 2147483648 ^ (k + 1) < M % 2147483648 ^ (k + 1) := by
      rw [n1, m1]
      rcases hc with ⟨rfl, q⟩ | ⟨rfl, q⟩
      · have : (a + 1) * 2147483648 ^ k ≤ b * 2147483648 ^ k := Nat.mul_le_mul_right _ (by omega)
        rw [Nat.add_mul, Nat.one_mul] at this
        omega
      · have : a * 2147483648 ^ k ≤ b * 2147483648 ^ k := Nat.mul_le_mul_right _ (by omega)
        omega
    refine ⟨?_, hlt⟩
    rw [sub_mod_lt hQ h hlt, n1, m1]
    rcases hc with ⟨rfl, q⟩ | ⟨rfl, q⟩
    · refine quo_of hP (r := x - y) ?_ (by omega)
      obtain ⟨d, hd⟩ : ∃ d, 2147483648 + a = b + d := ⟨2147483648 + a - b, by omega⟩
      rw [show 2147483648 + a - b - 0 = d by omega, eQ]
      have e : (2147483648 + a) * 2147483648 ^ k = (b + d) * 2147483648 ^ k := by rw [hd]
      rw [Nat.add_mul, Nat.add_mul] at e
      omega
    · refine quo_of hP (r := 2147483648 ^ k + x - y) ?_ (by omega)
      obtain ⟨d, hd⟩ : ∃ d, 2147483648 + a = b + 1 + d := ⟨2147483648 + a - b - 1, by omega⟩
      rw [show 2147483648 + a - b - 1 = d by omega, eQ]
      have e : (2147483648 + a) * 2147483648 ^ k = (b + 1 + d) * 2147483648 ^ k := by rw [hd]
      rw [Nat.add_mul, Nat.add_mul, Nat.add_mul, Nat.one_mul] at e
      omega
/-! ints that wrap -/
theorem nI_wr (a : Nat) : nI (4294967296 + a) = nI a := by
  rw [← nI_add]
  have : nI 4294967296 = 0 := by decide
  rw [this, Int32.zero_add]
theorem nI_sb {a b : Nat} (h : b ≤ 4294967296 + a) : nI a - nI b = nI (4294967296 + a - b) := by
  rw [← nI_wr a, pk_sub h]
theorem i_mask {n : Nat} (h : n < 4294967296) : nI n &&& 2147483647 = nI (n % 2147483648) := pk_andN (m := 2147483647) h 31 (by decide)
theorem i_sh31 {n : Nat} (h : n < 4294967296) : ((nI n).toUInt32 >>> ((31 : Int32).toUInt32 &&& Int32.toUInt32 31)).toInt32 = nI (n / 2147483648) := pk_ushrN h 31 31 (by decide)
/-- a digit less a digit less a borrow -/
theorem i_dif {a b c : Nat} (ha : a < 2147483648) (hb : b < 2147483648) (hc : c ≤ 1) :
    (b + c ≤ a → (nI a - nI b - nI c) &&& 2147483647 = nI (a - b - c) ∧ ((nI a - nI b - nI c).toUInt32 >>> ((31 : Int32).toUInt32 &&& Int32.toUInt32 31)).toInt32 = nI 0) ∧
    (a < b + c → (nI a - nI b - nI c) &&& 2147483647 = nI (2147483648 + a - b - c) ∧ ((nI a - nI b - nI c).toUInt32 >>> ((31 : Int32).toUInt32 &&& Int32.toUInt32 31)).toInt32 = nI 1) := by
  constructor
  · intro h
    have e : nI a - nI b - nI c = nI (a - b - c) := by rw [pk_sub (by omega), pk_sub (by omega)]
    rw [e, i_mask (by omega), i_sh31 (by omega), Nat.mod_eq_of_lt (by omega), Nat.div_eq_of_lt (by omega)]
    exact ⟨rfl, rfl⟩
  · intro h
    have e : nI a - nI b - nI c = nI (4294967296 + a - b - c) := by rw [nI_sb (by omega), pk_sub (by omega)]
    rw [e, i_mask (by omega), i_sh31 (by omega)]
    have e1 : (4294967296 + a - b - c) % 2147483648 = 2147483648 + a - b - c := by omega
    have e2 : (4294967296 + a - b - c) / 2147483648 = 1 := by omega
    rw [e1, e2]
    exact ⟨rfl, rfl⟩
theorem sp_subtract {f g : Nat → Int32} {N M : Nat} {post : (Nat → Int32) → Prop} (hf : rp f N) (hg : rp g M) (hle : M ≤ N) (hp : ∀ f', rp f' (N - M) → post f') : wp_Natural_subtract post g f := by
  have main : ∀ (m k : Nat) (f : Nat → Int32) (c : Nat), k + m = 16 → ((c = 0 ∧ M % 2147483648 ^ k ≤ N % 2147483648 ^ k) ∨ (c = 1 ∧ N % 2147483648 ^ k < M % 2147483648 ^ k)) → (∀ j, j < 16 → f j = nI (if j < k then dg (N - M) j else dg N j)) → wp_Natural_subtract_4 post g (m + 1) (nI c) (nI k) f := by
    intro m
    induction m with
    | zero =>
      intro k f c hk hc hh
      unfold wp_Natural_subtract_4
      refine ⟨fun _ => hp _ (fun j hj => ?_), fun q => absurd ((l16 (by omega)).mpr (by omega)) q⟩
      rw [hh j hj, if_pos (by omega)]
    | succ m ih =>
      intro k f c hk hc hh
      unfold wp_Natural_subtract_4
      refine ⟨fun q => absurd ((l16 (by omega)).mp q) (by omega), fun _ => ⟨i16 (by omega), i16 (by omega), fun x ex => ⟨i16 (by omega), fun y ey z ez => ?_⟩⟩⟩
      rw [ic (by omega), hh k (by omega), if_neg (by omega), hg k (by omega)] at ex
      have hc1 : c ≤ 1 := by omega
      obtain ⟨i1, i2⟩ := i_dif (dg_lt N k) (dg_lt M k) hc1
      obtain ⟨d1, d2⟩ := dg_sub hle hc
      rcases Nat.lt_or_ge (dg N k) (dg M k + c) with q | q
      · obtain ⟨j1, j2⟩ := i2 q
        obtain ⟨g1, g2⟩ := d2 q
        rw [ey, ex, j2, j1, ez, nI_1, ic (by omega)]
        refine ih (k + 1) _ 1 (by omega) (Or.inr ⟨rfl, g2⟩) (fun j hj => ?_)
        by_cases w : j = k
        · rw [w, pk_us, if_pos (by omega), g1]
        · rw [pk_un w, hh j hj]
          by_cases q2 : j < k
          · rw [if_pos q2, if_pos (by omega)]
          · rw [if_neg q2, if_neg (by omega)]
      · obtain ⟨j1, j2⟩ := i1 q
        obtain ⟨g1, g2⟩ := d1 q
        rw [ey, ex, j2, j1, ez, nI_1, ic (by omega)]
        refine ih (k + 1) _ 0 (by omega) (Or.inl ⟨rfl, g2⟩) (fun j hj => ?_)
        by_cases w : j = k
        · rw [w, pk_us, if_pos (by omega), g1]
        · rw [pk_un w, hh j hj]
          by_cases q2 : j < k
          · rw [if_pos q2, if_pos (by omega)]
          · rw [if_neg q2, if_neg (by omega)]
  refine ⟨17, main 16 0 f 0 rfl (Or.inl ⟨rfl, by simp [Nat.mod_one]⟩) (fun j hj => ?_)⟩
  rw [if_neg (by omega)]
  exact hf j hj
theorem l_ge1 {d : Nat} (h0 : 0 < d) (h : d < 2 ^ 63) : 0 ≤ lg_cmp (lN d) 1 := by
  rw [lg_cmp_ge]
  exact (pk_lLE (a := 1) (by decide) h).mpr h0
theorem l_ne0 {d : Nat} (h0 : 0 < d) (h : d < 2 ^ 63) : ¬ lN d = 0 := fun q => by
  have := (pk_lEQ (b := 0) h (by decide)).mp q
  omega
theorem sp_remainder {f : Nat → Int32} {N d : Nat} {post : Int64 → Prop} (hf : rp f N) (hN : bn N) (h0 : 0 < d) (hd : d < 2147483648) (hp : post (lN (N % d))) : wp_Natural_remainder post f (lN d) := by
  have hi : ∀ k, N / 2147483648 ^ k % d = (N / 2147483648 ^ (k + 1) % d * 2147483648 + dg N k) % d := by
    intro k
    rw [hi_step N k, Nat.add_mod, Nat.add_mod (N / 2147483648 ^ (k + 1) % d * 2147483648), Nat.mod_mul_mod]
  have step : ∀ k x, k < 16 → x = (lN (N / 2147483648 ^ (k + 1) % d) <<< ((31 : Int32).toInt64 &&& 63) + (f (nI k).toNatClampNeg).toInt64) - (lN (N / 2147483648 ^ (k + 1) % d) <<< ((31 : Int32).toInt64 &&& 63) + (f (nI k).toNatClampNeg).toInt64) / lN d * lN d → x = lN (N / 2147483648 ^ k % d) := by
    intro k x hk ex
    have h1 := Nat.mod_lt (N / 2147483648 ^ (k + 1)) h0
    have h2 := dg_lt N k
    rw [ex, ic (by omega), hf k hk, nI_l (dg31 N k), l_up31, lN_add, pk_lRem (by omega) h0 (by omega), hi k]
  have main : ∀ (k n : Nat), k < 16 → k + 1 < n → wp_Natural_remainder_14 post f n (lN d) (lN (N / 2147483648 ^ (k + 1) % d)) (nI k) := by
    intro k
    induction k with
    | zero =>
      intro n hk hn
      obtain ⟨n', rfl⟩ : ∃ n', n = n' + 2 := ⟨n - 2, by omega⟩
      unfold wp_Natural_remainder_14
      refine ⟨fun c => absurd c (nI_pos (by omega)), fun _ => ⟨i16 hk, l_ne0 h0 (by omega), fun x ex y ey => ?_⟩⟩
      have e := step 0 x hk ex
      rw [hi_0] at e
      unfold wp_Natural_remainder_14
      exact ⟨fun _ => by rw [e]; exact hp, fun c => absurd (by rw [ey]; exact n_neg1) c⟩
    | succ k ih =>
      intro n hk hn
      obtain ⟨n', rfl⟩ : ∃ n', n = n' + 1 := ⟨n - 1, by omega⟩
      unfold wp_Natural_remainder_14
      refine ⟨fun c => absurd c (nI_pos (by omega)), fun _ => ⟨i16 hk, l_ne0 h0 (by omega), fun x ex y ey => ?_⟩⟩
      rw [step (k + 1) x hk ex, ey, nI_dn]
      exact ih n' (by omega) (by omega)
  unfold wp_Natural_remainder
  refine ⟨fun _ => ⟨17, ?_⟩, fun c => absurd (l_ge1 h0 (by omega)) c⟩
  have h := main 15 17 (by omega) (by omega)
  rw [hi_top hN, Nat.zero_mod] at h
  exact h
/-- long division by ten, from above -/
theorem ten_dg (N k : Nat) : dg (N / 10) k = (N / 2147483648 ^ (k + 1) % 10 * 2147483648 + dg N k) / 10 := by
  have h := hi_step N k
  have hd := dg_lt N k
  have e : N / 10 / 2147483648 ^ k = N / 2147483648 ^ k / 10 := by rw [Nat.div_div_eq_div_mul, Nat.div_div_eq_div_mul, Nat.mul_comm]
  unfold dg
  rw [e]
  unfold dg at h hd
  omega
theorem ten_rm (N k : Nat) : N / 2147483648 ^ k % 10 = (N / 2147483648 ^ (k + 1) % 10 * 2147483648 + dg N k) % 10 := by
  have h := hi_step N k
  omega
theorem sp_takeDigit {f : Nat → Int32} {N : Nat} {post : Int32 → (Nat → Int32) → Prop} (hf : rp f N) (hN : bn N) (hp : ∀ f', rp f' (N / 10) → post (nI (N % 10)) f') : wp_Natural_takeDigit post f := by
  have step : ∀ (k : Nat) (f : Nat → Int32) (x : Int64), k < 16 → (∀ j, j < 16 → f j = nI (if k < j then dg (N / 10) j else dg N j)) → x = lN (N / 2147483648 ^ (k + 1) % 10) <<< ((31 : Int32).toInt64 &&& 63) + (f (nI k).toNatClampNeg).toInt64 → (x - x / 10 * 10 = lN (N / 2147483648 ^ k % 10)) ∧ (x / 10).toInt32 = nI (dg (N / 10) k) := by
    intro k f x hk hh ex
    have h2 := dg_lt N k
    have h1 : N / 2147483648 ^ (k + 1) % 10 < 10 := Nat.mod_lt _ (by omega)
    have e : x = lN (N / 2147483648 ^ (k + 1) % 10 * 2147483648 + dg N k) := by rw [ex, ic (by omega), hh k hk, if_neg (by omega), nI_l (dg31 N k), l_up31, lN_add]
    have t : (10 : Int64) = lN 10 := rfl
    rw [e, t, pk_lRem (by omega) (by omega) (by omega), pk_lDiv (by omega) (by omega) (by omega), lN_i, ← ten_rm, ← ten_dg]
    exact ⟨rfl, rfl⟩
  have upd_ok : ∀ (k : Nat) (f : Nat → Int32), (∀ j, j < 16 → f j = nI (if k < j then dg (N / 10) j else dg N j)) → ∀ j, j < 16 → upd f k (nI (dg (N / 10) k)) j = nI (if k ≤ j then dg (N / 10) j else dg N j) := by
    intro k f hh j hj
    by_cases q : j = k
    · rw [q, pk_us, if_pos (by omega)]
    · rw [pk_un q, hh j hj]
      by_cases q2 : k < j
      · rw [if_pos q2, if_pos (by omega)]
      · rw [if_neg q2, if_neg (by omega)]
  have main : ∀ (k n : Nat) (f : Nat → Int32), k < 16 → k + 1 < n → (∀ j, j < 16 → f j = nI (if k < j then dg (N / 10) j else dg N j)) → wp_Natural_takeDigit_5 post n (lN (N / 2147483648 ^ (k + 1) % 10)) (nI k) f := by
    intro k
    induction k with
    | zero =>
      intro n f hk hn hh
      obtain ⟨n', rfl⟩ : ∃ n', n = n' + 2 := ⟨n - 2, by omega⟩
      unfold wp_Natural_takeDigit_5
      refine ⟨fun c => absurd c (nI_pos (by omega)), fun _ => ⟨i16 hk, fun x ex => ⟨i16 hk, fun y ey z ez => ?_⟩⟩⟩
      obtain ⟨e1, e2⟩ := step 0 f x hk hh ex
      rw [hi_0] at e1
      rw [e2, ic (by omega)]
      unfold wp_Natural_takeDigit_5
      refine ⟨fun _ => ?_, fun c => absurd (by rw [ez]; exact n_neg1) c⟩
      rw [ey, e1, lN_i]
      refine hp _ (fun j hj => ?_)
      rw [upd_ok 0 f hh j hj, if_pos (by omega)]
    | succ k ih =>
      intro n f hk hn hh
      obtain ⟨n', rfl⟩ : ∃ n', n = n' + 1 := ⟨n - 1, by omega⟩
      unfold wp_Natural_takeDigit_5
      refine ⟨fun c => absurd c (nI_pos (by omega)), fun _ => ⟨i16 hk, fun x ex => ⟨i16 hk, fun y ey z ez => ?_⟩⟩⟩
      obtain ⟨e1, e2⟩ := step (k + 1) f x hk hh ex
      rw [e2, ic (by omega), ey, e1, ez, nI_dn]
      refine ih n' _ (by omega) (by omega) (fun j hj => ?_)
      rw [upd_ok (k + 1) f hh j hj]
      by_cases q : k < j
      · rw [if_pos q, if_pos (by omega)]
      · rw [if_neg q, if_neg (by omega)]
  refine ⟨17, ?_⟩
  have h := main 15 17 f (by omega) (by omega) (fun j hj => by rw [if_neg (by omega)]; exact hf j hj)
  rw [hi_top hN, Nat.zero_mod] at h
  exact h
