/-! pure: Natural: order, bits, sums, products, remainders -/
theorem nI_dn {k : Nat} : nI (k + 1) + (-1) = nI k := pk_m1 k
theorem n_neg1 : nI 0 + (-1) < 0 := by decide
theorem sp_order {f g : Nat → Int32} {N M : Nat} {post : Int32 → Prop} (hf : rp f N) (hg : rp g M) (hN : bn N) (hM : bn M) (hlt : N < M → post (-1)) (heq : N = M → post 0) (hgt : M < N → post 1) : wp_Natural_order post f g := by
  have lt_of : ∀ {X Y k : Nat}, X / 2147483648 ^ (k + 1) = Y / 2147483648 ^ (k + 1) → dg X k < dg Y k → X < Y := by
    intro X Y k e h
    rcases Nat.lt_or_ge X Y with q | q
    · exact q
    · have h1 := hi_step X k
      have h2 := hi_step Y k
      have h3 : Y / 2147483648 ^ k ≤ X / 2147483648 ^ k := Nat.div_le_div_right q
      omega
  have hend : ∀ (n : Nat) (x : Int32), x < 0 → N = M → wp_Natural_order_3 post f g (n + 1) x := by
    intro n x hx e
    unfold wp_Natural_order_3
    exact ⟨fun _ => heq e, fun c => absurd hx c⟩
  have main : ∀ (k n : Nat), k < 16 → k + 1 < n → N / 2147483648 ^ (k + 1) = M / 2147483648 ^ (k + 1) → wp_Natural_order_3 post f g n (nI k) := by
    intro k
    induction k with
    | zero =>
      intro n hk hn e
      obtain ⟨n', rfl⟩ : ∃ n', n = n' + 2 := ⟨n - 2, by omega⟩
      unfold wp_Natural_order_3
      refine ⟨fun c => absurd c (nI_pos (by omega)), fun _ => ⟨i16 hk, i16 hk, fun c x ex => ?_, fun c => ⟨i16 hk, i16 hk, fun c2 => ?_, fun c2 => ?_⟩⟩⟩
      · rw [ic (by omega), hf 0 hk, hg 0 hk] at c
        refine hend n' x (by rw [ex]; exact n_neg1) ?_
        have c' := (nI_eq (dg31 N 0) (dg31 M 0)).mp c
        have h1 := hi_step N 0
        have h2 := hi_step M 0
        rw [hi_0] at h1 h2
        omega
      · rw [ic (by omega), hf 0 hk, hg 0 hk] at c c2
        have h1 := (nI_leI (dg31 M 0) (dg31 N 0)).mp c2
        have h2 : ¬ dg N 0 = dg M 0 := fun q => c (by rw [q])
        exact hgt (lt_of e.symm (by omega))
      · rw [ic (by omega), hf 0 hk, hg 0 hk] at c c2
        have h1 : ¬ dg M 0 ≤ dg N 0 := fun q => c2 ((nI_leI (dg31 M 0) (dg31 N 0)).mpr q)
        exact hlt (lt_of e (by omega))
    | succ k ih =>
      intro n hk hn e
      obtain ⟨n', rfl⟩ : ∃ n', n = n' + 1 := ⟨n - 1, by omega⟩
      unfold wp_Natural_order_3
      refine ⟨fun c => absurd c (nI_pos (by omega)), fun _ => ⟨i16 hk, i16 hk, fun c x ex => ?_, fun c => ⟨i16 hk, i16 hk, fun c2 => ?_, fun c2 => ?_⟩⟩⟩
      · rw [ic (by omega), hf (k + 1) hk, hg (k + 1) hk] at c
        rw [ex, nI_dn]
        have c' := (nI_eq (dg31 N (k + 1)) (dg31 M (k + 1))).mp c
        have h1 := hi_step N (k + 1)
        have h2 := hi_step M (k + 1)
        exact ih n' (by omega) (by omega) (by omega)
      · rw [ic (by omega), hf (k + 1) hk, hg (k + 1) hk] at c c2
        have h1 := (nI_leI (dg31 M (k + 1)) (dg31 N (k + 1))).mp c2
        have h2 : ¬ dg N (k + 1) = dg M (k + 1) := fun q => c (by rw [q])
        exact hgt (lt_of e.symm (by omega))
      · rw [ic (by omega), hf (k + 1) hk, hg (k + 1) hk] at c c2
        have h1 : ¬ dg M (k + 1) ≤ dg N (k + 1) := fun q => c2 ((nI_leI (dg31 M (k + 1)) (dg31 N (k + 1))).mpr q)
        exact hlt (lt_of e (by omega))
  exact ⟨17, main 15 17 (by omega) (by omega) (by rw [hi_top hN, hi_top hM])⟩
theorem sp_order1 {f : Nat → Int32} {post : Int32 → Prop} (heq : post 0) : wp_Natural_order1 post f := by
  have main : ∀ (k n : Nat), k < 16 → k + 1 < n → wp_Natural_order1_3 post f n (nI k) := by
    intro k
    induction k with
    | zero =>
      intro n hk hn
      obtain ⟨n', rfl⟩ : ∃ n', n = n' + 2 := ⟨n - 2, by omega⟩
      unfold wp_Natural_order1_3
      refine ⟨fun c => absurd c (nI_pos (by omega)), fun _ => ⟨i16 hk, i16 hk, fun c x ex => ?_, fun c => absurd rfl c⟩⟩
      unfold wp_Natural_order1_3
      exact ⟨fun _ => heq, fun c => absurd (by rw [ex]; exact n_neg1) c⟩
    | succ k ih =>
      intro n hk hn
      obtain ⟨n', rfl⟩ : ∃ n', n = n' + 1 := ⟨n - 1, by omega⟩
      unfold wp_Natural_order1_3
      refine ⟨fun c => absurd c (nI_pos (by omega)), fun _ => ⟨i16 hk, i16 hk, fun c x ex => ?_, fun c => absurd rfl c⟩⟩
      rw [ex, nI_dn]
      exact ih n' (by omega) (by omega)
  exact ⟨17, main 15 17 (by omega) (by omega)⟩
/-! how many binary places -/
def bl (N : Nat) : Nat := if N = 0 then 0 else Nat.log2 N + 1
theorem bl_of {N r : Nat} (h1 : 2 ^ r ≤ N) (h2 : N < 2 ^ (r + 1)) : bl N = r + 1 := by
  have h0 : N ≠ 0 := by have : 0 < 2 ^ r := Nat.pow_pos (by omega); omega
  unfold bl
  rw [if_neg h0]
  have h3 : N.log2 = r := (Nat.log2_eq_iff h0).mpr ⟨h1, h2⟩
  rw [h3]
theorem bl_0 : bl 0 = 0 := rfl
theorem bl_half {N : Nat} (h : 0 < N) : bl N = bl (N / 2) + 1 := by
  unfold bl
  rw [if_neg (by omega)]
  by_cases c : N / 2 = 0
  · rw [if_pos c]
    have e : N = 1 := by omega
    subst e
    rfl
  · rw [if_neg c]
    rw [Nat.log2_def N, if_pos (by omega)]
theorem bl_bound {N r : Nat} (h : N < 2 ^ r) : bl N ≤ r := by
  unfold bl
  split
  · omega
  · rename_i c
    have := (Nat.log2_lt c).mpr h
    omega
/-- moved up by whole digits -/
theorem bl_shift {N a k : Nat} (ha : 0 < a) (h : N / 2 ^ k = a) : bl N = k + bl a := by
  have h0 : a ≠ 0 := by omega
  have e : bl a = Nat.log2 a + 1 := by unfold bl; rw [if_neg h0]
  rw [e]
  have h1 := Nat.log2_self_le h0
  have h2 := Nat.lt_log2_self (n := a)
  have hp : 0 < 2 ^ k := Nat.pow_pos (by omega)
  have h3 : 2 ^ k * a ≤ N := by rw [← h]; exact Nat.mul_div_le N (2 ^ k)
  have h4 : N < 2 ^ k * (a + 1) := by rw [← h]; exact Nat.lt_mul_div_succ N hp
  rw [show k + (Nat.log2 a + 1) = k + Nat.log2 a + 1 by omega]
  refine bl_of ?_ ?_
  · rw [Nat.pow_add]
    exact Nat.le_trans (Nat.mul_le_mul_left _ h1) h3
  · rw [show k + Nat.log2 a + 1 = k + (Nat.log2 a + 1) by omega, Nat.pow_add]
    exact Nat.lt_of_lt_of_le h4 (Nat.mul_le_mul_left _ h2)
theorem sp_bitsOf {a : Nat} (ha : a < 2 ^ 31) {post : Int32 → Prop} (hp : post (nI (bl a))) : wp_Natural_bitsOf post (nI a) := by
  have main : ∀ (n c x : Nat), x < 2 ^ 31 → x < n → c + bl x = bl a → wp_Natural_bitsOf_4 post n (nI c) (nI x) := by
    intro n
    induction n with
    | zero => intro c x _ h; exact absurd h (Nat.not_lt_zero _)
    | succ n ih =>
      intro c x hx hn e
      unfold wp_Natural_bitsOf_4
      refine ⟨fun q => ?_, fun q => ?_⟩
      · have h0 : x = 0 := by
          rcases Nat.eq_zero_or_pos x with z | z
          · exact z
          · exact absurd q (nI_nle z hx)
        subst h0
        rw [bl_0, Nat.add_zero] at e
        rw [e]
        exact hp
      · have hpos : 0 < x := by
          rcases Nat.eq_zero_or_pos x with z | z
          · subst z; exact absurd (by decide) q
          · exact z
        intro y ey z ez
        rw [ey, ez, nI_1, pk_shrN hx (1 &&& 31) 1 (by decide)]
        have h1 := bl_half hpos
        exact ih (c + 1) (x / 2 ^ 1) (by omega) (by omega) (by rw [Nat.pow_one]; omega)
  exact ⟨a + 1, main (a + 1) 0 a ha (by omega) (by omega)⟩
theorem b31 (k : Nat) : 2147483648 ^ k = 2 ^ (31 * k) := by rw [Nat.pow_mul]
theorem sp_bits {f : Nat → Int32} {N : Nat} {post : Int32 → Prop} (hf : rp f N) (hN : bn N) (hp : post (nI (bl N))) : wp_Natural_bits post f := by
  have hit : ∀ k, k < 16 → N / 2147483648 ^ (k + 1) = 0 → ¬ dg N k = 0 → wp_Natural_bitsOf (fun r => post (nI k * 31 + r)) (nI (dg N k)) := by
    intro k hk e c
    refine sp_bitsOf (dg31 N k) ?_
    have h1 := hi_step N k
    rw [e, Nat.zero_mul, Nat.zero_add, b31] at h1
    have h2 := bl_shift (by omega) h1
    have e31 : (31 : Int32) = nI 31 := rfl
    show post (nI k * 31 + nI (bl (dg N k)))
    rw [e31, pk_mul, nI_add, Nat.mul_comm k 31, ← h2]
    exact hp
  have main : ∀ (k n : Nat), k < 16 → k + 1 < n → N / 2147483648 ^ (k + 1) = 0 → wp_Natural_bits_3 post f n (nI k) := by
    intro k
    induction k with
    | zero =>
      intro n hk hn e
      obtain ⟨n', rfl⟩ : ∃ n', n = n' + 2 := ⟨n - 2, by omega⟩
      unfold wp_Natural_bits_3
      refine ⟨fun c => absurd c (nI_pos (by omega)), fun _ => ⟨i16 hk, fun c x ex => ?_, fun c => ⟨i16 hk, ?_⟩⟩⟩
      · rw [ic (by omega), hf 0 hk] at c
        have c' := (nI_i0 (dg31 N 0)).mp c
        have h1 := hi_step N 0
        rw [hi_0] at h1
        have h0 : N = 0 := by omega
        rw [h0, bl_0] at hp
        unfold wp_Natural_bits_3
        exact ⟨fun _ => hp, fun c => absurd (by rw [ex]; exact n_neg1) c⟩
      · rw [ic (by omega), hf 0 hk] at c
        rw [ic (by omega), hf 0 hk]
        exact hit 0 hk e (fun q => c ((nI_i0 (dg31 N 0)).mpr q))
    | succ k ih =>
      intro n hk hn e
      obtain ⟨n', rfl⟩ : ∃ n', n = n' + 1 := ⟨n - 1, by omega⟩
      unfold wp_Natural_bits_3
      refine ⟨fun c => absurd c (nI_pos (by omega)), fun _ => ⟨i16 hk, fun c x ex => ?_, fun c => ⟨i16 hk, ?_⟩⟩⟩
      · rw [ic (by omega), hf (k + 1) hk] at c
        have c' := (nI_i0 (dg31 N (k + 1))).mp c
        have h1 := hi_step N (k + 1)
        rw [ex, nI_dn]
        exact ih n' (by omega) (by omega) (by omega)
      · rw [ic (by omega), hf (k + 1) hk] at c
        rw [ic (by omega), hf (k + 1) hk]
        exact hit (k + 1) hk e (fun q => c ((nI_i0 (dg31 N (k + 1))).mpr q))
  exact ⟨17, main 15 17 (by omega) (by omega) (hi_top hN)⟩
/-! longs -/
theorem l_mask {n : Nat} (h : n < 2 ^ 64) : lN n &&& 2147483647 = lN (n % 2147483648) := by
  have := wb_mask (n := n) (k := 31) h (by decide)
  exact this
theorem l_sh31 {n : Nat} (h : n < 2 ^ 64) : ((lN n).toUInt64 >>> ((31 : Int32).toInt64.toUInt64 &&& Int64.toUInt64 63)).toInt64 = lN (n / 2147483648) := by
  have := wb_shr (n := n) (k := 31) h (by decide)
  exact this
theorem l_up31 (n : Nat) : lN n <<< ((31 : Int32).toInt64 &&& 63) = lN (n * 2147483648) := by
  have := wb_shl n (k := 31) (by decide)
  exact this
theorem sp_addMultiple {f g : Nat → Int32} {N M v : Nat} {post : (Nat → Int32) → Prop} (hf : rp f N) (hg : rp g M) (hv : v < 2147483648) (hp : ∀ f', rp f' (N + M * v) → post f') : wp_Natural_addMultiple post g (lN v) f := by
  have main : ∀ (m k : Nat) (f : Nat → Int32) (c : Nat), k + m = 16 → c = (N % 2147483648 ^ k + M % 2147483648 ^ k * v) / 2147483648 ^ k → c < 2 ^ 32 → (∀ j, j < 16 → f j = nI (if j < k then dg (N + M * v) j else dg N j)) → wp_Natural_addMultiple_6 post g (m + 1) (lN v) (lN c) (nI k) f := by
    intro m
    induction m with
    | zero =>
      intro k f c hk hc hc2 hh
      unfold wp_Natural_addMultiple_6
      refine ⟨fun _ => hp _ (fun j hj => ?_), fun q => absurd ((l16 (by omega)).mpr (by omega)) q⟩
      rw [hh j hj, if_pos (by omega)]
    | succ m ih =>
      intro k f c hk hc hc2 hh
      unfold wp_Natural_addMultiple_6
      refine ⟨fun q => absurd ((l16 (by omega)).mp q) (by omega), fun _ => ⟨i16 (by omega), i16 (by omega), fun x ex => ⟨i16 (by omega), fun y ey z ez => ?_⟩⟩⟩
      have h1 := dg_lt N k
      have h2 := dg_lt M k
      have h3 : dg M k * v ≤ 2147483647 * 2147483647 := Nat.mul_le_mul (by omega) (by omega)
      have e1 : x = lN (dg N k + dg M k * v + c) := by
        rw [ex, ic (by omega), hh k (by omega), if_neg (by omega), hg k (by omega), nI_l (dg31 N k), nI_l (dg31 M k), lN_mul, lN_add, lN_add]
      have e2 : y = lN ((dg N k + dg M k * v + c) / 2147483648) := by rw [ey, e1, l_sh31 (by omega)]
      have e3 : (x &&& 2147483647).toInt32 = nI ((dg N k + dg M k * v + c) % 2147483648) := by rw [e1, l_mask (by omega), lN_i]
      rw [e2, e3, ez, nI_1, ic (by omega)]
      refine ih (k + 1) _ _ (by omega) ?_ (by omega) (fun j hj => ?_)
      · rw [dg_amc, ← hc]
        congr 1
        omega
      · by_cases q : j = k
        · rw [q, pk_us, if_pos (by omega), dg_am, ← hc]
          congr 1
          congr 1
          omega
        · rw [pk_un q, hh j hj]
          by_cases q2 : j < k
          · rw [if_pos q2, if_pos (by omega)]
          · rw [if_neg q2, if_neg (by omega)]
  refine ⟨17, main 16 0 f 0 rfl ?_ (by omega) (fun j hj => ?_)⟩
  · simp [Nat.mod_one]
  · rw [if_neg (by omega)]
    exact hf j hj
theorem sp_multiply {f : Nat → Int32} {N v : Nat} {post : (Nat → Int32) → Prop} (hf : rp f N) (hv : v < 2147483648) (hp : ∀ f', rp f' (N * v) → post f') : wp_Natural_multiply post (lN v) f := by
  have z0 : ∀ k, dg 0 k = 0 := fun k => by simp [dg]
  have main : ∀ (m k : Nat) (f : Nat → Int32) (c : Nat), k + m = 16 → c = (0 % 2147483648 ^ k + N % 2147483648 ^ k * v) / 2147483648 ^ k → c < 2 ^ 32 → (∀ j, j < 16 → f j = nI (if j < k then dg (0 + N * v) j else dg N j)) → wp_Natural_multiply_5 post (m + 1) (lN v) (lN c) (nI k) f := by
    intro m
    induction m with
    | zero =>
      intro k f c hk hc hc2 hh
      unfold wp_Natural_multiply_5
      refine ⟨fun _ => hp _ (fun j hj => ?_), fun q => absurd ((l16 (by omega)).mpr (by omega)) q⟩
      rw [hh j hj, if_pos (by omega), Nat.zero_add]
    | succ m ih =>
      intro k f c hk hc hc2 hh
      unfold wp_Natural_multiply_5
      refine ⟨fun q => absurd ((l16 (by omega)).mp q) (by omega), fun _ => ⟨i16 (by omega), fun x ex => ⟨i16 (by omega), fun y ey z ez => ?_⟩⟩⟩
      have h2 := dg_lt N k
      have h3 : dg N k * v ≤ 2147483647 * 2147483647 := Nat.mul_le_mul (by omega) (by omega)
      have e1 : x = lN (dg N k * v + c) := by
        rw [ex, ic (by omega), hh k (by omega), if_neg (by omega), nI_l (dg31 N k), lN_mul, lN_add]
      have e2 : y = lN ((dg N k * v + c) / 2147483648) := by rw [ey, e1, l_sh31 (by omega)]
      have e3 : (x &&& 2147483647).toInt32 = nI ((dg N k * v + c) % 2147483648) := by rw [e1, l_mask (by omega), lN_i]
      rw [e2, e3, ez, nI_1, ic (by omega)]
      refine ih (k + 1) _ _ (by omega) ?_ (by omega) (fun j hj => ?_)
      · rw [dg_amc, ← hc, z0]
        congr 1
        omega
      · by_cases q : j = k
        · rw [q, pk_us, if_pos (by omega), dg_am, ← hc, z0]
          congr 1
          congr 1
          omega
        · rw [pk_un q, hh j hj]
          by_cases q2 : j < k
          · rw [if_pos q2, if_pos (by omega)]
          · rw [if_neg q2, if_neg (by omega)]
  refine ⟨17, main 16 0 f 0 rfl ?_ (by omega) (fun j hj => ?_)⟩
  · simp [Nat.mod_one]
  · rw [if_neg (by omega)]
    exact hf j hj
