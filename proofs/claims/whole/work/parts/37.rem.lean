/-! pure: remainders by a prime below 2 ^ 31 -/
theorem l_lt0 {a b : Nat} (ha : a < 2 ^ 63) (hb : b < 2 ^ 63) : lg_cmp (lN a) (lN b) < 0 ↔ a < b := by rw [lg_cmp_lt]; exact pk_lLT ha hb
theorem l_le0 {a b : Nat} (ha : a < 2 ^ 63) (hb : b < 2 ^ 63) : lg_cmp (lN a) (lN b) ≤ 0 ↔ a ≤ b := by rw [lg_cmp_le]; exact pk_lLE ha hb
theorem l_eq0 {a b : Nat} (ha : a < 2 ^ 63) (hb : b < 2 ^ 63) : lg_cmp (lN a) (lN b) = 0 ↔ a = b := by rw [lg_cmp_eq]; exact pk_lEQ ha hb
theorem l_ge0 {a b : Nat} (ha : a < 2 ^ 63) (hb : b < 2 ^ 63) : 0 ≤ lg_cmp (lN a) (lN b) ↔ b ≤ a := by rw [lg_cmp_ge]; exact pk_lLE hb ha
theorem lN_sb {a b p : Nat} (h : b ≤ a + p) : lN a - lN b + lN p = lN (a + p - b) := by
  rw [← lN_sub h, ← lN_add]
  grind
theorem sp_minus {p a b : Nat} (hp : p < 2147483648) (ha : a < p) (hb : b < p) {post : Int64 → Prop} (h : post (lN ((a + p - b) % p))) : wp_Remainders_minus post (lN p) (lN a) (lN b) := by
  unfold wp_Remainders_minus wp_Remainders_minus_20
  refine ⟨fun c => ?_, fun c => ?_⟩
  · have c' := (l_lt0 (by omega) (by omega)).mp c
    rw [lN_sb (by omega)]
    rw [Nat.mod_eq_of_lt (by omega)] at h
    exact h
  · have c' : ¬ a < b := fun q => c ((l_lt0 (by omega) (by omega)).mpr q)
    rw [lN_sub (by omega)]
    have e : (a + p - b) % p = a - b := by
      rw [show a + p - b = a - b + p by omega, Nat.add_mod_right]
      exact Nat.mod_eq_of_lt (by omega)
    rw [e] at h
    exact h
theorem sp_plusTimes {p a b c : Nat} (h0 : 0 < p) (hp : p < 2147483648) (ha : a < 2147483648) (hb : b < 2147483648) (hc : c < 2147483648) {post : Int64 → Prop} (h : post (lN ((a + b * c) % p))) : wp_Remainders_plusTimes post (lN p) (lN a) (lN b) (lN c) := by
  unfold wp_Remainders_plusTimes wp_Remainders_plusTimes_24
  have hbc : b * c ≤ 2147483647 * 2147483647 := Nat.mul_le_mul (by omega) (by omega)
  refine ⟨fun q => absurd ((l_le0 (b := 0) (by omega) (by omega)).mp q) (by omega), fun _ => ⟨l_ne0 h0 (by omega), ?_⟩⟩
  rw [lN_mul, lN_add, pk_lRem (by omega) h0 (by omega)]
  exact h
theorem sp_times {p b c : Nat} (h0 : 0 < p) (hp : p < 2147483648) (hb : b < 2147483648) (hc : c < 2147483648) {post : Int64 → Prop} (h : post (lN (b * c % p))) : wp_Remainders_times post (lN p) (lN b) (lN c) := by
  unfold wp_Remainders_times
  refine sp_plusTimes (a := 0) h0 hp (by omega) hb hc ?_
  rw [Nat.zero_add]
  exact h
theorem sp_inverse {p a : Nat} (h1 : 1 < p) (hp : p < 2147483648) (ha : a < p) {post : Int64 → Prop} (h : post (lN (a ^ (p - 2) % p))) : wp_Remainders_inverse post (lN p) (lN a) := by
  unfold wp_Remainders_inverse
  intro x ex
  have e2 : x = lN (p - 2) := by rw [ex]; exact lN_sub (b := 2) (by omega)
  rw [e2]
  have main : ∀ (n r w e : Nat), e < n → r < p → w < p → e < 2 ^ 31 → r * w ^ e % p = a ^ (p - 2) % p → wp_Remainders_inverse_15 post (lN p) n (lN r) (lN w) (lN e) := by
    intro n
    induction n with
    | zero => intro r w e he; exact absurd he (Nat.not_lt_zero _)
    | succ n ih =>
      intro r w e he hr hw he2 hm
      have back : ∀ r', r' < p → e ≠ 0 → r' * (w * w % p) ^ (e / 2) % p = a ^ (p - 2) % p → wp_Remainders_inverse_39 post (lN p) (wp_Remainders_inverse_15 post (lN p) n) (lN r') (lN w) (lN e) := by
        intro r' hr' h0 hm'
        unfold wp_Remainders_inverse_39
        refine sp_times (by omega) hp (by omega) (by omega) ?_
        intro y ey
        have ey2 : y = lN (e / 2) := by
          rw [ey, pf_shr (d := 1) (by decide) (by omega)]
        rw [ey2]
        exact ih r' _ (e / 2) (by omega) hr' (Nat.mod_lt _ (by omega)) (by omega) hm'
      have pw : ∀ z : Nat, z * (w * w % p) ^ (e / 2) % p = z * (w * w) ^ (e / 2) % p := by
        intro z
        rw [Nat.mul_mod, ← Nat.pow_mod, ← Nat.mul_mod]
      unfold wp_Remainders_inverse_15
      refine ⟨fun c => ?_, fun c => ⟨fun q => ?_, fun q => ?_⟩⟩
      · have h0 : e = 0 := by have := (l_le0 (b := 0) (by omega) (by omega)).mp c; omega
        subst h0
        rw [Nat.pow_zero, Nat.mul_one, Nat.mod_eq_of_lt hr] at hm
        rw [hm]
        exact h
      · have h0 : e ≠ 0 := fun z => c ((l_le0 (b := 0) (by omega) (by omega)).mpr (by omega))
        rw [wb_a1 (by omega)] at q
        have q' := (l_eq0 (a := e % 2) (b := 1) (by omega) (by omega)).mp q
        refine sp_times (by omega) hp (by omega) (by omega) ?_
        refine back _ (Nat.mod_lt _ (by omega)) h0 ?_
        rw [pw, Nat.mod_mul_mod, ← hm]
        congr 1
        have e3 : w ^ e = w * (w * w) ^ (e / 2) := by
          conv => lhs; rw [show e = 2 * (e / 2) + 1 by omega]
          rw [Nat.pow_succ, Nat.pow_mul, Nat.mul_comm, Nat.pow_two]
        rw [e3, Nat.mul_assoc]
      · have h0 : e ≠ 0 := fun z => c ((l_le0 (b := 0) (by omega) (by omega)).mpr (by omega))
        rw [wb_a1 (by omega)] at q
        have q' : ¬ e % 2 = 1 := fun z => q ((l_eq0 (a := e % 2) (b := 1) (by omega) (by omega)).mpr z)
        refine back r hr h0 ?_
        rw [pw, ← hm]
        congr 1
        have e3 : w ^ e = (w * w) ^ (e / 2) := by
          conv => lhs; rw [show e = 2 * (e / 2) by omega]
          rw [Nat.pow_mul, Nat.pow_two]
        rw [e3]
  exact ⟨p - 2 + 1, main (p - 2 + 1) 1 a (p - 2) (by omega) (by omega) ha (by omega) (by rw [Nat.one_mul])⟩
/-! the cells as a matrix -/
def mx (n : Nat) (f : Nat → Int32) (C : Nat → Nat → Nat) : Prop := ∀ i j, i < n → j ≤ n → f (i * 41 + j) = nI (C i j)
theorem i41 (i j : Nat) : nI i * 41 + nI j = nI (i * 41 + j) := by
  have e : (41 : Int32) = nI 41 := rfl
  rw [e, pk_mul, nI_add]
theorem v41 {i j : Nat} (hi : i < 40) (hj : j < 41) : vp_in (nI (i * 41 + j)) 1640 := vp_in_nI (by omega) (by decide)
theorem c41 {i j : Nat} (hi : i < 40) (hj : j < 41) : (nI (i * 41 + j)).toNatClampNeg = i * 41 + j := nI_clamp (by omega)
theorem ne41 {i j r c : Nat} (hj : j < 41) (hc : c < 41) (h : ¬ (r = i ∧ c = j)) : r * 41 + c ≠ i * 41 + j := by omega
theorem mx_upd {n : Nat} {f : Nat → Int32} {C : Nat → Nat → Nat} {i j v : Nat} (hn : n ≤ 40) (h : mx n f C) (hj : j ≤ n) : mx n (upd f (i * 41 + j) (nI v)) (fun r c => if r = i ∧ c = j then v else C r c) := by
  intro r c hr hc
  show upd f (i * 41 + j) (nI v) (r * 41 + c) = nI (if r = i ∧ c = j then v else C r c)
  by_cases q : r = i ∧ c = j
  · rw [if_pos q, q.1, q.2, pk_us]
  · rw [if_neg q, pk_un (ne41 (by omega) (by omega) q)]
    exact h r c hr hc
theorem mx_cg {n : Nat} {f : Nat → Int32} {C C' : Nat → Nat → Nat} (h : mx n f C) (e : ∀ i j, i < n → j ≤ n → C i j = C' i j) : mx n f C' := fun i j hi hj => by rw [h i j hi hj, e i j hi hj]
theorem sp_pivotRow {n k : Nat} {f : Nat → Int32} {g : Nat → Int64} {C : Nat → Nat → Nat} {ed rp : Int64} {post : Int32 → Prop} (hn : n ≤ 40) (hk : k < n) (hC : mx n f C) (hb : ∀ i j, i < n → j ≤ n → C i j < 2147483648)
    (h1 : ∀ i, k ≤ i → i < n → ¬ C i k = 0 → post (nI i)) (h0 : (∀ i, k ≤ i → i < n → C i k = 0) → post (-1)) : wp_Equations_pivotRow post (nI n) ed rp f g (nI k) := by
  have main : ∀ (m i : Nat), i + m = n → k ≤ i → (∀ r, k ≤ r → r < i → C r k = 0) → wp_Equations_pivotRow_2 post (nI n) ed rp f g (m + 1) (nI k) (nI i) := by
    intro m
    induction m with
    | zero =>
      intro i hi hki hz
      unfold wp_Equations_pivotRow_2
      exact ⟨fun _ => h0 (fun r a b => hz r a (by omega)), fun c => absurd (nI_le (by omega) (by omega)) c⟩
    | succ m ih =>
      intro i hi hki hz
      unfold wp_Equations_pivotRow_2
      refine ⟨fun c => absurd ((nI_leI (by omega) (by omega)).mp c) (by omega), fun _ => ?_⟩
      rw [i41, c41 (by omega) (by omega), hC i k (by omega) (by omega)]
      refine ⟨v41 (by omega) (by omega), fun c x ex => ?_, fun c => ?_⟩
      · rw [ex, nI_1]
        refine ih (i + 1) (by omega) (by omega) (fun r a b => ?_)
        by_cases q : r = i
        · rw [q]; exact (nI_i0 (hb i k (by omega) (by omega))).mp c
        · exact hz r a (by omega)
      · exact h1 i hki (by omega) (fun q => c ((nI_i0 (hb i k (by omega) (by omega))).mpr q))
  exact ⟨n - k + 1, main (n - k) k (by omega) (by omega) (fun r a b => absurd a (by omega))⟩
theorem sp_swapRows {n a b : Nat} {f : Nat → Int32} {g : Nat → Int64} {C : Nat → Nat → Nat} {ed rp : Int64} {post : (Nat → Int32) → Prop} (hn : n ≤ 40) (ha : a < n) (hb : b < n) (hab : a ≠ b) (hC : mx n f C)
    (hp : ∀ f', mx n f' (fun r c => if r = a then C b c else if r = b then C a c else C r c) → post f') : wp_Equations_swapRows post (nI n) ed rp g (nI a) (nI b) f := by
  have main : ∀ (m j : Nat) (f : Nat → Int32), j + m = n + 1 → mx n f (fun r c => if c < j then (if r = a then C b c else if r = b then C a c else C r c) else C r c) → wp_Equations_swapRows_2 post (nI n) ed rp g (m + 1) (nI a) (nI b) (nI j) f := by
    intro m
    induction m with
    | zero =>
      intro j f hj hm
      unfold wp_Equations_swapRows_2
      exact ⟨fun _ => hp f (mx_cg hm (fun i c _ hc => by rw [if_pos (by omega)])), fun c => absurd (nI_lt (by omega) (by omega)) c⟩
    | succ m ih =>
      intro j f hj hm
      unfold wp_Equations_swapRows_2
      refine ⟨fun c => absurd ((nI_ltI (by omega) (by omega)).mp c) (by omega), fun _ => ?_⟩
      rw [i41, i41, c41 (by omega) (by omega), c41 (by omega) (by omega)]
      refine ⟨v41 (by omega) (by omega), fun x ex => ⟨v41 (by omega) (by omega), v41 (by omega) (by omega), v41 (by omega) (by omega), fun y ey => ?_⟩⟩
      rw [hm a j ha (by omega)] at ex
      rw [ey, nI_1, ex, hm b j hb (by omega)]
      simp only [Nat.lt_irrefl, if_false]
      refine ih (j + 1) _ (by omega) (mx_cg (mx_upd (i := b) (j := j) hn (mx_upd (i := a) (j := j) hn hm (by omega)) (by omega)) (fun r c hr hc => ?_))
      by_cases q : c = j
      · subst q
        by_cases q1 : r = b
        · subst q1
          simp [Ne.symm hab]
        · by_cases q2 : r = a
          · subst q2
            simp [hab]
          · simp [q1, q2]
      · by_cases q3 : c < j
        · simp [q, q3, show c < j + 1 by omega]
        · simp [q, q3, show ¬ c < j + 1 by omega]
  exact ⟨n + 2, main (n + 1) 0 f (by omega) (mx_cg hC (fun r c _ _ => by rw [if_neg (by omega)]))⟩
theorem sp_scaleRow {n k p v : Nat} {f : Nat → Int32} {g : Nat → Int64} {C : Nat → Nat → Nat} {ed : Int64} {post : (Nat → Int32) → Prop} (hn : n ≤ 40) (hk : k < n) (h0 : 0 < p) (hp : p < 2147483648) (hv : v < 2147483648) (hC : mx n f C) (hb : ∀ i j, i < n → j ≤ n → C i j < 2147483648)
    (hpost : ∀ f', mx n f' (fun r c => if r = k ∧ k ≤ c then C r c * v % p else C r c) → post f') : wp_Equations_scaleRow post (nI n) ed (lN p) g (nI k) (lN v) f := by
  have main : ∀ (m j : Nat) (f : Nat → Int32), j + m = n + 1 → k ≤ j → mx n f (fun r c => if r = k ∧ k ≤ c ∧ c < j then C r c * v % p else C r c) → wp_Equations_scaleRow_3 post (nI n) ed (lN p) g (m + 1) (nI k) (lN v) (nI j) f := by
    intro m
    induction m with
    | zero =>
      intro j f hj hkj hm
      unfold wp_Equations_scaleRow_3
      refine ⟨fun _ => hpost f (mx_cg hm (fun i c _ hc => ?_)), fun c => absurd (nI_lt (by omega) (by omega)) c⟩
      by_cases q : i = k ∧ k ≤ c
      · rw [if_pos ⟨q.1, q.2, by omega⟩, if_pos q]
      · rw [if_neg (fun z => q ⟨z.1, z.2.1⟩), if_neg q]
    | succ m ih =>
      intro j f hj hkj hm
      unfold wp_Equations_scaleRow_3
      refine ⟨fun c => absurd ((nI_ltI (by omega) (by omega)).mp c) (by omega), fun _ => ?_⟩
      rw [i41, c41 (by omega) (by omega), hm k j hk (by omega)]
      simp only [Nat.lt_irrefl, and_false, if_false]
      have hcj := hb k j hk (by omega)
      refine ⟨v41 (by omega) (by omega), ?_⟩
      rw [nI_l (by omega)]
      refine sp_times h0 hp hcj hv ⟨v41 (by omega) (by omega), fun x ex => ?_⟩
      rw [ex, nI_1, lN_i]
      refine ih (j + 1) _ (by omega) (by omega) (mx_cg (mx_upd (i := k) (j := j) hn hm (by omega)) (fun r c hr hc => ?_))
      by_cases q : r = k ∧ c = j
      · rw [if_pos q, if_pos ⟨q.1, by omega, by omega⟩, q.1, q.2]
      · rw [if_neg q]
        by_cases q2 : r = k ∧ k ≤ c ∧ c < j
        · rw [if_pos q2, if_pos ⟨q2.1, q2.2.1, by omega⟩]
        · rw [if_neg q2, if_neg (fun z => q2 ⟨z.1, z.2.1, by have := z.2.2; have : c ≠ j := fun w => q ⟨z.1, w⟩; omega⟩)]
  exact ⟨n + 1 - k + 1, main (n + 1 - k) k f (by omega) (by omega) (mx_cg hC (fun r c _ _ => by rw [if_neg (fun z => by have := z.2; omega)]))⟩
theorem sp_clearCell {n i k p : Nat} {f : Nat → Int32} {g : Nat → Int64} {C : Nat → Nat → Nat} {ed : Int64} {post : (Nat → Int32) → Prop} (hn : n ≤ 40) (hi : i < n) (hk : k < n) (hik : i ≠ k) (h0 : 1 < p) (hp : p < 2147483648) (hC : mx n f C) (hb : ∀ i j, i < n → j ≤ n → C i j < p)
    (hpost : ∀ f', mx n f' (fun r c => if r = i ∧ k ≤ c then (if c = k then 0 else (C i c + (p - C i k) * C k c) % p) else C r c) → post f') : wp_Equations_clearCell post (nI n) ed (lN p) g (nI i) (nI k) f := by
  unfold wp_Equations_clearCell
  refine ⟨fun _ x ex y ey => ?_, fun c => absurd ((l_ge0 (b := 1) (by omega) (by omega)).mpr (by omega)) c⟩
  have e41 : (41 : Int32) = nI 41 := rfl
  have ex2 : x = nI (i * 41) := by rw [ex, e41, pk_mul]
  have ey2 : y = nI (k * 41) := by rw [ey, e41, pk_mul]
  have hv := hb i k hi (by omega)
  rw [ex2, ey2, nI_add, c41 (by omega) (by omega), hC i k hi (by omega)]
  refine ⟨v41 (by omega) (by omega), fun z ez => ⟨v41 (by omega) (by omega), fun w ew => ?_⟩⟩
  rw [nI_l (by omega), lN_sub (by omega)] at ez
  rw [ez, ew, nI_1]
  have main : ∀ (m j : Nat) (f : Nat → Int32), j + m = n + 1 → k < j → mx n f (fun r c => if r = i ∧ k ≤ c ∧ c < j then (if c = k then 0 else (C i c + (p - C i k) * C k c) % p) else C r c) → wp_Equations_clearCell_56 post (nI n) ed (lN p) g (m + 1) (lN p) (nI (i * 41)) (nI (k * 41)) (lN (p - C i k)) (nI j) f := by
    intro m
    induction m with
    | zero =>
      intro j f hj hkj hm
      unfold wp_Equations_clearCell_56
      refine ⟨fun _ => hpost f (mx_cg hm (fun r c _ hc => ?_)), fun c => absurd (nI_lt (by omega) (by omega)) c⟩
      by_cases q : r = i ∧ k ≤ c
      · rw [if_pos ⟨q.1, q.2, by omega⟩, if_pos q]
      · rw [if_neg (fun z => q ⟨z.1, z.2.1⟩), if_neg q]
    | succ m ih =>
      intro j f hj hkj hm
      unfold wp_Equations_clearCell_56
      refine ⟨fun c => absurd ((nI_ltI (by omega) (by omega)).mp c) (by omega), fun _ => ?_⟩
      rw [nI_add, nI_add, c41 (by omega) (by omega), c41 (by omega) (by omega), hm i j hi (by omega), hm k j hk (by omega)]
      simp only [Nat.lt_irrefl, and_false, if_false, Ne.symm hik, false_and]
      have c1 := hb i j hi (by omega)
      have c2 := hb k j hk (by omega)
      refine ⟨v41 (by omega) (by omega), v41 (by omega) (by omega), l_ne0 (by omega) (by omega), v41 (by omega) (by omega), fun x ex => ?_⟩
      have c3 : (p - C i k) * C k j ≤ 2147483647 * 2147483647 := Nat.mul_le_mul (by omega) (by omega)
      rw [ex, nI_1, nI_l (by omega), nI_l (by omega), lN_mul, lN_add, pk_lRem (by omega) (by omega) (by omega), lN_i]
      refine ih (j + 1) _ (by omega) (by omega) (mx_cg (mx_upd (i := i) (j := j) hn hm (by omega)) (fun r c hr hc => ?_))
      by_cases q : r = i ∧ c = j
      · rw [if_pos q, if_pos ⟨q.1, by omega, by omega⟩, if_neg (by omega), q.2]
      · rw [if_neg q]
        by_cases q2 : r = i ∧ k ≤ c ∧ c < j
        · rw [if_pos q2, if_pos (show r = i ∧ k ≤ c ∧ c < j + 1 from ⟨q2.1, q2.2.1, by omega⟩)]
        · rw [if_neg q2, if_neg (fun z => q2 ⟨z.1, z.2.1, by have := z.2.2; have : c ≠ j := fun w => q ⟨z.1, w⟩; omega⟩)]
  refine ⟨n - k + 1, main (n - k) (k + 1) _ (by omega) (by omega) ?_⟩
  have h := mx_upd (i := i) (j := k) (v := 0) hn hC (by omega)
  refine mx_cg h (fun r c hr hc => ?_)
  by_cases q : r = i ∧ c = k
  · rw [if_pos q, if_pos ⟨q.1, by omega, by omega⟩, if_pos q.2]
  · rw [if_neg q, if_neg (fun z => q ⟨z.1, by omega⟩)]
