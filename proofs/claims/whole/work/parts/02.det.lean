/-! pure: sums, determinants by rows -/
def su (f : Nat → Int) : Nat → Int
  | 0 => 0
  | n + 1 => su f n + f n
theorem su_s (f : Nat → Int) (n : Nat) : su f (n + 1) = su f n + f n := rfl
theorem su_congr {f g : Nat → Int} : ∀ n : Nat, (∀ i, i < n → f i = g i) → su f n = su g n
  | 0, _ => rfl
  | n + 1, h => by rw [su_s, su_s, su_congr n (fun i hi => h i (by omega)), h n (by omega)]
theorem su_add (f g : Nat → Int) : ∀ n : Nat, su (fun i => f i + g i) n = su f n + su g n
  | 0 => rfl
  | n + 1 => by rw [su_s, su_s, su_s, su_add f g n]; omega
theorem su_sub (f g : Nat → Int) : ∀ n : Nat, su (fun i => f i - g i) n = su f n - su g n
  | 0 => rfl
  | n + 1 => by rw [su_s, su_s, su_s, su_sub f g n]; omega
theorem su_mul (c : Int) (f : Nat → Int) : ∀ n : Nat, su (fun i => c * f i) n = c * su f n
  | 0 => by simp [su]
  | n + 1 => by rw [su_s, su_s, su_mul c f n, Int.mul_add]
theorem su_zero {f : Nat → Int} : ∀ n : Nat, (∀ i, i < n → f i = 0) → su f n = 0
  | 0, _ => rfl
  | n + 1, h => by rw [su_s, su_zero n (fun i hi => h i (by omega)), h n (by omega)]; rfl
theorem su_nonneg {f : Nat → Int} : ∀ n : Nat, (∀ i, i < n → 0 ≤ f i) → 0 ≤ su f n
  | 0, _ => Int.le_refl 0
  | n + 1, h => by
    have h1 := su_nonneg n (fun i hi => h i (by omega))
    have h2 := h n (by omega)
    rw [su_s]
    omega
theorem su_nonpos {f : Nat → Int} : ∀ n : Nat, (∀ i, i < n → f i ≤ 0) → su f n ≤ 0
  | 0, _ => Int.le_refl 0
  | n + 1, h => by
    have h1 := su_nonpos n (fun i hi => h i (by omega))
    have h2 := h n (by omega)
    rw [su_s]
    omega
/-- all terms at most 0: the sum is at most any of them -/
theorem su_le_term {f : Nat → Int} : ∀ (n i : Nat), i < n → (∀ j, j < n → f j ≤ 0) → su f n ≤ f i
  | 0, _, h, _ => absurd h (Nat.not_lt_zero _)
  | n + 1, i, hi, h => by
    rw [su_s]
    by_cases c : i = n
    · subst c
      have h1 := su_nonpos i (fun j hj => h j (by omega))
      omega
    · have h1 := su_le_term n i (by omega) (fun j hj => h j (by omega))
      have h2 := h n (by omega)
      omega
theorem su_one {f : Nat → Int} : ∀ (n i : Nat), i < n → (∀ r, r < n → r ≠ i → f r = 0) → su f n = f i
  | 0, _, h, _ => absurd h (Nat.not_lt_zero _)
  | n + 1, i, hi, h => by
    rw [su_s]
    by_cases c : i = n
    · subst c
      rw [su_zero i (fun r hr => h r (by omega) (by omega))]
      omega
    · rw [su_one n i (by omega) (fun r hr hn => h r (by omega) hn), h n (by omega) (fun q => c q.symm)]
      omega
theorem su_two {f : Nat → Int} : ∀ (n i : Nat), i + 1 < n → (∀ r, r < n → r ≠ i → r ≠ i + 1 → f r = 0) → su f n = f i + f (i + 1)
  | 0, _, h, _ => absurd h (Nat.not_lt_zero _)
  | n + 1, i, hi, h => by
    rw [su_s]
    by_cases c : i + 1 = n
    · subst c
      rw [su_one (i + 1) i (by omega) (fun r hr hn => h r (by omega) hn (by omega))]
    · rw [su_two n i (by omega) (fun r hr h1 h2 => h r (by omega) h1 h2), h n (by omega) (by omega) (fun q => c q.symm)]
      omega
theorem su_shift (f : Nat → Int) : ∀ n : Nat, su f (n + 1) = f 0 + su (fun i => f (i + 1)) n
  | 0 => by simp [su]
  | n + 1 => by rw [su_s, su_shift f n, su_s]; omega
theorem su_split (f : Nat → Int) : ∀ (n i : Nat), i < n → su f n = f i + su (fun j => if j = i then 0 else f j) n
  | 0, _, h => absurd h (Nat.not_lt_zero _)
  | n + 1, i, hi => by
    rw [su_s, su_s]
    by_cases c : i = n
    · subst c
      rw [su_congr (f := fun j => if j = i then 0 else f j) (g := f) i (fun j hj => by simp [show ¬ j = i by omega])]
      simp
      omega
    · rw [su_split f n i (by omega)]
      simp only [show ¬ n = i from fun q => c q.symm, if_false]
      omega
theorem su_dvd {p : Int} {f : Nat → Int} : ∀ n : Nat, (∀ i, i < n → p ∣ f i) → p ∣ su f n
  | 0, _ => Int.dvd_zero p
  | n + 1, h => by
    rw [su_s]
    exact Int.dvd_add (su_dvd n (fun i hi => h i (by omega))) (h n (by omega))
def mi (A : Nat → Nat → Int) (i : Nat) : Nat → Nat → Int := fun r c => A (if r < i then r else r + 1) (c + 1)
def sg (i : Nat) : Int := if i % 2 = 0 then 1 else -1
theorem sg_s (i : Nat) : sg (i + 1) = - sg i := by
  unfold sg
  rcases Nat.mod_two_eq_zero_or_one i with h | h
  · rw [if_pos h, if_neg (by omega)]
  · rw [if_pos (by omega), if_neg (by omega)]; rfl
def dt : Nat → (Nat → Nat → Int) → Int
  | 0, _ => 1
  | n + 1, A => su (fun i => sg i * A i 0 * dt n (mi A i)) (n + 1)
theorem dt_s (n : Nat) (A : Nat → Nat → Int) : dt (n + 1) A = su (fun i => sg i * A i 0 * dt n (mi A i)) (n + 1) := rfl
theorem dt_congr : ∀ (n : Nat) (A B : Nat → Nat → Int), (∀ i j, i < n → j < n → A i j = B i j) → dt n A = dt n B
  | 0, _, _, _ => rfl
  | n + 1, A, B, h => by
    rw [dt_s, dt_s]
    refine su_congr _ (fun i hi => ?_)
    rw [h i 0 hi (by omega), dt_congr n (mi A i) (mi B i) (fun r c hr hc => ?_)]
    unfold mi
    split
    · exact h _ _ (by omega) (by omega)
    · exact h _ _ (by omega) (by omega)
theorem dt_cg (p : Int) : ∀ (n : Nat) (A B : Nat → Nat → Int), (∀ i j, i < n → j < n → p ∣ A i j - B i j) → p ∣ dt n A - dt n B
  | 0, _, _, _ => by simp [dt]
  | n + 1, A, B, h => by
    rw [dt_s, dt_s, ← su_sub]
    refine su_dvd _ (fun i hi => ?_)
    have h1 := h i 0 hi (by omega)
    have h2 := dt_cg p n (mi A i) (mi B i) (fun r c hr hc => by
      unfold mi
      split
      · exact h _ _ (by omega) (by omega)
      · exact h _ _ (by omega) (by omega))
    generalize dt n (mi A i) = x at h2 ⊢
    generalize dt n (mi B i) = y at h2 ⊢
    generalize A i 0 = a at h1 ⊢
    generalize B i 0 = b at h1 ⊢
    obtain ⟨u, hu⟩ := h1
    obtain ⟨v, hv⟩ := h2
    refine ⟨sg i * (a * v + u * y), ?_⟩
    have e1 : a = b + p * u := by omega
    have e2 : x = y + p * v := by omega
    subst e1 e2
    grind
def rs (A : Nat → Nat → Int) (i : Nat) (v : Nat → Int) : Nat → Nat → Int := fun r c => if r = i then v c else A r c
theorem mi_rs_same (A : Nat → Nat → Int) (i : Nat) (v : Nat → Int) : mi (rs A i v) i = mi A i := by
  funext r c
  unfold mi rs
  split
  · rw [if_neg (by omega)]
  · rw [if_neg (by omega)]
theorem mi_rs_lt (A : Nat → Nat → Int) {i r : Nat} (h : i < r) (v : Nat → Int) : mi (rs A i v) r = rs (mi A r) i (fun c => v (c + 1)) := by
  funext x c
  unfold mi rs
  by_cases hx : x < r
  · simp only [hx, if_true]
  · simp only [hx, if_false]
    rw [if_neg (by omega), if_neg (by omega)]
theorem mi_rs_gt (A : Nat → Nat → Int) {i r : Nat} (h : r < i) (v : Nat → Int) : mi (rs A i v) r = rs (mi A r) (i - 1) (fun c => v (c + 1)) := by
  funext x c
  unfold mi rs
  by_cases hx : x < r
  · simp only [hx, if_true]
    rw [if_neg (by omega), if_neg (by omega)]
  · simp only [hx, if_false]
    by_cases hy : x = i - 1
    · rw [if_pos (by omega), if_pos hy]
    · rw [if_neg (by omega), if_neg hy]
theorem dt_lin : ∀ (n : Nat) (A : Nat → Nat → Int) (i : Nat) (u v : Nat → Int) (a b : Int), i < n → dt n (rs A i (fun c => a * u c + b * v c)) = a * dt n (rs A i u) + b * dt n (rs A i v)
  | 0, _, _, _, _, _, _, h => absurd h (Nat.not_lt_zero _)
  | n + 1, A, i, u, v, a, b, hi => by
    rw [dt_s, dt_s, dt_s, ← su_mul, ← su_mul, ← su_add]
    refine su_congr _ (fun r hr => ?_)
    by_cases c : r = i
    · subst c
      rw [mi_rs_same, mi_rs_same, mi_rs_same]
      have e : ∀ w : Nat → Int, rs A r w r 0 = w 0 := fun w => by simp [rs]
      rw [e, e, e]
      grind
    · have e : ∀ w : Nat → Int, rs A i w r 0 = A r 0 := fun w => by simp [rs, c]
      rw [e, e, e]
      rcases Nat.lt_or_ge i r with q | q
      · rw [mi_rs_lt A q, mi_rs_lt A q, mi_rs_lt A q, dt_lin n (mi A r) i (fun c => u (c + 1)) (fun c => v (c + 1)) a b (by omega)]
        grind
      · have q' : r < i := by omega
        rw [mi_rs_gt A q', mi_rs_gt A q', mi_rs_gt A q', dt_lin n (mi A r) (i - 1) (fun c => u (c + 1)) (fun c => v (c + 1)) a b (by omega)]
        grind
/-- two rows side by side that are the same -/
theorem dt_adj : ∀ (n : Nat) (A : Nat → Nat → Int) (i : Nat), i + 1 < n → (∀ c, c < n → A i c = A (i + 1) c) → dt n A = 0
  | 0, _, _, h, _ => absurd h (Nat.not_lt_zero _)
  | n + 1, A, i, hi, h => by
    rw [dt_s, su_two (n + 1) i hi (fun r hr h1 h2 => ?_)]
    · have e : dt n (mi A i) = dt n (mi A (i + 1)) := dt_congr n _ _ (fun r c hr hc => by
        unfold mi
        rcases Nat.lt_trichotomy r i with q | q | q
        · rw [if_pos q, if_pos (by omega)]
        · subst q
          rw [if_neg (by omega), if_pos (by omega)]
          exact (h (c + 1) (by omega)).symm
        · rw [if_neg (by omega), if_neg (by omega)])
      rw [e, h 0 (by omega), sg_s]
      grind
    · have e : dt n (mi A r) = 0 := by
        rcases Nat.lt_or_ge r i with q | q
        · refine dt_adj n (mi A r) (i - 1) (by omega) (fun c hc => ?_)
          unfold mi
          rw [if_neg (by omega), if_neg (by omega), show i - 1 + 1 = i by omega]
          exact h (c + 1) (by omega)
        · refine dt_adj n (mi A r) i (by omega) (fun c hc => ?_)
          unfold mi
          rw [if_pos (by omega), if_pos (by omega)]
          exact h (c + 1) (by omega)
      rw [e, Int.mul_zero]
theorem rs_comm (A : Nat → Nat → Int) {i k : Nat} (h : i ≠ k) (x y : Nat → Int) : rs (rs A i x) k y = rs (rs A k y) i x := by
  funext r c
  unfold rs
  by_cases q : r = i
  · subst q
    rw [if_neg h, if_pos rfl, if_pos rfl]
  · rw [if_neg q, if_neg q]
theorem rs_self (A : Nat → Nat → Int) (i : Nat) : rs A i (A i) = A := by
  funext r c
  unfold rs
  split
  · rename_i q
    rw [q]
  · rfl
theorem dt_sw {n : Nat} {A : Nat → Nat → Int} {i k : Nat} (hik : i ≠ k) (hi : i < n) (hk : k < n) (hz : ∀ w : Nat → Int, dt n (rs (rs A i w) k w) = 0) (x y : Nat → Int) : dt n (rs (rs A i x) k y) = - dt n (rs (rs A i y) k x) := by
  have l1 : ∀ u v z : Nat → Int, dt n (rs (rs A i (fun c => 1 * u c + 1 * v c)) k z) = dt n (rs (rs A i u) k z) + dt n (rs (rs A i v) k z) := by
    intro u v z
    rw [rs_comm A hik, dt_lin n _ i u v 1 1 hi, rs_comm A hik u z, rs_comm A hik v z]
    omega
  have l2 : ∀ z u v : Nat → Int, dt n (rs (rs A i z) k (fun c => 1 * u c + 1 * v c)) = dt n (rs (rs A i z) k u) + dt n (rs (rs A i z) k v) := by
    intro z u v
    rw [dt_lin n _ k u v 1 1 hk]
    omega
  have h0 := hz (fun c => 1 * x c + 1 * y c)
  rw [l1, l2, l2, hz x, hz y] at h0
  omega
theorem dt_eqd : ∀ (n d : Nat) (A : Nat → Nat → Int) (i : Nat), i + d + 1 < n → (∀ c, c < n → A i c = A (i + d + 1) c) → dt n A = 0
  | n, 0, A, i, hi, h => dt_adj n A i hi h
  | n, d + 1, A, i, hi, h => by
    have hz : ∀ w : Nat → Int, dt n (rs (rs A (i + d + 1) w) (i + d + 1 + 1) w) = 0 := fun w => by
      refine dt_adj n _ (i + d + 1) (by omega) (fun c _ => ?_)
      simp [rs]
    have e : A = rs (rs A (i + d + 1) (A (i + d + 1))) (i + d + 1 + 1) (A (i + d + 1 + 1)) := by
      rw [rs_self, rs_self]
    rw [e, dt_sw (by omega) (by omega) (by omega) hz]
    rw [dt_eqd n d _ i (by omega) (fun c hc => ?_)]
    · rfl
    · have h1 := h c hc
      rw [show i + (d + 1) + 1 = i + d + 1 + 1 by omega] at h1
      simp only [rs]
      rw [if_neg (by omega), if_neg (by omega), if_neg (by omega), if_pos trivial]
      exact h1
/-- two rows that are the same -/
theorem dt_eq {n : Nat} {A : Nat → Nat → Int} {i k : Nat} (hik : i ≠ k) (hi : i < n) (hk : k < n) (h : ∀ c, c < n → A i c = A k c) : dt n A = 0 := by
  rcases Nat.lt_or_ge i k with q | q
  · refine dt_eqd n (k - i - 1) A i (by omega) (fun c hc => ?_)
    rw [show i + (k - i - 1) + 1 = k by omega]
    exact h c hc
  · refine dt_eqd n (i - k - 1) A k (by omega) (fun c hc => ?_)
    rw [show k + (i - k - 1) + 1 = i by omega]
    exact (h c hc).symm
theorem dt_swap {n : Nat} {A : Nat → Nat → Int} {i k : Nat} (hik : i ≠ k) (hi : i < n) (hk : k < n) : dt n (rs (rs A i (A k)) k (A i)) = - dt n A := by
  have hz : ∀ w : Nat → Int, dt n (rs (rs A i w) k w) = 0 := fun w => dt_eq hik hi hk (fun c _ => by simp [rs])
  have h := dt_sw hik hi hk hz (A k) (A i)
  rw [h, rs_self, rs_self]
theorem dt_add {n : Nat} {A : Nat → Nat → Int} {i k : Nat} (hik : i ≠ k) (hi : i < n) (hk : k < n) (f : Int) : dt n (rs A i (fun c => A i c + f * A k c)) = dt n A := by
  have e : (fun c => A i c + f * A k c) = (fun c => 1 * A i c + f * A k c) := by funext c; omega
  have z : dt n (rs A i (A k)) = 0 := dt_eq hik hi hk (fun c _ => by simp [rs, Ne.symm hik])
  rw [e, dt_lin n A i (A i) (A k) 1 f hi, rs_self, z]
  omega
theorem dt_scale {n : Nat} {A : Nat → Nat → Int} {i : Nat} (hi : i < n) (f : Int) : dt n (rs A i (fun c => f * A i c)) = f * dt n A := by
  have e : (fun c => f * A i c) = (fun c => f * A i c + 0 * A i c) := by funext c; omega
  rw [e, dt_lin n A i (A i) (A i) f 0 hi, rs_self]
  omega
theorem dt_col0 (n : Nat) (A : Nat → Nat → Int) (h : ∀ i, i < n → A (i + 1) 0 = 0) : dt (n + 1) A = A 0 0 * dt n (mi A 0) := by
  rw [dt_s, su_one (n + 1) 0 (by omega) (fun r hr h0 => ?_)]
  · simp [sg]
  · have e := h (r - 1) (by omega)
    rw [show r - 1 + 1 = r by omega] at e
    rw [e]
    simp
/-- ones on the diagonal, zeros below it -/
theorem dt_ut : ∀ (n : Nat) (A : Nat → Nat → Int), (∀ i, i < n → A i i = 1) → (∀ i j, i < n → j < i → A i j = 0) → dt n A = 1
  | 0, _, _, _ => rfl
  | n + 1, A, h1, h0 => by
    rw [dt_col0 n A (fun i hi => h0 (i + 1) 0 (by omega) (by omega)), h1 0 (by omega), dt_ut n (mi A 0) (fun i hi => ?_) (fun i j hi hj => ?_)]
    · rfl
    · simp [mi]
      exact h1 (i + 1) (by omega)
    · simp [mi]
      exact h0 (i + 1) (j + 1) (by omega) (by omega)
/-- the first k columns as a triangle, the next one 0 from row k on -/
theorem dt_uz : ∀ (n k : Nat) (A : Nat → Nat → Int), k < n → (∀ i j, i < n → j < i → j < k → A i j = 0) → (∀ i, i < n → k ≤ i → A i k = 0) → dt n A = 0
  | 0, _, _, h, _, _ => absurd h (Nat.not_lt_zero _)
  | n + 1, 0, A, _, _, h0 => by
    rw [dt_s]
    refine su_zero _ (fun i hi => ?_)
    rw [h0 i hi (by omega)]
    simp
  | n + 1, k + 1, A, hk, hl, h0 => by
    rw [dt_col0 n A (fun i hi => hl (i + 1) 0 (by omega) (by omega) (by omega)), dt_uz n k (mi A 0) (by omega) (fun i j hi hj hjk => ?_) (fun i hi hki => ?_)]
    · simp
    · simp [mi]
      exact hl (i + 1) (j + 1) (by omega) (by omega) (by omega)
    · simp [mi]
      exact h0 (i + 1) (by omega) (by omega)
/-! one step of elimination with no division -/
def ch_ (A : Nat → Nat → Int) : Nat → Nat → Int := fun i j => A 0 0 * A (i + 1) (j + 1) - A (i + 1) 0 * A 0 (j + 1)
def cb_ (A : Nat → Nat → Int) (m : Nat) : Nat → Nat → Int := fun r c => if 1 ≤ r ∧ r ≤ m then A 0 0 * A r c - A r 0 * A 0 c else A r c
theorem cb_dt (n : Nat) (A : Nat → Nat → Int) : ∀ m : Nat, m ≤ n → dt (n + 1) (cb_ A m) = A 0 0 ^ m * dt (n + 1) A
  | 0, _ => by
    have e : cb_ A 0 = A := by funext r c; unfold cb_; rw [if_neg (by omega)]
    rw [e]
    simp
  | m + 1, hm => by
    have ih := cb_dt n A m (by omega)
    have e : cb_ A (m + 1) = rs (cb_ A m) (m + 1) (fun c => A 0 0 * cb_ A m (m + 1) c + (- A (m + 1) 0) * cb_ A m 0 c) := by
      funext r c
      unfold rs
      by_cases q : r = m + 1
      · subst q
        rw [if_pos rfl]
        unfold cb_
        dsimp only
        rw [if_pos (by omega), if_neg (by omega), if_neg (by omega)]
        grind
      · rw [if_neg q]
        unfold cb_
        by_cases q2 : 1 ≤ r ∧ r ≤ m
        · rw [if_pos (by omega), if_pos q2]
        · rw [if_neg (by omega), if_neg q2]
    have z : dt (n + 1) (rs (cb_ A m) (m + 1) (cb_ A m 0)) = 0 := dt_eq (i := m + 1) (k := 0) (by omega) (by omega) (by omega) (fun c _ => by simp [rs])
    rw [e, dt_lin (n + 1) _ (m + 1) _ _ _ _ (by omega), rs_self, z, ih, Int.pow_succ]
    grind
theorem dt_chio (n : Nat) (A : Nat → Nat → Int) : A 0 0 ^ n * dt (n + 1) A = A 0 0 * dt n (ch_ A) := by
  rw [← cb_dt n A n (Nat.le_refl n), dt_col0 n (cb_ A n) (fun i hi => ?_)]
  · have e0 : cb_ A n 0 0 = A 0 0 := by unfold cb_; rw [if_neg (by omega)]
    rw [e0, dt_congr n (mi (cb_ A n) 0) (ch_ A) (fun i j hi hj => ?_)]
    simp only [mi, Nat.not_lt_zero, if_false, cb_, ch_]
    rw [if_pos (by omega)]
  · unfold cb_
    rw [if_pos (by omega)]
    grind
