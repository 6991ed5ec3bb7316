/-! pure: elimination in remainders by p. C: the cells, column n the right side; d: the determinant so far -/
def cg (p x y : Int) : Prop := p ∣ x - y
theorem cg_rf (p x : Int) : cg p x x := by unfold cg; rw [Int.sub_self]; exact Int.dvd_zero p
theorem cg_of {p x y : Int} (h : x = y) : cg p x y := by rw [h]; exact cg_rf p y
theorem cg_sy {p x y : Int} (h : cg p x y) : cg p y x := by
  obtain ⟨k, hk⟩ := h
  exact ⟨-k, by grind⟩
theorem cg_tr {p x y z : Int} (h : cg p x y) (g : cg p y z) : cg p x z := by
  obtain ⟨a, ha⟩ := h
  obtain ⟨b, hb⟩ := g
  exact ⟨a + b, by grind⟩
theorem cg_add {p x y u v : Int} (h : cg p x y) (g : cg p u v) : cg p (x + u) (y + v) := by
  obtain ⟨a, ha⟩ := h
  obtain ⟨b, hb⟩ := g
  exact ⟨a + b, by grind⟩
theorem cg_sub {p x y u v : Int} (h : cg p x y) (g : cg p u v) : cg p (x - u) (y - v) := by
  obtain ⟨a, ha⟩ := h
  obtain ⟨b, hb⟩ := g
  exact ⟨a - b, by grind⟩
theorem cg_mul {p x y u v : Int} (h : cg p x y) (g : cg p u v) : cg p (x * u) (y * v) := by
  obtain ⟨a, ha⟩ := h
  obtain ⟨b, hb⟩ := g
  have e1 : x = y + p * a := by omega
  have e2 : u = v + p * b := by omega
  exact ⟨a * u + y * b, by rw [e1, e2]; grind⟩
theorem cg_mod (p : Int) (x : Int) : cg p (x % p) x := by
  refine ⟨-(x / p), ?_⟩
  have h := Int.emod_add_mul_ediv x p
  grind
theorem cg_nat {p a b : Nat} (h : a % p = b % p) : cg p a b := by
  have h1 : cg (p : Int) ((a % p : Nat) : Int) a := by
    have := cg_mod (p : Int) (a : Int)
    rw [← Int.natCast_emod] at this
    exact this
  have h2 : cg (p : Int) ((b % p : Nat) : Int) b := by
    have := cg_mod (p : Int) (b : Int)
    rw [← Int.natCast_emod] at this
    exact this
  rw [h] at h1
  exact cg_tr (cg_sy h1) h2
theorem nat_cg {p a b : Nat} (h : cg p a b) : a % p = b % p := by
  obtain ⟨k, hk⟩ := h
  have e : (a : Int) = b + p * k := by omega
  have h1 : (a : Int) % p = (b : Int) % p := by rw [e, Int.add_mul_emod_self_left]
  rw [← Int.natCast_emod, ← Int.natCast_emod] at h1
  exact Int.ofNat.inj h1
theorem su_cg {p : Int} {f g : Nat → Int} : ∀ n : Nat, (∀ i, i < n → cg p (f i) (g i)) → cg p (su f n) (su g n)
  | 0, _ => cg_rf p _
  | n + 1, h => cg_add (su_cg n (fun i hi => h i (by omega))) (h n (by omega))
/-- the cells still tell of N over D, and d times their determinant is A's -/
def el (p : Int) (n : Nat) (A : Nat → Nat → Int) (N : Nat → Int) (D : Int) (C : Nat → Nat → Int) (d : Int) : Prop :=
  (∀ i, i < n → cg p (su (fun j => C i j * N j) n) (D * C i n)) ∧ cg p (dt n A) (d * dt n C)
theorem el_cg {p : Int} {n : Nat} {A : Nat → Nat → Int} {N : Nat → Int} {D : Int} {C C' : Nat → Nat → Int} {d d' : Int} (h : el p n A N D C d) (hC : ∀ i j, i < n → j ≤ n → cg p (C i j) (C' i j)) (hd : cg p d d') : el p n A N D C' d' := by
  refine ⟨fun i hi => ?_, ?_⟩
  · have h1 := su_cg (p := p) (f := fun j => C' i j * N j) (g := fun j => C i j * N j) n (fun j hj => cg_mul (cg_sy (hC i j hi (by omega))) (cg_rf p _))
    exact cg_tr h1 (cg_tr (h.1 i hi) (cg_mul (cg_rf p D) (hC i n hi (Nat.le_refl n))))
  · exact cg_tr h.2 (cg_mul hd (dt_cg p n C C' (fun i j hi hj => hC i j hi (by omega))))
theorem el_swap {p : Int} {n : Nat} {A : Nat → Nat → Int} {N : Nat → Int} {D : Int} {C : Nat → Nat → Int} {d : Int} {a b : Nat} (h : el p n A N D C d) (hab : a ≠ b) (ha : a < n) (hb : b < n) : el p n A N D (rs (rs C a (C b)) b (C a)) (-d) := by
  refine ⟨fun i hi => ?_, ?_⟩
  · by_cases c1 : i = b
    · subst c1
      simp only [rs, if_true]
      exact h.1 a ha
    · by_cases c2 : i = a
      · subst c2
        simp only [rs, c1, if_true, if_false]
        exact h.1 b hb
      · simp only [rs, c1, c2, if_false]
        exact h.1 i hi
  · rw [dt_swap hab ha hb, Int.neg_mul_neg]
    exact h.2
theorem el_scale {p : Int} {n : Nat} {A : Nat → Nat → Int} {N : Nat → Int} {D : Int} {C : Nat → Nat → Int} {d : Int} {k : Nat} {v f : Int} (h : el p n A N D C d) (hk : k < n) (hf : cg p (v * f) 1) : el p n A N D (rs C k (fun c => f * C k c)) (d * v) := by
  refine ⟨fun i hi => ?_, ?_⟩
  · by_cases c : i = k
    · subst c
      simp only [rs, if_true]
      have e : su (fun j => f * C i j * N j) n = f * su (fun j => C i j * N j) n := by
        rw [← su_mul]
        exact su_congr n (fun j _ => by grind)
      rw [e]
      have h1 := cg_mul (cg_rf p f) (h.1 i hi)
      have e2 : D * (f * C i n) = f * (D * C i n) := by grind
      rw [e2]
      exact h1
    · simp only [rs, c, if_false]
      exact h.1 i hi
  · rw [dt_scale hk]
    have e : d * v * (f * dt n C) = v * f * (d * dt n C) := by grind
    rw [e]
    have h1 := cg_mul hf (cg_rf p (d * dt n C))
    rw [Int.one_mul] at h1
    exact cg_tr h.2 (cg_sy h1)
theorem el_add {p : Int} {n : Nat} {A : Nat → Nat → Int} {N : Nat → Int} {D : Int} {C : Nat → Nat → Int} {d : Int} {i k : Nat} (h : el p n A N D C d) (hik : i ≠ k) (hi : i < n) (hk : k < n) (f : Int) : el p n A N D (rs C i (fun c => C i c + f * C k c)) d := by
  refine ⟨fun r hr => ?_, ?_⟩
  · by_cases c : r = i
    · subst c
      simp only [rs, if_true]
      have e : su (fun j => (C r j + f * C k j) * N j) n = su (fun j => C r j * N j) n + f * su (fun j => C k j * N j) n := by
        rw [← su_mul, ← su_add]
        exact su_congr n (fun j _ => by grind)
      rw [e]
      have e2 : D * (C r n + f * C k n) = D * C r n + f * (D * C k n) := by grind
      rw [e2]
      exact cg_add (h.1 r hr) (cg_mul (cg_rf p f) (h.1 k hk))
    · simp only [rs, c, if_false]
      exact h.1 r hr
  · rw [dt_add hik hi hk]
    exact h.2
/-- the end: the triangle stands, x is answered from below -/
theorem el_end {p : Int} {n : Nat} {A : Nat → Nat → Int} {N : Nat → Int} {D : Int} {C : Nat → Nat → Int} {d : Int} (h : el p n A N D C d) (h1 : ∀ i, i < n → C i i = 1) (h0 : ∀ i j, i < n → j < i → C i j = 0) (x : Nat → Int)
    (hx : ∀ k, k < n → cg p (x k) (C k n - su (fun j => if k < j then C k j * x j else 0) n)) : cg p (dt n A) d ∧ ∀ k, k < n → cg p (N k) (D * x k) := by
  refine ⟨?_, ?_⟩
  · have h2 := h.2
    rw [dt_ut n C h1 h0, Int.mul_one] at h2
    exact h2
  · have main : ∀ (m k : Nat), k < n → n ≤ k + m → cg p (N k) (D * x k) := by
      intro m
      induction m with
      | zero => intro k h2 h3; exact absurd h2 (by omega)
      | succ m ih =>
        intro k hk hm
        have e : su (fun j => C k j * N j) n = N k + su (fun j => if k < j then C k j * N j else 0) n := by
          rw [su_split (fun j => C k j * N j) n k hk, h1 k hk, Int.one_mul]
          congr 1
          refine su_congr n (fun j hj => ?_)
          by_cases c1 : j = k
          · rw [if_pos c1, if_neg (by omega)]
          · rw [if_neg c1]
            by_cases c2 : k < j
            · rw [if_pos c2]
            · rw [if_neg c2, h0 k j hk (by omega), Int.zero_mul]
        have h3 := h.1 k hk
        rw [e] at h3
        have h4 : cg p (su (fun j => if k < j then C k j * N j else 0) n) (su (fun j => D * (if k < j then C k j * x j else 0)) n) := by
          refine su_cg n (fun j hj => ?_)
          by_cases c2 : k < j
          · rw [if_pos c2, if_pos c2]
            have h5 := cg_mul (cg_rf p (C k j)) (ih j hj (by omega))
            have e5 : D * (C k j * x j) = C k j * (D * x j) := by grind
            rw [e5]
            exact h5
          · rw [if_neg c2, if_neg c2, Int.mul_zero]
            exact cg_rf p 0
        rw [su_mul] at h4
        have h6 := cg_sub h3 h4
        have e6 : N k + su (fun j => if k < j then C k j * N j else 0) n - su (fun j => if k < j then C k j * N j else 0) n = N k := by omega
        rw [e6, ← Int.mul_sub] at h6
        exact cg_tr h6 (cg_mul (cg_rf p D) (cg_sy (hx k hk)))
    intro k hk
    exact main n k hk (by omega)
theorem el_fail {p : Int} {n : Nat} {A : Nat → Nat → Int} {N : Nat → Int} {D : Int} {C : Nat → Nat → Int} {d : Int} {k : Nat} (h : el p n A N D C d) (hk : k < n) (hl : ∀ i j, i < n → j < i → j < k → C i j = 0) (h0 : ∀ i, i < n → k ≤ i → C i k = 0) : p ∣ dt n A := by
  have h2 := h.2
  rw [dt_uz n k C hk hl h0, Int.mul_zero] at h2
  unfold cg at h2
  rw [Int.sub_zero] at h2
  exact h2
