/-! pure: Natural: exact division by an odd number -/
theorem inv_step (o x : Int32) : 1 - o * (x * (2 - o * x)) = (1 - o * x) * (1 - o * x) := by grind
theorem inv_start {a : Nat} (h : a % 2 = 1) : ∃ w : Int32, 1 - nI a * nI a = 8 * w := by
  obtain ⟨u, rfl⟩ : ∃ u, a = 2 * u + 1 := ⟨a / 2, by omega⟩
  obtain ⟨v, hv⟩ : ∃ v, u * (u + 1) = 2 * v := by
    rcases Nat.mod_two_eq_zero_or_one u with q | q
    · obtain ⟨z, rfl⟩ : ∃ z, u = 2 * z := ⟨u / 2, by omega⟩
      exact ⟨z * (2 * z + 1), by rw [Nat.mul_assoc]⟩
    · obtain ⟨z, hz⟩ : ∃ z, u + 1 = 2 * z := ⟨(u + 1) / 2, by omega⟩
      exact ⟨u * z, by rw [hz, Nat.mul_left_comm]⟩
  refine ⟨-(nI v), ?_⟩
  have e1 : nI (2 * u + 1) = 2 * nI u + 1 := by rw [← nI_1, ← pk_mul]; rfl
  have e2 : nI u * (nI u + 1) = 2 * nI v := by
    rw [nI_1, pk_mul, hv, ← pk_mul]
    rfl
  rw [e1]
  grind
theorem sp_inverseOfOdd {a : Nat} (h : a % 2 = 1) {post : Int32 → Prop} (hp : ∀ r, nI a * r = 1 → post r) : wp_Natural_inverseOfOdd post (nI a) := by
  obtain ⟨w, hw⟩ := inv_start h
  refine ⟨5, ?_⟩
  have l4 : ∀ k : Nat, k < 2 ^ 31 → ((4 : Int32) ≤ nI k ↔ 4 ≤ k) := fun k hk => nI_leI (a := 4) (by decide) hk
  have s : ∀ (k n : Nat) (x : Int32), k < 4 → (∀ y, y = x * (2 - nI a * x) → wp_Natural_inverseOfOdd_4 post n (nI a) y (nI (k + 1))) → wp_Natural_inverseOfOdd_4 post (n + 1) (nI a) x (nI k) := by
    intro k n x hk hn
    unfold wp_Natural_inverseOfOdd_4
    refine ⟨fun q => absurd ((l4 k (by omega)).mp q) (by omega), fun _ y ey z ez => ?_⟩
    rw [ez, nI_1]
    exact hn y ey
  refine s 0 4 _ (by decide) (fun y1 e1 => s 1 3 _ (by decide) (fun y2 e2 => s 2 2 _ (by decide) (fun y3 e3 => s 3 1 _ (by decide) (fun y4 e4 => ?_))))
  unfold wp_Natural_inverseOfOdd_4
  refine ⟨fun _ => hp y4 ?_, fun q => absurd ((l4 4 (by omega)).mpr (by omega)) q⟩
  have f1 : 1 - nI a * y1 = (8 * w) * (8 * w) := by rw [e1, inv_step, hw]
  have f2 : 1 - nI a * y2 = ((8 * w) * (8 * w)) * ((8 * w) * (8 * w)) := by rw [e2, inv_step, f1]
  have f3 : 1 - nI a * y3 = (((8 * w) * (8 * w)) * ((8 * w) * (8 * w))) * (((8 * w) * (8 * w)) * ((8 * w) * (8 * w))) := by rw [e3, inv_step, f2]
  have f4 : 1 - nI a * y4 = ((((8 * w) * (8 * w)) * ((8 * w) * (8 * w))) * (((8 * w) * (8 * w)) * ((8 * w) * (8 * w)))) * ((((8 * w) * (8 * w)) * ((8 * w) * (8 * w))) * (((8 * w) * (8 * w)) * ((8 * w) * (8 * w)))) := by rw [e4, inv_step, f3]
  have z8 : (8 : Int32) * 8 * 8 * 8 * 8 * 8 * 8 * 8 * 8 * 8 * 8 = 0 := by decide
  have f5 : 1 - nI a * y4 = (8 * 8 * 8 * 8 * 8 * 8 * 8 * 8 * 8 * 8 * 8) * (w * w * w * w * w * w * w * w * w * w * w * w * w * w * w * w * (8 * 8 * 8 * 8 * 8)) := by rw [f4]; grind
  rw [z8, Int32.zero_mul] at f5
  grind
theorem bk_dif {a y p : Nat} (hy : y < 2147483648) (hp : p < 2147483648) (h : a = (y + p) % 2147483648) : (p ≤ a → y = a - p ∧ (y + p) / 2147483648 = 0) ∧ (a < p → y = 2147483648 + a - p ∧ (y + p) / 2147483648 = 1) := by omega
theorem sp_subtractMultiple {f g : Nat → Int32} {X M v s : Nat} {post : (Nat → Int32) → Prop} (hs : s ≤ 16) (hv : v < 2147483648) (hf : ∀ j, s + j < 16 → f (s + j) = nI (dg X j)) (hg : rp g M) (hle : M * v ≤ X)
    (hp : ∀ f', (∀ j, j < s → f' j = f j) → (∀ j, s + j < 16 → f' (s + j) = nI (dg (X - M * v) j)) → post f') : wp_Natural_subtractMultiple post g (lN v) (nI s) f := by
  obtain ⟨Y, rfl⟩ : ∃ Y, X = Y + M * v := ⟨X - M * v, by omega⟩
  rw [Nat.add_sub_cancel] at hp
  have main : ∀ (m i : Nat) (h : Nat → Int32) (c : Nat), s + i + m = 16 → c = (Y % 2147483648 ^ i + M % 2147483648 ^ i * v) / 2147483648 ^ i → c < 2 ^ 32 → (∀ j, j < s → h j = f j) → (∀ j, s + j < 16 → h (s + j) = nI (if j < i then dg Y j else dg (Y + M * v) j)) → wp_Natural_subtractMultiple_7 post g (m + 1) (lN v) (nI s) (lN c) (nI (s + i)) h := by
    intro m
    induction m with
    | zero =>
      intro i h c hk hc hc2 h1 h2
      unfold wp_Natural_subtractMultiple_7
      refine ⟨fun _ => hp _ h1 (fun j hj => ?_), fun q => absurd ((l16 (by omega)).mpr (by omega)) q⟩
      rw [h2 j hj, if_pos (by omega)]
    | succ m ih =>
      intro i h c hk hc hc2 h1 h2
      unfold wp_Natural_subtractMultiple_7
      have e0 : nI (s + i) - nI s = nI i := by rw [pk_sub (by omega)]; congr 1; omega
      refine ⟨fun q => absurd ((l16 (by omega)).mp q) (by omega), fun _ => ?_⟩
      rw [e0, ic (by omega), ic (by omega)]
      refine ⟨i16 (by omega), fun x ex => ⟨i16 (by omega), fun y ey => ⟨i16 (by omega), fun z ez u eu => ?_⟩⟩⟩
      have d2 := dg_lt M i
      have d1 := dg_lt Y i
      have d3 : dg M i * v ≤ 2147483647 * 2147483647 := Nat.mul_le_mul (by omega) (by omega)
      have e1 : x = lN (dg M i * v + c) := by rw [ex, hg i (by omega), nI_l (dg31 M i), lN_mul, lN_add]
      have am := dg_am (N := Y) (M := M) (f := v) (k := i)
      have amc := dg_amc (N := Y) (M := M) (f := v) (k := i)
      rw [← hc] at am amc
      rw [h2 i (by omega), if_neg (by omega), e1, l_mask (by omega), lN_i] at ey
      rw [e1, l_sh31 (by omega)] at ez
      obtain ⟨b1, b2⟩ := bk_dif (a := dg (Y + M * v) i) (y := dg Y i) (p := (dg M i * v + c) % 2147483648) d1 (Nat.mod_lt _ (by omega)) (by rw [am]; omega)
      obtain ⟨i1, i2⟩ := i_dif (a := dg (Y + M * v) i) (b := (dg M i * v + c) % 2147483648) (c := 0) (dg_lt _ _) (Nat.mod_lt _ (by omega)) (by omega)
      have z0 : ∀ w : Int32, w - nI 0 = w := fun w => by rw [nI_0, Int32.sub_zero]
      rw [z0, Nat.add_zero] at i1 i2
      have fin : ∀ c' : Nat, c' ≤ 1 → z = lN ((dg M i * v + c) / 2147483648) + (nI c').toInt64 → (dg Y i + (dg M i * v + c) % 2147483648) / 2147483648 = c' → y &&& 2147483647 = nI (dg Y i) → wp_Natural_subtractMultiple_7 post g (m + 1) (lN v) (nI s) z u (upd h (s + i) (y &&& 2147483647)) := by
        intro c' hc' hz hq hy
        rw [hz, nI_l (by omega), lN_add, hy, eu, nI_1, show s + i + 1 = s + (i + 1) by omega]
        refine ih (i + 1) _ _ (by omega) ?_ (by omega) (fun j hj => ?_) (fun j hj => ?_)
        · rw [amc]
          omega
        · rw [pk_un (by omega)]
          exact h1 j hj
        · by_cases q : j = i
          · rw [q, pk_us, if_pos (by omega)]
          · rw [pk_un (by omega), h2 j hj]
            by_cases q2 : j < i
            · rw [if_pos q2, if_pos (by omega)]
            · rw [if_neg q2, if_neg (by omega)]
      rcases Nat.lt_or_ge (dg (Y + M * v) i) ((dg M i * v + c) % 2147483648) with q | q
      · obtain ⟨j1, j2⟩ := i2 q
        obtain ⟨g1, g2⟩ := b2 q
        refine fin 1 (by omega) (by rw [ez, ey, j2]) g2 ?_
        rw [ey, j1]
        congr 1
        omega
      · obtain ⟨j1, j2⟩ := i1 q
        obtain ⟨g1, g2⟩ := b1 q
        refine fin 0 (by omega) (by rw [ez, ey, j2]) g2 ?_
        rw [ey, j1]
        congr 1
        omega
  refine ⟨16 - s + 1, ?_⟩
  have h := main (16 - s) 0 f 0 (by omega) (by simp [Nat.mod_one]) (by omega) (fun j _ => rfl) (fun j hj => by rw [if_neg (by omega)]; exact hf j hj)
  exact h
theorem dg_mulB (Z j : Nat) : dg (Z * 2147483648) (j + 1) = dg Z j := by
  unfold dg
  rw [Nat.pow_succ, Nat.mul_comm Z, Nat.mul_comm (2147483648 ^ j), ← Nat.div_div_eq_div_mul, Nat.mul_div_cancel_left _ (by omega)]
theorem dg_zero (N : Nat) : dg N 0 = N % 2147483648 := by unfold dg; rw [Nat.pow_zero, Nat.div_one]
theorem i_mulmask (x w : Nat) : (nI x * nI w) &&& 2147483647 = nI (x * w % 2147483648) := by
  rw [pk_mul, pk_and (nI (x * w)) (m := 2147483647) 31 (by decide)]
  congr 1
  show (BitVec.ofNat 32 (x * w)).toNat % 2 ^ 31 = _
  rw [BitVec.toNat_ofNat]
  exact Nat.mod_mod_of_dvd _ ⟨2, rfl⟩
theorem sp_divideByOdd {f g : Nat → Int32} {N d q : Nat} {post : (Nat → Int32) → Prop} (hf : rp f N) (hg : rp g d) (hN : bn N) (hq : N = d * q) (hd : d % 2 = 1) (hp : ∀ f', rp f' q → post f') : wp_Natural_divideByOddDivisor post g f := by
  unfold wp_Natural_divideByOddDivisor
  refine ⟨i16 (k := 0) (by decide), ?_⟩
  have e0 : g (0 : Int32).toNatClampNeg = nI (dg d 0) := hg 0 (by decide)
  rw [e0]
  refine sp_inverseOfOdd (by rw [dg_zero]; omega) (fun r hr => ?_)
  obtain ⟨w, hw, rfl⟩ := wb_of32 r
  have hi : d * w % 2147483648 = 1 := by
    have h1 : (nI (dg d 0) * nI w) &&& 2147483647 = nI 1 := by rw [hr]; decide
    rw [i_mulmask] at h1
    have h2 := (nI_eq (a := dg d 0 * w % 2147483648) (b := 1) (by omega) (by decide)).mp h1
    rw [dg_zero, Nat.mod_mul_mod] at h2
    exact h2
  have hqlt : ∀ k, k ≤ 16 → d * (q / 2147483648 ^ k) < 2147483648 ^ (16 - k) := by
    intro k hk
    have h1 : d * (q / 2147483648 ^ k) * 2147483648 ^ k ≤ N := by
      rw [hq, Nat.mul_assoc]
      exact Nat.mul_le_mul_left d (Nat.div_mul_le_self q _)
    have h2 : 2147483648 ^ 16 = 2147483648 ^ (16 - k) * 2147483648 ^ k := by rw [← Nat.pow_add, show 16 - k + k = 16 by omega]
    have h3 : d * (q / 2147483648 ^ k) * 2147483648 ^ k < 2147483648 ^ (16 - k) * 2147483648 ^ k := by rw [← h2]; exact Nat.lt_of_le_of_lt h1 hN
    exact Nat.lt_of_mul_lt_mul_right h3
  have main : ∀ (m k : Nat) (h : Nat → Int32), k + m = 16 → (∀ j, j < k → h j = nI (dg q j)) → (∀ j, k + j < 16 → h (k + j) = nI (dg (d * (q / 2147483648 ^ k)) j)) → wp_Natural_divideByOddDivisor_12 post g (m + 1) (nI w) (nI k) h := by
    intro m
    induction m with
    | zero =>
      intro k h hk h1 h2
      unfold wp_Natural_divideByOddDivisor_12
      exact ⟨fun _ => hp _ (fun j hj => h1 j (by omega)), fun c => absurd ((l16 (by omega)).mpr (by omega)) c⟩
    | succ m ih =>
      intro k h hk h1 h2
      unfold wp_Natural_divideByOddDivisor_12
      refine ⟨fun c => absurd ((l16 (by omega)).mp c) (by omega), fun _ => ⟨i16 (by omega), fun x ex => ?_⟩⟩
      have ex2 : x = nI (dg q k) := by
        have h3 := h2 0 (by omega)
        rw [Nat.add_zero] at h3
        rw [ex, ic (by omega), h3, i_mulmask, dg_zero, ed_digit hi rfl]
      rw [ex2, nI_l (dg31 q k)]
      obtain ⟨n1, n2⟩ := ed_next (d := d) (q := q) (k := k) rfl
      refine sp_subtractMultiple (X := d * (q / 2147483648 ^ k)) (by omega) (dg_lt q k) h2 hg n2 (fun f' g1 g2 => ?_)
      refine ⟨i16 (by omega), fun y ey => ?_⟩
      rw [ey, nI_1, ic (by omega)]
      rw [n1] at g2
      refine ih (k + 1) _ (by omega) (fun j hj => ?_) (fun j hj => ?_)
      · by_cases c : j = k
        · rw [c, pk_us]
        · rw [pk_un c, g1 j (by omega)]
          exact h1 j (by omega)
      · rw [pk_un (by omega)]
        have h3 := g2 (j + 1) (by omega)
        rw [dg_mulB] at h3
        rw [← h3]
        congr 1
        omega
  refine ⟨17, main 16 0 f rfl (fun j hj => absurd hj (by omega)) (fun j hj => ?_)⟩
  rw [Nat.zero_add, Nat.pow_zero, Nat.div_one, ← hq]
  exact hf j (by omega)
