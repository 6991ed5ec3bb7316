/-! pure: the reference divides: the whole loop -/
theorem eg2 (N k : Nat) : eg N k = N / 2 ^ (24 * k) % 16777216 := by unfold eg; rw [b24]
theorem b22_of {N : Nat} (h : N < 2 ^ 528) : b22 N := by unfold b22; rw [b24]; exact h
theorem bit_eg (A b : Nat) : eg A (b / 24) / 2 ^ (b % 24) % 2 = A / 2 ^ b % 2 := by
  have ht := Nat.mod_lt b (show 0 < 24 by omega)
  have e1 : 2 ^ b = 2 ^ (24 * (b / 24)) * 2 ^ (b % 24) := by rw [← Nat.pow_add, Nat.div_add_mod]
  have e2 : 16777216 = 2 ^ (b % 24) * 2 ^ (24 - b % 24) := by
    rw [← Nat.pow_add, show b % 24 + (24 - b % 24) = 24 by omega]
  rw [eg2, e1, ← Nat.div_div_eq_div_mul]
  rw [e2, Nat.mod_mul_right_div_self]
  refine Nat.mod_mod_of_dvd _ ?_
  rw [show 24 - b % 24 = 1 + (23 - b % 24) by omega, Nat.pow_add]
  exact Nat.dvd_mul_right _ _
theorem eg_hi2 {X b j : Nat} (h : 24 * j + 24 ≤ b) : eg (X * 2 ^ b) j = 0 := by
  obtain ⟨e, rfl⟩ : ∃ e, b = 24 * j + 24 + e := ⟨b - (24 * j + 24), by omega⟩
  rw [eg2, Nat.pow_add, Nat.pow_add, show X * (2 ^ (24 * j) * 2 ^ 24 * 2 ^ e) = 2 ^ (24 * j) * (X * 2 ^ e * 16777216) by grind, Nat.mul_div_cancel_left _ (Nat.pow_pos (by omega)), Nat.mul_mod_left]
theorem eg_set (Q b j : Nat) : eg ((2 * Q + 1) * 2 ^ b) j = if j = b / 24 then eg (Q * 2 ^ (b + 1)) j ||| 2 ^ (b % 24) else eg (Q * 2 ^ (b + 1)) j := by
  rcases Nat.lt_trichotomy j (b / 24) with h | h | h
  · rw [if_neg (by omega), eg_hi2 (by omega), eg_hi2 (by omega)]
  · rw [if_pos h]
    subst h
    have ht := Nat.mod_lt b (show 0 < 24 by omega)
    generalize hk : b / 24 = k
    generalize hm : b % 24 = t at ht
    have eb : b = 24 * k + t := by omega
    have e24 : 16777216 = 2 ^ (t + 1) * 2 ^ (23 - t) := by rw [← Nat.pow_add, show t + 1 + (23 - t) = 24 by omega]
    have hp := Nat.pow_pos (n := 24 * k) (show 0 < 2 by omega)
    have l1 : (2 * Q + 1) * 2 ^ b / 2 ^ (24 * k) = 2 ^ (t + 1) * Q + 2 ^ t := by
      rw [eb, Nat.pow_add, show (2 * Q + 1) * (2 ^ (24 * k) * 2 ^ t) = 2 ^ (24 * k) * ((2 * Q + 1) * 2 ^ t) by grind, Nat.mul_div_cancel_left _ hp, Nat.pow_succ]
      grind
    have l2 : Q * 2 ^ (b + 1) / 2 ^ (24 * k) = 2 ^ (t + 1) * Q := by
      rw [eb, show 24 * k + t + 1 = 24 * k + (t + 1) by omega, Nat.pow_add, show Q * (2 ^ (24 * k) * 2 ^ (t + 1)) = 2 ^ (24 * k) * (2 ^ (t + 1) * Q) by grind, Nat.mul_div_cancel_left _ hp]
    have hlt : 2 ^ t < 2 ^ (t + 1) := Nat.pow_lt_pow_right (by omega) (by omega)
    rw [eg2, eg2, l1, l2, e24, Nat.mul_mod_mul_left, ← Nat.two_pow_add_eq_or_of_lt hlt, Nat.mod_mul, Nat.mul_add_mod, Nat.mod_eq_of_lt hlt, Nat.mul_add_div (by omega), Nat.div_eq_of_lt hlt, Nat.add_comm]
    rfl
  · rw [if_neg (by omega), eg2, eg2]
    obtain ⟨s, hs⟩ : ∃ s, 24 * j = b + 1 + s := ⟨24 * j - (b + 1), by omega⟩
    have hp := Nat.pow_pos (n := b) (show 0 < 2 by omega)
    have hp1 := Nat.pow_pos (n := b + 1) (show 0 < 2 by omega)
    have l1 : (2 * Q + 1) * 2 ^ b / 2 ^ (24 * j) = Q / 2 ^ s := by
      rw [hs, Nat.pow_add, Nat.pow_succ, ← Nat.div_div_eq_div_mul, ← Nat.div_div_eq_div_mul, Nat.mul_div_cancel _ hp, show (2 * Q + 1) / 2 = Q by omega]
    have l2 : Q * 2 ^ (b + 1) / 2 ^ (24 * j) = Q / 2 ^ s := by
      rw [hs, Nat.pow_add 2 (b + 1) s, ← Nat.div_div_eq_div_mul, Nat.mul_div_cancel _ hp1]
    rw [l1, l2]
theorem sp_divide {A B ra rb : Nat} {th vn vh vk vm vp : Int32} {z : Nat → Int32} {post : (Nat → Int32) → Prop} (hra : ra + 22 ≤ 990) (hrb : rb + 22 ≤ 990) (hA : rq z ra A) (hA2 : b22 A) (hB : rq z rb B) (hB0 : 0 < B) (hB2 : B < 2 ^ 520)
    (hp : ∀ z', rq z' 990 (A / B) → rq z' 1012 (A % B) → (∀ s, s < 990 ∨ 1034 ≤ s → z' s = z s) → post z') : wp_Model_divide post th vn vh vk vm vp (nI ra) (nI rb) z := by
  have b528 : 2 ^ 528 = 2 ^ 520 * 256 := by rw [show 528 = 520 + 8 by omega, Nat.pow_add]
  have hBb : b22 B := b22_of (by omega)
  have main : ∀ (b1 : Nat) (x : Int32) (z' : Nat → Int32), (b1 = 0 → x < 0) → (∀ b, b1 = b + 1 → x = nI b) → b1 ≤ 528 → rq z' 1012 (A / 2 ^ b1 % B) → rq z' 990 (A / 2 ^ b1 / B * 2 ^ b1) → (∀ s, s < 990 ∨ 1034 ≤ s → z' s = z s) → wp_Model_divide_20 post th vn vh vk vm vp (b1 + 1) (nI ra) (nI rb) x z' := by
    intro b1
    induction b1 with
    | zero =>
      intro x z' hx _ _ hr hq hs
      unfold wp_Model_divide_20
      rw [Nat.pow_zero, Nat.div_one] at hr hq
      rw [Nat.mul_one] at hq
      exact ⟨fun _ => hp z' hq hr hs, fun g => absurd (hx rfl) g⟩
    | succ b ih =>
      intro x z' _ hx hb hr hq hs
      have ex := hx b rfl
      subst ex
      have e24 : nI b / 24 = nI (b / 24) := pk_div (d := 24) (by omega) (by omega) (by omega)
      have e25 : nI b - nI b / 24 * 24 = nI (b % 24) := pk_rem (d := 24) (by omega) (by omega) (by omega)
      have hbl := Nat.mod_lt b (show 0 < 24 by omega)
      have eA : z' (ra + b / 24) = nI (eg A (b / 24)) := by rw [hs _ (by omega)]; exact hA _ (by omega)
      have heg := eg_lt A (b / 24)
      unfold wp_Model_divide_20
      refine ⟨fun g => absurd g (nI_pos (by omega)), fun _ => ?_⟩
      rw [e25, e24, nI_add, ic (show ra + b / 24 < 2 ^ 31 by omega), eA]
      refine ⟨v1100 (by omega), fun y ey => ?_⟩
      have hdl : eg A (b / 24) / 2 ^ (b % 24) ≤ eg A (b / 24) := Nat.div_le_self _ _
      have ey2 : y = nI (A / 2 ^ b % 2) := by
        rw [ey, pk_shrN (by omega) _ (b % 24) (s_l _ (by omega)), pk_andN (by omega) 1 (by decide), ← bit_eg A b]
      rw [ey2]
      -- what the step says
      have hX : A / 2 ^ b = A / 2 ^ (b + 1) * 2 + A / 2 ^ b % 2 := by
        rw [Nat.pow_succ, ← Nat.div_div_eq_div_mul]
        omega
      generalize hYe : A / 2 ^ b = Y at hX ih ⊢
      generalize hXe : A / 2 ^ (b + 1) = X at hX hr hq
      have hi := Nat.mod_lt Y (show 0 < 2 by omega)
      generalize Y % 2 = i0 at hX hi ⊢
      have hR := Nat.mod_lt X hB0
      have hdm := Nat.div_add_mod X B
      generalize X % B = R at hr hR hdm
      generalize X / B = Q at hq hdm
      have hY : Y = B * (2 * Q) + (R * 2 + i0) := by
        rw [hX, ← hdm, Nat.add_mul, Nat.mul_assoc, Nat.mul_comm Q 2]
        omega
      refine sp_dshift hi hr (fun z1 hr1 hs1 => ?_)
      have hq1 : rq z1 990 (Q * 2 ^ (b + 1)) := rq_keep hq (fun k hk => hs1 _ (by omega))
      have hB1 : rq z1 rb B := rq_keep hB (fun k hk => by rw [hs1 _ (by omega), hs _ (by omega)])
      have low : R * 2 + i0 < B → wp_Model_divide_202 post th vn vh vk vm vp (wp_Model_divide_20 post th vn vh vk vm vp (b + 1)) (nI ra) (nI rb) (nI b) z1 := by
        intro hlt
        have hq3 : Y / B = 2 * Q := by rw [hY, Nat.mul_add_div hB0, Nat.div_eq_of_lt hlt, Nat.add_zero]
        have hr3 : Y % B = R * 2 + i0 := by rw [hY, Nat.mul_add_mod, Nat.mod_eq_of_lt hlt]
        unfold wp_Model_divide_202
        intro v ev
        rw [ev]
        refine ih _ z1 (fun e => ?_) (fun b' e => ?_) (by omega) ?_ ?_ (fun s g => ?_)
        · subst e; exact n_neg1
        · subst e; exact nI_dn
        · rw [hr3]; exact hr1
        · rw [hq3, Nat.mul_right_comm, Nat.mul_comm (2 * 2 ^ b), ← Nat.pow_succ']
          exact hq1
        · rw [hs1 s (by omega), hs s g]
      have high : B ≤ R * 2 + i0 → ∃ k9, wp_Model_divide_118 post th vn vh vk vm vp (wp_Model_divide_20 post th vn vh vk vm vp (b + 1)) k9 (nI ra) (nI rb) (nI b) 0 0 z1 := by
        intro hge
        have hlt2 : R * 2 + i0 - B < B := by omega
        have hY2 : Y = B * (2 * Q + 1) + (R * 2 + i0 - B) := by rw [hY, Nat.mul_add, Nat.mul_one]; omega
        have hq3 : Y / B = 2 * Q + 1 := by rw [hY2, Nat.mul_add_div hB0, Nat.div_eq_of_lt hlt2, Nat.add_zero]
        have hr3 : Y % B = R * 2 + i0 - B := by rw [hY2, Nat.mul_add_mod, Nat.mod_eq_of_lt hlt2]
        refine sp_dsub (by omega) hrb hr1 hB1 hge (fun z2 hr2 hs2 => ?_)
        unfold wp_Model_divide_202
        intro v ev
        rw [ev]
        refine ih _ _ (fun e => ?_) (fun b' e => ?_) (by omega) ?_ ?_ (fun s g => ?_)
        · subst e; exact n_neg1
        · subst e; exact nI_dn
        · rw [hr3]
          exact rq_keep hr2 (fun k hk => pk_un (by omega))
        · rw [hq3]
          intro k hk
          rw [eg_set]
          by_cases g : k = b / 24
          · rw [if_pos g, g, pk_us, hq1 (b / 24) (by omega), nx_or]
          · rw [if_neg g, pk_un (by omega), hs2 _ (by omega)]
            exact hq1 k hk
        · rw [pk_un (by omega), hs2 s (by omega), hs1 s (by omega), hs s g]
      have e12 : (1012 : Int32) = nI 1012 := rfl
      rw [e12]
      refine sp_morder (by omega) (by omega) hr1 hB1 (b22_of (by omega)) hBb (fun h => ⟨fun _ => low h, fun g => absurd (by decide) g⟩) (fun h => ⟨fun g => absurd g (by decide), fun _ => high (by omega)⟩) (fun h => ⟨fun g => absurd g (by decide), fun _ => high (by omega)⟩)
  unfold wp_Model_divide
  have hA0 : A / 2 ^ 528 = 0 := by
    unfold b22 at hA2
    rw [b24] at hA2
    exact Nat.div_eq_of_lt hA2
  refine sp_put (r := 990) (v := 0) (by omega) (by omega) (fun z1 hz1 hs1 => sp_put (r := 1012) (v := 0) (by omega) (by omega) (fun z2 hz2 hs2 => ⟨529, main 528 _ z2 (fun e => absurd e (by omega)) (fun b e => by rw [show b = 527 by omega]; rfl) (by omega) ?_ ?_ (fun s g => ?_)⟩))
  · rw [hA0, Nat.zero_mod]
    exact hz2
  · rw [hA0, Nat.zero_div, Nat.zero_mul]
    exact rq_keep hz1 (fun k hk => hs2 _ (by omega))
  · rw [hs2 s (by omega), hs1 s (by omega)]
