/-! pure: the reference's registers: put, isZero, order -/
theorem l_mask24 {n : Nat} (h : n < 2 ^ 64) : lN n &&& 16777215 = lN (n % 16777216) := wb_mask (n := n) (k := 24) h (by decide)
theorem b24 (k : Nat) : 16777216 ^ k = 2 ^ (24 * k) := by rw [Nat.pow_mul]
theorem eg_top {v k : Nat} (hv : v < 2 ^ 63) (hk : 3 ≤ k) : eg v k = 0 := by
  refine eg_hi (Nat.lt_of_lt_of_le hv ?_)
  rw [b24]
  exact Nat.pow_le_pow_right (by omega) (by omega)
theorem sp_put {r v : Nat} {th vn vh vk vm vp : Int32} {z : Nat → Int32} {post : (Nat → Int32) → Prop} (hr : r + 22 ≤ 1100) (hv : v < 2 ^ 63) (hp : ∀ z', rq z' r v → (∀ q, q < r ∨ r + 22 ≤ q → z' q = z q) → post z') : wp_Model_put post th vn vh vk vm vp (nI r) (lN v) z := by
  have l3 : ∀ {k : Nat}, k < 2 ^ 31 → ((3 : Int32) ≤ nI k ↔ 3 ≤ k) := fun h => nI_leI (a := 3) (by decide) h
  have main : ∀ (m k : Nat) (z' : Nat → Int32), k + m = 22 → (∀ j, j < k → z' (r + j) = nI (eg v j)) → (∀ q, (q < r ∨ r + k ≤ q) → z' q = z q) → wp_Model_put_3 post th vn vh vk vm vp (m + 1) (nI r) (lN v) (nI k) z' := by
    intro m
    induction m with
    | zero =>
      intro k z' hk h1 h2
      unfold wp_Model_put_3
      exact ⟨fun _ => hp z' (fun j hj => h1 j (by omega)) (fun q hq => h2 q (by omega)), fun c => absurd ((l22 (by omega)).mpr (by omega)) c⟩
    | succ m ih =>
      intro k z' hk h1 h2
      have next : ∀ y : Int32, y = nI (eg v k) → wp_Model_put_40 post th vn vh vk vm vp (wp_Model_put_3 post th vn vh vk vm vp (m + 1)) (nI r) (lN v) (nI k) (nI (r + k)) y z' := by
        intro y ey
        unfold wp_Model_put_40
        refine ⟨v1100 (by omega), fun x ex => ?_⟩
        rw [ex, nI_1, ey, ic (by omega)]
        refine ih (k + 1) _ (by omega) (fun j hj => ?_) (fun q hq => ?_)
        · by_cases w : j = k
          · rw [w, pk_us]
          · rw [pk_un (by omega)]
            exact h1 j (by omega)
        · rw [pk_un (by omega)]
          exact h2 q (by omega)
      unfold wp_Model_put_3
      rw [nI_add]
      refine ⟨fun c => absurd ((l22 (by omega)).mp c) (by omega), fun _ => ⟨fun c => next _ ?_, fun c => next _ ?_⟩⟩
      · rw [eg_top hv ((l3 (by omega)).mp c)]
        rfl
      · have hk3 : k < 3 := by
          rcases Nat.lt_or_ge k 3 with q | q
          · exact q
          · exact absurd ((l3 (by omega)).mpr q) c
        have e24 : (24 : Int32) * nI k = nI (24 * k) := pk_mul 24 k
        have hd : v / 2 ^ (24 * k) ≤ v := Nat.div_le_self _ _
        rw [e24, wb_shr (by omega) (by omega), l_mask24 (by omega), lN_i]
        unfold eg
        rw [b24]
  exact ⟨23, main 22 0 z rfl (fun j h => absurd h (by omega)) (fun q _ => rfl)⟩
theorem sp_misZero {r N : Nat} {th vn vh vk vm vp : Int32} {z : Nat → Int32} {post : Int32 → Prop} (hr : r + 22 ≤ 1100) (hz : rq z r N) (hN : b22 N) (h1 : N = 0 → post 1) (h0 : ¬ N = 0 → post 0) : wp_Model_isZero post th vn vh vk vm vp z (nI r) := by
  have fin : ∀ {j : Nat}, j < 22 → ¬ eg N j = 0 → wp_Model_isZero_37 post th vn vh vk vm vp z 0 := by
    intro j hj hne
    unfold wp_Model_isZero_37
    exact ⟨rfl, h0 (fun q => hne (by rw [q]; simp [eg]))⟩
  have main : ∀ (m k : Nat), k + m = 22 → (∀ j, j < k → eg N j = 0) → wp_Model_isZero_4 post th vn vh vk vm vp z (m + 2) (nI r) 1 (nI k) := by
    intro m
    induction m with
    | zero =>
      intro k hk hh
      unfold wp_Model_isZero_4
      refine ⟨fun _ => ?_, fun c => absurd ((l22 (by omega)).mpr (by omega)) c⟩
      unfold wp_Model_isZero_37
      exact ⟨rfl, h1 (rq_all0 hN (fun j hj => hh j (by omega)))⟩
    | succ m ih =>
      intro k hk hh
      unfold wp_Model_isZero_4
      refine ⟨fun c => absurd ((l22 (by omega)).mp c) (by omega), fun _ => ⟨fun c => absurd c (by decide), fun _ => ?_⟩⟩
      rw [nI_add, ic (by omega), hz k (by omega)]
      refine ⟨v1100 (by omega), fun c => ?_, fun c => ?_⟩
      · unfold wp_Model_isZero_30
        intro x ex
        rw [ex, nI_1]
        refine ih (k + 1) (by omega) (fun j hj => ?_)
        by_cases w : j = k
        · rw [w]; exact (nI_i0 (eg31 N k)).mp c
        · exact hh j (by omega)
      · have hne : ¬ eg N k = 0 := fun q => c ((nI_i0 (eg31 N k)).mpr q)
        unfold wp_Model_isZero_30
        intro x ex
        rw [ex, nI_1]
        unfold wp_Model_isZero_4
        exact ⟨fun _ => fin (by omega) hne, fun _ => ⟨fun _ => fin (by omega) hne, fun q => absurd rfl q⟩⟩
  exact ⟨24, main 22 0 rfl (fun j h => absurd h (by omega))⟩
theorem sp_morder {a b N M : Nat} {th vn vh vk vm vp : Int32} {z : Nat → Int32} {post : Int32 → Prop} (ha : a + 22 ≤ 1100) (hb : b + 22 ≤ 1100) (hz : rq z a N) (hy : rq z b M) (hN : b22 N) (hM : b22 M) (hlt : N < M → post (-1)) (heq : N = M → post 0) (hgt : M < N → post 1) : wp_Model_order post th vn vh vk vm vp z (nI a) (nI b) := by
  have lt_of : ∀ {X Y k : Nat}, X / 16777216 ^ (k + 1) = Y / 16777216 ^ (k + 1) → eg X k < eg Y k → X < Y := by
    intro X Y k e h
    rcases Nat.lt_or_ge X Y with q | q
    · exact q
    · have h1 := he_step X k
      have h2 := he_step Y k
      have h3 : Y / 16777216 ^ k ≤ X / 16777216 ^ k := Nat.div_le_div_right q
      omega
  have fin : ∀ k, k < 22 → N / 16777216 ^ (k + 1) = M / 16777216 ^ (k + 1) → (k = 0 ∨ ¬ eg N k = eg M k) → wp_Model_order_32 post th vn vh vk vm vp z (nI a) (nI b) (nI k) := by
    intro k hk e hor
    unfold wp_Model_order_32 wp_Model_order_79
    rw [nI_add, nI_add, ic (by omega), ic (by omega), hz k hk, hy k hk]
    refine ⟨v1100 (by omega), v1100 (by omega), fun c => ⟨v1100 (by omega), v1100 (by omega), fun c2 => ?_, fun c2 => ?_⟩, fun c => ?_⟩
    · have c' := (nI_leI (eg31 N k) (eg31 M k)).mp c
      have c2' := (nI_leI (eg31 M k) (eg31 N k)).mp c2
      have hk0 : k = 0 := by
        rcases hor with q | q
        · exact q
        · omega
      subst hk0
      have h1 := he_step N 0
      have h2 := he_step M 0
      rw [he_0] at h1 h2
      exact heq (by omega)
    · have c2' : ¬ eg M k ≤ eg N k := fun q => c2 ((nI_leI (eg31 M k) (eg31 N k)).mpr q)
      exact hlt (lt_of e (by omega))
    · have c' : ¬ eg N k ≤ eg M k := fun q => c ((nI_leI (eg31 N k) (eg31 M k)).mpr q)
      exact hgt (lt_of e.symm (by omega))
  have main : ∀ (k n : Nat), k < 22 → k < n → N / 16777216 ^ (k + 1) = M / 16777216 ^ (k + 1) → wp_Model_order_3 post th vn vh vk vm vp z n (nI a) (nI b) (nI k) := by
    intro k
    induction k with
    | zero =>
      intro n hk hn e
      obtain ⟨n', rfl⟩ : ∃ n', n = n' + 1 := ⟨n - 1, by omega⟩
      unfold wp_Model_order_3
      exact ⟨fun _ => fin 0 hk e (Or.inl rfl), fun c => absurd (by decide) c⟩
    | succ k ih =>
      intro n hk hn e
      obtain ⟨n', rfl⟩ : ∃ n', n = n' + 1 := ⟨n - 1, by omega⟩
      unfold wp_Model_order_3
      refine ⟨fun c => absurd c (nI_nle (by omega) (by omega)), fun _ => ?_⟩
      rw [nI_add, nI_add, ic (by omega), ic (by omega), hz (k + 1) hk, hy (k + 1) hk]
      refine ⟨v1100 (by omega), v1100 (by omega), fun c x ex => ?_, fun c => fin (k + 1) hk e (Or.inr (fun q => c (by rw [q])))⟩
      rw [ex, nI_dn]
      have c' := (nI_eq (eg31 N (k + 1)) (eg31 M (k + 1))).mp c
      have h1 := he_step N (k + 1)
      have h2 := he_step M (k + 1)
      exact ih n' (by omega) (by omega) (by omega)
  exact ⟨23, main 21 23 (by omega) (by omega) (by rw [Nat.div_eq_of_lt hN, Nat.div_eq_of_lt hM])⟩
