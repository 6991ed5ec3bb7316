/-! pure: the reference's billionths and places -/
theorem bl_top {N k : Nat} (h : N < 2 ^ (k + 1)) (h2 : 2 ^ k ≤ N) : bl N = k + 1 := by
  have hp := Nat.pow_pos (n := k) (show 0 < 2 by omega)
  have h0 : N ≠ 0 := by omega
  unfold bl
  rw [if_neg h0]
  have h3 := Nat.log2_self_le h0
  have h4 := Nat.lt_log2_self (n := N)
  have e1 : Nat.log2 N < k + 1 := by
    rcases Nat.lt_or_ge (Nat.log2 N) (k + 1) with q | q
    · exact q
    · have := Nat.pow_le_pow_right (show 0 < 2 by omega) q
      omega
  have e2 : k < Nat.log2 N + 1 := by
    rcases Nat.lt_or_ge k (Nat.log2 N + 1) with q | q
    · exact q
    · have := Nat.pow_le_pow_right (show 0 < 2 by omega) q
      omega
  omega
theorem sp_mplaces37 {N r : Nat} {th vn vh vk vm vp : Int32} {post : Int32 → Int32 → (Nat → Int32) → Prop} {z : Nat → Int32} (hr : r + 22 ≤ 1100) (hz : rq z r N) (hN : b22 N) (hp : post (nI (bl N)) th z) : wp_Model_places_37 post vn vh vk vm vp (nI r) th z := by
  have main : ∀ (k : Nat) (x : Int32), k ≤ 528 → (k = 0 → x = nI 0 + (-1)) → (∀ k', k = k' + 1 → x = nI k') → N < 2 ^ k → wp_Model_places_43 post vn vh vk vm vp (k + 1) (nI r) x th z := by
    intro k
    induction k with
    | zero =>
      intro x _ hx _ hN0
      have ex := hx rfl
      subst ex
      unfold wp_Model_places_43 wp_Model_places_77
      refine ⟨fun _ => ?_, fun g => absurd n_neg1 g⟩
      have e0 : N = 0 := by rw [Nat.pow_zero] at hN0; omega
      subst e0
      exact hp
    | succ b ih =>
      intro x hk _ hx hN0
      have ex := hx b rfl
      subst ex
      have e24 : nI b / 24 = nI (b / 24) := pk_div (d := 24) (by omega) (by omega) (by omega)
      have e25 : nI b - nI b / 24 * 24 = nI (b % 24) := pk_rem (d := 24) (by omega) (by omega) (by omega)
      have hbl := Nat.mod_lt b (show 0 < 24 by omega)
      have heg := eg_lt N (b / 24)
      have hdl : eg N (b / 24) / 2 ^ (b % 24) ≤ eg N (b / 24) := Nat.div_le_self _ _
      have hpb := Nat.pow_pos (n := b) (show 0 < 2 by omega)
      have hq : N / 2 ^ b < 2 := Nat.div_lt_of_lt_mul (by rw [Nat.pow_succ] at hN0; exact hN0)
      unfold wp_Model_places_43
      refine ⟨fun g => absurd g (nI_pos (by omega)), fun _ => ?_⟩
      rw [e25, e24, nI_add, ic (show r + b / 24 < 2 ^ 31 by omega), hz (b / 24) (by omega), pk_shrN (by omega) _ (b % 24) (s_l _ (by omega)), pk_andN (by omega) 1 (by decide), show (2 : Nat) ^ 1 = 2 from rfl, bit_eg N b]
      refine ⟨v1100 (by omega), fun c y ey => ?_, fun c => ?_⟩
      · have c' := (nI_i0 (by omega)).mp c
        have hlt : N < 2 ^ b := by
          have h0 : N / 2 ^ b = 0 := by
            generalize N / 2 ^ b = q at hq c'
            omega
          rcases Nat.div_eq_zero_iff.mp h0 with w | w
          · omega
          · exact w
        rw [ey]
        refine ih _ (by omega) (fun e => ?_) (fun k' e => ?_) hlt
        · subst e; rfl
        · subst e; exact nI_dn
      · have c' : ¬ N / 2 ^ b % 2 = 0 := fun q => c ((nI_i0 (by omega)).mpr q)
        have hge : 2 ^ b ≤ N := by
          rcases Nat.lt_or_ge N (2 ^ b) with w | w
          · rw [Nat.div_eq_of_lt w] at c'
            exact absurd rfl c'
          · exact w
        unfold wp_Model_places_77
        rw [nI_1, ← bl_top hN0 hge]
        exact hp
  unfold wp_Model_places_37
  refine ⟨529, main 528 _ (Nat.le_refl _) (fun e => absurd e (by omega)) (fun k' e => by rw [show k' = 527 by omega]; rfl) ?_⟩
  unfold b22 at hN
  rw [b24] at hN
  exact hN
theorem q_two {Q : Nat} (hQ : Q ≤ 1000000000) : nI (Q % 16777216) ||| (nI (Q / 16777216) <<< ((24 : Int32) &&& 31)) = nI Q := by
  rw [pk_shlN _ 24 (by decide) (by omega), nx_or]
  congr 1
  rw [Nat.or_comm, Nat.mul_comm, ← Nat.two_pow_add_eq_or_of_lt (i := 24) (Nat.mod_lt Q (by omega))]
  omega
theorem sp_mbill {N D i n : Nat} {th vh vk vm vp : Int32} {post : Int32 → Int32 → (Nat → Int32) → Prop} {z : Nat → Int32} (hn : n ≤ 40) (hi : i < n) (hh : ¬ vh = 0) (hz : rq z (22 * i) N) (hD : rq z 880 D) (hN : N ≤ D) (hD0 : 0 < D) (hD2 : D ≤ 2 ^ 480)
    (hp : ∀ z', (∀ s, s < 902 → z' s = z s) → post (nI (N * 1000000000 / D)) 0 z') : wp_Model_billionths post (nI n) vh vk vm vp (nI i) th z := by
  have e22 : (22 : Int32) * nI i = nI (22 * i) := pk_mul 22 i
  have k9 : (902 : Int32) = nI 902 ∧ (880 : Int32) = nI 880 := ⟨rfl, rfl⟩
  obtain ⟨k1, k2⟩ := k9
  have b520 : 2 ^ 520 = 2 ^ 480 * 2 ^ 40 := by rw [← Nat.pow_add]
  have hbig : N * 1000000000 < 2 ^ 520 := by
    have : N * 1000000000 ≤ 2 ^ 480 * 1000000000 := Nat.mul_le_mul_right _ (by omega)
    rw [b520]
    omega
  have main : ∀ (m w c : Nat) (z' : Nat → Int32), w + m = 22 → c = (N % 16777216 ^ w * 1000000000 + 0) / 16777216 ^ w → c < 2 ^ 31 → (∀ j, j < 22 → z' (902 + j) = nI (if j < w then eg (N * 1000000000 + 0) j else eg N j)) → (∀ s, s < 902 ∨ 924 ≤ s → z' s = z s) → wp_Model_billionths_26 post (nI n) vh vk vm vp (m + 1) (lN c) (nI w) 0 z' := by
    intro m
    induction m with
    | zero =>
      intro w c z' hw hc hc2 h1 h2
      unfold wp_Model_billionths_26
      refine ⟨fun _ => ?_, fun g => absurd ((l22 (by omega)).mpr (by omega)) g⟩
      rw [k1, k2]
      refine sp_divide (A := N * 1000000000) (by omega) (by omega) (fun j hj => ?_) (lt520 hbig) (rq_keep hD (fun k hk => h2 _ (by omega))) hD0 (by rw [b520]; omega) (fun z2 q2 r2 s2 => ?_)
      · rw [h1 j hj, if_pos (by omega), Nat.add_zero]
      · have hQ : N * 1000000000 / D ≤ 1000000000 := by
          refine Nat.le_trans (Nat.div_le_div_right (Nat.mul_le_mul_right 1000000000 hN)) ?_
          rw [Nat.mul_comm, Nat.mul_div_cancel _ hD0]
          omega
        generalize N * 1000000000 / D = Q at q2 hQ hp
        have e0 : z2 ((990 : Int32).toNatClampNeg) = nI (Q % 16777216) := by
          have := q2 0 (by omega)
          rw [eg2, Nat.mul_zero, Nat.pow_zero, Nat.div_one] at this
          exact this
        have e1 : z2 ((991 : Int32).toNatClampNeg) = nI (Q / 16777216) := by
          have := q2 1 (by omega)
          rw [eg2, Nat.mul_one, Nat.mod_eq_of_lt (by omega)] at this
          exact this
        rw [e0, e1, q_two hQ]
        refine ⟨v1100 (k := 990) (by omega), v1100 (k := 991) (by omega), hp z2 (fun s g => ?_)⟩
        rw [s2 _ (by omega), h2 _ (by omega)]
    | succ m ih =>
      intro w c z' hw hc hc2 h1 h2
      have e1 := eg_lt N w
      have ew : (902 : Int32) + nI w = nI (902 + w) := nI_add 902 w
      have eB : (1000000000 : Int64) = lN 1000000000 := rfl
      have e9 : eg N w * 1000000000 ≤ 16777215 * 1000000000 := Nat.mul_le_mul_right _ (by omega)
      unfold wp_Model_billionths_26
      refine ⟨fun g => absurd ((l22 (by omega)).mp g) (by omega), fun _ => ?_⟩
      rw [ew, ic (by omega), h1 w (by omega), if_neg (by omega), nI_l (by omega), eB, lN_mul, lN_add, Nat.mul_comm 1000000000]
      refine ⟨v1100 (by omega), fun x ex => ⟨v1100 (by omega), fun y ey u eu => ?_⟩⟩
      rw [ex, pf_shr (d := 24) (by decide) (by omega)] at ey
      rw [ey, eu, nI_1, ex, l_mask24 (by omega), lN_i]
      refine ih (w + 1) _ _ (by omega) ?_ (by omega) (fun j hj => ?_) (fun s hs => ?_)
      · rw [eg_mac, ← hc]
      · by_cases g : j = w
        · rw [g, pk_us, if_pos (by omega), eg_ma, ← hc]
        · rw [pk_un (by omega), h1 j hj]
          by_cases g2 : j < w
          · rw [if_pos g2, if_pos (by omega)]
          · rw [if_neg g2, if_neg (by omega)]
      · rw [pk_un (by omega)]
        exact h2 s hs
  unfold wp_Model_billionths
  refine sp_noLike (by omega) (fun _ i' hi' e => ⟨fun _ => ?_, fun q => absurd rfl q⟩) (fun h => ?_)
  · rw [e22, k1]
    refine sp_mcopy (by omega) (by omega) (by omega) (fun z1 c1 s1 => ⟨23, main 22 0 0 z1 rfl ?_ (by omega) (fun j hj => ?_) s1⟩)
    · simp [Nat.mod_one]
    · rw [if_neg (by omega), c1 j hj]
      exact hz j hj
  · rcases h with h | h
    · exact absurd h hh
    · exact absurd h (ix_not (by omega) hi)
