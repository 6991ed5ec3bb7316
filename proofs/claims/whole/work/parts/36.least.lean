/-! pure: least terms -/
theorem bn_le {X N : Nat} (h : bn N) (hle : X ≤ N) : bn X := Nat.lt_of_le_of_lt hle h
theorem min_if (a b : Nat) (ha : a < 2 ^ 31) (hb : b < 2 ^ 31) : (if nI b < nI a then nI b else nI a) = nI (min a b) := by
  by_cases c : b < a
  · rw [if_pos ((nI_ltI hb ha).mpr c), Nat.min_eq_right (by omega)]
  · rw [if_neg (fun q => c ((nI_ltI hb ha).mp q)), Nat.min_eq_left (by omega)]
theorem two_dvd {N t u : Nat} (h : N = 2 ^ t * (N / 2 ^ t)) (hu : u ≤ t) : N = 2 ^ u * (N / 2 ^ u) := by
  have hd : 2 ^ u ∣ N := ⟨2 ^ (t - u) * (N / 2 ^ t), by rw [← Nat.mul_assoc, ← Nat.pow_add, show u + (t - u) = t by omega]; exact h⟩
  exact (Nat.mul_div_cancel' hd).symm
theorem sp_dropCommon {fo fw fa fb : Nat → Int32} {A B : Nat} {post : (Nat → Int32) → (Nat → Int32) → Prop} (ha : rp fa A) (hb : rp fb B) (hA : bn A) (hB : bn B) (pA : 0 < A) (pB : 0 < B)
    (hp : ∀ s A' B' fa' fb', A = 2 ^ s * A' → B = 2 ^ s * B' → (A' % 2 = 1 ∨ B' % 2 = 1) → rp fa' A' → rp fb' B' → post fa' fb') : wp_LeastTerms_dropCommonTwos post fo fw fa fb := by
  have bx : ∀ {N s X : Nat}, bn N → N = 2 ^ s * X → bn X := by
    intro N s X hN e
    refine bn_le hN ?_
    rw [e]
    exact Nat.le_mul_of_pos_left X (Nat.pow_pos (by omega))
  have big : ∀ {s X : Nat}, A = 2 ^ s * X → 496 ≤ s → False := by
    intro s X e hs
    have hX : 0 < X := by
      rcases Nat.eq_zero_or_pos X with q | q
      · subst q; omega
      · exact q
    have h1 : 2 ^ 496 ≤ 2 ^ s := Nat.pow_le_pow_right (by omega) hs
    have h2 : 2 ^ s * 1 ≤ 2 ^ s * X := Nat.mul_le_mul_left _ hX
    have h3 : A < 2147483648 ^ 16 := hA
    rw [b31] at h3
    omega
  have l496 : ∀ {k : Nat}, k < 2 ^ 31 → ((496 : Int32) ≤ nI k ↔ 496 ≤ k) := fun h => nI_leI (a := 496) (by decide) h
  have main : ∀ (m k : Nat) (fa fb : Nat → Int32) (s A' B' : Nat), k + m = 496 → k ≤ s → A = 2 ^ s * A' → B = 2 ^ s * B' → rp fa A' → rp fb B' → wp_LeastTerms_dropCommonTwos_2 post fo fw (m + 1) (nI k) fa fb := by
    intro m
    induction m with
    | zero =>
      intro k fa fb s A' B' hk hs eA eB ha hb
      exact (big eA (by omega)).elim
    | succ m ih =>
      intro k fa fb s A' B' hk hs eA eB ha hb
      unfold wp_LeastTerms_dropCommonTwos_2
      refine ⟨fun q => absurd ((l496 (by omega)).mp q) (by omega), fun _ => ?_⟩
      refine sp_isEven ha (fun h2 => ⟨fun q => absurd q (by decide), fun _ => ?_⟩) (fun h2 => ⟨fun _ => hp s A' B' fa fb eA eB (Or.inl h2) ha hb, fun q => absurd rfl q⟩)
      refine sp_isEven hb (fun h3 => ⟨fun q => absurd q (by decide), fun _ => ?_⟩) (fun h3 => ⟨fun _ => hp s A' B' fa fb eA eB (Or.inr h3) ha hb, fun q => absurd rfl q⟩)
      refine sp_lowTwos ha (fun t ht et hto => sp_lowTwos hb (fun u hu eu huo => ?_))
      intro x ex
      rw [ex, min_if t u (by omega) (by omega)]
      have e1 := two_dvd et (Nat.min_le_left t u)
      have e2 := two_dvd eu (Nat.min_le_right t u)
      have tp : 0 < t := by
        rcases Nat.eq_zero_or_pos t with q | q
        · subst q; simp at hto; omega
        · exact q
      have up : 0 < u := by
        rcases Nat.eq_zero_or_pos u with q | q
        · subst q; simp at huo; omega
        · exact q
      refine sp_shiftRight ha (bx hA eA) (by omega) (fun fa' ha' => sp_shiftRight hb (bx hB eB) (by omega) (fun fb' hb' => ?_))
      intro y ey
      rw [ey, nI_1]
      refine ih (k + 1) fa' fb' (s + min t u) _ _ (by omega) (by omega) ?_ ?_ ha' hb'
      · rw [Nat.pow_add, Nat.mul_assoc, ← e1]; exact eA
      · rw [Nat.pow_add, Nat.mul_assoc, ← e2]; exact eB
  exact ⟨497, main 496 0 fa fb 0 A B rfl (by omega) (by simp) (by simp) ha hb⟩
theorem sp_oddCommon {fa fb fo fw : Nat → Int32} {A B : Nat} {post : (Nat → Int32) → (Nat → Int32) → Prop} (ha : rp fa A) (hb : rp fb B) (hA : bn A) (hB : bn B) (pA : 0 < A) (pB : 0 < B) (hAB : A % 2 = 1 ∨ B % 2 = 1)
    (hp : ∀ fo' fw', rp fo' (Nat.gcd A B) → Nat.gcd A B % 2 = 1 → post fo' fw') : wp_LeastTerms_oddCommonDivisor post fa fb fo fw := by
  unfold wp_LeastTerms_oddCommonDivisor
  refine sp_copy ha (fun u1 h1 => sp_copy hb (fun u2 h2 => sp_dropTwos h1 hA pA (fun t x u3 e3 o3 h3 => sp_dropTwos h2 hB pB (fun u y u4 e4 o4 h4 => ?_))))
  have hG : Nat.gcd x y = Nat.gcd A B := by
    rw [e3, e4]
    refine (gc_odd o3 o4 ?_).symm
    rcases hAB with q | q
    · left
      rcases Nat.eq_zero_or_pos t with z | z
      · exact z
      · obtain ⟨t', rfl⟩ : ∃ t', t = t' + 1 := ⟨t - 1, by omega⟩
        rw [Nat.pow_succ, Nat.mul_right_comm] at e3
        omega
    · right
      rcases Nat.eq_zero_or_pos u with z | z
      · exact z
      · obtain ⟨u', rfl⟩ : ∃ u', u = u' + 1 := ⟨u - 1, by omega⟩
        rw [Nat.pow_succ, Nat.mul_right_comm] at e4
        omega
  have l992 : ∀ {k : Nat}, k < 2 ^ 31 → ((992 : Int32) ≤ nI k ↔ 992 ≤ k) := fun h => nI_leI (a := 992) (by decide) h
  have dodd : ∀ {g z : Nat}, g ∣ z → z % 2 = 1 → g % 2 = 1 := by
    intro g z h hz
    obtain ⟨c, rfl⟩ := h
    rcases Nat.mod_two_eq_zero_or_one g with q | q
    · rw [Nat.mul_mod, q] at hz
      simp at hz
    · exact q
  have main : ∀ (m k : Nat) (fo fw : Nat → Int32) (x y : Nat), k + m = 992 → rp fo x → rp fw y → bn x → bn y → x % 2 = 1 → y % 2 = 1 → Nat.gcd x y = Nat.gcd A B → x * y * 2 ^ k < 2 ^ 992 → wp_LeastTerms_oddCommonDivisor_38 post fa fb (m + 1) (nI k) fo fw := by
    intro m
    induction m with
    | zero =>
      intro k fo fw x y hk hx hy bx by' ox oy hg hm
      exfalso
      have h1 : 1 * 1 ≤ x * y := Nat.mul_le_mul (by omega) (by omega)
      have h2 : 1 * 2 ^ k ≤ x * y * 2 ^ k := Nat.mul_le_mul_right _ (by omega)
      rw [show k = 992 by omega] at h2 hm
      omega
    | succ m ih =>
      intro k fo fw x y hk hx hy bx by' ox oy hg hm
      have turn : ∀ {x y z t : Nat}, y ≤ x → y % 2 = 1 → x % 2 = 1 → x - y = 2 ^ t * z → z % 2 = 1 → x * y * 2 ^ k < 2 ^ 992 → Nat.gcd z y = Nat.gcd x y ∧ z * y * 2 ^ (k + 1) < 2 ^ 992 := by
        intro x y z t hle oy ox e oz hm
        refine ⟨gc_step oy hle e, ?_⟩
        have tp : 0 < t := by
          rcases Nat.eq_zero_or_pos t with q | q
          · subst q; rw [Nat.pow_zero, Nat.one_mul] at e; omega
          · exact q
        have h1 := gc_half tp (show 0 < y by omega) hle e
        have h2 : z * y * 2 ^ (k + 1) = 2 * (z * y) * 2 ^ k := by rw [Nat.pow_succ]; grind
        rw [h2]
        have h3 : 2 * (z * y) * 2 ^ k ≤ x * y * 2 ^ k := Nat.mul_le_mul_right _ (by omega)
        omega
      unfold wp_LeastTerms_oddCommonDivisor_38
      refine ⟨fun q => absurd ((l992 (by omega)).mp q) (by omega), fun _ => ?_⟩
      refine sp_order hx hy bx by' (fun hlt => ⟨fun q => absurd q (by decide), fun _ => ⟨fun _ => ?_, fun q => absurd (by decide) q⟩⟩) (fun heq => ⟨fun _ => ?_, fun q => absurd rfl q⟩) (fun hgt => ⟨fun q => absurd q (by decide), fun _ => ⟨fun q => absurd q (by decide), fun _ => ?_⟩⟩)
      · refine sp_subtract hy hx (by omega) (fun u9 h9 => sp_dropTwos h9 (bn_le by' (by omega)) (by omega) (fun t z u10 e10 oz h10 => ?_))
        intro w ew
        rw [ew, nI_1]
        obtain ⟨g1, g2⟩ := turn (show x ≤ y by omega) ox oy e10 oz (by rw [Nat.mul_comm y x]; exact hm)
        have bz : z ≤ y := by
          have hP : 0 < 2 ^ t := Nat.pow_pos (by omega)
          have : z ≤ 2 ^ t * z := Nat.le_mul_of_pos_left z hP
          omega
        exact ih (k + 1) fo u10 x z (by omega) hx h10 bx (bn_le by' bz) ox oz (by rw [Nat.gcd_comm, g1, Nat.gcd_comm]; exact hg) (by rw [Nat.mul_comm x z]; exact g2)
      · subst heq
        rw [Nat.gcd_self] at hg
        rw [hg] at hx ox
        exact hp _ _ hx ox
      · refine sp_subtract hx hy (by omega) (fun u9 h9 => sp_dropTwos h9 (bn_le bx (by omega)) (by omega) (fun t z u10 e10 oz h10 => ?_))
        intro w ew
        rw [ew, nI_1]
        obtain ⟨g1, g2⟩ := turn (show y ≤ x by omega) oy ox e10 oz hm
        have bz : z ≤ x := by
          have hP : 0 < 2 ^ t := Nat.pow_pos (by omega)
          have : z ≤ 2 ^ t * z := Nat.le_mul_of_pos_left z hP
          omega
        exact ih (k + 1) u10 fw z y (by omega) h10 hy (bn_le bx bz) by' oz oy (by rw [g1]; exact hg) g2
  have bx : bn x := bn_le hA (by rw [e3]; exact Nat.le_mul_of_pos_left x (Nat.pow_pos (by omega)))
  have by' : bn y := bn_le hB (by rw [e4]; exact Nat.le_mul_of_pos_left y (Nat.pow_pos (by omega)))
  refine ⟨993, main 992 0 u3 u4 x y rfl h3 h4 bx by' o3 o4 hG ?_⟩
  have e : 2 ^ 992 = 2147483648 ^ 16 * 2147483648 ^ 16 := by rw [b31, ← Nat.pow_add]
  rw [Nat.pow_zero, Nat.mul_one, e]
  exact Nat.mul_lt_mul_of_lt_of_lt bx by'
theorem sp_reduce {ft fu fa fb fo fw : Nat → Int32} {A B : Nat} {post : (Nat → Int32) → (Nat → Int32) → (Nat → Int32) → (Nat → Int32) → Prop} (ht : rp ft A) (hu : rp fu B) (hA : bn A) (hB : bn B) (pB : 0 < B)
    (hp : ∀ fa' fb' fo' fw', rp fa' (A / Nat.gcd A B) → rp fb' (B / Nat.gcd A B) → post fa' fb' fo' fw') : wp_LeastTerms_reduce post ft fu fa fb fo fw := by
  unfold wp_LeastTerms_reduce
  refine sp_copy ht (fun u1 h1 => sp_copy hu (fun u2 h2 => sp_isZero h1 hA (fun z => ⟨fun q => absurd q (by decide), fun _ => ?_⟩) (fun z => ⟨fun _ => ?_, fun q => absurd rfl q⟩)))
  · unfold wp_LeastTerms_reduce_36
    refine sp_set (v := 1) (by omega) (fun u5 h5 => hp _ _ _ _ ?_ ?_)
    · rw [z, Nat.zero_div]
      rw [z] at h1
      exact h1
    · rw [z, Nat.gcd_zero_left, Nat.div_self pB]
      exact h5
  · refine sp_isZero h2 hB (fun z2 => absurd z2 (by omega)) (fun _ => ⟨fun _ => ?_, fun q => absurd rfl q⟩)
    refine sp_dropCommon h1 h2 hA hB (by omega) pB (fun s A' B' f8 f9 e8 e9 ho h8 h9 => ?_)
    have hs : 0 < 2 ^ s := Nat.pow_pos (by omega)
    have pA' : 0 < A' := by
      rcases Nat.eq_zero_or_pos A' with q | q
      · subst q; omega
      · exact q
    have pB' : 0 < B' := by
      rcases Nat.eq_zero_or_pos B' with q | q
      · subst q; omega
      · exact q
    have bA : bn A' := bn_le hA (by rw [e8]; exact Nat.le_mul_of_pos_left A' hs)
    have bB : bn B' := bn_le hB (by rw [e9]; exact Nat.le_mul_of_pos_left B' hs)
    have hg : Nat.gcd A B = 2 ^ s * Nat.gcd A' B' := by rw [e8, e9, Nat.gcd_mul_left]
    have gp : 0 < Nat.gcd A' B' := Nat.gcd_pos_of_pos_left _ pA'
    have qA : A / Nat.gcd A B = A' / Nat.gcd A' B' := by
      rw [hg]
      conv => lhs; rw [e8]
      rw [Nat.mul_div_mul_left _ _ hs]
    have qB : B / Nat.gcd A B = B' / Nat.gcd A' B' := by
      rw [hg]
      conv => lhs; rw [e9]
      rw [Nat.mul_div_mul_left _ _ hs]
    refine sp_oddCommon h8 h9 bA bB pA' pB' ho (fun f10 f11 h10 og => ?_)
    refine sp_divideByOdd h8 h10 bA (Nat.mul_div_cancel' (Nat.gcd_dvd_left A' B')).symm og (fun f12 h12 => ?_)
    refine sp_divideByOdd h9 h10 bB (Nat.mul_div_cancel' (Nat.gcd_dvd_right A' B')).symm og (fun f13 h13 => ?_)
    refine hp _ _ _ _ ?_ ?_
    · rw [qA]; exact h12
    · rw [qB]; exact h13
