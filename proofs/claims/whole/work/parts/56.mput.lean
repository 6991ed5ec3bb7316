/-! pure: the reference puts a number together from its remainders -/
def pq (q : Nat → Nat) : Nat → Nat
  | 0 => 1
  | k + 1 => pq q k * q k
theorem pq_s (q : Nat → Nat) (k : Nat) : pq q (k + 1) = pq q k * q k := rfl
theorem pq_pos {q : Nat → Nat} {n : Nat} (h : ∀ k, k < n → 0 < q k) : ∀ k, k ≤ n → 0 < pq q k
  | 0, _ => by simp [pq]
  | k + 1, hk => Nat.mul_pos (pq_pos h k (by omega)) (h k (by omega))
/-- a register times q plus d -/
theorem sp_mulAdd {r Z q d : Nat} {th vn vh vk vm vp : Int32} {fpr frs dgs : Nat → Int64} {K : Int32 → Int32 → (Nat → Int64) → (Nat → Int32) → Prop} {post : (Nat → Int64) → (Nat → Int32) → Prop} {z : Nat → Int32} {k : Nat} (hr : r + 22 ≤ 1100) (hk : k < 16) (hq : fpr k = lN q) (hq2 : q < 2147483648) (hd : d < 2147483648) (hz : rq z r Z)
    (hK : ∀ z', rq z' r (Z * q + d) → (∀ s, s < r ∨ r + 22 ≤ s → z' s = z s) → K (nI r) (nI k + (-1)) dgs z') : ∃ k9, wp_Model_putTogether_139 post th vn vh vk vm vp fpr frs K k9 (nI r) (nI k) (lN d) 0 dgs z := by
  have lo : ∀ w, Z % 16777216 ^ (w + 1) * q + d = Z % 16777216 ^ w * q + d + eg Z w * q * 16777216 ^ w := by
    intro w
    rw [eg_lo Z w, Nat.add_mul]
    have : eg Z w * 16777216 ^ w * q = eg Z w * q * 16777216 ^ w := Nat.mul_right_comm _ _ _
    omega
  have dgt : ∀ w, eg (Z * q + d) w = ((Z % 16777216 ^ w * q + d) / 16777216 ^ w + eg Z w * q) % 16777216 := by
    intro w
    refine eg_of ?_
    have e5 : ∀ Q, (Z * q + d) % Q = (Z % Q * q + d) % Q := fun Q => by rw [Nat.add_mod (Z % Q * q), Nat.mod_mul_mod, ← Nat.add_mod]
    rw [← lo w]
    exact e5 _
  have cry : ∀ w, (Z % 16777216 ^ (w + 1) * q + d) / 16777216 ^ (w + 1) = ((Z % 16777216 ^ w * q + d) / 16777216 ^ w + eg Z w * q) / 16777216 := by
    intro w
    rw [lo w, eg_step]
  have main : ∀ (m w c : Nat) (z' : Nat → Int32), w + m = 22 → c = (Z % 16777216 ^ w * q + d) / 16777216 ^ w → c < 2 ^ 32 → (∀ j, j < 22 → z' (r + j) = nI (if j < w then eg (Z * q + d) j else eg Z j)) → (∀ s, s < r ∨ r + 22 ≤ s → z' s = z s) → wp_Model_putTogether_139 post th vn vh vk vm vp fpr frs K (m + 1) (nI r) (nI k) (lN c) (nI w) dgs z' := by
    intro m
    induction m with
    | zero =>
      intro w c z' hw hc hc2 h1 h2
      unfold wp_Model_putTogether_139
      refine ⟨fun _ x ex => ?_, fun q2 => absurd ((l22 (by omega)).mpr (by omega)) q2⟩
      rw [ex]
      refine hK z' (fun j hj => ?_) h2
      rw [h1 j hj, if_pos (by omega)]
    | succ m ih =>
      intro w c z' hw hc hc2 h1 h2
      unfold wp_Model_putTogether_139
      refine ⟨fun q2 => absurd ((l22 (by omega)).mp q2) (by omega), fun _ => ⟨i16 hk, ?_⟩⟩
      rw [nI_add, ic (by omega), ic (by omega), hq, h1 w (by omega), if_neg (by omega)]
      have e1 := eg_lt Z w
      have e2 : eg Z w * q ≤ 16777215 * 2147483647 := Nat.mul_le_mul (by omega) (by omega)
      refine ⟨v1100 (by omega), fun x ex => ⟨v1100 (by omega), fun y ey u eu => ?_⟩⟩
      have ex2 : x = lN (c + eg Z w * q) := by
        rw [ex, nI_l (eg31 Z w), lN_mul, lN_add, Nat.mul_comm q]
      rw [ex2, pf_shr (d := 24) (by decide) (by omega)] at ey
      rw [ey, eu, nI_1, ex2, l_mask24 (by omega), lN_i]
      refine ih (w + 1) _ _ (by omega) ?_ ?_ (fun j hj => ?_) (fun s hs => ?_)
      · rw [cry w, ← hc]
      · have : (c + eg Z w * q) / 2 ^ 24 ≤ (4294967295 + 16777215 * 2147483647) / 2 ^ 24 := Nat.div_le_div_right (by omega)
        omega
      · by_cases g : j = w
        · rw [g, pk_us, if_pos (by omega), dgt w, ← hc]
        · rw [pk_un (by omega), h1 j hj]
          by_cases g2 : j < w
          · rw [if_pos g2, if_pos (by omega)]
          · rw [if_neg g2, if_neg (by omega)]
      · rw [pk_un (by omega)]
        exact h2 s hs
  refine ⟨23, main 22 0 d z rfl ?_ (by omega) (fun j hj => ?_) (fun s _ => rfl)⟩
  · simp [Nat.mod_one]
  · rw [if_neg (by omega)]
    exact hz j hj
/-- what the digits from k on tell -/
def uq (q c : Nat → Nat) : Nat → Nat → Nat
  | 0, _ => 0
  | m + 1, k => uq q c m (k + 1) * q k + c k
theorem sp_putTogether {i T : Nat} {q : Nat → Nat} {th vn vh vk vm vp : Int32} {fpr frs dgs : Nat → Int64} {z : Nat → Int32} {post : (Nat → Int64) → (Nat → Int32) → Prop} (hi : i ≤ 40) (hq : ∀ k, k < 16 → fpr k = lN (q k) ∧ pr_ (q k) ∧ q k < 2147483648) (hcop : ∀ k, k < 16 → Nat.Coprime (pq q k) (q k)) (hrs : ∀ k, k < 16 → frs (k * 41 + i) = lN (T % q k)) (hT : T < pq q 16)
    (hpost : ∀ dgs' z', rq z' (22 * i) T → (∀ s, s < 22 * i ∨ 22 * i + 22 ≤ s → z' s = z s) → post dgs' z') : wp_Model_putTogether post th vn vh vk vm vp fpr frs (nI i) dgs z := by
  have hpos : ∀ k, k ≤ 16 → 0 < pq q k := pq_pos (fun k hk => by have := (hq k hk).2.1.1; omega)
  -- Horner, from above
  have horner : ∀ (c : Nat → Nat) (dgs : Nat → Int64), (∀ k, k < 16 → dgs k = lN (c k) ∧ c k < 2147483648) → uq q c 16 0 = T →
      ∀ (k m : Nat) (z' : Nat → Int32) (x : Int32), k + m = 16 → (k = 0 → x < 0) → (∀ k', k = k' + 1 → x = nI k') → rq z' (22 * i) (uq q c m k) → (∀ s, s < 22 * i ∨ 22 * i + 22 ≤ s → z' s = z s) → wp_Model_putTogether_124 post th vn vh vk vm vp fpr frs (k + 1) (nI (22 * i)) x dgs z' := by
    intro c dgs hc hu k
    induction k with
    | zero =>
      intro m z' x hm hx0 _ hz hs
      unfold wp_Model_putTogether_124
      refine ⟨fun _ => hpost dgs z' ?_ hs, fun g => absurd (hx0 rfl) g⟩
      rw [show m = 16 by omega, hu] at hz
      exact hz
    | succ k ih =>
      intro m z' x hm _ hxs hz hs
      have ex := hxs k rfl
      subst ex
      unfold wp_Model_putTogether_124
      refine ⟨fun g => absurd g (nI_pos (by omega)), fun _ => ⟨i16 (by omega), fun y ey => ?_⟩⟩
      rw [ic (by omega), (hc k (by omega)).1] at ey
      rw [ey]
      refine sp_mulAdd (by omega) (by omega) (hq k (by omega)).1 (hq k (by omega)).2.2 (hc k (by omega)).2 hz (fun z2 hz2 hs2 => ?_)
      refine ih (m + 1) z2 _ (by omega) (fun e => ?_) (fun k' e => ?_) ?_ (fun s g => (hs2 s g).trans (hs s g))
      · subst e
        exact n_neg1
      · subst e
        exact nI_dn
      · exact hz2
  -- the digits, from below
  have fwd : ∀ (m k : Nat) (c : Nat → Nat) (dgs : Nat → Int64), k + m = 16 → (∀ j, j < k → dgs j = lN (c j) ∧ c j < q j) → (∀ j, j ≤ k → T % pq q j = sn (fun l => c l * pq q l) j) → wp_Model_putTogether_2 post th vn vh vk vm vp fpr frs (m + 1) (nI i) (nI k) dgs z := by
    intro m
    induction m with
    | zero =>
      intro k c dgs hk hc hT2
      have ek : k = 16 := by omega
      subst ek
      unfold wp_Model_putTogether_2
      refine ⟨fun _ x ex => ?_, fun g => absurd ((l16 (by omega)).mpr (by omega)) g⟩
      have ex2 : x = nI (22 * i) := by rw [ex]; exact pk_mul 22 i
      rw [ex2]
      refine sp_put (v := 0) (by omega) (by omega) (fun z1 hz1 hs1 => ⟨17, ?_⟩)
      have hu : ∀ (m k : Nat), k + m = 16 → pq q k * uq q c m k + sn (fun l => c l * pq q l) k = sn (fun l => c l * pq q l) 16 := by
        intro m
        induction m with
        | zero =>
          intro k hk
          rw [show k = 16 by omega]
          simp [uq]
        | succ m ih =>
          intro k hk
          have h := ih (k + 1) (by omega)
          rw [← h, sn_s, pq_s]
          show pq q k * (uq q c m (k + 1) * q k + c k) + _ = _
          grind
      have h0 := hu 16 0 rfl
      have h16 := hT2 16 (Nat.le_refl 16)
      rw [Nat.mod_eq_of_lt hT] at h16
      have hu0 : uq q c 16 0 = T := by
        rw [h16, ← h0]
        simp [pq, sn]
      exact horner c dgs (fun k hk => ⟨(hc k hk).1, by have := (hc k hk).2; have := (hq k hk).2.2; omega⟩) hu0 16 0 z1 15 rfl (fun e => absurd e (by omega)) (fun k' e => by rw [show k' = 15 by omega]; rfl) hz1 hs1
    | succ m ih =>
      intro k c dgs hk hc hT2
      have hk16 : k < 16 := by omega
      obtain ⟨q1, q2, q3⟩ := hq k hk16
      have p2 := q2.1
      unfold wp_Model_putTogether_2
      refine ⟨fun g => absurd ((l16 (by omega)).mp g) (by omega), fun _ => ⟨i16 hk16, fun x ex => ?_⟩⟩
      rw [ic (by omega), q1] at ex
      rw [ex]
      have inner : ∀ (m2 j : Nat), j + m2 = k → wp_Model_putTogether_24 post th vn vh vk vm vp fpr frs (wp_Model_putTogether_2 post th vn vh vk vm vp fpr frs (m + 1)) (m2 + 1) (nI i) (nI k) (lN (q k)) (lN (sn (fun l => c l * pq q l) j % q k)) (lN (pq q j % q k)) (nI j) dgs z := by
        intro m2
        induction m2 with
        | zero =>
          intro j hj
          have ej : j = k := by omega
          subst ej
          have hP := Nat.mod_lt (pq q j) (show 0 < q j by omega)
          have hV := Nat.mod_lt (sn (fun l => c l * pq q l) j) (show 0 < q j by omega)
          have hR := Nat.mod_lt T (show 0 < q j by omega)
          have hne : ¬ pq q j % q j = 0 := fun g => by
            have hdv := Nat.dvd_gcd (Nat.dvd_of_mod_eq_zero g) (Nat.dvd_refl (q j))
            rw [hcop j hk16] at hdv
            have := Nat.le_of_dvd (by omega) hdv
            omega
          have hinv := fe_piv q2 hP hne
          unfold wp_Model_putTogether_24
          refine ⟨fun _ => ?_, fun g => absurd (nI_le (Nat.le_refl j) (by omega)) g⟩
          have v656 : vp_in (nI (j * 41 + i)) 656 := vp_in_nI (by omega) (by decide)
          have ei : (nI (j * 41 + i)).toNatClampNeg = j * 41 + i := ic (by omega)
          have ejj : (nI j).toNatClampNeg = j := ic (by omega)
          rw [j41, ei, ejj, hrs j hk16]
          refine ⟨v656, l_ne0 (by omega) (by omega), sp_minverse (by omega) q3 hP ⟨l_ne0 (by omega) (by omega), i16 hk16, fun y ey => ?_⟩⟩
          have hiv := Nat.mod_lt ((pq q j % q j) ^ (q j - 2)) (show 0 < q j by omega)
          generalize (pq q j % q j) ^ (q j - 2) % q j = iv at hinv hiv ⊢
          have hgp := Nat.mod_lt (T % q j + q j - sn (fun l => c l * pq q l) j % q j) (show 0 < q j by omega)
          have hm2 : (T % q j + q j - sn (fun l => c l * pq q l) j % q j) % q j * iv ≤ 2147483647 * 2147483647 := Nat.mul_le_mul (by omega) (by omega)
          rw [lN_add, lN_sub (by omega), pk_lRem (by omega) (by omega) (by omega), lN_mul, pk_lRem (by omega) (by omega) (by omega), ey, nI_1]
          have hcd := Nat.mod_lt ((T % q j + q j - sn (fun l => c l * pq q l) j % q j) % q j * iv) (show 0 < q j by omega)
          generalize hce : (T % q j + q j - sn (fun l => c l * pq q l) j % q j) % q j * iv % q j = cj at hcd ⊢
          refine ih (j + 1) (fun l => if l = j then cj else c l) _ (by omega) (fun l hl => ?_) (fun l hl => ?_)
          · by_cases g : l = j
            · rw [g, pk_uLs, if_pos rfl]
              exact ⟨rfl, hcd⟩
            · rw [pk_uLn g, if_neg g]
              exact hc l (by omega)
          · have keep : ∀ t, t ≤ j → sn (fun l => (if l = j then cj else c l) * pq q l) t = sn (fun l => c l * pq q l) t := fun t ht => sn_congr t (fun l hl => by rw [if_neg (by omega)])
            by_cases g : l = j + 1
            · rw [g, sn_s, keep j (Nat.le_refl j), if_pos rfl, pq_s]
              have hV2 := hT2 j (Nat.le_refl j)
              rw [← hV2] at hce hV ⊢
              rw [Nat.mul_comm cj]
              refine (cr_one (hpos j (by omega)) (hcop j hk16) rfl hcd ?_).symm
              rw [← hce]
              refine cr_gap (due := T) ?_ hinv
              rw [Nat.add_mod_mod, show T % pq q j % q j + (T % q j + q j - T % pq q j % q j) = T % q j + q j by omega, Nat.add_mod_right, Nat.mod_mod]
            · rw [keep l (by omega)]
              exact hT2 l (by omega)
        | succ m2 ih2 =>
          intro j hj
          have hj16 : j < 16 := by omega
          obtain ⟨c1, c2⟩ := hc j (by omega)
          obtain ⟨r1, r2, r3⟩ := hq j hj16
          have hV := Nat.mod_lt (sn (fun l => c l * pq q l) j) (show 0 < q k by omega)
          have hP := Nat.mod_lt (pq q j) (show 0 < q k by omega)
          have hC := Nat.mod_lt (c j) (show 0 < q k by omega)
          have hQ := Nat.mod_lt (q j) (show 0 < q k by omega)
          have b1 : c j % q k * (pq q j % q k) ≤ 2147483647 * 2147483647 := Nat.mul_le_mul (by omega) (by omega)
          have b2 : pq q j % q k * (q j % q k) ≤ 2147483647 * 2147483647 := Nat.mul_le_mul (by omega) (by omega)
          unfold wp_Model_putTogether_24
          refine ⟨fun g => absurd ((nI_leI (by omega) (by omega)).mp g) (by omega), fun _ => ⟨i16 hj16, l_ne0 (by omega) (by omega), l_ne0 (by omega) (by omega), fun x1 e1 => ⟨i16 hj16, l_ne0 (by omega) (by omega), l_ne0 (by omega) (by omega), fun x2 e2 y ey => ?_⟩⟩⟩
          rw [ic (by omega), c1, pk_lRem (by omega) (by omega) (by omega), lN_mul, lN_add, pk_lRem (by omega) (by omega) (by omega)] at e1
          rw [ic (by omega), r1, pk_lRem (by omega) (by omega) (by omega), lN_mul, pk_lRem (by omega) (by omega) (by omega)] at e2
          have f1 : (sn (fun l => c l * pq q l) j % q k + c j % q k * (pq q j % q k)) % q k = sn (fun l => c l * pq q l) (j + 1) % q k := by
            rw [sn_s, Nat.add_mod (sn (fun l => c l * pq q l) j) (c j * pq q j), Nat.mul_mod (c j), Nat.add_mod (sn (fun l => c l * pq q l) j % q k), Nat.mod_mod]
          have f2 : pq q j % q k * (q j % q k) % q k = pq q (j + 1) % q k := by rw [pq_s, Nat.mul_mod (pq q j)]
          rw [e1, e2, f1, f2, ey, nI_1]
          exact ih2 (j + 1) (by omega)
      have h := inner k 0 (by omega)
      rw [show sn (fun l => c l * pq q l) 0 % q k = 0 from Nat.zero_mod _, show pq q 0 % q k = 1 from Nat.mod_eq_of_lt (by show 1 < q k; omega)] at h
      exact ⟨k + 1, h⟩
  exact ⟨17, fwd 16 0 (fun _ => 0) dgs (by omega) (fun j h => absurd h (by omega)) (fun j h => by rw [show j = 0 by omega]; simp [pq, sn, Nat.mod_one])⟩
