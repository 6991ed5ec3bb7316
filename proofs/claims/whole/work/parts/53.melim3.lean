/-! pure: the reference's elimination: its steps and its end -/
theorem gj_swap {p n k i : Nat} {C : Nat → Nat → Nat} (h : gj p n k C) (hki : k < i) (hi : i < n) : gj p n k (fun r c => if r = i then C k c else if r = k then C i c else C r c) := by
  obtain ⟨h1, h2, h3⟩ := h
  refine ⟨fun r c hr hc => ?_, fun r c hr hc hcr => ?_, fun r hr => ?_⟩
  · try dsimp only
    split
    · exact h1 k c (by omega) hc
    · split
      · exact h1 i c hi hc
      · exact h1 r c hr hc
  · try dsimp only
    split
    · exact h2 k c (by omega) hc (by omega)
    · split
      · exact h2 i c hi hc (by omega)
      · exact h2 r c hr hc hcr
  · try dsimp only
    rw [if_neg (by omega), if_neg (by omega)]
    exact h3 r hr
theorem sp_meliminate {p n : Nat} {M : Nat → Nat} {a : Nat → Nat → Nat} {N : Nat → Int} {th vh vk vm vp : Int32} {fw fp : Nat → Int32} {f : Nat → Int64} {post : Int64 → (Nat → Int64) → Prop} (hpr : pr_ p) (hp : p < 2147483648) (hn : n ≤ 40) (hM : ∀ i, i < n → fw i = nI (M i) ∧ M i < p ∧ a i i ≤ M i) (ha : ∀ i j, i < n → j ≤ n → fp (i * 41 + j) = nI (a i j) ∧ a i j < p)
    (hN : ∀ i, i < n → su (fun j => am M a i j * N j) n = dt n (am M a) * (a i n : Int))
    (h1 : ∀ (d : Nat) (C : Nat → Nat → Nat) f', 0 < d → d < p → cg p (dt n (am M a)) d → mxl n f' C → (∀ i, i < n → C i n < p ∧ cg p (N i) (dt n (am M a) * (C i n : Int))) → post (lN d) f')
    (h0 : ∀ f', (p : Int) ∣ dt n (am M a) → post 0 f') : wp_Model_eliminate post th (nI n) vh vk vm vp fw fp (lN p) f := by
  have p2 := hpr.1
  refine sp_mload hp (by omega) hn hM ha (fun f1 hC1 => ?_)
  have hv1 : gj p n 0 (fun i j => if j = n then a i n else ((if i = j then M i else 0) + p - a i j) % p) := by
    refine ⟨fun i j hi hj => ?_, fun i j _ h => absurd h (by omega), fun i h => absurd h (by omega)⟩
    try dsimp only
    split
    · exact (ha i n hi (Nat.le_refl n)).2
    · exact Nat.mod_lt _ (by omega)
  have hel1 : el p n (am M a) N (dt n (am M a)) (zi (fun i j => if j = n then a i n else ((if i = j then M i else 0) + p - a i j) % p)) ((1 : Nat) : Int) := by
    have e0 : el p n (am M a) N (dt n (am M a)) (fun i j => if j = n then (a i n : Int) else am M a i j) ((1 : Nat) : Int) := by
      refine ⟨fun i hi => cg_of ?_, cg_of ?_⟩
      · try dsimp only
        rw [if_pos rfl, ← hN i hi]
        exact su_congr n (fun j hj => by rw [if_neg (by omega)])
      · rw [dt_congr n (fun i j => if j = n then (a i n : Int) else am M a i j) (am M a) (fun i j hi hj => by rw [if_neg (by omega)])]
        simp
    refine el_cg e0 (fun i j hi hj => ?_) (cg_rf _ _)
    unfold zi
    try dsimp only
    by_cases q : j = n
    · rw [if_pos q, if_pos q]
      exact cg_rf _ _
    · rw [if_neg q, if_neg q]
      refine cg_sy (cg_tr (cg_dif (ha i j hi hj).2) (cg_of ?_))
      unfold am
      by_cases q2 : i = j
      · rw [if_pos q2, if_pos q2]
      · rw [if_neg q2, if_neg q2]
        rfl
  generalize (fun i j => if j = n then a i n else ((if i = j then M i else 0) + p - a i j) % p) = C1 at hC1 hv1 hel1
  generalize hA : am M a = A at h1 h0 hel1
  -- what the next turn of the outer loop asks
  have step : ∀ (K : Int64 → Int64 → Int32 → (Nat → Int64) → Prop) (k : Nat), k < n → (∀ (d : Nat) (f : Nat → Int64) (C : Nat → Nat → Nat), 0 < d → d < p → mxl n f C → gj p n (k + 1) C → el p n A N (dt n A) (zi C) d → K (lN p) (lN d) (nI (k + 1)) f) →
      ∀ (d : Nat) (f : Nat → Int64) (C : Nat → Nat → Nat), 0 < d → d < p → mxl n f C → gj p n k C → el p n A N (dt n A) (zi C) d → ∃ k9, wp_Model_eliminate_136 post th (nI n) vh vk vm vp fw fp K k9 (lN p) (lN d) (nI k) (nI k) f := by
    intro K k hk hK
    -- rows cleared
    have clr : ∀ (d : Nat), 0 < d → d < p → ∀ (m i : Nat) (f : Nat → Int64) (C : Nat → Nat → Nat), i + m = n → mxl n f C → gj p n k C → C k k = 1 → (∀ r, r < i → r ≠ k → C r k = 0) → el p n A N (dt n A) (zi C) d → wp_Model_eliminate_366 post th (nI n) vh vk vm vp fw fp K (m + 1) (lN p) (lN d) (nI k) (nI i) f := by
      intro d hd0 hdp m
      induction m with
      | zero =>
        intro i f C hi hC hv hkk hz hel
        unfold wp_Model_eliminate_366
        refine ⟨fun _ x ex => ?_, fun c => absurd (nI_le (by omega) (by omega)) c⟩
        rw [ex, nI_1]
        refine hK d f C hd0 hdp hC ⟨hv.1, fun r c hr hc hne => ?_, fun r hr => ?_⟩ hel
        · by_cases q : c = k
          · rw [q] at hne ⊢
            exact hz r (by omega) hne
          · exact hv.2.1 r c hr (by omega) hne
        · by_cases q : r = k
          · rw [q]; exact hkk
          · exact hv.2.2 r (by omega)
      | succ m ih =>
        intro i f C hi hC hv hkk hz hel
        have next : ∀ (f' : Nat → Int64) (C' : Nat → Nat → Nat), mxl n f' C' → gj p n k C' → C' k k = 1 → (∀ r, r < i + 1 → r ≠ k → C' r k = 0) → el p n A N (dt n A) (zi C') d → wp_Model_eliminate_474 post th (nI n) vh vk vm vp fw fp K (wp_Model_eliminate_366 post th (nI n) vh vk vm vp fw fp K (m + 1)) (lN p) (lN d) (nI k) (nI i) f' := by
          intro f' C' g1 g2 g3 g4 g5
          unfold wp_Model_eliminate_474
          intro x ex
          rw [ex, nI_1]
          exact ih (i + 1) f' C' (by omega) g1 g2 g3 g4 g5
        have skip : (i = k ∨ C i k = 0) → wp_Model_eliminate_399 post th (nI n) vh vk vm vp fw fp K (wp_Model_eliminate_366 post th (nI n) vh vk vm vp fw fp K (m + 1)) (lN p) (lN d) (nI k) (nI i) (lN 0) f := by
          intro hik
          have hnext := next f C hC hv hkk (fun r hr hne => by
            by_cases q : r = i
            · rcases hik with z | z
              · exact absurd (q.trans z) hne
              · rw [q]; exact z
            · exact hz r (by omega) hne) hel
          unfold wp_Model_eliminate_399
          refine ⟨1, ?_⟩
          unfold wp_Model_eliminate_405
          exact ⟨fun _ => hnext, fun _ => ⟨fun _ => hnext, fun c => absurd ((l_eq0 (a := 0) (b := 0) (by omega) (by omega)).mpr rfl) c⟩⟩
        unfold wp_Model_eliminate_366
        refine ⟨fun c => absurd ((nI_leI (by omega) (by omega)).mp c) (by omega), fun _ => ⟨fun e => skip (Or.inl ((nI_eq (by omega) (by omega)).mp e)), fun e => ?_⟩⟩
        have hik : i ≠ k := fun q => e (by rw [q])
        rw [j41, c41 (by omega) (by omega), hC i k (by omega) (by omega)]
        refine ⟨v41 (by omega) (by omega), ?_⟩
        by_cases hz0 : C i k = 0
        · rw [hz0]
          exact skip (Or.inr hz0)
        · have hb := hv.1 i k (by omega) (by omega)
          unfold wp_Model_eliminate_399
          have lp : ∀ (m2 j : Nat) (f' : Nat → Int64), j + m2 = n + 1 → k ≤ j → mxl n f' (fun r c => if r = i ∧ k ≤ c ∧ c < j then (C i c + (p - C i k) * C k c) % p else C r c) → wp_Model_eliminate_405 post th (nI n) vh vk vm vp fw fp K (wp_Model_eliminate_366 post th (nI n) vh vk vm vp fw fp K (m + 1)) (m2 + 1) (lN p) (lN d) (nI k) (nI i) (lN (C i k)) (nI j) f' := by
            intro m2
            induction m2 with
            | zero =>
              intro j f' hj hkj hm
              unfold wp_Model_eliminate_405
              refine ⟨fun _ => ?_, fun c => absurd (nI_lt (by omega) (by omega)) c⟩
              have hm' : mxl n f' (fun r c => if r = i ∧ k ≤ c then (C i c + (p - C i k) * C k c) % p else C r c) := mxl_cg hm (fun r c hr hc => by
                by_cases q : r = i ∧ k ≤ c
                · rw [if_pos ⟨q.1, q.2, by omega⟩, if_pos q]
                · rw [if_neg (fun z => q ⟨z.1, z.2.1⟩), if_neg q])
              refine next f' _ hm' ⟨fun r c hr hc => ?_, fun r c hr hc hne => ?_, fun r hr => ?_⟩ ?_ (fun r hr hne => ?_) (el_clear3 hel hv hik (by omega) hk)
              · try dsimp only
                split
                · exact Nat.mod_lt _ (by omega)
                · exact hv.1 r c hr hc
              · try dsimp only
                rw [if_neg (fun z => by omega)]
                exact hv.2.1 r c hr hc hne
              · try dsimp only
                rw [if_neg (fun z => by omega)]
                exact hv.2.2 r hr
              · try dsimp only
                rw [if_neg (fun z => hik z.1.symm)]
                exact hkk
              · try dsimp only
                by_cases q : r = i
                · rw [if_pos ⟨q, Nat.le_refl k⟩, hkk, Nat.mul_one, show C i k + (p - C i k) = p by omega, Nat.mod_self]
                · rw [if_neg (fun z => q z.1)]
                  exact hz r (by omega) hne
            | succ m2 ih2 =>
              intro j f' hj hkj hm
              unfold wp_Model_eliminate_405
              refine ⟨fun c => absurd ((nI_ltI (by omega) (by omega)).mp c) (by omega), fun _ => ⟨fun c => absurd ((l_eq0 (b := 0) (by omega) (by omega)).mp c) hz0, fun _ => ?_⟩⟩
              rw [j41, j41, c41 (by omega) (by omega), c41 (by omega) (by omega), hm i j (by omega) (by omega), hm k j hk (by omega)]
              have ei : (if i = i ∧ k ≤ j ∧ j < j then (C i j + (p - C i k) * C k j) % p else C i j) = C i j := if_neg (fun z => by omega)
              have ek : (if k = i ∧ k ≤ j ∧ j < j then (C i j + (p - C i k) * C k j) % p else C k j) = C k j := if_neg (fun z => by omega)
              try dsimp only
              rw [ei, ek]
              have c1 := hv.1 i j (by omega) (by omega)
              have c2 := hv.1 k j hk (by omega)
              have c3 : (p - C i k) * C k j ≤ 2147483647 * 2147483647 := Nat.mul_le_mul (by omega) (by omega)
              refine ⟨v41 (by omega) (by omega), v41 (by omega) (by omega), l_ne0 (by omega) (by omega), v41 (by omega) (by omega), fun x ex => ?_⟩
              rw [ex, nI_1, lN_sub (by omega), lN_mul, lN_add, pk_lRem (by omega) (by omega) (by omega)]
              refine ih2 (j + 1) _ (by omega) (by omega) (mxl_cg (mxl_upd (i := i) (j := j) hn hm (by omega)) (fun r c hr hc => ?_))
              by_cases q : r = i ∧ c = j
              · rw [if_pos q, if_pos ⟨q.1, by omega, by omega⟩, q.2]
              · rw [if_neg q]
                by_cases q2 : r = i ∧ k ≤ c ∧ c < j
                · rw [if_pos q2, if_pos (show r = i ∧ k ≤ c ∧ c < j + 1 from ⟨q2.1, q2.2.1, by omega⟩)]
                · rw [if_neg q2, if_neg (fun z => q2 ⟨z.1, z.2.1, by have := z.2.2; have : c ≠ j := fun w => q ⟨z.1, w⟩; omega⟩)]
          exact ⟨n + 1 - k + 1, lp (n + 1 - k) k f (by omega) (Nat.le_refl k) (mxl_cg hC (fun r c _ _ => by rw [if_neg (fun z => by have := z.2; omega)]))⟩
    -- the pivot's row scaled
    have piv : ∀ (d : Nat) (f : Nat → Int64) (C : Nat → Nat → Nat), 0 < d → d < p → mxl n f C → gj p n k C → el p n A N (dt n A) (zi C) d → ¬ C k k = 0 → wp_Model_eliminate_275 post th (nI n) vh vk vm vp fw fp K (lN p) (nI k) (lN d) f := by
      intro d f C hd0 hdp hC hv hel hne
      have hkp := hv.1 k k hk (by omega)
      have hi1 := fe_piv hpr hkp hne
      have hd2 : d * C k k % p < p := Nat.mod_lt _ (by omega)
      have hd3 : 0 < d * C k k % p := by
        rcases Nat.eq_zero_or_pos (d * C k k % p) with q | q
        · rcases pr_dvd hpr (Nat.dvd_of_mod_eq_zero q) with z | z
          · have := Nat.le_of_dvd hd0 z; omega
          · have := Nat.le_of_dvd (by omega) z; omega
        · exact q
      have hel2 := el_scale2 hel (gj_iv hv) hk hi1
      unfold wp_Model_eliminate_275
      rw [j41, c41 (by omega) (by omega), hC k k hk (by omega)]
      refine ⟨v41 (by omega) (by omega), l_ne0 (by omega) (by omega), fun x ex => ⟨v41 (by omega) (by omega), ?_⟩⟩
      have hb2 : d * C k k ≤ 2147483647 * 2147483647 := Nat.mul_le_mul (by omega) (by omega)
      rw [lN_mul, pk_lRem (by omega) (by omega) (by omega)] at ex
      rw [ex]
      refine sp_minverse (by omega) hp hkp ?_
      have hvp : C k k ^ (p - 2) % p < p := Nat.mod_lt _ (by omega)
      generalize C k k ^ (p - 2) % p = v at hi1 hel2 hvp ⊢
      have lp : ∀ (m2 j : Nat) (f' : Nat → Int64), j + m2 = n + 1 → k ≤ j → mxl n f' (fun r c => if r = k ∧ k ≤ c ∧ c < j then C r c * v % p else C r c) → wp_Model_eliminate_317 post th (nI n) vh vk vm vp fw fp K (m2 + 1) (lN p) (lN (d * C k k % p)) (nI k) (lN v) (nI j) f' := by
        intro m2
        induction m2 with
        | zero =>
          intro j f' hj hkj hm
          unfold wp_Model_eliminate_317
          refine ⟨fun _ => ⟨n + 1, ?_⟩, fun c => absurd (nI_lt (by omega) (by omega)) c⟩
          have hm' : mxl n f' (fun r c => if r = k ∧ k ≤ c then C r c * v % p else C r c) := mxl_cg hm (fun r c hr hc => by
            by_cases q : r = k ∧ k ≤ c
            · rw [if_pos ⟨q.1, q.2, by omega⟩, if_pos q]
            · rw [if_neg (fun z => q ⟨z.1, z.2.1⟩), if_neg q])
          refine clr (d * C k k % p) hd3 hd2 n 0 f' _ (by omega) hm' ⟨fun r c hr hc => ?_, fun r c hr hc hne2 => ?_, fun r hr => ?_⟩ ?_ (fun r hr => absurd hr (by omega)) hel2
          · try dsimp only
            split
            · exact Nat.mod_lt _ (by omega)
            · exact hv.1 r c hr hc
          · try dsimp only
            rw [if_neg (fun z => by omega)]
            exact hv.2.1 r c hr hc hne2
          · try dsimp only
            rw [if_neg (fun z => by omega)]
            exact hv.2.2 r hr
          · try dsimp only
            rw [if_pos ⟨rfl, Nat.le_refl k⟩]
            exact hi1
        | succ m2 ih2 =>
          intro j f' hj hkj hm
          unfold wp_Model_eliminate_317
          refine ⟨fun c => absurd ((nI_ltI (by omega) (by omega)).mp c) (by omega), fun _ => ?_⟩
          rw [j41, c41 (by omega) (by omega), hm k j hk (by omega)]
          have ek : (if k = k ∧ k ≤ j ∧ j < j then C k j * v % p else C k j) = C k j := if_neg (fun z => by omega)
          try dsimp only
          rw [ek]
          have c2 := hv.1 k j hk (by omega)
          have c3 : C k j * v ≤ 2147483647 * 2147483647 := Nat.mul_le_mul (by omega) (by omega)
          refine ⟨v41 (by omega) (by omega), l_ne0 (by omega) (by omega), v41 (by omega) (by omega), fun x ex => ?_⟩
          rw [ex, nI_1, lN_mul, pk_lRem (by omega) (by omega) (by omega)]
          refine ih2 (j + 1) _ (by omega) (by omega) (mxl_cg (mxl_upd (i := k) (j := j) hn hm (by omega)) (fun r c hr hc => ?_))
          by_cases q : r = k ∧ c = j
          · rw [if_pos q, if_pos ⟨q.1, by omega, by omega⟩, q.1, q.2]
          · rw [if_neg q]
            by_cases q2 : r = k ∧ k ≤ c ∧ c < j
            · rw [if_pos q2, if_pos ⟨q2.1, q2.2.1, by omega⟩]
            · rw [if_neg q2, if_neg (fun z => q2 ⟨z.1, z.2.1, by have := z.2.2; have : c ≠ j := fun w => q ⟨z.1, w⟩; omega⟩)]
      exact ⟨n + 1 - k + 1, lp (n + 1 - k) k f (by omega) (Nat.le_refl k) (mxl_cg hC (fun r c _ _ => by rw [if_neg (fun z => by have := z.2; omega)]))⟩
    intro d f C hd0 hdp hC hv hel
    -- the search, then the swap
    have main : ∀ (m i : Nat), i + m = n → k ≤ i → (∀ r, k ≤ r → r < i → C r k = 0) → wp_Model_eliminate_136 post th (nI n) vh vk vm vp fw fp K (m + 1) (lN p) (lN d) (nI k) (nI i) f := by
      intro m
      induction m with
      | zero =>
        intro i hi hki hz
        have ei : i = n := by omega
        subst ei
        unfold wp_Model_eliminate_136
        refine ⟨fun _ => ?_, fun c => absurd (nI_le (by omega) (by omega)) c⟩
        unfold wp_Model_eliminate_169
        refine ⟨fun _ => h0 f (el_fail hel hk (fun r c hr hcr hck => ?_) (fun r hr hkr => ?_)), fun c => absurd rfl c⟩
        · unfold zi
          rw [hv.2.1 r c hr hck (by omega)]
          rfl
        · unfold zi
          rw [hz r hkr hr]
          rfl
      | succ m ih =>
        intro i hi hki hz
        have hin : i < n := by omega
        have found : ¬ C i k = 0 → wp_Model_eliminate_169 post th (nI n) vh vk vm vp fw fp K (lN p) (lN d) (nI k) (nI i) f := by
          intro hne
          unfold wp_Model_eliminate_169
          refine ⟨fun e => absurd ((nI_eq (by omega) (by omega)).mp e) (by omega), fun _ => ?_⟩
          by_cases q : i = k
          · subst q
            refine ⟨1, ?_⟩
            have h261 : wp_Model_eliminate_261 post th (nI n) vh vk vm vp fw fp K (lN p) (lN d) (nI i) (nI i) f := by
              unfold wp_Model_eliminate_261
              exact ⟨fun _ => piv d f C hd0 hdp hC hv hel hne, fun c => absurd (nI_le (Nat.le_refl i) (by omega)) c⟩
            unfold wp_Model_eliminate_183
            exact ⟨fun _ => h261, fun _ => ⟨fun _ => h261, fun c => absurd (nI_le (Nat.le_refl i) (by omega)) c⟩⟩
          · have hlt : k < i := by omega
            have lp : ∀ (m2 j : Nat) (f' : Nat → Int64), j + m2 = n + 1 → mxl n f' (fun r c => if c < j then (if r = i then C k c else if r = k then C i c else C r c) else C r c) → wp_Model_eliminate_183 post th (nI n) vh vk vm vp fw fp K (m2 + 1) (lN p) (lN d) (nI k) (nI i) (nI j) f' := by
              intro m2
              induction m2 with
              | zero =>
                intro j f' hj hm
                unfold wp_Model_eliminate_183
                refine ⟨fun _ => ?_, fun c => absurd (nI_lt (by omega) (by omega)) c⟩
                unfold wp_Model_eliminate_261
                refine ⟨fun c => absurd ((nI_leI (by omega) (by omega)).mp c) (by omega), fun _ => ?_⟩
                rw [lN_sub (by omega)]
                have ed : (0 + p - d) % p = p - d := by rw [Nat.zero_add, Nat.mod_eq_of_lt (by omega)]
                have hel2 := el_swap2 hel hdp hlt hin
                rw [ed] at hel2
                refine piv (p - d) f' _ (by omega) (by omega) (mxl_cg hm (fun r c _ hc => by rw [if_pos (by omega)])) (gj_swap hv hlt hin) hel2 ?_
                rw [if_neg (by omega), if_pos rfl]
                exact hne
              | succ m2 ih2 =>
                intro j f' hj hm
                unfold wp_Model_eliminate_183
                refine ⟨fun c => absurd ((nI_ltI (by omega) (by omega)).mp c) (by omega), fun _ => ⟨fun c => absurd ((nI_leI (by omega) (by omega)).mp c) (by omega), fun _ => ?_⟩⟩
                rw [j41, j41, c41 (by omega) (by omega), c41 (by omega) (by omega)]
                refine ⟨v41 (by omega) (by omega), fun x ex => ⟨v41 (by omega) (by omega), v41 (by omega) (by omega), v41 (by omega) (by omega), fun y ey => ?_⟩⟩
                rw [hm i j hin (by omega)] at ex
                rw [ey, nI_1, ex, hm k j hk (by omega)]
                simp only [Nat.lt_irrefl, if_false]
                refine ih2 (j + 1) _ (by omega) (mxl_cg (mxl_upd (i := k) (j := j) hn (mxl_upd (i := i) (j := j) hn hm (by omega)) (by omega)) (fun r c hr hc => ?_))
                by_cases w : c = j
                · subst w
                  by_cases q1 : r = k
                  · subst q1
                    simp [show ¬ r = i by omega]
                  · by_cases q2 : r = i
                    · subst q2
                      simp [show ¬ r = k by omega]
                    · simp [q1, q2]
                · by_cases q3 : c < j
                  · simp [w, q3, show c < j + 1 by omega]
                  · simp [w, q3, show ¬ c < j + 1 by omega]
            exact ⟨n + 2, lp (n + 1) 0 f (by omega) (mxl_cg hC (fun r c _ _ => by rw [if_neg (by omega)]))⟩
        unfold wp_Model_eliminate_136
        refine ⟨fun c => absurd ((nI_leI (by omega) (by omega)).mp c) (by omega), fun _ => ?_⟩
        rw [j41, c41 (by omega) (by omega), hC i k hin (by omega)]
        have hb := hv.1 i k hin (by omega)
        refine ⟨v41 (by omega) (by omega), fun c x ex => ?_, fun c => found (fun q => c ((l_eq0 (b := 0) (by omega) (by omega)).mpr q))⟩
        rw [ex, nI_1]
        refine ih (i + 1) (by omega) (by omega) (fun r g1 g2 => ?_)
        by_cases q : r = i
        · rw [q]; exact (l_eq0 (b := 0) (by omega) (by omega)).mp c
        · exact hz r g1 (by omega)
    exact ⟨n - k + 1, main (n - k) k (by omega) (Nat.le_refl k) (fun r g1 g2 => absurd g1 (by omega))⟩
  have outer : ∀ (m k d : Nat) (f : Nat → Int64) (C : Nat → Nat → Nat), k + m = n → 0 < d → d < p → mxl n f C → gj p n k C → el p n A N (dt n A) (zi C) d → wp_Model_eliminate_123 post th (nI n) vh vk vm vp fw fp (m + 1) (lN p) (lN d) (nI k) f := by
    intro m
    induction m with
    | zero =>
      intro k d f C hk hd0 hdp hC hv hel
      have ek : k = n := by omega
      subst ek
      unfold wp_Model_eliminate_123
      refine ⟨fun _ => h1 d C f hd0 hdp ?_ hC (fun i hi => ⟨hv.1 i k hi (Nat.le_refl k), ?_⟩), fun c => absurd (nI_le (by omega) (by omega)) c⟩
      · have h2 := hel.2
        rw [dt_ut k (zi C) (fun i hi => by unfold zi; rw [hv.2.2 i hi]; rfl) (fun i j hi hj => by unfold zi; rw [hv.2.1 i j hi (by omega) (by omega)]; rfl), Int.mul_one] at h2
        exact h2
      · have h2 := hel.1 i hi
        have e : su (fun j => zi C i j * N j) k = N i := by
          rw [su_one k i hi (fun r hr hne => by unfold zi; rw [hv.2.1 i r hi hr (fun q => hne q.symm)]; simp)]
          unfold zi
          rw [hv.2.2 i hi]
          simp
        rw [e] at h2
        exact h2
    | succ m ih =>
      intro k d f C hk hd0 hdp hC hv hel
      unfold wp_Model_eliminate_123
      refine ⟨fun c => absurd ((nI_leI (by omega) (by omega)).mp c) (by omega), fun _ => ?_⟩
      exact step _ k (by omega) (fun d' f' C' g1 g2 g3 g4 g5 => ih (k + 1) d' f' C' (by omega) g1 g2 g3 g4 g5) d f C hd0 hdp hC hv hel
  exact ⟨n + 1, outer n 0 1 f1 C1 (by omega) (by omega) (by omega) hC1 hv1 hel1⟩
