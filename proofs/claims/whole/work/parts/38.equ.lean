/-! pure: the equations by one prime -/
def am (M : Nat → Nat) (a : Nat → Nat → Nat) : Nat → Nat → Int := fun i j => (if i = j then (M i : Int) else 0) - (a i j : Int)
def zi (C : Nat → Nat → Nat) : Nat → Nat → Int := fun i j => (C i j : Int)
def iv (p n k : Nat) (C : Nat → Nat → Nat) : Prop := (∀ i j, i < n → j ≤ n → C i j < p) ∧ (∀ i j, i < n → j < k → j < i → C i j = 0) ∧ (∀ i, i < k → C i i = 1)
theorem cg_nm (p x : Nat) : cg p ((x % p : Nat) : Int) x := cg_nat (Nat.mod_mod x p)
theorem cg_neg {p d : Nat} (h : d < p) : cg p (((0 + p - d) % p : Nat) : Int) (-(d : Int)) := by
  refine cg_tr (cg_nm p (0 + p - d)) ?_
  refine ⟨1, ?_⟩
  rw [Nat.zero_add, Int.ofNat_sub (by omega)]
  omega
theorem cg_dif {p x y : Nat} (hy : y < p) : cg p (((x + p - y) % p : Nat) : Int) ((x : Int) - y) := by
  refine cg_tr (cg_nm p (x + p - y)) ?_
  refine ⟨1, ?_⟩
  rw [Int.ofNat_sub (by omega)]
  omega
theorem iv_swap {p n k i : Nat} {C : Nat → Nat → Nat} (h : iv p n k C) (hki : k < i) (hi : i < n) : iv p n k (fun r c => if r = i then C k c else if r = k then C i c else C r c) := by
  obtain ⟨h1, h2, h3⟩ := h
  refine ⟨fun r c hr hc => ?_, fun r c hr hc hcr => ?_, fun r hr => ?_⟩
  · try dsimp only
    split
    · exact h1 k c (by omega) hc
    · split
      · exact h1 i c hi hc
      · exact h1 r c hr hc
  · try dsimp only
    split
    · exact h2 k c (by omega) hc hc
    · split
      · exact h2 i c hi hc (by omega)
      · exact h2 r c hr hc hcr
  · try dsimp only
    rw [if_neg (by omega), if_neg (by omega)]
    exact h3 r hr
theorem el_swap2 {p n k i : Nat} {A : Nat → Nat → Int} {N : Nat → Int} {D : Int} {C : Nat → Nat → Nat} {d : Nat} (h : el p n A N D (zi C) d) (hd : d < p) (hki : k < i) (hi : i < n) : el p n A N D (zi (fun r c => if r = i then C k c else if r = k then C i c else C r c)) (((0 + p - d) % p : Nat) : Int) := by
  refine el_cg (el_swap h (a := i) (b := k) (by omega) hi (by omega)) (fun r c _ _ => cg_of ?_) (cg_sy (cg_neg hd))
  unfold zi rs
  by_cases q1 : r = k
  · subst q1
    simp [show ¬ r = i by omega]
  · by_cases q2 : r = i
    · subst q2
      simp [q1]
    · simp [q1, q2]
/-- the pivot's row scaled -/
theorem el_scale2 {p n k v : Nat} {A : Nat → Nat → Int} {N : Nat → Int} {D : Int} {C : Nat → Nat → Nat} {d : Nat} (h : el p n A N D (zi C) d) (hv : iv p n k C) (hk : k < n) (hinv : C k k * v % p = 1) : el p n A N D (zi (fun r c => if r = k ∧ k ≤ c then C r c * v % p else C r c)) ((d * C k k % p : Nat) : Int) := by
  have h1 : cg p ((C k k : Int) * (v : Int)) 1 := by
    have := cg_nat (p := p) (a := C k k * v) (b := 1) (by rw [hinv]; rcases Nat.lt_or_ge 1 p with q | q
                                                          · exact (Nat.mod_eq_of_lt q).symm
                                                          · have : p = 1 ∨ p = 0 := by omega
                                                            rcases this with rfl | rfl
                                                            · rw [Nat.mod_one] at hinv; omega
                                                            · simp)
    rw [Int.natCast_mul] at this
    exact this
  refine el_cg (el_scale h hk h1) (fun r c hr hc => ?_) ?_
  · unfold zi rs
    try dsimp only
    by_cases q : r = k
    · subst q
      by_cases q2 : r ≤ c
      · rw [if_pos rfl, if_pos ⟨rfl, q2⟩]
        have := cg_sy (cg_nm p (C r c * v))
        rw [Int.natCast_mul, Int.mul_comm] at this
        exact this
      · rw [if_pos rfl, if_neg (fun z => q2 z.2), hv.2.1 r c hr (by omega) (by omega)]
        simp
        exact cg_rf p 0
    · rw [if_neg q, if_neg (fun z => q z.1)]
      exact cg_rf p _
  · have := cg_sy (cg_nm p (d * C k k))
    rw [Int.natCast_mul] at this
    exact this
theorem el_clear2 {p n i k : Nat} {A : Nat → Nat → Int} {N : Nat → Int} {D : Int} {C : Nat → Nat → Nat} {d : Nat} (h : el p n A N D (zi C) d) (hv : iv p n k C) (h1 : C k k = 1) (hki : k < i) (hi : i < n) : el p n A N D (zi (fun r c => if r = i ∧ k ≤ c then (if c = k then 0 else (C i c + (p - C i k) * C k c) % p) else C r c)) d := by
  have hb := hv.1 i k hi (by omega)
  refine el_cg (el_add h (i := i) (k := k) (by omega) hi (by omega) ((p - C i k : Nat) : Int)) (fun r c hr hc => ?_) (cg_rf p _)
  unfold zi rs
  try dsimp only
  by_cases q : r = i
  · subst q
    by_cases q2 : k ≤ c
    · rw [if_pos rfl, if_pos ⟨rfl, q2⟩]
      by_cases q3 : c = k
      · rw [if_pos q3, q3, h1]
        refine ⟨1, ?_⟩
        rw [Int.ofNat_sub (by omega)]
        simp
        omega
      · rw [if_neg q3]
        have := cg_sy (cg_nm p (C r c + (p - C r k) * C k c))
        rw [Int.natCast_add, Int.natCast_mul] at this
        exact this
    · rw [if_pos rfl, if_neg (fun z => q2 z.2), hv.2.1 r c hr (by omega) (by omega), hv.2.1 k c (by omega) (by omega) (by omega)]
      simp
      exact cg_rf p 0
  · rw [if_neg q, if_neg (fun z => q z.1)]
    exact cg_rf p _
theorem fe_piv {p x : Nat} (hp : pr_ p) (hx : x < p) (h0 : ¬ x = 0) : x * (x ^ (p - 2) % p) % p = 1 := by
  have hd : ¬ p ∣ x := fun q => by have := Nat.le_of_dvd (by omega) q; omega
  have h := fe_inv hp hd
  rw [Nat.mul_mod, Nat.mod_mod, ← Nat.mul_mod]
  exact h
theorem sp_eliminate {p n k d : Nat} {A : Nat → Nat → Int} {N : Nat → Int} {D : Int} {f : Nat → Int32} {g : Nat → Int64} {C : Nat → Nat → Nat} {post : Int32 → Int64 → (Nat → Int32) → Prop} (hpr : pr_ p) (hp : p < 2147483648) (hn : n ≤ 40) (hk : k < n) (hC : mx n f C) (hv : iv p n k C) (hd : d < p) (hel : el p n A N D (zi C) d)
    (h1 : ∀ f' C' d', mx n f' C' → iv p n (k + 1) C' → d' < p → el p n A N D (zi C') d' → post 1 (lN d') f') (h0 : (p : Int) ∣ dt n A → post 0 (lN d) f) : wp_Equations_eliminate post (nI n) (lN p) g (nI k) (lN d) f := by
  have p2 := hpr.1
  have rest : ∀ (f : Nat → Int32) (C : Nat → Nat → Nat) (d : Nat), mx n f C → iv p n k C → d < p → el p n A N D (zi C) d → ¬ C k k = 0 → wp_Equations_eliminate_39 post (nI n) (lN p) g (nI k) (lN d) f := by
    intro f C d hC hv hd hel hkk
    have hb : ∀ i j, i < n → j ≤ n → C i j < 2147483648 := fun i j hi hj => by have := hv.1 i j hi hj; omega
    unfold wp_Equations_eliminate_39
    rw [i41, c41 (by omega) (by omega), hC k k hk (by omega)]
    refine ⟨v41 (by omega) (by omega), fun x ex => ?_⟩
    have hkp := hv.1 k k hk (by omega)
    rw [nI_l (by omega)] at ex
    rw [ex]
    refine sp_times (by omega) hp (by omega) (by omega) (sp_inverse (by omega) hp hkp ?_)
    have hi1 := fe_piv hpr hkp hkk
    refine sp_scaleRow hn hk (by omega) hp (by have := Nat.mod_lt (C k k ^ (p - 2)) (show 0 < p by omega); omega) hC hb (fun f2 hC2 => ?_)
    have hel2 := el_scale2 hel hv hk hi1
    have hv2 : iv p n k (fun r c => if r = k ∧ k ≤ c then C r c * (C k k ^ (p - 2) % p) % p else C r c) := by
      refine ⟨fun r c hr hc => ?_, fun r c hr hc hcr => ?_, fun r hr => ?_⟩
      · try dsimp only
        split
        · exact Nat.mod_lt _ (by omega)
        · exact hv.1 r c hr hc
      · try dsimp only
        rw [if_neg (fun z => by omega)]
        exact hv.2.1 r c hr hc hcr
      · try dsimp only
        rw [if_neg (fun z => by omega)]
        exact hv.2.2 r hr
    have hone : (fun r c => if r = k ∧ k ≤ c then C r c * (C k k ^ (p - 2) % p) % p else C r c) k k = 1 := by
      try dsimp only
      rw [if_pos ⟨rfl, Nat.le_refl k⟩]
      exact hi1
    generalize (fun r c => if r = k ∧ k ≤ c then C r c * (C k k ^ (p - 2) % p) % p else C r c) = C2 at hC2 hel2 hv2 hone
    intro y ey
    rw [ey, nI_1]
    have hdm : d * C k k % p < p := Nat.mod_lt _ (by omega)
    generalize d * C k k % p = d2 at hel2 hdm ⊢
    have main : ∀ (m i : Nat) (f : Nat → Int32) (C : Nat → Nat → Nat), i + m = n → k < i → mx n f C → iv p n k C → el p n A N D (zi C) d2 → C k k = 1 → (∀ r, k < r → r < i → C r k = 0) → wp_Equations_eliminate_86 post (nI n) (lN p) g (m + 1) (nI k) (nI i) (lN d2) f := by
      intro m
      induction m with
      | zero =>
        intro i f C hi hki hC hv hel hkk hz
        unfold wp_Equations_eliminate_86
        refine ⟨fun _ => h1 f C d2 hC ⟨hv.1, fun r c hr hc hcr => ?_, fun r hr => ?_⟩ hdm hel, fun c => absurd (nI_le (by omega) (by omega)) c⟩
        · by_cases q : c = k
          · rw [q]; exact hz r (by omega) (by omega)
          · exact hv.2.1 r c hr (by omega) hcr
        · by_cases q : r = k
          · rw [q]; exact hkk
          · exact hv.2.2 r (by omega)
      | succ m ih =>
        intro i f C hi hki hC hv hel hkk hz
        have hb : ∀ i j, i < n → j ≤ n → C i j < 2147483648 := fun i j hi hj => by have := hv.1 i j hi hj; omega
        unfold wp_Equations_eliminate_86
        refine ⟨fun c => absurd ((nI_leI (by omega) (by omega)).mp c) (by omega), fun _ => ?_⟩
        rw [i41, c41 (by omega) (by omega), hC i k (by omega) (by omega)]
        refine ⟨v41 (by omega) (by omega), fun c => ?_, fun c => ?_⟩
        · unfold wp_Equations_eliminate_117
          intro z ez
          rw [ez, nI_1]
          refine ih (i + 1) f C (by omega) (by omega) hC hv hel hkk (fun r a b => ?_)
          by_cases q : r = i
          · rw [q]; exact (nI_i0 (hb i k (by omega) (by omega))).mp c
          · exact hz r a (by omega)
        · refine sp_clearCell hn (by omega) hk (by omega) (by omega) hp hC hv.1 (fun f3 hC3 => ?_)
          unfold wp_Equations_eliminate_117
          intro z ez
          rw [ez, nI_1]
          refine ih (i + 1) f3 _ (by omega) (by omega) hC3 ⟨fun r c hr hc => ?_, fun r c hr hc hcr => ?_, fun r hr => ?_⟩ (el_clear2 hel hv hkk hki (by omega)) ?_ (fun r a b => ?_)
          · try dsimp only
            split
            · split
              · omega
              · exact Nat.mod_lt _ (by omega)
            · exact hv.1 r c hr hc
          · try dsimp only
            rw [if_neg (fun z => by omega)]
            exact hv.2.1 r c hr hc hcr
          · try dsimp only
            rw [if_neg (fun z => by omega)]
            exact hv.2.2 r hr
          · try dsimp only
            rw [if_neg (fun z => by omega)]
            exact hkk
          · try dsimp only
            by_cases q : r = i
            · rw [if_pos ⟨q, Nat.le_refl k⟩, if_pos rfl]
            · rw [if_neg (fun z => q z.1)]
              exact hz r a (by omega)
    refine ⟨n - (k + 1) + 1, main (n - (k + 1)) (k + 1) f2 C2 (by omega) (by omega) hC2 hv2 hel2 hone (fun r a b => absurd a (by omega))⟩
  have hb : ∀ i j, i < n → j ≤ n → C i j < 2147483648 := fun i j hi hj => by have := hv.1 i j hi hj; omega
  unfold wp_Equations_eliminate
  refine sp_pivotRow hn hk hC hb (fun i hki hi hne => ⟨fun _ => ⟨fun e => ?_, fun e => ?_⟩, fun c => absurd (nI_pos' (by omega)) c⟩) (fun hz => ⟨fun c => absurd c (by decide), fun _ => h0 ?_⟩)
  · have e' := (nI_eq (by omega) (by omega)).mp e
    subst e'
    exact rest f C d hC hv hd hel hne
  · have hik : ¬ i = k := fun q => e (by rw [q])
    refine sp_swapRows hn hi hk hik hC (fun f2 hC2 => ?_)
    refine sp_minus (a := 0) hp (by omega) hd ?_
    refine rest f2 _ _ hC2 (iv_swap hv (by omega) hi) (Nat.mod_lt _ (by omega)) (el_swap2 hel hd (by omega) hi) ?_
    try dsimp only
    rw [if_neg (by omega), if_pos rfl]
    exact hne
  · refine el_fail hel hk (fun r c hr hcr hck => ?_) (fun r hr hkr => ?_)
    · unfold zi
      rw [hv.2.1 r c hr hck hcr]
      rfl
    · unfold zi
      rw [hz r hkr hr]
      rfl
