/-! pure: what the methods of Natural answer and leave -/
def rp (f : Nat → Int32) (N : Nat) : Prop := ∀ j, j < 16 → f j = nI (dg N j)
def bn (N : Nat) : Prop := N < 2147483648 ^ 16
theorem i16 {k : Nat} (h : k < 16) : vp_in (nI k) 16 := vp_in_nI h (by decide)
theorem ic {k : Nat} (h : k < 2 ^ 31) : (nI k).toNatClampNeg = k := nI_clamp h
theorem l16 {k : Nat} (h : k < 2 ^ 31) : (16 : Int32) ≤ nI k ↔ 16 ≤ k := nI_leI (a := 16) (by decide) h
theorem dg31 (N k : Nat) : dg N k < 2 ^ 31 := dg_lt N k
theorem nI_i0 {a : Nat} (h : a < 2 ^ 31) : nI a = 0 ↔ a = 0 := nI_eq (b := 0) h (by decide)
theorem sp_set {v : Nat} (hv : v < 2147483648) {post : (Nat → Int32) → Prop} {f : Nat → Int32} (hp : ∀ f', rp f' v → post f') : wp_Natural_set post (nI v) f := by
  have main : ∀ (m k : Nat) (g : Nat → Int32), k + m = 16 → 1 ≤ k → (∀ j, 1 ≤ j → j < k → g j = 0) → wp_Natural_set_2 post (m + 1) (nI v) (nI k) g := by
    intro m
    induction m with
    | zero =>
      intro k g hk h1 hg
      unfold wp_Natural_set_2
      refine ⟨fun _ => ⟨i16 (k := 0) (by decide), hp _ (fun j hj => ?_)⟩, fun c => absurd ((l16 (by omega)).mpr (by omega)) c⟩
      by_cases c : j = 0
      · subst c
        show upd g 0 (nI v) 0 = _
        rw [pk_us]
        unfold dg
        rw [Nat.pow_zero, Nat.div_one, Nat.mod_eq_of_lt hv]
      · show upd g 0 (nI v) j = _
        rw [pk_un c, hg j (by omega) (by omega)]
        have h0 : dg v j = 0 := by
          unfold dg
          rw [Nat.div_eq_of_lt]
          have h2 : 2147483648 ^ 1 ≤ 2147483648 ^ j := Nat.pow_le_pow_right (by omega) (by omega)
          omega
        rw [h0]
        rfl
    | succ m ih =>
      intro k g hk h1 hg
      unfold wp_Natural_set_2
      refine ⟨fun c => absurd ((l16 (by omega)).mp c) (by omega), fun _ => ⟨i16 (by omega), fun x ex => ?_⟩⟩
      rw [ex, nI_1, ic (by omega)]
      refine ih (k + 1) _ (by omega) (by omega) (fun j h2 h3 => ?_)
      by_cases c : j = k
      · rw [c, pk_us]
      · rw [pk_un c]
        exact hg j h2 (by omega)
  exact ⟨16, main 15 1 f rfl (by omega) (fun j h2 h3 => absurd h3 (by omega))⟩
theorem sp_copy0 {g : Nat → Int32} {post : (Nat → Int32) → Prop} {f : Nat → Int32} (hp : ∀ f', (∀ j, j < 16 → f' j = g j) → post f') : wp_Natural_copy post g f := by
  have main : ∀ (m k : Nat) (f : Nat → Int32), k + m = 16 → (∀ j, j < k → f j = g j) → wp_Natural_copy_2 post g (m + 1) (nI k) f := by
    intro m
    induction m with
    | zero =>
      intro k f hk hg
      unfold wp_Natural_copy_2
      exact ⟨fun _ => hp _ (fun j hj => hg j (by omega)), fun c => absurd ((l16 (by omega)).mpr (by omega)) c⟩
    | succ m ih =>
      intro k f hk hg
      unfold wp_Natural_copy_2
      refine ⟨fun c => absurd ((l16 (by omega)).mp c) (by omega), fun _ => ⟨i16 (by omega), i16 (by omega), fun x ex => ?_⟩⟩
      rw [ex, nI_1, ic (by omega)]
      refine ih (k + 1) _ (by omega) (fun j h2 => ?_)
      by_cases c : j = k
      · rw [c, pk_us]
      · rw [pk_un c]
        exact hg j (by omega)
  exact ⟨17, main 16 0 f rfl (fun j h2 => absurd h2 (by omega))⟩
theorem sp_copy {g : Nat → Int32} {N : Nat} {post : (Nat → Int32) → Prop} {f : Nat → Int32} (hg : rp g N) (hp : ∀ f', rp f' N → post f') : wp_Natural_copy post g f :=
  sp_copy0 (fun f' h => hp f' (fun j hj => (h j hj).trans (hg j hj)))
/-! digits from above -/
theorem hi_step (N k : Nat) : N / 2147483648 ^ k = N / 2147483648 ^ (k + 1) * 2147483648 + dg N k := by
  unfold dg
  rw [Nat.pow_succ, ← Nat.div_div_eq_div_mul]
  have := Nat.div_add_mod (N / 2147483648 ^ k) 2147483648
  omega
theorem hi_top {N : Nat} (h : bn N) : N / 2147483648 ^ 16 = 0 := Nat.div_eq_of_lt h
theorem hi_0 (N : Nat) : N / 2147483648 ^ 0 = N := by rw [Nat.pow_zero, Nat.div_one]
theorem dg_all0 {N : Nat} (h : bn N) (h0 : ∀ j, j < 16 → dg N j = 0) : N = 0 := by
  have e := dg_ext 16 (M := N) (N := 0) (fun j hj => by rw [h0 j hj]; simp [dg])
  rw [Nat.mod_eq_of_lt h] at e
  simpa using e
theorem sp_upper {f : Nat → Int32} {post : Int32 → Prop} (h1 : (∀ j, 1 ≤ j → j < 16 → f j = 0) → post 1) (h0 : ∀ j, 1 ≤ j → j < 16 → ¬ f j = 0 → post 0) : wp_Natural_upperIsZero post f := by
  have main : ∀ (m k : Nat), k + m = 16 → 1 ≤ k → (∀ j, 1 ≤ j → j < k → f j = 0) → wp_Natural_upperIsZero_2 post f (m + 1) (nI k) := by
    intro m
    induction m with
    | zero =>
      intro k hk hk1 hz
      unfold wp_Natural_upperIsZero_2
      exact ⟨fun _ => h1 (fun j a b => hz j a (by omega)), fun c => absurd ((l16 (by omega)).mpr (by omega)) c⟩
    | succ m ih =>
      intro k hk hk1 hz
      unfold wp_Natural_upperIsZero_2
      refine ⟨fun c => absurd ((l16 (by omega)).mp c) (by omega), fun _ => ⟨i16 (by omega), fun c x ex => ?_, fun c => ?_⟩⟩
      · rw [ic (by omega)] at c
        rw [ex, nI_1]
        refine ih (k + 1) (by omega) (by omega) (fun j a b => ?_)
        by_cases q : j = k
        · rw [q]; exact c
        · exact hz j a (by omega)
      · rw [ic (by omega)] at c
        exact h0 k hk1 (by omega) c
  exact ⟨16, main 15 1 rfl (by omega) (fun j a b => absurd b (by omega))⟩
theorem nbool {b : Int32} (h : b = 0 ∨ b = 1) : narrow .boolean (.int b) = .int b := by rcases h with rfl | rfl <;> rfl
theorem sp_isZero {f : Nat → Int32} {N : Nat} {post : Int32 → Prop} (hf : rp f N) (hN : bn N) (h1 : N = 0 → post 1) (h0 : ¬ N = 0 → post 0) : wp_Natural_isZero post f := by
  have z : ∀ j, j < 16 → ¬ f j = 0 → ¬ N = 0 := fun j hj c e => c (by rw [hf j hj, e]; simp [dg]; rfl)
  unfold wp_Natural_isZero
  refine ⟨i16 (k := 0) (by decide), fun c => ?_, fun c => ?_⟩
  · refine sp_upper (fun hz => ?_) (fun j a b q => ?_)
    · refine ⟨fun q => absurd q (by decide), fun _ => ⟨rfl, h1 (dg_all0 hN (fun j hj => ?_))⟩⟩
      have e : f j = 0 := by
        by_cases q : j = 0
        · rw [q]; exact c
        · exact hz j (by omega) hj
      rw [hf j hj] at e
      exact (nI_i0 (dg31 N j)).mp e
    · exact ⟨fun _ => ⟨rfl, h0 (z j b q)⟩, fun q2 => absurd rfl q2⟩
  · exact ⟨rfl, h0 (z 0 (by decide) c)⟩
theorem sp_isOne {f : Nat → Int32} {N : Nat} {post : Int32 → Prop} (hf : rp f N) (hN : bn N) (h1 : N = 1 → post 1) (h0 : ¬ N = 1 → post 0) : wp_Natural_isOne post f := by
  have d1 : ∀ j, 1 ≤ j → dg 1 j = 0 := fun j hj => by
    unfold dg
    rw [Nat.div_eq_of_lt]
    have h2 : 2147483648 ^ 1 ≤ 2147483648 ^ j := Nat.pow_le_pow_right (by omega) hj
    omega
  have d0 : dg 1 0 = 1 := by simp [dg]
  unfold wp_Natural_isOne
  refine ⟨i16 (k := 0) (by decide), fun c => ?_, fun c => ?_⟩
  · refine sp_upper (fun hz => ?_) (fun j a b q => ?_)
    · refine ⟨fun q => absurd q (by decide), fun _ => ⟨rfl, h1 ?_⟩⟩
      have e := dg_ext 16 (M := N) (N := 1) (fun j hj => by
        by_cases q : j = 0
        · rw [q, d0]
          have c2 : f 0 = 1 := c
          rw [hf 0 (by decide)] at c2
          exact (nI_eq (b := 1) (dg31 N 0) (by decide)).mp c2
        · rw [d1 j (by omega)]
          have c2 := hz j (by omega) hj
          rw [hf j hj] at c2
          exact (nI_i0 (dg31 N j)).mp c2)
      rw [Nat.mod_eq_of_lt hN, Nat.mod_eq_of_lt (by decide)] at e
      exact e
    · exact ⟨fun _ => ⟨rfl, h0 (fun e => q (by rw [hf j b, e, d1 j a]; rfl))⟩, fun q2 => absurd rfl q2⟩
  · exact ⟨rfl, h0 (fun e => c (by show f 0 = 1; rw [hf 0 (by decide), e, d0]; rfl))⟩
theorem sp_isEven {f : Nat → Int32} {N : Nat} {post : Int32 → Prop} (hf : rp f N) (h1 : N % 2 = 0 → post 1) (h0 : N % 2 = 1 → post 0) : wp_Natural_isEven post f := by
  have e0 : f (0 : Int32).toNatClampNeg &&& 1 = nI (N % 2) := by
    show f 0 &&& 1 = _
    rw [hf 0 (by decide), pk_andN (m := 1) (by have := dg31 N 0; omega) 1 (by decide)]
    unfold dg
    rw [Nat.pow_zero, Nat.div_one]
    congr 1
    omega
  unfold wp_Natural_isEven
  refine ⟨i16 (k := 0) (by decide), fun c => ?_, fun c => ?_⟩
  · rw [e0] at c
    exact ⟨rfl, h1 ((nI_i0 (by omega)).mp c)⟩
  · rw [e0] at c
    refine ⟨rfl, h0 ?_⟩
    have : ¬ N % 2 = 0 := fun q => c ((nI_i0 (by omega)).mpr q)
    omega
