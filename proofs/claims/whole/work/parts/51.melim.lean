/-! pure: the reference's elimination by one prime -/
theorem sp_minverse {p a : Nat} (h1 : 1 < p) (hp : p < 2147483648) (ha : a < p) {post : Int64 → Prop} (h : post (lN (a ^ (p - 2) % p))) : wp_Model_inverse post (lN a) (lN p) := by
  unfold wp_Model_inverse
  refine ⟨l_ne0 (by omega) (by omega), fun y ey x ex => ?_⟩
  have e1 : y = lN a := by rw [ey, pk_lRem (by omega) (by omega) (by omega), Nat.mod_eq_of_lt ha]
  have e2 : x = lN (p - 2) := by rw [ex]; exact lN_sub (b := 2) (by omega)
  rw [e1, e2]
  have sq : ∀ {u v : Nat}, u < p → v < p → lN u * lN v - lN u * lN v / lN p * lN p = lN (u * v % p) := by
    intro u v hu hv
    have : u * v ≤ 2147483647 * 2147483647 := Nat.mul_le_mul (by omega) (by omega)
    rw [lN_mul, pk_lRem (by omega) (by omega) (by omega)]
  have main : ∀ (n r w e : Nat), e < n → r < p → w < p → e < 2 ^ 31 → r * w ^ e % p = a ^ (p - 2) % p → wp_Model_inverse_15 post n (lN p) (lN w) (lN r) (lN e) := by
    intro n
    induction n with
    | zero => intro r w e he; exact absurd he (Nat.not_lt_zero _)
    | succ n ih =>
      intro r w e he hr hw he2 hm
      have back : ∀ r', r' < p → e ≠ 0 → r' * (w * w % p) ^ (e / 2) % p = a ^ (p - 2) % p → wp_Model_inverse_43 post (wp_Model_inverse_15 post n) (lN p) (lN w) (lN e) (lN r') := by
        intro r' hr' h0 hm'
        unfold wp_Model_inverse_43
        refine ⟨l_ne0 (by omega) (by omega), fun z ez y ey => ?_⟩
        rw [sq hw hw] at ez
        rw [pf_shr (d := 1) (by decide) (by omega)] at ey
        rw [ez, ey]
        exact ih r' _ (e / 2 ^ 1) (by omega) hr' (Nat.mod_lt _ (by omega)) (by omega) (by rw [Nat.pow_one]; exact hm')
      have pw : ∀ z : Nat, z * (w * w % p) ^ (e / 2) % p = z * (w * w) ^ (e / 2) % p := by
        intro z
        rw [Nat.mul_mod, ← Nat.pow_mod, ← Nat.mul_mod]
      unfold wp_Model_inverse_15
      refine ⟨fun c => ?_, fun c => ⟨fun q => ⟨l_ne0 (by omega) (by omega), ?_⟩, fun q => ?_⟩⟩
      · have h0 : e = 0 := by have := (l_le0 (b := 0) (by omega) (by omega)).mp c; omega
        subst h0
        rw [Nat.pow_zero, Nat.mul_one, Nat.mod_eq_of_lt hr] at hm
        rw [hm]
        exact h
      · have h0 : e ≠ 0 := fun z => c ((l_le0 (b := 0) (by omega) (by omega)).mpr (by omega))
        rw [wb_a1 (by omega)] at q
        have q' := (l_eq0 (a := e % 2) (b := 1) (by omega) (by omega)).mp q
        rw [sq hr hw]
        refine back _ (Nat.mod_lt _ (by omega)) h0 ?_
        rw [pw, Nat.mod_mul_mod, ← hm]
        congr 1
        have e3 : w ^ e = w * (w * w) ^ (e / 2) := by
          conv => lhs; rw [show e = 2 * (e / 2) + 1 by omega]
          rw [Nat.pow_succ, Nat.pow_mul, Nat.mul_comm, Nat.pow_two]
        rw [e3, Nat.mul_assoc]
      · have h0 : e ≠ 0 := fun z => c ((l_le0 (b := 0) (by omega) (by omega)).mpr (by omega))
        rw [wb_a1 (by omega)] at q
        have q' : ¬ e % 2 = 1 := fun z => q ((l_eq0 (a := e % 2) (b := 1) (by omega) (by omega)).mpr z)
        refine back r hr h0 ?_
        rw [pw, ← hm]
        congr 1
        have e3 : w ^ e = (w * w) ^ (e / 2) := by
          conv => lhs; rw [show e = 2 * (e / 2) by omega]
          rw [Nat.pow_mul, Nat.pow_two]
        rw [e3]
  exact ⟨p - 2 + 1, main (p - 2 + 1) 1 a (p - 2) (by omega) (by omega) ha (by omega) (by rw [Nat.one_mul])⟩
def mxl (n : Nat) (f : Nat → Int64) (C : Nat → Nat → Nat) : Prop := ∀ i j, i < n → j ≤ n → f (i * 41 + j) = lN (C i j)
theorem j41 (i j : Nat) : 41 * nI i + nI j = nI (i * 41 + j) := by
  have e : (41 : Int32) = nI 41 := rfl
  rw [e, pk_mul, nI_add, Nat.mul_comm]
theorem mxl_upd {n : Nat} {f : Nat → Int64} {C : Nat → Nat → Nat} {i j v : Nat} (hn : n ≤ 40) (h : mxl n f C) (hj : j ≤ n) : mxl n (vp_updL f (i * 41 + j) (lN v)) (fun r c => if r = i ∧ c = j then v else C r c) := by
  intro r c hr hc
  show vp_updL f (i * 41 + j) (lN v) (r * 41 + c) = lN (if r = i ∧ c = j then v else C r c)
  by_cases q : r = i ∧ c = j
  · rw [if_pos q, q.1, q.2, pk_uLs]
  · rw [if_neg q, pk_uLn (ne41 (by omega) (by omega) q)]
    exact h r c hr hc
theorem mxl_cg {n : Nat} {f : Nat → Int64} {C C' : Nat → Nat → Nat} (h : mxl n f C) (e : ∀ i j, i < n → j ≤ n → C i j = C' i j) : mxl n f C' := fun i j hi hj => by rw [h i j hi hj, e i j hi hj]
/-- the first k columns are those of the unit matrix -/
def gj (p n k : Nat) (C : Nat → Nat → Nat) : Prop := (∀ i j, i < n → j ≤ n → C i j < p) ∧ (∀ i j, i < n → j < k → i ≠ j → C i j = 0) ∧ (∀ i, i < k → C i i = 1)
theorem gj_iv {p n k : Nat} {C : Nat → Nat → Nat} (h : gj p n k C) : iv p n k C := ⟨h.1, fun i j hi hj hji => h.2.1 i j hi hj (by omega), h.2.2⟩
theorem el_clear3 {p n i k : Nat} {A : Nat → Nat → Int} {N : Nat → Int} {D : Int} {C : Nat → Nat → Nat} {d : Nat} (h : el p n A N D (zi C) d) (hv : gj p n k C) (hik : i ≠ k) (hi : i < n) (hk : k < n) : el p n A N D (zi (fun r c => if r = i ∧ k ≤ c then (C i c + (p - C i k) * C k c) % p else C r c)) d := by
  have hb := hv.1 i k hi (by omega)
  refine el_cg (el_add h (i := i) (k := k) hik hi hk ((p - C i k : Nat) : Int)) (fun r c hr hc => ?_) (cg_rf p _)
  unfold zi rs
  try dsimp only
  by_cases q : r = i
  · subst q
    by_cases q2 : k ≤ c
    · rw [if_pos rfl, if_pos ⟨rfl, q2⟩]
      have := cg_sy (cg_nm p (C r c + (p - C r k) * C k c))
      rw [Int.natCast_add, Int.natCast_mul] at this
      exact this
    · rw [if_pos rfl, if_neg (fun z => q2 z.2), hv.2.1 k c hk (by omega) (by omega)]
      simp
      exact cg_rf p _
  · rw [if_neg q, if_neg (fun z => q z.1)]
    exact cg_rf p _
