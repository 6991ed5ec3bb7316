/-! pure: what the chain's equations have: a divisor and numbers above it, all within the weights -/
theorem am_sum (n : Nat) (M : Nat → Nat) (a : Nat → Nat → Nat) {i : Nat} (hi : i < n) : su (am M a i) n = (M i : Int) - (sn (a i) n : Int) := by
  have e1 : su (am M a i) n = su (fun j => if i = j then (M i : Int) else 0) n - su (fun j => (a i j : Int)) n := by
    rw [← su_sub]
    rfl
  have e2 : su (fun j => if i = j then (M i : Int) else 0) n = M i := by
    rw [su_one n i hi (fun r _ hr => by rw [if_neg (fun q => hr q.symm)]), if_pos rfl]
  have e3 : ∀ m : Nat, su (fun j => (a i j : Int)) m = (sn (a i) m : Int) := by
    intro m
    induction m with
    | zero => rfl
    | succ m ih => rw [su_s, ih, sn_s, Int.natCast_add]
  rw [e1, e2, e3]
theorem am_zm {n : Nat} {M : Nat → Nat} {a : Nat → Nat → Nat} (hs : ∀ i, i < n → sn (a i) (n + 1) ≤ M i) {lev : Nat → Nat} (hl : ∀ i, i < n → sn (a i) n < M i ∨ ∃ j, j < n ∧ 0 < a i j ∧ lev j < lev i) : zm n (am M a) lev := by
  refine ⟨fun i j hi hj hne => ?_, fun i hi => ?_, fun i hi => ?_⟩
  · unfold am
    rw [if_neg hne]
    omega
  · rw [am_sum n M a hi]
    have := hs i hi
    rw [sn_s] at this
    omega
  · rw [am_sum n M a hi]
    rcases hl i hi with q | ⟨j, h1, h2, h3⟩
    · left
      omega
    · right
      have hne : j ≠ i := fun q => by subst q; omega
      refine ⟨j, h1, hne, ?_, h3⟩
      unfold am
      rw [if_neg (fun q => hne q.symm)]
      omega
theorem pd_pow {f : Nat → Int} {w : Nat → Nat} : ∀ n : Nat, (∀ i, i < n → 0 < f i) → (∀ i, i < n → f i ≤ 2 ^ w i) → pd f n ≤ 2 ^ sn w n
  | 0, _, _ => by simp [pd, sn]
  | n + 1, h0, h => by
    rw [pd_s, sn_s, Int.pow_add]
    have h1 := pd_pow n (fun i hi => h0 i (by omega)) (fun i hi => h i (by omega))
    have h2 := h n (by omega)
    have h3 : (0 : Int) ≤ 2 ^ sn w n := Int.le_of_lt (Int.pow_pos (by omega))
    exact Int.mul_le_mul h1 h2 (Int.le_of_lt (h0 n (by omega))) h3
/-- what is given of a chain's numbers -/
def chok (n : Nat) (M : Nat → Nat) (a : Nat → Nat → Nat) : Prop := (1 ≤ n ∧ n ≤ 40) ∧ ∀ i, i < n → (1 ≤ M i ∧ M i ≤ 999999999) ∧ sn (a i) (n + 1) ≤ M i
theorem ckr_ok {n : Nat} {M : Nat → Nat} {a : Nat → Nat → Nat} {fw fl fp : Nat → Int32} (h : ckr n M a fw fl fp) : chok n M a := ⟨h.1, fun i hi => ⟨(h.2 i hi).2.1, (h.2 i hi).2.2.1⟩⟩
/-- D and N are the divisor and the numbers above it -/
def sol (n : Nat) (M : Nat → Nat) (a : Nat → Nat → Nat) (D : Nat) (N : Nat → Nat) : Prop := 0 < D ∧ D ≤ 2 ^ sn (fun i => wt (M i)) n ∧ dt n (am M a) = (D : Int) ∧ (∀ i, i < n → N i ≤ D) ∧ ∀ i, i < n → su (fun j => am M a i j * (N j : Int)) n = dt n (am M a) * (a i n : Int)
theorem sol_ex {n : Nat} {M : Nat → Nat} {a : Nat → Nat → Nat} (hc : chok n M a) (hn : ns n M a) : ∃ (D : Nat) (N : Nat → Nat), sol n M a D N := by
  obtain ⟨lev, hl⟩ := hn
  have hz := am_zm (fun i hi => (hc.2 i hi).2) hl
  obtain ⟨d1, d2⟩ := zm_dt n _ lev hz
  obtain ⟨N, hN⟩ := dv_all n (am M a) (fun i => (a i n : Int))
  have hN : ∀ i, i < n → su (fun j => am M a i j * N j) n = dt n (am M a) * (a i n : Int) := hN
  have n0 : ∀ i, i < n → 0 ≤ N i := zm_mono hz N (fun i hi => by
    rw [hN i hi]
    exact Int.mul_nonneg (Int.le_of_lt d1) (by omega))
  have n1 : ∀ i, i < n → 0 ≤ dt n (am M a) - N i := zm_mono hz (fun j => dt n (am M a) - N j) (fun i hi => by
    have e : su (fun j => am M a i j * (dt n (am M a) - N j)) n = dt n (am M a) * su (am M a i) n - su (fun j => am M a i j * N j) n := by
      rw [← su_mul, ← su_sub]
      exact su_congr n (fun j _ => by grind)
    rw [e, hN i hi, am_sum n M a hi, ← Int.mul_sub]
    refine Int.mul_nonneg (Int.le_of_lt d1) ?_
    have := (hc.2 i hi).2
    rw [sn_s] at this
    omega)
  have hp : pd (fun i => am M a i i) n ≤ 2 ^ sn (fun i => wt (M i)) n := pd_pow n (fun i hi => zm_diag hz hi) (fun i hi => by
    have h1 : am M a i i ≤ (M i : Int) := by unfold am; rw [if_pos rfl]; omega
    have h2 := (wt_spec (hc.2 i hi).1.1).1
    have h3 : M i ≤ 2 ^ wt (M i) := by omega
    have h4 : (M i : Int) ≤ ((2 ^ wt (M i) : Nat) : Int) := Int.ofNat_le.mpr h3
    rw [Int.natCast_pow] at h4
    exact Int.le_trans h1 h4)
  refine ⟨(dt n (am M a)).toNat, fun i => (N i).toNat, by omega, ?_, by omega, fun i hi => ?_, fun i hi => ?_⟩
  · have h5 : dt n (am M a) ≤ ((2 ^ sn (fun i => wt (M i)) n : Nat) : Int) := by
      rw [Int.natCast_pow]
      exact Int.le_trans d2 hp
    omega
  · have := n0 i hi
    have := n1 i hi
    show (N i).toNat ≤ (dt n (am M a)).toNat
    omega
  · rw [← hN i hi]
    exact su_congr n (fun j hj => by
      have := n0 j hj
      rw [Int.toNat_of_nonneg this])
/-- only one pair -/
theorem sol_D {n : Nat} {M : Nat → Nat} {a : Nat → Nat → Nat} {D D' : Nat} {N N' : Nat → Nat} (h : sol n M a D N) (h' : sol n M a D' N') : D = D' := by
  have := h.2.2.1.symm.trans h'.2.2.1
  exact Int.ofNat.inj this
theorem sol_N {n : Nat} {M : Nat → Nat} {a : Nat → Nat → Nat} {D D' : Nat} {N N' : Nat → Nat} (hc : chok n M a) (hn : ns n M a) (h : sol n M a D N) (h' : sol n M a D' N') : ∀ i, i < n → N i = N' i := by
  obtain ⟨lev, hl⟩ := hn
  have hz := am_zm (fun i hi => (hc.2 i hi).2) hl
  have z : ∀ (X Y : Nat → Nat), (∀ i, i < n → su (fun j => am M a i j * (X j : Int)) n = dt n (am M a) * (a i n : Int)) → (∀ i, i < n → su (fun j => am M a i j * (Y j : Int)) n = dt n (am M a) * (a i n : Int)) → ∀ i, i < n → (0 : Int) ≤ (X i : Int) - (Y i : Int) := by
    intro X Y hX hY
    refine zm_mono hz (fun j => (X j : Int) - (Y j : Int)) (fun i hi => ?_)
    have e : su (fun j => am M a i j * ((X j : Int) - (Y j : Int))) n = su (fun j => am M a i j * (X j : Int)) n - su (fun j => am M a i j * (Y j : Int)) n := by
      rw [← su_sub]
      exact su_congr n (fun j _ => by grind)
    rw [e, hX i hi, hY i hi]
    omega
  intro i hi
  have h1 := z N N' h.2.2.2.2 h'.2.2.2.2 i hi
  have h2 := z N' N h'.2.2.2.2 h.2.2.2.2 i hi
  omega
