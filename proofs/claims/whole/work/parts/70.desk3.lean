/-! pure: the class's billionths -/
section
variable {wo rs es pl : Int32} {ed rp' : Int64} {n : Nat} {cw cl cp ce ec kb kg ta tb to_ tw pt fs : Nat → Int32} {ea : Nat → Int64} {ab : Nat → Nat → Int32}
theorem bn10 {N D : Nat} (h : N ≤ 10 * D) (hD : D ≤ 2 ^ 480) : bn N := by
  unfold bn
  have e : 2147483648 ^ 16 = 2 ^ 480 * 2 ^ 16 := by
    rw [← Nat.pow_add, show 2147483648 = 2 ^ 31 from rfl, ← Nat.pow_mul]
  rw [e]
  have h0 := Nat.pow_pos (n := 480) (show 0 < 2 by omega)
  generalize 2 ^ 480 = X at hD h0
  omega
theorem sp_dbill {i D : Nat} {N : Nat → Nat} {post : Int32 → (Nat → Int32) → Prop} (hn : n ≤ 40) (hi : i < n) (hw : ¬ wo = 0) (hkb : rp kb D) (hab : rp (ab i) (N i)) (hN : N i ≤ D) (hD0 : 0 < D) (hD : D ≤ 2 ^ 480)
    (hp : ∀ fs', post (nI (N i * 1000000000 / D)) fs') : wp_Desk_billionths post wo rs (nI n) cw cl cp ce es ed rp' ec ea kb kg ta tb to_ tw pl pt ab (nI i) fs := by
  have l9 : ∀ {k : Nat}, k < 2 ^ 31 → ((9 : Int32) ≤ nI k ↔ 9 ≤ k) := fun h => nI_leI (a := 9) (by decide) h
  have l9' : ∀ {k : Nat}, k < 2 ^ 31 → ((9 : Int32) < nI k ↔ 9 < k) := fun h => nI_ltI (a := 9) (by decide) h
  have inner : ∀ (K : Int32 → Int32 → (Nat → Int32) → Prop) (A p R : Nat), R < 10 * D → (∀ f', rp f' (R % D * 10) → K (nI (A + R / D)) (nI (p + 1)) f') → ∀ (m d : Nat) (f : Nat → Int32), d + m = 9 → d * D ≤ R → rp f (R - d * D) → wp_Desk_billionths_54 post wo rs (nI n) cw cl cp ce es ed rp' ec ea kb kg ta tb to_ tw pl pt ab K (m + 1) (nI (A + d)) (nI p) (nI d) f := by
    intro K A p R hR hK m
    have fin : ∀ (d : Nat) (f : Nat → Int32), d * D ≤ R → R - d * D < D → rp f (R - d * D) → wp_Desk_billionths_89 post wo rs (nI n) cw cl cp ce es ed rp' ec ea kb kg ta tb to_ tw pl pt ab K (nI (A + d)) (nI p) f := by
      intro d f h1 h2 h3
      have e1 : R = D * d + (R - d * D) := by rw [Nat.mul_comm]; omega
      have eq : R / D = d := by rw [e1, Nat.mul_add_div hD0, Nat.div_eq_of_lt h2, Nat.add_zero]
      have er : R % D = R - d * D := by rw [e1, Nat.mul_add_mod, Nat.mod_eq_of_lt h2, ← e1]
      have e10 : (10 : Int64) = lN 10 := rfl
      unfold wp_Desk_billionths_89
      rw [e10]
      refine sp_multiply h3 (by omega) (fun f' h4 => ?_)
      intro x ex
      rw [ex, nI_1, ← eq]
      rw [← er] at h4
      exact hK f' h4
    induction m with
    | zero =>
      intro d f hd h1 h3
      have e9 : d = 9 := by omega
      subst e9
      unfold wp_Desk_billionths_54
      exact ⟨fun _ => fin 9 f h1 (by omega) h3, fun c => absurd ((l9 (by omega)).mpr (by omega)) c⟩
    | succ m ih =>
      intro d f hd h1 h3
      unfold wp_Desk_billionths_54
      refine ⟨fun c => absurd ((l9 (by omega)).mp c) (by omega), fun _ => ?_⟩
      have step : D ≤ R - d * D → wp_Natural_subtract (fun u_13 => ∀ x3_14 : Int32, x3_14 = nI (A + d) + 1 → ∀ x5_15 : Int32, x5_15 = nI d + 1 → wp_Desk_billionths_54 post wo rs (nI n) cw cl cp ce es ed rp' ec ea kb kg ta tb to_ tw pl pt ab K (m + 1) x3_14 (nI p) x5_15 u_13) kb f := by
        intro hge
        refine sp_subtract h3 hkb hge (fun f' h4 => ?_)
        intro x ex y ey
        rw [ex, ey, nI_1, nI_1]
        have e2 : (d + 1) * D = d * D + D := by rw [Nat.add_mul, Nat.one_mul]
        refine ih (d + 1) f' (by omega) (by omega) ?_
        rw [e2, ← Nat.sub_sub]
        exact h4
      exact sp_order h3 hkb (bn10 (D := D) (by omega) hD) (bn480 hD) (fun w => ⟨fun _ => fin d f h1 w h3, fun q => absurd (by decide) q⟩) (fun w => ⟨fun q => absurd q (by decide), fun _ => step (by omega)⟩) (fun w => ⟨fun q => absurd q (by decide), fun _ => step (by omega)⟩)
  have outer : ∀ (m p A R : Nat) (f : Nat → Int32), p + m = 10 → R < 10 * D → A * 10 * D + R = N i * 10 ^ p → A < 1000000000 ∨ p = 10 → rp f R → (p = 10 → A = N i * 1000000000 / D) → wp_Desk_billionths_39 post wo rs (nI n) cw cl cp ce es ed rp' ec ea kb kg ta tb to_ tw pl pt ab (m + 1) (nI A) (nI p) f := by
    intro m
    induction m with
    | zero =>
      intro p A R f hp' hR hA _ hf hfin
      unfold wp_Desk_billionths_39
      refine ⟨fun _ => ?_, fun c => absurd ((l9' (by omega)).mpr (by omega)) c⟩
      rw [hfin (by omega)]
      exact hp f
    | succ m ih =>
      intro p A R f hp' hR hA hA2 hf hfin
      unfold wp_Desk_billionths_39
      refine ⟨fun c => absurd ((l9' (by omega)).mp c) (by omega), fun _ x ex => ⟨10, ?_⟩⟩
      have ex2 : x = nI (A * 10) := by rw [ex]; exact pk_mul A 10
      rw [ex2]
      have hdm := Nat.div_add_mod R D
      have hml := Nat.mod_lt R hD0
      have hval : N i * 10 ^ p / D = A * 10 + R / D := by
        rw [← hA, Nat.mul_comm (A * 10), Nat.mul_add_div hD0]
      refine inner _ (A * 10) p R hR (fun f' h4 => ?_) 9 0 f rfl (by omega) (by rw [Nat.zero_mul, Nat.sub_zero]; exact hf)
      refine ih (p + 1) (A * 10 + R / D) (R % D * 10) f' (by omega) (by omega) ?_ ?_ h4 (fun e => ?_)
      · rw [Nat.pow_succ, ← Nat.mul_assoc, ← hA, Nat.add_mul]
        generalize R / D = q at hdm
        generalize R % D = r at hdm
        rw [← hdm]
        grind
      · by_cases g : p = 9
        · exact Or.inr (by omega)
        · left
          rw [← hval]
          have hpow : 10 ^ p ≤ 10 ^ 8 := Nat.pow_le_pow_right (by omega) (by omega)
          have h5 : N i * 10 ^ p ≤ D * 10 ^ 8 := Nat.mul_le_mul hN hpow
          have h6 : N i * 10 ^ p / D ≤ 10 ^ 8 := by
            refine Nat.le_trans (Nat.div_le_div_right h5) ?_
            rw [Nat.mul_comm, Nat.mul_div_cancel _ hD0]
            exact Nat.le_refl _
          omega
      · have e9 : p = 9 := by omega
        subst e9
        exact hval.symm
  unfold wp_Desk_billionths
  refine sp_known hn (fun _ i' hi' e => ⟨fun q => absurd q (by decide), fun _ => ⟨i40 (by omega), ?_⟩⟩) (fun h => ?_)
  · rw [ic (by omega)]
    refine sp_copy hab (fun f1 h1 => ⟨11, outer 10 0 0 (N i) f1 rfl (by omega) (by simp) (Or.inl (by omega)) h1 (fun e => absurd e (by omega))⟩)
  · rcases h with h | h
    · exact absurd h hw
    · exact absurd h (ix_not (by omega) hi)
theorem sp_dbill_no {x : Int32} {post : Int32 → (Nat → Int32) → Prop} (hn : n ≤ 40) (hno : wo = 0 ∨ x < 0 ∨ nI n ≤ x) (hp : post (-1) fs) : wp_Desk_billionths post wo rs (nI n) cw cl cp ce es ed rp' ec ea kb kg ta tb to_ tw pl pt ab x fs := by
  unfold wp_Desk_billionths
  refine sp_known hn (fun g i' hi' e => ?_) (fun h => ⟨fun _ => hp, fun q => absurd rfl q⟩)
  rcases hno with h | h
  · exact absurd h g
  · rw [e] at h
    exact absurd h (ix_not (by omega) hi')
end
