/-! pure: the class's own methods -/
theorem bn480 {N : Nat} (h : N ≤ 2 ^ 480) : bn N := by
  unfold bn
  have e : 2147483648 ^ 16 = 2 ^ (31 * 16) := by rw [Nat.pow_mul]
  rw [e]
  exact Nat.lt_of_le_of_lt h (Nat.pow_lt_pow_right (by omega) (by omega))
section
variable {wo rs es pl : Int32} {ed rp' : Int64} {n : Nat} {cw cl cp ce ec kb kg ta tb to_ tw pt fs : Nat → Int32} {ea : Nat → Int64} {ab : Nat → Nat → Int32}
theorem sp_known {x : Int32} {post : Int32 → Prop} (hn : n ≤ 40) (h1 : ¬ wo = 0 → ∀ i, i < n → x = nI i → post 1) (h0 : (wo = 0 ∨ x < 0 ∨ nI n ≤ x) → post 0) : wp_Desk_isKnown post wo rs (nI n) cw cl cp ce es ed rp' ec ea kb kg ta tb to_ tw pl pt fs ab x := by
  unfold wp_Desk_isKnown wp_Desk_isKnown_22 wp_Desk_isKnown_23
  refine ⟨fun c => ⟨rfl, h0 (Or.inl c)⟩, fun c => sp_hasState (by omega) (fun i hi e => ⟨fun q => absurd q (by decide), fun _ => ⟨rfl, h1 c i hi e⟩⟩) (fun h => ⟨fun _ => ⟨rfl, h0 (Or.inr h)⟩, fun q => absurd rfl q⟩)⟩
theorem sp_dreduce {i D : Nat} {N : Nat → Nat} {post : Int32 → (Nat → Int32) → (Nat → Int32) → (Nat → Int32) → (Nat → Int32) → Prop} (hi : i < 40) (hkb : rp kb D) (hab : rp (ab i) (N i)) (hN : N i ≤ D) (hD0 : 0 < D) (hD : D ≤ 2 ^ 480)
    (hrs : rs = nI i → rp ta (N i / Nat.gcd (N i) D) ∧ rp tb (D / Nat.gcd (N i) D)) (hp : ∀ ta' tb' to' tw', rp ta' (N i / Nat.gcd (N i) D) → rp tb' (D / Nat.gcd (N i) D) → post (nI i) ta' tb' to' tw') : wp_Desk_reduce post wo (nI n) cw cl cp ce es ed rp' ec ea kb kg pl pt fs ab (nI i) rs ta tb to_ tw := by
  unfold wp_Desk_reduce wp_Desk_reduce_36
  refine ⟨fun c => ?_, fun c => ⟨i40 hi, ?_⟩⟩
  · obtain ⟨g1, g2⟩ := hrs c
    rw [c]
    exact hp _ _ _ _ g1 g2
  · rw [ic (by omega)]
    exact sp_reduce hab hkb (bn480 (by omega)) (bn480 hD) hD0 (fun a b c d h1 h2 => hp a b c d h1 h2)
theorem sp_dsolve {D : Nat} {M : Nat → Nat} {a : Nat → Nat → Nat} {N : Nat → Nat} {post : Int32 → Int32 → Int32 → (Nat → Int32) → Int32 → Int64 → Int64 → (Nat → Int32) → (Nat → Int64) → (Nat → Int32) → (Nat → Int32) → (Nat → Nat → Int32) → Prop}
    (hc : ckr n M a cw cl cp) (hs : ns n M a → sol n M a D N)
    (hw : ¬ wo = 0 → post 0 wo rs ce es ed rp' ec ea kb kg ab)
    (h6 : wo = 0 → 480 < sn (fun i => wt (M i)) n → post 6 wo rs ce es ed rp' ec ea kb kg ab)
    (h9 : wo = 0 → sn (fun i => wt (M i)) n ≤ 480 → ¬ ns n M a → ∀ ce', post 9 wo rs ce' es ed rp' ec ea kb kg ab)
    (h0 : wo = 0 → sn (fun i => wt (M i)) n ≤ 480 → ns n M a → ∀ ce' es' ed' rp'' ec' ea' kb' kg' ab', rp kb' D → (∀ i, i < n → rp (ab' i) (N i)) → post 0 1 (-1) ce' es' ed' rp'' ec' ea' kb' kg' ab') : wp_Desk_solve post (nI n) cw cl cp ta tb to_ tw pl pt fs wo rs ce es ed rp' ec ea kb kg ab := by
  obtain ⟨⟨hn1, hn⟩, hc2⟩ := id hc
  have hwl : sn (fun i => wt (M i)) n ≤ n * 31 := sn_le n (fun j hj => wt_le (hc2 j hj).2.1.1 (hc2 j hj).2.1.2)
  have l480 : ∀ {k : Nat}, k < 2 ^ 31 → (nI k ≤ (480 : Int32) ↔ k ≤ 480) := fun h => nI_leI (b := 480) h (by decide)
  unfold wp_Desk_solve
  refine ⟨fun c => ?_, fun c => hw c⟩
  refine sp_weight hn (fun i hi => ⟨(hc2 i hi).1, (hc2 i hi).2.1⟩) ⟨fun g => ?_, fun g => ?_⟩
  · have g' := (l480 (by omega)).mp g
    refine sp_isStuck hc (fun ce' g2 => ⟨fun _ => ?_, fun q => absurd rfl q⟩) (fun ce' g2 => ⟨fun q => absurd q (by decide), fun _ => h9 c g' g2 ce'⟩)
    exact sp_workOut hc g' (hs g2) (fun es' ed' rp'' ec' ea' kb' kg' ab' k1 k2 => h0 c g' g2 ce' es' ed' rp'' ec' ea' kb' kg' ab' k1 k2)
  · refine h6 c ?_
    rcases Nat.lt_or_ge 480 (sn (fun i => wt (M i)) n) with q | q
    · exact q
    · exact absurd ((l480 (by omega)).mpr q) g
theorem sp_dchar {L : Nat} {x : Int32} {post : Int32 → Prop} (hL : L ≤ 301) (h1 : ∀ k, k < L → x = nI k → post (pt k)) (h0 : (x < 0 ∨ nI L ≤ x) → post (-1)) : wp_Desk_character post wo rs (nI n) cw cl cp ce es ed rp' ec ea kb kg ta tb to_ tw (nI L) pt fs ab x := by
  unfold wp_Desk_character wp_Desk_character_15
  refine ⟨fun c => h0 (Or.inl c), fun c => ⟨fun c2 => ?_, fun c2 => h0 (Or.inr (Int32.not_lt.mp c2))⟩⟩
  rcases ix_cases L (by omega) x with ⟨k, hk, e⟩ | h | h
  · rw [e, ic (by omega)]
    exact ⟨vp_in_nI (by omega) (by decide), h1 k hk e⟩
  · exact absurd h c
  · exact absurd c2 (Int32.not_lt.mpr h)
theorem sp_dcompare {N : Nat → Nat} {x y : Int32} {post : Int32 → Prop} (hn : n ≤ 40) (hz : ¬ wo = 0 → ∀ i, i < n → rp (ab i) (N i) ∧ N i ≤ 2 ^ 480)
    (h2 : (wo = 0 ∨ (x < 0 ∨ nI n ≤ x) ∨ (y < 0 ∨ nI n ≤ y)) → post (-2))
    (h1 : ¬ wo = 0 → ∀ i j, i < n → j < n → x = nI i → y = nI j → ∀ r : Int32, (N i < N j ∧ r = -1 ∨ N i = N j ∧ r = 0 ∨ N j < N i ∧ r = 1) → post r) : wp_Desk_compare post wo rs (nI n) cw cl cp ce es ed rp' ec ea kb kg ta tb to_ tw pl pt fs ab x y := by
  unfold wp_Desk_compare wp_Desk_compare_16
  refine sp_known hn (fun g i hi e => ⟨fun q => absurd q (by decide), fun _ => ?_⟩) (fun h => ⟨fun _ => h2 (by rcases h with h | h; exact Or.inl h; exact Or.inr (Or.inl h)), fun q => absurd rfl q⟩)
  refine sp_known hn (fun _ j hj e2 => ⟨fun q => absurd q (by decide), fun _ => ?_⟩) (fun h => ⟨fun _ => h2 (by rcases h with h | h; exact Or.inl h; exact Or.inr (Or.inr h)), fun q => absurd rfl q⟩)
  obtain ⟨z1, b1⟩ := hz g i hi
  obtain ⟨z2, b2⟩ := hz g j hj
  rw [e, e2, ic (show i < 2 ^ 31 by omega), ic (show j < 2 ^ 31 by omega)]
  refine ⟨i40 (by omega), i40 (by omega), fun w => ?_, fun w => ?_⟩
  · subst w
    exact sp_order1 (h1 g i i hi hi e e2 _ (Or.inr (Or.inl ⟨rfl, rfl⟩)))
  · exact sp_order z1 z2 (bn480 b1) (bn480 b2) (fun w => h1 g i j hi hj e e2 _ (Or.inl ⟨w, rfl⟩)) (fun w => h1 g i j hi hj e e2 _ (Or.inr (Or.inl ⟨w, rfl⟩))) (fun w => h1 g i j hi hj e e2 _ (Or.inr (Or.inr ⟨w, rfl⟩)))
end
