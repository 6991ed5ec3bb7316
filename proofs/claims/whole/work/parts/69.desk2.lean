/-! pure: the class's print, places, billionths -/
section
variable {wo rs es pl : Int32} {ed rp' : Int64} {n : Nat} {cw cl cp ce ec kb kg ta tb to_ tw pt fs : Nat → Int32} {ea : Nat → Int64} {ab : Nat → Nat → Int32}
theorem sp_dprint {i D : Nat} {N : Nat → Nat} {post : Int32 → Int32 → (Nat → Int32) → (Nat → Int32) → (Nat → Int32) → (Nat → Int32) → Int32 → (Nat → Int32) → (Nat → Int32) → Prop} (hn : n ≤ 40) (hi : i < n) (hw : ¬ wo = 0) (hkb : rp kb D) (hab : rp (ab i) (N i)) (hN : N i ≤ D) (hD0 : 0 < D) (hD : D ≤ 2 ^ 480)
    (hrs : rs = nI i → rp ta (N i / Nat.gcd (N i) D) ∧ rp tb (D / Nat.gcd (N i) D))
    (hp : ∀ L ta' tb' to' tw' pt' fs', L ≤ 301 → rp ta' (N i / Nat.gcd (N i) D) → rp tb' (D / Nat.gcd (N i) D) → ptx (N i / Nat.gcd (N i) D) (D / Nat.gcd (N i) D) L pt' → post (nI L) (nI i) ta' tb' to' tw' (nI L) pt' fs') : wp_Desk_print post wo (nI n) cw cl cp ce es ed rp' ec ea kb kg ab (nI i) rs ta tb to_ tw pl pt fs := by
  have hP : N i / Nat.gcd (N i) D ≤ 2 ^ 480 := Nat.le_trans (Nat.div_le_self _ _) (by omega)
  have hQ : D / Nat.gcd (N i) D ≤ 2 ^ 480 := Nat.le_trans (Nat.div_le_self _ _) hD
  have hPn := nd150 hP
  have hQn := nd150 hQ
  have e47 : (47 : Int32) = nI 47 := rfl
  unfold wp_Desk_print
  refine sp_known hn (fun _ i' hi' e => ⟨fun q => absurd q (by decide), fun _ => ?_⟩) (fun h => ?_)
  · refine sp_dreduce (by omega) hkb hab hN hD0 hD hrs (fun ta' tb' to' tw' g1 g2 => ?_)
    unfold wp_Paper_clear
    generalize N i / Nat.gcd (N i) D = P at hP hPn hp g1
    generalize D / Nat.gcd (N i) D = Q at hQ hQn hp g2
    refine sp_copy g1 (fun s1 h1 => ?_)
    refine sp_writeDecimal (st := 0) (by omega) hPn (bn480 hP) h1 (fun pt1 s2 t1 _ => ?_)
    rw [Nat.zero_add]
    refine sp_isOne g2 (bn480 hQ) (fun w => ⟨fun q => absurd q (by decide), fun _ => ?_⟩) (fun w => ⟨fun _ => ?_, fun q => absurd rfl q⟩)
    · unfold wp_Desk_print_94
      exact hp (nd P) ta' tb' to' tw' pt1 s2 (by omega) g1 g2 (Or.inl ⟨w, rfl, t1⟩)
    · rw [e47]
      refine sp_write (by omega) (by omega) (sp_copy g2 (fun s3 h3 => ?_))
      refine sp_writeDecimal (by omega) hQn (bn480 hQ) h3 (fun pt2 s4 t2 k2 => ?_)
      unfold wp_Desk_print_94
      refine hp (nd P + 1 + nd Q) ta' tb' to' tw' pt2 s4 (by omega) g1 g2 (Or.inr ⟨w, rfl, fun k hk => ?_, ?_, t2⟩)
      · rw [k2 _ (by omega), pk_un (by omega)]
        exact t1 k hk
      · rw [k2 _ (by omega), pk_us]
  · rcases h with h | h
    · exact absurd h hw
    · exact absurd h (ix_not (by omega) hi)
theorem sp_dprint_no {x : Int32} {post : Int32 → Int32 → (Nat → Int32) → (Nat → Int32) → (Nat → Int32) → (Nat → Int32) → Int32 → (Nat → Int32) → (Nat → Int32) → Prop} (hn : n ≤ 40) (hno : wo = 0 ∨ x < 0 ∨ nI n ≤ x) (hp : post (-1) rs ta tb to_ tw pl pt fs) : wp_Desk_print post wo (nI n) cw cl cp ce es ed rp' ec ea kb kg ab x rs ta tb to_ tw pl pt fs := by
  unfold wp_Desk_print
  refine sp_known hn (fun g i' hi' e => ?_) (fun h => ⟨fun _ => hp, fun q => absurd rfl q⟩)
  rcases hno with h | h
  · exact absurd h g
  · rw [e] at h
    exact absurd h (ix_not (by omega) hi')
theorem sp_dplaces {i D : Nat} {y : Int32} {N : Nat → Nat} {post : Int32 → Int32 → (Nat → Int32) → (Nat → Int32) → (Nat → Int32) → (Nat → Int32) → Prop} (hn : n ≤ 40) (hi : i < n) (hw : ¬ wo = 0) (hkb : rp kb D) (hab : rp (ab i) (N i)) (hN : N i ≤ D) (hD0 : 0 < D) (hD : D ≤ 2 ^ 480)
    (hrs : rs = nI i → rp ta (N i / Nat.gcd (N i) D) ∧ rp tb (D / Nat.gcd (N i) D)) (hno : (y < 0 ∨ ¬ y ≤ 1) → post (-1) rs ta tb to_ tw)
    (h0 : ∀ ta' tb' to' tw', rp ta' (N i / Nat.gcd (N i) D) → rp tb' (D / Nat.gcd (N i) D) → (y = 0 → post (nI (bl (N i / Nat.gcd (N i) D))) (nI i) ta' tb' to' tw') ∧ (¬ y = 0 → post (nI (bl (D / Nat.gcd (N i) D))) (nI i) ta' tb' to' tw')) : wp_Desk_places post wo (nI n) cw cl cp ce es ed rp' ec ea kb kg pl pt fs ab (nI i) y rs ta tb to_ tw := by
  have hP : N i / Nat.gcd (N i) D ≤ 2 ^ 480 := Nat.le_trans (Nat.div_le_self _ _) (by omega)
  have hQ : D / Nat.gcd (N i) D ≤ 2 ^ 480 := Nat.le_trans (Nat.div_le_self _ _) hD
  unfold wp_Desk_places wp_Desk_places_17 wp_Desk_places_51
  refine sp_known hn (fun _ i' hi' e => ⟨fun q => absurd q (by decide), fun _ => ⟨fun c => hno (Or.inl c), fun c => ⟨fun c2 => ?_, fun c2 => hno (Or.inr c2)⟩⟩⟩) (fun h => ?_)
  · refine sp_dreduce (by omega) hkb hab hN hD0 hD hrs (fun ta' tb' to' tw' g1 g2 => ?_)
    obtain ⟨k0, k1⟩ := h0 ta' tb' to' tw' g1 g2
    exact ⟨fun w => sp_bits g1 (bn480 hP) (k0 w), fun w => sp_bits g2 (bn480 hQ) (k1 w)⟩
  · rcases h with h | h
    · exact absurd h hw
    · exact absurd h (ix_not (by omega) hi)
theorem sp_dplaces_no {x y : Int32} {post : Int32 → Int32 → (Nat → Int32) → (Nat → Int32) → (Nat → Int32) → (Nat → Int32) → Prop} (hn : n ≤ 40) (hno : wo = 0 ∨ x < 0 ∨ nI n ≤ x) (hp : post (-1) rs ta tb to_ tw) : wp_Desk_places post wo (nI n) cw cl cp ce es ed rp' ec ea kb kg pl pt fs ab x y rs ta tb to_ tw := by
  unfold wp_Desk_places wp_Desk_places_17
  refine sp_known hn (fun g i' hi' e => ?_) (fun h => ⟨fun _ => hp, fun q => absurd rfl q⟩)
  rcases hno with h | h
  · exact absurd h g
  · rw [e] at h
    exact absurd h (ix_not (by omega) hi')
end
