/-! pure: the reference's solve, print, character, compare, places -/
theorem p480 : 2 ^ 480 < 10 ^ 150 := by
  have e1 : 2 ^ 480 = (2 ^ 48) ^ 10 := by rw [← Nat.pow_mul]
  have e2 : 10 ^ 150 = (10 ^ 15) ^ 10 := by rw [← Nat.pow_mul]
  rw [e1, e2]
  exact Nat.pow_lt_pow_left (by decide) (by decide)
theorem nd150 {N : Nat} (h : N ≤ 2 ^ 480) : nd N ≤ 150 := nd_le 150 N (by omega) (Nat.lt_of_le_of_lt h p480)
theorem le520 {N : Nat} (h : N ≤ 2 ^ 480) : N < 2 ^ 520 := Nat.lt_of_le_of_lt h (Nat.pow_lt_pow_right (by omega) (by omega))
theorem sp_msolve {n D c : Nat} {M : Nat → Nat} {a : Nat → Nat → Nat} {N : Nat → Nat} {th vh vp vm : Int32} {fw fp fo : Nat → Int32} {f31 fpr frs frw dgs : Nat → Int64} {z : Nat → Int32} {post : Int32 → Int32 → Int32 → Int32 → Int32 → (Nat → Int64) → (Nat → Int64) → (Nat → Int64) → (Nat → Int64) → (Nat → Int64) → (Nat → Int32) → (Nat → Int32) → Prop}
    (hok : chok n M a) (hc : cmr n M a fw fp) (hk : kn c f31) (hs : ns n M a → sol n M a D N)
    (h6 : 480 < sn (fun i => wt (M i)) n → post 6 0 0 (nI c) vm f31 fpr frs frw dgs z fo)
    (h9 : sn (fun i => wt (M i)) n ≤ 480 → ¬ ns n M a → ∀ fo', post 9 0 0 (nI c) vm f31 fpr frs frw dgs z fo')
    (h0 : sn (fun i => wt (M i)) n ≤ 480 → ns n M a → ∀ c' vm' f31' fpr' frs' frw' dgs' z' fo', kn c' f31' → rq z' 880 D → (∀ i, i < n → rq z' (22 * i) (N i)) → post 0 0 1 (nI c') vm' f31' fpr' frs' frw' dgs' z' fo') : wp_Model_solve post (nI n) vp fw fp th vh (nI c) vm f31 fpr frs frw dgs z fo := by
  unfold wp_Model_solve
  refine sp_isLarge hok hc (fun g => ⟨fun q => absurd q (by decide), fun _ => h6 g⟩) (fun g => ⟨fun _ => ?_, fun q => absurd rfl q⟩)
  refine sp_misStuck hok hc (fun fo' g2 => ⟨fun _ => ?_, fun q => absurd rfl q⟩) (fun fo' g2 => ⟨fun q => absurd q (by decide), fun _ => h9 g g2 fo'⟩)
  exact sp_mworkOut hok hc g (hs g2) hk (fun c' vm' f31' fpr' frs' frw' dgs' z' hk' hD hN => h0 g g2 c' vm' f31' fpr' frs' frw' dgs' z' fo' hk' hD hN)
/-- the text of a fraction -/
def ptx (P Q L : Nat) (o : Nat → Int32) : Prop := (Q = 1 ∧ L = nd P ∧ tx P 0 o) ∨ (¬ Q = 1 ∧ L = nd P + 1 + nd Q ∧ tx P 0 o ∧ o (nd P) = nI 47 ∧ tx Q (nd P + 1) o)
theorem ptx_eq {P Q L L' : Nat} {o o' : Nat → Int32} (h : ptx P Q L o) (h' : ptx P Q L' o') : L = L' ∧ ∀ k, k < L → o k = o' k := by
  have one : ∀ {k : Nat}, k < nd P → tx P 0 o → tx P 0 o' → o k = o' k := by
    intro k hk g g'
    have e1 := g k hk
    have e2 := g' k hk
    rw [Nat.zero_add] at e1 e2
    rw [e1, e2]
  rcases h with ⟨h1, h2, h3⟩ | ⟨h1, h2, h3, h4, h5⟩
  · rcases h' with ⟨g1, g2, g3⟩ | ⟨g1, g2, g3, g4, g5⟩
    · exact ⟨by omega, fun k hk => one (by omega) h3 g3⟩
    · exact absurd h1 g1
  · rcases h' with ⟨g1, g2, g3⟩ | ⟨g1, g2, g3, g4, g5⟩
    · exact absurd g1 h1
    · refine ⟨by omega, fun k hk => ?_⟩
      rcases Nat.lt_trichotomy k (nd P) with w | w | w
      · exact one w h3 g3
      · rw [w, h4, g4]
      · obtain ⟨j, rfl⟩ : ∃ j, k = nd P + 1 + j := ⟨k - (nd P + 1), by omega⟩
        rw [h5 j (by omega), g5 j (by omega)]
theorem sp_mprint {N D i n : Nat} {th vh vk vm vp : Int32} {post : Int32 → Int32 → Int32 → (Nat → Int32) → (Nat → Int32) → Prop} {z out : Nat → Int32} (hn : n ≤ 40) (hi : i < n) (hh : ¬ vh = 0) (hz : rq z (22 * i) N) (hD : rq z 880 D) (hN : N ≤ D) (hD0 : 0 < D) (hD2 : D ≤ 2 ^ 480)
    (hp : ∀ L z' out', L ≤ 301 → ptx (N / Nat.gcd N D) (D / Nat.gcd N D) L out' → (∀ s, s < 902 → z' s = z s) → post (nI L) 0 (nI L) z' out') : wp_Model_print post (nI n) vh vk vm (nI i) th vp z out := by
  have c9 : (902 : Int32) = nI 902 ∧ (924 : Int32) = nI 924 ∧ (968 : Int32) = nI 968 := ⟨rfl, rfl, rfl⟩
  obtain ⟨k1, k2, k4⟩ := c9
  have hP : N / Nat.gcd N D ≤ 2 ^ 480 := Nat.le_trans (Nat.div_le_self _ _) (by omega)
  have hQ : D / Nat.gcd N D ≤ 2 ^ 480 := Nat.le_trans (Nat.div_le_self _ _) hD2
  have hPn := nd150 hP
  have hQn := nd150 hQ
  have e0 : (0 : Int32) = nI 0 := rfl
  have e1 : (1 : Int64) = lN 1 := rfl
  unfold wp_Model_print
  refine sp_noLike (by omega) (fun _ i' hi' e => ⟨fun _ => ?_, fun q => absurd rfl q⟩) (fun h => ?_)
  · refine sp_mreduce (by omega) hz hD (le520 (by omega)) hD0 (le520 hD2) (fun z1 q1 q2 s1 => ?_)
    rw [k1, k2, k4, e1]
    generalize hPe : N / Nat.gcd N D = P at hP hp q1 hPn
    generalize hQe : D / Nat.gcd N D = Q at hQ hp q2 hQn
    refine sp_mfig (at0 := 0) (by omega) (by omega) (by omega) (lt520 (le520 hP)) q1 (fun z2 o2 t2 _ s2 => ?_)
    rw [Nat.zero_add]
    refine sp_put (by omega) (by omega) (fun z3 h3 s3 => ?_)
    have q3 : rq z3 924 Q := rq_keep q2 (fun k hk => by rw [s3 _ (by omega), s2 _ (by omega)])
    have sz3 : ∀ s, s < 902 → z3 s = z s := fun s g => by rw [s3 _ (by omega), s2 _ (by omega), s1 s g]
    have two : ¬ Q = 1 → vp_in (nI (nd P)) 320 ∧ wp_Model_figures (fun r_14 u_12 u_13 => wp_Model_print_64 post (nI n) vh vk vm r_14 0 vp u_12 u_13) 0 (nI n) vh vk vm vp (nI 924) (nI (nd P) + 1) z3 (upd o2 (nI (nd P)).toNatClampNeg 47) := by
      intro hQ1
      refine ⟨vp_in_nI (by omega) (by decide), ?_⟩
      rw [nI_1, ic (by omega)]
      refine sp_mfig (by omega) (by omega) (by omega) (lt520 (le520 hQ)) q3 (fun z4 o4 t4 k4 s4 => ?_)
      unfold wp_Model_print_64
      refine hp (nd P + 1 + nd Q) z4 o4 (by omega) (Or.inr ⟨hQ1, rfl, fun k hk => ?_, ?_, t4⟩) (fun s g => by rw [s4 _ (by omega), sz3 s g])
      · rw [k4 _ (by omega), pk_un (by omega)]
        exact t2 k hk
      · rw [k4 _ (by omega), pk_us]
        rfl
    refine sp_morder (by omega) (by omega) q3 h3 (lt520 (le520 hQ)) (lt520 (le520 Nat.one_le_two_pow)) (fun g => ⟨fun q => absurd q (by decide), fun _ => two (by omega)⟩) (fun g => ⟨fun _ => ?_, fun q => absurd rfl q⟩) (fun g => ⟨fun q => absurd q (by decide), fun _ => two (by omega)⟩)
    unfold wp_Model_print_64
    exact hp (nd P) z3 o2 (by omega) (Or.inl ⟨g, rfl, t2⟩) sz3
  · rcases h with h | h
    · exact absurd h hh
    · exact absurd h (ix_not (by omega) hi)
theorem sp_mprint_no {n : Nat} {x th vh vk vm vp : Int32} {post : Int32 → Int32 → Int32 → (Nat → Int32) → (Nat → Int32) → Prop} {z out : Nat → Int32} (hn : n ≤ 40) (hno : vh = 0 ∨ x < 0 ∨ nI n ≤ x) (hp : post (-1) 0 vp z out) : wp_Model_print post (nI n) vh vk vm x th vp z out := by
  unfold wp_Model_print
  refine sp_noLike (by omega) (fun g i' hi' e => ?_) (fun h => ⟨fun q => absurd q (by decide), fun _ => hp⟩)
  rcases hno with h | h
  · exact absurd h g
  · rw [e] at h
    exact absurd h (ix_not (by omega) hi')
theorem sp_mbill_no {n : Nat} {x th vh vk vm vp : Int32} {post : Int32 → Int32 → (Nat → Int32) → Prop} {z : Nat → Int32} (hn : n ≤ 40) (hno : vh = 0 ∨ x < 0 ∨ nI n ≤ x) (hp : post (-1) 0 z) : wp_Model_billionths post (nI n) vh vk vm vp x th z := by
  unfold wp_Model_billionths
  refine sp_noLike (by omega) (fun g i' hi' e => ?_) (fun h => ⟨fun q => absurd q (by decide), fun _ => hp⟩)
  rcases hno with h | h
  · exact absurd h g
  · rw [e] at h
    exact absurd h (ix_not (by omega) hi')
theorem sp_mchar {L n : Nat} {x th vh vk vm : Int32} {out : Nat → Int32} {post : Int32 → Int32 → Prop} (hL : L ≤ 301) (h1 : ∀ k, k < L → x = nI k → post (out k) 0) (h0 : (x < 0 ∨ nI L ≤ x) → post (-1) 0) : wp_Model_character post (nI n) vh vk vm (nI L) out x th := by
  unfold wp_Model_character wp_Model_character_17 wp_Model_character_27
  refine ⟨fun c => h0 (Or.inl c), fun c => ⟨fun c2 => ?_, fun c2 => h0 (Or.inr (Int32.not_lt.mp c2))⟩⟩
  rcases ix_cases L (by omega) x with ⟨k, hk, e⟩ | h | h
  · rw [e, ic (by omega)]
    exact ⟨vp_in_nI (by omega) (by decide), h1 k hk e⟩
  · exact absurd h c
  · exact absurd c2 (Int32.not_lt.mpr h)
theorem sp_mcompare {n : Nat} {N : Nat → Nat} {x y th vh vk vm vp : Int32} {z : Nat → Int32} {post : Int32 → Int32 → Prop} (hn : n ≤ 40) (hz : ¬ vh = 0 → ∀ i, i < n → rq z (22 * i) (N i) ∧ N i ≤ 2 ^ 480)
    (h2 : (vh = 0 ∨ (x < 0 ∨ nI n ≤ x) ∨ (y < 0 ∨ nI n ≤ y)) → post (-2) 0)
    (h1 : ¬ vh = 0 → ∀ i j, i < n → j < n → x = nI i → y = nI j → ∀ r : Int32, (N i < N j ∧ r = -1 ∨ N i = N j ∧ r = 0 ∨ N j < N i ∧ r = 1) → post r 0) : wp_Model_compare post (nI n) vh vk vm vp z x y th := by
  unfold wp_Model_compare wp_Model_compare_16 wp_Model_compare_33
  refine sp_noLike (by omega) (fun g i hi e => ⟨fun _ => ?_, fun q => absurd rfl q⟩) (fun h => ⟨fun q => absurd q (by decide), fun _ => h2 (by rcases h with h | h; exact Or.inl h; exact Or.inr (Or.inl h))⟩)
  refine sp_noLike (by omega) (fun _ j hj e2 => ⟨fun _ => ?_, fun q => absurd rfl q⟩) (fun h => ⟨fun q => absurd q (by decide), fun _ => h2 (by rcases h with h | h; exact Or.inl h; exact Or.inr (Or.inr h))⟩)
  have e22 : ∀ k : Nat, (22 : Int32) * nI k = nI (22 * k) := fun k => pk_mul 22 k
  obtain ⟨z1, b1⟩ := hz g i hi
  obtain ⟨z2, b2⟩ := hz g j hj
  rw [e, e2, e22, e22]
  exact sp_morder (by omega) (by omega) z1 z2 (lt520 (le520 b1)) (lt520 (le520 b2)) (fun w => h1 g i j hi hj e e2 _ (Or.inl ⟨w, rfl⟩)) (fun w => h1 g i j hi hj e e2 _ (Or.inr (Or.inl ⟨w, rfl⟩))) (fun w => h1 g i j hi hj e e2 _ (Or.inr (Or.inr ⟨w, rfl⟩)))
theorem sp_mplaces {N D i n : Nat} {y th vh vk vm vp : Int32} {post : Int32 → Int32 → (Nat → Int32) → Prop} {z : Nat → Int32} (hn : n ≤ 40) (hi : i < n) (hz : rq z (22 * i) N) (hD : rq z 880 D) (hN : N ≤ D) (hD0 : 0 < D) (hD2 : D ≤ 2 ^ 480)
    (hno : (y < 0 ∨ ¬ y ≤ 1) → post (-1) 0 z) (hv : vh = 0 → post (-1) 0 z)
    (h0 : y = 0 → ∀ z', (∀ s, s < 902 → z' s = z s) → post (nI (bl (N / Nat.gcd N D))) 0 z') (h1 : ¬ y = 0 → ∀ z', (∀ s, s < 902 → z' s = z s) → post (nI (bl (D / Nat.gcd N D))) 0 z') : wp_Model_places post (nI n) vh vk vm vp (nI i) y th z := by
  have c9 : (902 : Int32) = nI 902 ∧ (924 : Int32) = nI 924 := ⟨rfl, rfl⟩
  obtain ⟨k1, k2⟩ := c9
  have hP : N / Nat.gcd N D ≤ 2 ^ 480 := Nat.le_trans (Nat.div_le_self _ _) (by omega)
  have hQ : D / Nat.gcd N D ≤ 2 ^ 480 := Nat.le_trans (Nat.div_le_self _ _) hD2
  unfold wp_Model_places wp_Model_places_17
  refine sp_noLike (by omega) (fun _ i' hi' e => ⟨fun _ => ⟨fun c => hno (Or.inl c), fun c => ⟨fun c2 => ?_, fun c2 => hno (Or.inr c2)⟩⟩, fun q => absurd rfl q⟩) (fun h => ⟨fun q => absurd q (by decide), fun _ => ?_⟩)
  · refine sp_mreduce (by omega) hz hD (le520 (by omega)) hD0 (le520 hD2) (fun z1 q1 q2 s1 => ⟨fun g => ?_, fun g => ?_⟩)
    · rw [k1]
      exact sp_mplaces37 (by omega) q1 (lt520 (le520 hP)) (h0 g z1 s1)
    · rw [k2]
      exact sp_mplaces37 (by omega) q2 (lt520 (le520 hQ)) (h1 g z1 s1)
  · rcases h with h | h
    · exact hv h
    · exact absurd h (ix_not (by omega) hi)
theorem sp_mplaces_no {n : Nat} {x y th vh vk vm vp : Int32} {post : Int32 → Int32 → (Nat → Int32) → Prop} {z : Nat → Int32} (hn : n ≤ 40) (hno : vh = 0 ∨ x < 0 ∨ nI n ≤ x) (hp : post (-1) 0 z) : wp_Model_places post (nI n) vh vk vm vp x y th z := by
  unfold wp_Model_places wp_Model_places_17
  refine sp_noLike (by omega) (fun g i' hi' e => ?_) (fun h => ⟨fun q => absurd q (by decide), fun _ => hp⟩)
  rcases hno with h | h
  · exact absurd h g
  · rw [e] at h
    exact absurd h (ix_not (by omega) hi')
