/-! pure: chains: weights, and which are stuck -/
/-- there is such a state -/
theorem ix_cases (n : Nat) (hn : n < 2 ^ 31) (x : Int32) : (∃ i, i < n ∧ x = nI i) ∨ (x < 0 ∨ nI n ≤ x) := by
  rcases pk_ix x hn with h | h | ⟨j, h1, h2⟩
  · exact Or.inr (Or.inl h)
  · exact Or.inr (Or.inr h)
  · exact Or.inl ⟨j, h1, h2⟩
theorem ix_not {n i : Nat} (hn : n < 2 ^ 31) (hi : i < n) : ¬ (nI i < 0 ∨ nI n ≤ nI i) := by
  rintro (h | h)
  · exact nI_pos (by omega) h
  · exact absurd ((nI_leI (by omega) (by omega)).mp h) (by omega)
theorem sp_hasState {n : Nat} {fw fl fp fe : Nat → Int32} {x : Int32} {post : Int32 → Prop} (hn : n < 2 ^ 31) (h1 : ∀ i, i < n → x = nI i → post 1) (h0 : (x < 0 ∨ nI n ≤ x) → post 0) : wp_Chain_hasState post (nI n) fw fl fp fe x := by
  unfold wp_Chain_hasState wp_Chain_hasState_16 wp_Chain_hasState_17
  refine ⟨fun c => ⟨rfl, h0 (Or.inl c)⟩, fun c => ⟨fun c2 => ⟨rfl, h0 (Or.inr c2)⟩, fun c2 => ⟨rfl, ?_⟩⟩⟩
  rcases ix_cases n hn x with ⟨i, hi, e⟩ | h | h
  · exact h1 i hi e
  · exact absurd h c
  · exact absurd h c2
theorem sp_hasTarget {n : Nat} {fw fl fp fe : Nat → Int32} {x : Int32} {post : Int32 → Prop} (hn : n + 1 < 2 ^ 31) (h1 : ∀ i, i ≤ n → x = nI i → post 1) (h0 : (x < 0 ∨ nI n < x) → post 0) : wp_Chain_hasTarget post (nI n) fw fl fp fe x := by
  unfold wp_Chain_hasTarget wp_Chain_hasTarget_16 wp_Chain_hasTarget_17
  refine ⟨fun c => ⟨rfl, h0 (Or.inl c)⟩, fun c => ⟨fun c2 => ⟨rfl, h0 (Or.inr c2)⟩, fun c2 => ⟨rfl, ?_⟩⟩⟩
  obtain ⟨j, hj, e⟩ := nI_of c
  subst e
  exact h1 j (by
    rcases Nat.lt_or_ge n j with q | q
    · exact absurd (nI_lt q hj) c2
    · exact q) rfl
/-! weights -/
def wt (m : Nat) : Nat := bl (2 * m - 1)
theorem wt_spec {m : Nat} (h : 1 ≤ m) : 2 * m ≤ 2 ^ wt m ∧ ∀ k, k < wt m → 2 ^ k < 2 * m := by
  have h0 : 2 * m - 1 ≠ 0 := by omega
  have e : wt m = Nat.log2 (2 * m - 1) + 1 := by unfold wt bl; rw [if_neg h0]
  rw [e]
  have h1 := Nat.log2_self_le h0
  have h2 := Nat.lt_log2_self (n := 2 * m - 1)
  refine ⟨by omega, fun k hk => ?_⟩
  have h3 : 2 ^ k ≤ 2 ^ Nat.log2 (2 * m - 1) := Nat.pow_le_pow_right (by omega) (by omega)
  omega
theorem wt_uniq {m k : Nat} (h : 1 ≤ m) (h1 : 2 * m ≤ 2 ^ k) (h2 : ∀ j, j < k → 2 ^ j < 2 * m) : k = wt m := by
  obtain ⟨w1, w2⟩ := wt_spec h
  rcases Nat.lt_trichotomy k (wt m) with q | q | q
  · have := w2 k q; omega
  · exact q
  · have := h2 (wt m) q; omega
theorem wt_le {m : Nat} (h : 1 ≤ m) (h2 : m ≤ 999999999) : wt m ≤ 31 := by
  rcases Nat.lt_or_ge 31 (wt m) with q | q
  · have := (wt_spec h).2 31 q
    omega
  · exact q
theorem l_1sh {k : Nat} (h : k < 64) : (1 : Int64) <<< ((nI k).toInt64 &&& 63) = lN (2 ^ k) := by
  have := wb_shl 1 h
  rw [Nat.one_mul] at this
  exact this
theorem p2_31 {k : Nat} (h : k ≤ 31) : 2 ^ k ≤ 2147483648 := by
  have : 2 ^ k ≤ 2 ^ 31 := Nat.pow_le_pow_right (by omega) h
  omega
theorem sp_weightOf {m : Nat} {post : Int32 → Prop} (h1 : 1 ≤ m) (h2 : m ≤ 999999999) (hp : post (nI (wt m))) : wp_Chain_weightOf post (nI m) := by
  have l31 : ∀ {k : Nat}, k < 2 ^ 31 → ((31 : Int32) ≤ nI k ↔ 31 ≤ k) := fun h => nI_leI (a := 31) (by decide) h
  have e2 : (2 : Int64) * (nI m).toInt64 = lN (2 * m) := by rw [nI_l (by omega), ← lN_mul]; rfl
  have main : ∀ (r k : Nat), k + r = 31 → (∀ j, j < k → 2 ^ j < 2 * m) → wp_Chain_weightOf_2 post (r + 1) (nI m) (nI k) := by
    intro r
    induction r with
    | zero =>
      intro k hk hj
      unfold wp_Chain_weightOf_2 wp_Chain_weightOf_27
      refine ⟨fun _ => ?_, fun c => absurd ((l31 (by omega)).mpr (by omega)) c⟩
      have e : k = wt m := wt_uniq h1 (by rw [show k = 31 by omega]; omega) hj
      rw [e]
      exact hp
    | succ r ih =>
      intro k hk hj
      unfold wp_Chain_weightOf_2 wp_Chain_weightOf_27
      have hk2 := p2_31 (show k ≤ 31 by omega)
      rw [l_1sh (by omega), e2]
      refine ⟨fun c => absurd ((l31 (by omega)).mp c) (by omega), fun _ => ⟨fun c => ?_, fun c x ex => ?_⟩⟩
      · have c' := (l_ge0 (by omega) (by omega)).mp c
        rw [wt_uniq h1 c' hj]
        exact hp
      · have c' : ¬ 2 * m ≤ 2 ^ k := fun q => c ((l_ge0 (by omega) (by omega)).mpr q)
        rw [ex, nI_1]
        refine ih (k + 1) (by omega) (fun j h => ?_)
        by_cases q : j = k
        · rw [q]; omega
        · exact hj j (by omega)
  refine ⟨31, main 30 1 (by omega) (fun j h => ?_)⟩
  rw [show j = 0 by omega]
  omega
theorem sn_s (f : Nat → Nat) (n : Nat) : sn f (n + 1) = sn f n + f n := rfl
theorem sn_le {f : Nat → Nat} {b : Nat} : ∀ n : Nat, (∀ i, i < n → f i ≤ b) → sn f n ≤ n * b
  | 0, _ => by simp [sn]
  | n + 1, h => by
    have h1 := sn_le n (fun i hi => h i (by omega))
    have h2 := h n (by omega)
    rw [sn_s, Nat.add_mul, Nat.one_mul]
    omega
theorem sp_weight {n : Nat} {M : Nat → Nat} {fw fl fp fe : Nat → Int32} {post : Int32 → Prop} (hn : n ≤ 40) (hM : ∀ i, i < n → fw i = nI (M i) ∧ 1 ≤ M i ∧ M i ≤ 999999999) (hp : post (nI (sn (fun i => wt (M i)) n))) : wp_Chain_weight post (nI n) fw fl fp fe := by
  have main : ∀ (r i : Nat), i + r = n → wp_Chain_weight_4 post (nI n) fw fl fp fe (r + 1) (nI (sn (fun i => wt (M i)) i)) (nI i) := by
    intro r
    induction r with
    | zero =>
      intro i hi
      have e : i = n := by omega
      subst e
      unfold wp_Chain_weight_4
      exact ⟨fun _ => hp, fun c => absurd (nI_le (by omega) (by omega)) c⟩
    | succ r ih =>
      intro i hi
      unfold wp_Chain_weight_4
      refine ⟨fun c => absurd ((nI_leI (by omega) (by omega)).mp c) (by omega), fun _ => ⟨i40 (by omega), ?_⟩⟩
      rw [ic (by omega), (hM i (by omega)).1]
      refine sp_weightOf (hM i (by omega)).2.1 (hM i (by omega)).2.2 ?_
      intro x ex y ey
      rw [ex, ey, nI_1, nI_add]
      have := ih (i + 1) (by omega)
      rw [sn_s] at this
      exact this
  exact ⟨n + 1, main n 0 (by omega)⟩
/-! not stuck: some way leads down to a state that leaves -/
def ns (n : Nat) (M : Nat → Nat) (a : Nat → Nat → Nat) : Prop := ∃ lev : Nat → Nat, ∀ i, i < n → sn (a i) n < M i ∨ ∃ j, j < n ∧ 0 < a i j ∧ lev j < lev i
/-- marks: each one marked is marked for a reason -/
def mks (n : Nat) (M : Nat → Nat) (a : Nat → Nat → Nat) (S : Nat → Prop) : Prop := ∃ lev : Nat → Nat, ∀ i, i < n → S i → sn (a i) n < M i ∨ ∃ j, j < n ∧ S j ∧ 0 < a i j ∧ lev j < lev i
/-- .. and nothing is left that could be marked -/
def mkc (n : Nat) (M : Nat → Nat) (a : Nat → Nat → Nat) (S : Nat → Prop) : Prop := ∀ i, i < n → ¬ S i → ¬ sn (a i) n < M i ∧ ∀ j, j < n → S j → ¬ 0 < a i j
theorem mks_none {n : Nat} {M : Nat → Nat} {a : Nat → Nat → Nat} {S : Nat → Prop} (h : ∀ i, i < n → ¬ S i) : mks n M a S := ⟨fun _ => 0, fun i hi hs => absurd hs (h i hi)⟩
theorem mks_add {n : Nat} {M : Nat → Nat} {a : Nat → Nat → Nat} {S S' : Nat → Prop} {i0 : Nat} (h : mks n M a S) (h0 : ¬ S i0) (hr : sn (a i0) n < M i0 ∨ ∃ j, j < n ∧ S j ∧ 0 < a i0 j) (hS : ∀ i, i < n → (S' i ↔ S i ∨ i = i0)) : mks n M a S' := by
  obtain ⟨lev, hl⟩ := h
  have hS' : ∀ j, j < n → S j → S' j := fun j hj q => (hS j hj).mpr (Or.inl q)
  rcases hr with hr | ⟨j0, hj0, hs0, ha0⟩
  · refine ⟨lev, fun i hi hs => ?_⟩
    by_cases q : i = i0
    · rw [q]; exact Or.inl hr
    · have hs' : S i := by rcases (hS i hi).mp hs with z | z; exact z; exact absurd z q
      rcases hl i hi hs' with z | ⟨j, h1, h2, h3, h4⟩
      · exact Or.inl z
      · exact Or.inr ⟨j, h1, hS' j h1 h2, h3, h4⟩
  · refine ⟨fun x => if x = i0 then lev j0 + 1 else lev x, fun i hi hs => ?_⟩
    have hne : ∀ j, S j → j ≠ i0 := fun j q e => h0 (e ▸ q)
    by_cases q : i = i0
    · right
      refine ⟨j0, hj0, hS' j0 hj0 hs0, by rw [q]; exact ha0, ?_⟩
      dsimp only
      rw [if_pos q, if_neg (hne j0 hs0)]
      omega
    · have hs' : S i := by rcases (hS i hi).mp hs with z | z; exact z; exact absurd z q
      rcases hl i hi hs' with z | ⟨j, h1, h2, h3, h4⟩
      · exact Or.inl z
      · right
        refine ⟨j, h1, hS' j h1 h2, h3, ?_⟩
        dsimp only
        rw [if_neg (hne j h2), if_neg q]
        exact h4
theorem ns_all {n : Nat} {M : Nat → Nat} {a : Nat → Nat → Nat} {S : Nat → Prop} (h : mks n M a S) (hS : ∀ i, i < n → S i) : ns n M a := by
  obtain ⟨lev, hl⟩ := h
  refine ⟨lev, fun i hi => ?_⟩
  rcases hl i hi (hS i hi) with z | ⟨j, h1, h2, h3, h4⟩
  · exact Or.inl z
  · exact Or.inr ⟨j, h1, h3, h4⟩
theorem ns_not {n : Nat} {M : Nat → Nat} {a : Nat → Nat → Nat} {S : Nat → Prop} (h : mkc n M a S) {i0 : Nat} (hi0 : i0 < n) (h0 : ¬ S i0) : ¬ ns n M a := by
  rintro ⟨lev, hl⟩
  have main : ∀ (L i : Nat), i < n → ¬ S i → lev i < L → False := by
    intro L
    induction L with
    | zero => intro i _ _ h; exact absurd h (Nat.not_lt_zero _)
    | succ L ih =>
      intro i hi hs hL
      obtain ⟨h1, h2⟩ := h i hi hs
      rcases hl i hi with z | ⟨j, g1, g2, g3⟩
      · exact h1 z
      · by_cases q : S j
        · exact h2 j g1 q g2
        · exact ih j g1 q (by omega)
  exact main (lev i0 + 1) i0 hi0 h0 (Nat.lt_succ_self _)
