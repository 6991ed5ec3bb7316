/-! pure: the reference's elimination, the whole of it -/
/-- Java's remainder of a small negative number -/
theorem neg_quo {a p : Nat} (ha : a < p) (hp : p < 2147483648) : (lN 0 - lN a) / lN p = 0 := by
  apply Int64.toInt_inj.mp
  have e1 : (lN 0 - lN a).toInt = -(a : Int) := by
    rw [Int64.toInt_sub, pk_lT (by omega), pk_lT (by omega)]
    rw [Int.bmod_eq_of_le (by omega) (by omega)]
    omega
  rw [Int64.toInt_div, e1, pk_lT (by omega), Int.neg_tdiv, Int.tdiv_eq_ediv_of_nonneg (by omega), Int.ediv_eq_zero_of_lt (by omega) (by omega)]
  rfl
theorem rem_cell {p due a : Nat} (hp : p < 2147483648) (h0 : 0 < p) (hd : due < p) (ha : a < p) (hor : a ≤ due ∨ due = 0) :
    ((lN due - lN a) - (lN due - lN a) / lN p * lN p + lN p) - ((lN due - lN a) - (lN due - lN a) / lN p * lN p + lN p) / lN p * lN p = lN ((due + p - a) % p) := by
  by_cases q : a ≤ due
  · rw [lN_sub q, pk_lRem (by omega) h0 (by omega), lN_add, pk_lRem (by have := Nat.mod_lt (due - a) h0; omega) h0 (by omega)]
    congr 1
    rw [Nat.mod_eq_of_lt (show due - a < p by omega), show due - a + p = due + p - a by omega]
  · have e0 : due = 0 := by omega
    subst e0
    rw [neg_quo ha hp, Int64.zero_mul, Int64.sub_zero]
    have e : lN 0 - lN a + lN p = lN (0 + p - a) := lN_sb (by omega)
    rw [e, pk_lRem (by omega) h0 (by omega)]
theorem sp_mload {p n : Nat} {M : Nat → Nat} {a : Nat → Nat → Nat} {th vh vk vm vp : Int32} {fw fp : Nat → Int32} {f : Nat → Int64} {post : Int64 → (Nat → Int64) → Prop} (hp : p < 2147483648) (h0 : 0 < p) (hn : n ≤ 40) (hM : ∀ i, i < n → fw i = nI (M i) ∧ M i < p ∧ a i i ≤ M i) (ha : ∀ i j, i < n → j ≤ n → fp (i * 41 + j) = nI (a i j) ∧ a i j < p)
    (hpost : ∀ f', mxl n f' (fun i j => if j = n then a i n else ((if i = j then M i else 0) + p - a i j) % p) → ∃ k9, wp_Model_eliminate_123 post th (nI n) vh vk vm vp fw fp k9 (lN p) 1 0 f') : wp_Model_eliminate post th (nI n) vh vk vm vp fw fp (lN p) f := by
  have inner : ∀ (i : Nat) (K : Int64 → Int32 → (Nat → Int64) → Prop), i < n →
      ∀ (m j : Nat) (f : Nat → Int64), j + m = n → (∀ r c, r < n → c ≤ n → (r < i ∨ (r = i ∧ c < j)) → f (r * 41 + c) = lN (if c = n then a r n else ((if r = c then M r else 0) + p - a r c) % p)) → (∀ f', (∀ r c, r < n → c ≤ n → r ≤ i → f' (r * 41 + c) = lN (if c = n then a r n else ((if r = c then M r else 0) + p - a r c) % p)) → K (lN p) (nI (i + 1)) f') →
      wp_Model_eliminate_13 post th (nI n) vh vk vm vp fw fp K (m + 1) (lN p) (nI i) (nI j) f := by
    intro i K hi m
    induction m with
    | zero =>
      intro j f hj hf hK
      have ej : j = n := by omega
      subst ej
      unfold wp_Model_eliminate_13
      refine ⟨fun _ => ?_, fun c => absurd (nI_le (by omega) (by omega)) c⟩
      have h2 := (ha i j hi (by omega)).2
      rw [j41, c41 (by omega) (by omega), (ha i j hi (by omega)).1, nI_l (by omega), pk_lRem (by omega) h0 (by omega), Nat.mod_eq_of_lt h2]
      refine ⟨v41 (by omega) (by omega), l_ne0 h0 (by omega), v41 (by omega) (by omega), fun x ex => ?_⟩
      rw [ex, nI_1]
      refine hK _ (fun r c hr hc hri => ?_)
      by_cases q : r = i ∧ c = j
      · rw [q.1, q.2, pk_uLs, if_pos rfl]
      · rw [pk_uLn (ne41 (by omega) (by omega) q)]
        refine hf r c hr hc ?_
        by_cases q2 : r = i
        · exact Or.inr ⟨q2, by have : c ≠ j := fun w => q ⟨q2, w⟩; omega⟩
        · exact Or.inl (by omega)
    | succ m ih =>
      intro j f hj hf hK
      have put : ∀ due : Nat, due < p → (a i j ≤ due ∨ due = 0) → due = (if i = j then M i else 0) → wp_Model_eliminate_39 post th (nI n) vh vk vm vp fw fp K (wp_Model_eliminate_13 post th (nI n) vh vk vm vp fw fp K (m + 1)) (lN p) (nI i) (nI j) (lN due) f := by
        intro due hdue hor edue
        unfold wp_Model_eliminate_39
        rw [j41, c41 (by omega) (by omega), (ha i j hi (by omega)).1]
        have h2 := (ha i j hi (by omega)).2
        refine ⟨v41 (by omega) (by omega), fun y ey => ⟨l_ne0 h0 (by omega), l_ne0 h0 (by omega), v41 (by omega) (by omega), fun x ex => ?_⟩⟩
        rw [nI_l (by omega)] at ey
        rw [ex, nI_1, ey, rem_cell hp h0 hdue h2 hor]
        refine ih (j + 1) _ (by omega) (fun r c hr hc hrc => ?_) hK
        by_cases q : r = i ∧ c = j
        · rw [q.1, q.2, pk_uLs, if_neg (by omega), ← edue]
        · rw [pk_uLn (ne41 (by omega) (by omega) q)]
          refine hf r c hr hc ?_
          rcases hrc with w | w
          · exact Or.inl w
          · exact Or.inr ⟨w.1, by have : c ≠ j := fun z => q ⟨w.1, z⟩; omega⟩
      unfold wp_Model_eliminate_13
      refine ⟨fun c => absurd ((nI_leI (by omega) (by omega)).mp c) (by omega), fun _ => ⟨fun e => ⟨i40 (by omega), ?_⟩, fun e => ?_⟩⟩
      · have e' := (nI_eq (by omega) (by omega)).mp e
        obtain ⟨m1, m2, m3⟩ := hM i hi
        rw [ic (by omega), m1, nI_l (by omega)]
        exact put (M i) m2 (Or.inl (by rw [← e']; exact m3)) (by rw [if_pos e'])
      · have e' : ¬ i = j := fun q => e (by rw [q])
        exact put 0 h0 (Or.inr rfl) (by rw [if_neg e'])
  have outer : ∀ (m i : Nat) (f : Nat → Int64), i + m = n → (∀ r c, r < n → c ≤ n → r < i → f (r * 41 + c) = lN (if c = n then a r n else ((if r = c then M r else 0) + p - a r c) % p)) → wp_Model_eliminate_2 post th (nI n) vh vk vm vp fw fp (m + 1) (lN p) (nI i) f := by
    intro m
    induction m with
    | zero =>
      intro i f hi hf
      unfold wp_Model_eliminate_2
      exact ⟨fun _ => hpost f (fun r c hr hc => hf r c hr hc (by omega)), fun c => absurd (nI_le (by omega) (by omega)) c⟩
    | succ m ih =>
      intro i f hi hf
      unfold wp_Model_eliminate_2
      refine ⟨fun c => absurd ((nI_leI (by omega) (by omega)).mp c) (by omega), fun _ => ⟨n + 1, ?_⟩⟩
      exact inner i _ (by omega) n 0 f (by omega) (fun r c hr hc hrc => hf r c hr hc (by omega)) (fun f' h' => ih (i + 1) f' (by omega) (fun r c hr hc hri => h' r c hr hc (by omega)))
  exact ⟨n + 1, outer n 0 f (by omega) (fun r c _ _ h => absurd h (by omega))⟩
