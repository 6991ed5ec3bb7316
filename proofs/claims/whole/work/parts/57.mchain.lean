/-! pure: the reference's chain -/
theorem l40 {k : Nat} (h : k < 2 ^ 31) : (40 : Int32) ≤ nI k ↔ 40 ≤ k := nI_leI (a := 40) (by decide) h
theorem lx41 {k : Nat} (h : k < 2 ^ 31) : (41 : Int32) ≤ nI k ↔ 41 ≤ k := nI_leI (a := 41) (by decide) h
theorem l1640 {k : Nat} (h : k < 2 ^ 31) : (1640 : Int32) ≤ nI k ↔ 1640 ≤ k := nI_leI (a := 1640) (by decide) h
/-- the reference's chain is n, M, a -/
def cmr (n : Nat) (M : Nat → Nat) (a : Nat → Nat → Nat) (fw fp : Nat → Int32) : Prop := ∀ i, i < n → fw i = nI (M i) ∧ ∀ j, j ≤ n → fp (i * 41 + j) = nI (a i j)
theorem sp_noState {n : Nat} {th vh vk vm vp x : Int32} {post : Int32 → Prop} (hn : n < 2 ^ 31) (h0 : ∀ i, i < n → x = nI i → post 0) (h1 : (x < 0 ∨ nI n ≤ x) → post 1) : wp_Model_noState post th (nI n) vh vk vm vp x := by
  unfold wp_Model_noState wp_Model_noState_12 wp_Model_noState_17
  refine ⟨fun c => ⟨rfl, h1 (Or.inl c)⟩, fun c => ⟨fun c2 => ⟨rfl, ?_⟩, fun c2 => ⟨rfl, h1 (Or.inr (Int32.not_lt.mp c2))⟩⟩⟩
  rcases ix_cases n hn x with ⟨i, hi, e⟩ | h | h
  · exact h0 i hi e
  · exact absurd h c
  · exact absurd c2 (Int32.not_lt.mpr h)
theorem sp_noLike {n : Nat} {th vh vk vm vp x : Int32} {post : Int32 → Int32 → Prop} (hn : n < 2 ^ 31) (h0 : ¬ vh = 0 → ∀ i, i < n → x = nI i → post 0 0) (h1 : (vh = 0 ∨ x < 0 ∨ nI n ≤ x) → post 1 0) : wp_Model_noLikelihood post (nI n) vh vk vm vp x th := by
  unfold wp_Model_noLikelihood wp_Model_noLikelihood_20 wp_Model_noLikelihood_25
  refine ⟨fun c => ⟨rfl, h1 (Or.inl c)⟩, fun c => ?_⟩
  refine sp_noState hn (fun i hi e => ⟨fun _ => ⟨rfl, h0 c i hi e⟩, fun q => absurd rfl q⟩) (fun h => ⟨fun q => absurd q (by decide), fun _ => ⟨rfl, h1 (Or.inr h)⟩⟩)
theorem sp_reset {n : Nat} {th v vh vk vm vp : Int32} {fw fp : Nat → Int32} {post : Int32 → Int32 → (Nat → Int32) → (Nat → Int32) → Prop} (hp : ∀ fw' fp', (∀ i, i < 40 → fw' i = 1) → (∀ k, k < 1640 → fp' k = 0) → post (nI n) 0 fw' fp') : wp_Model_reset post th vk vm vp (nI n) v vh fw fp := by
  have two : ∀ (fw' : Nat → Int32), (∀ i, i < 40 → fw' i = 1) → ∀ (m k : Nat) (fp' : Nat → Int32), k + m = 1640 → (∀ q, q < k → fp' q = 0) → wp_Model_reset_28 post th vk vm vp (m + 1) (nI k) (nI n) vh fw' fp' := by
    intro fw' hw m
    induction m with
    | zero =>
      intro k fp' hk h
      unfold wp_Model_reset_28
      exact ⟨fun _ => hp fw' fp' hw (fun q hq => h q (by omega)), fun c => absurd ((l1640 (by omega)).mpr (by omega)) c⟩
    | succ m ih =>
      intro k fp' hk h
      unfold wp_Model_reset_28
      refine ⟨fun c => absurd ((l1640 (by omega)).mp c) (by omega), fun _ => ⟨vp_in_nI (by omega) (by decide), fun x ex => ?_⟩⟩
      rw [ex, nI_1, ic (by omega)]
      refine ih (k + 1) _ (by omega) (fun q hq => ?_)
      by_cases w : q = k
      · rw [w, pk_us]
      · rw [pk_un w]
        exact h q (by omega)
  have one : ∀ (m i : Nat) (fw' : Nat → Int32), i + m = 40 → (∀ q, q < i → fw' q = 1) → wp_Model_reset_7 post th vk vm vp (m + 1) (nI i) (nI n) vh fw' fp := by
    intro m
    induction m with
    | zero =>
      intro i fw' hi h
      unfold wp_Model_reset_7
      exact ⟨fun _ => ⟨1641, two fw' (fun q hq => h q (by omega)) 1640 0 fp rfl (fun q h => absurd h (by omega))⟩, fun c => absurd ((l40 (by omega)).mpr (by omega)) c⟩
    | succ m ih =>
      intro i fw' hi h
      unfold wp_Model_reset_7
      refine ⟨fun c => absurd ((l40 (by omega)).mp c) (by omega), fun _ => ⟨i40 (by omega), fun x ex => ?_⟩⟩
      rw [ex, nI_1, ic (by omega)]
      refine ih (i + 1) _ (by omega) (fun q hq => ?_)
      by_cases w : q = i
      · rw [w, pk_us]
      · rw [pk_un w]
        exact h q (by omega)
  exact ⟨41, one 40 0 fw rfl (fun q h => absurd h (by omega))⟩
/-- begin: 1 to 40, or refused -/
theorem bg_cases (x : Int32) : (∃ n, 1 ≤ n ∧ n ≤ 40 ∧ x = nI n) ∨ (x < 1 ∨ ¬ x ≤ 40) := by
  rcases ix_cases 41 (by decide) x with ⟨i, hi, e⟩ | h | h
  · by_cases q : i = 0
    · subst q; subst e; exact Or.inr (Or.inl (by decide))
    · exact Or.inl ⟨i, by omega, by omega, e⟩
  · refine Or.inr (Or.inl ?_)
    rw [Int32.lt_iff_toInt_lt] at h ⊢
    have e0 : (0 : Int32).toInt = 0 := by decide
    have e1 : (1 : Int32).toInt = 1 := by decide
    omega
  · refine Or.inr (Or.inr (fun q => ?_))
    rw [Int32.le_iff_toInt_le] at h q
    have e0 : (nI 41).toInt = 41 := by decide
    have e1 : (40 : Int32).toInt = 40 := by decide
    omega
theorem sp_mbegin {th v vh vk vm vp x : Int32} {fw fp : Nat → Int32} {post : Int32 → Int32 → Int32 → (Nat → Int32) → (Nat → Int32) → Prop} (h0 : ∀ n, 1 ≤ n → n ≤ 40 → x = nI n → ∀ fw' fp', cmr n (fun _ => 1) (fun _ _ => 0) fw' fp' → post 0 (nI n) 0 fw' fp') (h1 : (x < 1 ∨ ¬ x ≤ 40) → post 1 v vh fw fp) : wp_Model_begin post vk vm vp x th v vh fw fp := by
  unfold wp_Model_begin wp_Model_begin_12 wp_Model_begin_17 wp_Model_begin_32
  refine ⟨fun c => ⟨fun q => absurd q (by decide), fun _ => h1 (Or.inl c)⟩, fun c => ⟨fun c2 => ⟨fun _ => ?_, fun q => absurd rfl q⟩, fun c2 => ⟨fun q => absurd q (by decide), fun _ => h1 (Or.inr c2)⟩⟩⟩
  rcases bg_cases x with ⟨n, g1, g2, e⟩ | h | h
  · rw [e]
    exact sp_reset (fun fw' fp' hw hp => h0 n g1 g2 e fw' fp' (fun i hi => ⟨hw i (by omega), fun j hj => hp _ (by omega)⟩))
  · exact absurd h c
  · exact absurd c2 h
/-- a state's whole is set anew -/
def nM (M : Nat → Nat) (i m : Nat) : Nat → Nat := fun r => if r = i then m else M r
def nA0 (a : Nat → Nat → Nat) (i : Nat) : Nat → Nat → Nat := fun r c => if r = i then 0 else a r c
theorem wh_cases (lo : Nat) (hlo : lo ≤ 1) (x : Int32) : (∃ m, lo ≤ m ∧ m ≤ 999999999 ∧ x = nI m) ∨ (x < nI lo ∨ ¬ x ≤ 999999999) := by
  rcases ix_cases 1000000000 (by decide) x with ⟨i, hi, e⟩ | h | h
  · by_cases q : lo ≤ i
    · exact Or.inl ⟨i, q, by omega, e⟩
    · exact Or.inr (Or.inl (by rw [e]; exact nI_lt (by omega) (by omega)))
  · refine Or.inr (Or.inl ?_)
    rcases (show lo = 0 ∨ lo = 1 by omega) with q | q
    · subst q; exact h
    · subst q
      rw [Int32.lt_iff_toInt_lt] at h ⊢
      have e0 : (0 : Int32).toInt = 0 := by decide
      have e1 : (nI 1).toInt = 1 := by decide
      omega
  · refine Or.inr (Or.inr (fun q => ?_))
    rw [Int32.le_iff_toInt_le] at h q
    have e0 : (nI 1000000000).toInt = 1000000000 := by decide
    have e1 : (999999999 : Int32).toInt = 999999999 := by decide
    omega
theorem sp_mwhole {n : Nat} {M : Nat → Nat} {a : Nat → Nat → Nat} {th vh vk vm vp x y : Int32} {fw fp : Nat → Int32} {post : Int32 → Int32 → (Nat → Int32) → (Nat → Int32) → Prop} (hn : n ≤ 40) (hc : cmr n M a fw fp)
    (h0 : ∀ i m, i < n → x = nI i → 1 ≤ m → m ≤ 999999999 → y = nI m → ∀ fw' fp', cmr n (nM M i m) (nA0 a i) fw' fp' → post 0 0 fw' fp') (h1 : ((x < 0 ∨ nI n ≤ x) ∨ y < 1 ∨ ¬ y ≤ 999999999) → post 1 vh fw fp) : wp_Model_whole post (nI n) vk vm vp x y th vh fw fp := by
  unfold wp_Model_whole wp_Model_whole_20 wp_Model_whole_25 wp_Model_whole_73
  refine sp_noState (by omega) (fun i hi e => ⟨fun _ => ⟨fun c => ⟨fun q => absurd q (by decide), fun _ => h1 (Or.inr (Or.inl c))⟩, fun c => ⟨fun c2 => ⟨fun _ => ?_, fun q => absurd rfl q⟩, fun c2 => ⟨fun q => absurd q (by decide), fun _ => h1 (Or.inr (Or.inr c2))⟩⟩⟩, fun q => absurd rfl q⟩) (fun h => ⟨fun q => absurd q (by decide), fun _ => ⟨fun q => absurd q (by decide), fun _ => h1 (Or.inl h)⟩⟩)
  rcases wh_cases 1 (by omega) y with ⟨m, g1, g2, e2⟩ | h | h
  · rw [e, ic (by omega)]
    refine ⟨i40 (by omega), ?_⟩
    have main : ∀ (r j : Nat) (fp' : Nat → Int32), j + r = 41 → (∀ q, q < j → fp' (i * 41 + q) = 0) → (∀ s q, s ≠ i → q ≤ 40 → fp' (s * 41 + q) = fp (s * 41 + q)) → wp_Model_whole_44 post (nI n) vk vm vp (r + 1) (nI i) (nI j) 0 vh (upd fw i y) fp' := by
      intro r
      induction r with
      | zero =>
        intro j fp' hj hz hk
        unfold wp_Model_whole_44 wp_Model_whole_73
        refine ⟨fun _ => h0 i m hi e g1 g2 e2 _ _ (fun s hs => ⟨?_, fun q hq => ?_⟩), fun c => absurd ((lx41 (by omega)).mpr (by omega)) c⟩
        · unfold nM
          by_cases w : s = i
          · rw [w, pk_us, if_pos rfl, e2]
          · rw [pk_un w, if_neg w]
            exact (hc s hs).1
        · unfold nA0
          by_cases w : s = i
          · rw [w, if_pos rfl]
            exact hz q (by omega)
          · rw [if_neg w, hk s q w (by omega)]
            exact (hc s hs).2 q hq
      | succ r ih =>
        intro j fp' hj hz hk
        unfold wp_Model_whole_44
        rw [j41, c41 (by omega) (by omega)]
        refine ⟨fun c => absurd ((lx41 (by omega)).mp c) (by omega), fun _ => ⟨v41 (by omega) (by omega), fun z ez => ?_⟩⟩
        rw [ez, nI_1]
        refine ih (j + 1) _ (by omega) (fun q hq => ?_) (fun s q hs hq => ?_)
        · by_cases w : q = j
          · rw [w, pk_us]
          · rw [pk_un (by omega)]
            exact hz q (by omega)
        · rw [pk_un (by omega)]
          exact hk s q hs hq
    exact ⟨42, main 41 0 fp rfl (fun q h => absurd h (by omega)) (fun _ _ _ _ => rfl)⟩
  · exact absurd h c
  · exact absurd c2 h
theorem sp_together {n i : Nat} {M : Nat → Nat} {a : Nat → Nat → Nat} {th vh vk vm vp : Int32} {fw fp : Nat → Int32} {post : Int64 → Prop} (hn : n ≤ 40) (hi : i < n) (hc : cmr n M a fw fp) (hb : ∀ j, j ≤ n → a i j < 2 ^ 31) (hp : post (lN (sn (a i) (n + 1)))) : wp_Model_together post th (nI n) vh vk vm vp fp (nI i) := by
  have main : ∀ (m j : Nat), j + m = n + 1 → wp_Model_together_5 post th (nI n) vh vk vm vp fp (m + 1) (nI i) (lN (sn (a i) j)) (nI j) := by
    intro m
    induction m with
    | zero =>
      intro j hj
      unfold wp_Model_together_5
      refine ⟨fun _ => ?_, fun c => absurd (nI_lt (by omega) (by omega)) c⟩
      rw [show j = n + 1 by omega]
      exact hp
    | succ m ih =>
      intro j hj
      unfold wp_Model_together_5
      refine ⟨fun c => absurd ((nI_ltI (by omega) (by omega)).mp c) (by omega), fun _ => ?_⟩
      rw [j41, c41 (by omega) (by omega), (hc i hi).2 j (by omega)]
      refine ⟨v41 (by omega) (by omega), fun x ex y ey => ?_⟩
      rw [ex, ey, nI_1, nI_l (hb j (by omega)), lN_add]
      exact ih (j + 1) (by omega)
  exact ⟨n + 2, main (n + 1) 0 (by omega)⟩
def nA (a : Nat → Nat → Nat) (i j v : Nat) : Nat → Nat → Nat := fun r c => if r = i ∧ c = j then v else a r c
theorem l_subneg {x v : Nat} (hx : x < v) (hv : v < 2 ^ 31) : ¬ 0 ≤ lg_cmp (lN x - lN v) 0 := by
  rw [lg_cmp_ge, Int64.le_iff_toInt_le, Int64.toInt_sub, pk_lT (by omega), pk_lT (by omega), Int.bmod_eq_of_le (by omega) (by omega)]
  have e0 : (0 : Int64).toInt = 0 := by decide
  omega
theorem sp_mpart {n : Nat} {M : Nat → Nat} {a : Nat → Nat → Nat} {th vh vk vm vp x y w : Int32} {fw fp : Nat → Int32} {post : Int32 → Int32 → Int32 → (Nat → Int32) → Prop} (hok : chok n M a) (hc : cmr n M a fw fp)
    (h0 : ∀ i j v, i < n → x = nI i → j ≤ n → y = nI j → v ≤ 999999999 → w = nI v → v ≤ M i - sn (a i) (n + 1) + a i j → ∀ fp', cmr n M (nA a i j v) fw fp' → post (nI (M i - sn (a i) (n + 1) + a i j - v)) 0 0 fp')
    (h2 : ∀ i j v, i < n → x = nI i → j ≤ n → y = nI j → v ≤ 999999999 → w = nI v → M i - sn (a i) (n + 1) + a i j < v → post 0 2 vh fp)
    (h1 : ((x < 0 ∨ nI n ≤ x) ∨ (y < 0 ∨ nI n < y) ∨ w < 0 ∨ ¬ w ≤ 999999999) → post 0 1 vh fp) : wp_Model_part post (nI n) vk vm vp fw x y w th vh fp := by
  obtain ⟨⟨hn1, hn⟩, hok2⟩ := hok
  unfold wp_Model_part wp_Model_part_31
  have bad : ((x < 0 ∨ nI n ≤ x) ∨ (y < 0 ∨ nI n < y) ∨ w < 0 ∨ ¬ w ≤ 999999999) → wp_Model_part_36 post (nI n) vk vm vp fw x y w 1 th vh fp := by
    intro h
    unfold wp_Model_part_36
    exact ⟨fun q => absurd q (by decide), fun _ => h1 h⟩
  refine sp_noState (by omega) (fun i hi e => ⟨fun _ => ⟨fun c => bad (Or.inr (Or.inl (Or.inl c))), fun c => ⟨fun c2 => bad (Or.inr (Or.inl (Or.inr c2))), fun c2 => ⟨fun c3 => bad (Or.inr (Or.inr (Or.inl c3))), fun c3 => ⟨fun c4 => ?_, fun c4 => bad (Or.inr (Or.inr (Or.inr c4)))⟩⟩⟩⟩, fun q => absurd rfl q⟩) (fun h => ⟨fun q => absurd q (by decide), fun _ => bad (Or.inl h)⟩)
  obtain ⟨j, hj31, e2⟩ := nI_of c
  have hj : j ≤ n := by
    rcases Nat.lt_or_ge n j with q | q
    · exact absurd (by rw [e2]; exact nI_lt q hj31) c2
    · exact q
  rcases wh_cases 0 (by omega) w with ⟨v, -, g2, e3⟩ | h | h
  · obtain ⟨o1, o2⟩ := hok2 i hi
    have hm := sn_mem (f := a i) (n + 1) j (by omega)
    have hb : ∀ q, q ≤ n → a i q < 2 ^ 31 := fun q hq => by have := sn_mem (f := a i) (n + 1) q (by omega); omega
    unfold wp_Model_part_36
    refine ⟨fun _ => ?_, fun q => absurd (by decide) q⟩
    subst e; subst e2; subst e3
    refine ⟨i40 (by omega), sp_together hn hi hc hb ?_⟩
    rw [j41, c41 (by omega) (by omega), (hc i hi).2 j hj, ic (by omega), (hc i hi).1, nI_l (by omega), nI_l (hb j hj), nI_l (by omega), lN_sub o2, lN_add]
    refine ⟨v41 (by omega) (by omega), fun z ez => ⟨fun g => ⟨v41 (by omega) (by omega), ?_⟩, fun g => ?_⟩⟩
    · have hv : v ≤ M i - sn (a i) (n + 1) + a i j := by
        rcases Nat.lt_or_ge (M i - sn (a i) (n + 1) + a i j) v with q | q
        · rw [ez] at g
          exact absurd g (l_subneg q (by omega))
        · exact q
      rw [ez, lN_sub hv, lN_i]
      refine h0 i j v hi rfl hj rfl g2 rfl hv _ (fun s hs => ⟨(hc s hs).1, fun q hq => ?_⟩)
      unfold nA
      by_cases k : s = i ∧ q = j
      · rw [k.1, k.2, pk_us, if_pos ⟨rfl, rfl⟩]
      · rw [if_neg k, pk_un (by omega)]
        exact (hc s hs).2 q hq
    · refine h2 i j v hi rfl hj rfl g2 rfl ?_
      rcases Nat.lt_or_ge (M i - sn (a i) (n + 1) + a i j) v with q | q
      · exact q
      · rw [ez, lN_sub q] at g
        exact absurd ((l_ge0 (b := 0) (by omega) (by omega)).mpr (Nat.zero_le _)) g
  · exact absurd h c3
  · exact absurd c4 h
