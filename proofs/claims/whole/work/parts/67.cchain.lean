/-! pure: the class's chain, changed -/
theorem sn_zero (n : Nat) : sn (fun _ => 0) n = 0 := by
  induction n with
  | zero => rfl
  | succ n ih => rw [sn_s, ih]
theorem sp_resetState {i m : Nat} {cs : Int32} {fw fl fp fe : Nat → Int32} {post : (Nat → Int32) → (Nat → Int32) → (Nat → Int32) → Prop} (hi : i < 40) (hp : ∀ fp', (∀ q, q < 41 → fp' (i * 41 + q) = 0) → (∀ s q, s ≠ i → q < 41 → fp' (s * 41 + q) = fp (s * 41 + q)) → post (upd fw i (nI m)) (upd fl i (nI m)) fp') : wp_Chain_resetState post cs fe (nI i) (nI m) fw fl fp := by
  have main : ∀ (r j : Nat) (fp' : Nat → Int32), j + r = 41 → (∀ q, q < j → fp' (i * 41 + q) = 0) → (∀ s q, s ≠ i → q < 41 → fp' (s * 41 + q) = fp (s * 41 + q)) → wp_Chain_resetState_16 post cs fe (r + 1) (nI i) (nI j) (upd fw i (nI m)) (upd fl i (nI m)) fp' := by
    intro r
    induction r with
    | zero =>
      intro j fp' hj hz hk
      unfold wp_Chain_resetState_16
      exact ⟨fun _ => hp fp' (fun q hq => hz q (by omega)) hk, fun c => absurd ((lx41 (by omega)).mpr (by omega)) c⟩
    | succ r ih =>
      intro j fp' hj hz hk
      unfold wp_Chain_resetState_16
      rw [i41, c41 (by omega) (by omega)]
      refine ⟨fun c => absurd ((lx41 (by omega)).mp c) (by omega), fun _ => ⟨v41 (by omega) (by omega), fun z ez => ?_⟩⟩
      rw [ez, nI_1]
      refine ih (j + 1) _ (by omega) (fun q hq => ?_) (fun s q hs hq => ?_)
      · by_cases w : q = j
        · rw [w, pk_us]
        · rw [pk_un (by omega)]
          exact hz q (by omega)
      · rw [pk_un (by omega)]
        exact hk s q hs hq
  unfold wp_Chain_resetState
  rw [ic (by omega)]
  exact ⟨i40 hi, i40 hi, 42, main 41 0 fp rfl (fun q h => absurd h (by omega)) (fun _ _ _ _ => rfl)⟩
theorem ckr_whole {n i m : Nat} {M : Nat → Nat} {a : Nat → Nat → Nat} {fw fl fp fp' : Nat → Int32} (hc : ckr n M a fw fl fp) (hi : i < n) (h1 : 1 ≤ m) (h2 : m ≤ 999999999) (hz : ∀ q, q < 41 → fp' (i * 41 + q) = 0) (hk : ∀ s q, s ≠ i → q < 41 → fp' (s * 41 + q) = fp (s * 41 + q)) : ckr n (nM M i m) (nA0 a i) (upd fw i (nI m)) (upd fl i (nI m)) fp' := by
  obtain ⟨hn, hc2⟩ := hc
  refine ⟨hn, fun r hr => ?_⟩
  by_cases w : r = i
  · subst w
    have e0 : sn (nA0 a r r) (n + 1) = 0 := by
      rw [← sn_zero (n + 1)]
      exact sn_congr (n + 1) (fun l _ => by unfold nA0; rw [if_pos rfl])
    have em : nM M r m r = m := by unfold nM; rw [if_pos rfl]
    rw [e0, em, pk_us, pk_us]
    refine ⟨rfl, ⟨h1, h2⟩, by omega, rfl, fun j hj => ?_⟩
    unfold nA0
    rw [if_pos rfl]
    exact hz j (by omega)
  · have ea : nA0 a i r = a r := by funext c; unfold nA0; rw [if_neg w]
    have em : nM M i m r = M r := by unfold nM; rw [if_neg w]
    rw [ea, em, pk_un w, pk_un w]
    obtain ⟨g1, g2, g3, g4, g5⟩ := hc2 r hr
    refine ⟨g1, g2, g3, g4, fun j hj => ?_⟩
    rw [hk r j w (by omega)]
    exact g5 j hj
theorem sp_restart {n : Nat} {cs : Int32} {fw fl fp fe : Nat → Int32} {post : Int32 → (Nat → Int32) → (Nat → Int32) → (Nat → Int32) → Prop} (h1 : 1 ≤ n) (hn : n ≤ 40) (hp : ∀ fw' fl' fp', ckr n (fun _ => 1) (fun _ _ => 0) fw' fl' fp' → post (nI n) fw' fl' fp') : wp_Chain_restart post fe (nI n) cs fw fl fp := by
  have main : ∀ (m i : Nat) (fw fl fp : Nat → Int32), i + m = n → (∀ r, r < i → fw r = 1 ∧ fl r = 1 ∧ ∀ j, j < 41 → fp (r * 41 + j) = 0) → wp_Chain_restart_7 post fe (m + 1) (nI n) (nI i) (nI n) fw fl fp := by
    intro m
    induction m with
    | zero =>
      intro i fw fl fp hi h
      unfold wp_Chain_restart_7
      refine ⟨fun _ => hp fw fl fp ⟨⟨h1, hn⟩, fun r hr => ?_⟩, fun c => absurd (nI_le (by omega) (by omega)) c⟩
      obtain ⟨g1, g2, g3⟩ := h r (by omega)
      have e0 : sn (fun _ => 0) (n + 1) = 0 := sn_zero (n + 1)
      refine ⟨g1, ⟨Nat.le_refl 1, by show 1 ≤ 999999999; omega⟩, by rw [e0]; exact Nat.zero_le 1, ?_, fun j hj => g3 j (by omega)⟩
      rw [e0, g2]
      rfl
    | succ m ih =>
      intro i fw fl fp hi h
      unfold wp_Chain_restart_7
      refine ⟨fun c => absurd ((nI_leI (by omega) (by omega)).mp c) (by omega), fun _ => ?_⟩
      refine sp_resetState (m := 1) (by omega) (fun fp' hz hk => ?_)
      intro x ex
      rw [ex, nI_1]
      refine ih (i + 1) _ _ _ (by omega) (fun r hr => ?_)
      by_cases w : r = i
      · subst w
        rw [pk_us, pk_us]
        exact ⟨rfl, rfl, hz⟩
      · rw [pk_un w, pk_un w]
        obtain ⟨g1, g2, g3⟩ := h r (by omega)
        exact ⟨g1, g2, fun j hj => by rw [hk r j w hj]; exact g3 j hj⟩
  exact ⟨n + 1, main n 0 fw fl fp (by omega) (fun r h => absurd h (by omega))⟩
theorem sp_leftWith {n i j v : Nat} {M : Nat → Nat} {a : Nat → Nat → Nat} {fw fl fp fe : Nat → Int32} {post : Int32 → Prop} (hc : ckr n M a fw fl fp) (hi : i < n) (hj : j ≤ n) (hp : post (nI (M i - sn (a i) (n + 1) + a i j) - nI v)) : wp_Chain_leftWith post (nI n) fw fl fp fe (nI i) (nI j) (nI v) := by
  obtain ⟨⟨hn1, hn⟩, hc2⟩ := id hc
  obtain ⟨g1, g2, g3, g4, g5⟩ := hc2 i hi
  unfold wp_Chain_leftWith
  rw [ic (by omega), i41, c41 (by omega) (by omega), g4, g5 j hj, nI_add]
  exact ⟨i40 (by omega), v41 (by omega) (by omega), hp⟩
theorem sp_setPart {n i j v : Nat} {M : Nat → Nat} {a : Nat → Nat → Nat} {fw fl fp fe : Nat → Int32} {post : (Nat → Int32) → (Nat → Int32) → Prop} (hc : ckr n M a fw fl fp) (hi : i < n) (hj : j ≤ n) (hv : v ≤ M i - sn (a i) (n + 1) + a i j) (hp : ∀ fl' fp', ckr n M (nA a i j v) fw fl' fp' → post fl' fp') : wp_Chain_setPart post (nI n) fw fe (nI i) (nI j) (nI v) fl fp := by
  obtain ⟨⟨hn1, hn⟩, hc2⟩ := id hc
  obtain ⟨g1, g2, g3, g4, g5⟩ := hc2 i hi
  have hm := sn_mem (f := a i) (n + 1) j (by omega)
  unfold wp_Chain_setPart
  refine sp_leftWith hc hi hj ⟨i40 (by omega), ?_⟩
  rw [ic (by omega), i41, c41 (by omega) (by omega), pk_sub hv]
  refine ⟨v41 (by omega) (by omega), hp _ _ ⟨⟨hn1, hn⟩, fun r hr => ?_⟩⟩
  by_cases w : r = i
  · subst w
    have hs := sn_one (f := nA a r j v r) (g := a r) (n + 1) j (by omega) (fun l _ hl => by unfold nA; rw [if_neg (fun q => hl q.2)])
    have ev : nA a r j v r j = v := by unfold nA; rw [if_pos ⟨rfl, rfl⟩]
    rw [ev] at hs
    refine ⟨g1, g2, by omega, ?_, fun l hl => ?_⟩
    · rw [pk_us]
      congr 1
      omega
    · by_cases w2 : l = j
      · subst w2
        rw [pk_us, ev]
      · rw [pk_un (by omega), g5 l hl]
        unfold nA
        rw [if_neg (fun q => w2 q.2)]
  · have ea : nA a i j v r = a r := by funext c; unfold nA; rw [if_neg (fun q => w q.1)]
    obtain ⟨k1, k2, k3, k4, k5⟩ := hc2 r hr
    rw [ea, pk_un w]
    refine ⟨k1, k2, k3, k4, fun l hl => ?_⟩
    rw [pk_un (by omega)]
    exact k5 l hl
