/-! pure: the law's three catching methods -/
theorem bg_not {n : Nat} (h1 : 1 ≤ n) (h2 : n ≤ 40) : ¬ (nI n < 1 ∨ ¬ nI n ≤ 40) := by
  rintro (h | h)
  · have := (nI_ltI (b := 1) (show n < 2 ^ 31 by omega) (by decide)).mp h
    omega
  · exact h ((nI_leI (b := 40) (show n < 2 ^ 31 by omega) (by decide)).mpr h2)
theorem wh_not {lo n : Nat} (hlo : lo ≤ 1) (h1 : lo ≤ n) (h2 : n ≤ 999999999) : ¬ (nI n < nI lo ∨ ¬ nI n ≤ 999999999) := by
  rintro (h | h)
  · have := (nI_ltI (show n < 2 ^ 31 by omega) (show lo < 2 ^ 31 by omega)).mp h
    omega
  · exact h ((nI_leI (b := 999999999) (show n < 2 ^ 31 by omega) (by decide)).mpr h2)
theorem tg_cases (n : Nat) (hn : n + 1 < 2 ^ 31) (x : Int32) : (∃ i, i ≤ n ∧ x = nI i) ∨ (x < 0 ∨ nI n < x) := by
  by_cases h : x < 0
  · exact Or.inr (Or.inl h)
  · obtain ⟨j, hj, e⟩ := nI_of h
    rcases Nat.lt_or_ge n j with q | q
    · exact Or.inr (Or.inr (by rw [e]; exact nI_lt q hj))
    · exact Or.inl ⟨j, q, e⟩
theorem tg_not {n i : Nat} (hn : n + 1 < 2 ^ 31) (hi : i ≤ n) : ¬ (nI i < 0 ∨ nI n < nI i) := by
  rintro (h | h)
  · have := (nI_ltI (b := 0) (show i < 2 ^ 31 by omega) (by decide)).mp h
    omega
  · have := (nI_ltI (show n < 2 ^ 31 by omega) (show i < 2 ^ 31 by omega)).mp h
    omega
theorem sp_pState {n : Nat} {fw fl fp fe : Nat → Int32} {x : Int32} {post : Int32 → Prop} (hn : n < 2 ^ 31) (h1 : ∀ i, i < n → x = nI i → post 1) (h0 : (x < 0 ∨ nI n ≤ x) → post 0) : wp_ChainP_hasState post (nI n) fw fl fp fe x := by
  unfold wp_ChainP_hasState wp_ChainP_hasState_16 wp_ChainP_hasState_17
  refine ⟨fun c => ⟨rfl, h0 (Or.inl c)⟩, fun c => ⟨fun c2 => ⟨rfl, h0 (Or.inr c2)⟩, fun c2 => ⟨rfl, ?_⟩⟩⟩
  rcases ix_cases n hn x with ⟨i, hi, e⟩ | h | h
  · exact h1 i hi e
  · exact absurd h c
  · exact absurd h c2
theorem sp_pTarget {n : Nat} {fw fl fp fe : Nat → Int32} {x : Int32} {post : Int32 → Prop} (hn : n + 1 < 2 ^ 31) (h1 : ∀ i, i ≤ n → x = nI i → post 1) (h0 : (x < 0 ∨ nI n < x) → post 0) : wp_ChainP_hasTarget post (nI n) fw fl fp fe x := by
  unfold wp_ChainP_hasTarget wp_ChainP_hasTarget_16 wp_ChainP_hasTarget_17
  refine ⟨fun c => ⟨rfl, h0 (Or.inl c)⟩, fun c => ⟨fun c2 => ⟨rfl, h0 (Or.inr c2)⟩, fun c2 => ⟨rfl, ?_⟩⟩⟩
  rcases tg_cases n hn x with ⟨i, hi, e⟩ | h | h
  · exact h1 i hi e
  · exact absurd h c
  · exact absurd h c2
section
variable {wo rs cs es pl : Int32} {ed rp' : Int64} {n : Nat} {cw cl cp ce ec kb kg ta tb to_ tw pt fs : Nat → Int32} {ea f_o : Nat → Int64} {ab : Nat → Nat → Int32} {M : Nat → Nat} {a : Nat → Nat → Nat}
theorem sp_lbegin_ok {k : Nat} {post : Int32 → Int32 → Int32 → (Nat → Int32) → (Nat → Int32) → (Nat → Int32) → Prop} (h1 : 1 ≤ k) (h2 : k ≤ 40) (hp : ∀ fw' fl' fp', ckr k (fun _ => 1) (fun _ _ => 0) fw' fl' fp' → post 0 0 (nI k) fw' fl' fp') : wp_Law_begin post rs ce es ed rp' ec ea kb kg ta tb to_ tw pl pt fs ab (nI k) wo cs cw cl cp := by
  unfold wp_Law_begin wp_Desk_begin
  refine Or.inl ⟨fun c => absurd (Or.inl c) (bg_not h1 h2), fun _ => ⟨fun _ => ?_, fun c => absurd (Or.inr c) (bg_not h1 h2)⟩⟩
  exact sp_restart h1 h2 (fun fw' fl' fp' h => hp fw' fl' fp' h)
theorem sp_lbegin_no {x : Int32} {post : Int32 → Int32 → Int32 → (Nat → Int32) → (Nat → Int32) → (Nat → Int32) → Prop} (h : x < 1 ∨ ¬ x ≤ 40) (hp : post 1 wo cs cw cl cp) : wp_Law_begin post rs ce es ed rp' ec ea kb kg ta tb to_ tw pl pt fs ab x wo cs cw cl cp := by
  unfold wp_Law_begin wp_DeskT_begin wp_DeskT_begin_11
  refine Or.inr ⟨fun _ => ⟨by decide, hp⟩, fun c => ⟨fun c2 => ?_, fun _ => ⟨by decide, hp⟩⟩⟩
  rcases h with h | h
  · exact absurd h c
  · exact absurd c2 h
theorem sp_lwhole_ok {i k : Nat} {post : Int32 → Int32 → (Nat → Int32) → (Nat → Int32) → (Nat → Int32) → Prop} (hc : ckr n M a cw cl cp) (hi : i < n) (h1 : 1 ≤ k) (h2 : k ≤ 999999999) (hp : ∀ fw' fl' fp', ckr n (nM M i k) (nA0 a i) fw' fl' fp' → post 0 0 fw' fl' fp') : wp_Law_whole post rs (nI n) ce es ed rp' ec ea kb kg ta tb to_ tw pl pt fs ab (nI i) (nI k) wo cw cl cp := by
  have hn : n ≤ 40 := hc.1.2
  unfold wp_Law_whole wp_Desk_whole
  refine Or.inl (sp_hasState (by omega) (fun _ _ _ => ⟨fun q => absurd q (by decide), fun _ => ⟨fun c => absurd (Or.inl c) (wh_not (lo := 1) (by omega) h1 h2), fun _ => ⟨fun _ => ?_, fun c => absurd (Or.inr c) (wh_not (lo := 1) (by omega) h1 h2)⟩⟩⟩) (fun h => absurd h (ix_not (by omega) hi)))
  exact sp_resetState (by omega) (fun fp' g1 g2 => hp _ _ _ (ckr_whole hc hi h1 h2 g1 g2))
theorem sp_lwhole_no {x y : Int32} {post : Int32 → Int32 → (Nat → Int32) → (Nat → Int32) → (Nat → Int32) → Prop} (hn : n ≤ 40) (h : (x < 0 ∨ nI n ≤ x) ∨ y < 1 ∨ ¬ y ≤ 999999999) (hp : post 1 wo cw cl cp) : wp_Law_whole post rs (nI n) ce es ed rp' ec ea kb kg ta tb to_ tw pl pt fs ab x y wo cw cl cp := by
  unfold wp_Law_whole wp_DeskT_whole wp_DeskT_whole_32
  refine Or.inr (sp_pState (by omega) (fun i hi e => ⟨fun q => absurd q (by decide), fun _ => ⟨fun _ => ⟨by decide, hp⟩, fun c => ⟨fun c2 => ?_, fun _ => ⟨by decide, hp⟩⟩⟩⟩) (fun _ => ⟨fun _ => ⟨by decide, hp⟩, fun q => absurd rfl q⟩))
  rcases h with h | h | h
  · rw [e] at h
    exact absurd h (ix_not (by omega) hi)
  · exact absurd h c
  · exact absurd c2 h
theorem sp_lpart_ok {i j v : Nat} {post : Int32 → Int32 → (Nat → Int32) → (Nat → Int32) → (Nat → Int64) → Prop} (hc : ckr n M a cw cl cp) (hi : i < n) (hj : j ≤ n) (hv : v ≤ 999999999) (hl : v ≤ M i - sn (a i) (n + 1) + a i j)
    (hp : ∀ fl' fp', ckr n M (nA a i j v) cw fl' fp' → post 0 0 fl' fp' (vp_updL f_o (0 : Int32).toNatClampNeg (nI (M i - sn (a i) (n + 1) + a i j - v)).toInt64)) : wp_Law_part post rs (nI n) cw ce es ed rp' ec ea kb kg ta tb to_ tw pl pt fs ab (nI i) (nI j) (nI v) wo cl cp f_o := by
  have hn : n ≤ 40 := hc.1.2
  have hb : M i - sn (a i) (n + 1) + a i j ≤ 999999999 := by
    obtain ⟨-, g2, g3, -, -⟩ := hc.2 i hi
    have := sn_mem (f := a i) (n + 1) j (by omega)
    omega
  unfold wp_Law_part wp_Desk_part
  refine Or.inl (sp_hasState (by omega) (fun _ _ _ => ⟨fun q => absurd q (by decide), fun _ => ?_⟩) (fun h => absurd h (ix_not (by omega) hi)))
  refine sp_hasTarget (by omega) (fun _ _ _ => ⟨fun q => absurd q (by decide), fun _ => ⟨fun c => absurd (Or.inl c) (wh_not (lo := 0) (by omega) (Nat.zero_le v) hv), fun _ => ⟨fun _ => ?_, fun c => absurd (Or.inr c) (wh_not (lo := 0) (by omega) (Nat.zero_le v) hv)⟩⟩⟩) (fun h => absurd h (tg_not (by omega) hj))
  refine sp_leftWith hc hi hj ?_
  rw [pk_sub hl]
  refine ⟨fun _ => sp_setPart hc hi hj hl (fun fl' fp' h => ⟨by unfold vp_in; decide, hp fl' fp' h⟩), fun c => absurd ((nI_leI (a := 0) (by decide) (by omega)).mpr (Nat.zero_le _)) c⟩
theorem sp_lpart_one {x y w : Int32} {post : Int32 → Int32 → (Nat → Int32) → (Nat → Int32) → (Nat → Int64) → Prop} (hn : n ≤ 40) (h : (x < 0 ∨ nI n ≤ x) ∨ (y < 0 ∨ nI n < y) ∨ w < 0 ∨ ¬ w ≤ 999999999) (hp : post 1 wo cl cp f_o) : wp_Law_part post rs (nI n) cw ce es ed rp' ec ea kb kg ta tb to_ tw pl pt fs ab x y w wo cl cp f_o := by
  have hq : (fun r9 : Int32 => (¬ r9 = 2 → post 1 wo cl cp f_o) ∧ (r9 = 2 → post 2 wo cl cp f_o)) 1 := ⟨fun _ => hp, fun q => absurd q (by decide)⟩
  unfold wp_Law_part wp_DeskT_part wp_DeskT_part_22 wp_DeskT_part_42
  refine Or.inr (sp_pState (by omega) (fun i hi e => ⟨fun q => absurd q (by decide), fun _ => ?_⟩) (fun _ => ⟨fun _ => hq, fun q => absurd rfl q⟩))
  refine sp_pTarget (by omega) (fun j hj e2 => ⟨fun q => absurd q (by decide), fun _ => ⟨fun _ => hq, fun c => ⟨fun c2 => ?_, fun _ => hq⟩⟩⟩) (fun _ => ⟨fun _ => hq, fun q => absurd rfl q⟩)
  rcases h with h | h | h | h
  · rw [e] at h
    exact absurd h (ix_not (by omega) hi)
  · rw [e2] at h
    exact absurd h (tg_not (by omega) hj)
  · exact absurd h c
  · exact absurd c2 h
theorem sp_lpart_two {i j v : Nat} {post : Int32 → Int32 → (Nat → Int32) → (Nat → Int32) → (Nat → Int64) → Prop} (hc : ckr n M a cw cl cp) (hi : i < n) (hj : j ≤ n) (hv : v ≤ 999999999) (hl : M i - sn (a i) (n + 1) + a i j < v)
    (hp : post 2 wo cl cp f_o) : wp_Law_part post rs (nI n) cw ce es ed rp' ec ea kb kg ta tb to_ tw pl pt fs ab (nI i) (nI j) (nI v) wo cl cp f_o := by
  have hn : n ≤ 40 := hc.1.2
  obtain ⟨g1, g2, g3, g4, g5⟩ := hc.2 i hi
  have hb : M i - sn (a i) (n + 1) + a i j ≤ 999999999 := by omega
  unfold wp_Law_part wp_DeskT_part
  refine Or.inr (sp_pState (by omega) (fun _ _ _ => ⟨fun q => absurd q (by decide), fun _ => ?_⟩) (fun h => absurd h (ix_not (by omega) hi)))
  refine sp_pTarget (by omega) (fun _ _ _ => ⟨fun q => absurd q (by decide), fun _ => ⟨fun c => absurd (Or.inl c) (wh_not (lo := 0) (by omega) (Nat.zero_le v) hv), fun _ => ⟨fun _ => ?_, fun c => absurd (Or.inr c) (wh_not (lo := 0) (by omega) (Nat.zero_le v) hv)⟩⟩⟩) (fun h => absurd h (tg_not (by omega) hj))
  unfold wp_ChainP_leftWith
  rw [ic (by omega), i41, c41 (by omega) (by omega), g4, g5 j hj, nI_add]
  refine ⟨i40 (by omega), v41 (by omega) (by omega), fun c => ?_, fun _ => ⟨fun q => absurd rfl q, fun _ => hp⟩⟩
  rw [Int32.le_iff_toInt_le, pk_sub_toInt (by omega) (by omega)] at c
  have e0 : (0 : Int32).toInt = 0 := by decide
  omega
end
