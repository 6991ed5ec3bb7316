/-! pure: decimal digits -/
def nd (N : Nat) : Nat := if h : N < 10 then 1 else nd (N / 10) + 1
termination_by N
decreasing_by omega
theorem nd_lo {N : Nat} (h : N < 10) : nd N = 1 := by rw [nd, dif_pos h]
theorem nd_hi {N : Nat} (h : ¬ N < 10) : nd N = nd (N / 10) + 1 := by rw [nd, dif_neg h]
theorem nd_pos (N : Nat) : 1 ≤ nd N := by
  by_cases h : N < 10
  · rw [nd_lo h]; omega
  · rw [nd_hi h]; omega
theorem nd_le : ∀ (c N : Nat), 1 ≤ c → N < 10 ^ c → nd N ≤ c
  | 0, _, h, _ => absurd h (by omega)
  | c + 1, N, _, h => by
    by_cases q : N < 10
    · rw [nd_lo q]; omega
    · rw [nd_hi q]
      rcases Nat.eq_zero_or_pos c with w | w
      · subst w
        rw [Nat.zero_add, Nat.pow_one] at h
        exact absurd h q
      · have := nd_le c (N / 10) w (by rw [Nat.pow_succ] at h; exact Nat.div_lt_of_lt_mul (by rw [Nat.mul_comm]; exact h))
        omega
def dn (N k : Nat) : Nat := N / 10 ^ k % 10
theorem dn_lt (N k : Nat) : dn N k < 10 := Nat.mod_lt _ (by omega)
/-- one place of a division by ten -/
theorem eg_ten (X k : Nat) : eg (X / 10) k = (X / 16777216 ^ (k + 1) % 10 * 16777216 + eg X k) / 10 ∧ (X / 16777216 ^ (k + 1) % 10 * 16777216 + eg X k) % 10 = X / 16777216 ^ k % 10 := by
  have h1 := he_step X k
  have hd := eg_lt X k
  have e : eg (X / 10) k = X / 16777216 ^ k / 10 % 16777216 := by
    unfold eg
    rw [Nat.div_div_eq_div_mul, Nat.div_div_eq_div_mul, Nat.mul_comm]
  rw [e]
  generalize X / 16777216 ^ k = Y at h1 ⊢
  generalize X / 16777216 ^ (k + 1) = H at h1 ⊢
  generalize eg X k = d at h1 hd ⊢
  omega
theorem l_or24 {l d : Nat} (hl : l < 10) (hd : d < 16777216) : lN l <<< ((24 : Int32).toInt64 &&& 63) ||| lN d = lN (l * 16777216 + d) := by
  have e1 : lN l <<< ((24 : Int32).toInt64 &&& 63) = lN (l * 2 ^ 24) := wb_shl (k := 24) l (by decide)
  rw [e1, wb_or (by omega) (by omega), Nat.mul_comm l, ← Nat.two_pow_add_eq_or_of_lt (i := 24) hd, Nat.mul_comm]
theorem nI_48 {d : Nat} : (48 : Int32) + nI d = nI (48 + d) := nI_add 48 d
theorem sp_mten {X cnt at0 : Nat} {th vn vh vk vm vp : Int32} {K : Int32 → Int32 → Int32 → (Nat → Int32) → (Nat → Int32) → Prop} {post : Int32 → (Nat → Int32) → (Nat → Int32) → Prop} {z out : Nat → Int32} (ho : at0 + cnt < 320) (hX : b22 X) (hz : rq z 946 X)
    (hK : ∀ (b : Int32) (z' : Nat → Int32), (X / 10 = 0 ∧ b = 0 ∨ ¬ X / 10 = 0 ∧ b = 1) → rq z' 946 (X / 10) → (∀ s, s < 946 ∨ 968 ≤ s → z' s = z s) → K (nI at0) (nI (cnt + 1)) b z' (upd out (at0 + cnt) (nI (48 + X % 10)))) : ∃ k9, wp_Model_figures_25 post th vn vh vk vm vp K k9 (nI at0) (nI cnt) 0 21 z out := by
  have hX10 : b22 (X / 10) := Nat.lt_of_le_of_lt (Nat.div_le_self _ _) hX
  have main : ∀ (k : Nat) (x : Int32) (z' : Nat → Int32), k ≤ 22 → (k = 0 → x < 0) → (∀ k', k = k' + 1 → x = nI k') → (∀ j, j < 22 → z' (946 + j) = nI (if k ≤ j then eg (X / 10) j else eg X j)) → (∀ s, s < 946 ∨ 968 ≤ s → z' s = z s) → wp_Model_figures_25 post th vn vh vk vm vp K (k + 1) (nI at0) (nI cnt) (lN (X / 16777216 ^ k % 10)) x z' out := by
    intro k
    induction k with
    | zero =>
      intro x z' hk hx _ h1 h2
      have hz' : rq z' 946 (X / 10) := fun j hj => by rw [h1 j hj, if_pos (by omega)]
      have e946 : (946 : Int32) = nI 946 := rfl
      unfold wp_Model_figures_25
      refine ⟨fun _ => ?_, fun g => absurd (hx rfl) g⟩
      rw [he_0, nI_add, ic (by omega), lN_i, nI_48]
      refine ⟨vp_in_nI (by omega) (by decide), fun y ey => ?_⟩
      rw [ey, nI_1, e946]
      refine sp_misZero (by omega) hz' hX10 (fun e => ⟨fun q => absurd q (by decide), fun _ => ?_⟩) (fun e => ⟨fun _ => ?_, fun q => absurd rfl q⟩)
      · unfold wp_Model_figures_114
        exact hK 0 z' (Or.inl ⟨e, rfl⟩) hz' h2
      · unfold wp_Model_figures_114
        exact hK 1 z' (Or.inr ⟨e, rfl⟩) hz' h2
    | succ k ih =>
      intro x z' hk _ hx h1 h2
      have ex := hx k rfl
      subst ex
      have hd := eg_lt X k
      have hl := Nat.mod_lt (X / 16777216 ^ (k + 1)) (show 0 < 10 by omega)
      obtain ⟨t1, t2⟩ := eg_ten X k
      have ek : (946 : Int32) + nI k = nI (946 + k) := nI_add 946 k
      have e10 : (10 : Int64) = lN 10 := rfl
      unfold wp_Model_figures_25
      refine ⟨fun g => absurd g (nI_pos (by omega)), fun _ => ?_⟩
      rw [ek, ic (by omega), h1 k (by omega), if_neg (by omega), nI_l (by omega), l_or24 hl hd]
      refine ⟨v1100 (by omega), fun y ey => ⟨v1100 (by omega), fun u eu w ew => ?_⟩⟩
      rw [ey, e10, pk_lRem (by omega) (by omega) (by omega), t2] at eu
      rw [eu, ew, ey, e10, pk_lDiv (by omega) (by omega) (by omega), ← t1, lN_i]
      refine ih _ _ (by omega) (fun e => ?_) (fun k' e => ?_) (fun j hj => ?_) (fun s hs => ?_)
      · subst e; exact n_neg1
      · subst e; exact nI_dn
      · by_cases g : j = k
        · rw [g, pk_us, if_pos (by omega)]
        · rw [pk_un (by omega), h1 j hj]
          by_cases g2 : k ≤ j
          · rw [if_pos (by omega), if_pos g2]
          · rw [if_neg (by omega), if_neg g2]
      · rw [pk_un (by omega)]
        exact h2 s hs
  have h := main 22 21 z (Nat.le_refl _) (fun e => absurd e (by omega)) (fun k' e => by rw [show k' = 21 by omega]; rfl) (fun j hj => by rw [if_neg (by omega)]; exact hz j hj) (fun s _ => rfl)
  rw [Nat.div_eq_of_lt hX] at h
  exact ⟨23, h⟩
/-- the text of a number, from at on -/
def tx (N at0 : Nat) (out : Nat → Int32) : Prop := ∀ k, k < nd N → out (at0 + k) = nI (48 + dn N (nd N - 1 - k))
theorem sp_mfig {N r at0 : Nat} {th vn vh vk vm vp : Int32} {post : Int32 → (Nat → Int32) → (Nat → Int32) → Prop} {z out : Nat → Int32} (hr : r + 22 ≤ 1100) (hr2 : r + 22 ≤ 946 ∨ 968 ≤ r) (hat : at0 + nd N ≤ 320) (hN : b22 N) (hz : rq z r N)
    (hp : ∀ z' out', tx N at0 out' → (∀ s, s < at0 → out' s = out s) → (∀ s, s < 946 ∨ 968 ≤ s → z' s = z s) → post (nI (at0 + nd N)) z' out') : wp_Model_figures post th vn vh vk vm vp (nI r) (nI at0) z out := by
  -- turned round
  have rev : ∀ (z' : Nat → Int32), (∀ s, s < 946 ∨ 968 ≤ s → z' s = z s) → ∀ (m k : Nat) (o : Nat → Int32), nd N ≤ 2 * k + 2 * m → 2 * k ≤ nd N + 1 → (∀ j, j < nd N → o (at0 + j) = nI (48 + dn N (if j < k ∨ nd N ≤ j + k then nd N - 1 - j else j))) → (∀ s, s < at0 → o s = out s) → wp_Model_figures_122 post th vn vh vk vm vp (m + 1) (nI at0) (nI (nd N)) (nI k) z' o := by
    intro z' hs' m
    have h1N := nd_pos N
    have em : nI (nd N) - 1 = nI (nd N - 1) := pk_sub (b := 1) (by omega)
    have fin : ∀ (k : Nat) (o : Nat → Int32), nd N ≤ 2 * k + 1 → (∀ j, j < nd N → o (at0 + j) = nI (48 + dn N (if j < k ∨ nd N ≤ j + k then nd N - 1 - j else j))) → (∀ s, s < at0 → o s = out s) → post (nI at0 + nI (nd N)) z' o := by
      intro k o hk ho hs
      rw [nI_add]
      refine hp z' o (fun j hj => ?_) hs hs'
      rw [ho j hj]
      by_cases g : j < k ∨ nd N ≤ j + k
      · rw [if_pos g]
      · rw [if_neg g, show nd N - 1 - j = j by omega]
    have e2 : ∀ k : Nat, (2 : Int32) * nI k = nI (2 * k) := fun k => pk_mul 2 k
    induction m with
    | zero =>
      intro k o hm hk ho hs
      unfold wp_Model_figures_122
      rw [em, e2]
      exact ⟨fun _ => fin k o (by omega) ho hs, fun g => absurd (nI_le (by omega) (by omega)) g⟩
    | succ m ih =>
      intro k o hm hk ho hs
      unfold wp_Model_figures_122
      rw [em, e2]
      refine ⟨fun g => fin k o ?_ ho hs, fun g => ?_⟩
      · have := (nI_leI (by omega) (by omega)).mp g
        omega
      · have g' : 2 * k < nd N - 1 := by
          rcases Nat.lt_or_ge (2 * k) (nd N - 1) with q | q
          · exact q
          · exact absurd (nI_le q (by omega)) g
        have e3 : nI at0 + nI (nd N) - 1 - nI k = nI (at0 + (nd N - 1 - k)) := by
          have : nI at0 + nI (nd N) - 1 = nI (at0 + nd N - 1) := by rw [nI_add]; exact pk_sub (b := 1) (by omega)
          rw [this, pk_sub (by omega)]
          congr 1
          omega
        rw [e3, nI_add, ic (show at0 + k < 2 ^ 31 by omega), ic (show at0 + (nd N - 1 - k) < 2 ^ 31 by omega)]
        have v1 : vp_in (nI (at0 + k)) 320 := vp_in_nI (by omega) (by decide)
        have v2 : vp_in (nI (at0 + (nd N - 1 - k))) 320 := vp_in_nI (by omega) (by decide)
        refine ⟨v1, fun x ex => ⟨v2, v1, v2, fun y ey => ?_⟩⟩
        rw [ey, nI_1, ex]
        refine ih (k + 1) _ (by omega) (by omega) (fun j hj => ?_) (fun s hs2 => ?_)
        · by_cases w1 : j = nd N - 1 - k
          · rw [w1, pk_us, ho k (by omega), if_neg (by omega), if_pos (by omega), show nd N - 1 - (nd N - 1 - k) = k by omega]
          · rw [pk_un (by omega)]
            by_cases w2 : j = k
            · rw [w2, pk_us, ho _ (by omega), if_neg (by omega), if_pos (by omega)]
            · rw [pk_un (by omega), ho j hj]
              by_cases w3 : j < k ∨ nd N ≤ j + k
              · rw [if_pos w3, if_pos (by omega)]
              · rw [if_neg w3, if_neg (by omega)]
        · rw [pk_un (by omega), pk_un (by omega)]
          exact hs s hs2
  -- digits taken
  have take : ∀ (m c X : Nat) (z' o : Nat → Int32), m = nd X → c + nd X = nd N → X = N / 10 ^ c → rq z' 946 X → (∀ j, j < c → o (at0 + j) = nI (48 + dn N j)) → (∀ s, s < at0 → o s = out s) → (∀ s, s < 946 ∨ 968 ≤ s → z' s = z s) → wp_Model_figures_13 post th vn vh vk vm vp (m + 1) (nI at0) (nI c) 1 z' o := by
    intro m
    induction m with
    | zero =>
      intro c X z' o hm
      have := nd_pos X
      omega
    | succ m ih =>
      intro c X z' o hm hcn hX hz' ho hs hs'
      have hXle : X ≤ N := by rw [hX]; exact Nat.div_le_self _ _
      have hXb : b22 X := Nat.lt_of_le_of_lt hXle hN
      have h1X := nd_pos X
      unfold wp_Model_figures_13
      refine ⟨fun q => absurd q (by decide), fun _ => ?_⟩
      refine sp_mten (by omega) hXb hz' (fun b z2 hb hz2 hs2 => ?_)
      have hdX : X % 10 = dn N c := by rw [hX]; rfl
      have ho2 : ∀ j, j < c + 1 → upd o (at0 + c) (nI (48 + X % 10)) (at0 + j) = nI (48 + dn N j) := by
        intro j hj
        by_cases w : j = c
        · rw [w, pk_us, hdX]
        · rw [pk_un (by omega)]
          exact ho j (by omega)
      have hs3 : ∀ s, s < at0 → upd o (at0 + c) (nI (48 + X % 10)) s = out s := fun s hs3 => by rw [pk_un (by omega)]; exact hs s hs3
      have hs4 : ∀ s, s < 946 ∨ 968 ≤ s → z2 s = z s := fun s g => (hs2 s g).trans (hs' s g)
      rcases hb with ⟨e, eb⟩ | ⟨e, eb⟩
      · have hlt : X < 10 := by omega
        have e1 := nd_lo hlt
        rw [eb]
        unfold wp_Model_figures_13
        refine ⟨fun _ => ⟨nd N + 1, ?_⟩, fun q => absurd rfl q⟩
        have hr := rev z2 hs4 (nd N) 0 _ (by omega) (by omega) (fun j hj => by rw [if_neg (by omega)]; exact ho2 j (by omega)) hs3
        rw [show c + 1 = nd N by omega]
        exact hr
      · have hge : ¬ X < 10 := by omega
        have e1 := nd_hi hge
        rw [eb]
        refine ih (c + 1) (X / 10) z2 _ (by omega) (by omega) ?_ hz2 ho2 hs3 hs4
        rw [hX, Nat.div_div_eq_div_mul, ← Nat.pow_succ]
  unfold wp_Model_figures
  have e946 : (946 : Int32) = nI 946 := rfl
  rw [e946]
  refine sp_mcopy (by omega) hr (by omega) (fun z1 c1 s1 => ⟨nd N + 1, take (nd N) 0 N z1 out rfl (by omega) ?_ (fun k hk => (c1 k hk).trans (hz k hk)) (fun j h => absurd h (by omega)) (fun s _ => rfl) (fun s g => s1 s (by omega))⟩)
  rw [Nat.pow_zero, Nat.div_one]
