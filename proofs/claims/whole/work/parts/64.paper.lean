/-! pure: the class's paper -/
theorem nar_char {q : Nat} (h : q < 65536) : vp_nar .char (nI q) = nI q := by
  have e : ((nI q).toUInt32 % 65536).toInt32 = nI q := by
    rw [pk_char, pk_tn (by omega), Nat.mod_eq_of_lt h]
  have := pk_vc (nI q)
  rw [e] at this
  exact this
theorem chr_48 {d : Nat} (h : d < 10) : ((48 + nI d).toUInt32 % 65536).toInt32 = nI (48 + d) := by
  rw [nI_48, pk_char, pk_tn (by omega), Nat.mod_eq_of_lt (by omega)]
theorem l301 {k : Nat} (h : k < 2 ^ 31) : (301 : Int32) ≤ nI k ↔ 301 ≤ k := nI_leI (a := 301) (by decide) h
theorem sp_write {l q : Nat} {pt : Nat → Int32} {post : Int32 → (Nat → Int32) → Prop} (hl : l < 301) (hq : q < 65536) (hp : post (nI (l + 1)) (upd pt l (nI q))) : wp_Paper_write post (nI q) (nI l) pt := by
  unfold wp_Paper_write wp_Paper_write_30
  refine ⟨fun c => absurd ((l301 (by omega)).mp c) (by omega), fun _ => ⟨vp_in_nI hl (by decide), fun x ex => ?_⟩⟩
  rw [ex, nI_1, ic (by omega), nar_char hq]
  exact hp
theorem sp_writeDecimal {N st : Nat} {pt t : Nat → Int32} {post : Int32 → (Nat → Int32) → (Nat → Int32) → Prop} (hst : st + nd N ≤ 301) (h150 : nd N ≤ 150) (hN : bn N) (ht : rp t N)
    (hp : ∀ pt' t', tx N st pt' → (∀ s, s < st → pt' s = pt s) → post (nI (st + nd N)) pt' t') : wp_Paper_writeDecimal post (nI st) pt t := by
  have h1N := nd_pos N
  -- turned round
  have rev : ∀ (t' : Nat → Int32) (m k : Nat) (o : Nat → Int32), nd N ≤ 2 * k + 2 * m → 2 * k ≤ nd N + 1 → (∀ j, j < nd N → o (st + j) = nI (48 + dn N (if j < k ∨ nd N ≤ j + k then nd N - 1 - j else j))) → (∀ s, s < st → o s = pt s) → ∀ (x : Int32), (k < nd N ∧ x = nI (st + (nd N - 1 - k)) ∨ k = nd N ∧ x ≤ nI (st + k)) → wp_Paper_reverseFrom_9 (fun u_2 => post (nI (st + nd N)) u_2 t') (nI (st + nd N)) (m + 1) (nI (st + k)) x o := by
    intro t' m
    have fin : ∀ (k : Nat) (o : Nat → Int32), nd N ≤ 2 * k + 1 → (∀ j, j < nd N → o (st + j) = nI (48 + dn N (if j < k ∨ nd N ≤ j + k then nd N - 1 - j else j))) → (∀ s, s < st → o s = pt s) → post (nI (st + nd N)) o t' := by
      intro k o hk ho hs
      refine hp o t' (fun j hj => ?_) hs
      rw [ho j hj]
      by_cases g : j < k ∨ nd N ≤ j + k
      · rw [if_pos g]
      · rw [if_neg g, show nd N - 1 - j = j by omega]
    induction m with
    | zero =>
      intro k o hm hk ho hs x hx
      unfold wp_Paper_reverseFrom_9
      refine ⟨fun _ => fin k o (by omega) ho hs, fun g => ?_⟩
      rcases hx with ⟨h1, h2⟩ | ⟨h1, h2⟩
      · rw [h2] at g
        exact absurd (nI_le (by omega) (by omega)) g
      · exact absurd h2 g
    | succ m ih =>
      intro k o hm hk ho hs x hx
      unfold wp_Paper_reverseFrom_9
      rcases hx with ⟨h1, h2⟩ | ⟨h1, h2⟩
      · subst h2
        refine ⟨fun g => fin k o ?_ ho hs, fun g => ?_⟩
        · have := (nI_leI (by omega) (by omega)).mp g
          omega
        · have g' : k < nd N - 1 - k := by
            rcases Nat.lt_or_ge k (nd N - 1 - k) with q | q
            · exact q
            · exact absurd (nI_le (show st + (nd N - 1 - k) ≤ st + k by omega) (by omega)) g
          rw [ic (show st + k < 2 ^ 31 by omega), ic (show st + (nd N - 1 - k) < 2 ^ 31 by omega)]
          have v1 : vp_in (nI (st + k)) 301 := vp_in_nI (by omega) (by decide)
          have v2 : vp_in (nI (st + (nd N - 1 - k))) 301 := vp_in_nI (by omega) (by decide)
          refine ⟨v1, fun y ey => ⟨v2, v1, v2, fun u eu w ew => ?_⟩⟩
          have d1 := dn_lt N k
          have d2 := dn_lt N (nd N - 1 - k)
          rw [ho k (by omega), if_neg (by omega)] at ey
          rw [ho (nd N - 1 - k) (by omega), if_neg (by omega), nar_char (by omega), ey, nar_char (by omega), eu, ew, nI_1]
          have e3 : nI (st + (nd N - 1 - k)) + (-1) = nI (st + (nd N - 1 - (k + 1))) := by
            rw [show st + (nd N - 1 - k) = st + (nd N - 1 - (k + 1)) + 1 by omega]
            exact nI_dn
          rw [e3]
          refine ih (k + 1) _ (by omega) (by omega) (fun j hj => ?_) (fun s hs2 => ?_) _ (Or.inl ⟨by omega, rfl⟩)
          · by_cases w1 : j = nd N - 1 - k
            · rw [w1, pk_us, if_pos (by omega), show nd N - 1 - (nd N - 1 - k) = k by omega]
            · rw [pk_un (by omega)]
              by_cases w2 : j = k
              · rw [w2, pk_us, if_pos (by omega)]
              · rw [pk_un (by omega), ho j hj]
                by_cases w3 : j < k ∨ nd N ≤ j + k
                · rw [if_pos w3, if_pos (by omega)]
                · rw [if_neg w3, if_neg (by omega)]
          · rw [pk_un (by omega), pk_un (by omega)]
            exact hs s hs2
      · exact ⟨fun _ => fin k o (by omega) ho hs, fun g => absurd h2 g⟩
  have l150 : ∀ {k : Nat}, k < 2 ^ 31 → ((150 : Int32) ≤ nI k ↔ 150 ≤ k) := fun h => nI_leI (a := 150) (by decide) h
  have take : ∀ (m c X : Nat) (t' o : Nat → Int32), m = nd X → c + nd X = nd N → X = N / 10 ^ c → rp t' X → (∀ j, j < c → o (st + j) = nI (48 + dn N j)) → (∀ s, s < st → o s = pt s) → wp_Paper_writeDecimal_7 post (m + 1) (nI st) (nI c) (nI (st + c)) o t' := by
    intro m
    induction m with
    | zero =>
      intro c X t' o hm
      have := nd_pos X
      omega
    | succ m ih =>
      intro c X t' o hm hcn hX ht' ho hs
      have hXle : X ≤ N := by rw [hX]; exact Nat.div_le_self _ _
      have hXb : bn X := Nat.lt_of_le_of_lt hXle hN
      have h1X := nd_pos X
      have hd : X % 10 < 10 := Nat.mod_lt _ (by omega)
      unfold wp_Paper_writeDecimal_7
      refine ⟨fun g => absurd ((l150 (by omega)).mp g) (by omega), fun _ => ?_⟩
      refine sp_takeDigit ht' hXb (fun t2 ht2 => ?_)
      rw [chr_48 hd]
      refine sp_write (by omega) (by omega) ?_
      have hX10 : bn (X / 10) := Nat.lt_of_le_of_lt (Nat.div_le_self _ _) hXb
      have hdX : X % 10 = dn N c := by rw [hX]; rfl
      have ho2 : ∀ j, j < c + 1 → upd o (st + c) (nI (48 + X % 10)) (st + j) = nI (48 + dn N j) := by
        intro j hj
        by_cases w : j = c
        · rw [w, pk_us, hdX]
        · rw [pk_un (by omega)]
          exact ho j (by omega)
      have hs3 : ∀ s, s < st → upd o (st + c) (nI (48 + X % 10)) s = pt s := fun s hs3 => by rw [pk_un (by omega)]; exact hs s hs3
      refine sp_isZero ht2 hX10 (fun e => ⟨fun q => absurd q (by decide), fun _ => ?_⟩) (fun e => ⟨fun _ x ex => ?_, fun q => absurd rfl q⟩)
      · have hlt : X < 10 := by omega
        have e1 := nd_lo hlt
        unfold wp_Paper_writeDecimal_42 wp_Paper_reverseFrom
        intro x ex
        rw [show st + c + 1 = st + nd N by omega] at ex ⊢
        have ex2 : x = nI (st + (nd N - 1 - 0)) := by
          rw [ex]
          have : nI (st + nd N) - 1 = nI (st + nd N - 1) := pk_sub (b := 1) (by omega)
          rw [this]
          congr 1
          omega
        exact ⟨nd N + 1, rev t2 (nd N) 0 _ (by omega) (by omega) (fun j hj => by rw [if_neg (by omega)]; exact ho2 j (by omega)) hs3 x (Or.inl ⟨by omega, ex2⟩)⟩
      · have hge : ¬ X < 10 := by omega
        have e1 := nd_hi hge
        rw [ex, nI_1]
        refine ih (c + 1) (X / 10) t2 _ (by omega) (by omega) ?_ ht2 ho2 hs3
        rw [hX, Nat.div_div_eq_div_mul, ← Nat.pow_succ]
  exact ⟨nd N + 1, take (nd N) 0 N t pt rfl (by omega) (by rw [Nat.pow_zero, Nat.div_one]) ht (fun j h => absurd h (by omega)) (fun s _ => rfl)⟩
