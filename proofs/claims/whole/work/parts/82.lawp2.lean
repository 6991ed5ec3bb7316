section
variable {v_L i : Nat} {f_xs : Nat → Int32} {post : Int32 → Int32 → Int32 → Int32 → (Nat → Int32) → (Nat → Int32) → (Nat → Int32) → (Nat → Int32) → Int32 → Int64 → Int64 → (Nat → Int32) → (Nat → Int64) → (Nat → Int32) → (Nat → Int32) → (Nat → Int32) → (Nat → Int32) → (Nat → Int32) → (Nat → Int32) → Int32 → (Nat → Int32) → (Nat → Int32) → Int32 → Int32 → Int32 → Int32 → Int32 → Int32 → (Nat → Int32) → (Nat → Int32) → (Nat → Int64) → (Nat → Int64) → (Nat → Int64) → (Nat → Int64) → (Nat → Int64) → (Nat → Int32) → (Nat → Int32) → (Nat → Int32) → (Nat → Int64) → (Nat → Nat → Int32) → Prop} {K : Int32 → Int32 → Int32 → Int32 → (Nat → Int32) → (Nat → Int32) → (Nat → Int32) → (Nat → Int32) → Int32 → Int64 → Int64 → (Nat → Int32) → (Nat → Int64) → (Nat → Int32) → (Nat → Int32) → (Nat → Int32) → (Nat → Int32) → (Nat → Int32) → (Nat → Int32) → Int32 → (Nat → Int32) → (Nat → Int32) → Int32 → Int32 → Int32 → Int32 → Int32 → Int32 → (Nat → Int32) → (Nat → Int32) → (Nat → Int64) → (Nat → Int64) → (Nat → Int64) → (Nat → Int64) → (Nat → Int64) → (Nat → Int32) → (Nat → Int32) → (Nat → Int32) → (Nat → Int64) → (Nat → Nat → Int32) → Prop} {v_wo : Int32} {v_rs : Int32} {v_cs : Int32} {f_cw : Nat → Int32} {f_cl : Nat → Int32} {f_cp : Nat → Int32} {f_ce : Nat → Int32} {v_es : Int32} {v_ed : Int64} {v_rp : Int64} {f_ec : Nat → Int32} {f_ea : Nat → Int64} {f_kb : Nat → Int32} {f_kg : Nat → Int32} {f_ta : Nat → Int32} {f_tb : Nat → Int32} {f_to : Nat → Int32} {f_tw : Nat → Int32} {v_pl : Int32} {f_pt : Nat → Int32} {f_s : Nat → Int32} {v_thrown : Int32} {v_n : Int32} {v_has : Int32} {v_known : Int32} {v_many : Int32} {v_printed : Int32} {f_wholes : Nat → Int32} {f_parts : Nat → Int32} {f_known31 : Nat → Int64} {f_primes : Nat → Int64} {f_rests : Nat → Int64} {f_rows : Nat → Int64} {f_digits : Nat → Int64} {f_z : Nat → Int32} {f_out : Nat → Int32} {f_open : Nat → Int32} {f_o : Nat → Int64} {f_ab : Nat → Nat → Int32}
theorem lc_315 (hK : ∀ (v_wo : Int32) (v_rs : Int32) (v_cs : Int32) (f_cw : Nat → Int32) (f_cl : Nat → Int32) (f_cp : Nat → Int32) (f_ce : Nat → Int32) (v_es : Int32) (v_ed : Int64) (v_rp : Int64) (f_ec : Nat → Int32) (f_ea : Nat → Int64) (f_kb : Nat → Int32) (f_kg : Nat → Int32) (f_ta : Nat → Int32) (f_tb : Nat → Int32) (f_to : Nat → Int32) (f_tw : Nat → Int32) (v_pl : Int32) (f_pt : Nat → Int32) (f_s : Nat → Int32) (v_thrown : Int32) (v_n : Int32) (v_has : Int32) (v_known : Int32) (v_many : Int32) (v_printed : Int32) (f_wholes : Nat → Int32) (f_parts : Nat → Int32) (f_known31 : Nat → Int64) (f_primes : Nat → Int64) (f_rests : Nat → Int64) (f_rows : Nat → Int64) (f_digits : Nat → Int64) (f_z : Nat → Int32) (f_out : Nat → Int32) (f_open : Nat → Int32) (f_o : Nat → Int64) (f_ab : Nat → Nat → Int32), jv v_wo v_rs v_cs f_cw f_cl f_cp f_ce v_es v_ed v_rp f_ec f_ea f_kb f_kg f_ta f_tb f_to f_tw v_pl f_pt f_s v_thrown v_n v_has v_known v_many v_printed f_wholes f_parts f_known31 f_primes f_rests f_rows f_digits f_z f_out f_open f_o f_ab → K (nI (i + 4)) v_wo v_rs v_cs f_cw f_cl f_cp f_ce v_es v_ed v_rp f_ec f_ea f_kb f_kg f_ta f_tb f_to f_tw v_pl f_pt f_s v_thrown v_n v_has v_known v_many v_printed f_wholes f_parts f_known31 f_primes f_rests f_rows f_digits f_z f_out f_open f_o f_ab) (hb : i + 4 ≤ v_L) (hL : v_L ≤ 2048) (hj : jv v_wo v_rs v_cs f_cw f_cl f_cp f_ce v_es v_ed v_rp f_ec f_ea f_kb f_kg f_ta f_tb f_to f_tw v_pl f_pt f_s v_thrown v_n v_has v_known v_many v_printed f_wholes f_parts f_known31 f_primes f_rests f_rows f_digits f_z f_out f_open f_o f_ab) : wp_Law_law_315 post v_L f_xs K (nI i) v_wo v_rs v_cs f_cw f_cl f_cp f_ce v_es v_ed v_rp f_ec f_ea f_kb f_kg f_ta f_tb f_to f_tw v_pl f_pt f_s v_thrown v_n v_has v_known v_many v_printed f_wholes f_parts f_known31 f_primes f_rests f_rows f_digits f_z f_out f_open f_o f_ab := by
  obtain ⟨n, M, a, c, L, rfl, rfl, rfl, rfl, rfl, hc, hm, hk, hLL, ht, hs⟩ := id hj
  have hn : n ≤ 40 := hc.1.2
  have b1 : vp_in (nI i + 1) v_L := by rw [show (1 : Int32) = nI 1 from rfl, nI_add]; exact vp_in_nI (by omega) (by omega)
  have b2 : vp_in (nI i + 2) v_L := by rw [show (2 : Int32) = nI 2 from rfl, nI_add]; exact vp_in_nI (by omega) (by omega)
  have b3 : vp_in (nI i + 3) v_L := by rw [show (3 : Int32) = nI 3 from rfl, nI_add]; exact vp_in_nI (by omega) (by omega)
  unfold wp_Law_law_315
  generalize f_xs (nI i + 1).toNatClampNeg = x
  generalize f_xs (nI i + 2).toNatClampNeg = y
  have go : ∀ r r' : Int32, r = r' → ((r = r' → wp_Law_law_414 post v_L f_xs K (nI i) v_wo v_rs (nI n) f_cw f_cl f_cp f_ce v_es v_ed v_rp f_ec f_ea f_kb f_kg f_ta f_tb f_to f_tw (nI L) f_pt f_s 0 (nI n) v_has (nI c) v_many (nI L) f_wholes f_parts f_known31 f_primes f_rests f_rows f_digits f_z f_out f_open f_o f_ab) ∧ (¬ r = r' → post 0 v_wo v_rs (nI n) f_cw f_cl f_cp f_ce v_es v_ed v_rp f_ec f_ea f_kb f_kg f_ta f_tb f_to f_tw (nI L) f_pt f_s 0 (nI n) v_has (nI c) v_many (nI L) f_wholes f_parts f_known31 f_primes f_rests f_rows f_digits f_z f_out f_open f_o f_ab)) := fun r r' e => ⟨fun _ => l414 hK ⟨n, M, a, c, L, rfl, rfl, rfl, rfl, rfl, hc, hm, hk, hLL, ht, hs⟩, fun q => absurd e q⟩
  have hd : ∃ N : Nat → Nat, (¬ v_wo = 0 → ∀ i, i < n → rp (f_ab i) (N i) ∧ N i ≤ 2 ^ 480) ∧ (¬ v_has = 0 → ∀ i, i < n → rq f_z (22 * i) (N i) ∧ N i ≤ 2 ^ 480) ∧ (v_wo = 0 ↔ v_has = 0) := by
    rcases hs with ⟨h, h2⟩ | ⟨h, h2, hns, hw, D, N, hsol, hkb, hz, hN, hr⟩
    · exact ⟨fun _ => 0, fun q => absurd h q, fun q => absurd h2 q, by rw [h, h2]⟩
    · have hD := sol480 hsol hw
      exact ⟨N, fun _ i hi => ⟨(hN i hi).1, Nat.le_trans (hsol.2.2.2.1 i hi) hD⟩, fun _ i hi => ⟨(hN i hi).2, Nat.le_trans (hsol.2.2.2.1 i hi) hD⟩, by rw [h, h2]⟩
  obtain ⟨N, hN1, hN2, hiff⟩ := hd
  refine ⟨b1, b2, ?_⟩
  refine sp_dcompare hn hN1 (fun h => ⟨b1, b2, ?_⟩) (fun g i1 j1 q1 q2 e1 e2 r hr => ⟨b1, b2, ?_⟩)
  · refine sp_mcompare hn hN2 (fun _ => go _ _ rfl) (fun g i1 j1 q1 q2 e1 e2 r hr => ?_)
    rw [e1, e2] at h
    rcases h with h | h | h
    · exact absurd (hiff.mp h) g
    · exact absurd h (ix_not (by omega) q1)
    · exact absurd h (ix_not (by omega) q2)
  · refine sp_mcompare hn hN2 (fun h => ?_) (fun g' i2 j2 w1 w2 e3 e4 r' hr' => go _ _ ?_)
    · rw [e1, e2] at h
      rcases h with h | h | h
      · exact absurd (hiff.mpr h) g
      · exact absurd h (ix_not (by omega) q1)
      · exact absurd h (ix_not (by omega) q2)
    · rw [e1] at e3
      rw [e2] at e4
      have z1 := (nI_eq (show i1 < 2 ^ 31 by omega) (show i2 < 2 ^ 31 by omega)).mp e3
      have z2 := (nI_eq (show j1 < 2 ^ 31 by omega) (show j2 < 2 ^ 31 by omega)).mp e4
      subst z1; subst z2
      rcases hr with ⟨h1, e5⟩ | ⟨h1, e5⟩ | ⟨h1, e5⟩ <;> rcases hr' with ⟨h2, e6⟩ | ⟨h2, e6⟩ | ⟨h2, e6⟩ <;> first | (rw [e5, e6]; done) | (exfalso; omega)
theorem lc_352 (hK : ∀ (v_wo : Int32) (v_rs : Int32) (v_cs : Int32) (f_cw : Nat → Int32) (f_cl : Nat → Int32) (f_cp : Nat → Int32) (f_ce : Nat → Int32) (v_es : Int32) (v_ed : Int64) (v_rp : Int64) (f_ec : Nat → Int32) (f_ea : Nat → Int64) (f_kb : Nat → Int32) (f_kg : Nat → Int32) (f_ta : Nat → Int32) (f_tb : Nat → Int32) (f_to : Nat → Int32) (f_tw : Nat → Int32) (v_pl : Int32) (f_pt : Nat → Int32) (f_s : Nat → Int32) (v_thrown : Int32) (v_n : Int32) (v_has : Int32) (v_known : Int32) (v_many : Int32) (v_printed : Int32) (f_wholes : Nat → Int32) (f_parts : Nat → Int32) (f_known31 : Nat → Int64) (f_primes : Nat → Int64) (f_rests : Nat → Int64) (f_rows : Nat → Int64) (f_digits : Nat → Int64) (f_z : Nat → Int32) (f_out : Nat → Int32) (f_open : Nat → Int32) (f_o : Nat → Int64) (f_ab : Nat → Nat → Int32), jv v_wo v_rs v_cs f_cw f_cl f_cp f_ce v_es v_ed v_rp f_ec f_ea f_kb f_kg f_ta f_tb f_to f_tw v_pl f_pt f_s v_thrown v_n v_has v_known v_many v_printed f_wholes f_parts f_known31 f_primes f_rests f_rows f_digits f_z f_out f_open f_o f_ab → K (nI (i + 4)) v_wo v_rs v_cs f_cw f_cl f_cp f_ce v_es v_ed v_rp f_ec f_ea f_kb f_kg f_ta f_tb f_to f_tw v_pl f_pt f_s v_thrown v_n v_has v_known v_many v_printed f_wholes f_parts f_known31 f_primes f_rests f_rows f_digits f_z f_out f_open f_o f_ab) (hb : i + 4 ≤ v_L) (hL : v_L ≤ 2048) (hj : jv v_wo v_rs v_cs f_cw f_cl f_cp f_ce v_es v_ed v_rp f_ec f_ea f_kb f_kg f_ta f_tb f_to f_tw v_pl f_pt f_s v_thrown v_n v_has v_known v_many v_printed f_wholes f_parts f_known31 f_primes f_rests f_rows f_digits f_z f_out f_open f_o f_ab) : wp_Law_law_352 post v_L f_xs K (nI i) v_wo v_rs v_cs f_cw f_cl f_cp f_ce v_es v_ed v_rp f_ec f_ea f_kb f_kg f_ta f_tb f_to f_tw v_pl f_pt f_s v_thrown v_n v_has v_known v_many v_printed f_wholes f_parts f_known31 f_primes f_rests f_rows f_digits f_z f_out f_open f_o f_ab := by
  obtain ⟨n, M, a, c, L, rfl, rfl, rfl, rfl, rfl, hc, hm, hk, hLL, ht, hs⟩ := id hj
  have hn : n ≤ 40 := hc.1.2
  have b1 : vp_in (nI i + 1) v_L := by rw [show (1 : Int32) = nI 1 from rfl, nI_add]; exact vp_in_nI (by omega) (by omega)
  have b2 : vp_in (nI i + 2) v_L := by rw [show (2 : Int32) = nI 2 from rfl, nI_add]; exact vp_in_nI (by omega) (by omega)
  have b3 : vp_in (nI i + 3) v_L := by rw [show (3 : Int32) = nI 3 from rfl, nI_add]; exact vp_in_nI (by omega) (by omega)
  unfold wp_Law_law_352
  generalize f_xs (nI i + 1).toNatClampNeg = x
  refine ⟨b1, ?_⟩
  by_cases hno : v_wo = 0 ∨ x < 0 ∨ nI n ≤ x
  · have hno2 : v_has = 0 ∨ x < 0 ∨ nI n ≤ x := by
      rcases hno with h | h
      · rcases hs with ⟨_, h2⟩ | ⟨h2, _⟩
        · exact Or.inl h2
        · rw [h2] at h
          exact absurd h (by decide)
      · exact Or.inr h
    refine sp_dbill_no hn hno ⟨b1, sp_mbill_no hn hno2 ?_⟩
    exact ⟨fun _ => l414 hK ⟨n, M, a, c, L, rfl, rfl, rfl, rfl, rfl, hc, hm, hk, hLL, ht, hs⟩, fun q => absurd rfl q⟩
  · rcases hs with ⟨h, _⟩ | ⟨rfl, rfl, hns, hw, D, N, hsol, hkb, hz, hN, hr⟩
    · exact absurd (Or.inl h) hno
    · rcases ix_cases n (by omega) x with ⟨k, q1, e⟩ | h
      · subst e
        clear hno
        have hD := sol480 hsol hw
        refine sp_dbill hn q1 (by decide) hkb (hN k q1).1 (hsol.2.2.2.1 k q1) hsol.1 hD (fun fs' => ⟨b1, ?_⟩)
        refine sp_mbill hn q1 (by decide) (hN k q1).2 hz (hsol.2.2.2.1 k q1) hsol.1 hD (fun z' g7 => ?_)
        exact ⟨fun _ => l414 hK ⟨n, M, a, c, L, rfl, rfl, rfl, rfl, rfl, hc, hm, hk, hLL, ht, Or.inr ⟨rfl, rfl, hns, hw, D, N, hsol, hkb, rq_kp (by omega) g7 hz, fun i hi => ⟨(hN i hi).1, rq_kp (by omega) g7 (hN i hi).2⟩, hr⟩⟩, fun q => absurd rfl q⟩
      · exact absurd (Or.inr h) hno
theorem lc_377 (hK : ∀ (v_wo : Int32) (v_rs : Int32) (v_cs : Int32) (f_cw : Nat → Int32) (f_cl : Nat → Int32) (f_cp : Nat → Int32) (f_ce : Nat → Int32) (v_es : Int32) (v_ed : Int64) (v_rp : Int64) (f_ec : Nat → Int32) (f_ea : Nat → Int64) (f_kb : Nat → Int32) (f_kg : Nat → Int32) (f_ta : Nat → Int32) (f_tb : Nat → Int32) (f_to : Nat → Int32) (f_tw : Nat → Int32) (v_pl : Int32) (f_pt : Nat → Int32) (f_s : Nat → Int32) (v_thrown : Int32) (v_n : Int32) (v_has : Int32) (v_known : Int32) (v_many : Int32) (v_printed : Int32) (f_wholes : Nat → Int32) (f_parts : Nat → Int32) (f_known31 : Nat → Int64) (f_primes : Nat → Int64) (f_rests : Nat → Int64) (f_rows : Nat → Int64) (f_digits : Nat → Int64) (f_z : Nat → Int32) (f_out : Nat → Int32) (f_open : Nat → Int32) (f_o : Nat → Int64) (f_ab : Nat → Nat → Int32), jv v_wo v_rs v_cs f_cw f_cl f_cp f_ce v_es v_ed v_rp f_ec f_ea f_kb f_kg f_ta f_tb f_to f_tw v_pl f_pt f_s v_thrown v_n v_has v_known v_many v_printed f_wholes f_parts f_known31 f_primes f_rests f_rows f_digits f_z f_out f_open f_o f_ab → K (nI (i + 4)) v_wo v_rs v_cs f_cw f_cl f_cp f_ce v_es v_ed v_rp f_ec f_ea f_kb f_kg f_ta f_tb f_to f_tw v_pl f_pt f_s v_thrown v_n v_has v_known v_many v_printed f_wholes f_parts f_known31 f_primes f_rests f_rows f_digits f_z f_out f_open f_o f_ab) (hb : i + 4 ≤ v_L) (hL : v_L ≤ 2048) (hj : jv v_wo v_rs v_cs f_cw f_cl f_cp f_ce v_es v_ed v_rp f_ec f_ea f_kb f_kg f_ta f_tb f_to f_tw v_pl f_pt f_s v_thrown v_n v_has v_known v_many v_printed f_wholes f_parts f_known31 f_primes f_rests f_rows f_digits f_z f_out f_open f_o f_ab) : wp_Law_law_377 post v_L f_xs K (nI i) v_wo v_rs v_cs f_cw f_cl f_cp f_ce v_es v_ed v_rp f_ec f_ea f_kb f_kg f_ta f_tb f_to f_tw v_pl f_pt f_s v_thrown v_n v_has v_known v_many v_printed f_wholes f_parts f_known31 f_primes f_rests f_rows f_digits f_z f_out f_open f_o f_ab := by
  obtain ⟨n, M, a, c, L, rfl, rfl, rfl, rfl, rfl, hc, hm, hk, hLL, ht, hs⟩ := id hj
  have hn : n ≤ 40 := hc.1.2
  have b1 : vp_in (nI i + 1) v_L := by rw [show (1 : Int32) = nI 1 from rfl, nI_add]; exact vp_in_nI (by omega) (by omega)
  have b2 : vp_in (nI i + 2) v_L := by rw [show (2 : Int32) = nI 2 from rfl, nI_add]; exact vp_in_nI (by omega) (by omega)
  have b3 : vp_in (nI i + 3) v_L := by rw [show (3 : Int32) = nI 3 from rfl, nI_add]; exact vp_in_nI (by omega) (by omega)
  unfold wp_Law_law_377
  generalize f_xs (nI i + 1).toNatClampNeg = x
  generalize f_xs (nI i + 2).toNatClampNeg = y
  refine ⟨b1, b2, ?_⟩
  by_cases hno : v_wo = 0 ∨ x < 0 ∨ nI n ≤ x
  · have hno2 : v_has = 0 ∨ x < 0 ∨ nI n ≤ x := by
      rcases hno with h | h
      · rcases hs with ⟨_, h2⟩ | ⟨h2, _⟩
        · exact Or.inl h2
        · rw [h2] at h
          exact absurd h (by decide)
      · exact Or.inr h
    refine sp_dplaces_no hn hno ⟨b1, b2, sp_mplaces_no hn hno2 ?_⟩
    exact ⟨fun _ => l414 hK ⟨n, M, a, c, L, rfl, rfl, rfl, rfl, rfl, hc, hm, hk, hLL, ht, hs⟩, fun q => absurd rfl q⟩
  · rcases hs with ⟨h, _⟩ | ⟨rfl, rfl, hns, hw, D, N, hsol, hkb, hz, hN, hr⟩
    · exact absurd (Or.inl h) hno
    · rcases ix_cases n (by omega) x with ⟨k, q1, e⟩ | h
      · subst e
        clear hno
        have hD := sol480 hsol hw
        have keep : ∀ {rs' : Int32} {ta' tb' : Nat → Int32} {z' : Nat → Int32}, (∀ s, s < 902 → z' s = f_z s) → (∀ i, i < n → rs' = nI i → rp ta' (N i / Nat.gcd (N i) D) ∧ rp tb' (D / Nat.gcd (N i) D)) → js n M a 1 rs' f_kb ta' tb' 1 z' f_ab := fun g7 h => Or.inr ⟨rfl, rfl, hns, hw, D, N, hsol, hkb, rq_kp (by omega) g7 hz, fun i hi => ⟨(hN i hi).1, rq_kp (by omega) g7 (hN i hi).2⟩, h⟩
        by_cases hy : y < 0 ∨ ¬ y ≤ 1
        · refine sp_dplaces_y hn hy ⟨b1, b2, sp_mplaces_y hn hy ?_⟩
          exact ⟨fun _ => l414 hK ⟨n, M, a, c, L, rfl, rfl, rfl, rfl, rfl, hc, hm, hk, hLL, ht, keep (fun _ _ => rfl) hr⟩, fun q => absurd rfl q⟩
        · refine sp_dplaces hn q1 (by decide) hkb (hN k q1).1 (hsol.2.2.2.1 k q1) hsol.1 hD (hr k q1) (fun h => absurd h hy) (fun ta' tb' to' tw' g2 g3 => ?_)
          have hr2 : ∀ i, i < n → nI k = nI i → rp ta' (N i / Nat.gcd (N i) D) ∧ rp tb' (D / Nat.gcd (N i) D) := fun i hi e => by
            have e3 := (nI_eq (show k < 2 ^ 31 by omega) (show i < 2 ^ 31 by omega)).mp e
            subst e3
            exact ⟨g2, g3⟩
          refine ⟨fun e => ⟨b1, b2, ?_⟩, fun e => ⟨b1, b2, ?_⟩⟩
          · refine sp_mplaces hn q1 (hN k q1).2 hz (hsol.2.2.2.1 k q1) hsol.1 hD (fun h => absurd h hy) (fun q => absurd q (by decide)) (fun _ z' g7 => ?_) (fun e2 => absurd e e2)
            exact ⟨fun _ => l414 hK ⟨n, M, a, c, L, rfl, rfl, rfl, rfl, rfl, hc, hm, hk, hLL, ht, keep g7 hr2⟩, fun q => absurd rfl q⟩
          · refine sp_mplaces hn q1 (hN k q1).2 hz (hsol.2.2.2.1 k q1) hsol.1 hD (fun h => absurd h hy) (fun q => absurd q (by decide)) (fun e2 => absurd e2 e) (fun _ z' g7 => ?_)
            exact ⟨fun _ => l414 hK ⟨n, M, a, c, L, rfl, rfl, rfl, rfl, rfl, hc, hm, hk, hLL, ht, keep g7 hr2⟩, fun q => absurd rfl q⟩
      · exact absurd (Or.inr h) hno
end
