/-! pure: the likelihoods, put together from their remainders -/
theorem sp_joinOne {p P T iv d : Nat} {es : Int32} {ed : Int64} {ec kg t : Nat → Int32} {ea : Nat → Int64} {post : (Nat → Int32) → Prop} (h1 : 1 < p) (hp : p < 2147483648) (hP : 0 < P) (hbP : bn P) (hcop : Nat.Coprime P p) (hi : P % p * iv % p = 1) (hiv : iv < p) (hd : d = T % p) (hkg : rp kg P) (ht : rp t (T % P)) (hpost : ∀ f', rp f' (T % (P * p)) → post f') : wp_Likelihoods_joinOne post es ed (lN p) ec ea kg (lN d) (lN iv) t := by
  have hdp : d < p := by rw [hd]; exact Nat.mod_lt _ (by omega)
  have hxP : T % P < P := Nat.mod_lt _ hP
  have hxp : T % P % p < p := Nat.mod_lt _ (by omega)
  unfold wp_Likelihoods_joinOne
  refine sp_remainder ht (bn_le hbP (by omega)) (by omega) hp ?_
  refine sp_minus hp hdp hxp ?_
  have hg := Nat.mod_lt (d + p - T % P % p) (show 0 < p by omega)
  refine sp_times (by omega) hp (by omega) (by omega) ?_
  have hc := Nat.mod_lt ((d + p - T % P % p) % p * iv) (show 0 < p by omega)
  refine sp_addMultiple ht hkg (by omega) (fun f' hf' => ?_)
  have e : T % P + P * ((d + p - T % P % p) % p * iv % p) = T % (P * p) := by
    refine cr_one hP hcop rfl hc ?_
    have hgap : (T % P % p + (d + p - T % P % p) % p) % p = T % p := by
      rw [Nat.add_mod_mod, show T % P % p + (d + p - T % P % p) = d + p by omega, Nat.add_mod_right, hd, Nat.mod_mod]
    exact cr_gap (due := T) hgap hi
  rw [e] at hf'
  exact hpost f' hf'
theorem sp_join {n p P D : Nat} {N x : Nat → Nat} {es : Int32} {d : Nat} {ec kg kb : Nat → Int32} {ea : Nat → Int64} {ab : Nat → Nat → Int32} {post : (Nat → Int32) → (Nat → Nat → Int32) → Prop} (hn : n ≤ 40) (hpr : pr_ p) (hp : p < 2147483648) (hP : 0 < P) (hbP : bn P) (hcop : Nat.Coprime P p) (hd : d = D % p) (hx : ∀ i, i < n → ea i = lN (x i) ∧ x i < p ∧ d * x i % p = N i % p)
    (hkg : rp kg P) (hkb : rp kb (D % P)) (hab : ∀ i, i < n → rp (ab i) (N i % P)) (hpost : ∀ kb' ab', rp kb' (D % (P * p)) → (∀ i, i < n → rp (ab' i) (N i % (P * p))) → post kb' ab') : wp_Likelihoods_join post es (lN d) (lN p) ec ea kg (nI n) kb ab := by
  have h1 := hpr.1
  have hdp : d < p := by rw [hd]; exact Nat.mod_lt _ (by omega)
  have hPp : P % p < p := Nat.mod_lt _ (by omega)
  have hne : ¬ P % p = 0 := fun q => by
    have hdv : p ∣ P := Nat.dvd_of_mod_eq_zero q
    have h2 : p ∣ Nat.gcd P p := Nat.dvd_gcd hdv (Nat.dvd_refl p)
    rw [hcop] at h2
    have := Nat.le_of_dvd (by omega) h2
    omega
  have hi := fe_piv hpr hPp hne
  have hiv : (P % p) ^ (p - 2) % p < p := Nat.mod_lt _ (by omega)
  unfold wp_Likelihoods_join
  refine sp_remainder hkg hbP (by omega) hp (sp_inverse (by omega) hp hPp ?_)
  refine sp_joinOne (by omega) hp hP hbP hcop hi hiv hd hkg hkb (fun kb' hkb' => ?_)
  have main : ∀ (m i : Nat) (ab : Nat → Nat → Int32), i + m = n → (∀ r, r < n → rp (ab r) (if r < i then N r % (P * p) else N r % P)) → wp_Likelihoods_join_43 post es (lN d) (lN p) ec ea kg (m + 1) (nI n) (lN ((P % p) ^ (p - 2) % p)) (nI i) kb' ab := by
    intro m
    induction m with
    | zero =>
      intro i ab hi2 h
      unfold wp_Likelihoods_join_43
      refine ⟨fun _ => hpost kb' ab hkb' (fun r hr => ?_), fun c => absurd (nI_le (by omega) (by omega)) c⟩
      have := h r hr
      rw [if_pos (by omega)] at this
      exact this
    | succ m ih =>
      intro i ab hi2 h
      obtain ⟨x1, x2, x3⟩ := hx i (by omega)
      unfold wp_Likelihoods_join_43
      refine ⟨fun c => absurd ((nI_leI (by omega) (by omega)).mp c) (by omega), fun _ => ⟨i40 (by omega), ?_⟩⟩
      rw [ic (by omega), x1]
      refine sp_times (by omega) hp (by omega) (by omega) ⟨i40 (by omega), ?_⟩
      have h3 := h i (by omega)
      rw [if_neg (by omega)] at h3
      refine sp_joinOne (by omega) hp hP hbP hcop hi hiv x3 hkg h3 (fun f' hf' => ?_)
      intro y ey
      rw [ey, nI_1]
      refine ih (i + 1) _ (by omega) (fun r hr => ?_)
      by_cases q : r = i
      · rw [q, if_pos (by omega)]
        unfold va_up
        rw [if_pos rfl]
        exact hf'
      · have h4 := h r hr
        unfold va_up
        rw [if_neg q]
        by_cases q2 : r < i
        · rw [if_pos q2] at h4
          rw [if_pos (by omega)]
          exact h4
        · rw [if_neg q2] at h4
          rw [if_neg (by omega)]
          exact h4
  exact ⟨n + 1, main n 0 ab (by omega) (fun r hr => by rw [if_neg (by omega)]; exact hab r hr)⟩
theorem sp_clear {n : Nat} {es : Int32} {ed rp' : Int64} {ec kb kg : Nat → Int32} {ea : Nat → Int64} {ab : Nat → Nat → Int32} {post : (Nat → Int32) → (Nat → Int32) → (Nat → Nat → Int32) → Prop} (hn : n ≤ 40) (hpost : ∀ kb' kg' ab', rp kb' 0 → rp kg' 1 → (∀ i, i < n → rp (ab' i) 0) → post kb' kg' ab') : wp_Likelihoods_clear post es ed rp' ec ea (nI n) kb kg ab := by
  have main : ∀ (m i : Nat) (ab : Nat → Nat → Int32), i + m = n → (∀ r, r < i → rp (ab r) 0) → wp_Likelihoods_clear_2 post es ed rp' ec ea (m + 1) (nI n) (nI i) kb kg ab := by
    intro m
    induction m with
    | zero =>
      intro i ab hi h
      unfold wp_Likelihoods_clear_2
      refine ⟨fun _ => ?_, fun c => absurd (nI_le (by omega) (by omega)) c⟩
      exact sp_set (v := 0) (by omega) (fun u2 h2 => sp_set (v := 1) (by omega) (fun u3 h3 => hpost _ _ _ h2 h3 (fun r hr => h r (by omega))))
    | succ m ih =>
      intro i ab hi h
      unfold wp_Likelihoods_clear_2
      refine ⟨fun c => absurd ((nI_leI (by omega) (by omega)).mp c) (by omega), fun _ => ⟨i40 (by omega), ?_⟩⟩
      refine sp_set (v := 0) (by omega) (fun u6 h6 => ?_)
      intro y ey
      rw [ey, nI_1, ic (by omega)]
      refine ih (i + 1) _ (by omega) (fun r hr => ?_)
      by_cases q : r = i
      · rw [q]
        unfold va_up
        rw [if_pos rfl]
        exact h6
      · unfold va_up
        rw [if_neg q]
        exact h r (by omega)
  exact ⟨n + 1, main n 0 ab (by omega) (fun r hr => absurd hr (by omega))⟩
theorem pw_le (a b : Nat) (h : 2 ^ a ≤ 2 ^ b) : a ≤ b := by
  rcases Nat.lt_or_ge b a with q | q
  · have := wb_lt2 q
    omega
  · exact q
theorem sp_workOut {n D : Nat} {M : Nat → Nat} {a : Nat → Nat → Nat} {N : Nat → Nat} {fw fl fp fe : Nat → Int32} {es : Int32} {ed rp' : Int64} {ec kb kg : Nat → Int32} {ea : Nat → Int64} {ab : Nat → Nat → Int32} {post : Int32 → Int64 → Int64 → (Nat → Int32) → (Nat → Int64) → (Nat → Int32) → (Nat → Int32) → (Nat → Nat → Int32) → Prop}
    (hc : ckr n M a fw fl fp) (hw : sn (fun i => wt (M i)) n ≤ 480) (hs : sol n M a D N) (hpost : ∀ es' ed' rp'' ec' ea' kb' kg' ab', rp kb' D → (∀ i, i < n → rp (ab' i) (N i)) → post es' ed' rp'' ec' ea' kb' kg' ab') : wp_Likelihoods_workOut post (nI n) fw fl fp fe es ed rp' ec ea kb kg ab := by
  obtain ⟨⟨hn1, hn⟩, hc2⟩ := id hc
  obtain ⟨s1, s2, s3, s4, s5⟩ := hs
  have hwpos : 1 ≤ sn (fun i => wt (M i)) n := by
    have h1 := sn_mem (f := fun i => wt (M i)) n 0 (by omega)
    have h2 := (wt_spec (hc2 0 (by omega)).2.1.1).1
    have h3 : wt (M 0) ≠ 0 := fun q => by rw [q] at h2; have := (hc2 0 (by omega)).2.1.1; omega
    have h1' : wt (M 0) ≤ sn (fun i => wt (M i)) n := h1
    omega
  generalize hwe : sn (fun i => wt (M i)) n = w at hw s2 hwpos
  have l32 : ∀ {k : Nat}, k < 2 ^ 31 → ((32 : Int32) ≤ nI k ↔ 32 ≤ k) := fun h => nI_leI (a := 32) (by decide) h
  have fin : ∀ (u P : Nat) (es' : Int32) (ed' rp'' : Int64) (ec' : Nat → Int32) (ea' : Nat → Int64) (kb' kg' : Nat → Int32) (ab' : Nat → Nat → Int32), w ≤ 30 * u → (0 < u → 2 ^ (30 * u) < P) → rp kb' (D % P) → (∀ i, i < n → rp (ab' i) (N i % P)) → wp_Likelihoods_workOut_80 post (nI n) fw fl fp fe es' ed' rp'' ec' ea' kb' kg' ab' := by
    intro u P es' ed' rp'' ec' ea' kb' kg' ab' hu hP h1 h2
    have hu0 : 0 < u := by omega
    have h3 : 2 ^ w ≤ 2 ^ (30 * u) := Nat.pow_le_pow_right (by omega) hu
    have h4 := hP hu0
    unfold wp_Likelihoods_workOut_80
    rw [Nat.mod_eq_of_lt (by omega)] at h1
    refine hpost _ _ _ _ _ _ _ _ h1 (fun i hi => ?_)
    have h5 := h2 i hi
    rw [Nat.mod_eq_of_lt (by have := s4 i hi; omega)] at h5
    exact h5
  have main : ∀ (m k u s P Sk : Nat) (es : Int32) (ed rp' : Int64) (ec : Nat → Int32) (ea : Nat → Int64) (kb kg : Nat → Int32) (ab : Nat → Nat → Int32), k + m = 32 → u + s = k → u ≤ 16 → 0 < P → P ≤ 2147483648 ^ u → (u = 0 → P = 1) → (0 < u → 2 ^ (30 * u) < P) → (∀ j, k ≤ j → j < 32 → Nat.Coprime P (pm_ j)) → Sk ∣ D → 2 ^ (30 * s) ≤ Sk → (∀ j, k ≤ j → j < 32 → Nat.Coprime Sk (pm_ j)) → rp kg P → rp kb (D % P) → (∀ i, i < n → rp (ab i) (N i % P)) →
      wp_Likelihoods_workOut_18 post (nI n) fw fl fp fe (m + 1) (nI w) (nI (30 * u)) (nI k) es ed rp' ec ea kb kg ab := by
    intro m
    induction m with
    | zero =>
      intro k u s P Sk es ed rp' ec ea kb kg ab hk hus hu16 hP hPu hP1 hPl hcop hSk hSl hSc hkg hkb hab
      unfold wp_Likelihoods_workOut_18
      refine ⟨fun _ => ?_, fun c => absurd ((l32 (by omega)).mpr (by omega)) c⟩
      have h1 : Sk ≤ D := Nat.le_of_dvd s1 hSk
      have h2 : 2 ^ w ≤ 2 ^ 480 := Nat.pow_le_pow_right (by omega) hw
      have h3 := pw_le (30 * s) 480 (by omega)
      exact fin u P es ed rp' ec ea kb kg ab (by omega) hPl hkb hab
    | succ m ih =>
      intro k u s P Sk es ed rp' ec ea kb kg ab hk hus hu16 hP hPu hP1 hPl hcop hSk hSl hSc hkg hkb hab
      unfold wp_Likelihoods_workOut_18
      refine ⟨fun c => absurd ((l32 (by omega)).mp c) (by omega), fun _ => ⟨fun c => fin u P es ed rp' ec ea kb kg ab ((nI_leI (by omega) (by omega)).mp c) hPl hkb hab, fun c => ?_⟩⟩
      have huw : 30 * u < w := by
        rcases Nat.lt_or_ge (30 * u) w with q | q
        · exact q
        · exact absurd (nI_le q (by omega)) c
      have hk32 : k < 32 := by omega
      obtain ⟨p1, p2, -⟩ := pm_lt k hk32
      have hpr := pm_pr k hk32
      have ek : (nI k).toNatClampNeg = k := ic (by omega)
      rw [ek]
      have hv : vp_in (nI k) 32 := vp_in_nI hk32 (by decide)
      have back : ∀ (u' s' P' Sk' : Nat) (es : Int32) (ed rp' : Int64) (ec : Nat → Int32) (ea : Nat → Int64) (kb kg : Nat → Int32) (ab : Nat → Nat → Int32), u' + s' = k + 1 → u' ≤ 16 → 0 < P' → P' ≤ 2147483648 ^ u' → (u' = 0 → P' = 1) → (0 < u' → 2 ^ (30 * u') < P') → (∀ j, k + 1 ≤ j → j < 32 → Nat.Coprime P' (pm_ j)) → Sk' ∣ D → 2 ^ (30 * s') ≤ Sk' → (∀ j, k + 1 ≤ j → j < 32 → Nat.Coprime Sk' (pm_ j)) → rp kg P' → rp kb (D % P') → (∀ i, i < n → rp (ab i) (N i % P')) → wp_Likelihoods_workOut_74 post (nI n) fw fl fp fe (wp_Likelihoods_workOut_18 post (nI n) fw fl fp fe (m + 1)) (nI w) (nI (30 * u')) (nI k) es ed rp' ec ea kb kg ab := by
        intro u' s' P' Sk' es ed rp' ec ea kb kg ab g1 g2 g3 g4 g5 g6 g7 g8 g9 g10 g11 g12 g13
        unfold wp_Likelihoods_workOut_74
        intro x ex
        rw [ex, nI_1]
        exact ih (k + 1) u' s' P' Sk' es ed rp' ec ea kb kg ab (by omega) g1 g2 g3 g4 g5 g6 g7 g8 g9 g10 g11 g12 g13
      refine ⟨hv, sp_answerBy (N := fun i => (N i : Int)) hpr (by omega) hn1 hn (fun i hi => ⟨(hc2 i hi).1, ?_⟩) (fun i j hi hj => ⟨(hc2 i hi).2.2.2.2 j hj, ?_⟩) s5 (fun d x f' g' hd hcd hx => ⟨fun q => absurd q (by decide), fun _ => ?_⟩) (fun ed' f' g' hdv => ⟨fun _ => ?_, fun q => absurd rfl q⟩)⟩
      · have := (hc2 i hi).2.1.2
        omega
      · have := ck_a hc hi hj
        omega
      · have hbP : bn P := by
          have h1 : 2147483648 ^ u < 2147483648 ^ 16 := Nat.pow_lt_pow_right (by omega) (by omega)
          exact Nat.lt_of_le_of_lt hPu h1
        have hdD : d = D % pm_ k := by
          rw [s3] at hcd
          have h1 := nat_cg hcd
          rw [Nat.mod_eq_of_lt hd] at h1
          exact h1.symm
        have hPk := hcop k (Nat.le_refl k) hk32
        refine sp_join (N := N) (x := x) hn hpr (by omega) hP hbP hPk hdD (fun i hi => ?_) hkg hkb hab (fun kb' ab' hkb' hab' => ⟨hv, ?_⟩)
        · obtain ⟨y1, y2, y3⟩ := hx i hi
          refine ⟨y1, y2, ?_⟩
          have h1 : cg (pm_ k) ((d * x i : Nat) : Int) (N i : Int) := by
            rw [Int.natCast_mul]
            exact cg_tr (cg_mul (cg_sy hcd) (cg_rf _ _)) (cg_sy y3)
          exact nat_cg h1
        · rw [nI_l (by omega)]
          refine sp_multiply hkg p2 (fun kg' hkg' => ?_)
          intro y ey
          have e30 : y = nI (30 * (u + 1)) := by
            have e3 : (30 : Int32) = nI 30 := rfl
            rw [ey, e3, nI_add]
            congr 1
          rw [e30]
          refine back (u + 1) s (P * pm_ k) Sk _ _ _ _ _ _ _ _ (by omega) (by omega) (Nat.mul_pos hP (by omega)) ?_ (fun q => absurd q (by omega)) (fun _ => ?_) (fun j hj hj2 => ?_) hSk hSl (fun j hj hj2 => hSc j (by omega) hj2) hkg' hkb' hab'
          · rw [Nat.pow_succ]
            exact Nat.mul_le_mul hPu (by omega)
          · have e4 : 2 ^ (30 * (u + 1)) = 2 ^ (30 * u) * 1073741824 := by rw [Nat.mul_add, Nat.pow_add]
            rw [e4]
            have h2 : 2 ^ (30 * u) ≤ P := by
              rcases Nat.eq_zero_or_pos u with q | q
              · subst q; simp; omega
              · exact Nat.le_of_lt (hPl q)
            exact Nat.mul_lt_mul_of_le_of_lt h2 p1 hP
          · exact Nat.Coprime.mul_left (hcop j (by omega) hj2) (pm_cop hk32 hj2 (by omega))
      · have hdv2 : pm_ k ∣ D := by
          rw [s3] at hdv
          exact Int.ofNat_dvd.mp hdv
        refine back u (s + 1) P (Sk * pm_ k) _ _ _ _ _ _ _ _ (by omega) hu16 hP hPu hP1 hPl (fun j hj hj2 => hcop j (by omega) hj2) (Nat.Coprime.mul_dvd_of_dvd_of_dvd (hSc k (Nat.le_refl k) hk32) hSk hdv2) ?_ (fun j hj hj2 => Nat.Coprime.mul_left (hSc j (by omega) hj2) (pm_cop hk32 hj2 (by omega))) hkg hkb hab
        have e4 : 2 ^ (30 * (s + 1)) = 2 ^ (30 * s) * 1073741824 := by rw [Nat.mul_add, Nat.pow_add]
        rw [e4]
        exact Nat.mul_le_mul hSl (by omega)
  unfold wp_Likelihoods_workOut
  refine sp_clear hn (fun kb' kg' ab' h1 h2 h3 => sp_weight hn (fun i hi => ⟨(hc2 i hi).1, (hc2 i hi).2.1⟩) ?_)
  rw [hwe]
  refine ⟨33, main 32 0 0 0 1 1 _ _ _ _ _ _ _ _ rfl rfl (by omega) (by omega) (by simp) (fun _ => rfl) (fun q => absurd q (by omega)) (fun j _ _ => Nat.coprime_one_left _) (Nat.one_dvd D) (by simp) (fun j _ _ => Nat.coprime_one_left _) h2 ?_ (fun i hi => ?_)⟩
  · rw [Nat.mod_one]; exact h1
  · rw [Nat.mod_one]; exact h3 i hi
