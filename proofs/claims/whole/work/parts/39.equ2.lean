/-! pure: the equations by one prime: load, answers, the whole -/
theorem i40 {k : Nat} (h : k < 40) : vp_in (nI k) 40 := vp_in_nI h (by decide)
theorem sp_load {p n : Nat} {M : Nat → Nat} {a : Nat → Nat → Nat} {f fw fl fp fe : Nat → Int32} {g : Nat → Int64} {ed : Int64} {post : (Nat → Int32) → Prop} (hp : p < 2147483648) (hn : n ≤ 40) (h0 : 0 < p) (hM : ∀ i, i < n → fw i = nI (M i) ∧ M i < p) (ha : ∀ i j, i < n → j ≤ n → fp (i * 41 + j) = nI (a i j) ∧ a i j < p)
    (hpost : ∀ f', mx n f' (fun i j => if j = n then a i n else ((if i = j then M i else 0) + p - a i j) % p) → post f') : wp_Equations_load post (nI n) ed (lN p) g (nI n) fw fl fp fe f := by
  have inner : ∀ (i : Nat) (K : Int32 → (Nat → Int32) → Prop), i < n → (∀ f', mx n f' (fun r c => if r ≤ i then (if c = n then a r n else ((if r = c then M r else 0) + p - a r c) % p) else 0) → K (nI (i + 1)) f') →
      ∀ (m j : Nat) (f : Nat → Int32), j + m = n → (∀ r c, r < n → c ≤ n → (r < i ∨ (r = i ∧ c < j)) → f (r * 41 + c) = nI (if c = n then a r n else ((if r = c then M r else 0) + p - a r c) % p)) → (∀ f', (∀ r c, r < n → c ≤ n → r ≤ i → f' (r * 41 + c) = nI (if c = n then a r n else ((if r = c then M r else 0) + p - a r c) % p)) → K (nI (i + 1)) f') →
      wp_Equations_load_12 post (nI n) ed (lN p) g (nI n) fw fl fp fe K (m + 1) (nI i) (nI j) f := by
    intro i K hi _ m
    induction m with
    | zero =>
      intro j f hj hf hK
      have ej : j = n := by omega
      subst ej
      unfold wp_Equations_load_12
      refine ⟨fun _ => ?_, fun c => absurd (nI_le (by omega) (by omega)) c⟩
      rw [i41, c41 (by omega) (by omega), (ha i j hi (by omega)).1]
      refine ⟨v41 (by omega) (by omega), v41 (by omega) (by omega), fun x ex => ?_⟩
      rw [ex, nI_1]
      refine hK _ (fun r c hr hc hri => ?_)
      by_cases q : r = i ∧ c = j
      · rw [q.1, q.2, pk_us, if_pos rfl]
      · rw [pk_un (ne41 (by omega) (by omega) q)]
        refine hf r c hr hc ?_
        by_cases q2 : r = i
        · exact Or.inr ⟨q2, by have : c ≠ j := fun w => q ⟨q2, w⟩; omega⟩
        · exact Or.inl (by omega)
    | succ m ih =>
      intro j f hj hf hK
      have put : ∀ due : Nat, due < p → due = (if i = j then M i else 0) → wp_Equations_load_36 post (nI n) ed (lN p) g (nI n) fw fl fp fe K (wp_Equations_load_12 post (nI n) ed (lN p) g (nI n) fw fl fp fe K (m + 1)) (nI i) (nI j) (lN due) f := by
        intro due hdue edue
        unfold wp_Equations_load_36
        rw [i41, c41 (by omega) (by omega), (ha i j hi (by omega)).1]
        have h2 := (ha i j hi (by omega)).2
        refine ⟨v41 (by omega) (by omega), ?_⟩
        rw [nI_l (by omega)]
        refine sp_minus hp hdue h2 ⟨v41 (by omega) (by omega), fun x ex => ?_⟩
        rw [ex, nI_1, lN_i]
        refine ih (j + 1) _ (by omega) (fun r c hr hc hrc => ?_) hK
        by_cases q : r = i ∧ c = j
        · rw [q.1, q.2, pk_us, if_neg (by omega), ← edue]
        · rw [pk_un (ne41 (by omega) (by omega) q)]
          refine hf r c hr hc ?_
          rcases hrc with w | w
          · exact Or.inl w
          · exact Or.inr ⟨w.1, by have : c ≠ j := fun z => q ⟨w.1, z⟩; omega⟩
      unfold wp_Equations_load_12
      refine ⟨fun c => absurd ((nI_leI (by omega) (by omega)).mp c) (by omega), fun _ => ⟨fun e => ⟨i40 (by omega), ?_⟩, fun e => ?_⟩⟩
      · have e' := (nI_eq (by omega) (by omega)).mp e
        rw [ic (by omega), (hM i hi).1, nI_l (by have := (hM i hi).2; omega)]
        exact put (M i) (hM i hi).2 (by rw [if_pos e'])
      · have e' : ¬ i = j := fun q => e (by rw [q])
        exact put 0 h0 (by rw [if_neg e'])
  have outer : ∀ (m i : Nat) (f : Nat → Int32), i + m = n → (∀ r c, r < n → c ≤ n → r < i → f (r * 41 + c) = nI (if c = n then a r n else ((if r = c then M r else 0) + p - a r c) % p)) → wp_Equations_load_2 post (nI n) ed (lN p) g (nI n) fw fl fp fe (m + 1) (nI i) f := by
    intro m
    induction m with
    | zero =>
      intro i f hi hf
      unfold wp_Equations_load_2
      exact ⟨fun _ => hpost f (fun r c hr hc => hf r c hr hc (by omega)), fun c => absurd (nI_le (by omega) (by omega)) c⟩
    | succ m ih =>
      intro i f hi hf
      unfold wp_Equations_load_2
      refine ⟨fun c => absurd ((nI_leI (by omega) (by omega)).mp c) (by omega), fun _ => ⟨n + 1, ?_⟩⟩
      have hK : ∀ f', (∀ r c, r < n → c ≤ n → r ≤ i → f' (r * 41 + c) = nI (if c = n then a r n else ((if r = c then M r else 0) + p - a r c) % p)) → wp_Equations_load_2 post (nI n) ed (lN p) g (nI n) fw fl fp fe (m + 1) (nI (i + 1)) f' := fun f' h' => ih (i + 1) f' (by omega) (fun r c hr hc hri => h' r c hr hc (by omega))
      refine inner i _ (by omega) (fun f' h' => hK f' (fun r c hr hc hri => ?_)) n 0 f (by omega) (fun r c hr hc hrc => hf r c hr hc (by omega)) hK
      have := h' r c hr hc
      rw [this]
      dsimp only
      rw [if_pos hri]
  exact ⟨n + 1, outer n 0 f (by omega) (fun r c _ _ h => absurd h (by omega))⟩
theorem sp_answerOf {p n k : Nat} {f : Nat → Int32} {g : Nat → Int64} {C : Nat → Nat → Nat} {x : Nat → Nat} {ed : Int64} {post : Int64 → Prop} (h0 : 0 < p) (hp : p < 2147483648) (hn : n ≤ 40) (hk : k < n) (hC : mx n f C) (hb : ∀ i j, i < n → j ≤ n → C i j < p) (hg : ∀ j, k < j → j < n → g j = lN (x j) ∧ x j < p)
    (hpost : ∀ r, r < p → cg p (r : Int) ((C k n : Int) - su (fun j => if k < j then (C k j : Int) * (x j : Int) else 0) n) → post (lN r)) : wp_Equations_answerOf post (nI n) ed (lN p) f g (nI k) := by
  unfold wp_Equations_answerOf
  rw [i41, c41 (by omega) (by omega), hC k n hk (Nat.le_refl n)]
  have hkn := hb k n hk (Nat.le_refl n)
  refine ⟨v41 (by omega) (by omega), fun y ey z ez => ?_⟩
  rw [nI_l (by omega)] at ey
  rw [ey, ez, nI_1]
  have main : ∀ (m j s : Nat), j + m = n → k < j → s < p → cg p (s : Int) ((C k n : Int) - su (fun i => if k < i then (C k i : Int) * (x i : Int) else 0) j) → wp_Equations_answerOf_21 post (nI n) ed (lN p) f g (m + 1) (nI k) (lN s) (nI j) := by
    intro m
    induction m with
    | zero =>
      intro j s hj hkj hs hc
      have ej : j = n := by omega
      subst ej
      unfold wp_Equations_answerOf_21
      exact ⟨fun _ => hpost s hs hc, fun c => absurd (nI_le (by omega) (by omega)) c⟩
    | succ m ih =>
      intro j s hj hkj hs hc
      unfold wp_Equations_answerOf_21
      refine ⟨fun c => absurd ((nI_leI (by omega) (by omega)).mp c) (by omega), fun _ => ?_⟩
      rw [i41, c41 (by omega) (by omega), hC k j hk (by omega)]
      have hkj2 := hb k j hk (by omega)
      refine ⟨v41 (by omega) (by omega), ?_⟩
      rw [nI_l (by omega)]
      refine sp_minus (a := 0) hp h0 hkj2 ⟨i40 (by omega), ?_⟩
      have ho := Nat.mod_lt (0 + p - C k j) h0
      rw [ic (by omega), (hg j hkj (by omega)).1]
      have hx := (hg j hkj (by omega)).2
      refine sp_plusTimes h0 hp (by omega) (by omega) (by omega) ?_
      intro w ew
      rw [ew, nI_1]
      refine ih (j + 1) _ (by omega) (by omega) (Nat.mod_lt _ h0) ?_
      refine cg_tr (cg_nm p _) ?_
      rw [Int.natCast_add, Int.natCast_mul, su_s, if_pos hkj]
      have h1 := cg_add hc (cg_mul (cg_neg hkj2) (cg_rf (p : Int) (x j : Int)))
      refine cg_tr h1 (cg_of ?_)
      grind
  refine ⟨n - (k + 1) + 1, main (n - (k + 1)) (k + 1) (C k n) (by omega) (by omega) hkn (cg_of ?_)⟩
  rw [su_zero (k + 1) (fun i hi => by rw [if_neg (by omega)])]
  omega
/-- what one prime tells of the chain -/
theorem sp_answerBy {p n : Nat} {M : Nat → Nat} {a : Nat → Nat → Nat} {N : Nat → Int} {f fw fl fp fe : Nat → Int32} {g : Nat → Int64} {es : Int32} {ed rp : Int64} {post : Int32 → Int32 → Int64 → Int64 → (Nat → Int32) → (Nat → Int64) → Prop}
    (hpr : pr_ p) (hp : p < 2147483648) (hn1 : 1 ≤ n) (hn : n ≤ 40) (hM : ∀ i, i < n → fw i = nI (M i) ∧ M i < p) (ha : ∀ i j, i < n → j ≤ n → fp (i * 41 + j) = nI (a i j) ∧ a i j < p)
    (hN : ∀ i, i < n → su (fun j => am M a i j * N j) n = dt n (am M a) * (a i n : Int))
    (h1 : ∀ (d : Nat) (x : Nat → Nat) f' g', d < p → cg p (dt n (am M a)) d → (∀ k, k < n → g' k = lN (x k) ∧ x k < p ∧ cg p (N k) (dt n (am M a) * (x k : Int))) → post 1 (nI n) (lN d) (lN p) f' g')
    (h0 : ∀ ed' f' g', (p : Int) ∣ dt n (am M a) → post 0 (nI n) ed' (lN p) f' g') : wp_Equations_answerBy post (nI n) fw fl fp fe (nI p) es ed rp f g := by
  have p2 := hpr.1
  unfold wp_Equations_answerBy
  rw [nI_l (by omega)]
  refine sp_load hp hn (by omega) hM ha (fun f1 hC1 => ?_)
  have hv1 : iv p n 0 (fun i j => if j = n then a i n else ((if i = j then M i else 0) + p - a i j) % p) := by
    refine ⟨fun i j hi hj => ?_, fun i j _ h => absurd h (by omega), fun i h => absurd h (by omega)⟩
    dsimp only
    split
    · exact (ha i n hi (Nat.le_refl n)).2
    · exact Nat.mod_lt _ (by omega)
  have hel1 : el p n (am M a) N (dt n (am M a)) (zi (fun i j => if j = n then a i n else ((if i = j then M i else 0) + p - a i j) % p)) ((1 : Nat) : Int) := by
    have e0 : el p n (am M a) N (dt n (am M a)) (fun i j => if j = n then (a i n : Int) else am M a i j) ((1 : Nat) : Int) := by
      refine ⟨fun i hi => cg_of ?_, cg_of ?_⟩
      · dsimp only
        rw [if_pos rfl, ← hN i hi]
        exact su_congr n (fun j hj => by rw [if_neg (by omega)])
      · rw [dt_congr n (fun i j => if j = n then (a i n : Int) else am M a i j) (am M a) (fun i j hi hj => by rw [if_neg (by omega)])]
        simp
    refine el_cg e0 (fun i j hi hj => ?_) (cg_rf _ _)
    unfold zi
    dsimp only
    by_cases q : j = n
    · rw [if_pos q, if_pos q]
      exact cg_rf _ _
    · rw [if_neg q, if_neg q]
      refine cg_sy (cg_tr (cg_dif (ha i j hi hj).2) (cg_of ?_))
      unfold am
      by_cases q2 : i = j
      · rw [if_pos q2, if_pos q2]
      · rw [if_neg q2, if_neg q2]
        rfl
  generalize (fun i j => if j = n then a i n else ((if i = j then M i else 0) + p - a i j) % p) = C1 at hC1 hv1 hel1
  have fwd : ∀ (m k : Nat) (f : Nat → Int32) (C : Nat → Nat → Nat) (d : Nat), k + m = n → mx n f C → iv p n k C → d < p → el p n (am M a) N (dt n (am M a)) (zi C) d → wp_Equations_answerBy_29 post (nI n) fw fl fp fe (m + 1) (nI k) (nI n) (lN d) (lN p) f g := by
    intro m
    induction m with
    | zero =>
      intro k f C d hk hC hv hd hel
      have ek : k = n := by omega
      subst ek
      unfold wp_Equations_answerBy_29
      refine ⟨fun _ x ex => ?_, fun c => absurd (nI_le (by omega) (by omega)) c⟩
      obtain ⟨n', rfl⟩ : ∃ n', k = n' + 1 := ⟨k - 1, by omega⟩
      rw [nI_pred] at ex
      rw [ex]
      -- back, from below; x: what has been answered
      have bwd : ∀ (j : Nat) (g : Nat → Int64) (x : Nat → Nat), j ≤ n' + 1 → (∀ i, j ≤ i → i < n' + 1 → g i = lN (x i) ∧ x i < p ∧ cg p (x i : Int) (zi C i (n' + 1) - su (fun t => if i < t then zi C i t * (x t : Int) else 0) (n' + 1))) → ∀ c : Int32, (j = 0 → c < 0) → (∀ j', j = j' + 1 → c = nI j') → wp_Equations_answerBy_60 post (nI (n' + 1)) fw fl fp fe (j + 1) c (nI (n' + 1)) (lN d) (lN p) f g := by
        intro j
        induction j with
        | zero =>
          intro g x hj hx c hc0 _
          unfold wp_Equations_answerBy_60
          refine ⟨fun _ => ?_, fun q => absurd (hc0 rfl) q⟩
          obtain ⟨e1, e2⟩ := el_end hel (fun i hi => by unfold zi; rw [hv.2.2 i hi]; rfl) (fun i t hi ht => by unfold zi; rw [hv.2.1 i t hi (by omega) ht]; rfl) (fun i => (x i : Int)) (fun i hi => (hx i (by omega) hi).2.2)
          exact h1 d x f g hd e1 (fun i hi => ⟨(hx i (by omega) hi).1, (hx i (by omega) hi).2.1, e2 i hi⟩)
        | succ j ih =>
          intro g x hj hx c _ hcs
          have ec := hcs j rfl
          subst ec
          unfold wp_Equations_answerBy_60
          refine ⟨fun q => absurd q (nI_pos (by omega)), fun _ => ?_⟩
          refine sp_answerOf (x := x) (by omega) hp hn (by omega) hC hv.1 (fun i h2 h3 => ⟨(hx i (by omega) h3).1, (hx i (by omega) h3).2.1⟩) (fun r hr hcr => ⟨i40 (by omega), fun y ey => ?_⟩)
          rw [ic (by omega)]
          refine ih _ (fun i => if i = j then r else x i) (by omega) (fun i h2 h3 => ?_) y (fun e => ?_) (fun j' e => ?_)
          · have es : ∀ t : Nat, su (fun s => if i < s then zi C i s * ((if s = j then r else x s : Nat) : Int) else 0) t = su (fun s => if i < s then zi C i s * (x s : Int) else 0) t := fun t => su_congr t (fun s _ => by
              by_cases w : i < s
              · rw [if_pos w, if_pos w, if_neg (by omega)]
              · rw [if_neg w, if_neg w])
            rw [es]
            by_cases q : i = j
            · subst q
              rw [pk_uLs, if_pos rfl]
              exact ⟨rfl, hr, hcr⟩
            · rw [pk_uLn q, if_neg q]
              exact hx i (by omega) h3
          · subst e
            rw [ey]
            exact n_neg1
          · subst e
            rw [ey, nI_dn]
      exact ⟨n' + 2, bwd (n' + 1) g (fun _ => 0) (Nat.le_refl _) (fun i h2 h3 => absurd h2 (by omega)) (nI n') (fun e => absurd e (by omega)) (fun j' e => by congr 1; omega)⟩
    | succ m ih =>
      intro k f C d hk hC hv hd hel
      unfold wp_Equations_answerBy_29
      refine ⟨fun c => absurd ((nI_leI (by omega) (by omega)).mp c) (by omega), fun _ => ?_⟩
      refine sp_eliminate hpr hp hn (by omega) hC hv hd hel (fun f' C' d' hC' hv' hd' hel' => ⟨fun c => absurd c (by decide), fun _ x ex => ?_⟩) (fun hdv => ⟨fun _ => h0 _ _ _ hdv, fun c => absurd rfl c⟩)
      rw [ex, nI_1]
      exact ih (k + 1) f' C' d' (by omega) hC' hv' hd' hel'
  exact ⟨n + 1, fwd n 0 f1 C1 1 (by omega) hC1 hv1 (by omega) hel1⟩
