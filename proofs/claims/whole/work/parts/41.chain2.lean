/-! pure: the class's chain -/
def ckr (n : Nat) (M : Nat → Nat) (a : Nat → Nat → Nat) (fw fl fp : Nat → Int32) : Prop := (1 ≤ n ∧ n ≤ 40) ∧ ∀ i, i < n → fw i = nI (M i) ∧ (1 ≤ M i ∧ M i ≤ 999999999) ∧ sn (a i) (n + 1) ≤ M i ∧ fl i = nI (M i - sn (a i) (n + 1)) ∧ ∀ j, j ≤ n → fp (i * 41 + j) = nI (a i j)
theorem sn_mem {f : Nat → Nat} : ∀ (n j : Nat), j < n → f j ≤ sn f n
  | 0, _, h => absurd h (Nat.not_lt_zero _)
  | n + 1, j, h => by
    rw [sn_s]
    by_cases q : j = n
    · rw [q]; omega
    · have := sn_mem (f := f) n j (by omega)
      omega
theorem ck_a {n : Nat} {M : Nat → Nat} {a : Nat → Nat → Nat} {fw fl fp : Nat → Int32} (h : ckr n M a fw fl fp) {i j : Nat} (hi : i < n) (hj : j ≤ n) : a i j ≤ 999999999 := by
  obtain ⟨-, h2, h3, -⟩ := h.2 i hi
  have := sn_mem (f := a i) (n + 1) j (by omega)
  omega
/-- a state can be marked -/
def mkb (n : Nat) (M : Nat → Nat) (a : Nat → Nat → Nat) (S : Nat → Prop) (i : Nat) : Prop := sn (a i) n < M i ∨ ∃ j, j < n ∧ S j ∧ 0 < a i j
theorem sp_canEnd {n i : Nat} {M : Nat → Nat} {a : Nat → Nat → Nat} {fw fl fp fe : Nat → Int32} {post : Int32 → Prop} (hc : ckr n M a fw fl fp) (hi : i < n) (h1 : mkb n M a (fun r => ¬ fe r = 0) i → post 1) (h0 : ¬ mkb n M a (fun r => ¬ fe r = 0) i → post 0) : wp_Chain_canEnd post (nI n) fw fl fp fe (nI i) := by
  obtain ⟨⟨hn1, hn⟩, hc2⟩ := id hc
  obtain ⟨g1, g2, g3, g4, g5⟩ := hc2 i hi
  have hs : sn (a i) (n + 1) = sn (a i) n + a i n := rfl
  have hb : ∀ j, j ≤ n → a i j < 2 ^ 31 := fun j hj => by have := ck_a hc hi hj; omega
  unfold wp_Chain_canEnd wp_Chain_canEnd_26
  rw [ic (by omega), g4, i41, c41 (by omega) (by omega), g5 n (Nat.le_refl n)]
  refine ⟨i40 (by omega), fun c => ?_, fun c => ⟨v41 (by omega) (by omega), fun c2 => ?_, fun c2 => ?_⟩⟩
  · have := (nI_ltI (a := 0) (by omega) (by omega)).mp c
    exact h1 (Or.inl (by omega))
  · have e1 : M i - sn (a i) (n + 1) = 0 := by
      rcases Nat.eq_zero_or_pos (M i - sn (a i) (n + 1)) with q | q
      · exact q
      · exact absurd ((nI_ltI (a := 0) (by omega) (by omega)).mpr q) c
    have e2 : a i n = 0 := by have := (nI_leI (b := 0) (hb n (Nat.le_refl n)) (by omega)).mp c2; omega
    have main : ∀ (m j : Nat), j + m = n → (∀ r, r < j → ¬ (¬ fe r = 0 ∧ 0 < a i r)) → wp_Chain_canEnd_30 post (nI n) fw fl fp fe (m + 1) (nI i) (nI j) := by
      intro m
      induction m with
      | zero =>
        intro j hj hz
        unfold wp_Chain_canEnd_30
        refine ⟨fun _ => h0 ?_, fun c => absurd (nI_le (by omega) (by omega)) c⟩
        rintro (q | ⟨r, q1, q2, q3⟩)
        · omega
        · exact hz r (by omega) ⟨q2, q3⟩
      | succ m ih =>
        intro j hj hz
        have next : ¬ (¬ fe j = 0 ∧ 0 < a i j) → wp_Chain_canEnd_63 post (nI n) fw fl fp fe (wp_Chain_canEnd_30 post (nI n) fw fl fp fe (m + 1)) (nI i) (nI j) := by
          intro hq
          unfold wp_Chain_canEnd_63
          intro x ex
          rw [ex, nI_1]
          refine ih (j + 1) (by omega) (fun r hr => ?_)
          by_cases q : r = j
          · rw [q]; exact hq
          · exact hz r (by omega)
        unfold wp_Chain_canEnd_30
        refine ⟨fun c => absurd ((nI_leI (by omega) (by omega)).mp c) (by omega), fun _ => ?_⟩
        rw [ic (by omega), i41, c41 (by omega) (by omega), g5 j (by omega)]
        refine ⟨i40 (by omega), fun c => next (fun q => q.1 c), fun c => ⟨v41 (by omega) (by omega), fun c2 => next (fun q => ?_), fun c2 => h1 (Or.inr ⟨j, by omega, c, ?_⟩)⟩⟩
        · have := (nI_leI (b := 0) (hb j (by omega)) (by omega)).mp c2
          omega
        · rcases Nat.eq_zero_or_pos (a i j) with q | q
          · exact absurd (by rw [q]; decide) c2
          · exact q
    exact ⟨n + 1, main n 0 (by omega) (fun r h => absurd h (by omega))⟩
  · refine h1 (Or.inl ?_)
    have : 0 < a i n := by
      rcases Nat.eq_zero_or_pos (a i n) with q | q
      · exact absurd (by rw [q]; decide) c2
      · exact q
    omega
def cnt (f : Nat → Int32) (n : Nat) : Nat := sn (fun i => if f i = 0 then 0 else 1) n
theorem cnt_le (f : Nat → Int32) (n : Nat) : cnt f n ≤ n := by
  have := sn_le (f := fun i => if f i = 0 then 0 else 1) (b := 1) n (fun i _ => by split <;> omega)
  unfold cnt
  omega
theorem cnt_full {f : Nat → Int32} : ∀ n : Nat, n ≤ cnt f n → ∀ i, i < n → ¬ f i = 0
  | 0, _, i, h => absurd h (Nat.not_lt_zero _)
  | n + 1, h, i, hi => by
    have h1 : cnt f (n + 1) = cnt f n + (if f n = 0 then 0 else 1) := rfl
    have h2 := cnt_le f n
    by_cases q : f n = 0
    · rw [if_pos q] at h1
      omega
    · rw [if_neg q] at h1
      by_cases q2 : i = n
      · rw [q2]; exact q
      · exact cnt_full n (by omega) i (by omega)
theorem cnt_hole {f : Nat → Int32} : ∀ n : Nat, cnt f n < n → ∃ i, i < n ∧ f i = 0
  | 0, h => absurd h (Nat.not_lt_zero _)
  | n + 1, h => by
    have h1 : cnt f (n + 1) = cnt f n + (if f n = 0 then 0 else 1) := rfl
    by_cases q : f n = 0
    · exact ⟨n, by omega, q⟩
    · rw [if_neg q] at h1
      obtain ⟨i, hi, e⟩ := cnt_hole (f := f) n (by omega)
      exact ⟨i, by omega, e⟩
theorem cnt_add {f : Nat → Int32} {n i : Nat} {v : Int32} (hi : i < n) (h0 : f i = 0) (hv : ¬ v = 0) : cnt (upd f i v) n = cnt f n + 1 := by
  have h := sn_one (f := fun j => if upd f i v j = 0 then 0 else 1) (g := fun j => if f j = 0 then 0 else 1) n i hi (fun j _ hj => by rw [pk_un hj])
  rw [pk_us, if_pos h0, if_neg hv] at h
  unfold cnt
  omega
theorem cnt_zero {f : Nat → Int32} : ∀ n : Nat, (∀ i, i < n → f i = 0) → cnt f n = 0
  | 0, _ => rfl
  | n + 1, h => by
    have h1 : cnt f (n + 1) = cnt f n + (if f n = 0 then 0 else 1) := rfl
    rw [h1, if_pos (h n (by omega)), cnt_zero n (fun i hi => h i (by omega))]
theorem nb0 : vp_nar .boolean 0 = 0 := rfl
theorem nb1 : vp_nar .boolean 1 = 1 := rfl
theorem sp_isStuck {n : Nat} {M : Nat → Nat} {a : Nat → Nat → Nat} {fw fl fp fe : Nat → Int32} {post : Int32 → (Nat → Int32) → Prop} (hc : ckr n M a fw fl fp) (h0 : ∀ f', ns n M a → post 0 f') (h1 : ∀ f', ¬ ns n M a → post 1 f') : wp_Chain_isStuck post (nI n) fw fl fp fe := by
  obtain ⟨⟨hn1, hn⟩, -⟩ := id hc
  have fin : ∀ (fe : Nat → Int32) (r : Nat), mks n M a (fun r => ¬ fe r = 0) → (mkc n M a (fun r => ¬ fe r = 0) ∨ r ≤ cnt fe n) → (n ≤ r ∨ n ≤ cnt fe n) → wp_Chain_isStuck_92 post (nI n) fw fl fp (nI (cnt fe n)) fe := by
    intro fe r hm hcl hex
    have hcn := cnt_le fe n
    unfold wp_Chain_isStuck_92 wp_Chain_isStuck_105
    refine ⟨fun c => ⟨rfl, h0 fe (ns_all hm (cnt_full n ((nI_leI (by omega) (by omega)).mp c)))⟩, fun c => ⟨rfl, h1 fe ?_⟩⟩
    have c' : cnt fe n < n := by
      rcases Nat.lt_or_ge (cnt fe n) n with q | q
      · exact q
      · exact absurd (nI_le q (by omega)) c
    obtain ⟨i, hi, e⟩ := cnt_hole n c'
    rcases hcl with q | q
    · exact ns_not q hi (fun z => z e)
    · omega
  have inner : ∀ (r : Nat) (K : Int32 → Int32 → (Nat → Int32) → Prop) (f0 : Nat → Int32), (∀ fe, mks n M a (fun r => ¬ fe r = 0) → ((mkc n M a (fun r => ¬ f0 r = 0) → mkc n M a (fun r => ¬ fe r = 0)) ∧ cnt f0 n ≤ cnt fe n ∧ (cnt fe n = cnt f0 n → mkc n M a (fun r => ¬ fe r = 0))) → K (nI (cnt fe n)) (nI (r + 1)) fe) →
      ∀ (m i : Nat) (fe : Nat → Int32), i + m = n → mks n M a (fun r => ¬ fe r = 0) → (mkc n M a (fun r => ¬ f0 r = 0) → mkc n M a (fun r => ¬ fe r = 0)) → cnt f0 n ≤ cnt fe n → (cnt fe n = cnt f0 n → ∀ q, q < i → fe q = 0 → ¬ mkb n M a (fun r => ¬ fe r = 0) q) → wp_Chain_isStuck_45 post (nI n) fw fl fp K (m + 1) (nI (cnt fe n)) (nI r) (nI i) fe := by
    intro r K f0 hK m
    induction m with
    | zero =>
      intro i fe hi hm hcl hcn hz
      unfold wp_Chain_isStuck_45
      refine ⟨fun _ x ex => ?_, fun c => absurd (nI_le (by omega) (by omega)) c⟩
      rw [ex, nI_1]
      refine hK fe hm ⟨hcl, hcn, fun e q hq hs => ?_⟩
      have e0 : fe q = 0 := Classical.byContradiction hs
      have hnot := hz e q (by omega) e0
      exact ⟨fun w => hnot (Or.inl w), fun j hj hsj w => hnot (Or.inr ⟨j, hj, hsj, w⟩)⟩
    | succ m ih =>
      intro i fe hi hm hcl hcn hz
      have next : ∀ fe' : Nat → Int32, mks n M a (fun r => ¬ fe' r = 0) → (mkc n M a (fun r => ¬ f0 r = 0) → mkc n M a (fun r => ¬ fe' r = 0)) → cnt f0 n ≤ cnt fe' n → (cnt fe' n = cnt f0 n → ∀ q, q < i + 1 → fe' q = 0 → ¬ mkb n M a (fun r => ¬ fe' r = 0) q) → wp_Chain_isStuck_80 post (nI n) fw fl fp K (wp_Chain_isStuck_45 post (nI n) fw fl fp K (m + 1)) (nI (cnt fe' n)) (nI r) (nI i) fe' := by
        intro fe' g1 g2 g3 g4
        unfold wp_Chain_isStuck_80
        intro x ex
        rw [ex, nI_1]
        exact ih (i + 1) fe' (by omega) g1 g2 g3 g4
      unfold wp_Chain_isStuck_45
      refine ⟨fun c => absurd ((nI_leI (by omega) (by omega)).mp c) (by omega), fun _ => ?_⟩
      rw [ic (by omega)]
      refine ⟨i40 (by omega), fun c => ?_, fun c => next fe hm hcl hcn (fun e q hq e0 => ?_)⟩
      · refine sp_canEnd hc (by omega) (fun hk => ⟨fun q => absurd q (by decide), fun _ => ⟨i40 (by omega), fun x ex => ?_⟩⟩) (fun hk => ⟨fun _ => next fe hm hcl hcn (fun e q hq e0 => ?_), fun q => absurd rfl q⟩)
        · rw [nb1]
          have ec := cnt_add (f := fe) (n := n) (i := i) (v := 1) (by omega) c (by decide)
          rw [ex, nI_1, ← ec]
          have hk2 : ∀ q, (¬ upd fe i 1 q = 0) ↔ (¬ fe q = 0 ∨ q = i) := by
            intro q
            by_cases w : q = i
            · rw [w, pk_us]
              exact ⟨fun _ => Or.inr rfl, fun _ => by decide⟩
            · rw [pk_un w]
              exact ⟨fun z => Or.inl z, fun z => z.elim id (fun y => absurd y w)⟩
          refine next _ (mks_add hm (fun z => z c) hk (fun q _ => hk2 q)) (fun hc0 => ?_) (by omega) (fun e => absurd e (by omega))
          have hcc := hcl hc0 i (by omega) (fun z => z c)
          rcases hk with w | ⟨j, w1, w2, w3⟩
          · exact absurd w hcc.1
          · exact absurd w3 (hcc.2 j w1 w2)
        · by_cases w : q = i
          · rw [w]; exact hk
          · exact hz e q (by omega) e0
      · by_cases w : q = i
        · rw [w] at e0; exact absurd e0 c
        · exact hz e q (by omega) e0
  have outer : ∀ (m r : Nat) (fe : Nat → Int32), r + m = n → mks n M a (fun r => ¬ fe r = 0) → (mkc n M a (fun r => ¬ fe r = 0) ∨ r ≤ cnt fe n) → wp_Chain_isStuck_27 post (nI n) fw fl fp (m + 1) (nI (cnt fe n)) (nI r) fe := by
    intro m
    induction m with
    | zero =>
      intro r fe hr hm hcl
      unfold wp_Chain_isStuck_27
      exact ⟨fun _ => fin fe r hm hcl (Or.inl (by omega)), fun c => absurd (nI_le (by omega) (by omega)) c⟩
    | succ m ih =>
      intro r fe hr hm hcl
      have hcn := cnt_le fe n
      unfold wp_Chain_isStuck_27
      refine ⟨fun c => absurd ((nI_leI (by omega) (by omega)).mp c) (by omega), fun _ => ⟨fun c => fin fe r hm hcl (Or.inr ((nI_leI (by omega) (by omega)).mp c)), fun c => ⟨n + 1, ?_⟩⟩⟩
      refine inner r _ fe (fun fe' hm' hcl' => ih (r + 1) fe' (by omega) hm' ?_) n 0 fe (by omega) hm id (Nat.le_refl _) (fun _ q hq => absurd hq (by omega))
      obtain ⟨k1, k2, k3⟩ := hcl'
      rcases hcl with q | q
      · exact Or.inl (k1 q)
      · by_cases w : cnt fe' n = cnt fe n
        · exact Or.inl (k3 w)
        · exact Or.inr (by omega)
  have init : ∀ (m i : Nat) (fe : Nat → Int32), i + m = n → (∀ q, q < i → fe q = 0) → wp_Chain_isStuck_2 post (nI n) fw fl fp (m + 1) (nI i) fe := by
    intro m
    induction m with
    | zero =>
      intro i fe hi hz
      unfold wp_Chain_isStuck_2
      refine ⟨fun _ => ⟨n + 1, ?_⟩, fun c => absurd (nI_le (by omega) (by omega)) c⟩
      have h := outer n 0 fe (by omega) (mks_none (fun q hq z => z (hz q (by omega)))) (Or.inr (by omega))
      rw [cnt_zero n (fun q hq => hz q (by omega))] at h
      exact h
    | succ m ih =>
      intro i fe hi hz
      unfold wp_Chain_isStuck_2
      refine ⟨fun c => absurd ((nI_leI (by omega) (by omega)).mp c) (by omega), fun _ => ⟨i40 (by omega), fun x ex => ?_⟩⟩
      rw [ex, nI_1, ic (by omega), nb0]
      refine ih (i + 1) _ (by omega) (fun q hq => ?_)
      by_cases w : q = i
      · rw [w, pk_us]
      · rw [pk_un w]
        exact hz q (by omega)
  exact ⟨n + 1, init n 0 fe (by omega) (fun q h => absurd h (by omega))⟩
