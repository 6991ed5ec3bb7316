/-! pure: the reference: too large, stuck -/
theorem sp_isLarge {n : Nat} {M : Nat → Nat} {a : Nat → Nat → Nat} {th vh vk vm vp : Int32} {fw fp : Nat → Int32} {post : Int32 → Prop} (hok : chok n M a) (hc : cmr n M a fw fp) (h1 : 480 < sn (fun i => wt (M i)) n → post 1) (h0 : sn (fun i => wt (M i)) n ≤ 480 → post 0) : wp_Model_isLarge post th (nI n) vh vk vm vp fw := by
  obtain ⟨⟨hn1, hn⟩, hok2⟩ := hok
  have hw : ∀ i, i ≤ n → sn (fun i => wt (M i)) i ≤ i * 31 := fun i hi => sn_le i (fun j hj => wt_le (hok2 j (by omega)).1.1 (hok2 j (by omega)).1.2)
  have l480 : ∀ {k : Nat}, k < 2 ^ 31 → (nI k ≤ (480 : Int32) ↔ k ≤ 480) := fun h => nI_leI (b := 480) h (by decide)
  have main : ∀ (m i : Nat), i + m = n → wp_Model_isLarge_4 post th (nI n) vh vk vm vp fw (m + 1) (nI (sn (fun i => wt (M i)) i)) (nI i) := by
    intro m
    induction m with
    | zero =>
      intro i hi
      have e : i = n := by omega
      subst e
      have := hw i (Nat.le_refl i)
      unfold wp_Model_isLarge_4 wp_Model_isLarge_60
      refine ⟨fun _ => ⟨fun c => ⟨rfl, h0 ((l480 (by omega)).mp c)⟩, fun c => ⟨rfl, h1 ?_⟩⟩, fun c => absurd (nI_le (by omega) (by omega)) c⟩
      rcases Nat.lt_or_ge 480 (sn (fun i => wt (M i)) i) with q | q
      · exact q
      · exact absurd ((l480 (by omega)).mpr q) c
    | succ m ih =>
      intro i hi
      have := hw i (by omega)
      obtain ⟨⟨o1, o2⟩, -⟩ := hok2 i (by omega)
      have e2 : (2 : Int64) * (nI (M i)).toInt64 = lN (2 * M i) := by rw [nI_l (by omega), ← lN_mul]; rfl
      unfold wp_Model_isLarge_4
      refine ⟨fun c => absurd ((nI_leI (by omega) (by omega)).mp c) (by omega), fun _ => ?_⟩
      have inner : ∀ (r k : Nat), k + r = 32 → (∀ j, j < k → 2 ^ j < 2 * M i) → wp_Model_isLarge_14 post th (nI n) vh vk vm vp fw (wp_Model_isLarge_4 post th (nI n) vh vk vm vp fw (m + 1)) (r + 1) (nI (sn (fun i => wt (M i)) i)) (nI i) (nI k) := by
        intro r
        induction r with
        | zero =>
          intro k hk hj
          have := hj 31 (by omega)
          omega
        | succ r ihr =>
          intro k hk hj
          have hk2 := p2_31 (show k ≤ 31 by omega)
          unfold wp_Model_isLarge_14
          rw [l_1sh (by omega), ic (by omega), (hc i (by omega)).1, e2]
          refine ⟨i40 (by omega), fun c x ex y ey => ?_, fun c x ex => ?_⟩
          · have c' := (l_ge0 (by omega) (by omega)).mp c
            rw [ex, ey, nI_1, nI_add, wt_uniq o1 c' hj]
            exact ih (i + 1) (by omega)
          · have c' : ¬ 2 * M i ≤ 2 ^ k := fun q => c ((l_ge0 (by omega) (by omega)).mpr q)
            rw [ex, nI_1]
            refine ihr (k + 1) (by omega) (fun j h => ?_)
            by_cases q : j = k
            · rw [q]; omega
            · exact hj j (by omega)
      exact ⟨33, inner 32 0 rfl (fun j h => absurd h (by omega))⟩
  exact ⟨n + 1, main n 0 (by omega)⟩
/-- what holds of the reference's marks -/
def wm (n : Nat) (M : Nat → Nat) (a : Nat → Nat → Nat) (fe : Nat → Int32) : Prop := mks n M a (fun r => ¬ fe r = 0) ∧ (∀ i, i < n → fe i = 0 → ¬ sn (a i) n < M i) ∧ ∀ r, r < n → fe r = 0 ∨ fe r = 1
/-- .. within a round that began with f0 -/
def qm (n : Nat) (M : Nat → Nat) (a : Nat → Nat → Nat) (f0 : Nat → Int32) (i j : Nat) (fe : Nat → Int32) : Prop := wm n M a fe ∧ (mkc n M a (fun r => ¬ f0 r = 0) → mkc n M a (fun r => ¬ fe r = 0)) ∧ cnt f0 n ≤ cnt fe n ∧ (cnt fe n = cnt f0 n → ∀ q r, q < n → r < n → (q < i ∨ q = i ∧ r < j) → fe q = 0 → ¬ fe r = 0 → ¬ 0 < a q r)
theorem upd_same {f : Nat → Int32} {i : Nat} {v : Int32} (h : f i = v) : upd f i v = f := by
  funext q
  by_cases w : q = i
  · rw [w, pk_us, h]
  · rw [pk_un w]
/-- a step that marks nothing -/
theorem qm_keep {n : Nat} {M : Nat → Nat} {a : Nat → Nat → Nat} {f0 fe : Nat → Int32} {i j : Nat} (h : qm n M a f0 i j fe) (hq : fe i = 0 → ¬ fe j = 0 → ¬ 0 < a i j) : qm n M a f0 i (j + 1) fe := by
  refine ⟨h.1, h.2.1, h.2.2.1, fun e q r hqn hrn hor h0 hr => ?_⟩
  by_cases w : q = i ∧ r = j
  · rw [w.1, w.2]
    rw [w.1] at h0
    rw [w.2] at hr
    exact hq h0 hr
  · exact h.2.2.2 e q r hqn hrn (by omega) h0 hr
/-- a step that marks -/
theorem qm_mark {n : Nat} {M : Nat → Nat} {a : Nat → Nat → Nat} {f0 fe : Nat → Int32} {i j : Nat} (h : qm n M a f0 i j fe) (hi : i < n) (hj : j < n) (h0 : fe i = 0) (hs : ¬ fe j = 0) (ha : 0 < a i j) : qm n M a f0 i (j + 1) (upd fe i 1) := by
  obtain ⟨⟨w1, w2, w3⟩, h2, h3, h4⟩ := h
  have ec := cnt_add (f := fe) (n := n) (i := i) (v := 1) hi h0 (by decide)
  have hk : ∀ q, (¬ upd fe i 1 q = 0) ↔ (¬ fe q = 0 ∨ q = i) := by
    intro q
    by_cases w : q = i
    · rw [w, pk_us]
      exact ⟨fun _ => Or.inr rfl, fun _ => by decide⟩
    · rw [pk_un w]
      exact ⟨fun z => Or.inl z, fun z => z.elim id (fun y => absurd y w)⟩
  refine ⟨⟨mks_add w1 (fun z => z h0) (Or.inr ⟨j, hj, hs, ha⟩) (fun q _ => hk q), fun q hq e => ?_, fun q hq => ?_⟩, fun hc0 => ?_, by omega, fun e => absurd e (by omega)⟩
  · by_cases w : q = i
    · rw [w, pk_us] at e
      exact absurd e (by decide)
    · rw [pk_un w] at e
      exact w2 q hq e
  · by_cases w : q = i
    · rw [w, pk_us]
      exact Or.inr rfl
    · rw [pk_un w]
      exact w3 q hq
  · exact absurd ha ((h2 hc0 i hi (fun z => z h0)).2 j hj hs)
theorem qm_row {n : Nat} {M : Nat → Nat} {a : Nat → Nat → Nat} {f0 fe : Nat → Int32} {i : Nat} (h : qm n M a f0 i n fe) : qm n M a f0 (i + 1) 0 fe :=
  ⟨h.1, h.2.1, h.2.2.1, fun e q r hqn hrn hor h0 hr => h.2.2.2 e q r hqn hrn (by omega) h0 hr⟩
theorem sp_misStuck {n : Nat} {M : Nat → Nat} {a : Nat → Nat → Nat} {th vh vk vm vp : Int32} {fw fp fe : Nat → Int32} {post : Int32 → (Nat → Int32) → Prop} (hok : chok n M a) (hc : cmr n M a fw fp) (h0 : ∀ f', ns n M a → post 0 f') (h1 : ∀ f', ¬ ns n M a → post 1 f') : wp_Model_isStuck post th (nI n) vh vk vm vp fw fp fe := by
  obtain ⟨⟨hn1, hn⟩, hok2⟩ := id hok
  have hb : ∀ i j, i < n → j ≤ n → a i j < 2 ^ 31 := fun i j hi hj => by
    have := sn_mem (f := a i) (n + 1) j (by omega)
    have := hok2 i hi
    omega
  have nz : ∀ {i j : Nat}, i < n → j ≤ n → (¬ nI (a i j) ≤ 0 ↔ 0 < a i j) := by
    intro i j hi hj
    refine ⟨fun c => ?_, fun c q => ?_⟩
    · rcases Nat.eq_zero_or_pos (a i j) with q | q
      · exact absurd (by rw [q]; decide) c
      · exact q
    · have := (nI_leI (b := 0) (hb i j hi hj) (by omega)).mp q
      omega
  -- at the end
  have fin : ∀ (fe : Nat → Int32), (∀ i, i < n → ¬ fe i = 0) ∧ ns n M a ∨ (∃ i, i < n ∧ fe i = 0) ∧ ¬ ns n M a → ∀ (m i : Nat) (b : Int32), i + m = n → (b = 0 ∧ (∀ q, q < i → ¬ fe q = 0) ∨ b = 1 ∧ ∃ q, q < n ∧ fe q = 0) → wp_Model_isStuck_152 post th (nI n) vh vk vm vp fw fp (m + 1) b (nI i) fe := by
    intro fe hfe m
    induction m with
    | zero =>
      intro i b hi hb
      unfold wp_Model_isStuck_152
      refine ⟨fun _ => ⟨?_, ?_⟩, fun c => absurd (nI_le (by omega) (by omega)) c⟩
      · rcases hb with ⟨q, -⟩ | ⟨q, -⟩ <;> subst q <;> rfl
      · rcases hb with ⟨q, hq⟩ | ⟨q, q2, hq, hq2⟩
        · subst q
          rcases hfe with ⟨-, w⟩ | ⟨⟨r, r1, r2⟩, -⟩
          · exact h0 fe w
          · exact absurd r2 (hq r (by omega))
        · subst q
          rcases hfe with ⟨w, -⟩ | ⟨-, w⟩
          · exact absurd hq2 (w q2 hq)
          · exact h1 fe w
    | succ m ih =>
      intro i b hi hb
      unfold wp_Model_isStuck_152
      refine ⟨fun c => absurd ((nI_leI (by omega) (by omega)).mp c) (by omega), fun _ => ⟨fun c => ?_, fun c => ?_⟩⟩
      · have hb' : ∀ q, q < i → ¬ fe q = 0 := by
          rcases hb with ⟨-, w⟩ | ⟨w, -⟩
          · exact w
          · rw [w] at c; exact absurd c (by decide)
        rw [ic (by omega)]
        refine ⟨i40 (by omega), fun c2 => ?_, fun c2 => ?_⟩
        · unfold wp_Model_isStuck_170 wp_Model_isStuck_175
          intro x ex
          rw [ex, nI_1]
          exact ih (i + 1) 1 (by omega) (Or.inr ⟨rfl, i, by omega, c2⟩)
        · unfold wp_Model_isStuck_175
          intro x ex
          rw [ex, nI_1]
          refine ih (i + 1) 0 (by omega) (Or.inl ⟨rfl, fun q hq => ?_⟩)
          by_cases w : q = i
          · rw [w]; exact c2
          · exact hb' q (by omega)
      · unfold wp_Model_isStuck_170 wp_Model_isStuck_175
        intro x ex
        rw [ex, nI_1]
        rcases hb with ⟨w, -⟩ | ⟨w, w2⟩
        · exact absurd w c
        · exact ih (i + 1) 1 (by omega) (Or.inr ⟨rfl, w2⟩)
  have rowl : ∀ (K64 : Int32 → (Nat → Int32) → Prop) (K74 : Int32 → Int32 → (Nat → Int32) → Prop) (f0 : Nat → Int32) (r i : Nat), i < n → (∀ fe, qm n M a f0 i n fe → K74 (nI r) (nI (i + 1)) fe) → ∀ (m j : Nat) (fe : Nat → Int32), j + m = n → qm n M a f0 i j fe → wp_Model_isStuck_85 post th (nI n) vh vk vm vp fw fp K64 K74 (m + 1) (nI r) (nI i) (nI j) fe := by
    intro K64 K74 f0 r i hi hK m
    induction m with
    | zero =>
      intro j fe hj hq
      unfold wp_Model_isStuck_85
      refine ⟨fun _ x ex => ?_, fun c => absurd (nI_le (by omega) (by omega)) c⟩
      rw [ex, nI_1]
      rw [show j = n by omega] at hq
      exact hK fe hq
    | succ m ih =>
      intro j fe hj hq
      have next : ∀ (v : Int32) (fe' : Nat → Int32), upd fe i (vp_nar .boolean v) = fe' → qm n M a f0 i (j + 1) fe' → wp_Model_isStuck_129 post th (nI n) vh vk vm vp fw fp K64 K74 (wp_Model_isStuck_85 post th (nI n) vh vk vm vp fw fp K64 K74 (m + 1)) (nI r) (nI i) (nI j) (nI i) v fe := by
        intro v fe' e h
        unfold wp_Model_isStuck_129
        refine ⟨i40 (by omega), fun x ex => ?_⟩
        rw [ex, nI_1, ic (by omega), e]
        exact ih (j + 1) fe' (by omega) h
      unfold wp_Model_isStuck_85
      refine ⟨fun c => absurd ((nI_leI (by omega) (by omega)).mp c) (by omega), fun _ => ?_⟩
      rw [j41, c41 (by omega) (by omega), (hc i hi).2 j (by omega), ic (show i < 2 ^ 31 by omega), ic (show j < 2 ^ 31 by omega)]
      refine ⟨i40 (by omega), fun c => ⟨v41 (by omega) (by omega), fun c2 => ?_, fun c2 => ⟨i40 (by omega), fun c3 => ?_, fun c3 => ?_⟩⟩, fun c => ?_⟩
      · unfold wp_Model_isStuck_128
        exact next 0 fe (upd_same c) (qm_keep hq (fun _ _ q => (nz hi (by omega)).mpr q c2))
      · unfold wp_Model_isStuck_128
        exact next 0 fe (upd_same c) (qm_keep hq (fun _ q => absurd c3 q))
      · unfold wp_Model_isStuck_124
        exact next 1 _ rfl (qm_mark hq hi (by omega) c c3 ((nz hi (by omega)).mp c2))
      · unfold wp_Model_isStuck_124
        refine next 1 fe (upd_same ?_) (qm_keep hq (fun q => absurd q c))
        rcases hq.1.2.2 i hi with w | w
        · exact absurd w c
        · exact w
  have round : ∀ (K64 : Int32 → (Nat → Int32) → Prop) (f0 : Nat → Int32) (r : Nat), (∀ fe, qm n M a f0 n 0 fe → K64 (nI (r + 1)) fe) → ∀ (m i : Nat) (fe : Nat → Int32), i + m = n → qm n M a f0 i 0 fe → wp_Model_isStuck_74 post th (nI n) vh vk vm vp fw fp K64 (m + 1) (nI r) (nI i) fe := by
    intro K64 f0 r hK m
    induction m with
    | zero =>
      intro i fe hi hq
      unfold wp_Model_isStuck_74
      refine ⟨fun _ x ex => ?_, fun c => absurd (nI_le (by omega) (by omega)) c⟩
      rw [ex, nI_1]
      rw [show i = n by omega] at hq
      exact hK fe hq
    | succ m ih =>
      intro i fe hi hq
      unfold wp_Model_isStuck_74
      refine ⟨fun c => absurd ((nI_leI (by omega) (by omega)).mp c) (by omega), fun _ => ⟨n + 1, ?_⟩⟩
      exact rowl K64 _ f0 r i (by omega) (fun fe' h => ih (i + 1) fe' (by omega) (qm_row h)) n 0 fe (by omega) hq
  have outer : ∀ (m r : Nat) (fe : Nat → Int32), r + m = n → wm n M a fe → (mkc n M a (fun r => ¬ fe r = 0) ∨ r ≤ cnt fe n) → wp_Model_isStuck_64 post th (nI n) vh vk vm vp fw fp (m + 1) (nI r) fe := by
    intro m
    induction m with
    | zero =>
      intro r fe hr hw hcl
      unfold wp_Model_isStuck_64
      refine ⟨fun _ => ⟨n + 1, fin fe ?_ n 0 0 (by omega) (Or.inl ⟨rfl, fun q h => absurd h (by omega)⟩)⟩, fun c => absurd (nI_le (by omega) (by omega)) c⟩
      rcases Nat.lt_or_ge (cnt fe n) n with q | q
      · right
        obtain ⟨i, hi, e⟩ := cnt_hole n q
        rcases hcl with w | w
        · exact ⟨⟨i, hi, e⟩, ns_not w hi (fun z => z e)⟩
        · omega
      · left
        exact ⟨cnt_full n q, ns_all hw.1 (cnt_full n q)⟩
    | succ m ih =>
      intro r fe hr hw hcl
      unfold wp_Model_isStuck_64
      refine ⟨fun c => absurd ((nI_leI (by omega) (by omega)).mp c) (by omega), fun _ => ⟨n + 1, ?_⟩⟩
      refine round _ fe r (fun fe' hq => ih (r + 1) fe' (by omega) hq.1 ?_) n 0 fe (by omega) ⟨hw, id, Nat.le_refl _, fun _ q r _ _ h => absurd h (by omega)⟩
      rcases hcl with w | w
      · exact Or.inl (hq.2.1 w)
      · by_cases g : cnt fe' n = cnt fe n
        · left
          intro i hi hs
          have e0 : fe' i = 0 := Classical.byContradiction hs
          exact ⟨hq.1.2.1 i hi e0, fun j hj hsj => hq.2.2.2 g i j hi hj (Or.inl hi) e0 hsj⟩
        · have := hq.2.2.1
          exact Or.inr (by omega)
  have init : ∀ (m i : Nat) (fe : Nat → Int32), i + m = n → (∀ q, q < i → (fe q = 1 ∧ sn (a q) n < M q) ∨ (fe q = 0 ∧ ¬ sn (a q) n < M q)) → wp_Model_isStuck_7 post th (nI n) vh vk vm vp fw fp (m + 1) (nI i) fe := by
    intro m
    induction m with
    | zero =>
      intro i fe hi hz
      unfold wp_Model_isStuck_7
      refine ⟨fun _ => ⟨n + 1, outer n 0 fe (by omega) ⟨⟨fun _ => 0, fun q hq hs => Or.inl ?_⟩, fun q hq e => ?_, fun q hq => ?_⟩ (Or.inr (by omega))⟩, fun c => absurd (nI_le (by omega) (by omega)) c⟩
      · rcases hz q (by omega) with w | w
        · exact w.2
        · exact absurd w.1 hs
      · rcases hz q (by omega) with w | w
        · rw [e] at w
          exact absurd w.1 (by decide)
        · exact w.2
      · rcases hz q (by omega) with w | w
        · exact Or.inr w.1
        · exact Or.inl w.1
    | succ m ih =>
      intro i fe hi hz
      have hin : i < n := by omega
      obtain ⟨⟨o1, o2⟩, o3⟩ := hok2 i hin
      have hs : sn (a i) (n + 1) = sn (a i) n + a i n := rfl
      have next : ∀ v : Int32, (v = 1 ∧ sn (a i) n < M i) ∨ (v = 0 ∧ ¬ sn (a i) n < M i) → wp_Model_isStuck_55 post th (nI n) vh vk vm vp fw fp (wp_Model_isStuck_7 post th (nI n) vh vk vm vp fw fp (m + 1)) (nI i) (nI i) v fe := by
        intro v hv
        unfold wp_Model_isStuck_55
        refine ⟨i40 (by omega), fun x ex => ?_⟩
        rw [ex, nI_1, ic (by omega)]
        refine ih (i + 1) _ (by omega) (fun q hq => ?_)
        by_cases w : q = i
        · rw [w, pk_us]
          rcases hv with ⟨e, g⟩ | ⟨e, g⟩
          · rw [e]; exact Or.inl ⟨nb1, g⟩
          · rw [e]; exact Or.inr ⟨nb0, g⟩
        · rw [pk_un w]
          exact hz q (by omega)
      unfold wp_Model_isStuck_7
      refine ⟨fun c => absurd ((nI_leI (by omega) (by omega)).mp c) (by omega), fun _ => ?_⟩
      rw [j41, c41 (by omega) (by omega), (hc i hin).2 n (Nat.le_refl n)]
      refine ⟨v41 (by omega) (by omega), fun c => ?_, fun c => sp_together hn hin hc (fun j hj => hb i j hin hj) ?_⟩
      · have := (nI_ltI (a := 0) (by omega) (hb i n hin (Nat.le_refl n))).mp c
        unfold wp_Model_isStuck_50
        exact next 1 (Or.inl ⟨rfl, by omega⟩)
      · have e0 : a i n = 0 := by
          rcases Nat.eq_zero_or_pos (a i n) with q | q
          · exact q
          · exact absurd ((nI_ltI (a := 0) (by omega) (hb i n hin (Nat.le_refl n))).mpr q) c
        rw [ic (by omega), (hc i hin).1, nI_l (by omega)]
        refine ⟨i40 (by omega), fun c2 => ?_, fun c2 => ?_⟩
        · have := (l_ge0 (by omega) (by omega)).mp c2
          exact next 0 (Or.inr ⟨rfl, by omega⟩)
        · unfold wp_Model_isStuck_50
          refine next 1 (Or.inl ⟨rfl, ?_⟩)
          rcases Nat.lt_or_ge (sn (a i) n) (M i) with q | q
          · exact q
          · exact absurd ((l_ge0 (by omega) (by omega)).mpr (by omega)) c2
  exact ⟨n + 1, init n 0 fe (by omega) (fun q h => absurd h (by omega))⟩
