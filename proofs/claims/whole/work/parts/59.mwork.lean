/-! pure: the reference works the numbers out -/
theorem pq_cg {q q' : Nat → Nat} : ∀ k : Nat, (∀ j, j < k → q j = q' j) → pq q k = pq q' k
  | 0, _ => rfl
  | k + 1, h => by rw [pq_s, pq_s, pq_cg k (fun j hj => h j (by omega)), h k (by omega)]
/-- what u primes told -/
def wk (n D : Nat) (N q : Nat → Nat) (u k : Nat) (fpr frs : Nat → Int64) : Prop :=
  (∀ j, j < u → fpr j = lN (q j) ∧ pr_ (q j) ∧ q j < 2147483648 ∧ Nat.Coprime (pq q j) (q j)) ∧ (∀ j i, j < u → i < n → frs (j * 41 + i) = lN (N i % q j)) ∧ (∀ j, j < u → frs (j * 41 + 40) = lN (D % q j)) ∧ (0 < u → 2 ^ (30 * u) < pq q u) ∧ (∀ j, k ≤ j → j < 32 → Nat.Coprime (pq q u) (pm_ j))
theorem wk_skip {n D u k : Nat} {N q : Nat → Nat} {fpr frs : Nat → Int64} (h : wk n D N q u k fpr frs) : wk n D N q u (k + 1) fpr frs :=
  ⟨h.1, h.2.1, h.2.2.1, h.2.2.2.1, fun j hj hj2 => h.2.2.2.2 j (by omega) hj2⟩
theorem wk_add {n D u k : Nat} {N q : Nat → Nat} {fpr frs frs' : Nat → Int64} (hn : n ≤ 40) (hk : k < 32) (h : wk n D N q u k fpr frs) (h1 : ∀ i, i < n → frs' (u * 41 + i) = lN (N i % pm_ k)) (h2 : frs' (u * 41 + 40) = lN (D % pm_ k)) (h3 : ∀ s, s < u * 41 → frs' s = frs s) :
    wk n D N (fun j => if j = u then pm_ k else q j) (u + 1) (k + 1) (vp_updL fpr u (lN (pm_ k))) frs' := by
  obtain ⟨w1, w2, w3, w4, w5⟩ := h
  obtain ⟨p1, p2, -⟩ := pm_lt k hk
  have hpr := pm_pr k hk
  have eq : ∀ m, m ≤ u → pq (fun j => if j = u then pm_ k else q j) m = pq q m := fun m hm => pq_cg m (fun j hj => by rw [if_neg (by omega)])
  have es : pq (fun j => if j = u then pm_ k else q j) (u + 1) = pq q u * pm_ k := by
    rw [pq_s, eq u (Nat.le_refl u), if_pos rfl]
  refine ⟨fun j hj => ?_, fun j i hj hi => ?_, fun j hj => ?_, fun _ => ?_, fun j hj hj2 => ?_⟩ <;> try dsimp only
  · by_cases g : j = u
    · subst g
      rw [if_pos rfl, pk_uLs, eq j (Nat.le_refl j)]
      exact ⟨rfl, hpr, by omega, w5 k (Nat.le_refl k) hk⟩
    · rw [if_neg g, pk_uLn g, eq j (by omega)]
      exact w1 j (by omega)
  · by_cases g : j = u
    · subst g
      rw [if_pos rfl]
      exact h1 i hi
    · rw [if_neg g, h3 _ (by omega)]
      exact w2 j i (by omega) hi
  · by_cases g : j = u
    · subst g
      rw [if_pos rfl]
      exact h2
    · rw [if_neg g, h3 _ (by omega)]
      exact w3 j (by omega)
  · rw [es]
    have e4 : 2 ^ (30 * (u + 1)) = 2 ^ (30 * u) * 1073741824 := by rw [Nat.mul_add, Nat.pow_add]
    rw [e4]
    have hP : 0 < pq q u := pq_pos (n := u) (fun j hj => by have := (w1 j hj).2.1.1; omega) u (Nat.le_refl u)
    have h2 : 2 ^ (30 * u) ≤ pq q u := by
      rcases Nat.eq_zero_or_pos u with g | g
      · subst g; simp; omega
      · exact Nat.le_of_lt (w4 g)
    exact Nat.mul_lt_mul_of_le_of_lt h2 p1 hP
  · rw [es]
    exact Nat.Coprime.mul_left (w5 j (by omega) hj2) (pm_cop hk hj2 (by omega))
theorem sp_mworkOut {n D c : Nat} {M : Nat → Nat} {a : Nat → Nat → Nat} {N : Nat → Nat} {th vh vp vm : Int32} {fw fp : Nat → Int32} {f31 fpr frs frw dgs : Nat → Int64} {z : Nat → Int32} {post : Int32 → Int32 → (Nat → Int64) → (Nat → Int64) → (Nat → Int64) → (Nat → Int64) → (Nat → Int64) → (Nat → Int32) → Prop}
    (hok : chok n M a) (hc : cmr n M a fw fp) (hw : sn (fun i => wt (M i)) n ≤ 480) (hs : sol n M a D N) (hk0 : kn c f31)
    (hpost : ∀ c' vm' f31' fpr' frs' frw' dgs' z', kn c' f31' → rq z' 880 D → (∀ i, i < n → rq z' (22 * i) (N i)) → post (nI c') vm' f31' fpr' frs' frw' dgs' z') : wp_Model_workOut post th (nI n) vh vp fw fp (nI c) vm f31 fpr frs frw dgs z := by
  obtain ⟨⟨hn1, hn⟩, hok2⟩ := id hok
  obtain ⟨s1, s2, s3, s4, s5⟩ := hs
  have hD : D ≤ 2 ^ 480 := Nat.le_trans s2 (Nat.pow_le_pow_right (by omega) hw)
  have hb : ∀ i j, i < n → j ≤ n → a i j ≤ 999999999 := fun i j hi hj => by
    have := sn_mem (f := a i) (n + 1) j (by omega)
    have := hok2 i hi
    omega
  -- the registers, one after another
  have regs : ∀ (q : Nat → Nat) (k c : Nat) (vm : Int32) (f31 fpr frs frw : Nat → Int64), kn c f31 → wk n D N q 16 k fpr frs → ∀ (m i : Nat) (dgs : Nat → Int64) (z : Nat → Int32), i + m = 41 → (∀ r, r < i → r < n → rq z (22 * r) (N r)) → (40 < i → rq z 880 D) → wp_Model_workOut_134 post th (nI n) vh vp fw fp (m + 1) (nI i) (nI c) vm f31 fpr frs frw dgs z := by
    intro q k c vm f31 fpr frs frw hkn hwk m
    obtain ⟨w1, w2, w3, w4, w5⟩ := hwk
    have hbig := w4 (by omega)
    induction m with
    | zero =>
      intro i dgs z hi h1 h2
      unfold wp_Model_workOut_134
      exact ⟨fun _ => hpost c vm f31 fpr frs frw dgs z hkn (h2 (by omega)) (fun r hr => h1 r (by omega) hr), fun g => absurd ((lx41 (by omega)).mpr (by omega)) g⟩
    | succ m ih =>
      intro i dgs z hi h1 h2
      have next : ∀ (dgs : Nat → Int64) (z : Nat → Int32), (∀ r, r < i + 1 → r < n → rq z (22 * r) (N r)) → (40 < i + 1 → rq z 880 D) → wp_Model_workOut_159 post th (nI n) vh vp fw fp (wp_Model_workOut_134 post th (nI n) vh vp fw fp (m + 1)) (nI i) (nI c) vm f31 fpr frs frw dgs z := by
        intro dgs z g1 g2
        unfold wp_Model_workOut_159
        intro x ex
        rw [ex, nI_1]
        exact ih (i + 1) dgs z (by omega) g1 g2
      have put : ∀ T, T ≤ D → (∀ k, k < 16 → frs (k * 41 + i) = lN (T % q k)) → (i < n → T = N i) → (i = 40 → T = D) → wp_Model_workOut_154 post th (nI n) vh vp fw fp (wp_Model_workOut_134 post th (nI n) vh vp fw fp (m + 1)) (nI i) (nI c) vm f31 fpr frs frw dgs z := by
        intro T hT hr e1 e2
        unfold wp_Model_workOut_154
        refine sp_putTogether (q := q) (T := T) (by omega) (fun k hk => ⟨(w1 k hk).1, (w1 k hk).2.1, (w1 k hk).2.2.1⟩) (fun k hk => (w1 k hk).2.2.2) hr ?_ (fun dgs' z' hz' hs' => next dgs' z' (fun r hr hrn => ?_) (fun g => ?_))
        · exact Nat.lt_of_le_of_lt (Nat.le_trans hT hD) hbig
        · by_cases g : r = i
          · subst g
            rw [← e1 hrn]
            exact hz'
          · exact rq_keep (h1 r (by omega) hrn) (fun k hk => hs' _ (by omega))
        · have e40 : i = 40 := by omega
          subst e40
          rw [e2 rfl] at hz'
          exact hz'
      unfold wp_Model_workOut_134
      refine ⟨fun g => absurd ((lx41 (by omega)).mp g) (by omega), fun _ => ⟨fun g => ?_, fun g => ⟨fun g2 => ?_, fun g2 => ?_⟩⟩⟩
      · have hin := (nI_ltI (by omega) (by omega)).mp g
        exact put (N i) (s4 i hin) (fun k hk => w2 k i hk hin) (fun _ => rfl) (fun e => absurd e (by omega))
      · have e40 : i = 40 := (nI_eq (b := 40) (by omega) (by decide)).mp g2
        have hin : ¬ i < n := fun q => g (nI_lt q (by omega))
        refine put D (Nat.le_refl D) (fun k hk => ?_) (fun e => absurd e hin) (fun _ => rfl)
        rw [e40]
        exact w3 k hk
      · have hin : ¬ i < n := fun q => g (nI_lt q (by omega))
        have e40 : ¬ i = 40 := fun q => g2 ((nI_eq (b := 40) (by omega) (by decide)).mpr q)
        exact next dgs z (fun r hr hrn => h1 r (by omega) hrn) (fun e => absurd e (by omega))
  -- one prime after another
  have main : ∀ (m k u s Sk c : Nat) (q : Nat → Nat) (f31 fpr frs frw : Nat → Int64), k + m = 32 → u + s = k → u ≤ 16 → kn c f31 → wk n D N q u k fpr frs → Sk ∣ D → 2 ^ (30 * s) ≤ Sk → (∀ j, k ≤ j → j < 32 → Nat.Coprime Sk (pm_ j)) → wp_Model_workOut_7 post th (nI n) vh vp fw fp (m + 1) (nI k) (nI c) (nI u) f31 fpr frs frw dgs z := by
    intro m
    induction m with
    | zero =>
      intro k u s Sk c q f31 fpr frs frw hk hus hu hkn hwk hSk hSl hSc
      have h1 : Sk ≤ D := Nat.le_of_dvd s1 hSk
      have h3 := pw_le (30 * s) 480 (by omega)
      have eu : u = 16 := by omega
      subst eu
      unfold wp_Model_workOut_7
      exact ⟨fun _ => ⟨42, regs q k c _ f31 fpr frs frw hkn hwk 41 0 dgs z rfl (fun r h => absurd h (by omega)) (fun h => absurd h (by omega))⟩, fun g => absurd ((l16 (by omega)).mpr (by omega)) g⟩
    | succ m ih =>
      intro k u s Sk c q f31 fpr frs frw hk hus hu hkn hwk hSk hSl hSc
      unfold wp_Model_workOut_7
      refine ⟨fun g => ?_, fun g => ?_⟩
      · have eu : u = 16 := by have := (l16 (by omega)).mp g; omega
        subst eu
        exact ⟨42, regs q k c _ f31 fpr frs frw hkn hwk 41 0 dgs z rfl (fun r h => absurd h (by omega)) (fun h => absurd h (by omega))⟩
      · have hu16 : u < 16 := by
          rcases Nat.lt_or_ge u 16 with w | w
          · exact w
          · exact absurd ((l16 (by omega)).mpr w) g
        have hk32 : k < 32 := by omega
        obtain ⟨p1, p2, -⟩ := pm_lt k hk32
        have hpr := pm_pr k hk32
        refine sp_prime hk32 hkn (fun c' f31' hkn' => ?_)
        refine sp_meliminate (N := fun i => (N i : Int)) hpr (by omega) hn (fun i hi => ⟨(hc i hi).1, ?_, ?_⟩) (fun i j hi hj => ⟨(hc i hi).2 j hj, ?_⟩) s5 (fun d C f' hd0 hd hcd hC hx => ⟨fun w => ?_, fun _ => ⟨i16 hu16, n + 1, ?_⟩⟩) (fun f' hdv => ⟨fun _ => ?_, fun w => absurd (by decide) w⟩)
        · have := (hok2 i hi).1.2
          omega
        · have := sn_mem (f := a i) (n + 1) i (by omega)
          have := (hok2 i hi).2
          omega
        · have := hb i j hi hj
          omega
        · have := (l_eq0 (b := 0) (by omega) (by omega)).mp w
          omega
        · rw [ic (show u < 2 ^ 31 by omega)]
          have hdD : d = D % pm_ k := by
            rw [s3] at hcd
            have h1 := nat_cg hcd
            rw [Nat.mod_eq_of_lt hd] at h1
            exact h1.symm
          have rest : ∀ (m2 i : Nat) (frs' : Nat → Int64), i + m2 = n → (∀ r, r < i → frs' (u * 41 + r) = lN (N r % pm_ k)) → (∀ s, s < u * 41 → frs' s = frs s) → wp_Model_workOut_49 post th (nI n) vh vp fw fp (wp_Model_workOut_7 post th (nI n) vh vp fw fp (m + 1)) (m2 + 1) (nI k) (lN (pm_ k)) (lN d) (nI i) (nI c') (nI u) f31' (vp_updL fpr u (lN (pm_ k))) frs' f' dgs z := by
            intro m2
            induction m2 with
            | zero =>
              intro i frs' hi h1 h2
              have ei : i = n := by omega
              subst ei
              unfold wp_Model_workOut_49
              refine ⟨fun _ => ?_, fun w => absurd (nI_le (Nat.le_refl i) (by omega)) w⟩
              have e40 : 41 * nI u + 40 = nI (u * 41 + 40) := j41 u 40
              rw [e40, ic (show u * 41 + 40 < 2 ^ 31 by omega)]
              refine ⟨vp_in_nI (by omega) (by decide), fun x ex => ?_⟩
              unfold wp_Model_workOut_126
              intro y ey
              rw [ex, ey, nI_1, nI_1, hdD]
              refine ih (k + 1) (u + 1) s Sk c' _ f31' _ _ f' (by omega) (by omega) (by omega) hkn' (wk_add hn hk32 hwk (fun r hr => ?_) ?_ (fun s hs => ?_)) hSk hSl (fun j hj hj2 => hSc j (by omega) hj2)
              · rw [pk_uLn (by omega)]
                exact h1 r hr
              · rw [pk_uLs]
              · rw [pk_uLn (by omega)]
                exact h2 s hs
            | succ m2 ih2 =>
              intro i frs' hi h1 h2
              have hin : i < n := by omega
              obtain ⟨y1, y2⟩ := hx i hin
              have hm : C i n * d ≤ 2147483647 * 2147483647 := Nat.mul_le_mul (by omega) (by omega)
              unfold wp_Model_workOut_49
              refine ⟨fun w => absurd ((nI_leI (by omega) (by omega)).mp w) (by omega), fun _ => ?_⟩
              rw [j41, j41, c41 (i := i) (j := n) (by omega) (by omega), ic (show u * 41 + i < 2 ^ 31 by omega), hC i n hin (Nat.le_refl n)]
              refine ⟨v41 (by omega) (by omega), l_ne0 (by omega) (by omega), vp_in_nI (by omega) (by decide), fun x ex => ?_⟩
              rw [ex, nI_1, lN_mul, pk_lRem (by omega) (by omega) (by omega)]
              refine ih2 (i + 1) _ (by omega) (fun r hr => ?_) (fun s hs => ?_)
              · by_cases w : r = i
                · subst w
                  rw [pk_uLs]
                  have h1 : cg (pm_ k) ((C r n * d : Nat) : Int) (N r : Int) := by
                    rw [Nat.mul_comm, Int.natCast_mul]
                    exact cg_tr (cg_mul (cg_sy hcd) (cg_rf _ _)) (cg_sy y2)
                  rw [nat_cg h1]
                · rw [pk_uLn (by omega)]
                  exact h1 r (by omega)
              · rw [pk_uLn (by omega)]
                exact h2 s hs
          exact rest n 0 frs (by omega) (fun r h => absurd h (by omega)) (fun s _ => rfl)
        · have hdv2 : pm_ k ∣ D := by
            rw [s3] at hdv
            exact Int.ofNat_dvd.mp hdv
          unfold wp_Model_workOut_126
          intro x ex
          rw [ex, nI_1]
          refine ih (k + 1) u (s + 1) (Sk * pm_ k) c' q f31' fpr frs f' (by omega) (by omega) hu hkn' (wk_skip hwk) (Nat.Coprime.mul_dvd_of_dvd_of_dvd (hSc k (Nat.le_refl k) hk32) hSk hdv2) ?_ (fun j hj hj2 => Nat.Coprime.mul_left (hSc j (by omega) hj2) (pm_cop hk32 hj2 (by omega)))
          have e4 : 2 ^ (30 * (s + 1)) = 2 ^ (30 * s) * 1073741824 := by rw [Nat.mul_add, Nat.pow_add]
          rw [e4]
          exact Nat.mul_le_mul hSl (by omega)
  exact ⟨33, main 32 0 0 0 1 c (fun _ => 0) f31 fpr frs frw rfl rfl (by omega) hk0 ⟨fun j h => absurd h (by omega), fun j i h => absurd h (by omega), fun j h => absurd h (by omega), fun h => absurd h (by omega), fun j _ _ => Nat.coprime_one_left _⟩ (Nat.one_dvd D) (by simp) (fun j _ _ => Nat.coprime_one_left _)⟩
