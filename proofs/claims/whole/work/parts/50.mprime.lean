/-! pure: the reference's primes are the same 32 -/
def fc_L : List Nat := [0, 5, 3, 2699, 7, 3, 5, 5843, 3, 0, 47, 3, 79, 14741, 3, 6733, 5, 3, 7, 41, 3, 5, 1187, 3, 1657, 7, 3, 59, 11, 3, 0, 5, 3, 89, 0, 3, 5, 23, 3, 7, 11503, 3, 0, 167, 3, 3181, 5, 3, 32063, 0, 3, 5, 0, 3, 409, 17, 3, 13, 19, 3, 7, 5, 3, 53, 257, 3, 5, 7, 3, 149, 13, 3, 11, 523, 3, 0, 5, 3, 31, 0, 3, 5, 30649, 3, 191, 0, 3, 107, 7, 3, 61, 5, 3, 251, 11, 3, 5, 229, 3, 1723, 109, 3, 7, 37, 3, 11, 5, 3, 2083, 7, 3, 5, 0, 3, 139, 19, 3, 73, 233, 3, 197, 5, 3, 7, 0, 3, 5, 11, 3, 23, 7, 3, 6689, 46271, 3, 13, 5, 3, 11, 181, 3, 5, 41, 3, 7, 59, 3, 0, 13, 3, 2087, 5, 3, 19, 43, 3, 5, 17, 3, 521, 11, 3, 0, 29, 3, 7, 5, 3, 101, 53, 3, 5, 7, 3, 13, 23, 3, 37, 97, 3, 3313, 5, 3, 41, 241, 3, 5, 13, 3, 0, 73, 3, 29, 7, 3, 1709, 5, 3, 23, 0, 3, 5, 31, 3, 11, 0, 3, 7, 17, 3, 19, 5, 3, 13, 7, 3, 5, 1373, 3, 157, 1279, 3, 53, 44041, 3, 17, 5, 3, 7, 19, 3, 5, 7573, 3, 0, 7, 3, 11, 0, 3, 43, 5, 3, 15361, 23, 3, 5, 83, 3, 7, 29, 3, 13, 139, 3, 0, 5, 3, 131, 11, 3, 5, 0, 3, 31, 13, 3, 19, 71, 3, 7, 5, 3, 61, 1069, 3, 5, 7, 3, 29, 223, 3, 137, 43, 3, 0, 5, 3, 37, 0, 3, 5, 11, 3, 0, 31, 3, 0, 7, 3, 89, 5, 3, 11, 13, 3, 5, 0, 3, 0, 17, 3, 7, 23, 3, 5987, 5, 3, 109, 7, 3, 5, 59, 3, 19, 11, 3, 17, 53, 3, 13, 5, 3, 7, 61, 3, 5, 29, 3, 47, 7, 3, 8387, 13, 3, 283, 5, 3, 0, 0, 3, 5, 0, 3, 7, 0, 3, 31, 11, 3, 499, 5, 3, 0]
def fc_ (o : Nat) : Nat := fc_L.getD o 0
theorem fc_ok : ∀ o, o < 364 → fc_ o ≠ 0 → fc_ o % 2 = 1 ∧ 3 ≤ fc_ o ∧ fc_ o * fc_ o ≤ 2147483647 - 2 * o ∧ (2147483647 - 2 * o) % fc_ o = 0 := by decide +kernel
def po_ (c : Nat) : Nat := (2147483647 - pm_ c) / 2
theorem po_ok : ∀ c, c < 32 → pm_ c = 2147483647 - 2 * po_ c ∧ po_ c < 364 := by decide +kernel
theorem po_0 : po_ 0 = 0 := by decide +kernel
theorem po_gap : ∀ c, c < 31 → po_ c < po_ (c + 1) ∧ ∀ o, o < 364 → po_ c < o → o < po_ (c + 1) → fc_ o ≠ 0 := by decide +kernel
theorem sp_isPrime {v : Nat} {post : Int32 → Prop} (hv : v < 2147483648) (h1 : (∀ d, d % 2 = 1 → 3 ≤ d → d * d ≤ v → ¬ v % d = 0) → post 1) (h0 : ∀ d, d % 2 = 1 → 3 ≤ d → d * d ≤ v → v % d = 0 → post 0) : wp_Model_isPrime post (lN v) := by
  have main : ∀ (n d : Nat), 46343 ≤ d + n → d < 46345 → d % 2 = 1 → 3 ≤ d → (∀ e, e % 2 = 1 → 3 ≤ e → e < d → ¬ v % e = 0) → wp_Model_isPrime_4 post (n + 1) (lN v) (lN d) := by
    intro n
    induction n with
    | zero =>
      intro d hd hd2 ho h3 hz
      unfold wp_Model_isPrime_4
      have hsq : 46343 * 46343 ≤ d * d := Nat.mul_le_mul (by omega) (by omega)
      have hsq2 : d * d ≤ 46345 * 46345 := Nat.mul_le_mul (by omega) (by omega)
      rw [lN_mul]
      refine ⟨fun _ => h1 (fun e he1 he2 he3 => ?_), fun c => absurd ?_ c⟩
      · refine hz e he1 he2 ?_
        rcases Nat.lt_or_ge e d with q | q
        · exact q
        · have := Nat.mul_le_mul q q
          omega
      · rw [lg_cmp_gt]
        exact (pk_lLT (by omega) (by omega)).mpr (by omega)
    | succ n ih =>
      intro d hd hd2 ho h3 hz
      unfold wp_Model_isPrime_4
      have hsq2 : d * d ≤ 46345 * 46345 := Nat.mul_le_mul (by omega) (by omega)
      rw [lN_mul, lg_cmp_gt, pk_lRem (by omega) (by omega) (by omega)]
      have hm := Nat.mod_lt v (show 0 < d by omega)
      refine ⟨fun c => h1 (fun e he1 he2 he3 => ?_), fun c => ⟨l_ne0 (by omega) (by omega), fun c2 => ?_, fun c2 x ex => ?_⟩⟩
      · have c' := (pk_lLT (a := v) (b := d * d) (by omega) (by omega)).mp c
        refine hz e he1 he2 ?_
        rcases Nat.lt_or_ge e d with q | q
        · exact q
        · have := Nat.mul_le_mul q q
          omega
      · have c' : ¬ v < d * d := fun q => c ((pk_lLT (by omega) (by omega)).mpr q)
        have c2' := (l_eq0 (b := 0) (by omega) (by omega)).mp c2
        exact h0 d ho h3 (by omega) c2'
      · have c' : ¬ v < d * d := fun q => c ((pk_lLT (by omega) (by omega)).mpr q)
        have hd3 : d < 46343 := by
          rcases Nat.lt_or_ge d 46343 with q | q
          · exact q
          · have : 46343 * 46343 ≤ d * d := Nat.mul_le_mul q q
            omega
        have c2' : ¬ v % d = 0 := fun q => c2 ((l_eq0 (b := 0) (by omega) (by omega)).mpr q)
        have ex2 : x = lN (d + 2) := by rw [ex]; exact lN_add d 2
        rw [ex2]
        refine ih (d + 2) (by omega) (by omega) (by omega) (by omega) (fun e he1 he2 he3 => ?_)
        by_cases q : e = d
        · rw [q]; exact c2'
        · exact hz e he1 he2 (by omega)
  exact ⟨46341, main 46340 3 (by omega) (by omega) (by omega) (by omega) (fun e _ h2 h3 => absurd h2 (by omega))⟩
theorem sp_isPrime_no {o : Nat} {post : Int32 → Prop} (ho : o < 364) (hf : fc_ o ≠ 0) (hp : post 0) : wp_Model_isPrime post (lN (2147483647 - 2 * o)) := by
  obtain ⟨f1, f2, f3, f4⟩ := fc_ok o ho hf
  exact sp_isPrime (by omega) (fun h => absurd f4 (h (fc_ o) f1 f2 f3)) (fun _ _ _ _ _ => hp)
theorem sp_isPrime_yes {c : Nat} {post : Int32 → Prop} (hc : c < 32) (hp : post 1) : wp_Model_isPrime post (lN (pm_ c)) := by
  have hpr := pm_pr c hc
  obtain ⟨p1, p2, -⟩ := pm_lt c hc
  refine sp_isPrime p2 (fun _ => hp) (fun d _ h3 hle hd => ?_)
  rcases hpr.2 d (Nat.dvd_of_mod_eq_zero hd) with q | q
  · omega
  · subst q
    have : 2 * pm_ c ≤ pm_ c * pm_ c := Nat.mul_le_mul_right _ (by omega)
    omega
/-- what the reference knows of its primes -/
def kn (c : Nat) (f : Nat → Int64) : Prop := c ≤ 32 ∧ ∀ j, j < c → f j = lN (pm_ j)
theorem sp_prime {k c : Nat} {th vn vh vm vp : Int32} {f : Nat → Int64} {post : Int64 → Int32 → (Nat → Int64) → Prop} (hk : k < 32) (hc : kn c f) (hp : ∀ c' f', kn c' f' → post (lN (pm_ k)) (nI c') f') : wp_Model_prime post th vn vh vm vp (nI k) (nI c) f := by
  have main : ∀ (m c : Nat) (f : Nat → Int64), k + 1 ≤ c + m → kn c f → wp_Model_prime_0 post th vn vh vm vp (m + 1) (nI k) (nI c) f := by
    intro m
    induction m with
    | zero =>
      intro c f hm hc
      have h32 := hc.1
      unfold wp_Model_prime_0
      refine ⟨fun _ => ⟨vp_in_nI (by omega) (by decide), ?_⟩, fun q => absurd (nI_lt (by omega) (by omega)) q⟩
      rw [ic (by omega), hc.2 k (by omega)]
      exact hp c f hc
    | succ m ih =>
      intro c f hm hc
      have h32 := hc.1
      have find : ¬ k < c → ∀ (r o : Nat), o + r = po_ c → (∀ q, o ≤ q → q < po_ c → fc_ q ≠ 0) → wp_Model_prime_37 post th vn vh vm vp (wp_Model_prime_0 post th vn vh vm vp (m + 1)) (r + 1) (nI k) (lN (2147483647 - 2 * o)) (nI c) f := by
        intro hkc r
        have hc32 : c < 32 := by omega
        obtain ⟨e1, e2⟩ := po_ok c hc32
        induction r with
        | zero =>
          intro o ho hz
          have eo : o = po_ c := by omega
          unfold wp_Model_prime_37
          rw [eo, ← e1]
          refine sp_isPrime_yes hc32 ⟨fun q => absurd q (by decide), fun _ => ⟨vp_in_nI (by omega) (by decide), fun x ex => ?_⟩⟩
          rw [ex, nI_1, ic (by omega)]
          refine ih (c + 1) _ (by omega) ⟨by omega, fun j hj => ?_⟩
          by_cases q : j = c
          · rw [q, pk_uLs]
          · rw [pk_uLn q]
            exact hc.2 j (by omega)
        | succ r ihr =>
          intro o ho hz
          unfold wp_Model_prime_37
          refine sp_isPrime_no (by omega) (hz o (Nat.le_refl o) (by omega)) ⟨fun _ x ex => ?_, fun q => absurd rfl q⟩
          have ex2 : x = lN (2147483647 - 2 * (o + 1)) := by
            rw [ex, show 2147483647 - 2 * (o + 1) = 2147483647 - 2 * o - 2 by omega]
            exact lN_sub (b := 2) (by omega)
          rw [ex2]
          exact ihr (o + 1) (by omega) (fun q h1 h2 => hz q (by omega) h2)
      unfold wp_Model_prime_0
      refine ⟨fun q => ⟨vp_in_nI (by omega) (by decide), ?_⟩, fun q => ⟨fun e => ?_, fun e => ⟨?_, ?_⟩⟩⟩
      · have q' := (nI_ltI (by omega) (by omega)).mp q
        rw [ic (by omega), hc.2 k q']
        exact hp c f hc
      · have e' : c = 0 := (nI_i0 (by omega)).mp e
        subst e'
        exact ⟨1, find (by omega) 0 0 (by rw [po_0]) (fun q h1 h2 => by rw [po_0] at h2; omega)⟩
      · have hc0 : c ≠ 0 := fun z => e (by rw [z]; rfl)
        obtain ⟨c', rfl⟩ : ∃ c', c = c' + 1 := ⟨c - 1, by omega⟩
        rw [nI_pred]
        exact vp_in_nI (by omega) (by decide)
      · have hc0 : c ≠ 0 := fun z => e (by rw [z]; rfl)
        have hkc : ¬ k < c := fun z => q (nI_lt z (by omega))
        obtain ⟨c', rfl⟩ : ∃ c', c = c' + 1 := ⟨c - 1, by omega⟩
        rw [nI_pred, ic (by omega), hc.2 c' (by omega)]
        obtain ⟨e1, e2⟩ := po_ok c' (by omega)
        obtain ⟨g1, g2⟩ := po_gap c' (by omega)
        have e3 : lN (pm_ c') - 2 = lN (2147483647 - 2 * (po_ c' + 1)) := by
          rw [e1, show 2147483647 - 2 * (po_ c' + 1) = 2147483647 - 2 * po_ c' - 2 by omega]
          exact lN_sub (b := 2) (by omega)
        have h5 := (po_ok (c' + 1) (by omega)).2
        unfold wp_Model_prime_36
        rw [e3]
        exact ⟨po_ (c' + 1) - (po_ c' + 1) + 1, find hkc _ _ (by omega) (fun z h1 h2 => g2 z (by omega) (by omega) h2)⟩
  exact ⟨k + 2, main (k + 1) c f (by omega) hc⟩
