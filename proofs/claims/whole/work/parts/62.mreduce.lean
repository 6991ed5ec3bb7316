/-! pure: the reference's least terms -/
theorem lt520 {N : Nat} (h : N < 2 ^ 520) : b22 N := b22_of (by
  have b528 : 2 ^ 528 = 2 ^ 520 * 256 := by rw [show 528 = 520 + 8 by omega, Nat.pow_add]
  omega)
theorem sp_mreduce {A B i : Nat} {th vn vh vk vm vp : Int32} {z : Nat → Int32} {post : (Nat → Int32) → Prop} (hi : i < 40) (hA : rq z (22 * i) A) (hB : rq z 880 B) (hA2 : A < 2 ^ 520) (hB0 : 0 < B) (hB2 : B < 2 ^ 520)
    (hp : ∀ z', rq z' 902 (A / Nat.gcd A B) → rq z' 924 (B / Nat.gcd A B) → (∀ s, s < 902 → z' s = z s) → post z') : wp_Model_reduce post th vn vh vk vm vp (nI i) z := by
  have e22 : (22 : Int32) * nI i = nI (22 * i) := pk_mul 22 i
  have c9 : (902 : Int32) = nI 902 ∧ (924 : Int32) = nI 924 ∧ (946 : Int32) = nI 946 ∧ (968 : Int32) = nI 968 ∧ (990 : Int32) = nI 990 ∧ (1012 : Int32) = nI 1012 ∧ (880 : Int32) = nI 880 := ⟨rfl, rfl, rfl, rfl, rfl, rfl, rfl⟩
  obtain ⟨k1, k2, k3, k4, k5, k6, k7⟩ := c9
  have main : ∀ (m X Y : Nat) (z' : Nat → Int32), X < m → X < 2 ^ 520 → 0 < Y → Y < 2 ^ 520 → Nat.gcd X Y = Nat.gcd A B → rq z' 946 X → rq z' 968 Y → (∀ s, s < 902 → z' s = z s) → wp_Model_reduce_21 post th vn vh vk vm vp m (nI i) z' := by
    intro m
    induction m with
    | zero => intro X Y z' h; exact absurd h (by omega)
    | succ m ih =>
      intro X Y z' hX hX2 hY0 hY2 hg h1 h2 hs
      have hA' : rq z' (22 * i) A := rq_keep hA (fun k hk => hs _ (by omega))
      have hB' : rq z' 880 B := rq_keep hB (fun k hk => hs _ (by omega))
      unfold wp_Model_reduce_21
      rw [e22, k1, k2, k3, k4, k5, k6, k7]
      refine sp_misZero (by omega) h1 (lt520 hX2) (fun e => ⟨fun q => absurd q (by decide), fun _ => ?_⟩) (fun e => ⟨fun _ => ?_, fun q => absurd rfl q⟩)
      · subst e
        rw [Nat.gcd_zero_left] at hg
        refine sp_divide (by omega) (by omega) hA' (lt520 hA2) h2 hY0 hY2 (fun z1 q1 r1 s1 => ?_)
        refine sp_mcopy (by omega) (by omega) (by omega) (fun z2 c2 s2 => ?_)
        have hB2' : rq z2 880 B := rq_keep hB' (fun k hk => by rw [s2 _ (by omega), s1 _ (by omega)])
        have hY2' : rq z2 968 Y := rq_keep h2 (fun k hk => by rw [s2 _ (by omega), s1 _ (by omega)])
        refine sp_divide (by omega) (by omega) hB2' (lt520 hB2) hY2' hY0 hY2 (fun z3 q3 r3 s3 => ?_)
        refine sp_mcopy (by omega) (by omega) (by omega) (fun z4 c4 s4 => hp z4 (fun k hk => ?_) (fun k hk => ?_) (fun s g => ?_))
        · rw [s4 _ (by omega), s3 _ (by omega), c2 k hk, q1 k hk, hg]
        · rw [c4 k hk, q3 k hk, hg]
        · rw [s4 _ (by omega), s3 _ (by omega), s2 _ (by omega), s1 _ (by omega), hs s g]
      · have hX0 : 0 < X := by omega
        have hmod := Nat.mod_lt Y hX0
        refine sp_divide (by omega) (by omega) h2 (lt520 hY2) h1 hX0 hX2 (fun z1 q1 r1 s1 => ?_)
        refine sp_mcopy (by omega) (by omega) (by omega) (fun z2 c2 s2 => ?_)
        refine sp_mcopy (by omega) (by omega) (by omega) (fun z3 c3 s3 => ?_)
        refine ih (Y % X) X z3 (by omega) (by omega) hX0 hX2 ?_ (fun k hk => ?_) (fun k hk => ?_) (fun s g => ?_)
        · rw [← hg, ← Nat.gcd_rec]
        · rw [c3 k hk, s2 _ (by omega), r1 k hk]
        · rw [s3 _ (by omega), c2 k hk, s1 _ (by omega), h1 k hk]
        · rw [s3 _ (by omega), s2 _ (by omega), s1 _ (by omega), hs s g]
  unfold wp_Model_reduce
  rw [e22, k3, k4, k7]
  refine sp_mcopy (by omega) (by omega) (by omega) (fun z1 c1 s1 => sp_mcopy (by omega) (by omega) (by omega) (fun z2 c2 s2 => ⟨A + 1, main (A + 1) A B z2 (by omega) hA2 hB0 hB2 rfl (fun k hk => ?_) (fun k hk => ?_) (fun s g => ?_)⟩))
  · rw [s2 _ (by omega), c1 k hk]
    exact hA k hk
  · rw [c2 k hk, s1 _ (by omega)]
    exact hB k hk
  · rw [s2 _ (by omega), s1 _ (by omega)]
