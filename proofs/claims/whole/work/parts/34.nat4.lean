/-! pure: Natural: shifts and twos -/
theorem i_of (x : Int32) : x = nI x.toBitVec.toNat := by
  obtain ⟨n, h, e⟩ := wb_of32 x
  rw [e, pk_tn h]
theorem nx_or (a b : Nat) : nI a ||| nI b = nI (a ||| b) := by
  rw [i_of (nI a ||| nI b)]
  have e : (nI a ||| nI b).toBitVec = BitVec.ofNat 32 (a ||| b) := by
    show BitVec.ofNat 32 a ||| BitVec.ofNat 32 b = _
    apply BitVec.eq_of_toNat_eq
    rw [BitVec.toNat_or, BitVec.toNat_ofNat, BitVec.toNat_ofNat, BitVec.toNat_ofNat, Nat.or_mod_two_pow]
  rw [e, BitVec.toNat_ofNat]
  show Int32.ofNat _ = Int32.ofNat _
  exact Int32.toBitVec_inj.mp (by
    show BitVec.ofNat 32 _ = BitVec.ofNat 32 _
    apply BitVec.eq_of_toNat_eq
    rw [BitVec.toNat_ofNat, BitVec.toNat_ofNat, Nat.mod_mod])
theorem i_shl {b d : Nat} (hb : b < 4294967296) (hd : d < 32) : nI b <<< (nI d &&& 31) = nI (b * 2 ^ d % 4294967296) := by
  rw [i_of (nI b <<< (nI d &&& 31)), pk_shl (nI b) (nI d &&& 31) d (s_l d hd), pk_tn hb]
theorem i_ushr {b d : Nat} (hb : b < 4294967296) (hd : d < 32) : ((nI b).toUInt32 >>> ((nI d).toUInt32 &&& Int32.toUInt32 31)).toInt32 = nI (b / 2 ^ d) := pk_ushrN hb (nI d) d (s_u d hd)
theorem sh_dg {N c : Nat} (hc : c ≤ 31) (k : Nat) : dg (N / 2 ^ c) k = dg N k / 2 ^ c + dg N (k + 1) * 2 ^ (31 - c) % 2147483648 := by
  have hPQ : 2147483648 = 2 ^ (31 - c) * 2 ^ c := by
    rw [← Nat.pow_add, show 31 - c + c = 31 by omega]
  have hP : 0 < 2 ^ c := Nat.pow_pos (by omega)
  have hQ : 0 < 2 ^ (31 - c) := Nat.pow_pos (by omega)
  have e : N / 2 ^ c / 2147483648 ^ k = N / 2147483648 ^ k / 2 ^ c := by rw [Nat.div_div_eq_div_mul, Nat.div_div_eq_div_mul, Nat.mul_comm]
  have h1 := hi_step N k
  have h2 := hi_step N (k + 1)
  have ha := dg_lt N k
  rw [show dg (N / 2 ^ c) k = N / 2 ^ c / 2147483648 ^ k % 2147483648 from rfl, e, h1, h2]
  generalize N / 2147483648 ^ (k + 1 + 1) = z
  generalize dg N (k + 1) = b
  generalize dg N k = a at ha ⊢
  generalize 2 ^ (31 - c) = Q at hPQ hQ ⊢
  generalize 2 ^ c = P at hPQ hP ⊢
  have ha2 : a / P < Q := by
    rw [Nat.div_lt_iff_lt_mul hP, ← hPQ]
    exact ha
  have e1 : (z * 2147483648 + b) * 2147483648 + a = a + P * ((z * 2147483648 + b) * Q) := by
    rw [show P * ((z * 2147483648 + b) * Q) = (z * 2147483648 + b) * (Q * P) by rw [Nat.mul_comm P, Nat.mul_assoc], ← hPQ, Nat.add_comm]
  rw [e1, Nat.add_mul_div_left _ _ hP]
  have e2 : a / P + (z * 2147483648 + b) * Q = a / P + b * Q + 2147483648 * (z * Q) := by
    rw [Nat.add_mul, show z * 2147483648 * Q = 2147483648 * (z * Q) by rw [Nat.mul_comm z, Nat.mul_assoc]]
    omega
  rw [e2, Nat.add_mul_mod_self_left]
  have e3 : b * Q % 2147483648 = Q * (b % P) := by
    rw [hPQ, Nat.mul_comm b Q, Nat.mul_mod_mul_left]
  have h3 : Q * (b % P) + Q ≤ 2147483648 := by
    have h4 : b % P + 1 ≤ P := Nat.mod_lt b hP
    have h5 : Q * (b % P + 1) ≤ Q * P := Nat.mul_le_mul_left Q h4
    rw [Nat.mul_add, Nat.mul_one, ← hPQ] at h5
    exact h5
  rw [Nat.add_mod, e3, Nat.mod_eq_of_lt (show a / P < 2147483648 by omega), Nat.mod_eq_of_lt (show a / P + Q * (b % P) < 2147483648 by omega)]
/-- one limb shifted, the next one's low places over it -/
theorem sh_limb {a b c : Nat} (ha : a < 2147483648) (hb : b < 2147483648) (hc : c ≤ 31) :
    ((nI a).toUInt32 >>> ((nI c).toUInt32 &&& Int32.toUInt32 31)).toInt32 ||| ((nI b <<< ((31 - nI c) &&& 31)) &&& 2147483647) = nI (a / 2 ^ c + b * 2 ^ (31 - c) % 2147483648) := by
  have hPQ : 2147483648 = 2 ^ (31 - c) * 2 ^ c := by
    rw [← Nat.pow_add, show 31 - c + c = 31 by omega]
  have hP : 0 < 2 ^ c := Nat.pow_pos (by omega)
  have e31 : (31 : Int32) - nI c = nI (31 - c) := pk_sub (a := 31) hc
  rw [e31, i_ushr (by omega) (by omega), i_shl (by omega) (by omega), i_mask (Nat.mod_lt _ (by omega)), nx_or]
  congr 1
  have e1 : b * 2 ^ (31 - c) % 4294967296 % 2147483648 = b * 2 ^ (31 - c) % 2147483648 := Nat.mod_mod_of_dvd _ ⟨2, rfl⟩
  have e2 : b * 2 ^ (31 - c) % 2147483648 = 2 ^ (31 - c) * (b % 2 ^ c) := by
    rw [Nat.mul_comm b]
    conv => lhs; rw [hPQ]
    rw [Nat.mul_mod_mul_left]
  have h3 : a / 2 ^ c < 2 ^ (31 - c) := by
    rw [Nat.div_lt_iff_lt_mul hP, ← hPQ]
    exact ha
  rw [e1, e2, Nat.or_comm, ← Nat.two_pow_add_eq_or_of_lt h3, Nat.add_comm]
theorem sp_shiftRight {f : Nat → Int32} {N c : Nat} {post : (Nat → Int32) → Prop} (hf : rp f N) (hN : bn N) (hc : c ≤ 31) (hp : ∀ f', rp f' (N / 2 ^ c) → post f') : wp_Natural_shiftRight post (nI c) f := by
  have z16 : dg N 16 = 0 := dg_hi hN
  have main : ∀ (m k : Nat) (f : Nat → Int32), k + m = 16 → (∀ j, j < 16 → f j = nI (if j < k then dg (N / 2 ^ c) j else dg N j)) → wp_Natural_shiftRight_2 post (m + 1) (nI c) (nI k) f := by
    intro m
    induction m with
    | zero =>
      intro k f hk hh
      unfold wp_Natural_shiftRight_2
      refine ⟨fun _ => hp _ (fun j hj => ?_), fun q => absurd ((l16 (by omega)).mpr (by omega)) q⟩
      rw [hh j hj, if_pos (by omega)]
    | succ m ih =>
      intro k f hk hh
      have put : ∀ y : Int32, y = nI (dg N (k + 1)) → wp_Natural_shiftRight_28 post (wp_Natural_shiftRight_2 post (m + 1)) (nI c) (nI k) y f := by
        intro y ey
        unfold wp_Natural_shiftRight_28
        refine ⟨i16 (by omega), i16 (by omega), fun x ex => ?_⟩
        rw [ex, nI_1, ey, ic (by omega), hh k (by omega), if_neg (by omega), sh_limb (dg_lt N k) (dg_lt N (k + 1)) hc, ← sh_dg hc k]
        refine ih (k + 1) _ (by omega) (fun j hj => ?_)
        by_cases q : j = k
        · rw [q, pk_us, if_pos (by omega)]
        · rw [pk_un q, hh j hj]
          by_cases q2 : j < k
          · rw [if_pos q2, if_pos (by omega)]
          · rw [if_neg q2, if_neg (by omega)]
      unfold wp_Natural_shiftRight_2
      refine ⟨fun q => absurd ((l16 (by omega)).mp q) (by omega), fun _ => ⟨fun q => ?_, fun q => ?_⟩⟩
      · rw [nI_1] at q
        have h16 : k + 1 = 16 := by have := (l16 (by omega)).mp q; omega
        exact put 0 (by rw [h16, z16]; rfl)
      · rw [nI_1] at q
        have h16 : k + 1 < 16 := by
          rcases Nat.lt_or_ge (k + 1) 16 with w | w
          · exact w
          · exact absurd ((l16 (by omega)).mpr w) q
        rw [nI_1]
        refine ⟨i16 h16, put _ ?_⟩
        rw [ic (by omega), hh (k + 1) h16, if_neg (by omega)]
  refine ⟨17, main 16 0 f rfl (fun j hj => ?_)⟩
  rw [if_neg (by omega)]
  exact hf j hj
/-! the lowest two -/
theorem od_and {o s : Nat} (ho : o % 2 = 1) (h : o < 2 ^ s) : o &&& (2 ^ s - o) = 1 := by
  have hs : 0 < s := by
    rcases Nat.eq_zero_or_pos s with q | q
    · subst q; simp at h; omega
    · exact q
  obtain ⟨u, rfl⟩ : ∃ u, o = u + 1 := ⟨o - 1, by omega⟩
  apply Nat.eq_of_testBit_eq
  intro i
  rw [Nat.testBit_and, Nat.testBit_two_pow_sub_succ (by omega)]
  cases i with
  | zero =>
    have h1 : (u + 1).testBit 0 = true := by rw [Nat.testBit_zero]; simp; omega
    have h2 : u.testBit 0 = false := by rw [Nat.testBit_zero]; simp; omega
    rw [h1, h2]
    simp [hs]
  | succ i =>
    have h1 : (u + 1).testBit (i + 1) = u.testBit (i + 1) := by
      rw [Nat.testBit_succ, Nat.testBit_succ]
      congr 1
      omega
    rw [h1]
    have h3 : (1 : Nat).testBit (i + 1) = false := by rw [Nat.testBit_succ]; simp
    rw [h3]
    cases u.testBit (i + 1) <;> simp
theorem low_and {a t o : Nat} (ha : a < 2147483648) (e : a = 2 ^ t * o) (ho : o % 2 = 1) (ht : t ≤ 31) : a &&& (4294967296 - a) = 2 ^ t := by
  have e32 : 4294967296 = 2 ^ t * 2 ^ (32 - t) := by rw [← Nat.pow_add, show t + (32 - t) = 32 by omega]
  have hP : 0 < 2 ^ t := Nat.pow_pos (by omega)
  have ho2 : o < 2 ^ (32 - t) := by
    have h1 : 2 ^ t * o < 2 ^ t * 2 ^ (32 - t) := by rw [← e, ← e32]; omega
    exact Nat.lt_of_mul_lt_mul_left h1
  rw [e]
  conv => lhs; rw [e32]
  rw [← Nat.mul_sub]
  have sh : ∀ x : Nat, 2 ^ t * x = x <<< t := fun x => by rw [Nat.shiftLeft_eq, Nat.mul_comm]
  rw [sh o, sh (2 ^ (32 - t) - o), ← Nat.shiftLeft_and_distrib, od_and ho ho2, Nat.shiftLeft_eq, Nat.one_mul]
def bc_ (x0 : Int32) : Int32 :=
  let x1 := x0 - (((x0.toUInt32 >>> ((1 : Int32).toUInt32 &&& Int32.toUInt32 31)).toInt32) &&& 1431655765)
  let x2 := (x1 &&& 858993459) + (((x1.toUInt32 >>> ((2 : Int32).toUInt32 &&& Int32.toUInt32 31)).toInt32) &&& 858993459)
  let x3 := (x2 + ((x2.toUInt32 >>> ((4 : Int32).toUInt32 &&& Int32.toUInt32 31)).toInt32)) &&& 252645135
  let x4 := x3 + ((x3.toUInt32 >>> ((8 : Int32).toUInt32 &&& Int32.toUInt32 31)).toInt32)
  let x5 := x4 + ((x4.toUInt32 >>> ((16 : Int32).toUInt32 &&& Int32.toUInt32 31)).toInt32)
  x5 &&& 63
theorem bc_ones : ∀ t, t < 32 → bc_ (nI (2 ^ t - 1)) = nI t := by decide
theorem sp_bitCount {t : Nat} (ht : t < 32) {post : Int32 → Prop} (hp : post (nI t)) : wp_Integer_bitCount post (nI (2 ^ t - 1)) := by
  unfold wp_Integer_bitCount
  intro x1 e1 x2 e2 x3 e3 x4 e4 x5 e5
  have e : x5 &&& 63 = bc_ (nI (2 ^ t - 1)) := by
    rw [e5, e4, e3, e2, e1]
    rfl
  rw [e, bc_ones t ht]
  exact hp
theorem two_out : ∀ (a : Nat), 0 < a → ∃ t o, a = 2 ^ t * o ∧ o % 2 = 1 := by
  intro a
  induction a using Nat.strongRecOn with
  | _ a ih =>
    intro ha
    rcases Nat.mod_two_eq_zero_or_one a with q | q
    · obtain ⟨t, o, h1, h2⟩ := ih (a / 2) (by omega) (by omega)
      exact ⟨t + 1, o, by rw [Nat.pow_succ, Nat.mul_right_comm, ← h1]; omega, h2⟩
    · exact ⟨0, a, by simp, q⟩
theorem sp_lowTwos {f : Nat → Int32} {N : Nat} {post : Int32 → Prop} (hf : rp f N) (hp : ∀ t, t ≤ 31 → N = 2 ^ t * (N / 2 ^ t) → (t = 31 ∨ N / 2 ^ t % 2 = 1) → post (nI t)) : wp_Natural_lowTwos post f := by
  unfold wp_Natural_lowTwos
  refine ⟨i16 (k := 0) (by decide), fun x ex => ?_⟩
  have ex2 : x = nI (dg N 0) := by rw [ex]; exact hf 0 (by decide)
  have h0 := hi_step N 0
  rw [hi_0, Nat.zero_add, Nat.pow_one] at h0
  have hd := dg_lt N 0
  refine ⟨fun c => ?_, fun c => ?_⟩
  · rw [ex2] at c
    have c' := (nI_i0 (dg31 N 0)).mp c
    exact hp 31 (by omega) (by omega) (Or.inl rfl)
  · rw [ex2] at c
    have hpos : 0 < dg N 0 := Nat.pos_of_ne_zero (fun q => c ((nI_i0 (dg31 N 0)).mpr q))
    obtain ⟨t, o, e, ho⟩ := two_out (dg N 0) hpos
    have ht : t < 31 := by
      rcases Nat.lt_or_ge t 31 with q | q
      · exact q
      · have h1 : 2 ^ 31 ≤ 2 ^ t := Nat.pow_le_pow_right (by omega) q
        have h2 : 2 ^ t * 1 ≤ 2 ^ t * o := Nat.mul_le_mul_left _ (by omega)
        omega
    have eneg : -(nI (dg N 0)) = nI (4294967296 - dg N 0) := by
      have h := nI_sb (a := 0) (b := dg N 0) (by omega)
      rw [nI_0, Int32.zero_sub, Nat.add_zero] at h
      exact h
    have e1 : (x &&& (-x)) - 1 = nI (2 ^ t - 1) := by
      rw [ex2, eneg, nx_and, low_and hd e ho (by omega)]
      have hP : 0 < 2 ^ t := Nat.pow_pos (by omega)
      exact pk_sub (b := 1) hP
    rw [e1]
    refine sp_bitCount (by omega) ?_
    show post (nI t)
    have hP : 0 < 2 ^ t := Nat.pow_pos (by omega)
    have e31 : 2147483648 = 2 ^ t * (2 * 2 ^ (30 - t)) := by rw [← Nat.pow_succ', ← Nat.pow_add, show t + (30 - t).succ = 31 by omega]
    have eN : N = 2 ^ t * (2 * 2 ^ (30 - t) * (N / 2147483648) + o) := by
      rw [Nat.mul_add, ← e, ← Nat.mul_assoc, ← e31]
      omega
    have eq : N / 2 ^ t = 2 * 2 ^ (30 - t) * (N / 2147483648) + o := by
      conv => lhs; rw [eN]
      rw [Nat.mul_div_cancel_left _ hP]
    refine hp t (by omega) ?_ (Or.inr ?_)
    · rw [eq]; exact eN
    · rw [eq, Nat.mul_assoc]
      omega
theorem sp_dropTwos {f : Nat → Int32} {N : Nat} {post : (Nat → Int32) → Prop} (hf : rp f N) (hN : bn N) (hpos : 0 < N) (hp : ∀ t X f', N = 2 ^ t * X → X % 2 = 1 → rp f' X → post f') : wp_Natural_dropTwos post f := by
  have bx : ∀ {s X : Nat}, N = 2 ^ s * X → bn X ∧ 0 < X := by
    intro s X e
    have hP : 0 < 2 ^ s := Nat.pow_pos (by omega)
    refine ⟨?_, ?_⟩
    · have h1 : X ≤ N := by rw [e]; exact Nat.le_mul_of_pos_left X hP
      exact Nat.lt_of_le_of_lt h1 hN
    · rcases Nat.eq_zero_or_pos X with q | q
      · subst q; omega
      · exact q
  have big : ∀ {s X : Nat}, N = 2 ^ s * X → 496 ≤ s → False := by
    intro s X e hs
    have h1 : 2 ^ 496 ≤ 2 ^ s := Nat.pow_le_pow_right (by omega) hs
    have h2 : 2 ^ s * 1 ≤ 2 ^ s * X := Nat.mul_le_mul_left _ (bx e).2
    have h3 : N < 2147483648 ^ 16 := hN
    rw [b31] at h3
    omega
  have main : ∀ (m k : Nat) (f : Nat → Int32) (s X : Nat), k + m = 17 → N = 2 ^ s * X → (X % 2 = 1 ∨ 31 * k ≤ s) → rp f X → wp_Natural_dropTwos_2 post (m + 1) (nI k) f := by
    intro m
    induction m with
    | zero =>
      intro k f s X hk e hx hfx
      unfold wp_Natural_dropTwos_2
      refine ⟨fun _ => ?_, fun q => absurd ((nI_ltI (a := 16) (by decide) (by omega)).mpr (by omega)) q⟩
      rcases hx with hx | hx
      · exact hp s X f e hx hfx
      · exact (big e (by omega)).elim
    | succ m ih =>
      intro k f s X hk e hx hfx
      unfold wp_Natural_dropTwos_2
      refine ⟨fun q => absurd ((nI_ltI (a := 16) (by decide) (by omega)).mp q) (by omega), fun _ => ?_⟩
      refine sp_isEven hfx (fun h2 => ⟨fun q => absurd q (by decide), fun _ => ?_⟩) (fun h2 => ⟨fun _ => hp s X f e h2 hfx, fun q => absurd rfl q⟩)
      refine sp_lowTwos hfx (fun t ht et hto => ?_)
      refine sp_shiftRight hfx (bx e).1 ht (fun f' hf' => ?_)
      intro y ey
      rw [ey, nI_1]
      have e2 : N = 2 ^ (s + t) * (X / 2 ^ t) := by rw [Nat.pow_add, Nat.mul_assoc, ← et]; exact e
      refine ih (k + 1) f' (s + t) (X / 2 ^ t) (by omega) e2 ?_ hf'
      rcases hto with rfl | h3
      · rcases hx with hx | hx
        · omega
        · exact Or.inr (by omega)
      · exact Or.inl h3
  exact ⟨18, main 17 0 f 0 N rfl (by simp) (Or.inr (by omega)) hf⟩
