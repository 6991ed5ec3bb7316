/-! pure: the reference divides -/
theorem eg_ma (Z q d w : Nat) : eg (Z * q + d) w = ((Z % 16777216 ^ w * q + d) / 16777216 ^ w + eg Z w * q) % 16777216 := by
  have lo : Z % 16777216 ^ (w + 1) * q + d = Z % 16777216 ^ w * q + d + eg Z w * q * 16777216 ^ w := by
    rw [eg_lo Z w, Nat.add_mul]
    have : eg Z w * 16777216 ^ w * q = eg Z w * q * 16777216 ^ w := Nat.mul_right_comm _ _ _
    omega
  refine eg_of ?_
  have e5 : ∀ Q, (Z * q + d) % Q = (Z % Q * q + d) % Q := fun Q => by rw [Nat.add_mod (Z % Q * q), Nat.mod_mul_mod, ← Nat.add_mod]
  rw [← lo]
  exact e5 _
theorem eg_mac (Z q d w : Nat) : (Z % 16777216 ^ (w + 1) * q + d) / 16777216 ^ (w + 1) = ((Z % 16777216 ^ w * q + d) / 16777216 ^ w + eg Z w * q) / 16777216 := by
  have lo : Z % 16777216 ^ (w + 1) * q + d = Z % 16777216 ^ w * q + d + eg Z w * q * 16777216 ^ w := by
    rw [eg_lo Z w, Nat.add_mul]
    have : eg Z w * 16777216 ^ w * q = eg Z w * q * 16777216 ^ w := Nat.mul_right_comm _ _ _
    omega
  rw [lo, eg_step]
theorem i_mask24 {n : Nat} (h : n < 4294967296) : nI n &&& 16777215 = nI (n % 16777216) := pk_andN (m := 16777215) h 24 (by decide)
theorem i_shr24 {n : Nat} (h : n < 2 ^ 31) : nI n >>> ((24 : Int32) &&& 31) = nI (n / 16777216) := pk_shrN h _ 24 (by decide)
theorem i_shr_neg {y : Nat} (h0 : 0 < y) (h : y ≤ 16777216) : nI (4294967296 - y) >>> ((24 : Int32) &&& 31) = nI 4294967295 := by
  apply Int32.toInt_inj.mp
  rw [pk_shr _ _ 24 (by decide)]
  have e1 : (nI (4294967296 - y)).toInt = -(y : Int) := by
    show (Int32.ofNat (4294967296 - y)).toInt = _
    rw [Int32.toInt_ofNat']
    have es : Int32.size = 4294967296 := rfl
    rw [Int.bmod_def, es]
    omega
  rw [e1, Int.shiftRight_eq_div_pow]
  have e2 : (nI 4294967295).toInt = -1 := by decide
  rw [e2]
  omega
/-- one place more -/
theorem sp_dshift {th vn vh vk vm vp : Int32} {R i0 : Nat} {ra rb bt : Int32} {K : Int32 → Int32 → Int32 → (Nat → Int32) → Prop} {post : (Nat → Int32) → Prop} {z : Nat → Int32} (hi : i0 < 2) (hz : rq z 1012 R)
    (hK : ∀ z', rq z' 1012 (R * 2 + i0) → (∀ s, s < 1012 ∨ 1034 ≤ s → z' s = z s) → wp_Model_order (fun r_7 => ((r_7 < 0 → (wp_Model_divide_202 post th vn vh vk vm vp K ra rb bt z')) ∧ (¬ r_7 < 0 → (∃ k9, wp_Model_divide_118 post th vn vh vk vm vp K k9 ra rb bt 0 0 z')))) th vn vh vk vm vp z' 1012 rb) : ∃ k9, wp_Model_divide_47 post th vn vh vk vm vp K k9 ra rb bt (nI i0) 0 z := by
  have main : ∀ (m w c : Nat) (z' : Nat → Int32), w + m = 22 → c = (R % 16777216 ^ w * 2 + i0) / 16777216 ^ w → c < 2 → (∀ j, j < 22 → z' (1012 + j) = nI (if j < w then eg (R * 2 + i0) j else eg R j)) → (∀ s, s < 1012 ∨ 1034 ≤ s → z' s = z s) → wp_Model_divide_47 post th vn vh vk vm vp K (m + 1) ra rb bt (nI c) (nI w) z' := by
    intro m
    induction m with
    | zero =>
      intro w c z' hw hc hc2 h1 h2
      unfold wp_Model_divide_47
      refine ⟨fun _ => hK z' (fun j hj => ?_) h2, fun g => absurd ((l22 (by omega)).mpr (by omega)) g⟩
      rw [h1 j hj, if_pos (by omega)]
    | succ m ih =>
      intro w c z' hw hc hc2 h1 h2
      have e1 := eg_lt R w
      have ew : (1012 : Int32) + nI w = nI (1012 + w) := nI_add 1012 w
      unfold wp_Model_divide_47
      refine ⟨fun g => absurd ((l22 (by omega)).mp g) (by omega), fun _ => ?_⟩
      rw [ew, ic (by omega), h1 w (by omega), if_neg (by omega), pk_shlN _ 1 (by decide) (by omega), nx_or]
      have eor : eg R w * 2 ^ 1 ||| c = eg R w * 2 + c := by
        have := Nat.two_pow_add_eq_or_of_lt (i := 1) (b := c) hc2 (eg R w)
        rw [Nat.mul_comm, ← this]
      rw [eor]
      refine ⟨v1100 (by omega), fun x ex => ⟨v1100 (by omega), fun y ey u eu => ?_⟩⟩
      rw [ex, i_shr24 (by omega)] at ey
      rw [ey, eu, nI_1, ex, i_mask24 (by omega)]
      have ec : (R % 16777216 ^ (w + 1) * 2 + i0) / 16777216 ^ (w + 1) = (eg R w * 2 + c) / 16777216 := by
        rw [eg_mac, ← hc, Nat.add_comm]
      refine ih (w + 1) _ _ (by omega) ec.symm (by omega) (fun j hj => ?_) (fun s hs => ?_)
      · by_cases g : j = w
        · rw [g, pk_us, if_pos (by omega), eg_ma, ← hc, Nat.add_comm]
        · rw [pk_un (by omega), h1 j hj]
          by_cases g2 : j < w
          · rw [if_pos g2, if_pos (by omega)]
          · rw [if_neg g2, if_neg (by omega)]
      · rw [pk_un (by omega)]
        exact h2 s hs
  refine ⟨23, main 22 0 i0 z rfl ?_ hi (fun j hj => ?_) (fun s _ => rfl)⟩
  · simp [Nat.mod_one]
  · rw [if_neg (by omega)]
    exact hz j hj
/-- the rest less the divisor, and the bit -/
theorem sp_dsub {th vn vh vk vm vp : Int32} {R B b rb : Nat} {ra : Int32} {K : Int32 → Int32 → Int32 → (Nat → Int32) → Prop} {post : (Nat → Int32) → Prop} {z : Nat → Int32} (hb : b < 528) (hrb : rb + 22 ≤ 990) (hz : rq z 1012 R) (hy : rq z rb B) (hle : B ≤ R)
    (hK : ∀ z', rq z' 1012 (R - B) → (∀ s, s < 1012 ∨ 1034 ≤ s → z' s = z s) → wp_Model_divide_202 post th vn vh vk vm vp K ra (nI rb) (nI b) (upd z' (990 + b / 24) (z (990 + b / 24) ||| nI (2 ^ (b % 24))))) : ∃ k9, wp_Model_divide_118 post th vn vh vk vm vp K k9 ra (nI rb) (nI b) 0 0 z := by
  have main : ∀ (m w c : Nat) (x : Int32) (z' : Nat → Int32), w + m = 22 → (c = 0 ∧ x = 0 ∧ B % 16777216 ^ w ≤ R % 16777216 ^ w) ∨ (c = 1 ∧ x = nI 4294967295 ∧ R % 16777216 ^ w < B % 16777216 ^ w) → (∀ j, j < 22 → z' (1012 + j) = nI (if j < w then eg (R - B) j else eg R j)) → (∀ s, s < 1012 ∨ 1034 ≤ s → z' s = z s) → wp_Model_divide_118 post th vn vh vk vm vp K (m + 1) ra (nI rb) (nI b) x (nI w) z' := by
    intro m
    induction m with
    | zero =>
      intro w c x z' hw hc h1 h2
      have e24 : nI b / 24 = nI (b / 24) := pk_div (d := 24) (by omega) (by omega) (by omega)
      have e25 : nI b - nI b / 24 * 24 = nI (b % 24) := pk_rem (d := 24) (by omega) (by omega) (by omega)
      have e99 : (990 : Int32) + nI (b / 24) = nI (990 + b / 24) := nI_add 990 (b / 24)
      have hp : 2 ^ (b % 24) ≤ 2 ^ 24 := Nat.pow_le_pow_right (by omega) (by omega)
      have e1 : (1 : Int32) <<< (nI (b % 24) &&& 31) = nI (2 ^ (b % 24)) := by
        have := pk_shlN (n := 1) (nI (b % 24) &&& 31) (b % 24) (s_l _ (by omega)) (by omega)
        rw [Nat.one_mul] at this
        exact this
      unfold wp_Model_divide_118
      refine ⟨fun _ => ?_, fun g => absurd ((l22 (by omega)).mpr (by omega)) g⟩
      rw [e25, e24, e99, e1, ic (by omega), h2 (990 + b / 24) (by omega)]
      refine ⟨v1100 (by omega), v1100 (by omega), hK z' (fun j hj => ?_) h2⟩
      rw [h1 j hj, if_pos (by omega)]
    | succ m ih =>
      intro w c x z' hw hc h1 h2
      have eR := eg_lt R w
      have eB := eg_lt B w
      have ew : (1012 : Int32) + nI w = nI (1012 + w) := nI_add 1012 w
      obtain ⟨s1, s2⟩ := eg_sub (N := R) (M := B) (k := w) (c := c) hle (by rcases hc with ⟨q1, -, q3⟩ | ⟨q1, -, q3⟩; exact Or.inl ⟨q1, q3⟩; exact Or.inr ⟨q1, q3⟩)
      have next : ∀ (c' : Nat) (x' y : Int32) (v : Nat), y = nI (eg (R - B) w) → ((c' = 0 ∧ x' = 0 ∧ B % 16777216 ^ (w + 1) ≤ R % 16777216 ^ (w + 1)) ∨ (c' = 1 ∧ x' = nI 4294967295 ∧ R % 16777216 ^ (w + 1) < B % 16777216 ^ (w + 1))) → wp_Model_divide_118 post th vn vh vk vm vp K (m + 1) ra (nI rb) (nI b) x' (nI (w + 1)) (upd z' (1012 + w) y) := by
        intro c' x' y _ hy' hc'
        refine ih (w + 1) c' x' _ (by omega) hc' (fun j hj => ?_) (fun s hs => ?_)
        · by_cases g : j = w
          · rw [g, pk_us, if_pos (by omega), hy']
          · rw [pk_un (by omega), h1 j hj]
            by_cases g2 : j < w
            · rw [if_pos g2, if_pos (by omega)]
            · rw [if_neg g2, if_neg (by omega)]
        · rw [pk_un (by omega)]
          exact h2 s hs
      unfold wp_Model_divide_118
      refine ⟨fun g => absurd ((l22 (by omega)).mp g) (by omega), fun _ => ?_⟩
      have hvb : z' (rb + w) = nI (eg B w) := by rw [h2 _ (by omega)]; exact hy w (by omega)
      rw [ew, nI_add, ic (show 1012 + w < 2 ^ 31 by omega), ic (show rb + w < 2 ^ 31 by omega), hvb, h1 w (by omega), if_neg (by omega)]
      refine ⟨v1100 (by omega), v1100 (by omega), fun v ev => ⟨v1100 (by omega), fun y ey u eu => ?_⟩⟩
      rw [eu, nI_1]
      have hc01 : (c = 0 ∧ x = nI 0) ∨ (c = 1 ∧ x = nI 4294967295) := by
        rcases hc with ⟨q1, q2, -⟩ | ⟨q1, q2, -⟩
        · exact Or.inl ⟨q1, q2⟩
        · exact Or.inr ⟨q1, q2⟩
      have ev2 : v = nI (4294967296 + eg R w - eg B w - c) := by
        rcases hc01 with ⟨q1, q2⟩ | ⟨q1, q2⟩
        · rw [ev, q2, nI_sb (by omega), nI_add, q1]
          rfl
        · rw [ev, q2, nI_sb (by omega), nI_add, q1, show 4294967296 + eg R w - eg B w + 4294967295 = 4294967296 + (4294967296 + eg R w - eg B w - 1) by omega, nI_wr]
      rcases Nat.lt_or_ge (eg R w) (eg B w + c) with q | q
      · obtain ⟨t1, t2⟩ := s2 q
        have hc1 : c ≤ 1 := by rcases hc01 with ⟨q1, -⟩ | ⟨q1, -⟩ <;> omega
        have ev3 : v = nI (4294967296 - (eg B w + c - eg R w)) := by
          rw [ev2]
          congr 1
          omega
        refine next 1 y _ 0 ?_ (Or.inr ⟨rfl, ?_, t2⟩)
        · rw [ev3, i_mask24 (by omega), t1]
          congr 1
          omega
        · rw [ey, ev3, i_shr_neg (by omega) (by omega)]
      · obtain ⟨t1, t2⟩ := s1 q
        have ev3 : v = nI (eg R w - eg B w - c) := by
          rw [ev2, show 4294967296 + eg R w - eg B w - c = 4294967296 + (eg R w - eg B w - c) by omega, nI_wr]
        refine next 0 y _ 0 ?_ (Or.inl ⟨rfl, ?_, t2⟩)
        · rw [ev3, i_mask24 (by omega), t1, Nat.mod_eq_of_lt (by omega)]
        · rw [ey, ev3, i_shr24 (by omega), Nat.div_eq_of_lt (by omega)]
          rfl
  exact ⟨23, main 22 0 0 0 z rfl (Or.inl ⟨rfl, rfl, by simp [Nat.mod_one]⟩) (fun j hj => by rw [if_neg (by omega)]; exact hz j hj) (fun s _ => rfl)⟩
