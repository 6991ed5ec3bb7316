/-! pure: the table's numbers are primes -/
theorem pm_0 : tp_chk 2147483647 15 3 = true := by decide +kernel
theorem pm_1 : tp_chk 2147483629 15 3 = true := by decide +kernel
theorem pm_2 : tp_chk 2147483587 15 3 = true := by decide +kernel
theorem pm_3 : tp_chk 2147483579 15 3 = true := by decide +kernel
theorem pm_4 : tp_chk 2147483563 15 3 = true := by decide +kernel
theorem pm_5 : tp_chk 2147483549 15 3 = true := by decide +kernel
theorem pm_6 : tp_chk 2147483543 15 3 = true := by decide +kernel
theorem pm_7 : tp_chk 2147483497 15 3 = true := by decide +kernel
theorem pm_8 : tp_chk 2147483489 15 3 = true := by decide +kernel
theorem pm_9 : tp_chk 2147483477 15 3 = true := by decide +kernel
theorem pm_10 : tp_chk 2147483423 15 3 = true := by decide +kernel
theorem pm_11 : tp_chk 2147483399 15 3 = true := by decide +kernel
theorem pm_12 : tp_chk 2147483353 15 3 = true := by decide +kernel
theorem pm_13 : tp_chk 2147483323 15 3 = true := by decide +kernel
theorem pm_14 : tp_chk 2147483269 15 3 = true := by decide +kernel
theorem pm_15 : tp_chk 2147483249 15 3 = true := by decide +kernel
theorem pm_16 : tp_chk 2147483237 15 3 = true := by decide +kernel
theorem pm_17 : tp_chk 2147483179 15 3 = true := by decide +kernel
theorem pm_18 : tp_chk 2147483171 15 3 = true := by decide +kernel
theorem pm_19 : tp_chk 2147483137 15 3 = true := by decide +kernel
theorem pm_20 : tp_chk 2147483123 15 3 = true := by decide +kernel
theorem pm_21 : tp_chk 2147483077 15 3 = true := by decide +kernel
theorem pm_22 : tp_chk 2147483069 15 3 = true := by decide +kernel
theorem pm_23 : tp_chk 2147483059 15 3 = true := by decide +kernel
theorem pm_24 : tp_chk 2147483053 15 3 = true := by decide +kernel
theorem pm_25 : tp_chk 2147483033 15 3 = true := by decide +kernel
theorem pm_26 : tp_chk 2147483029 15 3 = true := by decide +kernel
theorem pm_27 : tp_chk 2147482951 15 3 = true := by decide +kernel
theorem pm_28 : tp_chk 2147482949 15 3 = true := by decide +kernel
theorem pm_29 : tp_chk 2147482943 15 3 = true := by decide +kernel
theorem pm_30 : tp_chk 2147482937 15 3 = true := by decide +kernel
theorem pm_31 : tp_chk 2147482921 15 3 = true := by decide +kernel
def pm_L : List Nat := [2147483647, 2147483629, 2147483587, 2147483579, 2147483563, 2147483549, 2147483543, 2147483497, 2147483489, 2147483477, 2147483423, 2147483399, 2147483353, 2147483323, 2147483269, 2147483249, 2147483237, 2147483179, 2147483171, 2147483137, 2147483123, 2147483077, 2147483069, 2147483059, 2147483053, 2147483033, 2147483029, 2147482951, 2147482949, 2147482943, 2147482937, 2147482921]
def pm_ (k : Nat) : Nat := pm_L.getD k 2
theorem pm_lt : ∀ k, k < 32 → 1073741824 < pm_ k ∧ pm_ k < 2147483648 ∧ pm_ k % 2 = 1 := by decide +kernel
theorem pm_ne : ∀ i, i < 32 → ∀ j, j < 32 → i ≠ j → pm_ i ≠ pm_ j := by decide +kernel
theorem pm_chk (k : Nat) (h : k < 32) : tp_chk (pm_ k) 15 3 = true := by
  match k, h with
  | 0, _ => exact pm_0
  | 1, _ => exact pm_1
  | 2, _ => exact pm_2
  | 3, _ => exact pm_3
  | 4, _ => exact pm_4
  | 5, _ => exact pm_5
  | 6, _ => exact pm_6
  | 7, _ => exact pm_7
  | 8, _ => exact pm_8
  | 9, _ => exact pm_9
  | 10, _ => exact pm_10
  | 11, _ => exact pm_11
  | 12, _ => exact pm_12
  | 13, _ => exact pm_13
  | 14, _ => exact pm_14
  | 15, _ => exact pm_15
  | 16, _ => exact pm_16
  | 17, _ => exact pm_17
  | 18, _ => exact pm_18
  | 19, _ => exact pm_19
  | 20, _ => exact pm_20
  | 21, _ => exact pm_21
  | 22, _ => exact pm_22
  | 23, _ => exact pm_23
  | 24, _ => exact pm_24
  | 25, _ => exact pm_25
  | 26, _ => exact pm_26
  | 27, _ => exact pm_27
  | 28, _ => exact pm_28
  | 29, _ => exact pm_29
  | 30, _ => exact pm_30
  | 31, _ => exact pm_31
  | n + 32, h => exact absurd h (by omega)
theorem pm_pr (k : Nat) (h : k < 32) : pr_ (pm_ k) := by
  obtain ⟨h1, h2, h3⟩ := pm_lt k h
  exact tp_prime (by omega) (by omega) h3 (pm_chk k h)
theorem pm_cop {i j : Nat} (hi : i < 32) (hj : j < 32) (h : i ≠ j) : Nat.Coprime (pm_ i) (pm_ j) := pr_cop (pm_pr i hi) (pm_pr j hj) (pm_ne i hi j hj h)
