/-! what holds at the law's start -/
theorem st_nw {s : State} {args : Array Value} (h : ∀ w ∈ lw_tbl, w.before args s = true) : nw_ s := by
  unfold nw_
  exact ⟨va_Nw.of rfl (h _ (List.mem_append_right _ (List.mem_of_getElem? (i := 32) (by decide +kernel)))), va_Nw.of rfl (h _ (List.mem_append_right _ (List.mem_of_getElem? (i := 35) (by decide +kernel)))), va_Nw.of rfl (h _ (List.mem_append_right _ (List.mem_of_getElem? (i := 38) (by decide +kernel)))), va_Nw.of rfl (h _ (List.mem_append_right _ (List.mem_of_getElem? (i := 39) (by decide +kernel)))), va_Nw.of rfl (h _ (List.mem_append_right _ (List.mem_of_getElem? (i := 61) (by decide +kernel)))), va_Nw.of rfl (h _ (List.mem_append_right _ (List.mem_of_getElem? (i := 67) (by decide +kernel)))), va_Nw.of rfl (h _ (List.mem_append_right _ (List.mem_of_getElem? (i := 73) (by decide +kernel)))), va_Nw.of rfl (h _ (List.mem_append_right _ (List.mem_of_getElem? (i := 74) (by decide +kernel)))), va_Nw.of rfl (h _ (List.mem_append_right _ (List.mem_of_getElem? (i := 79) (by decide +kernel)))), va_Nw.of rfl (h _ (List.mem_append_right _ (List.mem_of_getElem? (i := 82) (by decide +kernel)))), va_Nw.of rfl (h _ (List.mem_append_right _ (List.mem_of_getElem? (i := 85) (by decide +kernel)))), va_Nw.of rfl (h _ (List.mem_append_right _ (List.mem_of_getElem? (i := 101) (by decide +kernel)))), va_Nw.of rfl (h _ (List.mem_append_right _ (List.mem_of_getElem? (i := 111) (by decide +kernel)))), va_Nw.of rfl (h _ (List.mem_append_right _ (List.mem_of_getElem? (i := 113) (by decide +kernel)))), va_Nw.of rfl (h _ (List.mem_append_right _ (List.mem_of_getElem? (i := 126) (by decide +kernel)))), va_Nw.of rfl (h _ (List.mem_append_right _ (List.mem_of_getElem? (i := 131) (by decide +kernel)))), va_Nw.of rfl (h _ (List.mem_append_right _ (List.mem_of_getElem? (i := 133) (by decide +kernel)))), va_Nw.of rfl (h _ (List.mem_append_right _ (List.mem_of_getElem? (i := 135) (by decide +kernel)))), va_Nw.of rfl (h _ (List.mem_append_right _ (List.mem_of_getElem? (i := 149) (by decide +kernel)))), va_Nw.of rfl (h _ (List.mem_append_right _ (List.mem_of_getElem? (i := 154) (by decide +kernel)))), va_Nw.of rfl (h _ (List.mem_append_right _ (List.mem_of_getElem? (i := 156) (by decide +kernel)))), va_Nw.of rfl (h _ (List.mem_append_right _ (List.mem_of_getElem? (i := 164) (by decide +kernel))))⟩
theorem st_ao {s : State} {args : Array Value} (h : ∀ w ∈ lw_tbl, w.before args s = true) : va_AO "ChainDesk$Natural" s := va_AO.of (h _ (List.mem_append_right _ (List.mem_of_getElem? (i := 99) (by decide +kernel))))
theorem st_ex {s : State} {b : Nat} (h : ∀ w ∈ lw_tbl, w.before #[Value.ref b] s = true) (hg : (Jvm.Cond.and given_1 narrow_1).before #[Value.ref b] s = true) : ex_ s := by
  have hf := flat_of_before _ hg
  refine ⟨?_, ?_, ?_⟩
  · unfold fxL
    simp only [List.forall_mem_cons, List.not_mem_nil, false_implies, implies_true, and_true]
    have z0 := h (.castable nIA nIA) (List.mem_append_right _ (List.mem_of_getElem? (i := 450) (by decide +kernel)))
    have z1 := h (.castable nIS nIS) (List.mem_append_right _ (List.mem_of_getElem? (i := 554) (by decide +kernel)))
    have z2 := h (.declares (iS_ "java/lang/RuntimeException")) (List.mem_append_right _ (List.mem_of_getElem? (i := 452) (by decide +kernel)))
    have z3 := h (.declares (iS_ "java/lang/Exception")) (List.mem_append_right _ (List.mem_of_getElem? (i := 454) (by decide +kernel)))
    have z4 := h (.declares (iS_ tTN)) (List.mem_append_right _ (List.mem_of_getElem? (i := 456) (by decide +kernel)))
    have z5 := h (.laysStatic tTN "UNASSIGNED_STACK" dS1) (List.mem_append_right _ (List.mem_of_getElem? (i := 475) (by decide +kernel)))
    have z6 := h (.laysStatic tTN "SUPPRESSED_SENTINEL" dS2) (List.mem_append_right _ (List.mem_of_getElem? (i := 477) (by decide +kernel)))
    have y0 := hf (.isRef (.static tTN "UNASSIGNED_STACK" dS1)) (by decide +kernel)
    have y1 := hf (.isRef (.static tTN "SUPPRESSED_SENTINEL" dS2)) (by decide +kernel)
    exact ⟨fun _ => z0, fun _ => z1, fun _ => z2, fun _ => z3, fun _ => z4, fun _ => z5, fun _ => z6, fun _ => y0, fun _ => y1⟩
  · unfold srL
    simp only [List.forall_mem_cons, List.not_mem_nil, false_implies, implies_true, and_true]
    have z0 := h (.stringRef RX7 54 "a chain has 1 to 40 states") (List.mem_append_right _ (List.mem_of_getElem? (i := 488) (by decide +kernel)))
    have z1 := h (.stringRef RX7 67 "there is no such state") (List.mem_append_right _ (List.mem_of_getElem? (i := 530) (by decide +kernel)))
    have z2 := h (.stringRef RX7 70 "a whole is 1 to 999999999") (List.mem_append_right _ (List.mem_of_getElem? (i := 532) (by decide +kernel)))
    have z3 := h (.stringRef RX7 79 "there is no such state or target") (List.mem_append_right _ (List.mem_of_getElem? (i := 546) (by decide +kernel)))
    have z4 := h (.stringRef RX7 81 "a part is 0 to 999999999") (List.mem_append_right _ (List.mem_of_getElem? (i := 547) (by decide +kernel)))
    have z5 := h (.stringRef RX7 89 "the parts would be above the whole") (List.mem_append_right _ (List.mem_of_getElem? (i := 561) (by decide +kernel)))
    exact ⟨fun _ => z0, fun _ => z1, fun _ => z2, fun _ => z3, fun _ => z4, fun _ => z5⟩
  · have z := hf (.not (.castable nIS nIA)) (by decide +kernel)
    exact fun _ => z
theorem st_arr {s : State} {args : Array Value} {ty : FieldType} (hty : ∀ C, ty ≠ .object C) (h : (Cond.arrayClass ty).before args s = true) : ∃ cA, ArrOfT s cA ty ∧ va_RA s cA ty := by
  obtain ⟨cA, kA, comp, h1, h2, h3⟩ := Cond.arrayClass_spec h
  refine ⟨cA, fun n z => ⟨fun k h => (by cases h), kA, h2, comp, h3⟩, ?_⟩
  cases ty with
  | object C => exact absurd rfl (hty C)
  | _ => exact h1
theorem st_K {s : State} {args : Array Value} (h : ∀ w ∈ lw_tbl, w.before args s = true) : ∃ (D : va_G) (cT : Nat → ClassId), va_K D vwCl (ty_ cT) s := by
  have hts : ∀ w ∈ WG, w.before args s = true := fun w hw => h w (wg_tbl hw)
  obtain ⟨c0, i0, k0⟩ := u_known (C := RX0) (T := TX0) (N := 5) (n := 5) hts inX0 (hts _ q_26)
  obtain ⟨c1, i1, k1⟩ := u_known (C := RX1) (T := TX1) (N := 5) (n := 5) hts inX1 (hts _ q_60)
  obtain ⟨c2, i2, k2⟩ := u_known (C := RX2) (T := TX2) (N := 4) (n := 4) hts inX2 (hts _ q_125)
  obtain ⟨c3, i3, k3⟩ := u_known (C := RX3) (T := TX3) (N := 4) (n := 4) hts inX3 (hts _ q_54)
  obtain ⟨c4, i4, k4⟩ := u_known (C := RX4) (T := TX4) (N := 1) (n := 1) hts inX4 (hts _ q_100)
  obtain ⟨c5, i5, k5⟩ := u_known (C := RX5) (T := TX5) (N := 2) (n := 2) hts inX5 (hts _ q_148)
  obtain ⟨c6, i6, k6⟩ := u_known (C := RX6) (T := TX6) (N := 1) (n := 1) hts inX6 (hts _ q_66)
  obtain ⟨c7, i7, k7⟩ := u_known (C := RX7) (T := TX7) (N := 7) (n := 7) hts inX7 (hts _ q_18)
  obtain ⟨c8, i8, k8⟩ := u_known (C := RX8) (T := TX8) (N := 16) (n := 16) hts inX8 (hts _ q_574)
  obtain ⟨a0, b0⟩ := st_arr (fun C q => by cases q) (hts (.arrayClass .int) q_51)
  obtain ⟨a1, b1⟩ := st_arr (fun C q => by cases q) (hts (.arrayClass .long) q_97)
  obtain ⟨a2, b2⟩ := st_arr (fun C q => by cases q) (hts (.arrayClass .boolean) q_52)
  obtain ⟨a3, b3⟩ := st_arr (fun C q => by cases q) (hts (.arrayClass .char) q_162)
  obtain ⟨comp, cN, kN, g1, -, g3, g4, g5⟩ := Cond.arrayOver_spec (va_AO.use (A := args) (st_ao h))
  refine ⟨(fun k => match k with | 0 => c0 | 1 => c1 | 2 => c2 | 3 => c3 | 4 => c4 | 5 => c5 | 6 => c6 | 7 => c7 | _ => c8, fun k => match k with | 0 => i0 | 1 => i1 | 2 => i2 | 3 => i3 | 4 => i4 | 5 => i5 | 6 => i6 | 7 => i7 | _ => i8), (fun k => match k with | 0 => a0 | 1 => a1 | 2 => a2 | 3 => a3 | _ => cN), ?_, ?_⟩
  · intro c q hq
    match c, hq with
    | 0, hq => cases hq; exact k0
    | 1, hq => cases hq; exact k1
    | 2, hq => cases hq; exact k2
    | 3, hq => cases hq; exact k3
    | 4, hq => cases hq; exact k4
    | 5, hq => cases hq; exact k5
    | 6, hq => cases hq; exact k6
    | 7, hq => cases hq; exact k7
    | 8, hq => cases hq; exact k8
    | n + 9, hq => cases hq
  · intro k q hq
    match k, hq with
    | 0, hq => cases hq; exact b0
    | 1, hq => cases hq; exact b1
    | 2, hq => cases hq; exact b2
    | 3, hq => cases hq; exact b3
    | 4, hq => cases hq; exact ⟨fun n z => ⟨fun k h => (by cases h), kN, g3, comp, g4⟩, kN, comp, g3, g4, g1, g5⟩
    | n + 5, hq => cases hq
theorem st_tb {s : State} {b : Nat} {A : Nat → Prop} (h : ∀ w ∈ lw_tbl, w.before #[Value.ref b] s = true) (hg : (Jvm.Cond.and given_1 narrow_1).before #[Value.ref b] s = true) (hA : ∀ a : Nat, a < s.heap.size → ¬ A a) : ∃ tp, tb_ tp A s := by
  have hf := flat_of_before _ hg
  have hts : ∀ w ∈ WG, w.before #[Value.ref b] s = true := fun w hw => h w (wg_tbl hw)
  have key : ∀ j : Fin 32, Cond.eq (.elem (.static "ChainDesk$Likelihoods" "PRIMES" "[I") (.int (Int32.ofNat j.val))) (.int (nI (pm_ j.val))) ∈ flatC (Jvm.Cond.and given_1 narrow_1) := by decide +kernel
  obtain ⟨t, h1, h2⟩ := va_Tof (args := #[Value.ref b]) (s := s) (tm := (.static "ChainDesk$Likelihoods" "PRIMES" "[I")) (ty := .int) (N := 32) (f := fun j => .int (nI (pm_ j))) (A := A) (by decide) (hf _ (by decide +kernel)) (va_eqt (hf (.eq (.length (.static "ChainDesk$Likelihoods" "PRIMES" "[I")) (.int 32)) (by decide +kernel))) (fun j hj => va_eqt (hf _ (key ⟨j, hj⟩))) hA
  exact ⟨t, va_Zref (h _ (List.mem_append_right _ (List.mem_of_getElem? (i := 221) (by decide +kernel)))) (hts _ q_3) h1 hA, h2⟩
