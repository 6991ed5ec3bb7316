set_option maxHeartbeats 4000000 in
set_option maxRecDepth 100000 in
theorem cc_X1 (l : Launch) (D : va_G) (cT : Nat → ClassId) (h_o : Nat) (sz : Nat) : Met l yX1_init wX1_init ({ frames := 2, cells := 3, slots := 1681, locals := 32 } : Room) (va_Pc [.ref h_o] (pre_ D cT [(h_o, .inr (1, [.null, .null, .null, .int 0, .long 0]))] sz)) (va_Qv (fun _ : Unit => True) (fun (_ : Unit) t => ∃ q1 q2 q3 : Nat, va_P D vwCl [(h_o, .inr (1, [.ref q1, .ref q2, .ref q3, .int 0, .long 0])), (q1, .inr (6, [.long 2])), (q2, .inl (cT 0, 1640, .inl (fun _ => 0))), (q3, .inl (cT 1, 40, .inr (.inl (fun _ => 0))))] t.heap ∧ va_D (va_A [(h_o, .inr (1, [.null, .null, .null, .int 0, .long 0]))] sz) [(h_o, .inr (1, [.ref q1, .ref q2, .ref q3, .int 0, .long 0])), (q1, .inr (6, [.long 2])), (q2, .inl (cT 0, 1640, .inl (fun _ => 0))), (q3, .inl (cT 1, 40, .inr (.inl (fun _ => 0))))]) (va_A [(h_o, .inr (1, [.null, .null, .null, .int 0, .long 0]))] sz)) 3 1681 (va_A [(h_o, .inr (1, [.null, .null, .null, .int 0, .long 0]))] sz) := by
  refine Met.ofW (cc := cX1_init) (maxL := 1) (ret := none) (by decide) rfl ?_
  intro p e s m args below meth c s₁ B hml hv
  obtain ⟨rfl, hv⟩ := hv
  obtain ⟨hsz, hP, hK, hD0, hN⟩ := hv
  have hx := B.exec
  have hb := B.bytes
  have hr := B.returns
  have hts : ∀ w ∈ WG, w.before _ s = true := fun w h => atoms_spec (ws := wX1_init) B.pre w (List.mem_cons_of_mem _ h)
  have hown : s.vm.findClass RX1 = some m.cls := findClass_of_methodNamed B.named
  have hlocks := B.notSynchronized
  have hin : meth.name = "<init>" := (name_of_methodNamed B.named B.method).1
  subst hsz
  have hD := hD0.self (sz := s.heap.size)
  generalize hAe : va_A [(h_o, .inr (1, [.null, .null, .null, .int 0, .long 0]))] s.heap.size = A at hD ⊢
  have hA : ∀ q : Nat, s.heap.size ≤ q → A q := fun q h => by rw [← hAe]; exact Or.inr h
  have hS : va_S A s.heap s.heap [] := va_S.rf
  have hl := lv_entry ([.ref h_o]) (n := 1) (Nat.le_of_ble_eq_true rfl)
  rw [lg_entry_eq]
  generalize (lg_sl ([.ref h_o]) ++ List.replicate (1 - (lg_sl ([.ref h_o])).length) Slot.unset).toArray = ls at hl ⊢
  have hl : lv_has ls 1 [(0, .ref h_o)] := hl
  refine lv_aload_n hx hb dX1_init_0 rfl (lv_at hl 0 rfl) ?_
  refine W.objInit hx hb hown (hts _ q_64) (hts _ q_23) (hts _ q_24) rfl (by rw [hml]; exact hl.1) rfl dX1_init_1 (Nat.le_of_ble_eq_true rfl) (Nat.le_of_ble_eq_true rfl) ?_
  refine W.eq (g2 := F0 m 4 ls []) rfl ?_
  refine lv_aload_n hx hb dX1_init_4 rfl (lv_at hl 0 rfl) ?_
  refine va_new (ci := 6) (fs := [.long 0]) (C := RX6) (T := TX6) (N := 1) hx hb hts inX6 tyX6 tyX6_ok hown (hts _ q_65) (hts _ q_66) (hts _ q_5) hK hP hD hS hA rfl (fun j hj => by rcases (show j = 0 by omega) with rfl <;> rfl) (Nat.le_of_ble_eq_true rfl) (Nat.le_of_ble_eq_true rfl) dX1_init_5 (fun q1 H hP hD hS => ?_)
  refine W.widen (k := 1) (n := 1) (Nat.le_of_ble_eq_true rfl) (Nat.le_of_ble_eq_true rfl) ?_
  refine lv_dup hx hb dX1_init_8 rfl ?_
  have hPc := lp_P (R := [(h_o, .inr (1, [.null, .null, .null, .int 0, .long 0]))]) (wc := [(q1, .inr (6, [.long 0]))]) hP
  have hDc := lp_D (R := [(h_o, .inr (1, [.null, .null, .null, .int 0, .long 0]))]) (wc := [(q1, .inr (6, [.long 0]))]) hD
  have hFc := va_free2 (wc := [(q1, .inr (6, [.long 0]))]) hD hS hA (fun z hz => List.mem_append_right _ hz)
  refine va_callv (va_runIN (As := []) (rest := [.ref q1, .ref h_o]) ⟨hx, hb, hml, hown, hts⟩ (cc_X6 l D cT q1 H.size) (gin_ 0 q_69 q_5 hN.2.2.2.2.2.1 q_68 rfl (by decide +kernel) ⟨(Nat.le_of_ble_eq_true rfl), (Nat.le_of_ble_eq_true rfl)⟩ hts) ⟨pre_blind, fun U hU hW => ⟨rfl, pre_mk hU hW hPc hK hDc hN⟩⟩ rfl rfl hl.1 rfl (lv_room (Nat.le_of_ble_eq_true rfl)) dX1_init_9 ⟨(Nat.le_of_ble_eq_true rfl), (Nat.le_of_ble_eq_true rfl)⟩) hS (fun q _ h => hFc q h) hFc (fun u9 t H locs ht hvm h9 hB hz1 hk1 hS => ?_)
  refine W.widen (k := 1) (n := 1) (Nat.le_of_ble_eq_true rfl) (Nat.le_of_ble_eq_true rfl) ?_
  obtain ⟨hP1, hD1⟩ := hB
  rw [ht] at hP1
  obtain ⟨hP, hD⟩ := gj_ (R := [(h_o, .inr (1, [.null, .null, .null, .int 0, .long 0]))]) (wc := [(q1, .inr (6, [.long 0]))]) (w1 := [(q1, .inr (6, [.long 2]))]) hP hD hk1 hFc hP1 hD1
  clear hP1 hD1 hPc hDc hFc hk1 hz1 hvm ht h9
  have hP : va_P D vwCl [(h_o, .inr (1, [.null, .null, .null, .int 0, .long 0])), (q1, .inr (6, [.long 2]))] H := hP
  have hD : va_D A [(h_o, .inr (1, [.null, .null, .null, .int 0, .long 0])), (q1, .inr (6, [.long 2]))] := hD
  refine va_putF (D := D) (ci := 1) (v := .ref q1) (ty := .object "ChainDesk$Remainders") (C := RX1) (T := TX1) (N := 5) hx hb hts inX1 tyX1 tyX1_ok nmX1 hown hK hP hD hS 0 rfl rfl 0 (by decide) (hts _ q_78) (fun _ h9 => h9) rfl hin rfl (by decide +kernel) rfl rfl (Nat.le_of_ble_eq_true rfl) dX1_init_12 (fun H locs hP hD hS => ?_)
  have hP : va_P D vwCl [(h_o, .inr (1, [.ref q1, .null, .null, .int 0, .long 0])), (q1, .inr (6, [.long 2]))] H := hP
  have hD : va_D A [(h_o, .inr (1, [.ref q1, .null, .null, .int 0, .long 0])), (q1, .inr (6, [.long 2]))] := hD
  refine lv_aload_n hx hb dX1_init_15 rfl (lv_at hl 0 rfl) ?_
  refine lv_sipush (v := 1640) hx hb dX1_init_16 (by decide) ?_
  refine va_newa (atype := .int) (N' := 1640) (a0 := (1640, .inl (fun _ => 0))) hx hb (hts _ q_51) rfl hK hP hD hS hA (fun cA => rfl) (by decide) (by decide) (by decide +kernel) (Nat.le_of_ble_eq_true rfl) (Nat.le_of_ble_eq_true rfl) dX1_init_19 (fun q2 cA H hK9 hP hD hS => ?_)
  have e9 := ca_eq (k := 0) (cB := cT 0) hK9 rfl
  subst e9
  clear hK9
  refine W.widen (k := 2) (n := 1641) (Nat.le_of_ble_eq_true rfl) (Nat.le_of_ble_eq_true rfl) ?_
  have hP : va_P D vwCl [(h_o, .inr (1, [.ref q1, .null, .null, .int 0, .long 0])), (q1, .inr (6, [.long 2])), (q2, .inl (cT 0, 1640, .inl (fun _ => 0)))] H := hP
  have hD : va_D A [(h_o, .inr (1, [.ref q1, .null, .null, .int 0, .long 0])), (q1, .inr (6, [.long 2])), (q2, .inl (cT 0, 1640, .inl (fun _ => 0)))] := hD
  refine va_putF (D := D) (ci := 1) (v := .ref q2) (ty := .array .int) (C := RX1) (T := TX1) (N := 5) hx hb hts inX1 tyX1 tyX1_ok nmX1 hown hK hP hD hS 0 rfl rfl 1 (by decide) (hts _ q_80) (fun _ h9 => h9) rfl hin rfl (by decide +kernel) rfl rfl (Nat.le_of_ble_eq_true rfl) dX1_init_21 (fun H locs hP hD hS => ?_)
  have hP : va_P D vwCl [(h_o, .inr (1, [.ref q1, .ref q2, .null, .int 0, .long 0])), (q1, .inr (6, [.long 2])), (q2, .inl (cT 0, 1640, .inl (fun _ => 0)))] H := hP
  have hD : va_D A [(h_o, .inr (1, [.ref q1, .ref q2, .null, .int 0, .long 0])), (q1, .inr (6, [.long 2])), (q2, .inl (cT 0, 1640, .inl (fun _ => 0)))] := hD
  refine lv_aload_n hx hb dX1_init_24 rfl (lv_at hl 0 rfl) ?_
  refine lv_bipush (v := 40) hx hb dX1_init_25 (by decide) ?_
  refine va_newa (atype := .long) (N' := 40) (a0 := (40, .inr (.inl (fun _ => 0)))) hx hb (hts _ q_97) rfl hK hP hD hS hA (fun cA => rfl) (by decide) (by decide) (by decide +kernel) (Nat.le_of_ble_eq_true rfl) (Nat.le_of_ble_eq_true rfl) dX1_init_27 (fun q3 cA H hK9 hP hD hS => ?_)
  have e9 := ca_eq (k := 1) (cB := cT 1) hK9 rfl
  subst e9
  clear hK9
  refine W.widen (k := 3) (n := 1681) (Nat.le_of_ble_eq_true rfl) (Nat.le_of_ble_eq_true rfl) ?_
  have hP : va_P D vwCl [(h_o, .inr (1, [.ref q1, .ref q2, .null, .int 0, .long 0])), (q1, .inr (6, [.long 2])), (q2, .inl (cT 0, 1640, .inl (fun _ => 0))), (q3, .inl (cT 1, 40, .inr (.inl (fun _ => 0))))] H := hP
  have hD : va_D A [(h_o, .inr (1, [.ref q1, .ref q2, .null, .int 0, .long 0])), (q1, .inr (6, [.long 2])), (q2, .inl (cT 0, 1640, .inl (fun _ => 0))), (q3, .inl (cT 1, 40, .inr (.inl (fun _ => 0))))] := hD
  refine va_putF (D := D) (ci := 1) (v := .ref q3) (ty := .array .long) (C := RX1) (T := TX1) (N := 5) hx hb hts inX1 tyX1 tyX1_ok nmX1 hown hK hP hD hS 0 rfl rfl 2 (by decide) (hts _ q_81) (fun _ h9 => h9) rfl hin rfl (by decide +kernel) rfl rfl (Nat.le_of_ble_eq_true rfl) dX1_init_29 (fun H locs hP hD hS => ?_)
  have hP : va_P D vwCl [(h_o, .inr (1, [.ref q1, .ref q2, .ref q3, .int 0, .long 0])), (q1, .inr (6, [.long 2])), (q2, .inl (cT 0, 1640, .inl (fun _ => 0))), (q3, .inl (cT 1, 40, .inr (.inl (fun _ => 0))))] H := hP
  have hD : va_D A [(h_o, .inr (1, [.ref q1, .ref q2, .ref q3, .int 0, .long 0])), (q1, .inr (6, [.long 2])), (q2, .inl (cT 0, 1640, .inl (fun _ => 0))), (q3, .inl (cT 1, 40, .inr (.inl (fun _ => 0))))] := hD
  exact W.vret hx hb hr (fun t ht hW => ⟨⟨(), rfl, trivial, q1, q2, q3, by rw [ht]; exact hP, hD⟩, hS.F ht⟩) hS.2.2 dX1_init_32
