set_option maxHeartbeats 4000000 in
set_option maxRecDepth 100000 in
theorem cc_X0 (l : Launch) (D : va_G) (cT : Nat → ClassId) (h_o : Nat) (sz : Nat) : Met l yX0_init wX0_init ({ frames := 1, cells := 4, slots := 1760, locals := 12 } : Room) (va_Pc [.ref h_o] (pre_ D cT [(h_o, .inr (0, [.null, .null, .null, .null, .int 0]))] sz)) (va_Qv (fun _ : Unit => True) (fun (_ : Unit) t => ∃ q1 q2 q3 q4 : Nat, va_P D vwCl [(h_o, .inr (0, [.ref q1, .ref q2, .ref q3, .ref q4, .int 1])), (q1, .inl (cT 0, 40, .inl (upd (fun _ => 0) (0 : Int32).toNatClampNeg 1))), (q2, .inl (cT 0, 40, .inl (upd (fun _ => 0) (0 : Int32).toNatClampNeg 1))), (q3, .inl (cT 0, 1640, .inl (fun _ => 0))), (q4, .inl (cT 2, 40, .inl (fun _ => 0)))] t.heap ∧ va_D (va_A [(h_o, .inr (0, [.null, .null, .null, .null, .int 0]))] sz) [(h_o, .inr (0, [.ref q1, .ref q2, .ref q3, .ref q4, .int 1])), (q1, .inl (cT 0, 40, .inl (upd (fun _ => 0) (0 : Int32).toNatClampNeg 1))), (q2, .inl (cT 0, 40, .inl (upd (fun _ => 0) (0 : Int32).toNatClampNeg 1))), (q3, .inl (cT 0, 1640, .inl (fun _ => 0))), (q4, .inl (cT 2, 40, .inl (fun _ => 0)))]) (va_A [(h_o, .inr (0, [.null, .null, .null, .null, .int 0]))] sz)) 4 1760 (va_A [(h_o, .inr (0, [.null, .null, .null, .null, .int 0]))] sz) := by
  refine Met.ofW (cc := cX0_init) (maxL := 1) (ret := none) (by decide) rfl ?_
  intro p e s m args below meth c s₁ B hml hv
  obtain ⟨rfl, hv⟩ := hv
  obtain ⟨hsz, hP, hK, hD0, hN⟩ := hv
  have hx := B.exec
  have hb := B.bytes
  have hr := B.returns
  have hts : ∀ w ∈ WG, w.before _ s = true := fun w h => atoms_spec (ws := wX0_init) B.pre w (List.mem_cons_of_mem _ h)
  have hown : s.vm.findClass RX0 = some m.cls := findClass_of_methodNamed B.named
  have hlocks := B.notSynchronized
  have hin : meth.name = "<init>" := (name_of_methodNamed B.named B.method).1
  subst hsz
  have hD := hD0.self (sz := s.heap.size)
  generalize hAe : va_A [(h_o, .inr (0, [.null, .null, .null, .null, .int 0]))] s.heap.size = A at hD ⊢
  have hA : ∀ q : Nat, s.heap.size ≤ q → A q := fun q h => by rw [← hAe]; exact Or.inr h
  have hS : va_S A s.heap s.heap [] := va_S.rf
  have hl := lv_entry ([.ref h_o]) (n := 1) (Nat.le_of_ble_eq_true rfl)
  rw [lg_entry_eq]
  generalize (lg_sl ([.ref h_o]) ++ List.replicate (1 - (lg_sl ([.ref h_o])).length) Slot.unset).toArray = ls at hl ⊢
  have hl : lv_has ls 1 [(0, .ref h_o)] := hl
  refine lv_aload_n hx hb dX0_init_0 rfl (lv_at hl 0 rfl) ?_
  refine W.objInit hx hb hown (hts _ q_30) (hts _ q_23) (hts _ q_24) rfl (by rw [hml]; exact hl.1) rfl dX0_init_1 (Nat.le_of_ble_eq_true rfl) (Nat.le_of_ble_eq_true rfl) ?_
  refine W.eq (g2 := F0 m 4 ls []) rfl ?_
  refine lv_aload_n hx hb dX0_init_4 rfl (lv_at hl 0 rfl) ?_
  refine lv_bipush (v := 40) hx hb dX0_init_5 (by decide) ?_
  refine va_newa (atype := .int) (N' := 40) (a0 := (40, .inl (fun _ => 0))) hx hb (hts _ q_51) rfl hK hP hD hS hA (fun cA => rfl) (by decide) (by decide) (by decide +kernel) (Nat.le_of_ble_eq_true rfl) (Nat.le_of_ble_eq_true rfl) dX0_init_7 (fun q1 cA H hK9 hP hD hS => ?_)
  have e9 := ca_eq (k := 0) (cB := cT 0) hK9 rfl
  subst e9
  clear hK9
  refine W.widen (k := 1) (n := 40) (Nat.le_of_ble_eq_true rfl) (Nat.le_of_ble_eq_true rfl) ?_
  have hP : va_P D vwCl [(h_o, .inr (0, [.null, .null, .null, .null, .int 0])), (q1, .inl (cT 0, 40, .inl (fun _ => 0)))] H := hP
  have hD : va_D A [(h_o, .inr (0, [.null, .null, .null, .null, .int 0])), (q1, .inl (cT 0, 40, .inl (fun _ => 0)))] := hD
  refine va_putF (D := D) (ci := 0) (v := .ref q1) (ty := .array .int) (C := RX0) (T := TX0) (N := 5) hx hb hts inX0 tyX0 tyX0_ok nmX0 hown hK hP hD hS 0 rfl rfl 0 (by decide) (hts _ q_31) (fun _ h9 => h9) rfl hin rfl (by decide +kernel) rfl rfl (Nat.le_of_ble_eq_true rfl) dX0_init_9 (fun H locs hP hD hS => ?_)
  have hP : va_P D vwCl [(h_o, .inr (0, [.ref q1, .null, .null, .null, .int 0])), (q1, .inl (cT 0, 40, .inl (fun _ => 0)))] H := hP
  have hD : va_D A [(h_o, .inr (0, [.ref q1, .null, .null, .null, .int 0])), (q1, .inl (cT 0, 40, .inl (fun _ => 0)))] := hD
  refine lv_aload_n hx hb dX0_init_12 rfl (lv_at hl 0 rfl) ?_
  refine lv_bipush (v := 40) hx hb dX0_init_13 (by decide) ?_
  refine va_newa (atype := .int) (N' := 40) (a0 := (40, .inl (fun _ => 0))) hx hb (hts _ q_51) rfl hK hP hD hS hA (fun cA => rfl) (by decide) (by decide) (by decide +kernel) (Nat.le_of_ble_eq_true rfl) (Nat.le_of_ble_eq_true rfl) dX0_init_15 (fun q2 cA H hK9 hP hD hS => ?_)
  have e9 := ca_eq (k := 0) (cB := cT 0) hK9 rfl
  subst e9
  clear hK9
  refine W.widen (k := 2) (n := 80) (Nat.le_of_ble_eq_true rfl) (Nat.le_of_ble_eq_true rfl) ?_
  have hP : va_P D vwCl [(h_o, .inr (0, [.ref q1, .null, .null, .null, .int 0])), (q1, .inl (cT 0, 40, .inl (fun _ => 0))), (q2, .inl (cT 0, 40, .inl (fun _ => 0)))] H := hP
  have hD : va_D A [(h_o, .inr (0, [.ref q1, .null, .null, .null, .int 0])), (q1, .inl (cT 0, 40, .inl (fun _ => 0))), (q2, .inl (cT 0, 40, .inl (fun _ => 0)))] := hD
  refine va_putF (D := D) (ci := 0) (v := .ref q2) (ty := .array .int) (C := RX0) (T := TX0) (N := 5) hx hb hts inX0 tyX0 tyX0_ok nmX0 hown hK hP hD hS 0 rfl rfl 1 (by decide) (hts _ q_33) (fun _ h9 => h9) rfl hin rfl (by decide +kernel) rfl rfl (Nat.le_of_ble_eq_true rfl) dX0_init_17 (fun H locs hP hD hS => ?_)
  have hP : va_P D vwCl [(h_o, .inr (0, [.ref q1, .ref q2, .null, .null, .int 0])), (q1, .inl (cT 0, 40, .inl (fun _ => 0))), (q2, .inl (cT 0, 40, .inl (fun _ => 0)))] H := hP
  have hD : va_D A [(h_o, .inr (0, [.ref q1, .ref q2, .null, .null, .int 0])), (q1, .inl (cT 0, 40, .inl (fun _ => 0))), (q2, .inl (cT 0, 40, .inl (fun _ => 0)))] := hD
  refine lv_aload_n hx hb dX0_init_20 rfl (lv_at hl 0 rfl) ?_
  refine lv_sipush (v := 1640) hx hb dX0_init_21 (by decide) ?_
  refine va_newa (atype := .int) (N' := 1640) (a0 := (1640, .inl (fun _ => 0))) hx hb (hts _ q_51) rfl hK hP hD hS hA (fun cA => rfl) (by decide) (by decide) (by decide +kernel) (Nat.le_of_ble_eq_true rfl) (Nat.le_of_ble_eq_true rfl) dX0_init_24 (fun q3 cA H hK9 hP hD hS => ?_)
  have e9 := ca_eq (k := 0) (cB := cT 0) hK9 rfl
  subst e9
  clear hK9
  refine W.widen (k := 3) (n := 1720) (Nat.le_of_ble_eq_true rfl) (Nat.le_of_ble_eq_true rfl) ?_
  have hP : va_P D vwCl [(h_o, .inr (0, [.ref q1, .ref q2, .null, .null, .int 0])), (q1, .inl (cT 0, 40, .inl (fun _ => 0))), (q2, .inl (cT 0, 40, .inl (fun _ => 0))), (q3, .inl (cT 0, 1640, .inl (fun _ => 0)))] H := hP
  have hD : va_D A [(h_o, .inr (0, [.ref q1, .ref q2, .null, .null, .int 0])), (q1, .inl (cT 0, 40, .inl (fun _ => 0))), (q2, .inl (cT 0, 40, .inl (fun _ => 0))), (q3, .inl (cT 0, 1640, .inl (fun _ => 0)))] := hD
  refine va_putF (D := D) (ci := 0) (v := .ref q3) (ty := .array .int) (C := RX0) (T := TX0) (N := 5) hx hb hts inX0 tyX0 tyX0_ok nmX0 hown hK hP hD hS 0 rfl rfl 2 (by decide) (hts _ q_34) (fun _ h9 => h9) rfl hin rfl (by decide +kernel) rfl rfl (Nat.le_of_ble_eq_true rfl) dX0_init_26 (fun H locs hP hD hS => ?_)
  have hP : va_P D vwCl [(h_o, .inr (0, [.ref q1, .ref q2, .ref q3, .null, .int 0])), (q1, .inl (cT 0, 40, .inl (fun _ => 0))), (q2, .inl (cT 0, 40, .inl (fun _ => 0))), (q3, .inl (cT 0, 1640, .inl (fun _ => 0)))] H := hP
  have hD : va_D A [(h_o, .inr (0, [.ref q1, .ref q2, .ref q3, .null, .int 0])), (q1, .inl (cT 0, 40, .inl (fun _ => 0))), (q2, .inl (cT 0, 40, .inl (fun _ => 0))), (q3, .inl (cT 0, 1640, .inl (fun _ => 0)))] := hD
  refine lv_aload_n hx hb dX0_init_29 rfl (lv_at hl 0 rfl) ?_
  refine lv_bipush (v := 40) hx hb dX0_init_30 (by decide) ?_
  refine va_newa (atype := .boolean) (N' := 40) (a0 := (40, .inl (fun _ => 0))) hx hb (hts _ q_52) rfl hK hP hD hS hA (fun cA => rfl) (by decide) (by decide) (by decide +kernel) (Nat.le_of_ble_eq_true rfl) (Nat.le_of_ble_eq_true rfl) dX0_init_32 (fun q4 cA H hK9 hP hD hS => ?_)
  have e9 := ca_eq (k := 2) (cB := cT 2) hK9 rfl
  subst e9
  clear hK9
  refine W.widen (k := 4) (n := 1760) (Nat.le_of_ble_eq_true rfl) (Nat.le_of_ble_eq_true rfl) ?_
  have hP : va_P D vwCl [(h_o, .inr (0, [.ref q1, .ref q2, .ref q3, .null, .int 0])), (q1, .inl (cT 0, 40, .inl (fun _ => 0))), (q2, .inl (cT 0, 40, .inl (fun _ => 0))), (q3, .inl (cT 0, 1640, .inl (fun _ => 0))), (q4, .inl (cT 2, 40, .inl (fun _ => 0)))] H := hP
  have hD : va_D A [(h_o, .inr (0, [.ref q1, .ref q2, .ref q3, .null, .int 0])), (q1, .inl (cT 0, 40, .inl (fun _ => 0))), (q2, .inl (cT 0, 40, .inl (fun _ => 0))), (q3, .inl (cT 0, 1640, .inl (fun _ => 0))), (q4, .inl (cT 2, 40, .inl (fun _ => 0)))] := hD
  refine va_putF (D := D) (ci := 0) (v := .ref q4) (ty := .array .boolean) (C := RX0) (T := TX0) (N := 5) hx hb hts inX0 tyX0 tyX0_ok nmX0 hown hK hP hD hS 0 rfl rfl 3 (by decide) (hts _ q_36) (fun _ h9 => h9) rfl hin rfl (by decide +kernel) rfl rfl (Nat.le_of_ble_eq_true rfl) dX0_init_34 (fun H locs hP hD hS => ?_)
  have hP : va_P D vwCl [(h_o, .inr (0, [.ref q1, .ref q2, .ref q3, .ref q4, .int 0])), (q1, .inl (cT 0, 40, .inl (fun _ => 0))), (q2, .inl (cT 0, 40, .inl (fun _ => 0))), (q3, .inl (cT 0, 1640, .inl (fun _ => 0))), (q4, .inl (cT 2, 40, .inl (fun _ => 0)))] H := hP
  have hD : va_D A [(h_o, .inr (0, [.ref q1, .ref q2, .ref q3, .ref q4, .int 0])), (q1, .inl (cT 0, 40, .inl (fun _ => 0))), (q2, .inl (cT 0, 40, .inl (fun _ => 0))), (q3, .inl (cT 0, 1640, .inl (fun _ => 0))), (q4, .inl (cT 2, 40, .inl (fun _ => 0)))] := hD
  refine lv_aload_n hx hb dX0_init_37 rfl (lv_at hl 0 rfl) ?_
  refine lv_iconst (v := 1) hx hb dX0_init_38 (by decide) ?_
  refine va_put (D := D) (ci := 0) (v := .int 1) (ty := .int) (C := RX0) (T := TX0) (N := 5) hx hb hts inX0 tyX0 tyX0_ok nmX0 hown hK hP hD hS 0 rfl rfl 4 (by decide) (hts _ q_37) (fun _ h9 => h9) rfl (by decide +kernel) rfl rfl (Nat.le_of_ble_eq_true rfl) dX0_init_39 (fun H locs hP hD hS => ?_)
  have hP : va_P D vwCl [(h_o, .inr (0, [.ref q1, .ref q2, .ref q3, .ref q4, .int 1])), (q1, .inl (cT 0, 40, .inl (fun _ => 0))), (q2, .inl (cT 0, 40, .inl (fun _ => 0))), (q3, .inl (cT 0, 1640, .inl (fun _ => 0))), (q4, .inl (cT 2, 40, .inl (fun _ => 0)))] H := hP
  have hD : va_D A [(h_o, .inr (0, [.ref q1, .ref q2, .ref q3, .ref q4, .int 1])), (q1, .inl (cT 0, 40, .inl (fun _ => 0))), (q2, .inl (cT 0, 40, .inl (fun _ => 0))), (q3, .inl (cT 0, 1640, .inl (fun _ => 0))), (q4, .inl (cT 2, 40, .inl (fun _ => 0)))] := hD
  refine lv_aload_n hx hb dX0_init_42 rfl (lv_at hl 0 rfl) ?_
  refine va_get (D := D) (ci := 0) (v := .ref q1) (C := RX0) (T := TX0) (N := 5) hx hb hts inX0 hown hK hP 0 rfl rfl 0 (by decide) (hts _ q_31) (fun _ h9 => h9) rfl dX0_init_43 ?_
  refine lv_iconst (v := 0) hx hb dX0_init_46 (by decide) ?_
  refine lv_iconst (v := 1) hx hb dX0_init_47 (by decide) ?_
  refine va_iast hx hb hK hP hD hS 1 0 rfl rfl (by unfold vp_in; decide) dX0_init_48 (fun H locs hP hD hS => ?_)
  have hP : va_P D vwCl [(h_o, .inr (0, [.ref q1, .ref q2, .ref q3, .ref q4, .int 1])), (q1, .inl (cT 0, 40, .inl (upd (fun _ => 0) (0 : Int32).toNatClampNeg 1))), (q2, .inl (cT 0, 40, .inl (fun _ => 0))), (q3, .inl (cT 0, 1640, .inl (fun _ => 0))), (q4, .inl (cT 2, 40, .inl (fun _ => 0)))] H := hP
  have hD : va_D A [(h_o, .inr (0, [.ref q1, .ref q2, .ref q3, .ref q4, .int 1])), (q1, .inl (cT 0, 40, .inl (upd (fun _ => 0) (0 : Int32).toNatClampNeg 1))), (q2, .inl (cT 0, 40, .inl (fun _ => 0))), (q3, .inl (cT 0, 1640, .inl (fun _ => 0))), (q4, .inl (cT 2, 40, .inl (fun _ => 0)))] := hD
  refine lv_aload_n hx hb dX0_init_49 rfl (lv_at hl 0 rfl) ?_
  refine va_get (D := D) (ci := 0) (v := .ref q2) (C := RX0) (T := TX0) (N := 5) hx hb hts inX0 hown hK hP 0 rfl rfl 1 (by decide) (hts _ q_33) (fun _ h9 => h9) rfl dX0_init_50 ?_
  refine lv_iconst (v := 0) hx hb dX0_init_53 (by decide) ?_
  refine lv_iconst (v := 1) hx hb dX0_init_54 (by decide) ?_
  refine va_iast hx hb hK hP hD hS 2 0 rfl rfl (by unfold vp_in; decide) dX0_init_55 (fun H locs hP hD hS => ?_)
  have hP : va_P D vwCl [(h_o, .inr (0, [.ref q1, .ref q2, .ref q3, .ref q4, .int 1])), (q1, .inl (cT 0, 40, .inl (upd (fun _ => 0) (0 : Int32).toNatClampNeg 1))), (q2, .inl (cT 0, 40, .inl (upd (fun _ => 0) (0 : Int32).toNatClampNeg 1))), (q3, .inl (cT 0, 1640, .inl (fun _ => 0))), (q4, .inl (cT 2, 40, .inl (fun _ => 0)))] H := hP
  have hD : va_D A [(h_o, .inr (0, [.ref q1, .ref q2, .ref q3, .ref q4, .int 1])), (q1, .inl (cT 0, 40, .inl (upd (fun _ => 0) (0 : Int32).toNatClampNeg 1))), (q2, .inl (cT 0, 40, .inl (upd (fun _ => 0) (0 : Int32).toNatClampNeg 1))), (q3, .inl (cT 0, 1640, .inl (fun _ => 0))), (q4, .inl (cT 2, 40, .inl (fun _ => 0)))] := hD
  exact W.vret hx hb hr (fun t ht hW => ⟨⟨(), rfl, trivial, q1, q2, q3, q4, by rw [ht]; exact hP, hD⟩, hS.F ht⟩) hS.2.2 dX0_init_56
