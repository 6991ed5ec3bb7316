set_option maxHeartbeats 4000000 in
set_option maxRecDepth 100000 in
theorem cc_X5 (l : Launch) (D : va_G) (cT : Nat → ClassId) (h_o : Nat) (sz : Nat) : Met l yX5_init wX5_init ({ frames := 1, cells := 1, slots := 301, locals := 12 } : Room) (va_Pc [.ref h_o] (pre_ D cT [(h_o, .inr (5, [.null, .int 0]))] sz)) (va_Qv (fun _ : Unit => True) (fun (_ : Unit) t => ∃ q1 : Nat, va_P D vwCl [(h_o, .inr (5, [.ref q1, .int 0])), (q1, .inl (cT 3, 301, .inl (fun _ => 0)))] t.heap ∧ va_D (va_A [(h_o, .inr (5, [.null, .int 0]))] sz) [(h_o, .inr (5, [.ref q1, .int 0])), (q1, .inl (cT 3, 301, .inl (fun _ => 0)))]) (va_A [(h_o, .inr (5, [.null, .int 0]))] sz)) 1 301 (va_A [(h_o, .inr (5, [.null, .int 0]))] sz) := by
  refine Met.ofW (cc := cX5_init) (maxL := 1) (ret := none) (by decide) rfl ?_
  intro p e s m args below meth c s₁ B hml hv
  obtain ⟨rfl, hv⟩ := hv
  obtain ⟨hsz, hP, hK, hD0, hN⟩ := hv
  have hx := B.exec
  have hb := B.bytes
  have hr := B.returns
  have hts : ∀ w ∈ WG, w.before _ s = true := fun w h => atoms_spec (ws := wX5_init) B.pre w (List.mem_cons_of_mem _ h)
  have hown : s.vm.findClass RX5 = some m.cls := findClass_of_methodNamed B.named
  have hlocks := B.notSynchronized
  have hin : meth.name = "<init>" := (name_of_methodNamed B.named B.method).1
  subst hsz
  have hD := hD0.self (sz := s.heap.size)
  generalize hAe : va_A [(h_o, .inr (5, [.null, .int 0]))] s.heap.size = A at hD ⊢
  have hA : ∀ q : Nat, s.heap.size ≤ q → A q := fun q h => by rw [← hAe]; exact Or.inr h
  have hS : va_S A s.heap s.heap [] := va_S.rf
  have hl := lv_entry ([.ref h_o]) (n := 1) (Nat.le_of_ble_eq_true rfl)
  rw [lg_entry_eq]
  generalize (lg_sl ([.ref h_o]) ++ List.replicate (1 - (lg_sl ([.ref h_o])).length) Slot.unset).toArray = ls at hl ⊢
  have hl : lv_has ls 1 [(0, .ref h_o)] := hl
  refine lv_aload_n hx hb dX5_init_0 rfl (lv_at hl 0 rfl) ?_
  refine W.objInit hx hb hown (hts _ q_152) (hts _ q_23) (hts _ q_24) rfl (by rw [hml]; exact hl.1) rfl dX5_init_1 (Nat.le_of_ble_eq_true rfl) (Nat.le_of_ble_eq_true rfl) ?_
  refine W.eq (g2 := F0 m 4 ls []) rfl ?_
  refine lv_aload_n hx hb dX5_init_4 rfl (lv_at hl 0 rfl) ?_
  refine lv_sipush (v := 301) hx hb dX5_init_5 (by decide) ?_
  refine va_newa (atype := .char) (N' := 301) (a0 := (301, .inl (fun _ => 0))) hx hb (hts _ q_162) rfl hK hP hD hS hA (fun cA => rfl) (by decide) (by decide) (by decide +kernel) (Nat.le_of_ble_eq_true rfl) (Nat.le_of_ble_eq_true rfl) dX5_init_8 (fun q1 cA H hK9 hP hD hS => ?_)
  have e9 := ca_eq (k := 3) (cB := cT 3) hK9 rfl
  subst e9
  clear hK9
  refine W.widen (k := 1) (n := 301) (Nat.le_of_ble_eq_true rfl) (Nat.le_of_ble_eq_true rfl) ?_
  have hP : va_P D vwCl [(h_o, .inr (5, [.null, .int 0])), (q1, .inl (cT 3, 301, .inl (fun _ => 0)))] H := hP
  have hD : va_D A [(h_o, .inr (5, [.null, .int 0])), (q1, .inl (cT 3, 301, .inl (fun _ => 0)))] := hD
  refine va_putF (D := D) (ci := 5) (v := .ref q1) (ty := .array .char) (C := RX5) (T := TX5) (N := 2) hx hb hts inX5 tyX5 tyX5_ok nmX5 hown hK hP hD hS 0 rfl rfl 0 (by decide) (hts _ q_153) (fun _ h9 => h9) rfl hin rfl (by decide +kernel) rfl rfl (Nat.le_of_ble_eq_true rfl) dX5_init_10 (fun H locs hP hD hS => ?_)
  have hP : va_P D vwCl [(h_o, .inr (5, [.ref q1, .int 0])), (q1, .inl (cT 3, 301, .inl (fun _ => 0)))] H := hP
  have hD : va_D A [(h_o, .inr (5, [.ref q1, .int 0])), (q1, .inl (cT 3, 301, .inl (fun _ => 0)))] := hD
  exact W.vret hx hb hr (fun t ht hW => ⟨⟨(), rfl, trivial, q1, by rw [ht]; exact hP, hD⟩, hS.F ht⟩) hS.2.2 dX5_init_13
