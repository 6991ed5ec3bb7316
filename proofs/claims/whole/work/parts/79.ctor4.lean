set_option maxHeartbeats 4000000 in
set_option maxRecDepth 100000 in
theorem cc_X2 (l : Launch) (D : va_G) (cT : Nat → ClassId) (h_o : Nat) (sz : Nat) : Met l yX2_init wX2_init ({ frames := 2, cells := 8, slots := 68, locals := 32 } : Room) (va_Pc [.ref h_o] (pre_ D cT [(h_o, .inr (2, [.null, .null, .null, .null]))] sz)) (va_Qv (fun _ : Unit => True) (fun (_ : Unit) t => ∃ q1 q2 q3 q4 q5 q6 q7 q8 : Nat, va_P D vwCl [(h_o, .inr (2, [.ref q1, .ref q3, .ref q5, .ref q7])), (q1, .inr (4, [.ref q2])), (q2, .inl (cT 0, 16, .inl (fun _ => 0))), (q3, .inr (4, [.ref q4])), (q4, .inl (cT 0, 16, .inl (fun _ => 0))), (q5, .inr (4, [.ref q6])), (q6, .inl (cT 0, 16, .inl (fun _ => 0))), (q7, .inr (4, [.ref q8])), (q8, .inl (cT 0, 16, .inl (fun _ => 0)))] t.heap ∧ va_D (va_A [(h_o, .inr (2, [.null, .null, .null, .null]))] sz) [(h_o, .inr (2, [.ref q1, .ref q3, .ref q5, .ref q7])), (q1, .inr (4, [.ref q2])), (q2, .inl (cT 0, 16, .inl (fun _ => 0))), (q3, .inr (4, [.ref q4])), (q4, .inl (cT 0, 16, .inl (fun _ => 0))), (q5, .inr (4, [.ref q6])), (q6, .inl (cT 0, 16, .inl (fun _ => 0))), (q7, .inr (4, [.ref q8])), (q8, .inl (cT 0, 16, .inl (fun _ => 0)))]) (va_A [(h_o, .inr (2, [.null, .null, .null, .null]))] sz)) 8 68 (va_A [(h_o, .inr (2, [.null, .null, .null, .null]))] sz) := by
  refine Met.ofW (cc := cX2_init) (maxL := 1) (ret := none) (by decide) rfl ?_
  intro p e s m args below meth c s₁ B hml hv
  obtain ⟨rfl, hv⟩ := hv
  obtain ⟨hsz, hP, hK, hD0, hN⟩ := hv
  have hx := B.exec
  have hb := B.bytes
  have hr := B.returns
  have hts : ∀ w ∈ WG, w.before _ s = true := fun w h => atoms_spec (ws := wX2_init) B.pre w (List.mem_cons_of_mem _ h)
  have hown : s.vm.findClass RX2 = some m.cls := findClass_of_methodNamed B.named
  have hlocks := B.notSynchronized
  have hin : meth.name = "<init>" := (name_of_methodNamed B.named B.method).1
  subst hsz
  have hD := hD0.self (sz := s.heap.size)
  generalize hAe : va_A [(h_o, .inr (2, [.null, .null, .null, .null]))] s.heap.size = A at hD ⊢
  have hA : ∀ q : Nat, s.heap.size ≤ q → A q := fun q h => by rw [← hAe]; exact Or.inr h
  have hS : va_S A s.heap s.heap [] := va_S.rf
  have hl := lv_entry ([.ref h_o]) (n := 1) (Nat.le_of_ble_eq_true rfl)
  rw [lg_entry_eq]
  generalize (lg_sl ([.ref h_o]) ++ List.replicate (1 - (lg_sl ([.ref h_o])).length) Slot.unset).toArray = ls at hl ⊢
  have hl : lv_has ls 1 [(0, .ref h_o)] := hl
  refine lv_aload_n hx hb dX2_init_0 rfl (lv_at hl 0 rfl) ?_
  refine W.objInit hx hb hown (hts _ q_129) (hts _ q_23) (hts _ q_24) rfl (by rw [hml]; exact hl.1) rfl dX2_init_1 (Nat.le_of_ble_eq_true rfl) (Nat.le_of_ble_eq_true rfl) ?_
  refine W.eq (g2 := F0 m 4 ls []) rfl ?_
  refine lv_aload_n hx hb dX2_init_4 rfl (lv_at hl 0 rfl) ?_
  refine va_new (ci := 4) (fs := [.null]) (C := RX4) (T := TX4) (N := 1) hx hb hts inX4 tyX4 tyX4_ok hown (hts _ q_130) (hts _ q_100) (hts _ q_6) hK hP hD hS hA rfl (fun j hj => by rcases (show j = 0 by omega) with rfl <;> rfl) (Nat.le_of_ble_eq_true rfl) (Nat.le_of_ble_eq_true rfl) dX2_init_5 (fun q1 H hP hD hS => ?_)
  refine W.widen (k := 1) (n := 1) (Nat.le_of_ble_eq_true rfl) (Nat.le_of_ble_eq_true rfl) ?_
  refine lv_dup hx hb dX2_init_8 rfl ?_
  have hPc := lp_P (R := [(h_o, .inr (2, [.null, .null, .null, .null]))]) (wc := [(q1, .inr (4, [.null]))]) hP
  have hDc := lp_D (R := [(h_o, .inr (2, [.null, .null, .null, .null]))]) (wc := [(q1, .inr (4, [.null]))]) hD
  have hFc := va_free2 (wc := [(q1, .inr (4, [.null]))]) hD hS hA (fun z hz => List.mem_append_right _ hz)
  refine va_callv (va_runIN (As := []) (rest := [.ref q1, .ref h_o]) ⟨hx, hb, hml, hown, hts⟩ (cc_X4 l D cT q1 H.size) (gin_ 0 q_103 q_6 hN.2.2.2.2.2.2.2.2.2.2.2.2.2.2.2.1 q_102 rfl (by decide +kernel) ⟨(Nat.le_of_ble_eq_true rfl), (Nat.le_of_ble_eq_true rfl)⟩ hts) ⟨pre_blind, fun U hU hW => ⟨rfl, pre_mk hU hW hPc hK hDc hN⟩⟩ rfl rfl hl.1 rfl (lv_room (Nat.le_of_ble_eq_true rfl)) dX2_init_9 ⟨(Nat.le_of_ble_eq_true rfl), (Nat.le_of_ble_eq_true rfl)⟩) hS (fun q _ h => hFc q h) hFc (fun u9 t H locs ht hvm h9 hB hz1 hk1 hS => ?_)
  refine W.widen (k := 2) (n := 17) (Nat.le_of_ble_eq_true rfl) (Nat.le_of_ble_eq_true rfl) ?_
  obtain ⟨q2, hP1, hD1⟩ := hB
  rw [ht] at hP1
  obtain ⟨hP, hD⟩ := gj_ (R := [(h_o, .inr (2, [.null, .null, .null, .null]))]) (wc := [(q1, .inr (4, [.null]))]) (w1 := [(q1, .inr (4, [.ref q2])), (q2, .inl (cT 0, 16, .inl (fun _ => 0)))]) hP hD hk1 hFc hP1 hD1
  clear hP1 hD1 hPc hDc hFc hk1 hz1 hvm ht h9
  have hP : va_P D vwCl [(h_o, .inr (2, [.null, .null, .null, .null])), (q1, .inr (4, [.ref q2])), (q2, .inl (cT 0, 16, .inl (fun _ => 0)))] H := hP
  have hD : va_D A [(h_o, .inr (2, [.null, .null, .null, .null])), (q1, .inr (4, [.ref q2])), (q2, .inl (cT 0, 16, .inl (fun _ => 0)))] := hD
  refine va_putF (D := D) (ci := 2) (v := .ref q1) (ty := .object "ChainDesk$Natural") (C := RX2) (T := TX2) (N := 4) hx hb hts inX2 tyX2 tyX2_ok nmX2 hown hK hP hD hS 0 rfl rfl 0 (by decide) (hts _ q_132) (fun _ h9 => h9) rfl hin rfl (by decide +kernel) rfl rfl (Nat.le_of_ble_eq_true rfl) dX2_init_12 (fun H locs hP hD hS => ?_)
  have hP : va_P D vwCl [(h_o, .inr (2, [.ref q1, .null, .null, .null])), (q1, .inr (4, [.ref q2])), (q2, .inl (cT 0, 16, .inl (fun _ => 0)))] H := hP
  have hD : va_D A [(h_o, .inr (2, [.ref q1, .null, .null, .null])), (q1, .inr (4, [.ref q2])), (q2, .inl (cT 0, 16, .inl (fun _ => 0)))] := hD
  refine lv_aload_n hx hb dX2_init_15 rfl (lv_at hl 0 rfl) ?_
  refine va_new (ci := 4) (fs := [.null]) (C := RX4) (T := TX4) (N := 1) hx hb hts inX4 tyX4 tyX4_ok hown (hts _ q_130) (hts _ q_100) (hts _ q_6) hK hP hD hS hA rfl (fun j hj => by rcases (show j = 0 by omega) with rfl <;> rfl) (Nat.le_of_ble_eq_true rfl) (Nat.le_of_ble_eq_true rfl) dX2_init_16 (fun q3 H hP hD hS => ?_)
  refine W.widen (k := 3) (n := 18) (Nat.le_of_ble_eq_true rfl) (Nat.le_of_ble_eq_true rfl) ?_
  refine lv_dup hx hb dX2_init_19 rfl ?_
  have hPc := lp_P (R := [(h_o, .inr (2, [.ref q1, .null, .null, .null])), (q1, .inr (4, [.ref q2])), (q2, .inl (cT 0, 16, .inl (fun _ => 0)))]) (wc := [(q3, .inr (4, [.null]))]) hP
  have hDc := lp_D (R := [(h_o, .inr (2, [.ref q1, .null, .null, .null])), (q1, .inr (4, [.ref q2])), (q2, .inl (cT 0, 16, .inl (fun _ => 0)))]) (wc := [(q3, .inr (4, [.null]))]) hD
  have hFc := va_free2 (wc := [(q3, .inr (4, [.null]))]) hD hS hA (fun z hz => List.mem_append_right _ hz)
  refine va_callv (va_runIN (As := []) (rest := [.ref q3, .ref h_o]) ⟨hx, hb, hml, hown, hts⟩ (cc_X4 l D cT q3 H.size) (gin_ 0 q_103 q_6 hN.2.2.2.2.2.2.2.2.2.2.2.2.2.2.2.1 q_102 rfl (by decide +kernel) ⟨(Nat.le_of_ble_eq_true rfl), (Nat.le_of_ble_eq_true rfl)⟩ hts) ⟨pre_blind, fun U hU hW => ⟨rfl, pre_mk hU hW hPc hK hDc hN⟩⟩ rfl rfl hl.1 rfl (lv_room (Nat.le_of_ble_eq_true rfl)) dX2_init_20 ⟨(Nat.le_of_ble_eq_true rfl), (Nat.le_of_ble_eq_true rfl)⟩) hS (fun q _ h => hFc q h) hFc (fun u9 t H locs ht hvm h9 hB hz1 hk1 hS => ?_)
  refine W.widen (k := 4) (n := 34) (Nat.le_of_ble_eq_true rfl) (Nat.le_of_ble_eq_true rfl) ?_
  obtain ⟨q4, hP1, hD1⟩ := hB
  rw [ht] at hP1
  obtain ⟨hP, hD⟩ := gj_ (R := [(h_o, .inr (2, [.ref q1, .null, .null, .null])), (q1, .inr (4, [.ref q2])), (q2, .inl (cT 0, 16, .inl (fun _ => 0)))]) (wc := [(q3, .inr (4, [.null]))]) (w1 := [(q3, .inr (4, [.ref q4])), (q4, .inl (cT 0, 16, .inl (fun _ => 0)))]) hP hD hk1 hFc hP1 hD1
  clear hP1 hD1 hPc hDc hFc hk1 hz1 hvm ht h9
  have hP : va_P D vwCl [(h_o, .inr (2, [.ref q1, .null, .null, .null])), (q1, .inr (4, [.ref q2])), (q2, .inl (cT 0, 16, .inl (fun _ => 0))), (q3, .inr (4, [.ref q4])), (q4, .inl (cT 0, 16, .inl (fun _ => 0)))] H := hP
  have hD : va_D A [(h_o, .inr (2, [.ref q1, .null, .null, .null])), (q1, .inr (4, [.ref q2])), (q2, .inl (cT 0, 16, .inl (fun _ => 0))), (q3, .inr (4, [.ref q4])), (q4, .inl (cT 0, 16, .inl (fun _ => 0)))] := hD
  refine va_putF (D := D) (ci := 2) (v := .ref q3) (ty := .object "ChainDesk$Natural") (C := RX2) (T := TX2) (N := 4) hx hb hts inX2 tyX2 tyX2_ok nmX2 hown hK hP hD hS 0 rfl rfl 1 (by decide) (hts _ q_134) (fun _ h9 => h9) rfl hin rfl (by decide +kernel) rfl rfl (Nat.le_of_ble_eq_true rfl) dX2_init_23 (fun H locs hP hD hS => ?_)
  have hP : va_P D vwCl [(h_o, .inr (2, [.ref q1, .ref q3, .null, .null])), (q1, .inr (4, [.ref q2])), (q2, .inl (cT 0, 16, .inl (fun _ => 0))), (q3, .inr (4, [.ref q4])), (q4, .inl (cT 0, 16, .inl (fun _ => 0)))] H := hP
  have hD : va_D A [(h_o, .inr (2, [.ref q1, .ref q3, .null, .null])), (q1, .inr (4, [.ref q2])), (q2, .inl (cT 0, 16, .inl (fun _ => 0))), (q3, .inr (4, [.ref q4])), (q4, .inl (cT 0, 16, .inl (fun _ => 0)))] := hD
  refine lv_aload_n hx hb dX2_init_26 rfl (lv_at hl 0 rfl) ?_
  refine va_new (ci := 4) (fs := [.null]) (C := RX4) (T := TX4) (N := 1) hx hb hts inX4 tyX4 tyX4_ok hown (hts _ q_130) (hts _ q_100) (hts _ q_6) hK hP hD hS hA rfl (fun j hj => by rcases (show j = 0 by omega) with rfl <;> rfl) (Nat.le_of_ble_eq_true rfl) (Nat.le_of_ble_eq_true rfl) dX2_init_27 (fun q5 H hP hD hS => ?_)
  refine W.widen (k := 5) (n := 35) (Nat.le_of_ble_eq_true rfl) (Nat.le_of_ble_eq_true rfl) ?_
  refine lv_dup hx hb dX2_init_30 rfl ?_
  have hPc := lp_P (R := [(h_o, .inr (2, [.ref q1, .ref q3, .null, .null])), (q1, .inr (4, [.ref q2])), (q2, .inl (cT 0, 16, .inl (fun _ => 0))), (q3, .inr (4, [.ref q4])), (q4, .inl (cT 0, 16, .inl (fun _ => 0)))]) (wc := [(q5, .inr (4, [.null]))]) hP
  have hDc := lp_D (R := [(h_o, .inr (2, [.ref q1, .ref q3, .null, .null])), (q1, .inr (4, [.ref q2])), (q2, .inl (cT 0, 16, .inl (fun _ => 0))), (q3, .inr (4, [.ref q4])), (q4, .inl (cT 0, 16, .inl (fun _ => 0)))]) (wc := [(q5, .inr (4, [.null]))]) hD
  have hFc := va_free2 (wc := [(q5, .inr (4, [.null]))]) hD hS hA (fun z hz => List.mem_append_right _ hz)
  refine va_callv (va_runIN (As := []) (rest := [.ref q5, .ref h_o]) ⟨hx, hb, hml, hown, hts⟩ (cc_X4 l D cT q5 H.size) (gin_ 0 q_103 q_6 hN.2.2.2.2.2.2.2.2.2.2.2.2.2.2.2.1 q_102 rfl (by decide +kernel) ⟨(Nat.le_of_ble_eq_true rfl), (Nat.le_of_ble_eq_true rfl)⟩ hts) ⟨pre_blind, fun U hU hW => ⟨rfl, pre_mk hU hW hPc hK hDc hN⟩⟩ rfl rfl hl.1 rfl (lv_room (Nat.le_of_ble_eq_true rfl)) dX2_init_31 ⟨(Nat.le_of_ble_eq_true rfl), (Nat.le_of_ble_eq_true rfl)⟩) hS (fun q _ h => hFc q h) hFc (fun u9 t H locs ht hvm h9 hB hz1 hk1 hS => ?_)
  refine W.widen (k := 6) (n := 51) (Nat.le_of_ble_eq_true rfl) (Nat.le_of_ble_eq_true rfl) ?_
  obtain ⟨q6, hP1, hD1⟩ := hB
  rw [ht] at hP1
  obtain ⟨hP, hD⟩ := gj_ (R := [(h_o, .inr (2, [.ref q1, .ref q3, .null, .null])), (q1, .inr (4, [.ref q2])), (q2, .inl (cT 0, 16, .inl (fun _ => 0))), (q3, .inr (4, [.ref q4])), (q4, .inl (cT 0, 16, .inl (fun _ => 0)))]) (wc := [(q5, .inr (4, [.null]))]) (w1 := [(q5, .inr (4, [.ref q6])), (q6, .inl (cT 0, 16, .inl (fun _ => 0)))]) hP hD hk1 hFc hP1 hD1
  clear hP1 hD1 hPc hDc hFc hk1 hz1 hvm ht h9
  have hP : va_P D vwCl [(h_o, .inr (2, [.ref q1, .ref q3, .null, .null])), (q1, .inr (4, [.ref q2])), (q2, .inl (cT 0, 16, .inl (fun _ => 0))), (q3, .inr (4, [.ref q4])), (q4, .inl (cT 0, 16, .inl (fun _ => 0))), (q5, .inr (4, [.ref q6])), (q6, .inl (cT 0, 16, .inl (fun _ => 0)))] H := hP
  have hD : va_D A [(h_o, .inr (2, [.ref q1, .ref q3, .null, .null])), (q1, .inr (4, [.ref q2])), (q2, .inl (cT 0, 16, .inl (fun _ => 0))), (q3, .inr (4, [.ref q4])), (q4, .inl (cT 0, 16, .inl (fun _ => 0))), (q5, .inr (4, [.ref q6])), (q6, .inl (cT 0, 16, .inl (fun _ => 0)))] := hD
  refine va_putF (D := D) (ci := 2) (v := .ref q5) (ty := .object "ChainDesk$Natural") (C := RX2) (T := TX2) (N := 4) hx hb hts inX2 tyX2 tyX2_ok nmX2 hown hK hP hD hS 0 rfl rfl 2 (by decide) (hts _ q_136) (fun _ h9 => h9) rfl hin rfl (by decide +kernel) rfl rfl (Nat.le_of_ble_eq_true rfl) dX2_init_34 (fun H locs hP hD hS => ?_)
  have hP : va_P D vwCl [(h_o, .inr (2, [.ref q1, .ref q3, .ref q5, .null])), (q1, .inr (4, [.ref q2])), (q2, .inl (cT 0, 16, .inl (fun _ => 0))), (q3, .inr (4, [.ref q4])), (q4, .inl (cT 0, 16, .inl (fun _ => 0))), (q5, .inr (4, [.ref q6])), (q6, .inl (cT 0, 16, .inl (fun _ => 0)))] H := hP
  have hD : va_D A [(h_o, .inr (2, [.ref q1, .ref q3, .ref q5, .null])), (q1, .inr (4, [.ref q2])), (q2, .inl (cT 0, 16, .inl (fun _ => 0))), (q3, .inr (4, [.ref q4])), (q4, .inl (cT 0, 16, .inl (fun _ => 0))), (q5, .inr (4, [.ref q6])), (q6, .inl (cT 0, 16, .inl (fun _ => 0)))] := hD
  refine lv_aload_n hx hb dX2_init_37 rfl (lv_at hl 0 rfl) ?_
  refine va_new (ci := 4) (fs := [.null]) (C := RX4) (T := TX4) (N := 1) hx hb hts inX4 tyX4 tyX4_ok hown (hts _ q_130) (hts _ q_100) (hts _ q_6) hK hP hD hS hA rfl (fun j hj => by rcases (show j = 0 by omega) with rfl <;> rfl) (Nat.le_of_ble_eq_true rfl) (Nat.le_of_ble_eq_true rfl) dX2_init_38 (fun q7 H hP hD hS => ?_)
  refine W.widen (k := 7) (n := 52) (Nat.le_of_ble_eq_true rfl) (Nat.le_of_ble_eq_true rfl) ?_
  refine lv_dup hx hb dX2_init_41 rfl ?_
  have hPc := lp_P (R := [(h_o, .inr (2, [.ref q1, .ref q3, .ref q5, .null])), (q1, .inr (4, [.ref q2])), (q2, .inl (cT 0, 16, .inl (fun _ => 0))), (q3, .inr (4, [.ref q4])), (q4, .inl (cT 0, 16, .inl (fun _ => 0))), (q5, .inr (4, [.ref q6])), (q6, .inl (cT 0, 16, .inl (fun _ => 0)))]) (wc := [(q7, .inr (4, [.null]))]) hP
  have hDc := lp_D (R := [(h_o, .inr (2, [.ref q1, .ref q3, .ref q5, .null])), (q1, .inr (4, [.ref q2])), (q2, .inl (cT 0, 16, .inl (fun _ => 0))), (q3, .inr (4, [.ref q4])), (q4, .inl (cT 0, 16, .inl (fun _ => 0))), (q5, .inr (4, [.ref q6])), (q6, .inl (cT 0, 16, .inl (fun _ => 0)))]) (wc := [(q7, .inr (4, [.null]))]) hD
  have hFc := va_free2 (wc := [(q7, .inr (4, [.null]))]) hD hS hA (fun z hz => List.mem_append_right _ hz)
  refine va_callv (va_runIN (As := []) (rest := [.ref q7, .ref h_o]) ⟨hx, hb, hml, hown, hts⟩ (cc_X4 l D cT q7 H.size) (gin_ 0 q_103 q_6 hN.2.2.2.2.2.2.2.2.2.2.2.2.2.2.2.1 q_102 rfl (by decide +kernel) ⟨(Nat.le_of_ble_eq_true rfl), (Nat.le_of_ble_eq_true rfl)⟩ hts) ⟨pre_blind, fun U hU hW => ⟨rfl, pre_mk hU hW hPc hK hDc hN⟩⟩ rfl rfl hl.1 rfl (lv_room (Nat.le_of_ble_eq_true rfl)) dX2_init_42 ⟨(Nat.le_of_ble_eq_true rfl), (Nat.le_of_ble_eq_true rfl)⟩) hS (fun q _ h => hFc q h) hFc (fun u9 t H locs ht hvm h9 hB hz1 hk1 hS => ?_)
  refine W.widen (k := 8) (n := 68) (Nat.le_of_ble_eq_true rfl) (Nat.le_of_ble_eq_true rfl) ?_
  obtain ⟨q8, hP1, hD1⟩ := hB
  rw [ht] at hP1
  obtain ⟨hP, hD⟩ := gj_ (R := [(h_o, .inr (2, [.ref q1, .ref q3, .ref q5, .null])), (q1, .inr (4, [.ref q2])), (q2, .inl (cT 0, 16, .inl (fun _ => 0))), (q3, .inr (4, [.ref q4])), (q4, .inl (cT 0, 16, .inl (fun _ => 0))), (q5, .inr (4, [.ref q6])), (q6, .inl (cT 0, 16, .inl (fun _ => 0)))]) (wc := [(q7, .inr (4, [.null]))]) (w1 := [(q7, .inr (4, [.ref q8])), (q8, .inl (cT 0, 16, .inl (fun _ => 0)))]) hP hD hk1 hFc hP1 hD1
  clear hP1 hD1 hPc hDc hFc hk1 hz1 hvm ht h9
  have hP : va_P D vwCl [(h_o, .inr (2, [.ref q1, .ref q3, .ref q5, .null])), (q1, .inr (4, [.ref q2])), (q2, .inl (cT 0, 16, .inl (fun _ => 0))), (q3, .inr (4, [.ref q4])), (q4, .inl (cT 0, 16, .inl (fun _ => 0))), (q5, .inr (4, [.ref q6])), (q6, .inl (cT 0, 16, .inl (fun _ => 0))), (q7, .inr (4, [.ref q8])), (q8, .inl (cT 0, 16, .inl (fun _ => 0)))] H := hP
  have hD : va_D A [(h_o, .inr (2, [.ref q1, .ref q3, .ref q5, .null])), (q1, .inr (4, [.ref q2])), (q2, .inl (cT 0, 16, .inl (fun _ => 0))), (q3, .inr (4, [.ref q4])), (q4, .inl (cT 0, 16, .inl (fun _ => 0))), (q5, .inr (4, [.ref q6])), (q6, .inl (cT 0, 16, .inl (fun _ => 0))), (q7, .inr (4, [.ref q8])), (q8, .inl (cT 0, 16, .inl (fun _ => 0)))] := hD
  refine va_putF (D := D) (ci := 2) (v := .ref q7) (ty := .object "ChainDesk$Natural") (C := RX2) (T := TX2) (N := 4) hx hb hts inX2 tyX2 tyX2_ok nmX2 hown hK hP hD hS 0 rfl rfl 3 (by decide) (hts _ q_137) (fun _ h9 => h9) rfl hin rfl (by decide +kernel) rfl rfl (Nat.le_of_ble_eq_true rfl) dX2_init_45 (fun H locs hP hD hS => ?_)
  have hP : va_P D vwCl [(h_o, .inr (2, [.ref q1, .ref q3, .ref q5, .ref q7])), (q1, .inr (4, [.ref q2])), (q2, .inl (cT 0, 16, .inl (fun _ => 0))), (q3, .inr (4, [.ref q4])), (q4, .inl (cT 0, 16, .inl (fun _ => 0))), (q5, .inr (4, [.ref q6])), (q6, .inl (cT 0, 16, .inl (fun _ => 0))), (q7, .inr (4, [.ref q8])), (q8, .inl (cT 0, 16, .inl (fun _ => 0)))] H := hP
  have hD : va_D A [(h_o, .inr (2, [.ref q1, .ref q3, .ref q5, .ref q7])), (q1, .inr (4, [.ref q2])), (q2, .inl (cT 0, 16, .inl (fun _ => 0))), (q3, .inr (4, [.ref q4])), (q4, .inl (cT 0, 16, .inl (fun _ => 0))), (q5, .inr (4, [.ref q6])), (q6, .inl (cT 0, 16, .inl (fun _ => 0))), (q7, .inr (4, [.ref q8])), (q8, .inl (cT 0, 16, .inl (fun _ => 0)))] := hD
  exact W.vret hx hb hr (fun t ht hW => ⟨⟨(), rfl, trivial, q1, q2, q3, q4, q5, q6, q7, q8, by rw [ht]; exact hP, hD⟩, hS.F ht⟩) hS.2.2 dX2_init_48
