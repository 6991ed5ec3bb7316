set_option maxHeartbeats 4000000 in
set_option maxRecDepth 100000 in
theorem cc_X3 (l : Launch) (D : va_G) (cT : Nat → ClassId) (h_o : Nat) (sz : Nat) : Met l yX3_init wX3_init ({ frames := 3, cells := 89, slots := 2440, locals := 52 } : Room) (va_Pc [.ref h_o] (pra_ D cT [(h_o, .inr (3, [.null, .null, .null, .null]))] sz)) (va_Qv (fun _ : Unit => True) (fun (_ : Unit) t => ∃ q1 q2 q3 q4 q5 q6 q7 q8 q9 : Nat, ∃ h_ad h_la : Nat → Nat, va_P D vwCl (ap_ [(h_o, .inr (3, [.ref q1, .ref q5, .ref q6, .ref q8])), (q1, .inr (1, [.ref q2, .ref q3, .ref q4, .int 0, .long 0])), (q2, .inr (6, [.long 2])), (q3, .inl (cT 0, 1640, .inl (fun _ => 0))), (q4, .inl (cT 1, 40, .inr (.inl (fun _ => 0)))), (q5, .inl (cT 4, 40, .inr (.inr (.inr (.inr (fun j => some (h_ad j))))))), (q6, .inr (4, [.ref q7])), (q7, .inl (cT 0, 16, .inl (fun _ => 0))), (q8, .inr (4, [.ref q9])), (q9, .inl (cT 0, 16, .inl (fun _ => 0)))] (np cT h_ad h_la (fun _ _ => (0 : Int32)) (px []))) t.heap ∧ va_D (va_A [(h_o, .inr (3, [.null, .null, .null, .null]))] sz) (ap_ [(h_o, .inr (3, [.ref q1, .ref q5, .ref q6, .ref q8])), (q1, .inr (1, [.ref q2, .ref q3, .ref q4, .int 0, .long 0])), (q2, .inr (6, [.long 2])), (q3, .inl (cT 0, 1640, .inl (fun _ => 0))), (q4, .inl (cT 1, 40, .inr (.inl (fun _ => 0)))), (q5, .inl (cT 4, 40, .inr (.inr (.inr (.inr (fun j => some (h_ad j))))))), (q6, .inr (4, [.ref q7])), (q7, .inl (cT 0, 16, .inl (fun _ => 0))), (q8, .inr (4, [.ref q9])), (q9, .inl (cT 0, 16, .inl (fun _ => 0)))] (np cT h_ad h_la (fun _ _ => (0 : Int32)) (px [])))) (va_A [(h_o, .inr (3, [.null, .null, .null, .null]))] sz)) 89 2440 (va_A [(h_o, .inr (3, [.null, .null, .null, .null]))] sz) := by
  refine Met.ofW (cc := cX3_init) (maxL := 2) (ret := none) (by decide) rfl ?_
  intro p e s m args below meth c s₁ B hml hv
  obtain ⟨rfl, hv⟩ := hv
  obtain ⟨⟨hsz, hP, hK, hD0, hN⟩, hO⟩ := hv
  have hx := B.exec
  have hb := B.bytes
  have hr := B.returns
  have hts : ∀ w ∈ WG, w.before _ s = true := fun w h => atoms_spec (ws := wX3_init) B.pre w (List.mem_cons_of_mem _ h)
  have hown : s.vm.findClass RX3 = some m.cls := findClass_of_methodNamed B.named
  have hlocks := B.notSynchronized
  have hin : meth.name = "<init>" := (name_of_methodNamed B.named B.method).1
  subst hsz
  have hD := hD0.self (sz := s.heap.size)
  generalize hAe : va_A [(h_o, .inr (3, [.null, .null, .null, .null]))] s.heap.size = A at hD ⊢
  have hA : ∀ q : Nat, s.heap.size ≤ q → A q := fun q h => by rw [← hAe]; exact Or.inr h
  have hS : va_S A s.heap s.heap [] := va_S.rf
  have hl := lv_entry ([.ref h_o]) (n := 2) (Nat.le_of_ble_eq_true rfl)
  rw [lg_entry_eq]
  generalize (lg_sl ([.ref h_o]) ++ List.replicate (2 - (lg_sl ([.ref h_o])).length) Slot.unset).toArray = ls at hl ⊢
  have hl : lv_has ls 2 [(0, .ref h_o)] := hl
  refine lv_aload_n hx hb dX3_init_0 rfl (lv_at hl 0 rfl) ?_
  refine W.objInit hx hb hown (hts _ q_58) (hts _ q_23) (hts _ q_24) rfl (by rw [hml]; exact hl.1) rfl dX3_init_1 (Nat.le_of_ble_eq_true rfl) (Nat.le_of_ble_eq_true rfl) ?_
  refine W.eq (g2 := F0 m 4 ls []) rfl ?_
  refine lv_aload_n hx hb dX3_init_4 rfl (lv_at hl 0 rfl) ?_
  refine va_new (ci := 1) (fs := [.null, .null, .null, .int 0, .long 0]) (C := RX1) (T := TX1) (N := 5) hx hb hts inX1 tyX1 tyX1_ok hown (hts _ q_59) (hts _ q_60) (hts _ q_4) hK hP hD hS hA rfl (fun j hj => by rcases (show j = 0 ∨ j = 1 ∨ j = 2 ∨ j = 3 ∨ j = 4 by omega) with rfl | rfl | rfl | rfl | rfl <;> rfl) (Nat.le_of_ble_eq_true rfl) (Nat.le_of_ble_eq_true rfl) dX3_init_5 (fun q1 H hP hD hS => ?_)
  refine W.widen (k := 1) (n := 5) (Nat.le_of_ble_eq_true rfl) (Nat.le_of_ble_eq_true rfl) ?_
  refine lv_dup hx hb dX3_init_8 rfl ?_
  have hPc := lp_P (R := [(h_o, .inr (3, [.null, .null, .null, .null]))]) (wc := [(q1, .inr (1, [.null, .null, .null, .int 0, .long 0]))]) hP
  have hDc := lp_D (R := [(h_o, .inr (3, [.null, .null, .null, .null]))]) (wc := [(q1, .inr (1, [.null, .null, .null, .int 0, .long 0]))]) hD
  have hFc := va_free2 (wc := [(q1, .inr (1, [.null, .null, .null, .int 0, .long 0]))]) hD hS hA (fun z hz => List.mem_append_right _ hz)
  refine va_callv (va_runIN (As := []) (rest := [.ref q1, .ref h_o]) ⟨hx, hb, hml, hown, hts⟩ (cc_X1 l D cT q1 H.size) (gin_ 0 q_63 q_4 hN.2.2.2.2.1 q_62 rfl (by decide +kernel) ⟨(Nat.le_of_ble_eq_true rfl), (Nat.le_of_ble_eq_true rfl)⟩ hts) ⟨pre_blind, fun U hU hW => ⟨rfl, pre_mk hU hW hPc hK hDc hN⟩⟩ rfl rfl hl.1 rfl (lv_room (Nat.le_of_ble_eq_true rfl)) dX3_init_9 ⟨(Nat.le_of_ble_eq_true rfl), (Nat.le_of_ble_eq_true rfl)⟩) hS (fun q _ h => hFc q h) hFc (fun u9 t H locs ht hvm h9 hB hz1 hk1 hS => ?_)
  refine W.widen (k := 4) (n := 1686) (Nat.le_of_ble_eq_true rfl) (Nat.le_of_ble_eq_true rfl) ?_
  obtain ⟨q2, q3, q4, hP1, hD1⟩ := hB
  rw [ht] at hP1
  obtain ⟨hP, hD⟩ := gj_ (R := [(h_o, .inr (3, [.null, .null, .null, .null]))]) (wc := [(q1, .inr (1, [.null, .null, .null, .int 0, .long 0]))]) (w1 := [(q1, .inr (1, [.ref q2, .ref q3, .ref q4, .int 0, .long 0])), (q2, .inr (6, [.long 2])), (q3, .inl (cT 0, 1640, .inl (fun _ => 0))), (q4, .inl (cT 1, 40, .inr (.inl (fun _ => 0))))]) hP hD hk1 hFc hP1 hD1
  clear hP1 hD1 hPc hDc hFc hk1 hz1 hvm ht h9
  have hP : va_P D vwCl [(h_o, .inr (3, [.null, .null, .null, .null])), (q1, .inr (1, [.ref q2, .ref q3, .ref q4, .int 0, .long 0])), (q2, .inr (6, [.long 2])), (q3, .inl (cT 0, 1640, .inl (fun _ => 0))), (q4, .inl (cT 1, 40, .inr (.inl (fun _ => 0))))] H := hP
  have hD : va_D A [(h_o, .inr (3, [.null, .null, .null, .null])), (q1, .inr (1, [.ref q2, .ref q3, .ref q4, .int 0, .long 0])), (q2, .inr (6, [.long 2])), (q3, .inl (cT 0, 1640, .inl (fun _ => 0))), (q4, .inl (cT 1, 40, .inr (.inl (fun _ => 0))))] := hD
  refine va_putF (D := D) (ci := 3) (v := .ref q1) (ty := .object "ChainDesk$Equations") (C := RX3) (T := TX3) (N := 4) hx hb hts inX3 tyX3 tyX3_ok nmX3 hown hK hP hD hS 0 rfl rfl 0 (by decide) (hts _ q_109) (fun _ h9 => h9) rfl hin rfl (by decide +kernel) rfl rfl (Nat.le_of_ble_eq_true rfl) dX3_init_12 (fun H locs hP hD hS => ?_)
  have hP : va_P D vwCl [(h_o, .inr (3, [.ref q1, .null, .null, .null])), (q1, .inr (1, [.ref q2, .ref q3, .ref q4, .int 0, .long 0])), (q2, .inr (6, [.long 2])), (q3, .inl (cT 0, 1640, .inl (fun _ => 0))), (q4, .inl (cT 1, 40, .inr (.inl (fun _ => 0))))] H := hP
  have hD : va_D A [(h_o, .inr (3, [.ref q1, .null, .null, .null])), (q1, .inr (1, [.ref q2, .ref q3, .ref q4, .int 0, .long 0])), (q2, .inr (6, [.long 2])), (q3, .inl (cT 0, 1640, .inl (fun _ => 0))), (q4, .inl (cT 1, 40, .inr (.inl (fun _ => 0))))] := hD
  refine lv_aload_n hx hb dX3_init_15 rfl (lv_at hl 0 rfl) ?_
  refine lv_bipush (v := 40) hx hb dX3_init_16 (by decide) ?_
  refine va_newq (C := "ChainDesk$Natural") (N' := 40) hx hb hown (hts _ q_98) hO hK hP hD hS hA (by decide) (by decide) (by decide +kernel) (Nat.le_of_ble_eq_true rfl) (Nat.le_of_ble_eq_true rfl) dX3_init_18 (fun q5 cA H hK9 hP hD hS => ?_)
  have e9 := ca_eq (k := 4) (cB := cT 4) hK9 rfl
  subst e9
  clear hK9
  refine W.widen (k := 5) (n := 1726) (Nat.le_of_ble_eq_true rfl) (Nat.le_of_ble_eq_true rfl) ?_
  have hP : va_P D vwCl [(h_o, .inr (3, [.ref q1, .null, .null, .null])), (q1, .inr (1, [.ref q2, .ref q3, .ref q4, .int 0, .long 0])), (q2, .inr (6, [.long 2])), (q3, .inl (cT 0, 1640, .inl (fun _ => 0))), (q4, .inl (cT 1, 40, .inr (.inl (fun _ => 0)))), (q5, .inl (cT 4, 40, .inr (.inr (.inr (.inr (fun _ => none))))))] H := hP
  have hD : va_D A [(h_o, .inr (3, [.ref q1, .null, .null, .null])), (q1, .inr (1, [.ref q2, .ref q3, .ref q4, .int 0, .long 0])), (q2, .inr (6, [.long 2])), (q3, .inl (cT 0, 1640, .inl (fun _ => 0))), (q4, .inl (cT 1, 40, .inr (.inl (fun _ => 0)))), (q5, .inl (cT 4, 40, .inr (.inr (.inr (.inr (fun _ => none))))))] := hD
  refine va_putF (D := D) (ci := 3) (v := .ref q5) (ty := .array (.object "ChainDesk$Natural")) (C := RX3) (T := TX3) (N := 4) hx hb hts inX3 tyX3 tyX3_ok nmX3 hown hK hP hD hS 0 rfl rfl 1 (by decide) (hts _ q_110) (fun _ h9 => h9) rfl hin rfl (by decide +kernel) rfl rfl (Nat.le_of_ble_eq_true rfl) dX3_init_21 (fun H locs hP hD hS => ?_)
  have hP : va_P D vwCl [(h_o, .inr (3, [.ref q1, .ref q5, .null, .null])), (q1, .inr (1, [.ref q2, .ref q3, .ref q4, .int 0, .long 0])), (q2, .inr (6, [.long 2])), (q3, .inl (cT 0, 1640, .inl (fun _ => 0))), (q4, .inl (cT 1, 40, .inr (.inl (fun _ => 0)))), (q5, .inl (cT 4, 40, .inr (.inr (.inr (.inr (fun _ => none))))))] H := hP
  have hD : va_D A [(h_o, .inr (3, [.ref q1, .ref q5, .null, .null])), (q1, .inr (1, [.ref q2, .ref q3, .ref q4, .int 0, .long 0])), (q2, .inr (6, [.long 2])), (q3, .inl (cT 0, 1640, .inl (fun _ => 0))), (q4, .inl (cT 1, 40, .inr (.inl (fun _ => 0)))), (q5, .inl (cT 4, 40, .inr (.inr (.inr (.inr (fun _ => none))))))] := hD
  refine lv_aload_n hx hb dX3_init_24 rfl (lv_at hl 0 rfl) ?_
  refine va_new (ci := 4) (fs := [.null]) (C := RX4) (T := TX4) (N := 1) hx hb hts inX4 tyX4 tyX4_ok hown (hts _ q_98) (hts _ q_100) (hts _ q_6) hK hP hD hS hA rfl (fun j hj => by rcases (show j = 0 by omega) with rfl <;> rfl) (Nat.le_of_ble_eq_true rfl) (Nat.le_of_ble_eq_true rfl) dX3_init_25 (fun q6 H hP hD hS => ?_)
  refine W.widen (k := 6) (n := 1727) (Nat.le_of_ble_eq_true rfl) (Nat.le_of_ble_eq_true rfl) ?_
  refine lv_dup hx hb dX3_init_28 rfl ?_
  have hPc := lp_P (R := [(h_o, .inr (3, [.ref q1, .ref q5, .null, .null])), (q1, .inr (1, [.ref q2, .ref q3, .ref q4, .int 0, .long 0])), (q2, .inr (6, [.long 2])), (q3, .inl (cT 0, 1640, .inl (fun _ => 0))), (q4, .inl (cT 1, 40, .inr (.inl (fun _ => 0)))), (q5, .inl (cT 4, 40, .inr (.inr (.inr (.inr (fun _ => none))))))]) (wc := [(q6, .inr (4, [.null]))]) hP
  have hDc := lp_D (R := [(h_o, .inr (3, [.ref q1, .ref q5, .null, .null])), (q1, .inr (1, [.ref q2, .ref q3, .ref q4, .int 0, .long 0])), (q2, .inr (6, [.long 2])), (q3, .inl (cT 0, 1640, .inl (fun _ => 0))), (q4, .inl (cT 1, 40, .inr (.inl (fun _ => 0)))), (q5, .inl (cT 4, 40, .inr (.inr (.inr (.inr (fun _ => none))))))]) (wc := [(q6, .inr (4, [.null]))]) hD
  have hFc := va_free2 (wc := [(q6, .inr (4, [.null]))]) hD hS hA (fun z hz => List.mem_append_right _ hz)
  refine va_callv (va_runIN (As := []) (rest := [.ref q6, .ref h_o]) ⟨hx, hb, hml, hown, hts⟩ (cc_X4 l D cT q6 H.size) (gin_ 0 q_103 q_6 hN.2.2.2.2.2.2.2.2.2.2.2.1 q_102 rfl (by decide +kernel) ⟨(Nat.le_of_ble_eq_true rfl), (Nat.le_of_ble_eq_true rfl)⟩ hts) ⟨pre_blind, fun U hU hW => ⟨rfl, pre_mk hU hW hPc hK hDc hN⟩⟩ rfl rfl hl.1 rfl (lv_room (Nat.le_of_ble_eq_true rfl)) dX3_init_29 ⟨(Nat.le_of_ble_eq_true rfl), (Nat.le_of_ble_eq_true rfl)⟩) hS (fun q _ h => hFc q h) hFc (fun u9 t H locs ht hvm h9 hB hz1 hk1 hS => ?_)
  refine W.widen (k := 7) (n := 1743) (Nat.le_of_ble_eq_true rfl) (Nat.le_of_ble_eq_true rfl) ?_
  obtain ⟨q7, hP1, hD1⟩ := hB
  rw [ht] at hP1
  obtain ⟨hP, hD⟩ := gj_ (R := [(h_o, .inr (3, [.ref q1, .ref q5, .null, .null])), (q1, .inr (1, [.ref q2, .ref q3, .ref q4, .int 0, .long 0])), (q2, .inr (6, [.long 2])), (q3, .inl (cT 0, 1640, .inl (fun _ => 0))), (q4, .inl (cT 1, 40, .inr (.inl (fun _ => 0)))), (q5, .inl (cT 4, 40, .inr (.inr (.inr (.inr (fun _ => none))))))]) (wc := [(q6, .inr (4, [.null]))]) (w1 := [(q6, .inr (4, [.ref q7])), (q7, .inl (cT 0, 16, .inl (fun _ => 0)))]) hP hD hk1 hFc hP1 hD1
  clear hP1 hD1 hPc hDc hFc hk1 hz1 hvm ht h9
  have hP : va_P D vwCl [(h_o, .inr (3, [.ref q1, .ref q5, .null, .null])), (q1, .inr (1, [.ref q2, .ref q3, .ref q4, .int 0, .long 0])), (q2, .inr (6, [.long 2])), (q3, .inl (cT 0, 1640, .inl (fun _ => 0))), (q4, .inl (cT 1, 40, .inr (.inl (fun _ => 0)))), (q5, .inl (cT 4, 40, .inr (.inr (.inr (.inr (fun _ => none)))))), (q6, .inr (4, [.ref q7])), (q7, .inl (cT 0, 16, .inl (fun _ => 0)))] H := hP
  have hD : va_D A [(h_o, .inr (3, [.ref q1, .ref q5, .null, .null])), (q1, .inr (1, [.ref q2, .ref q3, .ref q4, .int 0, .long 0])), (q2, .inr (6, [.long 2])), (q3, .inl (cT 0, 1640, .inl (fun _ => 0))), (q4, .inl (cT 1, 40, .inr (.inl (fun _ => 0)))), (q5, .inl (cT 4, 40, .inr (.inr (.inr (.inr (fun _ => none)))))), (q6, .inr (4, [.ref q7])), (q7, .inl (cT 0, 16, .inl (fun _ => 0)))] := hD
  refine va_putF (D := D) (ci := 3) (v := .ref q6) (ty := .object "ChainDesk$Natural") (C := RX3) (T := TX3) (N := 4) hx hb hts inX3 tyX3 tyX3_ok nmX3 hown hK hP hD hS 0 rfl rfl 2 (by decide) (hts _ q_112) (fun _ h9 => h9) rfl hin rfl (by decide +kernel) rfl rfl (Nat.le_of_ble_eq_true rfl) dX3_init_32 (fun H locs hP hD hS => ?_)
  have hP : va_P D vwCl [(h_o, .inr (3, [.ref q1, .ref q5, .ref q6, .null])), (q1, .inr (1, [.ref q2, .ref q3, .ref q4, .int 0, .long 0])), (q2, .inr (6, [.long 2])), (q3, .inl (cT 0, 1640, .inl (fun _ => 0))), (q4, .inl (cT 1, 40, .inr (.inl (fun _ => 0)))), (q5, .inl (cT 4, 40, .inr (.inr (.inr (.inr (fun _ => none)))))), (q6, .inr (4, [.ref q7])), (q7, .inl (cT 0, 16, .inl (fun _ => 0)))] H := hP
  have hD : va_D A [(h_o, .inr (3, [.ref q1, .ref q5, .ref q6, .null])), (q1, .inr (1, [.ref q2, .ref q3, .ref q4, .int 0, .long 0])), (q2, .inr (6, [.long 2])), (q3, .inl (cT 0, 1640, .inl (fun _ => 0))), (q4, .inl (cT 1, 40, .inr (.inl (fun _ => 0)))), (q5, .inl (cT 4, 40, .inr (.inr (.inr (.inr (fun _ => none)))))), (q6, .inr (4, [.ref q7])), (q7, .inl (cT 0, 16, .inl (fun _ => 0)))] := hD
  refine lv_aload_n hx hb dX3_init_35 rfl (lv_at hl 0 rfl) ?_
  refine va_new (ci := 4) (fs := [.null]) (C := RX4) (T := TX4) (N := 1) hx hb hts inX4 tyX4 tyX4_ok hown (hts _ q_98) (hts _ q_100) (hts _ q_6) hK hP hD hS hA rfl (fun j hj => by rcases (show j = 0 by omega) with rfl <;> rfl) (Nat.le_of_ble_eq_true rfl) (Nat.le_of_ble_eq_true rfl) dX3_init_36 (fun q8 H hP hD hS => ?_)
  refine W.widen (k := 8) (n := 1744) (Nat.le_of_ble_eq_true rfl) (Nat.le_of_ble_eq_true rfl) ?_
  refine lv_dup hx hb dX3_init_39 rfl ?_
  have hPc := lp_P (R := [(h_o, .inr (3, [.ref q1, .ref q5, .ref q6, .null])), (q1, .inr (1, [.ref q2, .ref q3, .ref q4, .int 0, .long 0])), (q2, .inr (6, [.long 2])), (q3, .inl (cT 0, 1640, .inl (fun _ => 0))), (q4, .inl (cT 1, 40, .inr (.inl (fun _ => 0)))), (q5, .inl (cT 4, 40, .inr (.inr (.inr (.inr (fun _ => none)))))), (q6, .inr (4, [.ref q7])), (q7, .inl (cT 0, 16, .inl (fun _ => 0)))]) (wc := [(q8, .inr (4, [.null]))]) hP
  have hDc := lp_D (R := [(h_o, .inr (3, [.ref q1, .ref q5, .ref q6, .null])), (q1, .inr (1, [.ref q2, .ref q3, .ref q4, .int 0, .long 0])), (q2, .inr (6, [.long 2])), (q3, .inl (cT 0, 1640, .inl (fun _ => 0))), (q4, .inl (cT 1, 40, .inr (.inl (fun _ => 0)))), (q5, .inl (cT 4, 40, .inr (.inr (.inr (.inr (fun _ => none)))))), (q6, .inr (4, [.ref q7])), (q7, .inl (cT 0, 16, .inl (fun _ => 0)))]) (wc := [(q8, .inr (4, [.null]))]) hD
  have hFc := va_free2 (wc := [(q8, .inr (4, [.null]))]) hD hS hA (fun z hz => List.mem_append_right _ hz)
  refine va_callv (va_runIN (As := []) (rest := [.ref q8, .ref h_o]) ⟨hx, hb, hml, hown, hts⟩ (cc_X4 l D cT q8 H.size) (gin_ 0 q_103 q_6 hN.2.2.2.2.2.2.2.2.2.2.2.1 q_102 rfl (by decide +kernel) ⟨(Nat.le_of_ble_eq_true rfl), (Nat.le_of_ble_eq_true rfl)⟩ hts) ⟨pre_blind, fun U hU hW => ⟨rfl, pre_mk hU hW hPc hK hDc hN⟩⟩ rfl rfl hl.1 rfl (lv_room (Nat.le_of_ble_eq_true rfl)) dX3_init_40 ⟨(Nat.le_of_ble_eq_true rfl), (Nat.le_of_ble_eq_true rfl)⟩) hS (fun q _ h => hFc q h) hFc (fun u9 t H locs ht hvm h9 hB hz1 hk1 hS => ?_)
  refine W.widen (k := 9) (n := 1760) (Nat.le_of_ble_eq_true rfl) (Nat.le_of_ble_eq_true rfl) ?_
  obtain ⟨q9, hP1, hD1⟩ := hB
  rw [ht] at hP1
  obtain ⟨hP, hD⟩ := gj_ (R := [(h_o, .inr (3, [.ref q1, .ref q5, .ref q6, .null])), (q1, .inr (1, [.ref q2, .ref q3, .ref q4, .int 0, .long 0])), (q2, .inr (6, [.long 2])), (q3, .inl (cT 0, 1640, .inl (fun _ => 0))), (q4, .inl (cT 1, 40, .inr (.inl (fun _ => 0)))), (q5, .inl (cT 4, 40, .inr (.inr (.inr (.inr (fun _ => none)))))), (q6, .inr (4, [.ref q7])), (q7, .inl (cT 0, 16, .inl (fun _ => 0)))]) (wc := [(q8, .inr (4, [.null]))]) (w1 := [(q8, .inr (4, [.ref q9])), (q9, .inl (cT 0, 16, .inl (fun _ => 0)))]) hP hD hk1 hFc hP1 hD1
  clear hP1 hD1 hPc hDc hFc hk1 hz1 hvm ht h9
  have hP : va_P D vwCl [(h_o, .inr (3, [.ref q1, .ref q5, .ref q6, .null])), (q1, .inr (1, [.ref q2, .ref q3, .ref q4, .int 0, .long 0])), (q2, .inr (6, [.long 2])), (q3, .inl (cT 0, 1640, .inl (fun _ => 0))), (q4, .inl (cT 1, 40, .inr (.inl (fun _ => 0)))), (q5, .inl (cT 4, 40, .inr (.inr (.inr (.inr (fun _ => none)))))), (q6, .inr (4, [.ref q7])), (q7, .inl (cT 0, 16, .inl (fun _ => 0))), (q8, .inr (4, [.ref q9])), (q9, .inl (cT 0, 16, .inl (fun _ => 0)))] H := hP
  have hD : va_D A [(h_o, .inr (3, [.ref q1, .ref q5, .ref q6, .null])), (q1, .inr (1, [.ref q2, .ref q3, .ref q4, .int 0, .long 0])), (q2, .inr (6, [.long 2])), (q3, .inl (cT 0, 1640, .inl (fun _ => 0))), (q4, .inl (cT 1, 40, .inr (.inl (fun _ => 0)))), (q5, .inl (cT 4, 40, .inr (.inr (.inr (.inr (fun _ => none)))))), (q6, .inr (4, [.ref q7])), (q7, .inl (cT 0, 16, .inl (fun _ => 0))), (q8, .inr (4, [.ref q9])), (q9, .inl (cT 0, 16, .inl (fun _ => 0)))] := hD
  refine va_putF (D := D) (ci := 3) (v := .ref q8) (ty := .object "ChainDesk$Natural") (C := RX3) (T := TX3) (N := 4) hx hb hts inX3 tyX3 tyX3_ok nmX3 hown hK hP hD hS 0 rfl rfl 3 (by decide) (hts _ q_114) (fun _ h9 => h9) rfl hin rfl (by decide +kernel) rfl rfl (Nat.le_of_ble_eq_true rfl) dX3_init_43 (fun H locs hP hD hS => ?_)
  have hP : va_P D vwCl [(h_o, .inr (3, [.ref q1, .ref q5, .ref q6, .ref q8])), (q1, .inr (1, [.ref q2, .ref q3, .ref q4, .int 0, .long 0])), (q2, .inr (6, [.long 2])), (q3, .inl (cT 0, 1640, .inl (fun _ => 0))), (q4, .inl (cT 1, 40, .inr (.inl (fun _ => 0)))), (q5, .inl (cT 4, 40, .inr (.inr (.inr (.inr (fun _ => none)))))), (q6, .inr (4, [.ref q7])), (q7, .inl (cT 0, 16, .inl (fun _ => 0))), (q8, .inr (4, [.ref q9])), (q9, .inl (cT 0, 16, .inl (fun _ => 0)))] H := hP
  have hD : va_D A [(h_o, .inr (3, [.ref q1, .ref q5, .ref q6, .ref q8])), (q1, .inr (1, [.ref q2, .ref q3, .ref q4, .int 0, .long 0])), (q2, .inr (6, [.long 2])), (q3, .inl (cT 0, 1640, .inl (fun _ => 0))), (q4, .inl (cT 1, 40, .inr (.inl (fun _ => 0)))), (q5, .inl (cT 4, 40, .inr (.inr (.inr (.inr (fun _ => none)))))), (q6, .inr (4, [.ref q7])), (q7, .inl (cT 0, 16, .inl (fun _ => 0))), (q8, .inr (4, [.ref q9])), (q9, .inl (cT 0, 16, .inl (fun _ => 0)))] := hD
  refine lv_iconst (v := 0) hx hb dX3_init_46 (by decide) ?_
  refine lv_istore_n (lv' := [(1, .int 0), (0, .ref h_o)]) hx hb dX3_init_47 rfl hl (by decide) rfl (fun ls hl => ?_)
  refine W.widen (k := 9 + 2 * 0) (n := 1760 + 17 * 0) (Nat.le_of_ble_eq_true rfl) (Nat.le_of_ble_eq_true rfl) ?_
  have hP := tl0_P (cT := cT) (ad := fun _ => 0) (la := fun _ => 0) hP
  have hD := tl0_D (cT := cT) (ad := fun _ => 0) (la := fun _ => 0) hD
  refine lk_loop (Q := MQ below _ _ s 89 2440 A) ⟨⟨hx, hb, hml, hown, hts⟩, hK, hN⟩ hA (fun h_ad h_la H locs ls hP hD hS => W.vret hx hb hr (fun t ht hW => ⟨⟨(), rfl, trivial, q1, q2, q3, q4, q5, q6, q7, q8, q9, h_ad, h_la, by rw [ht]; exact hP, hD⟩, hS.F ht⟩) hS.2.2 dX3_init_73) 40 0 rfl _ _ _ _ _ _ (fun j hj => absurd hj (Nat.not_lt_zero j)) hP hD hS hl
