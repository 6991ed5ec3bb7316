def wp_Model_print_64 (post : Int32 → Int32 → Int32 → (Nat → Int32) → (Nat → Int32) → Prop) (v_n : Int32) (v_has : Int32) (v_known : Int32) (v_many : Int32)  (x2 : Int32) (v_thrown : Int32) (v_printed : Int32) (f_z : Nat → Int32) (f_out : Nat → Int32) : Prop := post x2 v_thrown x2 f_z f_out
def wp_Model_print (post : Int32 → Int32 → Int32 → (Nat → Int32) → (Nat → Int32) → Prop) (v_n : Int32) (v_has : Int32) (v_known : Int32) (v_many : Int32)  (x1 : Int32) (v_thrown : Int32) (v_printed : Int32) (f_z : Nat → Int32) (f_out : Nat → Int32) : Prop := wp_Model_noLikelihood (fun r_2 u_1 => ((r_2 = 0 → (wp_Model_reduce (fun u_4 => wp_Model_figures (fun r_7 u_5 u_6 => wp_Model_put (fun u_8 => wp_Model_order (fun r_9 => ((r_9 = 0 → (wp_Model_print_64 post v_n v_has v_known v_many r_7 u_1 v_printed u_8 u_6)) ∧ (¬ r_9 = 0 → ((vp_in r_7 320 ∧ (wp_Model_figures (fun r_14 u_12 u_13 => wp_Model_print_64 post v_n v_has v_known v_many r_14 u_1 v_printed u_12 u_13) u_1 v_n v_has v_known v_many v_printed 924 (r_7 + 1) u_8 (upd u_6 r_7.toNatClampNeg 47))))))) u_1 v_n v_has v_known v_many v_printed u_8 924 968) u_1 v_n v_has v_known v_many v_printed 968 1 u_5) u_1 v_n v_has v_known v_many v_printed 902 0 u_4 f_out) u_1 v_n v_has v_known v_many v_printed x1 f_z)) ∧ (¬ r_2 = 0 → (post (-1) u_1 v_printed f_z f_out)))) v_n v_has v_known v_many v_printed x1 v_thrown
section
variable {p : Program} {l : Launch} {e : Env} {s : State} {m : MethodId} {args : Array Value} {below : List Frame} {meth : Method} {c : Code} {Q : State → Prop} {A : Nat → Prop} {D : va_G} {cT : Nat → ClassId}
set_option maxHeartbeats 4000000 in
set_option maxRecDepth 100000 in
theorem tw_Model_print_64 {post : Int32 → Int32 → Int32 → (Nat → Int32) → (Nat → Int32) → Prop} {h_m h_mz h_mout h_mwholes h_mparts h_mknown31 h_mprimes h_mrests h_mrows h_mdigits h_mopen : Nat} {v_n : Int32} {v_has : Int32} {v_known : Int32} {v_many : Int32}  (C0 : cx RX8 cX8_print 3 D cT p s m c args) (hA : ∀ q, s.heap.size ≤ q → A q) (hret : ∀ (r : Int32) (v_thrown : Int32) (v_printed : Int32) (f_z : Nat → Int32) (f_out : Nat → Int32) (H : Heap) (locs : List Loc) (pc : Nat) (ls : Array Slot), post r v_thrown v_printed f_z f_out → va_P D vwCl [(h_m, .inr (8, [.int v_thrown, .int v_n, .ref h_mwholes, .ref h_mparts, .int v_has, .int v_known, .ref h_mknown31, .int v_many, .ref h_mprimes, .ref h_mrests, .ref h_mrows, .ref h_mdigits, .ref h_mz, .ref h_mout, .int v_printed, .ref h_mopen])), (h_mz, .inl (cT 0, 1100, .inl f_z)), (h_mout, .inl (cT 0, 320, .inl f_out))] H → va_D A [(h_m, .inr (8, [.int v_thrown, .int v_n, .ref h_mwholes, .ref h_mparts, .int v_has, .int v_known, .ref h_mknown31, .int v_many, .ref h_mprimes, .ref h_mrests, .ref h_mrows, .ref h_mdigits, .ref h_mz, .ref h_mout, .int v_printed, .ref h_mopen])), (h_mz, .inl (cT 0, 1100, .inl f_z)), (h_mout, .inl (cT 0, 320, .inl f_out))] → va_S A s.heap H locs → decode cX8_print pc = .ok (.ireturn, 1) → W p l e ({ frames := 3, cells := 0, slots := 0, locals := 72 } : Room) s m args below meth c H locs 0 0 Q (F0 m pc ls [.int r]))  : ∀ (x2 : Int32) (v_thrown : Int32) (v_printed : Int32) (f_z : Nat → Int32) (f_out : Nat → Int32) (H : Heap) (locs : List Loc) (ls : Array Slot), va_P D vwCl [(h_m, .inr (8, [.int v_thrown, .int v_n, .ref h_mwholes, .ref h_mparts, .int v_has, .int v_known, .ref h_mknown31, .int v_many, .ref h_mprimes, .ref h_mrests, .ref h_mrows, .ref h_mdigits, .ref h_mz, .ref h_mout, .int v_printed, .ref h_mopen])), (h_mz, .inl (cT 0, 1100, .inl f_z)), (h_mout, .inl (cT 0, 320, .inl f_out))] H → va_D A [(h_m, .inr (8, [.int v_thrown, .int v_n, .ref h_mwholes, .ref h_mparts, .int v_has, .int v_known, .ref h_mknown31, .int v_many, .ref h_mprimes, .ref h_mrests, .ref h_mrows, .ref h_mdigits, .ref h_mz, .ref h_mout, .int v_printed, .ref h_mopen])), (h_mz, .inl (cT 0, 1100, .inl f_z)), (h_mout, .inl (cT 0, 320, .inl f_out))] → va_S A s.heap H locs → lv_has ls 3 [(0, .ref h_m), (2, .int x2)] → wp_Model_print_64 post v_n v_has v_known v_many x2 v_thrown v_printed f_z f_out → W p l e ({ frames := 3, cells := 0, slots := 0, locals := 72 } : Room) s m args below meth c H locs 0 0 Q (F0 m 64 ls []) := by
  obtain ⟨⟨hx, hb, hml, hown, hts⟩, hK, hN⟩ := id C0
  intro x2 v_thrown v_printed f_z f_out H locs ls hP hD hS hl hw
  unfold wp_Model_print_64 at hw
  refine lv_aload_n hx hb dX8_print_64 rfl (lv_at hl 0 rfl) ?_
  refine lv_iload_n hx hb dX8_print_65 rfl (lv_at hl 1 rfl) ?_
  refine va_put (D := D) (ci := 8) (v := .int x2) (ty := .int) (C := RX8) (T := TX8) (N := 16) hx hb hts inX8 tyX8 tyX8_ok nmX8 hown hK hP hD hS 0 rfl rfl 14 (by decide) (hts _ q_597) (fun _ h9 => h9) rfl (by decide +kernel) rfl rfl (Nat.le_of_ble_eq_true rfl) dX8_print_66 (fun H locs hP hD hS => ?_)
  have hP : va_P D vwCl [(h_m, .inr (8, [.int v_thrown, .int v_n, .ref h_mwholes, .ref h_mparts, .int v_has, .int v_known, .ref h_mknown31, .int v_many, .ref h_mprimes, .ref h_mrests, .ref h_mrows, .ref h_mdigits, .ref h_mz, .ref h_mout, .int x2, .ref h_mopen])), (h_mz, .inl (cT 0, 1100, .inl f_z)), (h_mout, .inl (cT 0, 320, .inl f_out))] H := hP
  have hD : va_D A [(h_m, .inr (8, [.int v_thrown, .int v_n, .ref h_mwholes, .ref h_mparts, .int v_has, .int v_known, .ref h_mknown31, .int v_many, .ref h_mprimes, .ref h_mrests, .ref h_mrows, .ref h_mdigits, .ref h_mz, .ref h_mout, .int x2, .ref h_mopen])), (h_mz, .inl (cT 0, 1100, .inl f_z)), (h_mout, .inl (cT 0, 320, .inl f_out))] := hD
  refine lv_iload_n hx hb dX8_print_69 rfl (lv_at hl 1 rfl) ?_
  exact hret _ _ _ _ _ _ _ _ _ hw hP hD hS dX8_print_70
set_option maxHeartbeats 4000000 in
set_option maxRecDepth 100000 in
theorem tw_Model_print {post : Int32 → Int32 → Int32 → (Nat → Int32) → (Nat → Int32) → Prop} {h_m h_mz h_mout h_mwholes h_mparts h_mknown31 h_mprimes h_mrests h_mrows h_mdigits h_mopen : Nat} {v_n : Int32} {v_has : Int32} {v_known : Int32} {v_many : Int32}  (C0 : cx RX8 cX8_print 3 D cT p s m c args) (hA : ∀ q, s.heap.size ≤ q → A q) (hret : ∀ (r : Int32) (v_thrown : Int32) (v_printed : Int32) (f_z : Nat → Int32) (f_out : Nat → Int32) (H : Heap) (locs : List Loc) (pc : Nat) (ls : Array Slot), post r v_thrown v_printed f_z f_out → va_P D vwCl [(h_m, .inr (8, [.int v_thrown, .int v_n, .ref h_mwholes, .ref h_mparts, .int v_has, .int v_known, .ref h_mknown31, .int v_many, .ref h_mprimes, .ref h_mrests, .ref h_mrows, .ref h_mdigits, .ref h_mz, .ref h_mout, .int v_printed, .ref h_mopen])), (h_mz, .inl (cT 0, 1100, .inl f_z)), (h_mout, .inl (cT 0, 320, .inl f_out))] H → va_D A [(h_m, .inr (8, [.int v_thrown, .int v_n, .ref h_mwholes, .ref h_mparts, .int v_has, .int v_known, .ref h_mknown31, .int v_many, .ref h_mprimes, .ref h_mrests, .ref h_mrows, .ref h_mdigits, .ref h_mz, .ref h_mout, .int v_printed, .ref h_mopen])), (h_mz, .inl (cT 0, 1100, .inl f_z)), (h_mout, .inl (cT 0, 320, .inl f_out))] → va_S A s.heap H locs → decode cX8_print pc = .ok (.ireturn, 1) → W p l e ({ frames := 3, cells := 0, slots := 0, locals := 72 } : Room) s m args below meth c H locs 0 0 Q (F0 m pc ls [.int r]))  : ∀ (x1 : Int32) (v_thrown : Int32) (v_printed : Int32) (f_z : Nat → Int32) (f_out : Nat → Int32) (H : Heap) (locs : List Loc) (ls : Array Slot), va_P D vwCl [(h_m, .inr (8, [.int v_thrown, .int v_n, .ref h_mwholes, .ref h_mparts, .int v_has, .int v_known, .ref h_mknown31, .int v_many, .ref h_mprimes, .ref h_mrests, .ref h_mrows, .ref h_mdigits, .ref h_mz, .ref h_mout, .int v_printed, .ref h_mopen])), (h_mz, .inl (cT 0, 1100, .inl f_z)), (h_mout, .inl (cT 0, 320, .inl f_out))] H → va_D A [(h_m, .inr (8, [.int v_thrown, .int v_n, .ref h_mwholes, .ref h_mparts, .int v_has, .int v_known, .ref h_mknown31, .int v_many, .ref h_mprimes, .ref h_mrests, .ref h_mrows, .ref h_mdigits, .ref h_mz, .ref h_mout, .int v_printed, .ref h_mopen])), (h_mz, .inl (cT 0, 1100, .inl f_z)), (h_mout, .inl (cT 0, 320, .inl f_out))] → va_S A s.heap H locs → lv_has ls 3 [(0, .ref h_m), (1, .int x1)] → wp_Model_print post v_n v_has v_known v_many x1 v_thrown v_printed f_z f_out → W p l e ({ frames := 3, cells := 0, slots := 0, locals := 72 } : Room) s m args below meth c H locs 0 0 Q (F0 m 0 ls []) := by
  obtain ⟨⟨hx, hb, hml, hown, hts⟩, hK, hN⟩ := id C0
  intro x1 v_thrown v_printed f_z f_out H locs ls hP hD hS hl hw
  unfold wp_Model_print at hw
  refine lv_aload_n hx hb dX8_print_0 rfl (lv_at hl 0 rfl) ?_
  refine lv_iload_n hx hb dX8_print_1 rfl (lv_at hl 1 rfl) ?_
  have hPc := hP.sub (ws' := [(h_m, .inr (8, [.int v_thrown, .int v_n, .ref h_mwholes, .ref h_mparts, .int v_has, .int v_known, .ref h_mknown31, .int v_many, .ref h_mprimes, .ref h_mrests, .ref h_mrows, .ref h_mdigits, .ref h_mz, .ref h_mout, .int v_printed, .ref h_mopen]))]) [0] rfl
  have hDc := hD.sub (ws' := [(h_m, .inr (8, [.int v_thrown, .int v_n, .ref h_mwholes, .ref h_mparts, .int v_has, .int v_known, .ref h_mknown31, .int v_many, .ref h_mprimes, .ref h_mrests, .ref h_mrows, .ref h_mdigits, .ref h_mz, .ref h_mout, .int v_printed, .ref h_mopen]))]) [0] (by decide) rfl
  have hFc := va_free (wc := [(h_m, .inr (8, [.int v_thrown, .int v_n, .ref h_mwholes, .ref h_mparts, .int v_has, .int v_known, .ref h_mknown31, .int v_many, .ref h_mprimes, .ref h_mrests, .ref h_mrows, .ref h_mdigits, .ref h_mz, .ref h_mout, .int v_printed, .ref h_mopen]))]) hD hS hA [0] rfl
  refine va_calli (va_runV (As := [.int x1]) (rest := []) ⟨hx, hb, hml, hown, hts⟩ (cn_Model_noLikelihood l D cT h_m h_mwholes h_mparts h_mknown31 h_mprimes h_mrests h_mrows h_mdigits h_mz h_mout h_mopen H.size v_thrown v_n v_has v_known v_many v_printed x1 _ hw) (gv_ 1 q_706 q_9 q_703 q_705 qs_29 (by decide +kernel) ⟨Nat.le_of_ble_eq_true rfl, Nat.le_of_ble_eq_true rfl⟩ hts) ⟨pre_blind, va_recv hK hPc (ci := 8) (q0 := 0) rfl rfl, fun U hU hW => ⟨rfl, pre_mk hU hW hPc hK hDc hN⟩⟩ rfl rfl hl.1 rfl (lv_room (Nat.le_of_ble_eq_true rfl)) dX8_print_2 ⟨(Nat.zero_le _), (Nat.zero_le _)⟩) hS (fun q _ h => hFc q h) hFc (fun r_2 u9 t H locs ht hvm hw hB hz1 hk1 hS => ?_)
  obtain ⟨u_1, rfl⟩ : ∃ z, z = u9 := ⟨_, rfl⟩
  obtain ⟨hP1, hD1⟩ := hB
  rw [ht] at hP1
  obtain ⟨hP, hD⟩ := va_join (wr := [(h_mz, .inl (cT 0, 1100, .inl f_z)), (h_mout, .inl (cT 0, 320, .inl f_out))]) (w1 := [(h_m, .inr (8, [.int u_1, .int v_n, .ref h_mwholes, .ref h_mparts, .int v_has, .int v_known, .ref h_mknown31, .int v_many, .ref h_mprimes, .ref h_mrests, .ref h_mrows, .ref h_mdigits, .ref h_mz, .ref h_mout, .int v_printed, .ref h_mopen]))]) hP hD [0] [1, 2] rfl rfl (by decide) (by decide) hk1 hFc hP1 hD1
  have hP := hP.sub (ws' := [(h_m, .inr (8, [.int u_1, .int v_n, .ref h_mwholes, .ref h_mparts, .int v_has, .int v_known, .ref h_mknown31, .int v_many, .ref h_mprimes, .ref h_mrests, .ref h_mrows, .ref h_mdigits, .ref h_mz, .ref h_mout, .int v_printed, .ref h_mopen])), (h_mz, .inl (cT 0, 1100, .inl f_z)), (h_mout, .inl (cT 0, 320, .inl f_out))]) [2, 0, 1] rfl
  have hD := hD.sub (ws' := [(h_m, .inr (8, [.int u_1, .int v_n, .ref h_mwholes, .ref h_mparts, .int v_has, .int v_known, .ref h_mknown31, .int v_many, .ref h_mprimes, .ref h_mrests, .ref h_mrows, .ref h_mdigits, .ref h_mz, .ref h_mout, .int v_printed, .ref h_mopen])), (h_mz, .inl (cT 0, 1100, .inl f_z)), (h_mout, .inl (cT 0, 320, .inl f_out))]) [2, 0, 1] (by decide) rfl
  clear hP1 hD1 hPc hDc hFc hk1 hz1 hvm ht
  try dsimp only at hw
  refine lv_if_eq (tgt := 10) hx hb dX8_print_5 (by decide) (fun c_3 => ?_) (fun c_3 => ?_)
  · have hw := hw.1 c_3
    refine lv_aload_n hx hb dX8_print_10 rfl (lv_at hl 0 rfl) ?_
    refine lv_iload_n hx hb dX8_print_11 rfl (lv_at hl 1 rfl) ?_
    have hPc := hP.sub (ws' := [(h_m, .inr (8, [.int u_1, .int v_n, .ref h_mwholes, .ref h_mparts, .int v_has, .int v_known, .ref h_mknown31, .int v_many, .ref h_mprimes, .ref h_mrests, .ref h_mrows, .ref h_mdigits, .ref h_mz, .ref h_mout, .int v_printed, .ref h_mopen])), (h_mz, .inl (cT 0, 1100, .inl f_z))]) [0, 1] rfl
    have hDc := hD.sub (ws' := [(h_m, .inr (8, [.int u_1, .int v_n, .ref h_mwholes, .ref h_mparts, .int v_has, .int v_known, .ref h_mknown31, .int v_many, .ref h_mprimes, .ref h_mrests, .ref h_mrows, .ref h_mdigits, .ref h_mz, .ref h_mout, .int v_printed, .ref h_mopen])), (h_mz, .inl (cT 0, 1100, .inl f_z))]) [0, 1] (by decide) rfl
    have hFc := va_free (wc := [(h_m, .inr (8, [.int u_1, .int v_n, .ref h_mwholes, .ref h_mparts, .int v_has, .int v_known, .ref h_mknown31, .int v_many, .ref h_mprimes, .ref h_mrests, .ref h_mrows, .ref h_mdigits, .ref h_mz, .ref h_mout, .int v_printed, .ref h_mopen])), (h_mz, .inl (cT 0, 1100, .inl f_z))]) hD hS hA [0, 1] rfl
    refine va_callv (va_runV (As := [.int x1]) (rest := []) ⟨hx, hb, hml, hown, hts⟩ (cn_Model_reduce l D cT h_m h_mz h_mwholes h_mparts h_mknown31 h_mprimes h_mrests h_mrows h_mdigits h_mout h_mopen H.size u_1 v_n v_has v_known v_many v_printed f_z x1 _ hw) (gv_ 1 q_710 q_9 q_707 q_709 qs_30 (by decide +kernel) ⟨Nat.le_of_ble_eq_true rfl, Nat.le_of_ble_eq_true rfl⟩ hts) ⟨pre_blind, va_recv hK hPc (ci := 8) (q0 := 0) rfl rfl, fun U hU hW => ⟨rfl, pre_mk hU hW hPc hK hDc hN⟩⟩ rfl rfl hl.1 rfl (lv_room (Nat.le_of_ble_eq_true rfl)) dX8_print_12 ⟨(Nat.zero_le _), (Nat.zero_le _)⟩) hS (fun q _ h => hFc q h) hFc (fun u9 t H locs ht hvm hw hB hz1 hk1 hS => ?_)
    obtain ⟨u_4, rfl⟩ : ∃ z, z = u9 := ⟨_, rfl⟩
    obtain ⟨hP1, hD1⟩ := hB
    rw [ht] at hP1
    obtain ⟨hP, hD⟩ := va_join (wr := [(h_mout, .inl (cT 0, 320, .inl f_out))]) (w1 := [(h_m, .inr (8, [.int u_1, .int v_n, .ref h_mwholes, .ref h_mparts, .int v_has, .int v_known, .ref h_mknown31, .int v_many, .ref h_mprimes, .ref h_mrests, .ref h_mrows, .ref h_mdigits, .ref h_mz, .ref h_mout, .int v_printed, .ref h_mopen])), (h_mz, .inl (cT 0, 1100, .inl u_4))]) hP hD [0, 1] [2] rfl rfl (by decide) (by decide) hk1 hFc hP1 hD1
    have hP := hP.sub (ws' := [(h_m, .inr (8, [.int u_1, .int v_n, .ref h_mwholes, .ref h_mparts, .int v_has, .int v_known, .ref h_mknown31, .int v_many, .ref h_mprimes, .ref h_mrests, .ref h_mrows, .ref h_mdigits, .ref h_mz, .ref h_mout, .int v_printed, .ref h_mopen])), (h_mz, .inl (cT 0, 1100, .inl u_4)), (h_mout, .inl (cT 0, 320, .inl f_out))]) [1, 2, 0] rfl
    have hD := hD.sub (ws' := [(h_m, .inr (8, [.int u_1, .int v_n, .ref h_mwholes, .ref h_mparts, .int v_has, .int v_known, .ref h_mknown31, .int v_many, .ref h_mprimes, .ref h_mrests, .ref h_mrows, .ref h_mdigits, .ref h_mz, .ref h_mout, .int v_printed, .ref h_mopen])), (h_mz, .inl (cT 0, 1100, .inl u_4)), (h_mout, .inl (cT 0, 320, .inl f_out))]) [1, 2, 0] (by decide) rfl
    clear hP1 hD1 hPc hDc hFc hk1 hz1 hvm ht
    try dsimp only at hw
    refine lv_aload_n hx hb dX8_print_15 rfl (lv_at hl 0 rfl) ?_
    refine lv_sipush (v := 902) hx hb dX8_print_16 (by decide) ?_
    refine lv_iconst (v := 0) hx hb dX8_print_19 (by decide) ?_
    have hPc := hP.sub (ws' := [(h_m, .inr (8, [.int u_1, .int v_n, .ref h_mwholes, .ref h_mparts, .int v_has, .int v_known, .ref h_mknown31, .int v_many, .ref h_mprimes, .ref h_mrests, .ref h_mrows, .ref h_mdigits, .ref h_mz, .ref h_mout, .int v_printed, .ref h_mopen])), (h_mz, .inl (cT 0, 1100, .inl u_4)), (h_mout, .inl (cT 0, 320, .inl f_out))]) [0, 1, 2] rfl
    have hDc := hD.sub (ws' := [(h_m, .inr (8, [.int u_1, .int v_n, .ref h_mwholes, .ref h_mparts, .int v_has, .int v_known, .ref h_mknown31, .int v_many, .ref h_mprimes, .ref h_mrests, .ref h_mrows, .ref h_mdigits, .ref h_mz, .ref h_mout, .int v_printed, .ref h_mopen])), (h_mz, .inl (cT 0, 1100, .inl u_4)), (h_mout, .inl (cT 0, 320, .inl f_out))]) [0, 1, 2] (by decide) rfl
    have hFc := va_free (wc := [(h_m, .inr (8, [.int u_1, .int v_n, .ref h_mwholes, .ref h_mparts, .int v_has, .int v_known, .ref h_mknown31, .int v_many, .ref h_mprimes, .ref h_mrests, .ref h_mrows, .ref h_mdigits, .ref h_mz, .ref h_mout, .int v_printed, .ref h_mopen])), (h_mz, .inl (cT 0, 1100, .inl u_4)), (h_mout, .inl (cT 0, 320, .inl f_out))]) hD hS hA [0, 1, 2] rfl
    refine va_calli (va_runV (As := [.int 902, .int 0]) (rest := []) ⟨hx, hb, hml, hown, hts⟩ (cn_Model_figures l D cT h_m h_mz h_mout h_mwholes h_mparts h_mknown31 h_mprimes h_mrests h_mrows h_mdigits h_mopen H.size u_1 v_n v_has v_known v_many v_printed u_4 f_out 902 0 _ hw) (gv_ 2 q_731 q_9 q_728 q_730 qs_35 (by decide +kernel) ⟨Nat.le_of_ble_eq_true rfl, Nat.le_of_ble_eq_true rfl⟩ hts) ⟨pre_blind, va_recv hK hPc (ci := 8) (q0 := 0) rfl rfl, fun U hU hW => ⟨rfl, pre_mk hU hW hPc hK hDc hN⟩⟩ rfl rfl hl.1 rfl (lv_room (Nat.le_of_ble_eq_true rfl)) dX8_print_20 ⟨(Nat.zero_le _), (Nat.zero_le _)⟩) hS (fun q _ h => hFc q h) hFc (fun r_7 u9 t H locs ht hvm hw hB hz1 hk1 hS => ?_)
    obtain ⟨u_5, u_6⟩ := u9
    obtain ⟨hP1, hD1⟩ := hB
    rw [ht] at hP1
    obtain ⟨hP, hD⟩ := va_join (wr := []) (w1 := [(h_m, .inr (8, [.int u_1, .int v_n, .ref h_mwholes, .ref h_mparts, .int v_has, .int v_known, .ref h_mknown31, .int v_many, .ref h_mprimes, .ref h_mrests, .ref h_mrows, .ref h_mdigits, .ref h_mz, .ref h_mout, .int v_printed, .ref h_mopen])), (h_mz, .inl (cT 0, 1100, .inl u_5)), (h_mout, .inl (cT 0, 320, .inl u_6))]) hP hD [0, 1, 2] [] rfl rfl (by decide) (by decide) hk1 hFc hP1 hD1
    have hP := hP.sub (ws' := [(h_m, .inr (8, [.int u_1, .int v_n, .ref h_mwholes, .ref h_mparts, .int v_has, .int v_known, .ref h_mknown31, .int v_many, .ref h_mprimes, .ref h_mrests, .ref h_mrows, .ref h_mdigits, .ref h_mz, .ref h_mout, .int v_printed, .ref h_mopen])), (h_mz, .inl (cT 0, 1100, .inl u_5)), (h_mout, .inl (cT 0, 320, .inl u_6))]) [0, 1, 2] rfl
    have hD := hD.sub (ws' := [(h_m, .inr (8, [.int u_1, .int v_n, .ref h_mwholes, .ref h_mparts, .int v_has, .int v_known, .ref h_mknown31, .int v_many, .ref h_mprimes, .ref h_mrests, .ref h_mrows, .ref h_mdigits, .ref h_mz, .ref h_mout, .int v_printed, .ref h_mopen])), (h_mz, .inl (cT 0, 1100, .inl u_5)), (h_mout, .inl (cT 0, 320, .inl u_6))]) [0, 1, 2] (by decide) rfl
    clear hP1 hD1 hPc hDc hFc hk1 hz1 hvm ht
    try dsimp only at hw
    refine lv_istore_n (lv' := [(2, .int r_7), (0, .ref h_m), (1, .int x1)]) hx hb dX8_print_23 rfl hl (by decide) rfl (fun ls hl => ?_)
    refine lv_aload_n hx hb dX8_print_24 rfl (lv_at hl 1 rfl) ?_
    refine lv_sipush (v := 968) hx hb dX8_print_25 (by decide) ?_
    refine lv_lconst (v := 1) hx hb dX8_print_28 (by decide) ?_
    have hPc := hP.sub (ws' := [(h_m, .inr (8, [.int u_1, .int v_n, .ref h_mwholes, .ref h_mparts, .int v_has, .int v_known, .ref h_mknown31, .int v_many, .ref h_mprimes, .ref h_mrests, .ref h_mrows, .ref h_mdigits, .ref h_mz, .ref h_mout, .int v_printed, .ref h_mopen])), (h_mz, .inl (cT 0, 1100, .inl u_5))]) [0, 1] rfl
    have hDc := hD.sub (ws' := [(h_m, .inr (8, [.int u_1, .int v_n, .ref h_mwholes, .ref h_mparts, .int v_has, .int v_known, .ref h_mknown31, .int v_many, .ref h_mprimes, .ref h_mrests, .ref h_mrows, .ref h_mdigits, .ref h_mz, .ref h_mout, .int v_printed, .ref h_mopen])), (h_mz, .inl (cT 0, 1100, .inl u_5))]) [0, 1] (by decide) rfl
    have hFc := va_free (wc := [(h_m, .inr (8, [.int u_1, .int v_n, .ref h_mwholes, .ref h_mparts, .int v_has, .int v_known, .ref h_mknown31, .int v_many, .ref h_mprimes, .ref h_mrests, .ref h_mrows, .ref h_mdigits, .ref h_mz, .ref h_mout, .int v_printed, .ref h_mopen])), (h_mz, .inl (cT 0, 1100, .inl u_5))]) hD hS hA [0, 1] rfl
    refine va_callv (va_runV (As := [.int 968, .long 1]) (rest := []) ⟨hx, hb, hml, hown, hts⟩ (cn_Model_put l D cT h_m h_mz h_mwholes h_mparts h_mknown31 h_mprimes h_mrests h_mrows h_mdigits h_mout h_mopen H.size u_1 v_n v_has v_known v_many v_printed u_5 968 1 _ hw) (gv_ 2 q_697 q_9 q_694 q_696 qs_28 (by decide +kernel) ⟨Nat.le_of_ble_eq_true rfl, Nat.le_of_ble_eq_true rfl⟩ hts) ⟨pre_blind, va_recv hK hPc (ci := 8) (q0 := 0) rfl rfl, fun U hU hW => ⟨rfl, pre_mk hU hW hPc hK hDc hN⟩⟩ rfl rfl hl.1 rfl (lv_room (Nat.le_of_ble_eq_true rfl)) dX8_print_29 ⟨(Nat.zero_le _), (Nat.zero_le _)⟩) hS (fun q _ h => hFc q h) hFc (fun u9 t H locs ht hvm hw hB hz1 hk1 hS => ?_)
    obtain ⟨u_8, rfl⟩ : ∃ z, z = u9 := ⟨_, rfl⟩
    obtain ⟨hP1, hD1⟩ := hB
    rw [ht] at hP1
    obtain ⟨hP, hD⟩ := va_join (wr := [(h_mout, .inl (cT 0, 320, .inl u_6))]) (w1 := [(h_m, .inr (8, [.int u_1, .int v_n, .ref h_mwholes, .ref h_mparts, .int v_has, .int v_known, .ref h_mknown31, .int v_many, .ref h_mprimes, .ref h_mrests, .ref h_mrows, .ref h_mdigits, .ref h_mz, .ref h_mout, .int v_printed, .ref h_mopen])), (h_mz, .inl (cT 0, 1100, .inl u_8))]) hP hD [0, 1] [2] rfl rfl (by decide) (by decide) hk1 hFc hP1 hD1
    have hP := hP.sub (ws' := [(h_m, .inr (8, [.int u_1, .int v_n, .ref h_mwholes, .ref h_mparts, .int v_has, .int v_known, .ref h_mknown31, .int v_many, .ref h_mprimes, .ref h_mrests, .ref h_mrows, .ref h_mdigits, .ref h_mz, .ref h_mout, .int v_printed, .ref h_mopen])), (h_mz, .inl (cT 0, 1100, .inl u_8)), (h_mout, .inl (cT 0, 320, .inl u_6))]) [1, 2, 0] rfl
    have hD := hD.sub (ws' := [(h_m, .inr (8, [.int u_1, .int v_n, .ref h_mwholes, .ref h_mparts, .int v_has, .int v_known, .ref h_mknown31, .int v_many, .ref h_mprimes, .ref h_mrests, .ref h_mrows, .ref h_mdigits, .ref h_mz, .ref h_mout, .int v_printed, .ref h_mopen])), (h_mz, .inl (cT 0, 1100, .inl u_8)), (h_mout, .inl (cT 0, 320, .inl u_6))]) [1, 2, 0] (by decide) rfl
    clear hP1 hD1 hPc hDc hFc hk1 hz1 hvm ht
    try dsimp only at hw
    refine lv_aload_n hx hb dX8_print_32 rfl (lv_at hl 1 rfl) ?_
    refine lv_sipush (v := 924) hx hb dX8_print_33 (by decide) ?_
    refine lv_sipush (v := 968) hx hb dX8_print_36 (by decide) ?_
    have hPc := hP.sub (ws' := [(h_m, .inr (8, [.int u_1, .int v_n, .ref h_mwholes, .ref h_mparts, .int v_has, .int v_known, .ref h_mknown31, .int v_many, .ref h_mprimes, .ref h_mrests, .ref h_mrows, .ref h_mdigits, .ref h_mz, .ref h_mout, .int v_printed, .ref h_mopen])), (h_mz, .inl (cT 0, 1100, .inl u_8))]) [0, 1] rfl
    have hDc := hD.sub (ws' := [(h_m, .inr (8, [.int u_1, .int v_n, .ref h_mwholes, .ref h_mparts, .int v_has, .int v_known, .ref h_mknown31, .int v_many, .ref h_mprimes, .ref h_mrests, .ref h_mrows, .ref h_mdigits, .ref h_mz, .ref h_mout, .int v_printed, .ref h_mopen])), (h_mz, .inl (cT 0, 1100, .inl u_8))]) [0, 1] (by decide) rfl
    have hFc := va_free (wc := [(h_m, .inr (8, [.int u_1, .int v_n, .ref h_mwholes, .ref h_mparts, .int v_has, .int v_known, .ref h_mknown31, .int v_many, .ref h_mprimes, .ref h_mrests, .ref h_mrows, .ref h_mdigits, .ref h_mz, .ref h_mout, .int v_printed, .ref h_mopen])), (h_mz, .inl (cT 0, 1100, .inl u_8))]) hD hS hA [0, 1] rfl
    refine va_calli (va_runV (As := [.int 924, .int 968]) (rest := []) ⟨hx, hb, hml, hown, hts⟩ (cn_Model_order l D cT h_m h_mz h_mwholes h_mparts h_mknown31 h_mprimes h_mrests h_mrows h_mdigits h_mout h_mopen H.size u_1 v_n v_has v_known v_many v_printed u_8 924 968 _ hw) (gv_ 2 q_727 q_9 q_724 q_726 qs_34 (by decide +kernel) ⟨Nat.le_of_ble_eq_true rfl, Nat.le_of_ble_eq_true rfl⟩ hts) ⟨pre_blind, va_recv hK hPc (ci := 8) (q0 := 0) rfl rfl, fun U hU hW => ⟨rfl, pre_mk hU hW hPc hK hDc hN⟩⟩ rfl rfl hl.1 rfl (lv_room (Nat.le_of_ble_eq_true rfl)) dX8_print_39 ⟨(Nat.zero_le _), (Nat.zero_le _)⟩) hS (fun q _ h => hFc q h) hFc (fun r_9 u9 t H locs ht hvm hw hB hz1 hk1 hS => ?_)
    obtain ⟨hP1, hD1⟩ := hB
    rw [ht] at hP1
    obtain ⟨hP, hD⟩ := va_join (wr := [(h_mout, .inl (cT 0, 320, .inl u_6))]) (w1 := [(h_m, .inr (8, [.int u_1, .int v_n, .ref h_mwholes, .ref h_mparts, .int v_has, .int v_known, .ref h_mknown31, .int v_many, .ref h_mprimes, .ref h_mrests, .ref h_mrows, .ref h_mdigits, .ref h_mz, .ref h_mout, .int v_printed, .ref h_mopen])), (h_mz, .inl (cT 0, 1100, .inl u_8))]) hP hD [0, 1] [2] rfl rfl (by decide) (by decide) hk1 hFc hP1 hD1
    have hP := hP.sub (ws' := [(h_m, .inr (8, [.int u_1, .int v_n, .ref h_mwholes, .ref h_mparts, .int v_has, .int v_known, .ref h_mknown31, .int v_many, .ref h_mprimes, .ref h_mrests, .ref h_mrows, .ref h_mdigits, .ref h_mz, .ref h_mout, .int v_printed, .ref h_mopen])), (h_mz, .inl (cT 0, 1100, .inl u_8)), (h_mout, .inl (cT 0, 320, .inl u_6))]) [1, 2, 0] rfl
    have hD := hD.sub (ws' := [(h_m, .inr (8, [.int u_1, .int v_n, .ref h_mwholes, .ref h_mparts, .int v_has, .int v_known, .ref h_mknown31, .int v_many, .ref h_mprimes, .ref h_mrests, .ref h_mrows, .ref h_mdigits, .ref h_mz, .ref h_mout, .int v_printed, .ref h_mopen])), (h_mz, .inl (cT 0, 1100, .inl u_8)), (h_mout, .inl (cT 0, 320, .inl u_6))]) [1, 2, 0] (by decide) rfl
    clear hP1 hD1 hPc hDc hFc hk1 hz1 hvm ht
    try dsimp only at hw
    refine lv_if_eq (tgt := 64) hx hb dX8_print_42 (by decide) (fun c_10 => ?_) (fun c_10 => ?_)
    · have hw := hw.1 c_10
      exact tw_Model_print_64 C0 hA hret  _ _ _ _ _ _ _ _ hP hD hS (lv_sub hl [1, 0] rfl) hw
    · have hw := hw.2 c_10
      refine lv_aload_n hx hb dX8_print_45 rfl (lv_at hl 1 rfl) ?_
      refine va_get (D := D) (ci := 8) (v := .ref h_mout) (C := RX8) (T := TX8) (N := 16) hx hb hts inX8 hown hK hP 0 rfl rfl 13 (by decide) (hts _ q_596) (fun _ h9 => h9) rfl dX8_print_46 ?_
      refine lv_iload_n hx hb dX8_print_49 rfl (lv_at hl 0 rfl) ?_
      refine lv_bipush (v := 47) hx hb dX8_print_50 (by decide) ?_
      obtain ⟨h_11, hw⟩ := hw
      refine va_iast hx hb hK hP hD hS 2 0 rfl rfl h_11 dX8_print_52 (fun H locs hP hD hS => ?_)
      have hP : va_P D vwCl [(h_m, .inr (8, [.int u_1, .int v_n, .ref h_mwholes, .ref h_mparts, .int v_has, .int v_known, .ref h_mknown31, .int v_many, .ref h_mprimes, .ref h_mrests, .ref h_mrows, .ref h_mdigits, .ref h_mz, .ref h_mout, .int v_printed, .ref h_mopen])), (h_mz, .inl (cT 0, 1100, .inl u_8)), (h_mout, .inl (cT 0, 320, .inl (upd u_6 r_7.toNatClampNeg 47)))] H := hP
      have hD : va_D A [(h_m, .inr (8, [.int u_1, .int v_n, .ref h_mwholes, .ref h_mparts, .int v_has, .int v_known, .ref h_mknown31, .int v_many, .ref h_mprimes, .ref h_mrests, .ref h_mrows, .ref h_mdigits, .ref h_mz, .ref h_mout, .int v_printed, .ref h_mopen])), (h_mz, .inl (cT 0, 1100, .inl u_8)), (h_mout, .inl (cT 0, 320, .inl (upd u_6 r_7.toNatClampNeg 47)))] := hD
      refine lv_aload_n hx hb dX8_print_53 rfl (lv_at hl 1 rfl) ?_
      refine lv_sipush (v := 924) hx hb dX8_print_54 (by decide) ?_
      refine lv_iload_n hx hb dX8_print_57 rfl (lv_at hl 0 rfl) ?_
      refine lv_iconst (v := 1) hx hb dX8_print_58 (by decide) ?_
      refine lv_iadd hx hb dX8_print_59 ?_
      have hPc := hP.sub (ws' := [(h_m, .inr (8, [.int u_1, .int v_n, .ref h_mwholes, .ref h_mparts, .int v_has, .int v_known, .ref h_mknown31, .int v_many, .ref h_mprimes, .ref h_mrests, .ref h_mrows, .ref h_mdigits, .ref h_mz, .ref h_mout, .int v_printed, .ref h_mopen])), (h_mz, .inl (cT 0, 1100, .inl u_8)), (h_mout, .inl (cT 0, 320, .inl (upd u_6 r_7.toNatClampNeg 47)))]) [0, 1, 2] rfl
      have hDc := hD.sub (ws' := [(h_m, .inr (8, [.int u_1, .int v_n, .ref h_mwholes, .ref h_mparts, .int v_has, .int v_known, .ref h_mknown31, .int v_many, .ref h_mprimes, .ref h_mrests, .ref h_mrows, .ref h_mdigits, .ref h_mz, .ref h_mout, .int v_printed, .ref h_mopen])), (h_mz, .inl (cT 0, 1100, .inl u_8)), (h_mout, .inl (cT 0, 320, .inl (upd u_6 r_7.toNatClampNeg 47)))]) [0, 1, 2] (by decide) rfl
      have hFc := va_free (wc := [(h_m, .inr (8, [.int u_1, .int v_n, .ref h_mwholes, .ref h_mparts, .int v_has, .int v_known, .ref h_mknown31, .int v_many, .ref h_mprimes, .ref h_mrests, .ref h_mrows, .ref h_mdigits, .ref h_mz, .ref h_mout, .int v_printed, .ref h_mopen])), (h_mz, .inl (cT 0, 1100, .inl u_8)), (h_mout, .inl (cT 0, 320, .inl (upd u_6 r_7.toNatClampNeg 47)))]) hD hS hA [0, 1, 2] rfl
      refine va_calli (va_runV (As := [.int 924, .int (r_7 + 1)]) (rest := []) ⟨hx, hb, hml, hown, hts⟩ (cn_Model_figures l D cT h_m h_mz h_mout h_mwholes h_mparts h_mknown31 h_mprimes h_mrests h_mrows h_mdigits h_mopen H.size u_1 v_n v_has v_known v_many v_printed u_8 (upd u_6 r_7.toNatClampNeg 47) 924 (r_7 + 1) _ hw) (gv_ 2 q_731 q_9 q_728 q_730 qs_35 (by decide +kernel) ⟨Nat.le_of_ble_eq_true rfl, Nat.le_of_ble_eq_true rfl⟩ hts) ⟨pre_blind, va_recv hK hPc (ci := 8) (q0 := 0) rfl rfl, fun U hU hW => ⟨rfl, pre_mk hU hW hPc hK hDc hN⟩⟩ rfl rfl hl.1 rfl (lv_room (Nat.le_of_ble_eq_true rfl)) dX8_print_60 ⟨(Nat.zero_le _), (Nat.zero_le _)⟩) hS (fun q _ h => hFc q h) hFc (fun r_14 u9 t H locs ht hvm hw hB hz1 hk1 hS => ?_)
      obtain ⟨u_12, u_13⟩ := u9
      obtain ⟨hP1, hD1⟩ := hB
      rw [ht] at hP1
      obtain ⟨hP, hD⟩ := va_join (wr := []) (w1 := [(h_m, .inr (8, [.int u_1, .int v_n, .ref h_mwholes, .ref h_mparts, .int v_has, .int v_known, .ref h_mknown31, .int v_many, .ref h_mprimes, .ref h_mrests, .ref h_mrows, .ref h_mdigits, .ref h_mz, .ref h_mout, .int v_printed, .ref h_mopen])), (h_mz, .inl (cT 0, 1100, .inl u_12)), (h_mout, .inl (cT 0, 320, .inl u_13))]) hP hD [0, 1, 2] [] rfl rfl (by decide) (by decide) hk1 hFc hP1 hD1
      have hP := hP.sub (ws' := [(h_m, .inr (8, [.int u_1, .int v_n, .ref h_mwholes, .ref h_mparts, .int v_has, .int v_known, .ref h_mknown31, .int v_many, .ref h_mprimes, .ref h_mrests, .ref h_mrows, .ref h_mdigits, .ref h_mz, .ref h_mout, .int v_printed, .ref h_mopen])), (h_mz, .inl (cT 0, 1100, .inl u_12)), (h_mout, .inl (cT 0, 320, .inl u_13))]) [0, 1, 2] rfl
      have hD := hD.sub (ws' := [(h_m, .inr (8, [.int u_1, .int v_n, .ref h_mwholes, .ref h_mparts, .int v_has, .int v_known, .ref h_mknown31, .int v_many, .ref h_mprimes, .ref h_mrests, .ref h_mrows, .ref h_mdigits, .ref h_mz, .ref h_mout, .int v_printed, .ref h_mopen])), (h_mz, .inl (cT 0, 1100, .inl u_12)), (h_mout, .inl (cT 0, 320, .inl u_13))]) [0, 1, 2] (by decide) rfl
      clear hP1 hD1 hPc hDc hFc hk1 hz1 hvm ht
      try dsimp only at hw
      refine lv_istore_n (lv' := [(2, .int r_14), (0, .ref h_m), (1, .int x1)]) hx hb dX8_print_63 rfl hl (by decide) rfl (fun ls hl => ?_)
      exact tw_Model_print_64 C0 hA hret  _ _ _ _ _ _ _ _ hP hD hS (lv_sub hl [1, 0] rfl) hw
  · have hw := hw.2 c_3
    refine lv_iconst (v := (-1)) hx hb dX8_print_8 (by decide) ?_
    exact hret _ _ _ _ _ _ _ _ _ hw hP hD hS dX8_print_9
set_option maxHeartbeats 4000000 in
set_option maxRecDepth 100000 in
theorem cn_Model_print (l : Launch) (D : va_G) (cT : Nat → ClassId) (h_m h_mz h_mout h_mwholes h_mparts h_mknown31 h_mprimes h_mrests h_mrows h_mdigits h_mopen : Nat) (sz : Nat) (v_thrown : Int32) (v_n : Int32) (v_has : Int32) (v_known : Int32) (v_many : Int32) (v_printed : Int32) (f_z : Nat → Int32) (f_out : Nat → Int32) (x1 : Int32) (post : Int32 → Int32 → Int32 → (Nat → Int32) → (Nat → Int32) → Prop) (hw : wp_Model_print post v_n v_has v_known v_many x1 v_thrown v_printed f_z f_out) : Met l yX8_print wX8_print ({ frames := 3, cells := 0, slots := 0, locals := 72 } : Room) (va_Pc [.ref h_m, .int x1] (pre_ D cT [(h_m, .inr (8, [.int v_thrown, .int v_n, .ref h_mwholes, .ref h_mparts, .int v_has, .int v_known, .ref h_mknown31, .int v_many, .ref h_mprimes, .ref h_mrests, .ref h_mrows, .ref h_mdigits, .ref h_mz, .ref h_mout, .int v_printed, .ref h_mopen])), (h_mz, .inl (cT 0, 1100, .inl f_z)), (h_mout, .inl (cT 0, 320, .inl f_out))] sz)) (va_Qi (fun (r : Int32) (u : Int32 × Int32 × (Nat → Int32) × (Nat → Int32)) => post r u.1 u.2.1 u.2.2.1 u.2.2.2) (fun u t => va_P D vwCl [(h_m, .inr (8, [.int u.1, .int v_n, .ref h_mwholes, .ref h_mparts, .int v_has, .int v_known, .ref h_mknown31, .int v_many, .ref h_mprimes, .ref h_mrests, .ref h_mrows, .ref h_mdigits, .ref h_mz, .ref h_mout, .int u.2.1, .ref h_mopen])), (h_mz, .inl (cT 0, 1100, .inl u.2.2.1)), (h_mout, .inl (cT 0, 320, .inl u.2.2.2))] t.heap ∧ va_D (va_A [(h_m, .inr (8, [.int v_thrown, .int v_n, .ref h_mwholes, .ref h_mparts, .int v_has, .int v_known, .ref h_mknown31, .int v_many, .ref h_mprimes, .ref h_mrests, .ref h_mrows, .ref h_mdigits, .ref h_mz, .ref h_mout, .int v_printed, .ref h_mopen])), (h_mz, .inl (cT 0, 1100, .inl f_z)), (h_mout, .inl (cT 0, 320, .inl f_out))] sz) [(h_m, .inr (8, [.int u.1, .int v_n, .ref h_mwholes, .ref h_mparts, .int v_has, .int v_known, .ref h_mknown31, .int v_many, .ref h_mprimes, .ref h_mrests, .ref h_mrows, .ref h_mdigits, .ref h_mz, .ref h_mout, .int u.2.1, .ref h_mopen])), (h_mz, .inl (cT 0, 1100, .inl u.2.2.1)), (h_mout, .inl (cT 0, 320, .inl u.2.2.2))]) (va_A [(h_m, .inr (8, [.int v_thrown, .int v_n, .ref h_mwholes, .ref h_mparts, .int v_has, .int v_known, .ref h_mknown31, .int v_many, .ref h_mprimes, .ref h_mrests, .ref h_mrows, .ref h_mdigits, .ref h_mz, .ref h_mout, .int v_printed, .ref h_mopen])), (h_mz, .inl (cT 0, 1100, .inl f_z)), (h_mout, .inl (cT 0, 320, .inl f_out))] sz)) 0 0 (va_A [(h_m, .inr (8, [.int v_thrown, .int v_n, .ref h_mwholes, .ref h_mparts, .int v_has, .int v_known, .ref h_mknown31, .int v_many, .ref h_mprimes, .ref h_mrests, .ref h_mrows, .ref h_mdigits, .ref h_mz, .ref h_mout, .int v_printed, .ref h_mopen])), (h_mz, .inl (cT 0, 1100, .inl f_z)), (h_mout, .inl (cT 0, 320, .inl f_out))] sz) := by
  refine Met.ofW (cc := cX8_print) (maxL := 3) (ret := (some .int)) (by decide) rfl ?_
  intro p e s m args below meth c s₁ B hml hv
  obtain ⟨rfl, hsz, hP, hK, hD0, hN⟩ := hv
  have hx := B.exec
  have hb := B.bytes
  have hr := B.returns
  have hts : ∀ w ∈ WG, w.before _ s = true := fun w h => atoms_spec (ws := wX8_print) B.pre w (List.mem_cons_of_mem _ h)
  have hown : s.vm.findClass RX8 = some m.cls := findClass_of_methodNamed B.named
  have hlocks := B.notSynchronized
  subst hsz
  have hD := hD0.self (sz := s.heap.size)
  generalize hAe : va_A [(h_m, .inr (8, [.int v_thrown, .int v_n, .ref h_mwholes, .ref h_mparts, .int v_has, .int v_known, .ref h_mknown31, .int v_many, .ref h_mprimes, .ref h_mrests, .ref h_mrows, .ref h_mdigits, .ref h_mz, .ref h_mout, .int v_printed, .ref h_mopen])), (h_mz, .inl (cT 0, 1100, .inl f_z)), (h_mout, .inl (cT 0, 320, .inl f_out))] s.heap.size = A at hD ⊢
  have hA : ∀ q : Nat, s.heap.size ≤ q → A q := fun q h => by rw [← hAe]; exact Or.inr h
  have hS : va_S A s.heap s.heap [] := va_S.rf
  have hl := lv_entry ([.ref h_m, .int x1]) (n := 3) (Nat.le_of_ble_eq_true rfl)
  rw [lg_entry_eq]
  generalize (lg_sl ([.ref h_m, .int x1]) ++ List.replicate (3 - (lg_sl ([.ref h_m, .int x1])).length) Slot.unset).toArray = ls at hl ⊢
  refine tw_Model_print (Q := MQ below _ _ s 0 0 A) ⟨⟨hx, hb, hml, hown, hts⟩, hK, hN⟩ hA (fun r v_thrown v_printed f_z f_out H locs pc ls hp hP hD hS hd => W.iret (v := r) hx hb hr (fun t ht hW => ⟨⟨r, (v_thrown, v_printed, f_z, f_out), rfl, hp, by rw [ht]; exact hP, hD⟩, hS.F ht⟩) hS.2.2 hd) _ _ _ _ _ _ _ _ hP hD hS hl hw
end
def wp_Model_character_27 (post : Int32 → Int32 → Prop) (v_n : Int32) (v_has : Int32) (v_known : Int32) (v_many : Int32) (v_printed : Int32) (f_out : Nat → Int32)  (y0 : Int32) (v_thrown : Int32) : Prop := post y0 v_thrown
def wp_Model_character_17 (post : Int32 → Int32 → Prop) (v_n : Int32) (v_has : Int32) (v_known : Int32) (v_many : Int32) (v_printed : Int32) (f_out : Nat → Int32)  (v_thrown : Int32) : Prop := wp_Model_character_27 post v_n v_has v_known v_many v_printed f_out (-1) v_thrown
def wp_Model_character (post : Int32 → Int32 → Prop) (v_n : Int32) (v_has : Int32) (v_known : Int32) (v_many : Int32) (v_printed : Int32) (f_out : Nat → Int32)  (x1 : Int32) (v_thrown : Int32) : Prop := ((x1 < 0 → (wp_Model_character_17 post v_n v_has v_known v_many v_printed f_out 0)) ∧ (¬ x1 < 0 → (((x1 < v_printed → ((vp_in x1 320 ∧ (wp_Model_character_27 post v_n v_has v_known v_many v_printed f_out (f_out x1.toNatClampNeg) 0)))) ∧ (¬ x1 < v_printed → (wp_Model_character_17 post v_n v_has v_known v_many v_printed f_out 0))))))
section
variable {p : Program} {l : Launch} {e : Env} {s : State} {m : MethodId} {args : Array Value} {below : List Frame} {meth : Method} {c : Code} {Q : State → Prop} {A : Nat → Prop} {D : va_G} {cT : Nat → ClassId}
set_option maxHeartbeats 4000000 in
set_option maxRecDepth 100000 in
theorem tw_Model_character_27 {post : Int32 → Int32 → Prop} {h_m h_mout h_mwholes h_mparts h_mknown31 h_mprimes h_mrests h_mrows h_mdigits h_mz h_mopen : Nat} {v_n : Int32} {v_has : Int32} {v_known : Int32} {v_many : Int32} {v_printed : Int32} {f_out : Nat → Int32}  (C0 : cx RX8 cX8_character 2 D cT p s m c args) (hA : ∀ q, s.heap.size ≤ q → A q) (hret : ∀ (r : Int32) (v_thrown : Int32) (H : Heap) (locs : List Loc) (pc : Nat) (ls : Array Slot), post r v_thrown → va_P D vwCl [(h_m, .inr (8, [.int v_thrown, .int v_n, .ref h_mwholes, .ref h_mparts, .int v_has, .int v_known, .ref h_mknown31, .int v_many, .ref h_mprimes, .ref h_mrests, .ref h_mrows, .ref h_mdigits, .ref h_mz, .ref h_mout, .int v_printed, .ref h_mopen])), (h_mout, .inl (cT 0, 320, .inl f_out))] H → va_D A [(h_m, .inr (8, [.int v_thrown, .int v_n, .ref h_mwholes, .ref h_mparts, .int v_has, .int v_known, .ref h_mknown31, .int v_many, .ref h_mprimes, .ref h_mrests, .ref h_mrows, .ref h_mdigits, .ref h_mz, .ref h_mout, .int v_printed, .ref h_mopen])), (h_mout, .inl (cT 0, 320, .inl f_out))] → va_S A s.heap H locs → decode cX8_character pc = .ok (.ireturn, 1) → W p l e ({ frames := 0, cells := 0, slots := 0, locals := 0 } : Room) s m args below meth c H locs 0 0 Q (F0 m pc ls [.int r]))  : ∀ (y0 : Int32) (v_thrown : Int32) (H : Heap) (locs : List Loc) (ls : Array Slot), va_P D vwCl [(h_m, .inr (8, [.int v_thrown, .int v_n, .ref h_mwholes, .ref h_mparts, .int v_has, .int v_known, .ref h_mknown31, .int v_many, .ref h_mprimes, .ref h_mrests, .ref h_mrows, .ref h_mdigits, .ref h_mz, .ref h_mout, .int v_printed, .ref h_mopen])), (h_mout, .inl (cT 0, 320, .inl f_out))] H → va_D A [(h_m, .inr (8, [.int v_thrown, .int v_n, .ref h_mwholes, .ref h_mparts, .int v_has, .int v_known, .ref h_mknown31, .int v_many, .ref h_mprimes, .ref h_mrests, .ref h_mrows, .ref h_mdigits, .ref h_mz, .ref h_mout, .int v_printed, .ref h_mopen])), (h_mout, .inl (cT 0, 320, .inl f_out))] → va_S A s.heap H locs → lv_has ls 2 [] → wp_Model_character_27 post v_n v_has v_known v_many v_printed f_out y0 v_thrown → W p l e ({ frames := 0, cells := 0, slots := 0, locals := 0 } : Room) s m args below meth c H locs 0 0 Q (F0 m 27 ls [.int y0]) := by
  obtain ⟨⟨hx, hb, hml, hown, hts⟩, hK, hN⟩ := id C0
  intro y0 v_thrown H locs ls hP hD hS hl hw
  unfold wp_Model_character_27 at hw
  exact hret _ _ _ _ _ _ hw hP hD hS dX8_character_27
set_option maxHeartbeats 4000000 in
set_option maxRecDepth 100000 in
theorem tw_Model_character_17 {post : Int32 → Int32 → Prop} {h_m h_mout h_mwholes h_mparts h_mknown31 h_mprimes h_mrests h_mrows h_mdigits h_mz h_mopen : Nat} {v_n : Int32} {v_has : Int32} {v_known : Int32} {v_many : Int32} {v_printed : Int32} {f_out : Nat → Int32}  (C0 : cx RX8 cX8_character 2 D cT p s m c args) (hA : ∀ q, s.heap.size ≤ q → A q) (hret : ∀ (r : Int32) (v_thrown : Int32) (H : Heap) (locs : List Loc) (pc : Nat) (ls : Array Slot), post r v_thrown → va_P D vwCl [(h_m, .inr (8, [.int v_thrown, .int v_n, .ref h_mwholes, .ref h_mparts, .int v_has, .int v_known, .ref h_mknown31, .int v_many, .ref h_mprimes, .ref h_mrests, .ref h_mrows, .ref h_mdigits, .ref h_mz, .ref h_mout, .int v_printed, .ref h_mopen])), (h_mout, .inl (cT 0, 320, .inl f_out))] H → va_D A [(h_m, .inr (8, [.int v_thrown, .int v_n, .ref h_mwholes, .ref h_mparts, .int v_has, .int v_known, .ref h_mknown31, .int v_many, .ref h_mprimes, .ref h_mrests, .ref h_mrows, .ref h_mdigits, .ref h_mz, .ref h_mout, .int v_printed, .ref h_mopen])), (h_mout, .inl (cT 0, 320, .inl f_out))] → va_S A s.heap H locs → decode cX8_character pc = .ok (.ireturn, 1) → W p l e ({ frames := 0, cells := 0, slots := 0, locals := 0 } : Room) s m args below meth c H locs 0 0 Q (F0 m pc ls [.int r]))  : ∀ (v_thrown : Int32) (H : Heap) (locs : List Loc) (ls : Array Slot), va_P D vwCl [(h_m, .inr (8, [.int v_thrown, .int v_n, .ref h_mwholes, .ref h_mparts, .int v_has, .int v_known, .ref h_mknown31, .int v_many, .ref h_mprimes, .ref h_mrests, .ref h_mrows, .ref h_mdigits, .ref h_mz, .ref h_mout, .int v_printed, .ref h_mopen])), (h_mout, .inl (cT 0, 320, .inl f_out))] H → va_D A [(h_m, .inr (8, [.int v_thrown, .int v_n, .ref h_mwholes, .ref h_mparts, .int v_has, .int v_known, .ref h_mknown31, .int v_many, .ref h_mprimes, .ref h_mrests, .ref h_mrows, .ref h_mdigits, .ref h_mz, .ref h_mout, .int v_printed, .ref h_mopen])), (h_mout, .inl (cT 0, 320, .inl f_out))] → va_S A s.heap H locs → lv_has ls 2 [] → wp_Model_character_17 post v_n v_has v_known v_many v_printed f_out v_thrown → W p l e ({ frames := 0, cells := 0, slots := 0, locals := 0 } : Room) s m args below meth c H locs 0 0 Q (F0 m 17 ls []) := by
  obtain ⟨⟨hx, hb, hml, hown, hts⟩, hK, hN⟩ := id C0
  intro v_thrown H locs ls hP hD hS hl hw
  unfold wp_Model_character_17 at hw
  refine lv_iconst (v := (-1)) hx hb dX8_character_17 (by decide) ?_
  refine lv_goto (tgt := 27) hx hb dX8_character_18 (by decide) ?_
  exact tw_Model_character_27 C0 hA hret  _ _ _ _ _ hP hD hS (lv_sub hl [] rfl) hw
set_option maxHeartbeats 4000000 in
set_option maxRecDepth 100000 in
theorem tw_Model_character {post : Int32 → Int32 → Prop} {h_m h_mout h_mwholes h_mparts h_mknown31 h_mprimes h_mrests h_mrows h_mdigits h_mz h_mopen : Nat} {v_n : Int32} {v_has : Int32} {v_known : Int32} {v_many : Int32} {v_printed : Int32} {f_out : Nat → Int32}  (C0 : cx RX8 cX8_character 2 D cT p s m c args) (hA : ∀ q, s.heap.size ≤ q → A q) (hret : ∀ (r : Int32) (v_thrown : Int32) (H : Heap) (locs : List Loc) (pc : Nat) (ls : Array Slot), post r v_thrown → va_P D vwCl [(h_m, .inr (8, [.int v_thrown, .int v_n, .ref h_mwholes, .ref h_mparts, .int v_has, .int v_known, .ref h_mknown31, .int v_many, .ref h_mprimes, .ref h_mrests, .ref h_mrows, .ref h_mdigits, .ref h_mz, .ref h_mout, .int v_printed, .ref h_mopen])), (h_mout, .inl (cT 0, 320, .inl f_out))] H → va_D A [(h_m, .inr (8, [.int v_thrown, .int v_n, .ref h_mwholes, .ref h_mparts, .int v_has, .int v_known, .ref h_mknown31, .int v_many, .ref h_mprimes, .ref h_mrests, .ref h_mrows, .ref h_mdigits, .ref h_mz, .ref h_mout, .int v_printed, .ref h_mopen])), (h_mout, .inl (cT 0, 320, .inl f_out))] → va_S A s.heap H locs → decode cX8_character pc = .ok (.ireturn, 1) → W p l e ({ frames := 0, cells := 0, slots := 0, locals := 0 } : Room) s m args below meth c H locs 0 0 Q (F0 m pc ls [.int r]))  : ∀ (x1 : Int32) (v_thrown : Int32) (H : Heap) (locs : List Loc) (ls : Array Slot), va_P D vwCl [(h_m, .inr (8, [.int v_thrown, .int v_n, .ref h_mwholes, .ref h_mparts, .int v_has, .int v_known, .ref h_mknown31, .int v_many, .ref h_mprimes, .ref h_mrests, .ref h_mrows, .ref h_mdigits, .ref h_mz, .ref h_mout, .int v_printed, .ref h_mopen])), (h_mout, .inl (cT 0, 320, .inl f_out))] H → va_D A [(h_m, .inr (8, [.int v_thrown, .int v_n, .ref h_mwholes, .ref h_mparts, .int v_has, .int v_known, .ref h_mknown31, .int v_many, .ref h_mprimes, .ref h_mrests, .ref h_mrows, .ref h_mdigits, .ref h_mz, .ref h_mout, .int v_printed, .ref h_mopen])), (h_mout, .inl (cT 0, 320, .inl f_out))] → va_S A s.heap H locs → lv_has ls 2 [(0, .ref h_m), (1, .int x1)] → wp_Model_character post v_n v_has v_known v_many v_printed f_out x1 v_thrown → W p l e ({ frames := 0, cells := 0, slots := 0, locals := 0 } : Room) s m args below meth c H locs 0 0 Q (F0 m 0 ls []) := by
  obtain ⟨⟨hx, hb, hml, hown, hts⟩, hK, hN⟩ := id C0
  intro x1 v_thrown H locs ls hP hD hS hl hw
  unfold wp_Model_character at hw
  refine lv_aload_n hx hb dX8_character_0 rfl (lv_at hl 0 rfl) ?_
  refine lv_iconst (v := 0) hx hb dX8_character_1 (by decide) ?_
  refine va_put (D := D) (ci := 8) (v := .int 0) (ty := .int) (C := RX8) (T := TX8) (N := 16) hx hb hts inX8 tyX8 tyX8_ok nmX8 hown hK hP hD hS 0 rfl rfl 0 (by decide) (hts _ q_583) (fun _ h9 => h9) rfl (by decide +kernel) rfl rfl (Nat.le_of_ble_eq_true rfl) dX8_character_2 (fun H locs hP hD hS => ?_)
  have hP : va_P D vwCl [(h_m, .inr (8, [.int 0, .int v_n, .ref h_mwholes, .ref h_mparts, .int v_has, .int v_known, .ref h_mknown31, .int v_many, .ref h_mprimes, .ref h_mrests, .ref h_mrows, .ref h_mdigits, .ref h_mz, .ref h_mout, .int v_printed, .ref h_mopen])), (h_mout, .inl (cT 0, 320, .inl f_out))] H := hP
  have hD : va_D A [(h_m, .inr (8, [.int 0, .int v_n, .ref h_mwholes, .ref h_mparts, .int v_has, .int v_known, .ref h_mknown31, .int v_many, .ref h_mprimes, .ref h_mrests, .ref h_mrows, .ref h_mdigits, .ref h_mz, .ref h_mout, .int v_printed, .ref h_mopen])), (h_mout, .inl (cT 0, 320, .inl f_out))] := hD
  refine lv_iload_n hx hb dX8_character_5 rfl (lv_at hl 1 rfl) ?_
  refine lv_if_lt (tgt := 17) hx hb dX8_character_6 (by decide) (fun c_1 => ?_) (fun c_1 => ?_)
  · have hw := hw.1 c_1
    exact tw_Model_character_17 C0 hA hret  _ _ _ _ hP hD hS (lv_sub hl [] rfl) hw
  · have hw := hw.2 c_1
    refine lv_iload_n hx hb dX8_character_9 rfl (lv_at hl 1 rfl) ?_
    refine lv_aload_n hx hb dX8_character_10 rfl (lv_at hl 0 rfl) ?_
    refine va_get (D := D) (ci := 8) (v := .int v_printed) (C := RX8) (T := TX8) (N := 16) hx hb hts inX8 hown hK hP 0 rfl rfl 14 (by decide) (hts _ q_597) (fun _ h9 => h9) rfl dX8_character_11 ?_
    refine lv_icmp_lt (tgt := 21) hx hb dX8_character_14 (by decide) (fun c_2 => ?_) (fun c_2 => ?_)
    · have hw := hw.1 c_2
      refine lv_aload_n hx hb dX8_character_21 rfl (lv_at hl 0 rfl) ?_
      refine va_get (D := D) (ci := 8) (v := .ref h_mout) (C := RX8) (T := TX8) (N := 16) hx hb hts inX8 hown hK hP 0 rfl rfl 13 (by decide) (hts _ q_596) (fun _ h9 => h9) rfl dX8_character_22 ?_
      refine lv_iload_n hx hb dX8_character_25 rfl (lv_at hl 1 rfl) ?_
      obtain ⟨h_3, hw⟩ := hw
      refine va_iald hx hb hK hP 1 0 rfl rfl h_3 dX8_character_26 ?_
      exact tw_Model_character_27 C0 hA hret  _ _ _ _ _ hP hD hS (lv_sub hl [] rfl) hw
    · have hw := hw.2 c_2
      exact tw_Model_character_17 C0 hA hret  _ _ _ _ hP hD hS (lv_sub hl [] rfl) hw
set_option maxHeartbeats 4000000 in
set_option maxRecDepth 100000 in
theorem cn_Model_character (l : Launch) (D : va_G) (cT : Nat → ClassId) (h_m h_mout h_mwholes h_mparts h_mknown31 h_mprimes h_mrests h_mrows h_mdigits h_mz h_mopen : Nat) (sz : Nat) (v_thrown : Int32) (v_n : Int32) (v_has : Int32) (v_known : Int32) (v_many : Int32) (v_printed : Int32) (f_out : Nat → Int32) (x1 : Int32) (post : Int32 → Int32 → Prop) (hw : wp_Model_character post v_n v_has v_known v_many v_printed f_out x1 v_thrown) : Met l yX8_character wX8_character ({ frames := 0, cells := 0, slots := 0, locals := 0 } : Room) (va_Pc [.ref h_m, .int x1] (pre_ D cT [(h_m, .inr (8, [.int v_thrown, .int v_n, .ref h_mwholes, .ref h_mparts, .int v_has, .int v_known, .ref h_mknown31, .int v_many, .ref h_mprimes, .ref h_mrests, .ref h_mrows, .ref h_mdigits, .ref h_mz, .ref h_mout, .int v_printed, .ref h_mopen])), (h_mout, .inl (cT 0, 320, .inl f_out))] sz)) (va_Qi (fun (r : Int32) (u : Int32) => post r u) (fun u t => va_P D vwCl [(h_m, .inr (8, [.int u, .int v_n, .ref h_mwholes, .ref h_mparts, .int v_has, .int v_known, .ref h_mknown31, .int v_many, .ref h_mprimes, .ref h_mrests, .ref h_mrows, .ref h_mdigits, .ref h_mz, .ref h_mout, .int v_printed, .ref h_mopen])), (h_mout, .inl (cT 0, 320, .inl f_out))] t.heap ∧ va_D (va_A [(h_m, .inr (8, [.int v_thrown, .int v_n, .ref h_mwholes, .ref h_mparts, .int v_has, .int v_known, .ref h_mknown31, .int v_many, .ref h_mprimes, .ref h_mrests, .ref h_mrows, .ref h_mdigits, .ref h_mz, .ref h_mout, .int v_printed, .ref h_mopen])), (h_mout, .inl (cT 0, 320, .inl f_out))] sz) [(h_m, .inr (8, [.int u, .int v_n, .ref h_mwholes, .ref h_mparts, .int v_has, .int v_known, .ref h_mknown31, .int v_many, .ref h_mprimes, .ref h_mrests, .ref h_mrows, .ref h_mdigits, .ref h_mz, .ref h_mout, .int v_printed, .ref h_mopen])), (h_mout, .inl (cT 0, 320, .inl f_out))]) (va_A [(h_m, .inr (8, [.int v_thrown, .int v_n, .ref h_mwholes, .ref h_mparts, .int v_has, .int v_known, .ref h_mknown31, .int v_many, .ref h_mprimes, .ref h_mrests, .ref h_mrows, .ref h_mdigits, .ref h_mz, .ref h_mout, .int v_printed, .ref h_mopen])), (h_mout, .inl (cT 0, 320, .inl f_out))] sz)) 0 0 (va_A [(h_m, .inr (8, [.int v_thrown, .int v_n, .ref h_mwholes, .ref h_mparts, .int v_has, .int v_known, .ref h_mknown31, .int v_many, .ref h_mprimes, .ref h_mrests, .ref h_mrows, .ref h_mdigits, .ref h_mz, .ref h_mout, .int v_printed, .ref h_mopen])), (h_mout, .inl (cT 0, 320, .inl f_out))] sz) := by
  refine Met.ofW (cc := cX8_character) (maxL := 2) (ret := (some .int)) (by decide) rfl ?_
  intro p e s m args below meth c s₁ B hml hv
  obtain ⟨rfl, hsz, hP, hK, hD0, hN⟩ := hv
  have hx := B.exec
  have hb := B.bytes
  have hr := B.returns
  have hts : ∀ w ∈ WG, w.before _ s = true := fun w h => atoms_spec (ws := wX8_character) B.pre w (List.mem_cons_of_mem _ h)
  have hown : s.vm.findClass RX8 = some m.cls := findClass_of_methodNamed B.named
  have hlocks := B.notSynchronized
  subst hsz
  have hD := hD0.self (sz := s.heap.size)
  generalize hAe : va_A [(h_m, .inr (8, [.int v_thrown, .int v_n, .ref h_mwholes, .ref h_mparts, .int v_has, .int v_known, .ref h_mknown31, .int v_many, .ref h_mprimes, .ref h_mrests, .ref h_mrows, .ref h_mdigits, .ref h_mz, .ref h_mout, .int v_printed, .ref h_mopen])), (h_mout, .inl (cT 0, 320, .inl f_out))] s.heap.size = A at hD ⊢
  have hA : ∀ q : Nat, s.heap.size ≤ q → A q := fun q h => by rw [← hAe]; exact Or.inr h
  have hS : va_S A s.heap s.heap [] := va_S.rf
  have hl := lv_entry ([.ref h_m, .int x1]) (n := 2) (Nat.le_of_ble_eq_true rfl)
  rw [lg_entry_eq]
  generalize (lg_sl ([.ref h_m, .int x1]) ++ List.replicate (2 - (lg_sl ([.ref h_m, .int x1])).length) Slot.unset).toArray = ls at hl ⊢
  refine tw_Model_character (Q := MQ below _ _ s 0 0 A) ⟨⟨hx, hb, hml, hown, hts⟩, hK, hN⟩ hA (fun r v_thrown H locs pc ls hp hP hD hS hd => W.iret (v := r) hx hb hr (fun t ht hW => ⟨⟨r, (v_thrown), rfl, hp, by rw [ht]; exact hP, hD⟩, hS.F ht⟩) hS.2.2 hd) _ _ _ _ _ hP hD hS hl hw
end
def wp_Model_compare_33 (post : Int32 → Int32 → Prop) (v_n : Int32) (v_has : Int32) (v_known : Int32) (v_many : Int32) (v_printed : Int32) (f_z : Nat → Int32)  (y0 : Int32) (v_thrown : Int32) : Prop := post y0 v_thrown
def wp_Model_compare_16 (post : Int32 → Int32 → Prop) (v_n : Int32) (v_has : Int32) (v_known : Int32) (v_many : Int32) (v_printed : Int32) (f_z : Nat → Int32)  (v_thrown : Int32) : Prop := wp_Model_compare_33 post v_n v_has v_known v_many v_printed f_z (-2) v_thrown
def wp_Model_compare (post : Int32 → Int32 → Prop) (v_n : Int32) (v_has : Int32) (v_known : Int32) (v_many : Int32) (v_printed : Int32) (f_z : Nat → Int32)  (x1 : Int32) (x2 : Int32) (v_thrown : Int32) : Prop := wp_Model_noLikelihood (fun r_2 u_1 => ((r_2 = 0 → (wp_Model_noLikelihood (fun r_5 u_4 => ((r_5 = 0 → (wp_Model_order (fun r_7 => wp_Model_compare_33 post v_n v_has v_known v_many v_printed f_z r_7 u_4) u_4 v_n v_has v_known v_many v_printed f_z (22 * x1) (22 * x2))) ∧ (¬ r_5 = 0 → (wp_Model_compare_16 post v_n v_has v_known v_many v_printed f_z u_4)))) v_n v_has v_known v_many v_printed x2 u_1)) ∧ (¬ r_2 = 0 → (wp_Model_compare_16 post v_n v_has v_known v_many v_printed f_z u_1)))) v_n v_has v_known v_many v_printed x1 v_thrown
section
variable {p : Program} {l : Launch} {e : Env} {s : State} {m : MethodId} {args : Array Value} {below : List Frame} {meth : Method} {c : Code} {Q : State → Prop} {A : Nat → Prop} {D : va_G} {cT : Nat → ClassId}
set_option maxHeartbeats 4000000 in
set_option maxRecDepth 100000 in
theorem tw_Model_compare_33 {post : Int32 → Int32 → Prop} {h_m h_mz h_mwholes h_mparts h_mknown31 h_mprimes h_mrests h_mrows h_mdigits h_mout h_mopen : Nat} {v_n : Int32} {v_has : Int32} {v_known : Int32} {v_many : Int32} {v_printed : Int32} {f_z : Nat → Int32}  (C0 : cx RX8 cX8_compare 3 D cT p s m c args) (hA : ∀ q, s.heap.size ≤ q → A q) (hret : ∀ (r : Int32) (v_thrown : Int32) (H : Heap) (locs : List Loc) (pc : Nat) (ls : Array Slot), post r v_thrown → va_P D vwCl [(h_m, .inr (8, [.int v_thrown, .int v_n, .ref h_mwholes, .ref h_mparts, .int v_has, .int v_known, .ref h_mknown31, .int v_many, .ref h_mprimes, .ref h_mrests, .ref h_mrows, .ref h_mdigits, .ref h_mz, .ref h_mout, .int v_printed, .ref h_mopen])), (h_mz, .inl (cT 0, 1100, .inl f_z))] H → va_D A [(h_m, .inr (8, [.int v_thrown, .int v_n, .ref h_mwholes, .ref h_mparts, .int v_has, .int v_known, .ref h_mknown31, .int v_many, .ref h_mprimes, .ref h_mrests, .ref h_mrows, .ref h_mdigits, .ref h_mz, .ref h_mout, .int v_printed, .ref h_mopen])), (h_mz, .inl (cT 0, 1100, .inl f_z))] → va_S A s.heap H locs → decode cX8_compare pc = .ok (.ireturn, 1) → W p l e ({ frames := 2, cells := 0, slots := 0, locals := 42 } : Room) s m args below meth c H locs 0 0 Q (F0 m pc ls [.int r]))  : ∀ (y0 : Int32) (v_thrown : Int32) (H : Heap) (locs : List Loc) (ls : Array Slot), va_P D vwCl [(h_m, .inr (8, [.int v_thrown, .int v_n, .ref h_mwholes, .ref h_mparts, .int v_has, .int v_known, .ref h_mknown31, .int v_many, .ref h_mprimes, .ref h_mrests, .ref h_mrows, .ref h_mdigits, .ref h_mz, .ref h_mout, .int v_printed, .ref h_mopen])), (h_mz, .inl (cT 0, 1100, .inl f_z))] H → va_D A [(h_m, .inr (8, [.int v_thrown, .int v_n, .ref h_mwholes, .ref h_mparts, .int v_has, .int v_known, .ref h_mknown31, .int v_many, .ref h_mprimes, .ref h_mrests, .ref h_mrows, .ref h_mdigits, .ref h_mz, .ref h_mout, .int v_printed, .ref h_mopen])), (h_mz, .inl (cT 0, 1100, .inl f_z))] → va_S A s.heap H locs → lv_has ls 3 [] → wp_Model_compare_33 post v_n v_has v_known v_many v_printed f_z y0 v_thrown → W p l e ({ frames := 2, cells := 0, slots := 0, locals := 42 } : Room) s m args below meth c H locs 0 0 Q (F0 m 33 ls [.int y0]) := by
  obtain ⟨⟨hx, hb, hml, hown, hts⟩, hK, hN⟩ := id C0
  intro y0 v_thrown H locs ls hP hD hS hl hw
  unfold wp_Model_compare_33 at hw
  exact hret _ _ _ _ _ _ hw hP hD hS dX8_compare_33
set_option maxHeartbeats 4000000 in
set_option maxRecDepth 100000 in
theorem tw_Model_compare_16 {post : Int32 → Int32 → Prop} {h_m h_mz h_mwholes h_mparts h_mknown31 h_mprimes h_mrests h_mrows h_mdigits h_mout h_mopen : Nat} {v_n : Int32} {v_has : Int32} {v_known : Int32} {v_many : Int32} {v_printed : Int32} {f_z : Nat → Int32}  (C0 : cx RX8 cX8_compare 3 D cT p s m c args) (hA : ∀ q, s.heap.size ≤ q → A q) (hret : ∀ (r : Int32) (v_thrown : Int32) (H : Heap) (locs : List Loc) (pc : Nat) (ls : Array Slot), post r v_thrown → va_P D vwCl [(h_m, .inr (8, [.int v_thrown, .int v_n, .ref h_mwholes, .ref h_mparts, .int v_has, .int v_known, .ref h_mknown31, .int v_many, .ref h_mprimes, .ref h_mrests, .ref h_mrows, .ref h_mdigits, .ref h_mz, .ref h_mout, .int v_printed, .ref h_mopen])), (h_mz, .inl (cT 0, 1100, .inl f_z))] H → va_D A [(h_m, .inr (8, [.int v_thrown, .int v_n, .ref h_mwholes, .ref h_mparts, .int v_has, .int v_known, .ref h_mknown31, .int v_many, .ref h_mprimes, .ref h_mrests, .ref h_mrows, .ref h_mdigits, .ref h_mz, .ref h_mout, .int v_printed, .ref h_mopen])), (h_mz, .inl (cT 0, 1100, .inl f_z))] → va_S A s.heap H locs → decode cX8_compare pc = .ok (.ireturn, 1) → W p l e ({ frames := 2, cells := 0, slots := 0, locals := 42 } : Room) s m args below meth c H locs 0 0 Q (F0 m pc ls [.int r]))  : ∀ (v_thrown : Int32) (H : Heap) (locs : List Loc) (ls : Array Slot), va_P D vwCl [(h_m, .inr (8, [.int v_thrown, .int v_n, .ref h_mwholes, .ref h_mparts, .int v_has, .int v_known, .ref h_mknown31, .int v_many, .ref h_mprimes, .ref h_mrests, .ref h_mrows, .ref h_mdigits, .ref h_mz, .ref h_mout, .int v_printed, .ref h_mopen])), (h_mz, .inl (cT 0, 1100, .inl f_z))] H → va_D A [(h_m, .inr (8, [.int v_thrown, .int v_n, .ref h_mwholes, .ref h_mparts, .int v_has, .int v_known, .ref h_mknown31, .int v_many, .ref h_mprimes, .ref h_mrests, .ref h_mrows, .ref h_mdigits, .ref h_mz, .ref h_mout, .int v_printed, .ref h_mopen])), (h_mz, .inl (cT 0, 1100, .inl f_z))] → va_S A s.heap H locs → lv_has ls 3 [] → wp_Model_compare_16 post v_n v_has v_known v_many v_printed f_z v_thrown → W p l e ({ frames := 2, cells := 0, slots := 0, locals := 42 } : Room) s m args below meth c H locs 0 0 Q (F0 m 16 ls []) := by
  obtain ⟨⟨hx, hb, hml, hown, hts⟩, hK, hN⟩ := id C0
  intro v_thrown H locs ls hP hD hS hl hw
  unfold wp_Model_compare_16 at hw
  refine lv_bipush (v := (-2)) hx hb dX8_compare_16 (by decide) ?_
  refine lv_goto (tgt := 33) hx hb dX8_compare_18 (by decide) ?_
  exact tw_Model_compare_33 C0 hA hret  _ _ _ _ _ hP hD hS (lv_sub hl [] rfl) hw
set_option maxHeartbeats 4000000 in
set_option maxRecDepth 100000 in
theorem tw_Model_compare {post : Int32 → Int32 → Prop} {h_m h_mz h_mwholes h_mparts h_mknown31 h_mprimes h_mrests h_mrows h_mdigits h_mout h_mopen : Nat} {v_n : Int32} {v_has : Int32} {v_known : Int32} {v_many : Int32} {v_printed : Int32} {f_z : Nat → Int32}  (C0 : cx RX8 cX8_compare 3 D cT p s m c args) (hA : ∀ q, s.heap.size ≤ q → A q) (hret : ∀ (r : Int32) (v_thrown : Int32) (H : Heap) (locs : List Loc) (pc : Nat) (ls : Array Slot), post r v_thrown → va_P D vwCl [(h_m, .inr (8, [.int v_thrown, .int v_n, .ref h_mwholes, .ref h_mparts, .int v_has, .int v_known, .ref h_mknown31, .int v_many, .ref h_mprimes, .ref h_mrests, .ref h_mrows, .ref h_mdigits, .ref h_mz, .ref h_mout, .int v_printed, .ref h_mopen])), (h_mz, .inl (cT 0, 1100, .inl f_z))] H → va_D A [(h_m, .inr (8, [.int v_thrown, .int v_n, .ref h_mwholes, .ref h_mparts, .int v_has, .int v_known, .ref h_mknown31, .int v_many, .ref h_mprimes, .ref h_mrests, .ref h_mrows, .ref h_mdigits, .ref h_mz, .ref h_mout, .int v_printed, .ref h_mopen])), (h_mz, .inl (cT 0, 1100, .inl f_z))] → va_S A s.heap H locs → decode cX8_compare pc = .ok (.ireturn, 1) → W p l e ({ frames := 2, cells := 0, slots := 0, locals := 42 } : Room) s m args below meth c H locs 0 0 Q (F0 m pc ls [.int r]))  : ∀ (x1 : Int32) (x2 : Int32) (v_thrown : Int32) (H : Heap) (locs : List Loc) (ls : Array Slot), va_P D vwCl [(h_m, .inr (8, [.int v_thrown, .int v_n, .ref h_mwholes, .ref h_mparts, .int v_has, .int v_known, .ref h_mknown31, .int v_many, .ref h_mprimes, .ref h_mrests, .ref h_mrows, .ref h_mdigits, .ref h_mz, .ref h_mout, .int v_printed, .ref h_mopen])), (h_mz, .inl (cT 0, 1100, .inl f_z))] H → va_D A [(h_m, .inr (8, [.int v_thrown, .int v_n, .ref h_mwholes, .ref h_mparts, .int v_has, .int v_known, .ref h_mknown31, .int v_many, .ref h_mprimes, .ref h_mrests, .ref h_mrows, .ref h_mdigits, .ref h_mz, .ref h_mout, .int v_printed, .ref h_mopen])), (h_mz, .inl (cT 0, 1100, .inl f_z))] → va_S A s.heap H locs → lv_has ls 3 [(0, .ref h_m), (1, .int x1), (2, .int x2)] → wp_Model_compare post v_n v_has v_known v_many v_printed f_z x1 x2 v_thrown → W p l e ({ frames := 2, cells := 0, slots := 0, locals := 42 } : Room) s m args below meth c H locs 0 0 Q (F0 m 0 ls []) := by
  obtain ⟨⟨hx, hb, hml, hown, hts⟩, hK, hN⟩ := id C0
  intro x1 x2 v_thrown H locs ls hP hD hS hl hw
  unfold wp_Model_compare at hw
  refine lv_aload_n hx hb dX8_compare_0 rfl (lv_at hl 0 rfl) ?_
  refine lv_iload_n hx hb dX8_compare_1 rfl (lv_at hl 1 rfl) ?_
  have hPc := hP.sub (ws' := [(h_m, .inr (8, [.int v_thrown, .int v_n, .ref h_mwholes, .ref h_mparts, .int v_has, .int v_known, .ref h_mknown31, .int v_many, .ref h_mprimes, .ref h_mrests, .ref h_mrows, .ref h_mdigits, .ref h_mz, .ref h_mout, .int v_printed, .ref h_mopen]))]) [0] rfl
  have hDc := hD.sub (ws' := [(h_m, .inr (8, [.int v_thrown, .int v_n, .ref h_mwholes, .ref h_mparts, .int v_has, .int v_known, .ref h_mknown31, .int v_many, .ref h_mprimes, .ref h_mrests, .ref h_mrows, .ref h_mdigits, .ref h_mz, .ref h_mout, .int v_printed, .ref h_mopen]))]) [0] (by decide) rfl
  have hFc := va_free (wc := [(h_m, .inr (8, [.int v_thrown, .int v_n, .ref h_mwholes, .ref h_mparts, .int v_has, .int v_known, .ref h_mknown31, .int v_many, .ref h_mprimes, .ref h_mrests, .ref h_mrows, .ref h_mdigits, .ref h_mz, .ref h_mout, .int v_printed, .ref h_mopen]))]) hD hS hA [0] rfl
  refine va_calli (va_runV (As := [.int x1]) (rest := []) ⟨hx, hb, hml, hown, hts⟩ (cn_Model_noLikelihood l D cT h_m h_mwholes h_mparts h_mknown31 h_mprimes h_mrests h_mrows h_mdigits h_mz h_mout h_mopen H.size v_thrown v_n v_has v_known v_many v_printed x1 _ hw) (gv_ 1 q_706 q_9 q_703 q_705 qs_29 (by decide +kernel) ⟨Nat.le_of_ble_eq_true rfl, Nat.le_of_ble_eq_true rfl⟩ hts) ⟨pre_blind, va_recv hK hPc (ci := 8) (q0 := 0) rfl rfl, fun U hU hW => ⟨rfl, pre_mk hU hW hPc hK hDc hN⟩⟩ rfl rfl hl.1 rfl (lv_room (Nat.le_of_ble_eq_true rfl)) dX8_compare_2 ⟨(Nat.zero_le _), (Nat.zero_le _)⟩) hS (fun q _ h => hFc q h) hFc (fun r_2 u9 t H locs ht hvm hw hB hz1 hk1 hS => ?_)
  obtain ⟨u_1, rfl⟩ : ∃ z, z = u9 := ⟨_, rfl⟩
  obtain ⟨hP1, hD1⟩ := hB
  rw [ht] at hP1
  obtain ⟨hP, hD⟩ := va_join (wr := [(h_mz, .inl (cT 0, 1100, .inl f_z))]) (w1 := [(h_m, .inr (8, [.int u_1, .int v_n, .ref h_mwholes, .ref h_mparts, .int v_has, .int v_known, .ref h_mknown31, .int v_many, .ref h_mprimes, .ref h_mrests, .ref h_mrows, .ref h_mdigits, .ref h_mz, .ref h_mout, .int v_printed, .ref h_mopen]))]) hP hD [0] [1] rfl rfl (by decide) (by decide) hk1 hFc hP1 hD1
  have hP := hP.sub (ws' := [(h_m, .inr (8, [.int u_1, .int v_n, .ref h_mwholes, .ref h_mparts, .int v_has, .int v_known, .ref h_mknown31, .int v_many, .ref h_mprimes, .ref h_mrests, .ref h_mrows, .ref h_mdigits, .ref h_mz, .ref h_mout, .int v_printed, .ref h_mopen])), (h_mz, .inl (cT 0, 1100, .inl f_z))]) [1, 0] rfl
  have hD := hD.sub (ws' := [(h_m, .inr (8, [.int u_1, .int v_n, .ref h_mwholes, .ref h_mparts, .int v_has, .int v_known, .ref h_mknown31, .int v_many, .ref h_mprimes, .ref h_mrests, .ref h_mrows, .ref h_mdigits, .ref h_mz, .ref h_mout, .int v_printed, .ref h_mopen])), (h_mz, .inl (cT 0, 1100, .inl f_z))]) [1, 0] (by decide) rfl
  clear hP1 hD1 hPc hDc hFc hk1 hz1 hvm ht
  try dsimp only at hw
  refine lv_if_ne (tgt := 16) hx hb dX8_compare_5 (by decide) (fun c_3 => ?_) (fun c_3 => ?_)
  · have hw := hw.2 c_3
    exact tw_Model_compare_16 C0 hA hret  _ _ _ _ hP hD hS (lv_sub hl [] rfl) hw
  · have hw := hw.1 c_3
    refine lv_aload_n hx hb dX8_compare_8 rfl (lv_at hl 0 rfl) ?_
    refine lv_iload_n hx hb dX8_compare_9 rfl (lv_at hl 2 rfl) ?_
    have hPc := hP.sub (ws' := [(h_m, .inr (8, [.int u_1, .int v_n, .ref h_mwholes, .ref h_mparts, .int v_has, .int v_known, .ref h_mknown31, .int v_many, .ref h_mprimes, .ref h_mrests, .ref h_mrows, .ref h_mdigits, .ref h_mz, .ref h_mout, .int v_printed, .ref h_mopen]))]) [0] rfl
    have hDc := hD.sub (ws' := [(h_m, .inr (8, [.int u_1, .int v_n, .ref h_mwholes, .ref h_mparts, .int v_has, .int v_known, .ref h_mknown31, .int v_many, .ref h_mprimes, .ref h_mrests, .ref h_mrows, .ref h_mdigits, .ref h_mz, .ref h_mout, .int v_printed, .ref h_mopen]))]) [0] (by decide) rfl
    have hFc := va_free (wc := [(h_m, .inr (8, [.int u_1, .int v_n, .ref h_mwholes, .ref h_mparts, .int v_has, .int v_known, .ref h_mknown31, .int v_many, .ref h_mprimes, .ref h_mrests, .ref h_mrows, .ref h_mdigits, .ref h_mz, .ref h_mout, .int v_printed, .ref h_mopen]))]) hD hS hA [0] rfl
    refine va_calli (va_runV (As := [.int x2]) (rest := []) ⟨hx, hb, hml, hown, hts⟩ (cn_Model_noLikelihood l D cT h_m h_mwholes h_mparts h_mknown31 h_mprimes h_mrests h_mrows h_mdigits h_mz h_mout h_mopen H.size u_1 v_n v_has v_known v_many v_printed x2 _ hw) (gv_ 1 q_706 q_9 q_703 q_705 qs_29 (by decide +kernel) ⟨Nat.le_of_ble_eq_true rfl, Nat.le_of_ble_eq_true rfl⟩ hts) ⟨pre_blind, va_recv hK hPc (ci := 8) (q0 := 0) rfl rfl, fun U hU hW => ⟨rfl, pre_mk hU hW hPc hK hDc hN⟩⟩ rfl rfl hl.1 rfl (lv_room (Nat.le_of_ble_eq_true rfl)) dX8_compare_10 ⟨(Nat.zero_le _), (Nat.zero_le _)⟩) hS (fun q _ h => hFc q h) hFc (fun r_5 u9 t H locs ht hvm hw hB hz1 hk1 hS => ?_)
    obtain ⟨u_4, rfl⟩ : ∃ z, z = u9 := ⟨_, rfl⟩
    obtain ⟨hP1, hD1⟩ := hB
    rw [ht] at hP1
    obtain ⟨hP, hD⟩ := va_join (wr := [(h_mz, .inl (cT 0, 1100, .inl f_z))]) (w1 := [(h_m, .inr (8, [.int u_4, .int v_n, .ref h_mwholes, .ref h_mparts, .int v_has, .int v_known, .ref h_mknown31, .int v_many, .ref h_mprimes, .ref h_mrests, .ref h_mrows, .ref h_mdigits, .ref h_mz, .ref h_mout, .int v_printed, .ref h_mopen]))]) hP hD [0] [1] rfl rfl (by decide) (by decide) hk1 hFc hP1 hD1
    have hP := hP.sub (ws' := [(h_m, .inr (8, [.int u_4, .int v_n, .ref h_mwholes, .ref h_mparts, .int v_has, .int v_known, .ref h_mknown31, .int v_many, .ref h_mprimes, .ref h_mrests, .ref h_mrows, .ref h_mdigits, .ref h_mz, .ref h_mout, .int v_printed, .ref h_mopen])), (h_mz, .inl (cT 0, 1100, .inl f_z))]) [1, 0] rfl
    have hD := hD.sub (ws' := [(h_m, .inr (8, [.int u_4, .int v_n, .ref h_mwholes, .ref h_mparts, .int v_has, .int v_known, .ref h_mknown31, .int v_many, .ref h_mprimes, .ref h_mrests, .ref h_mrows, .ref h_mdigits, .ref h_mz, .ref h_mout, .int v_printed, .ref h_mopen])), (h_mz, .inl (cT 0, 1100, .inl f_z))]) [1, 0] (by decide) rfl
    clear hP1 hD1 hPc hDc hFc hk1 hz1 hvm ht
    try dsimp only at hw
    refine lv_if_eq (tgt := 21) hx hb dX8_compare_13 (by decide) (fun c_6 => ?_) (fun c_6 => ?_)
    · have hw := hw.1 c_6
      refine lv_aload_n hx hb dX8_compare_21 rfl (lv_at hl 0 rfl) ?_
      refine lv_bipush (v := 22) hx hb dX8_compare_22 (by decide) ?_
      refine lv_iload_n hx hb dX8_compare_24 rfl (lv_at hl 1 rfl) ?_
      refine lv_imul hx hb dX8_compare_25 ?_
      refine lv_bipush (v := 22) hx hb dX8_compare_26 (by decide) ?_
      refine lv_iload_n hx hb dX8_compare_28 rfl (lv_at hl 2 rfl) ?_
      refine lv_imul hx hb dX8_compare_29 ?_
      have hPc := hP.sub (ws' := [(h_m, .inr (8, [.int u_4, .int v_n, .ref h_mwholes, .ref h_mparts, .int v_has, .int v_known, .ref h_mknown31, .int v_many, .ref h_mprimes, .ref h_mrests, .ref h_mrows, .ref h_mdigits, .ref h_mz, .ref h_mout, .int v_printed, .ref h_mopen])), (h_mz, .inl (cT 0, 1100, .inl f_z))]) [0, 1] rfl
      have hDc := hD.sub (ws' := [(h_m, .inr (8, [.int u_4, .int v_n, .ref h_mwholes, .ref h_mparts, .int v_has, .int v_known, .ref h_mknown31, .int v_many, .ref h_mprimes, .ref h_mrests, .ref h_mrows, .ref h_mdigits, .ref h_mz, .ref h_mout, .int v_printed, .ref h_mopen])), (h_mz, .inl (cT 0, 1100, .inl f_z))]) [0, 1] (by decide) rfl
      have hFc := va_free (wc := [(h_m, .inr (8, [.int u_4, .int v_n, .ref h_mwholes, .ref h_mparts, .int v_has, .int v_known, .ref h_mknown31, .int v_many, .ref h_mprimes, .ref h_mrests, .ref h_mrows, .ref h_mdigits, .ref h_mz, .ref h_mout, .int v_printed, .ref h_mopen])), (h_mz, .inl (cT 0, 1100, .inl f_z))]) hD hS hA [0, 1] rfl
      refine va_calli (va_runV (As := [.int (22 * x1), .int (22 * x2)]) (rest := []) ⟨hx, hb, hml, hown, hts⟩ (cn_Model_order l D cT h_m h_mz h_mwholes h_mparts h_mknown31 h_mprimes h_mrests h_mrows h_mdigits h_mout h_mopen H.size u_4 v_n v_has v_known v_many v_printed f_z (22 * x1) (22 * x2) _ hw) (gv_ 2 q_727 q_9 q_724 q_726 qs_34 (by decide +kernel) ⟨Nat.le_of_ble_eq_true rfl, Nat.le_of_ble_eq_true rfl⟩ hts) ⟨pre_blind, va_recv hK hPc (ci := 8) (q0 := 0) rfl rfl, fun U hU hW => ⟨rfl, pre_mk hU hW hPc hK hDc hN⟩⟩ rfl rfl hl.1 rfl (lv_room (Nat.le_of_ble_eq_true rfl)) dX8_compare_30 ⟨(Nat.zero_le _), (Nat.zero_le _)⟩) hS (fun q _ h => hFc q h) hFc (fun r_7 u9 t H locs ht hvm hw hB hz1 hk1 hS => ?_)
      obtain ⟨hP1, hD1⟩ := hB
      rw [ht] at hP1
      obtain ⟨hP, hD⟩ := va_join (wr := []) (w1 := [(h_m, .inr (8, [.int u_4, .int v_n, .ref h_mwholes, .ref h_mparts, .int v_has, .int v_known, .ref h_mknown31, .int v_many, .ref h_mprimes, .ref h_mrests, .ref h_mrows, .ref h_mdigits, .ref h_mz, .ref h_mout, .int v_printed, .ref h_mopen])), (h_mz, .inl (cT 0, 1100, .inl f_z))]) hP hD [0, 1] [] rfl rfl (by decide) (by decide) hk1 hFc hP1 hD1
      have hP := hP.sub (ws' := [(h_m, .inr (8, [.int u_4, .int v_n, .ref h_mwholes, .ref h_mparts, .int v_has, .int v_known, .ref h_mknown31, .int v_many, .ref h_mprimes, .ref h_mrests, .ref h_mrows, .ref h_mdigits, .ref h_mz, .ref h_mout, .int v_printed, .ref h_mopen])), (h_mz, .inl (cT 0, 1100, .inl f_z))]) [0, 1] rfl
      have hD := hD.sub (ws' := [(h_m, .inr (8, [.int u_4, .int v_n, .ref h_mwholes, .ref h_mparts, .int v_has, .int v_known, .ref h_mknown31, .int v_many, .ref h_mprimes, .ref h_mrests, .ref h_mrows, .ref h_mdigits, .ref h_mz, .ref h_mout, .int v_printed, .ref h_mopen])), (h_mz, .inl (cT 0, 1100, .inl f_z))]) [0, 1] (by decide) rfl
      clear hP1 hD1 hPc hDc hFc hk1 hz1 hvm ht
      try dsimp only at hw
      exact tw_Model_compare_33 C0 hA hret  _ _ _ _ _ hP hD hS (lv_sub hl [] rfl) hw
    · have hw := hw.2 c_6
      exact tw_Model_compare_16 C0 hA hret  _ _ _ _ hP hD hS (lv_sub hl [] rfl) hw
set_option maxHeartbeats 4000000 in
set_option maxRecDepth 100000 in
theorem cn_Model_compare (l : Launch) (D : va_G) (cT : Nat → ClassId) (h_m h_mz h_mwholes h_mparts h_mknown31 h_mprimes h_mrests h_mrows h_mdigits h_mout h_mopen : Nat) (sz : Nat) (v_thrown : Int32) (v_n : Int32) (v_has : Int32) (v_known : Int32) (v_many : Int32) (v_printed : Int32) (f_z : Nat → Int32) (x1 : Int32) (x2 : Int32) (post : Int32 → Int32 → Prop) (hw : wp_Model_compare post v_n v_has v_known v_many v_printed f_z x1 x2 v_thrown) : Met l yX8_compare wX8_compare ({ frames := 2, cells := 0, slots := 0, locals := 42 } : Room) (va_Pc [.ref h_m, .int x1, .int x2] (pre_ D cT [(h_m, .inr (8, [.int v_thrown, .int v_n, .ref h_mwholes, .ref h_mparts, .int v_has, .int v_known, .ref h_mknown31, .int v_many, .ref h_mprimes, .ref h_mrests, .ref h_mrows, .ref h_mdigits, .ref h_mz, .ref h_mout, .int v_printed, .ref h_mopen])), (h_mz, .inl (cT 0, 1100, .inl f_z))] sz)) (va_Qi (fun (r : Int32) (u : Int32) => post r u) (fun u t => va_P D vwCl [(h_m, .inr (8, [.int u, .int v_n, .ref h_mwholes, .ref h_mparts, .int v_has, .int v_known, .ref h_mknown31, .int v_many, .ref h_mprimes, .ref h_mrests, .ref h_mrows, .ref h_mdigits, .ref h_mz, .ref h_mout, .int v_printed, .ref h_mopen])), (h_mz, .inl (cT 0, 1100, .inl f_z))] t.heap ∧ va_D (va_A [(h_m, .inr (8, [.int v_thrown, .int v_n, .ref h_mwholes, .ref h_mparts, .int v_has, .int v_known, .ref h_mknown31, .int v_many, .ref h_mprimes, .ref h_mrests, .ref h_mrows, .ref h_mdigits, .ref h_mz, .ref h_mout, .int v_printed, .ref h_mopen])), (h_mz, .inl (cT 0, 1100, .inl f_z))] sz) [(h_m, .inr (8, [.int u, .int v_n, .ref h_mwholes, .ref h_mparts, .int v_has, .int v_known, .ref h_mknown31, .int v_many, .ref h_mprimes, .ref h_mrests, .ref h_mrows, .ref h_mdigits, .ref h_mz, .ref h_mout, .int v_printed, .ref h_mopen])), (h_mz, .inl (cT 0, 1100, .inl f_z))]) (va_A [(h_m, .inr (8, [.int v_thrown, .int v_n, .ref h_mwholes, .ref h_mparts, .int v_has, .int v_known, .ref h_mknown31, .int v_many, .ref h_mprimes, .ref h_mrests, .ref h_mrows, .ref h_mdigits, .ref h_mz, .ref h_mout, .int v_printed, .ref h_mopen])), (h_mz, .inl (cT 0, 1100, .inl f_z))] sz)) 0 0 (va_A [(h_m, .inr (8, [.int v_thrown, .int v_n, .ref h_mwholes, .ref h_mparts, .int v_has, .int v_known, .ref h_mknown31, .int v_many, .ref h_mprimes, .ref h_mrests, .ref h_mrows, .ref h_mdigits, .ref h_mz, .ref h_mout, .int v_printed, .ref h_mopen])), (h_mz, .inl (cT 0, 1100, .inl f_z))] sz) := by
  refine Met.ofW (cc := cX8_compare) (maxL := 3) (ret := (some .int)) (by decide) rfl ?_
  intro p e s m args below meth c s₁ B hml hv
  obtain ⟨rfl, hsz, hP, hK, hD0, hN⟩ := hv
  have hx := B.exec
  have hb := B.bytes
  have hr := B.returns
  have hts : ∀ w ∈ WG, w.before _ s = true := fun w h => atoms_spec (ws := wX8_compare) B.pre w (List.mem_cons_of_mem _ h)
  have hown : s.vm.findClass RX8 = some m.cls := findClass_of_methodNamed B.named
  have hlocks := B.notSynchronized
  subst hsz
  have hD := hD0.self (sz := s.heap.size)
  generalize hAe : va_A [(h_m, .inr (8, [.int v_thrown, .int v_n, .ref h_mwholes, .ref h_mparts, .int v_has, .int v_known, .ref h_mknown31, .int v_many, .ref h_mprimes, .ref h_mrests, .ref h_mrows, .ref h_mdigits, .ref h_mz, .ref h_mout, .int v_printed, .ref h_mopen])), (h_mz, .inl (cT 0, 1100, .inl f_z))] s.heap.size = A at hD ⊢
  have hA : ∀ q : Nat, s.heap.size ≤ q → A q := fun q h => by rw [← hAe]; exact Or.inr h
  have hS : va_S A s.heap s.heap [] := va_S.rf
  have hl := lv_entry ([.ref h_m, .int x1, .int x2]) (n := 3) (Nat.le_of_ble_eq_true rfl)
  rw [lg_entry_eq]
  generalize (lg_sl ([.ref h_m, .int x1, .int x2]) ++ List.replicate (3 - (lg_sl ([.ref h_m, .int x1, .int x2])).length) Slot.unset).toArray = ls at hl ⊢
  refine tw_Model_compare (Q := MQ below _ _ s 0 0 A) ⟨⟨hx, hb, hml, hown, hts⟩, hK, hN⟩ hA (fun r v_thrown H locs pc ls hp hP hD hS hd => W.iret (v := r) hx hb hr (fun t ht hW => ⟨⟨r, (v_thrown), rfl, hp, by rw [ht]; exact hP, hD⟩, hS.F ht⟩) hS.2.2 hd) _ _ _ _ _ _ hP hD hS hl hw
end
def wp_Model_billionths_26 (post : Int32 → Int32 → (Nat → Int32) → Prop) (v_n : Int32) (v_has : Int32) (v_known : Int32) (v_many : Int32) (v_printed : Int32)  : Nat → Int64 → Int32 → Int32 → (Nat → Int32) → Prop
  | 0 => fun _ _ _ _ => False
  | n + 1 => fun x2 x4 v_thrown f_z => ((22 ≤ x4 → (wp_Model_divide (fun u_6 => (vp_in 990 1100 ∧ ((vp_in 991 1100 ∧ (post ((u_6 (990 : Int32).toNatClampNeg) ||| ((u_6 (991 : Int32).toNatClampNeg) <<< (24 &&& 31))) v_thrown u_6))))) v_thrown v_n v_has v_known v_many v_printed 902 880 f_z)) ∧ (¬ 22 ≤ x4 → ((vp_in (902 + x4) 1100 ∧ (∀ x2_10 : Int64, x2_10 = x2 + (1000000000 * ((f_z (902 + x4).toNatClampNeg).toInt64)) → (vp_in (902 + x4) 1100 ∧ (∀ x2_12 : Int64, x2_12 = x2_10 >>> ((24 : Int32).toInt64 &&& 63) → ∀ x4_13 : Int32, x4_13 = x4 + 1 → wp_Model_billionths_26 post v_n v_has v_known v_many v_printed n x2_12 x4_13 v_thrown (upd f_z (902 + x4).toNatClampNeg ((x2_10 &&& 16777215).toInt32)))))))))
def wp_Model_billionths (post : Int32 → Int32 → (Nat → Int32) → Prop) (v_n : Int32) (v_has : Int32) (v_known : Int32) (v_many : Int32) (v_printed : Int32)  (x1 : Int32) (v_thrown : Int32) (f_z : Nat → Int32) : Prop := wp_Model_noLikelihood (fun r_2 u_1 => ((r_2 = 0 → (wp_Model_copy (fun u_4 => ∃ k9, wp_Model_billionths_26 post v_n v_has v_known v_many v_printed k9 0 0 u_1 u_4) u_1 v_n v_has v_known v_many v_printed 902 (22 * x1) f_z)) ∧ (¬ r_2 = 0 → (post (-1) u_1 f_z)))) v_n v_has v_known v_many v_printed x1 v_thrown
section
variable {p : Program} {l : Launch} {e : Env} {s : State} {m : MethodId} {args : Array Value} {below : List Frame} {meth : Method} {c : Code} {Q : State → Prop} {A : Nat → Prop} {D : va_G} {cT : Nat → ClassId}
set_option maxHeartbeats 4000000 in
set_option maxRecDepth 100000 in
theorem tw_Model_billionths_26 {post : Int32 → Int32 → (Nat → Int32) → Prop} {h_m h_mz h_mwholes h_mparts h_mknown31 h_mprimes h_mrests h_mrows h_mdigits h_mout h_mopen : Nat} {v_n : Int32} {v_has : Int32} {v_known : Int32} {v_many : Int32} {v_printed : Int32}  (C0 : cx RX8 cX8_billionths 5 D cT p s m c args) (hA : ∀ q, s.heap.size ≤ q → A q) (hret : ∀ (r : Int32) (v_thrown : Int32) (f_z : Nat → Int32) (H : Heap) (locs : List Loc) (pc : Nat) (ls : Array Slot), post r v_thrown f_z → va_P D vwCl [(h_m, .inr (8, [.int v_thrown, .int v_n, .ref h_mwholes, .ref h_mparts, .int v_has, .int v_known, .ref h_mknown31, .int v_many, .ref h_mprimes, .ref h_mrests, .ref h_mrows, .ref h_mdigits, .ref h_mz, .ref h_mout, .int v_printed, .ref h_mopen])), (h_mz, .inl (cT 0, 1100, .inl f_z))] H → va_D A [(h_m, .inr (8, [.int v_thrown, .int v_n, .ref h_mwholes, .ref h_mparts, .int v_has, .int v_known, .ref h_mknown31, .int v_many, .ref h_mprimes, .ref h_mrests, .ref h_mrows, .ref h_mdigits, .ref h_mz, .ref h_mout, .int v_printed, .ref h_mopen])), (h_mz, .inl (cT 0, 1100, .inl f_z))] → va_S A s.heap H locs → decode cX8_billionths pc = .ok (.ireturn, 1) → W p l e ({ frames := 2, cells := 0, slots := 0, locals := 51 } : Room) s m args below meth c H locs 0 0 Q (F0 m pc ls [.int r]))  : ∀ (n : Nat) (x2 : Int64) (x4 : Int32) (v_thrown : Int32) (f_z : Nat → Int32) (H : Heap) (locs : List Loc) (ls : Array Slot), va_P D vwCl [(h_m, .inr (8, [.int v_thrown, .int v_n, .ref h_mwholes, .ref h_mparts, .int v_has, .int v_known, .ref h_mknown31, .int v_many, .ref h_mprimes, .ref h_mrests, .ref h_mrows, .ref h_mdigits, .ref h_mz, .ref h_mout, .int v_printed, .ref h_mopen])), (h_mz, .inl (cT 0, 1100, .inl f_z))] H → va_D A [(h_m, .inr (8, [.int v_thrown, .int v_n, .ref h_mwholes, .ref h_mparts, .int v_has, .int v_known, .ref h_mknown31, .int v_many, .ref h_mprimes, .ref h_mrests, .ref h_mrows, .ref h_mdigits, .ref h_mz, .ref h_mout, .int v_printed, .ref h_mopen])), (h_mz, .inl (cT 0, 1100, .inl f_z))] → va_S A s.heap H locs → lv_has ls 5 [(0, .ref h_m), (2, .long x2), (4, .int x4)] → wp_Model_billionths_26 post v_n v_has v_known v_many v_printed n x2 x4 v_thrown f_z → W p l e ({ frames := 2, cells := 0, slots := 0, locals := 51 } : Room) s m args below meth c H locs 0 0 Q (F0 m 26 ls []) := by
  obtain ⟨⟨hx, hb, hml, hown, hts⟩, hK, hN⟩ := id C0
  intro n
  induction n with
  | zero => intro x2 x4 v_thrown f_z H locs ls hP hD hS hl hw; exact hw.elim
  | succ n ih =>
    intro x2 x4 v_thrown f_z H locs ls hP hD hS hl hw
    unfold wp_Model_billionths_26 at hw
    refine lv_iload hx hb dX8_billionths_26 (lv_at hl 2 rfl) ?_
    refine lv_bipush (v := 22) hx hb dX8_billionths_28 (by decide) ?_
    refine lv_icmp_ge (tgt := 80) hx hb dX8_billionths_30 (by decide) (fun c_5 => ?_) (fun c_5 => ?_)
    · have hw := hw.1 c_5
      refine lv_aload_n hx hb dX8_billionths_80 rfl (lv_at hl 0 rfl) ?_
      refine lv_sipush (v := 902) hx hb dX8_billionths_81 (by decide) ?_
      refine lv_sipush (v := 880) hx hb dX8_billionths_84 (by decide) ?_
      have hPc := hP.sub (ws' := [(h_m, .inr (8, [.int v_thrown, .int v_n, .ref h_mwholes, .ref h_mparts, .int v_has, .int v_known, .ref h_mknown31, .int v_many, .ref h_mprimes, .ref h_mrests, .ref h_mrows, .ref h_mdigits, .ref h_mz, .ref h_mout, .int v_printed, .ref h_mopen])), (h_mz, .inl (cT 0, 1100, .inl f_z))]) [0, 1] rfl
      have hDc := hD.sub (ws' := [(h_m, .inr (8, [.int v_thrown, .int v_n, .ref h_mwholes, .ref h_mparts, .int v_has, .int v_known, .ref h_mknown31, .int v_many, .ref h_mprimes, .ref h_mrests, .ref h_mrows, .ref h_mdigits, .ref h_mz, .ref h_mout, .int v_printed, .ref h_mopen])), (h_mz, .inl (cT 0, 1100, .inl f_z))]) [0, 1] (by decide) rfl
      have hFc := va_free (wc := [(h_m, .inr (8, [.int v_thrown, .int v_n, .ref h_mwholes, .ref h_mparts, .int v_has, .int v_known, .ref h_mknown31, .int v_many, .ref h_mprimes, .ref h_mrests, .ref h_mrows, .ref h_mdigits, .ref h_mz, .ref h_mout, .int v_printed, .ref h_mopen])), (h_mz, .inl (cT 0, 1100, .inl f_z))]) hD hS hA [0, 1] rfl
      refine va_callv (va_runV (As := [.int 902, .int 880]) (rest := []) ⟨hx, hb, hml, hown, hts⟩ (cn_Model_divide l D cT h_m h_mz h_mwholes h_mparts h_mknown31 h_mprimes h_mrests h_mrows h_mdigits h_mout h_mopen H.size v_thrown v_n v_has v_known v_many v_printed f_z 902 880 _ hw) (gv_ 2 q_722 q_9 q_719 q_721 qs_33 (by decide +kernel) ⟨Nat.le_of_ble_eq_true rfl, Nat.le_of_ble_eq_true rfl⟩ hts) ⟨pre_blind, va_recv hK hPc (ci := 8) (q0 := 0) rfl rfl, fun U hU hW => ⟨rfl, pre_mk hU hW hPc hK hDc hN⟩⟩ rfl rfl hl.1 rfl (lv_room (Nat.le_of_ble_eq_true rfl)) dX8_billionths_87 ⟨(Nat.zero_le _), (Nat.zero_le _)⟩) hS (fun q _ h => hFc q h) hFc (fun u9 t H locs ht hvm hw hB hz1 hk1 hS => ?_)
      obtain ⟨u_6, rfl⟩ : ∃ z, z = u9 := ⟨_, rfl⟩
      obtain ⟨hP1, hD1⟩ := hB
      rw [ht] at hP1
      obtain ⟨hP, hD⟩ := va_join (wr := []) (w1 := [(h_m, .inr (8, [.int v_thrown, .int v_n, .ref h_mwholes, .ref h_mparts, .int v_has, .int v_known, .ref h_mknown31, .int v_many, .ref h_mprimes, .ref h_mrests, .ref h_mrows, .ref h_mdigits, .ref h_mz, .ref h_mout, .int v_printed, .ref h_mopen])), (h_mz, .inl (cT 0, 1100, .inl u_6))]) hP hD [0, 1] [] rfl rfl (by decide) (by decide) hk1 hFc hP1 hD1
      have hP := hP.sub (ws' := [(h_m, .inr (8, [.int v_thrown, .int v_n, .ref h_mwholes, .ref h_mparts, .int v_has, .int v_known, .ref h_mknown31, .int v_many, .ref h_mprimes, .ref h_mrests, .ref h_mrows, .ref h_mdigits, .ref h_mz, .ref h_mout, .int v_printed, .ref h_mopen])), (h_mz, .inl (cT 0, 1100, .inl u_6))]) [0, 1] rfl
      have hD := hD.sub (ws' := [(h_m, .inr (8, [.int v_thrown, .int v_n, .ref h_mwholes, .ref h_mparts, .int v_has, .int v_known, .ref h_mknown31, .int v_many, .ref h_mprimes, .ref h_mrests, .ref h_mrows, .ref h_mdigits, .ref h_mz, .ref h_mout, .int v_printed, .ref h_mopen])), (h_mz, .inl (cT 0, 1100, .inl u_6))]) [0, 1] (by decide) rfl
      clear hP1 hD1 hPc hDc hFc hk1 hz1 hvm ht
      try dsimp only at hw
      refine lv_aload_n hx hb dX8_billionths_90 rfl (lv_at hl 0 rfl) ?_
      refine va_get (D := D) (ci := 8) (v := .ref h_mz) (C := RX8) (T := TX8) (N := 16) hx hb hts inX8 hown hK hP 0 rfl rfl 12 (by decide) (hts _ q_595) (fun _ h9 => h9) rfl dX8_billionths_91 ?_
      refine lv_sipush (v := 990) hx hb dX8_billionths_94 (by decide) ?_
      obtain ⟨h_7, hw⟩ := hw
      refine va_iald hx hb hK hP 1 0 rfl rfl h_7 dX8_billionths_97 ?_
      refine lv_aload_n hx hb dX8_billionths_98 rfl (lv_at hl 0 rfl) ?_
      refine va_get (D := D) (ci := 8) (v := .ref h_mz) (C := RX8) (T := TX8) (N := 16) hx hb hts inX8 hown hK hP 0 rfl rfl 12 (by decide) (hts _ q_595) (fun _ h9 => h9) rfl dX8_billionths_99 ?_
      refine lv_sipush (v := 991) hx hb dX8_billionths_102 (by decide) ?_
      obtain ⟨h_8, hw⟩ := hw
      refine va_iald hx hb hK hP 1 0 rfl rfl h_8 dX8_billionths_105 ?_
      refine lv_bipush (v := 24) hx hb dX8_billionths_106 (by decide) ?_
      refine lv_ishl hx hb dX8_billionths_108 ?_
      refine lv_ior hx hb dX8_billionths_109 ?_
      exact hret _ _ _ _ _ _ _ hw hP hD hS dX8_billionths_110
    · have hw := hw.2 c_5
      refine lv_lload_n hx hb dX8_billionths_33 rfl (lv_at hl 1 rfl) ?_
      refine lv_ldc2 (v := 1000000000) hx hb hown (hts _ q_745) dX8_billionths_34 ?_
      refine lv_aload_n hx hb dX8_billionths_37 rfl (lv_at hl 0 rfl) ?_
      refine va_get (D := D) (ci := 8) (v := .ref h_mz) (C := RX8) (T := TX8) (N := 16) hx hb hts inX8 hown hK hP 0 rfl rfl 12 (by decide) (hts _ q_595) (fun _ h9 => h9) rfl dX8_billionths_38 ?_
      refine lv_sipush (v := 902) hx hb dX8_billionths_41 (by decide) ?_
      refine lv_iload hx hb dX8_billionths_44 (lv_at hl 2 rfl) ?_
      refine lv_iadd hx hb dX8_billionths_46 ?_
      obtain ⟨h_9, hw⟩ := hw
      refine va_iald hx hb hK hP 1 0 rfl rfl h_9 dX8_billionths_47 ?_
      refine lv_i2l hx hb dX8_billionths_48 rfl ?_
      refine lv_lmul hx hb dX8_billionths_49 ?_
      refine lv_ladd hx hb dX8_billionths_50 ?_
      refine lv_topl (fun x2_10 ex2_10 => ?_)
      have hw := hw x2_10 ex2_10
      refine lv_lstore_n (lv' := [(2, .long x2_10), (0, .ref h_m), (4, .int x4)]) hx hb dX8_billionths_51 rfl hl (by decide) rfl (fun ls hl => ?_)
      refine lv_aload_n hx hb dX8_billionths_52 rfl (lv_at hl 1 rfl) ?_
      refine va_get (D := D) (ci := 8) (v := .ref h_mz) (C := RX8) (T := TX8) (N := 16) hx hb hts inX8 hown hK hP 0 rfl rfl 12 (by decide) (hts _ q_595) (fun _ h9 => h9) rfl dX8_billionths_53 ?_
      refine lv_sipush (v := 902) hx hb dX8_billionths_56 (by decide) ?_
      refine lv_iload hx hb dX8_billionths_59 (lv_at hl 2 rfl) ?_
      refine lv_iadd hx hb dX8_billionths_61 ?_
      refine lv_lload_n hx hb dX8_billionths_62 rfl (lv_at hl 0 rfl) ?_
      refine lv_ldc2 (v := 16777215) hx hb hown (hts _ q_698) dX8_billionths_63 ?_
      refine lv_land hx hb dX8_billionths_66 ?_
      refine lv_l2i hx hb dX8_billionths_67 rfl ?_
      obtain ⟨h_11, hw⟩ := hw
      refine va_iast hx hb hK hP hD hS 1 0 rfl rfl h_11 dX8_billionths_68 (fun H locs hP hD hS => ?_)
      have hP : va_P D vwCl [(h_m, .inr (8, [.int v_thrown, .int v_n, .ref h_mwholes, .ref h_mparts, .int v_has, .int v_known, .ref h_mknown31, .int v_many, .ref h_mprimes, .ref h_mrests, .ref h_mrows, .ref h_mdigits, .ref h_mz, .ref h_mout, .int v_printed, .ref h_mopen])), (h_mz, .inl (cT 0, 1100, .inl (upd f_z (902 + x4).toNatClampNeg ((x2_10 &&& 16777215).toInt32))))] H := hP
      have hD : va_D A [(h_m, .inr (8, [.int v_thrown, .int v_n, .ref h_mwholes, .ref h_mparts, .int v_has, .int v_known, .ref h_mknown31, .int v_many, .ref h_mprimes, .ref h_mrests, .ref h_mrows, .ref h_mdigits, .ref h_mz, .ref h_mout, .int v_printed, .ref h_mopen])), (h_mz, .inl (cT 0, 1100, .inl (upd f_z (902 + x4).toNatClampNeg ((x2_10 &&& 16777215).toInt32))))] := hD
      refine lv_lload_n hx hb dX8_billionths_69 rfl (lv_at hl 0 rfl) ?_
      refine lv_bipush (v := 24) hx hb dX8_billionths_70 (by decide) ?_
      refine lv_lshr hx hb dX8_billionths_72 rfl ?_
      refine lv_topl (fun x2_12 ex2_12 => ?_)
      have hw := hw x2_12 ex2_12
      refine lv_lstore_n (lv' := [(2, .long x2_12), (0, .ref h_m), (4, .int x4)]) hx hb dX8_billionths_73 rfl hl (by decide) rfl (fun ls hl => ?_)
      obtain ⟨x4_13, ex4_13⟩ : ∃ y : Int32, y = x4 + 1 := ⟨_, rfl⟩
      refine lv_iinc (v := x4_13) (lv' := [(4, .int x4_13), (2, .long x2_12), (0, .ref h_m)]) hx hb dX8_billionths_74 hl (k := 2) rfl (by rw [ex4_13]; rfl) (by decide) rfl (fun ls hl => ?_)
      have hw := hw x4_13 ex4_13
      refine lv_goto (tgt := 26) hx hb dX8_billionths_77 (by decide) ?_
      exact ih _ _ _ _ _ _ _ hP hD hS (lv_sub hl [2, 1, 0] rfl) hw
set_option maxHeartbeats 4000000 in
set_option maxRecDepth 100000 in
theorem tw_Model_billionths {post : Int32 → Int32 → (Nat → Int32) → Prop} {h_m h_mz h_mwholes h_mparts h_mknown31 h_mprimes h_mrests h_mrows h_mdigits h_mout h_mopen : Nat} {v_n : Int32} {v_has : Int32} {v_known : Int32} {v_many : Int32} {v_printed : Int32}  (C0 : cx RX8 cX8_billionths 5 D cT p s m c args) (hA : ∀ q, s.heap.size ≤ q → A q) (hret : ∀ (r : Int32) (v_thrown : Int32) (f_z : Nat → Int32) (H : Heap) (locs : List Loc) (pc : Nat) (ls : Array Slot), post r v_thrown f_z → va_P D vwCl [(h_m, .inr (8, [.int v_thrown, .int v_n, .ref h_mwholes, .ref h_mparts, .int v_has, .int v_known, .ref h_mknown31, .int v_many, .ref h_mprimes, .ref h_mrests, .ref h_mrows, .ref h_mdigits, .ref h_mz, .ref h_mout, .int v_printed, .ref h_mopen])), (h_mz, .inl (cT 0, 1100, .inl f_z))] H → va_D A [(h_m, .inr (8, [.int v_thrown, .int v_n, .ref h_mwholes, .ref h_mparts, .int v_has, .int v_known, .ref h_mknown31, .int v_many, .ref h_mprimes, .ref h_mrests, .ref h_mrows, .ref h_mdigits, .ref h_mz, .ref h_mout, .int v_printed, .ref h_mopen])), (h_mz, .inl (cT 0, 1100, .inl f_z))] → va_S A s.heap H locs → decode cX8_billionths pc = .ok (.ireturn, 1) → W p l e ({ frames := 2, cells := 0, slots := 0, locals := 51 } : Room) s m args below meth c H locs 0 0 Q (F0 m pc ls [.int r]))  : ∀ (x1 : Int32) (v_thrown : Int32) (f_z : Nat → Int32) (H : Heap) (locs : List Loc) (ls : Array Slot), va_P D vwCl [(h_m, .inr (8, [.int v_thrown, .int v_n, .ref h_mwholes, .ref h_mparts, .int v_has, .int v_known, .ref h_mknown31, .int v_many, .ref h_mprimes, .ref h_mrests, .ref h_mrows, .ref h_mdigits, .ref h_mz, .ref h_mout, .int v_printed, .ref h_mopen])), (h_mz, .inl (cT 0, 1100, .inl f_z))] H → va_D A [(h_m, .inr (8, [.int v_thrown, .int v_n, .ref h_mwholes, .ref h_mparts, .int v_has, .int v_known, .ref h_mknown31, .int v_many, .ref h_mprimes, .ref h_mrests, .ref h_mrows, .ref h_mdigits, .ref h_mz, .ref h_mout, .int v_printed, .ref h_mopen])), (h_mz, .inl (cT 0, 1100, .inl f_z))] → va_S A s.heap H locs → lv_has ls 5 [(0, .ref h_m), (1, .int x1)] → wp_Model_billionths post v_n v_has v_known v_many v_printed x1 v_thrown f_z → W p l e ({ frames := 2, cells := 0, slots := 0, locals := 51 } : Room) s m args below meth c H locs 0 0 Q (F0 m 0 ls []) := by
  obtain ⟨⟨hx, hb, hml, hown, hts⟩, hK, hN⟩ := id C0
  intro x1 v_thrown f_z H locs ls hP hD hS hl hw
  unfold wp_Model_billionths at hw
  refine lv_aload_n hx hb dX8_billionths_0 rfl (lv_at hl 0 rfl) ?_
  refine lv_iload_n hx hb dX8_billionths_1 rfl (lv_at hl 1 rfl) ?_
  have hPc := hP.sub (ws' := [(h_m, .inr (8, [.int v_thrown, .int v_n, .ref h_mwholes, .ref h_mparts, .int v_has, .int v_known, .ref h_mknown31, .int v_many, .ref h_mprimes, .ref h_mrests, .ref h_mrows, .ref h_mdigits, .ref h_mz, .ref h_mout, .int v_printed, .ref h_mopen]))]) [0] rfl
  have hDc := hD.sub (ws' := [(h_m, .inr (8, [.int v_thrown, .int v_n, .ref h_mwholes, .ref h_mparts, .int v_has, .int v_known, .ref h_mknown31, .int v_many, .ref h_mprimes, .ref h_mrests, .ref h_mrows, .ref h_mdigits, .ref h_mz, .ref h_mout, .int v_printed, .ref h_mopen]))]) [0] (by decide) rfl
  have hFc := va_free (wc := [(h_m, .inr (8, [.int v_thrown, .int v_n, .ref h_mwholes, .ref h_mparts, .int v_has, .int v_known, .ref h_mknown31, .int v_many, .ref h_mprimes, .ref h_mrests, .ref h_mrows, .ref h_mdigits, .ref h_mz, .ref h_mout, .int v_printed, .ref h_mopen]))]) hD hS hA [0] rfl
  refine va_calli (va_runV (As := [.int x1]) (rest := []) ⟨hx, hb, hml, hown, hts⟩ (cn_Model_noLikelihood l D cT h_m h_mwholes h_mparts h_mknown31 h_mprimes h_mrests h_mrows h_mdigits h_mz h_mout h_mopen H.size v_thrown v_n v_has v_known v_many v_printed x1 _ hw) (gv_ 1 q_706 q_9 q_703 q_705 qs_29 (by decide +kernel) ⟨Nat.le_of_ble_eq_true rfl, Nat.le_of_ble_eq_true rfl⟩ hts) ⟨pre_blind, va_recv hK hPc (ci := 8) (q0 := 0) rfl rfl, fun U hU hW => ⟨rfl, pre_mk hU hW hPc hK hDc hN⟩⟩ rfl rfl hl.1 rfl (lv_room (Nat.le_of_ble_eq_true rfl)) dX8_billionths_2 ⟨(Nat.zero_le _), (Nat.zero_le _)⟩) hS (fun q _ h => hFc q h) hFc (fun r_2 u9 t H locs ht hvm hw hB hz1 hk1 hS => ?_)
  obtain ⟨u_1, rfl⟩ : ∃ z, z = u9 := ⟨_, rfl⟩
  obtain ⟨hP1, hD1⟩ := hB
  rw [ht] at hP1
  obtain ⟨hP, hD⟩ := va_join (wr := [(h_mz, .inl (cT 0, 1100, .inl f_z))]) (w1 := [(h_m, .inr (8, [.int u_1, .int v_n, .ref h_mwholes, .ref h_mparts, .int v_has, .int v_known, .ref h_mknown31, .int v_many, .ref h_mprimes, .ref h_mrests, .ref h_mrows, .ref h_mdigits, .ref h_mz, .ref h_mout, .int v_printed, .ref h_mopen]))]) hP hD [0] [1] rfl rfl (by decide) (by decide) hk1 hFc hP1 hD1
  have hP := hP.sub (ws' := [(h_m, .inr (8, [.int u_1, .int v_n, .ref h_mwholes, .ref h_mparts, .int v_has, .int v_known, .ref h_mknown31, .int v_many, .ref h_mprimes, .ref h_mrests, .ref h_mrows, .ref h_mdigits, .ref h_mz, .ref h_mout, .int v_printed, .ref h_mopen])), (h_mz, .inl (cT 0, 1100, .inl f_z))]) [1, 0] rfl
  have hD := hD.sub (ws' := [(h_m, .inr (8, [.int u_1, .int v_n, .ref h_mwholes, .ref h_mparts, .int v_has, .int v_known, .ref h_mknown31, .int v_many, .ref h_mprimes, .ref h_mrests, .ref h_mrows, .ref h_mdigits, .ref h_mz, .ref h_mout, .int v_printed, .ref h_mopen])), (h_mz, .inl (cT 0, 1100, .inl f_z))]) [1, 0] (by decide) rfl
  clear hP1 hD1 hPc hDc hFc hk1 hz1 hvm ht
  try dsimp only at hw
  refine lv_if_eq (tgt := 10) hx hb dX8_billionths_5 (by decide) (fun c_3 => ?_) (fun c_3 => ?_)
  · have hw := hw.1 c_3
    refine lv_aload_n hx hb dX8_billionths_10 rfl (lv_at hl 0 rfl) ?_
    refine lv_sipush (v := 902) hx hb dX8_billionths_11 (by decide) ?_
    refine lv_bipush (v := 22) hx hb dX8_billionths_14 (by decide) ?_
    refine lv_iload_n hx hb dX8_billionths_16 rfl (lv_at hl 1 rfl) ?_
    refine lv_imul hx hb dX8_billionths_17 ?_
    have hPc := hP.sub (ws' := [(h_m, .inr (8, [.int u_1, .int v_n, .ref h_mwholes, .ref h_mparts, .int v_has, .int v_known, .ref h_mknown31, .int v_many, .ref h_mprimes, .ref h_mrests, .ref h_mrows, .ref h_mdigits, .ref h_mz, .ref h_mout, .int v_printed, .ref h_mopen])), (h_mz, .inl (cT 0, 1100, .inl f_z))]) [0, 1] rfl
    have hDc := hD.sub (ws' := [(h_m, .inr (8, [.int u_1, .int v_n, .ref h_mwholes, .ref h_mparts, .int v_has, .int v_known, .ref h_mknown31, .int v_many, .ref h_mprimes, .ref h_mrests, .ref h_mrows, .ref h_mdigits, .ref h_mz, .ref h_mout, .int v_printed, .ref h_mopen])), (h_mz, .inl (cT 0, 1100, .inl f_z))]) [0, 1] (by decide) rfl
    have hFc := va_free (wc := [(h_m, .inr (8, [.int u_1, .int v_n, .ref h_mwholes, .ref h_mparts, .int v_has, .int v_known, .ref h_mknown31, .int v_many, .ref h_mprimes, .ref h_mrests, .ref h_mrows, .ref h_mdigits, .ref h_mz, .ref h_mout, .int v_printed, .ref h_mopen])), (h_mz, .inl (cT 0, 1100, .inl f_z))]) hD hS hA [0, 1] rfl
    refine va_callv (va_runV (As := [.int 902, .int (22 * x1)]) (rest := []) ⟨hx, hb, hml, hown, hts⟩ (cn_Model_copy l D cT h_m h_mz h_mwholes h_mparts h_mknown31 h_mprimes h_mrests h_mrows h_mdigits h_mout h_mopen H.size u_1 v_n v_has v_known v_many v_printed f_z 902 (22 * x1) _ hw) (gv_ 2 q_714 q_9 q_711 q_713 qs_31 (by decide +kernel) ⟨Nat.le_of_ble_eq_true rfl, Nat.le_of_ble_eq_true rfl⟩ hts) ⟨pre_blind, va_recv hK hPc (ci := 8) (q0 := 0) rfl rfl, fun U hU hW => ⟨rfl, pre_mk hU hW hPc hK hDc hN⟩⟩ rfl rfl hl.1 rfl (lv_room (Nat.le_of_ble_eq_true rfl)) dX8_billionths_18 ⟨(Nat.zero_le _), (Nat.zero_le _)⟩) hS (fun q _ h => hFc q h) hFc (fun u9 t H locs ht hvm hw hB hz1 hk1 hS => ?_)
    obtain ⟨u_4, rfl⟩ : ∃ z, z = u9 := ⟨_, rfl⟩
    obtain ⟨hP1, hD1⟩ := hB
    rw [ht] at hP1
    obtain ⟨hP, hD⟩ := va_join (wr := []) (w1 := [(h_m, .inr (8, [.int u_1, .int v_n, .ref h_mwholes, .ref h_mparts, .int v_has, .int v_known, .ref h_mknown31, .int v_many, .ref h_mprimes, .ref h_mrests, .ref h_mrows, .ref h_mdigits, .ref h_mz, .ref h_mout, .int v_printed, .ref h_mopen])), (h_mz, .inl (cT 0, 1100, .inl u_4))]) hP hD [0, 1] [] rfl rfl (by decide) (by decide) hk1 hFc hP1 hD1
    have hP := hP.sub (ws' := [(h_m, .inr (8, [.int u_1, .int v_n, .ref h_mwholes, .ref h_mparts, .int v_has, .int v_known, .ref h_mknown31, .int v_many, .ref h_mprimes, .ref h_mrests, .ref h_mrows, .ref h_mdigits, .ref h_mz, .ref h_mout, .int v_printed, .ref h_mopen])), (h_mz, .inl (cT 0, 1100, .inl u_4))]) [0, 1] rfl
    have hD := hD.sub (ws' := [(h_m, .inr (8, [.int u_1, .int v_n, .ref h_mwholes, .ref h_mparts, .int v_has, .int v_known, .ref h_mknown31, .int v_many, .ref h_mprimes, .ref h_mrests, .ref h_mrows, .ref h_mdigits, .ref h_mz, .ref h_mout, .int v_printed, .ref h_mopen])), (h_mz, .inl (cT 0, 1100, .inl u_4))]) [0, 1] (by decide) rfl
    clear hP1 hD1 hPc hDc hFc hk1 hz1 hvm ht
    try dsimp only at hw
    refine lv_lconst (v := 0) hx hb dX8_billionths_21 (by decide) ?_
    refine lv_lstore_n (lv' := [(2, .long 0), (0, .ref h_m), (1, .int x1)]) hx hb dX8_billionths_22 rfl hl (by decide) rfl (fun ls hl => ?_)
    refine lv_iconst (v := 0) hx hb dX8_billionths_23 (by decide) ?_
    refine lv_istore (lv' := [(4, .int 0), (2, .long 0), (0, .ref h_m), (1, .int x1)]) hx hb dX8_billionths_24 hl (by decide) rfl (fun ls hl => ?_)
    obtain ⟨n9, hw⟩ := hw
    exact tw_Model_billionths_26 C0 hA hret  n9 _ _ _ _ _ _ _ hP hD hS (lv_sub hl [2, 1, 0] rfl) hw
  · have hw := hw.2 c_3
    refine lv_iconst (v := (-1)) hx hb dX8_billionths_8 (by decide) ?_
    exact hret _ _ _ _ _ _ _ hw hP hD hS dX8_billionths_9
set_option maxHeartbeats 4000000 in
set_option maxRecDepth 100000 in
theorem cn_Model_billionths (l : Launch) (D : va_G) (cT : Nat → ClassId) (h_m h_mz h_mwholes h_mparts h_mknown31 h_mprimes h_mrests h_mrows h_mdigits h_mout h_mopen : Nat) (sz : Nat) (v_thrown : Int32) (v_n : Int32) (v_has : Int32) (v_known : Int32) (v_many : Int32) (v_printed : Int32) (f_z : Nat → Int32) (x1 : Int32) (post : Int32 → Int32 → (Nat → Int32) → Prop) (hw : wp_Model_billionths post v_n v_has v_known v_many v_printed x1 v_thrown f_z) : Met l yX8_billionths wX8_billionths ({ frames := 2, cells := 0, slots := 0, locals := 51 } : Room) (va_Pc [.ref h_m, .int x1] (pre_ D cT [(h_m, .inr (8, [.int v_thrown, .int v_n, .ref h_mwholes, .ref h_mparts, .int v_has, .int v_known, .ref h_mknown31, .int v_many, .ref h_mprimes, .ref h_mrests, .ref h_mrows, .ref h_mdigits, .ref h_mz, .ref h_mout, .int v_printed, .ref h_mopen])), (h_mz, .inl (cT 0, 1100, .inl f_z))] sz)) (va_Qi (fun (r : Int32) (u : Int32 × (Nat → Int32)) => post r u.1 u.2) (fun u t => va_P D vwCl [(h_m, .inr (8, [.int u.1, .int v_n, .ref h_mwholes, .ref h_mparts, .int v_has, .int v_known, .ref h_mknown31, .int v_many, .ref h_mprimes, .ref h_mrests, .ref h_mrows, .ref h_mdigits, .ref h_mz, .ref h_mout, .int v_printed, .ref h_mopen])), (h_mz, .inl (cT 0, 1100, .inl u.2))] t.heap ∧ va_D (va_A [(h_m, .inr (8, [.int v_thrown, .int v_n, .ref h_mwholes, .ref h_mparts, .int v_has, .int v_known, .ref h_mknown31, .int v_many, .ref h_mprimes, .ref h_mrests, .ref h_mrows, .ref h_mdigits, .ref h_mz, .ref h_mout, .int v_printed, .ref h_mopen])), (h_mz, .inl (cT 0, 1100, .inl f_z))] sz) [(h_m, .inr (8, [.int u.1, .int v_n, .ref h_mwholes, .ref h_mparts, .int v_has, .int v_known, .ref h_mknown31, .int v_many, .ref h_mprimes, .ref h_mrests, .ref h_mrows, .ref h_mdigits, .ref h_mz, .ref h_mout, .int v_printed, .ref h_mopen])), (h_mz, .inl (cT 0, 1100, .inl u.2))]) (va_A [(h_m, .inr (8, [.int v_thrown, .int v_n, .ref h_mwholes, .ref h_mparts, .int v_has, .int v_known, .ref h_mknown31, .int v_many, .ref h_mprimes, .ref h_mrests, .ref h_mrows, .ref h_mdigits, .ref h_mz, .ref h_mout, .int v_printed, .ref h_mopen])), (h_mz, .inl (cT 0, 1100, .inl f_z))] sz)) 0 0 (va_A [(h_m, .inr (8, [.int v_thrown, .int v_n, .ref h_mwholes, .ref h_mparts, .int v_has, .int v_known, .ref h_mknown31, .int v_many, .ref h_mprimes, .ref h_mrests, .ref h_mrows, .ref h_mdigits, .ref h_mz, .ref h_mout, .int v_printed, .ref h_mopen])), (h_mz, .inl (cT 0, 1100, .inl f_z))] sz) := by
  refine Met.ofW (cc := cX8_billionths) (maxL := 5) (ret := (some .int)) (by decide) rfl ?_
  intro p e s m args below meth c s₁ B hml hv
  obtain ⟨rfl, hsz, hP, hK, hD0, hN⟩ := hv
  have hx := B.exec
  have hb := B.bytes
  have hr := B.returns
  have hts : ∀ w ∈ WG, w.before _ s = true := fun w h => atoms_spec (ws := wX8_billionths) B.pre w (List.mem_cons_of_mem _ h)
  have hown : s.vm.findClass RX8 = some m.cls := findClass_of_methodNamed B.named
  have hlocks := B.notSynchronized
  subst hsz
  have hD := hD0.self (sz := s.heap.size)
  generalize hAe : va_A [(h_m, .inr (8, [.int v_thrown, .int v_n, .ref h_mwholes, .ref h_mparts, .int v_has, .int v_known, .ref h_mknown31, .int v_many, .ref h_mprimes, .ref h_mrests, .ref h_mrows, .ref h_mdigits, .ref h_mz, .ref h_mout, .int v_printed, .ref h_mopen])), (h_mz, .inl (cT 0, 1100, .inl f_z))] s.heap.size = A at hD ⊢
  have hA : ∀ q : Nat, s.heap.size ≤ q → A q := fun q h => by rw [← hAe]; exact Or.inr h
  have hS : va_S A s.heap s.heap [] := va_S.rf
  have hl := lv_entry ([.ref h_m, .int x1]) (n := 5) (Nat.le_of_ble_eq_true rfl)
  rw [lg_entry_eq]
  generalize (lg_sl ([.ref h_m, .int x1]) ++ List.replicate (5 - (lg_sl ([.ref h_m, .int x1])).length) Slot.unset).toArray = ls at hl ⊢
  refine tw_Model_billionths (Q := MQ below _ _ s 0 0 A) ⟨⟨hx, hb, hml, hown, hts⟩, hK, hN⟩ hA (fun r v_thrown f_z H locs pc ls hp hP hD hS hd => W.iret (v := r) hx hb hr (fun t ht hW => ⟨⟨r, (v_thrown, f_z), rfl, hp, by rw [ht]; exact hP, hD⟩, hS.F ht⟩) hS.2.2 hd) _ _ _ _ _ _ hP hD hS hl hw
end
def wp_Model_places_17 (post : Int32 → Int32 → (Nat → Int32) → Prop) (v_n : Int32) (v_has : Int32) (v_known : Int32) (v_many : Int32) (v_printed : Int32)  (v_thrown : Int32) (f_z : Nat → Int32) : Prop := post (-1) v_thrown f_z
def wp_Model_places_77 (post : Int32 → Int32 → (Nat → Int32) → Prop) (v_n : Int32) (v_has : Int32) (v_known : Int32) (v_many : Int32) (v_printed : Int32)  (x4 : Int32) (v_thrown : Int32) (f_z : Nat → Int32) : Prop := post (x4 + 1) v_thrown f_z
def wp_Model_places_43 (post : Int32 → Int32 → (Nat → Int32) → Prop) (v_n : Int32) (v_has : Int32) (v_known : Int32) (v_many : Int32) (v_printed : Int32)  : Nat → Int32 → Int32 → Int32 → (Nat → Int32) → Prop
  | 0 => fun _ _ _ _ => False
  | n + 1 => fun x3 x4 v_thrown f_z => ((x4 < 0 → (wp_Model_places_77 post v_n v_has v_known v_many v_printed x4 v_thrown f_z)) ∧ (¬ x4 < 0 → ((vp_in (x3 + (x4 / 24)) 1100 ∧ ((((((f_z (x3 + (x4 / 24)).toNatClampNeg) >>> ((x4 - x4 / 24 * 24) &&& 31)) &&& 1) = 0 → (∀ x4_11 : Int32, x4_11 = x4 + (-1) → wp_Model_places_43 post v_n v_has v_known v_many v_printed n x3 x4_11 v_thrown f_z)) ∧ (¬ (((f_z (x3 + (x4 / 24)).toNatClampNeg) >>> ((x4 - x4 / 24 * 24) &&& 31)) &&& 1) = 0 → (wp_Model_places_77 post v_n v_has v_known v_many v_printed x4 v_thrown f_z))))))))
def wp_Model_places_37 (post : Int32 → Int32 → (Nat → Int32) → Prop) (v_n : Int32) (v_has : Int32) (v_known : Int32) (v_many : Int32) (v_printed : Int32)  (y0 : Int32) (v_thrown : Int32) (f_z : Nat → Int32) : Prop := ∃ k9, wp_Model_places_43 post v_n v_has v_known v_many v_printed k9 y0 527 v_thrown f_z
def wp_Model_places (post : Int32 → Int32 → (Nat → Int32) → Prop) (v_n : Int32) (v_has : Int32) (v_known : Int32) (v_many : Int32) (v_printed : Int32)  (x1 : Int32) (x2 : Int32) (v_thrown : Int32) (f_z : Nat → Int32) : Prop := wp_Model_noLikelihood (fun r_2 u_1 => ((r_2 = 0 → (((x2 < 0 → (wp_Model_places_17 post v_n v_has v_known v_many v_printed u_1 f_z)) ∧ (¬ x2 < 0 → (((x2 ≤ 1 → (wp_Model_reduce (fun u_6 => ((x2 = 0 → (wp_Model_places_37 post v_n v_has v_known v_many v_printed 902 u_1 u_6)) ∧ (¬ x2 = 0 → (wp_Model_places_37 post v_n v_has v_known v_many v_printed 924 u_1 u_6)))) u_1 v_n v_has v_known v_many v_printed x1 f_z)) ∧ (¬ x2 ≤ 1 → (wp_Model_places_17 post v_n v_has v_known v_many v_printed u_1 f_z)))))))) ∧ (¬ r_2 = 0 → (wp_Model_places_17 post v_n v_has v_known v_many v_printed u_1 f_z)))) v_n v_has v_known v_many v_printed x1 v_thrown
section
variable {p : Program} {l : Launch} {e : Env} {s : State} {m : MethodId} {args : Array Value} {below : List Frame} {meth : Method} {c : Code} {Q : State → Prop} {A : Nat → Prop} {D : va_G} {cT : Nat → ClassId}
set_option maxHeartbeats 4000000 in
set_option maxRecDepth 100000 in
theorem tw_Model_places_17 {post : Int32 → Int32 → (Nat → Int32) → Prop} {h_m h_mz h_mwholes h_mparts h_mknown31 h_mprimes h_mrests h_mrows h_mdigits h_mout h_mopen : Nat} {v_n : Int32} {v_has : Int32} {v_known : Int32} {v_many : Int32} {v_printed : Int32}  (C0 : cx RX8 cX8_places 5 D cT p s m c args) (hA : ∀ q, s.heap.size ≤ q → A q) (hret : ∀ (r : Int32) (v_thrown : Int32) (f_z : Nat → Int32) (H : Heap) (locs : List Loc) (pc : Nat) (ls : Array Slot), post r v_thrown f_z → va_P D vwCl [(h_m, .inr (8, [.int v_thrown, .int v_n, .ref h_mwholes, .ref h_mparts, .int v_has, .int v_known, .ref h_mknown31, .int v_many, .ref h_mprimes, .ref h_mrests, .ref h_mrows, .ref h_mdigits, .ref h_mz, .ref h_mout, .int v_printed, .ref h_mopen])), (h_mz, .inl (cT 0, 1100, .inl f_z))] H → va_D A [(h_m, .inr (8, [.int v_thrown, .int v_n, .ref h_mwholes, .ref h_mparts, .int v_has, .int v_known, .ref h_mknown31, .int v_many, .ref h_mprimes, .ref h_mrests, .ref h_mrows, .ref h_mdigits, .ref h_mz, .ref h_mout, .int v_printed, .ref h_mopen])), (h_mz, .inl (cT 0, 1100, .inl f_z))] → va_S A s.heap H locs → decode cX8_places pc = .ok (.ireturn, 1) → W p l e ({ frames := 3, cells := 0, slots := 0, locals := 72 } : Room) s m args below meth c H locs 0 0 Q (F0 m pc ls [.int r]))  : ∀ (v_thrown : Int32) (f_z : Nat → Int32) (H : Heap) (locs : List Loc) (ls : Array Slot), va_P D vwCl [(h_m, .inr (8, [.int v_thrown, .int v_n, .ref h_mwholes, .ref h_mparts, .int v_has, .int v_known, .ref h_mknown31, .int v_many, .ref h_mprimes, .ref h_mrests, .ref h_mrows, .ref h_mdigits, .ref h_mz, .ref h_mout, .int v_printed, .ref h_mopen])), (h_mz, .inl (cT 0, 1100, .inl f_z))] H → va_D A [(h_m, .inr (8, [.int v_thrown, .int v_n, .ref h_mwholes, .ref h_mparts, .int v_has, .int v_known, .ref h_mknown31, .int v_many, .ref h_mprimes, .ref h_mrests, .ref h_mrows, .ref h_mdigits, .ref h_mz, .ref h_mout, .int v_printed, .ref h_mopen])), (h_mz, .inl (cT 0, 1100, .inl f_z))] → va_S A s.heap H locs → lv_has ls 5 [] → wp_Model_places_17 post v_n v_has v_known v_many v_printed v_thrown f_z → W p l e ({ frames := 3, cells := 0, slots := 0, locals := 72 } : Room) s m args below meth c H locs 0 0 Q (F0 m 17 ls []) := by
  obtain ⟨⟨hx, hb, hml, hown, hts⟩, hK, hN⟩ := id C0
  intro v_thrown f_z H locs ls hP hD hS hl hw
  unfold wp_Model_places_17 at hw
  refine lv_iconst (v := (-1)) hx hb dX8_places_17 (by decide) ?_
  exact hret _ _ _ _ _ _ _ hw hP hD hS dX8_places_18
set_option maxHeartbeats 4000000 in
set_option maxRecDepth 100000 in
theorem tw_Model_places_77 {post : Int32 → Int32 → (Nat → Int32) → Prop} {h_m h_mz h_mwholes h_mparts h_mknown31 h_mprimes h_mrests h_mrows h_mdigits h_mout h_mopen : Nat} {v_n : Int32} {v_has : Int32} {v_known : Int32} {v_many : Int32} {v_printed : Int32}  (C0 : cx RX8 cX8_places 5 D cT p s m c args) (hA : ∀ q, s.heap.size ≤ q → A q) (hret : ∀ (r : Int32) (v_thrown : Int32) (f_z : Nat → Int32) (H : Heap) (locs : List Loc) (pc : Nat) (ls : Array Slot), post r v_thrown f_z → va_P D vwCl [(h_m, .inr (8, [.int v_thrown, .int v_n, .ref h_mwholes, .ref h_mparts, .int v_has, .int v_known, .ref h_mknown31, .int v_many, .ref h_mprimes, .ref h_mrests, .ref h_mrows, .ref h_mdigits, .ref h_mz, .ref h_mout, .int v_printed, .ref h_mopen])), (h_mz, .inl (cT 0, 1100, .inl f_z))] H → va_D A [(h_m, .inr (8, [.int v_thrown, .int v_n, .ref h_mwholes, .ref h_mparts, .int v_has, .int v_known, .ref h_mknown31, .int v_many, .ref h_mprimes, .ref h_mrests, .ref h_mrows, .ref h_mdigits, .ref h_mz, .ref h_mout, .int v_printed, .ref h_mopen])), (h_mz, .inl (cT 0, 1100, .inl f_z))] → va_S A s.heap H locs → decode cX8_places pc = .ok (.ireturn, 1) → W p l e ({ frames := 3, cells := 0, slots := 0, locals := 72 } : Room) s m args below meth c H locs 0 0 Q (F0 m pc ls [.int r]))  : ∀ (x4 : Int32) (v_thrown : Int32) (f_z : Nat → Int32) (H : Heap) (locs : List Loc) (ls : Array Slot), va_P D vwCl [(h_m, .inr (8, [.int v_thrown, .int v_n, .ref h_mwholes, .ref h_mparts, .int v_has, .int v_known, .ref h_mknown31, .int v_many, .ref h_mprimes, .ref h_mrests, .ref h_mrows, .ref h_mdigits, .ref h_mz, .ref h_mout, .int v_printed, .ref h_mopen])), (h_mz, .inl (cT 0, 1100, .inl f_z))] H → va_D A [(h_m, .inr (8, [.int v_thrown, .int v_n, .ref h_mwholes, .ref h_mparts, .int v_has, .int v_known, .ref h_mknown31, .int v_many, .ref h_mprimes, .ref h_mrests, .ref h_mrows, .ref h_mdigits, .ref h_mz, .ref h_mout, .int v_printed, .ref h_mopen])), (h_mz, .inl (cT 0, 1100, .inl f_z))] → va_S A s.heap H locs → lv_has ls 5 [(4, .int x4)] → wp_Model_places_77 post v_n v_has v_known v_many v_printed x4 v_thrown f_z → W p l e ({ frames := 3, cells := 0, slots := 0, locals := 72 } : Room) s m args below meth c H locs 0 0 Q (F0 m 77 ls []) := by
  obtain ⟨⟨hx, hb, hml, hown, hts⟩, hK, hN⟩ := id C0
  intro x4 v_thrown f_z H locs ls hP hD hS hl hw
  unfold wp_Model_places_77 at hw
  refine lv_iload hx hb dX8_places_77 (lv_at hl 0 rfl) ?_
  refine lv_iconst (v := 1) hx hb dX8_places_79 (by decide) ?_
  refine lv_iadd hx hb dX8_places_80 ?_
  exact hret _ _ _ _ _ _ _ hw hP hD hS dX8_places_81
set_option maxHeartbeats 4000000 in
set_option maxRecDepth 100000 in
theorem tw_Model_places_43 {post : Int32 → Int32 → (Nat → Int32) → Prop} {h_m h_mz h_mwholes h_mparts h_mknown31 h_mprimes h_mrests h_mrows h_mdigits h_mout h_mopen : Nat} {v_n : Int32} {v_has : Int32} {v_known : Int32} {v_many : Int32} {v_printed : Int32}  (C0 : cx RX8 cX8_places 5 D cT p s m c args) (hA : ∀ q, s.heap.size ≤ q → A q) (hret : ∀ (r : Int32) (v_thrown : Int32) (f_z : Nat → Int32) (H : Heap) (locs : List Loc) (pc : Nat) (ls : Array Slot), post r v_thrown f_z → va_P D vwCl [(h_m, .inr (8, [.int v_thrown, .int v_n, .ref h_mwholes, .ref h_mparts, .int v_has, .int v_known, .ref h_mknown31, .int v_many, .ref h_mprimes, .ref h_mrests, .ref h_mrows, .ref h_mdigits, .ref h_mz, .ref h_mout, .int v_printed, .ref h_mopen])), (h_mz, .inl (cT 0, 1100, .inl f_z))] H → va_D A [(h_m, .inr (8, [.int v_thrown, .int v_n, .ref h_mwholes, .ref h_mparts, .int v_has, .int v_known, .ref h_mknown31, .int v_many, .ref h_mprimes, .ref h_mrests, .ref h_mrows, .ref h_mdigits, .ref h_mz, .ref h_mout, .int v_printed, .ref h_mopen])), (h_mz, .inl (cT 0, 1100, .inl f_z))] → va_S A s.heap H locs → decode cX8_places pc = .ok (.ireturn, 1) → W p l e ({ frames := 3, cells := 0, slots := 0, locals := 72 } : Room) s m args below meth c H locs 0 0 Q (F0 m pc ls [.int r]))  : ∀ (n : Nat) (x3 : Int32) (x4 : Int32) (v_thrown : Int32) (f_z : Nat → Int32) (H : Heap) (locs : List Loc) (ls : Array Slot), va_P D vwCl [(h_m, .inr (8, [.int v_thrown, .int v_n, .ref h_mwholes, .ref h_mparts, .int v_has, .int v_known, .ref h_mknown31, .int v_many, .ref h_mprimes, .ref h_mrests, .ref h_mrows, .ref h_mdigits, .ref h_mz, .ref h_mout, .int v_printed, .ref h_mopen])), (h_mz, .inl (cT 0, 1100, .inl f_z))] H → va_D A [(h_m, .inr (8, [.int v_thrown, .int v_n, .ref h_mwholes, .ref h_mparts, .int v_has, .int v_known, .ref h_mknown31, .int v_many, .ref h_mprimes, .ref h_mrests, .ref h_mrows, .ref h_mdigits, .ref h_mz, .ref h_mout, .int v_printed, .ref h_mopen])), (h_mz, .inl (cT 0, 1100, .inl f_z))] → va_S A s.heap H locs → lv_has ls 5 [(0, .ref h_m), (3, .int x3), (4, .int x4)] → wp_Model_places_43 post v_n v_has v_known v_many v_printed n x3 x4 v_thrown f_z → W p l e ({ frames := 3, cells := 0, slots := 0, locals := 72 } : Room) s m args below meth c H locs 0 0 Q (F0 m 43 ls []) := by
  obtain ⟨⟨hx, hb, hml, hown, hts⟩, hK, hN⟩ := id C0
  intro n
  induction n with
  | zero => intro x3 x4 v_thrown f_z H locs ls hP hD hS hl hw; exact hw.elim
  | succ n ih =>
    intro x3 x4 v_thrown f_z H locs ls hP hD hS hl hw
    unfold wp_Model_places_43 at hw
    refine lv_iload hx hb dX8_places_43 (lv_at hl 2 rfl) ?_
    refine lv_if_lt (tgt := 77) hx hb dX8_places_45 (by decide) (fun c_8 => ?_) (fun c_8 => ?_)
    · have hw := hw.1 c_8
      exact tw_Model_places_77 C0 hA hret  _ _ _ _ _ _ hP hD hS (lv_sub hl [2] rfl) hw
    · have hw := hw.2 c_8
      refine lv_aload_n hx hb dX8_places_48 rfl (lv_at hl 0 rfl) ?_
      refine va_get (D := D) (ci := 8) (v := .ref h_mz) (C := RX8) (T := TX8) (N := 16) hx hb hts inX8 hown hK hP 0 rfl rfl 12 (by decide) (hts _ q_595) (fun _ h9 => h9) rfl dX8_places_49 ?_
      refine lv_iload_n hx hb dX8_places_52 rfl (lv_at hl 1 rfl) ?_
      refine lv_iload hx hb dX8_places_53 (lv_at hl 2 rfl) ?_
      refine lv_bipush (v := 24) hx hb dX8_places_55 (by decide) ?_
      refine lv_idiv hx hb dX8_places_57 (by decide) ?_
      refine lv_iadd hx hb dX8_places_58 ?_
      obtain ⟨h_9, hw⟩ := hw
      refine va_iald hx hb hK hP 1 0 rfl rfl h_9 dX8_places_59 ?_
      refine lv_iload hx hb dX8_places_60 (lv_at hl 2 rfl) ?_
      refine lv_bipush (v := 24) hx hb dX8_places_62 (by decide) ?_
      refine lv_irem hx hb dX8_places_64 (by decide) ?_
      refine lv_ishr hx hb dX8_places_65 ?_
      refine lv_iconst (v := 1) hx hb dX8_places_66 (by decide) ?_
      refine lv_iand hx hb dX8_places_67 ?_
      refine lv_if_ne (tgt := 77) hx hb dX8_places_68 (by decide) (fun c_10 => ?_) (fun c_10 => ?_)
      · have hw := hw.2 c_10
        exact tw_Model_places_77 C0 hA hret  _ _ _ _ _ _ hP hD hS (lv_sub hl [2] rfl) hw
      · have hw := hw.1 c_10
        obtain ⟨x4_11, ex4_11⟩ : ∃ y : Int32, y = x4 + (-1) := ⟨_, rfl⟩
        refine lv_iinc (v := x4_11) (lv' := [(4, .int x4_11), (0, .ref h_m), (3, .int x3)]) hx hb dX8_places_71 hl (k := 2) rfl (by rw [ex4_11]; rfl) (by decide) rfl (fun ls hl => ?_)
        have hw := hw x4_11 ex4_11
        refine lv_goto (tgt := 43) hx hb dX8_places_74 (by decide) ?_
        exact ih _ _ _ _ _ _ _ hP hD hS (lv_sub hl [1, 2, 0] rfl) hw
set_option maxHeartbeats 4000000 in
set_option maxRecDepth 100000 in
theorem tw_Model_places_37 {post : Int32 → Int32 → (Nat → Int32) → Prop} {h_m h_mz h_mwholes h_mparts h_mknown31 h_mprimes h_mrests h_mrows h_mdigits h_mout h_mopen : Nat} {v_n : Int32} {v_has : Int32} {v_known : Int32} {v_many : Int32} {v_printed : Int32}  (C0 : cx RX8 cX8_places 5 D cT p s m c args) (hA : ∀ q, s.heap.size ≤ q → A q) (hret : ∀ (r : Int32) (v_thrown : Int32) (f_z : Nat → Int32) (H : Heap) (locs : List Loc) (pc : Nat) (ls : Array Slot), post r v_thrown f_z → va_P D vwCl [(h_m, .inr (8, [.int v_thrown, .int v_n, .ref h_mwholes, .ref h_mparts, .int v_has, .int v_known, .ref h_mknown31, .int v_many, .ref h_mprimes, .ref h_mrests, .ref h_mrows, .ref h_mdigits, .ref h_mz, .ref h_mout, .int v_printed, .ref h_mopen])), (h_mz, .inl (cT 0, 1100, .inl f_z))] H → va_D A [(h_m, .inr (8, [.int v_thrown, .int v_n, .ref h_mwholes, .ref h_mparts, .int v_has, .int v_known, .ref h_mknown31, .int v_many, .ref h_mprimes, .ref h_mrests, .ref h_mrows, .ref h_mdigits, .ref h_mz, .ref h_mout, .int v_printed, .ref h_mopen])), (h_mz, .inl (cT 0, 1100, .inl f_z))] → va_S A s.heap H locs → decode cX8_places pc = .ok (.ireturn, 1) → W p l e ({ frames := 3, cells := 0, slots := 0, locals := 72 } : Room) s m args below meth c H locs 0 0 Q (F0 m pc ls [.int r]))  : ∀ (y0 : Int32) (v_thrown : Int32) (f_z : Nat → Int32) (H : Heap) (locs : List Loc) (ls : Array Slot), va_P D vwCl [(h_m, .inr (8, [.int v_thrown, .int v_n, .ref h_mwholes, .ref h_mparts, .int v_has, .int v_known, .ref h_mknown31, .int v_many, .ref h_mprimes, .ref h_mrests, .ref h_mrows, .ref h_mdigits, .ref h_mz, .ref h_mout, .int v_printed, .ref h_mopen])), (h_mz, .inl (cT 0, 1100, .inl f_z))] H → va_D A [(h_m, .inr (8, [.int v_thrown, .int v_n, .ref h_mwholes, .ref h_mparts, .int v_has, .int v_known, .ref h_mknown31, .int v_many, .ref h_mprimes, .ref h_mrests, .ref h_mrows, .ref h_mdigits, .ref h_mz, .ref h_mout, .int v_printed, .ref h_mopen])), (h_mz, .inl (cT 0, 1100, .inl f_z))] → va_S A s.heap H locs → lv_has ls 5 [(0, .ref h_m)] → wp_Model_places_37 post v_n v_has v_known v_many v_printed y0 v_thrown f_z → W p l e ({ frames := 3, cells := 0, slots := 0, locals := 72 } : Room) s m args below meth c H locs 0 0 Q (F0 m 37 ls [.int y0]) := by
  obtain ⟨⟨hx, hb, hml, hown, hts⟩, hK, hN⟩ := id C0
  intro y0 v_thrown f_z H locs ls hP hD hS hl hw
  unfold wp_Model_places_37 at hw
  refine lv_istore_n (lv' := [(3, .int y0), (0, .ref h_m)]) hx hb dX8_places_37 rfl hl (by decide) rfl (fun ls hl => ?_)
  refine lv_sipush (v := 527) hx hb dX8_places_38 (by decide) ?_
  refine lv_istore (lv' := [(4, .int 527), (3, .int y0), (0, .ref h_m)]) hx hb dX8_places_41 hl (by decide) rfl (fun ls hl => ?_)
  obtain ⟨n9, hw⟩ := hw
  exact tw_Model_places_43 C0 hA hret  n9 _ _ _ _ _ _ _ hP hD hS (lv_sub hl [2, 1, 0] rfl) hw
set_option maxHeartbeats 4000000 in
set_option maxRecDepth 100000 in
theorem tw_Model_places {post : Int32 → Int32 → (Nat → Int32) → Prop} {h_m h_mz h_mwholes h_mparts h_mknown31 h_mprimes h_mrests h_mrows h_mdigits h_mout h_mopen : Nat} {v_n : Int32} {v_has : Int32} {v_known : Int32} {v_many : Int32} {v_printed : Int32}  (C0 : cx RX8 cX8_places 5 D cT p s m c args) (hA : ∀ q, s.heap.size ≤ q → A q) (hret : ∀ (r : Int32) (v_thrown : Int32) (f_z : Nat → Int32) (H : Heap) (locs : List Loc) (pc : Nat) (ls : Array Slot), post r v_thrown f_z → va_P D vwCl [(h_m, .inr (8, [.int v_thrown, .int v_n, .ref h_mwholes, .ref h_mparts, .int v_has, .int v_known, .ref h_mknown31, .int v_many, .ref h_mprimes, .ref h_mrests, .ref h_mrows, .ref h_mdigits, .ref h_mz, .ref h_mout, .int v_printed, .ref h_mopen])), (h_mz, .inl (cT 0, 1100, .inl f_z))] H → va_D A [(h_m, .inr (8, [.int v_thrown, .int v_n, .ref h_mwholes, .ref h_mparts, .int v_has, .int v_known, .ref h_mknown31, .int v_many, .ref h_mprimes, .ref h_mrests, .ref h_mrows, .ref h_mdigits, .ref h_mz, .ref h_mout, .int v_printed, .ref h_mopen])), (h_mz, .inl (cT 0, 1100, .inl f_z))] → va_S A s.heap H locs → decode cX8_places pc = .ok (.ireturn, 1) → W p l e ({ frames := 3, cells := 0, slots := 0, locals := 72 } : Room) s m args below meth c H locs 0 0 Q (F0 m pc ls [.int r]))  : ∀ (x1 : Int32) (x2 : Int32) (v_thrown : Int32) (f_z : Nat → Int32) (H : Heap) (locs : List Loc) (ls : Array Slot), va_P D vwCl [(h_m, .inr (8, [.int v_thrown, .int v_n, .ref h_mwholes, .ref h_mparts, .int v_has, .int v_known, .ref h_mknown31, .int v_many, .ref h_mprimes, .ref h_mrests, .ref h_mrows, .ref h_mdigits, .ref h_mz, .ref h_mout, .int v_printed, .ref h_mopen])), (h_mz, .inl (cT 0, 1100, .inl f_z))] H → va_D A [(h_m, .inr (8, [.int v_thrown, .int v_n, .ref h_mwholes, .ref h_mparts, .int v_has, .int v_known, .ref h_mknown31, .int v_many, .ref h_mprimes, .ref h_mrests, .ref h_mrows, .ref h_mdigits, .ref h_mz, .ref h_mout, .int v_printed, .ref h_mopen])), (h_mz, .inl (cT 0, 1100, .inl f_z))] → va_S A s.heap H locs → lv_has ls 5 [(0, .ref h_m), (1, .int x1), (2, .int x2)] → wp_Model_places post v_n v_has v_known v_many v_printed x1 x2 v_thrown f_z → W p l e ({ frames := 3, cells := 0, slots := 0, locals := 72 } : Room) s m args below meth c H locs 0 0 Q (F0 m 0 ls []) := by
  obtain ⟨⟨hx, hb, hml, hown, hts⟩, hK, hN⟩ := id C0
  intro x1 x2 v_thrown f_z H locs ls hP hD hS hl hw
  unfold wp_Model_places at hw
  refine lv_aload_n hx hb dX8_places_0 rfl (lv_at hl 0 rfl) ?_
  refine lv_iload_n hx hb dX8_places_1 rfl (lv_at hl 1 rfl) ?_
  have hPc := hP.sub (ws' := [(h_m, .inr (8, [.int v_thrown, .int v_n, .ref h_mwholes, .ref h_mparts, .int v_has, .int v_known, .ref h_mknown31, .int v_many, .ref h_mprimes, .ref h_mrests, .ref h_mrows, .ref h_mdigits, .ref h_mz, .ref h_mout, .int v_printed, .ref h_mopen]))]) [0] rfl
  have hDc := hD.sub (ws' := [(h_m, .inr (8, [.int v_thrown, .int v_n, .ref h_mwholes, .ref h_mparts, .int v_has, .int v_known, .ref h_mknown31, .int v_many, .ref h_mprimes, .ref h_mrests, .ref h_mrows, .ref h_mdigits, .ref h_mz, .ref h_mout, .int v_printed, .ref h_mopen]))]) [0] (by decide) rfl
  have hFc := va_free (wc := [(h_m, .inr (8, [.int v_thrown, .int v_n, .ref h_mwholes, .ref h_mparts, .int v_has, .int v_known, .ref h_mknown31, .int v_many, .ref h_mprimes, .ref h_mrests, .ref h_mrows, .ref h_mdigits, .ref h_mz, .ref h_mout, .int v_printed, .ref h_mopen]))]) hD hS hA [0] rfl
  refine va_calli (va_runV (As := [.int x1]) (rest := []) ⟨hx, hb, hml, hown, hts⟩ (cn_Model_noLikelihood l D cT h_m h_mwholes h_mparts h_mknown31 h_mprimes h_mrests h_mrows h_mdigits h_mz h_mout h_mopen H.size v_thrown v_n v_has v_known v_many v_printed x1 _ hw) (gv_ 1 q_706 q_9 q_703 q_705 qs_29 (by decide +kernel) ⟨Nat.le_of_ble_eq_true rfl, Nat.le_of_ble_eq_true rfl⟩ hts) ⟨pre_blind, va_recv hK hPc (ci := 8) (q0 := 0) rfl rfl, fun U hU hW => ⟨rfl, pre_mk hU hW hPc hK hDc hN⟩⟩ rfl rfl hl.1 rfl (lv_room (Nat.le_of_ble_eq_true rfl)) dX8_places_2 ⟨(Nat.zero_le _), (Nat.zero_le _)⟩) hS (fun q _ h => hFc q h) hFc (fun r_2 u9 t H locs ht hvm hw hB hz1 hk1 hS => ?_)
  obtain ⟨u_1, rfl⟩ : ∃ z, z = u9 := ⟨_, rfl⟩
  obtain ⟨hP1, hD1⟩ := hB
  rw [ht] at hP1
  obtain ⟨hP, hD⟩ := va_join (wr := [(h_mz, .inl (cT 0, 1100, .inl f_z))]) (w1 := [(h_m, .inr (8, [.int u_1, .int v_n, .ref h_mwholes, .ref h_mparts, .int v_has, .int v_known, .ref h_mknown31, .int v_many, .ref h_mprimes, .ref h_mrests, .ref h_mrows, .ref h_mdigits, .ref h_mz, .ref h_mout, .int v_printed, .ref h_mopen]))]) hP hD [0] [1] rfl rfl (by decide) (by decide) hk1 hFc hP1 hD1
  have hP := hP.sub (ws' := [(h_m, .inr (8, [.int u_1, .int v_n, .ref h_mwholes, .ref h_mparts, .int v_has, .int v_known, .ref h_mknown31, .int v_many, .ref h_mprimes, .ref h_mrests, .ref h_mrows, .ref h_mdigits, .ref h_mz, .ref h_mout, .int v_printed, .ref h_mopen])), (h_mz, .inl (cT 0, 1100, .inl f_z))]) [1, 0] rfl
  have hD := hD.sub (ws' := [(h_m, .inr (8, [.int u_1, .int v_n, .ref h_mwholes, .ref h_mparts, .int v_has, .int v_known, .ref h_mknown31, .int v_many, .ref h_mprimes, .ref h_mrests, .ref h_mrows, .ref h_mdigits, .ref h_mz, .ref h_mout, .int v_printed, .ref h_mopen])), (h_mz, .inl (cT 0, 1100, .inl f_z))]) [1, 0] (by decide) rfl
  clear hP1 hD1 hPc hDc hFc hk1 hz1 hvm ht
  try dsimp only at hw
  refine lv_if_ne (tgt := 17) hx hb dX8_places_5 (by decide) (fun c_3 => ?_) (fun c_3 => ?_)
  · have hw := hw.2 c_3
    exact tw_Model_places_17 C0 hA hret  _ _ _ _ _ hP hD hS (lv_sub hl [] rfl) hw
  · have hw := hw.1 c_3
    refine lv_iload_n hx hb dX8_places_8 rfl (lv_at hl 2 rfl) ?_
    refine lv_if_lt (tgt := 17) hx hb dX8_places_9 (by decide) (fun c_4 => ?_) (fun c_4 => ?_)
    · have hw := hw.1 c_4
      exact tw_Model_places_17 C0 hA hret  _ _ _ _ _ hP hD hS (lv_sub hl [] rfl) hw
    · have hw := hw.2 c_4
      refine lv_iload_n hx hb dX8_places_12 rfl (lv_at hl 2 rfl) ?_
      refine lv_iconst (v := 1) hx hb dX8_places_13 (by decide) ?_
      refine lv_icmp_le (tgt := 19) hx hb dX8_places_14 (by decide) (fun c_5 => ?_) (fun c_5 => ?_)
      · have hw := hw.1 c_5
        refine lv_aload_n hx hb dX8_places_19 rfl (lv_at hl 0 rfl) ?_
        refine lv_iload_n hx hb dX8_places_20 rfl (lv_at hl 1 rfl) ?_
        have hPc := hP.sub (ws' := [(h_m, .inr (8, [.int u_1, .int v_n, .ref h_mwholes, .ref h_mparts, .int v_has, .int v_known, .ref h_mknown31, .int v_many, .ref h_mprimes, .ref h_mrests, .ref h_mrows, .ref h_mdigits, .ref h_mz, .ref h_mout, .int v_printed, .ref h_mopen])), (h_mz, .inl (cT 0, 1100, .inl f_z))]) [0, 1] rfl
        have hDc := hD.sub (ws' := [(h_m, .inr (8, [.int u_1, .int v_n, .ref h_mwholes, .ref h_mparts, .int v_has, .int v_known, .ref h_mknown31, .int v_many, .ref h_mprimes, .ref h_mrests, .ref h_mrows, .ref h_mdigits, .ref h_mz, .ref h_mout, .int v_printed, .ref h_mopen])), (h_mz, .inl (cT 0, 1100, .inl f_z))]) [0, 1] (by decide) rfl
        have hFc := va_free (wc := [(h_m, .inr (8, [.int u_1, .int v_n, .ref h_mwholes, .ref h_mparts, .int v_has, .int v_known, .ref h_mknown31, .int v_many, .ref h_mprimes, .ref h_mrests, .ref h_mrows, .ref h_mdigits, .ref h_mz, .ref h_mout, .int v_printed, .ref h_mopen])), (h_mz, .inl (cT 0, 1100, .inl f_z))]) hD hS hA [0, 1] rfl
        refine va_callv (va_runV (As := [.int x1]) (rest := []) ⟨hx, hb, hml, hown, hts⟩ (cn_Model_reduce l D cT h_m h_mz h_mwholes h_mparts h_mknown31 h_mprimes h_mrests h_mrows h_mdigits h_mout h_mopen H.size u_1 v_n v_has v_known v_many v_printed f_z x1 _ hw) (gv_ 1 q_710 q_9 q_707 q_709 qs_30 (by decide +kernel) ⟨Nat.le_of_ble_eq_true rfl, Nat.le_of_ble_eq_true rfl⟩ hts) ⟨pre_blind, va_recv hK hPc (ci := 8) (q0 := 0) rfl rfl, fun U hU hW => ⟨rfl, pre_mk hU hW hPc hK hDc hN⟩⟩ rfl rfl hl.1 rfl (lv_room (Nat.le_of_ble_eq_true rfl)) dX8_places_21 ⟨(Nat.zero_le _), (Nat.zero_le _)⟩) hS (fun q _ h => hFc q h) hFc (fun u9 t H locs ht hvm hw hB hz1 hk1 hS => ?_)
        obtain ⟨u_6, rfl⟩ : ∃ z, z = u9 := ⟨_, rfl⟩
        obtain ⟨hP1, hD1⟩ := hB
        rw [ht] at hP1
        obtain ⟨hP, hD⟩ := va_join (wr := []) (w1 := [(h_m, .inr (8, [.int u_1, .int v_n, .ref h_mwholes, .ref h_mparts, .int v_has, .int v_known, .ref h_mknown31, .int v_many, .ref h_mprimes, .ref h_mrests, .ref h_mrows, .ref h_mdigits, .ref h_mz, .ref h_mout, .int v_printed, .ref h_mopen])), (h_mz, .inl (cT 0, 1100, .inl u_6))]) hP hD [0, 1] [] rfl rfl (by decide) (by decide) hk1 hFc hP1 hD1
        have hP := hP.sub (ws' := [(h_m, .inr (8, [.int u_1, .int v_n, .ref h_mwholes, .ref h_mparts, .int v_has, .int v_known, .ref h_mknown31, .int v_many, .ref h_mprimes, .ref h_mrests, .ref h_mrows, .ref h_mdigits, .ref h_mz, .ref h_mout, .int v_printed, .ref h_mopen])), (h_mz, .inl (cT 0, 1100, .inl u_6))]) [0, 1] rfl
        have hD := hD.sub (ws' := [(h_m, .inr (8, [.int u_1, .int v_n, .ref h_mwholes, .ref h_mparts, .int v_has, .int v_known, .ref h_mknown31, .int v_many, .ref h_mprimes, .ref h_mrests, .ref h_mrows, .ref h_mdigits, .ref h_mz, .ref h_mout, .int v_printed, .ref h_mopen])), (h_mz, .inl (cT 0, 1100, .inl u_6))]) [0, 1] (by decide) rfl
        clear hP1 hD1 hPc hDc hFc hk1 hz1 hvm ht
        try dsimp only at hw
        refine lv_iload_n hx hb dX8_places_24 rfl (lv_at hl 2 rfl) ?_
        refine lv_if_ne (tgt := 34) hx hb dX8_places_25 (by decide) (fun c_7 => ?_) (fun c_7 => ?_)
        · have hw := hw.2 c_7
          refine lv_sipush (v := 924) hx hb dX8_places_34 (by decide) ?_
          exact tw_Model_places_37 C0 hA hret  _ _ _ _ _ _ hP hD hS (lv_sub hl [0] rfl) hw
        · have hw := hw.1 c_7
          refine lv_sipush (v := 902) hx hb dX8_places_28 (by decide) ?_
          refine lv_goto (tgt := 37) hx hb dX8_places_31 (by decide) ?_
          exact tw_Model_places_37 C0 hA hret  _ _ _ _ _ _ hP hD hS (lv_sub hl [0] rfl) hw
      · have hw := hw.2 c_5
        exact tw_Model_places_17 C0 hA hret  _ _ _ _ _ hP hD hS (lv_sub hl [] rfl) hw
set_option maxHeartbeats 4000000 in
set_option maxRecDepth 100000 in
theorem cn_Model_places (l : Launch) (D : va_G) (cT : Nat → ClassId) (h_m h_mz h_mwholes h_mparts h_mknown31 h_mprimes h_mrests h_mrows h_mdigits h_mout h_mopen : Nat) (sz : Nat) (v_thrown : Int32) (v_n : Int32) (v_has : Int32) (v_known : Int32) (v_many : Int32) (v_printed : Int32) (f_z : Nat → Int32) (x1 : Int32) (x2 : Int32) (post : Int32 → Int32 → (Nat → Int32) → Prop) (hw : wp_Model_places post v_n v_has v_known v_many v_printed x1 x2 v_thrown f_z) : Met l yX8_places wX8_places ({ frames := 3, cells := 0, slots := 0, locals := 72 } : Room) (va_Pc [.ref h_m, .int x1, .int x2] (pre_ D cT [(h_m, .inr (8, [.int v_thrown, .int v_n, .ref h_mwholes, .ref h_mparts, .int v_has, .int v_known, .ref h_mknown31, .int v_many, .ref h_mprimes, .ref h_mrests, .ref h_mrows, .ref h_mdigits, .ref h_mz, .ref h_mout, .int v_printed, .ref h_mopen])), (h_mz, .inl (cT 0, 1100, .inl f_z))] sz)) (va_Qi (fun (r : Int32) (u : Int32 × (Nat → Int32)) => post r u.1 u.2) (fun u t => va_P D vwCl [(h_m, .inr (8, [.int u.1, .int v_n, .ref h_mwholes, .ref h_mparts, .int v_has, .int v_known, .ref h_mknown31, .int v_many, .ref h_mprimes, .ref h_mrests, .ref h_mrows, .ref h_mdigits, .ref h_mz, .ref h_mout, .int v_printed, .ref h_mopen])), (h_mz, .inl (cT 0, 1100, .inl u.2))] t.heap ∧ va_D (va_A [(h_m, .inr (8, [.int v_thrown, .int v_n, .ref h_mwholes, .ref h_mparts, .int v_has, .int v_known, .ref h_mknown31, .int v_many, .ref h_mprimes, .ref h_mrests, .ref h_mrows, .ref h_mdigits, .ref h_mz, .ref h_mout, .int v_printed, .ref h_mopen])), (h_mz, .inl (cT 0, 1100, .inl f_z))] sz) [(h_m, .inr (8, [.int u.1, .int v_n, .ref h_mwholes, .ref h_mparts, .int v_has, .int v_known, .ref h_mknown31, .int v_many, .ref h_mprimes, .ref h_mrests, .ref h_mrows, .ref h_mdigits, .ref h_mz, .ref h_mout, .int v_printed, .ref h_mopen])), (h_mz, .inl (cT 0, 1100, .inl u.2))]) (va_A [(h_m, .inr (8, [.int v_thrown, .int v_n, .ref h_mwholes, .ref h_mparts, .int v_has, .int v_known, .ref h_mknown31, .int v_many, .ref h_mprimes, .ref h_mrests, .ref h_mrows, .ref h_mdigits, .ref h_mz, .ref h_mout, .int v_printed, .ref h_mopen])), (h_mz, .inl (cT 0, 1100, .inl f_z))] sz)) 0 0 (va_A [(h_m, .inr (8, [.int v_thrown, .int v_n, .ref h_mwholes, .ref h_mparts, .int v_has, .int v_known, .ref h_mknown31, .int v_many, .ref h_mprimes, .ref h_mrests, .ref h_mrows, .ref h_mdigits, .ref h_mz, .ref h_mout, .int v_printed, .ref h_mopen])), (h_mz, .inl (cT 0, 1100, .inl f_z))] sz) := by
  refine Met.ofW (cc := cX8_places) (maxL := 5) (ret := (some .int)) (by decide) rfl ?_
  intro p e s m args below meth c s₁ B hml hv
  obtain ⟨rfl, hsz, hP, hK, hD0, hN⟩ := hv
  have hx := B.exec
  have hb := B.bytes
  have hr := B.returns
  have hts : ∀ w ∈ WG, w.before _ s = true := fun w h => atoms_spec (ws := wX8_places) B.pre w (List.mem_cons_of_mem _ h)
  have hown : s.vm.findClass RX8 = some m.cls := findClass_of_methodNamed B.named
  have hlocks := B.notSynchronized
  subst hsz
  have hD := hD0.self (sz := s.heap.size)
  generalize hAe : va_A [(h_m, .inr (8, [.int v_thrown, .int v_n, .ref h_mwholes, .ref h_mparts, .int v_has, .int v_known, .ref h_mknown31, .int v_many, .ref h_mprimes, .ref h_mrests, .ref h_mrows, .ref h_mdigits, .ref h_mz, .ref h_mout, .int v_printed, .ref h_mopen])), (h_mz, .inl (cT 0, 1100, .inl f_z))] s.heap.size = A at hD ⊢
  have hA : ∀ q : Nat, s.heap.size ≤ q → A q := fun q h => by rw [← hAe]; exact Or.inr h
  have hS : va_S A s.heap s.heap [] := va_S.rf
  have hl := lv_entry ([.ref h_m, .int x1, .int x2]) (n := 5) (Nat.le_of_ble_eq_true rfl)
  rw [lg_entry_eq]
  generalize (lg_sl ([.ref h_m, .int x1, .int x2]) ++ List.replicate (5 - (lg_sl ([.ref h_m, .int x1, .int x2])).length) Slot.unset).toArray = ls at hl ⊢
  refine tw_Model_places (Q := MQ below _ _ s 0 0 A) ⟨⟨hx, hb, hml, hown, hts⟩, hK, hN⟩ hA (fun r v_thrown f_z H locs pc ls hp hP hD hS hd => W.iret (v := r) hx hb hr (fun t ht hW => ⟨⟨r, (v_thrown, f_z), rfl, hp, by rw [ht]; exact hP, hD⟩, hS.F ht⟩) hS.2.2 hd) _ _ _ _ _ _ _ hP hD hS hl hw
end
