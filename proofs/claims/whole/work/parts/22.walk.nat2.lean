def wp_Integer_bitCount (post : Int32 → Prop)   (x0 : Int32) : Prop := ∀ x0_1 : Int32, x0_1 = x0 - (((x0.toUInt32 >>> ((1 : Int32).toUInt32 &&& Int32.toUInt32 31)).toInt32) &&& 1431655765) → ∀ x0_2 : Int32, x0_2 = (x0_1 &&& 858993459) + (((x0_1.toUInt32 >>> ((2 : Int32).toUInt32 &&& Int32.toUInt32 31)).toInt32) &&& 858993459) → ∀ x0_3 : Int32, x0_3 = (x0_2 + ((x0_2.toUInt32 >>> ((4 : Int32).toUInt32 &&& Int32.toUInt32 31)).toInt32)) &&& 252645135 → ∀ x0_4 : Int32, x0_4 = x0_3 + ((x0_3.toUInt32 >>> ((8 : Int32).toUInt32 &&& Int32.toUInt32 31)).toInt32) → ∀ x0_5 : Int32, x0_5 = x0_4 + ((x0_4.toUInt32 >>> ((16 : Int32).toUInt32 &&& Int32.toUInt32 31)).toInt32) → post (x0_5 &&& 63)
section
variable {p : Program} {l : Launch} {e : Env} {s : State} {m : MethodId} {args : Array Value} {below : List Frame} {meth : Method} {c : Code} {Q : State → Prop} {A : Nat → Prop} {D : va_G} {cT : Nat → ClassId}
set_option maxHeartbeats 4000000 in
set_option maxRecDepth 100000 in
theorem tw_Integer_bitCount {post : Int32 → Prop}   (C0 : cx RJ0 cJ0_bitCount 1 D cT p s m c args) (hA : ∀ q, s.heap.size ≤ q → A q) (hret : ∀ (r : Int32)  (H : Heap) (locs : List Loc) (pc : Nat) (ls : Array Slot), post r → va_P D vwCl [] H → va_D A [] → va_S A s.heap H locs → decode cJ0_bitCount pc = .ok (.ireturn, 1) → W p l e ({ frames := 0, cells := 0, slots := 0, locals := 0 } : Room) s m args below meth c H locs 0 0 Q (F0 m pc ls [.int r]))  : ∀ (x0 : Int32) (H : Heap) (locs : List Loc) (ls : Array Slot), va_P D vwCl [] H → va_D A [] → va_S A s.heap H locs → lv_has ls 1 [(0, .int x0)] → wp_Integer_bitCount post x0 → W p l e ({ frames := 0, cells := 0, slots := 0, locals := 0 } : Room) s m args below meth c H locs 0 0 Q (F0 m 0 ls []) := by
  obtain ⟨⟨hx, hb, hml, hown, hts⟩, hK, hN⟩ := id C0
  intro x0 H locs ls hP hD hS hl hw
  unfold wp_Integer_bitCount at hw
  refine lv_iload_n hx hb dJ0_bitCount_0 rfl (lv_at hl 0 rfl) ?_
  refine lv_iload_n hx hb dJ0_bitCount_1 rfl (lv_at hl 0 rfl) ?_
  refine lv_iconst (v := 1) hx hb dJ0_bitCount_2 (by decide) ?_
  refine lv_iushr hx hb dJ0_bitCount_3 rfl ?_
  refine lv_ldcw (v := 1431655765) hx hb hown (hts _ q_344) dJ0_bitCount_4 ?_
  refine lv_iand hx hb dJ0_bitCount_7 ?_
  refine lv_isub hx hb dJ0_bitCount_8 ?_
  refine lv_topi (fun x0_1 ex0_1 => ?_)
  have hw := hw x0_1 ex0_1
  refine lv_istore_n (lv' := [(0, .int x0_1)]) hx hb dJ0_bitCount_9 rfl hl (by decide) rfl (fun ls hl => ?_)
  refine lv_iload_n hx hb dJ0_bitCount_10 rfl (lv_at hl 0 rfl) ?_
  refine lv_ldcw (v := 858993459) hx hb hown (hts _ q_345) dJ0_bitCount_11 ?_
  refine lv_iand hx hb dJ0_bitCount_14 ?_
  refine lv_iload_n hx hb dJ0_bitCount_15 rfl (lv_at hl 0 rfl) ?_
  refine lv_iconst (v := 2) hx hb dJ0_bitCount_16 (by decide) ?_
  refine lv_iushr hx hb dJ0_bitCount_17 rfl ?_
  refine lv_ldcw (v := 858993459) hx hb hown (hts _ q_345) dJ0_bitCount_18 ?_
  refine lv_iand hx hb dJ0_bitCount_21 ?_
  refine lv_iadd hx hb dJ0_bitCount_22 ?_
  refine lv_topi (fun x0_2 ex0_2 => ?_)
  have hw := hw x0_2 ex0_2
  refine lv_istore_n (lv' := [(0, .int x0_2)]) hx hb dJ0_bitCount_23 rfl hl (by decide) rfl (fun ls hl => ?_)
  refine lv_iload_n hx hb dJ0_bitCount_24 rfl (lv_at hl 0 rfl) ?_
  refine lv_iload_n hx hb dJ0_bitCount_25 rfl (lv_at hl 0 rfl) ?_
  refine lv_iconst (v := 4) hx hb dJ0_bitCount_26 (by decide) ?_
  refine lv_iushr hx hb dJ0_bitCount_27 rfl ?_
  refine lv_iadd hx hb dJ0_bitCount_28 ?_
  refine lv_ldcw (v := 252645135) hx hb hown (hts _ q_346) dJ0_bitCount_29 ?_
  refine lv_iand hx hb dJ0_bitCount_32 ?_
  refine lv_topi (fun x0_3 ex0_3 => ?_)
  have hw := hw x0_3 ex0_3
  refine lv_istore_n (lv' := [(0, .int x0_3)]) hx hb dJ0_bitCount_33 rfl hl (by decide) rfl (fun ls hl => ?_)
  refine lv_iload_n hx hb dJ0_bitCount_34 rfl (lv_at hl 0 rfl) ?_
  refine lv_iload_n hx hb dJ0_bitCount_35 rfl (lv_at hl 0 rfl) ?_
  refine lv_bipush (v := 8) hx hb dJ0_bitCount_36 (by decide) ?_
  refine lv_iushr hx hb dJ0_bitCount_38 rfl ?_
  refine lv_iadd hx hb dJ0_bitCount_39 ?_
  refine lv_topi (fun x0_4 ex0_4 => ?_)
  have hw := hw x0_4 ex0_4
  refine lv_istore_n (lv' := [(0, .int x0_4)]) hx hb dJ0_bitCount_40 rfl hl (by decide) rfl (fun ls hl => ?_)
  refine lv_iload_n hx hb dJ0_bitCount_41 rfl (lv_at hl 0 rfl) ?_
  refine lv_iload_n hx hb dJ0_bitCount_42 rfl (lv_at hl 0 rfl) ?_
  refine lv_bipush (v := 16) hx hb dJ0_bitCount_43 (by decide) ?_
  refine lv_iushr hx hb dJ0_bitCount_45 rfl ?_
  refine lv_iadd hx hb dJ0_bitCount_46 ?_
  refine lv_topi (fun x0_5 ex0_5 => ?_)
  have hw := hw x0_5 ex0_5
  refine lv_istore_n (lv' := [(0, .int x0_5)]) hx hb dJ0_bitCount_47 rfl hl (by decide) rfl (fun ls hl => ?_)
  refine lv_iload_n hx hb dJ0_bitCount_48 rfl (lv_at hl 0 rfl) ?_
  refine lv_bipush (v := 63) hx hb dJ0_bitCount_49 (by decide) ?_
  refine lv_iand hx hb dJ0_bitCount_51 ?_
  exact hret _  _ _ _ _ hw hP hD hS dJ0_bitCount_52
set_option maxHeartbeats 4000000 in
set_option maxRecDepth 100000 in
theorem cn_Integer_bitCount (l : Launch) (D : va_G) (cT : Nat → ClassId) (sz : Nat)  (x0 : Int32) (post : Int32 → Prop) (hw : wp_Integer_bitCount post x0) : Met l yJ0_bitCount wJ0_bitCount ({ frames := 0, cells := 0, slots := 0, locals := 0 } : Room) (va_Pc [.int x0] (pre_ D cT [] sz)) (va_Qi (fun (r : Int32) (u : Unit) => post r) (fun u t => va_P D vwCl [] t.heap ∧ va_D (va_A [] sz) []) (va_A [] sz)) 0 0 (va_A [] sz) := by
  refine Met.ofW (cc := cJ0_bitCount) (maxL := 1) (ret := (some .int)) (by decide) rfl ?_
  intro p e s m args below meth c s₁ B hml hv
  obtain ⟨rfl, hsz, hP, hK, hD0, hN⟩ := hv
  have hx := B.exec
  have hb := B.bytes
  have hr := B.returns
  have hts : ∀ w ∈ WG, w.before _ s = true := fun w h => atoms_spec (ws := wJ0_bitCount) B.pre w (List.mem_cons_of_mem _ h)
  have hown : s.vm.findClass RJ0 = some m.cls := findClass_of_methodNamed B.named
  have hlocks := B.notSynchronized
  subst hsz
  have hD := hD0.self (sz := s.heap.size)
  generalize hAe : va_A [] s.heap.size = A at hD ⊢
  have hA : ∀ q : Nat, s.heap.size ≤ q → A q := fun q h => by rw [← hAe]; exact Or.inr h
  have hS : va_S A s.heap s.heap [] := va_S.rf
  have hl := lv_entry ([.int x0]) (n := 1) (Nat.le_of_ble_eq_true rfl)
  rw [lg_entry_eq]
  generalize (lg_sl ([.int x0]) ++ List.replicate (1 - (lg_sl ([.int x0])).length) Slot.unset).toArray = ls at hl ⊢
  refine tw_Integer_bitCount (Q := MQ below _ _ s 0 0 A) ⟨⟨hx, hb, hml, hown, hts⟩, hK, hN⟩ hA (fun r  H locs pc ls hp hP hD hS hd => W.iret (v := r) hx hb hr (fun t ht hW => ⟨⟨r, (), rfl, hp, by rw [ht]; exact hP, hD⟩, hS.F ht⟩) hS.2.2 hd) _ _ _ _ hP hD hS hl hw
end
def wp_Natural_lowTwos_25 (post : Int32 → Prop) (f_t : Nat → Int32)  (y0 : Int32) : Prop := post y0
def wp_Natural_lowTwos (post : Int32 → Prop) (f_t : Nat → Int32)   : Prop := (vp_in 0 16 ∧ (∀ x1_2 : Int32, x1_2 = f_t (0 : Int32).toNatClampNeg → ((x1_2 = 0 → (wp_Natural_lowTwos_25 post f_t 31)) ∧ (¬ x1_2 = 0 → (wp_Integer_bitCount (fun r_4 => wp_Natural_lowTwos_25 post f_t r_4) ((x1_2 &&& (-x1_2)) - 1))))))
section
variable {p : Program} {l : Launch} {e : Env} {s : State} {m : MethodId} {args : Array Value} {below : List Frame} {meth : Method} {c : Code} {Q : State → Prop} {A : Nat → Prop} {D : va_G} {cT : Nat → ClassId}
set_option maxHeartbeats 4000000 in
set_option maxRecDepth 100000 in
theorem tw_Natural_lowTwos_25 {post : Int32 → Prop} {h_t h_tl : Nat} {f_t : Nat → Int32}  (C0 : cx RX4 cX4_lowTwos 2 D cT p s m c args) (hA : ∀ q, s.heap.size ≤ q → A q) (hret : ∀ (r : Int32)  (H : Heap) (locs : List Loc) (pc : Nat) (ls : Array Slot), post r → va_P D vwCl [(h_t, .inr (4, [.ref h_tl])), (h_tl, .inl (cT 0, 16, .inl f_t))] H → va_D A [(h_t, .inr (4, [.ref h_tl])), (h_tl, .inl (cT 0, 16, .inl f_t))] → va_S A s.heap H locs → decode cX4_lowTwos pc = .ok (.ireturn, 1) → W p l e ({ frames := 1, cells := 0, slots := 0, locals := 20 } : Room) s m args below meth c H locs 0 0 Q (F0 m pc ls [.int r]))  : ∀ (y0 : Int32) (H : Heap) (locs : List Loc) (ls : Array Slot), va_P D vwCl [(h_t, .inr (4, [.ref h_tl])), (h_tl, .inl (cT 0, 16, .inl f_t))] H → va_D A [(h_t, .inr (4, [.ref h_tl])), (h_tl, .inl (cT 0, 16, .inl f_t))] → va_S A s.heap H locs → lv_has ls 2 [] → wp_Natural_lowTwos_25 post f_t y0 → W p l e ({ frames := 1, cells := 0, slots := 0, locals := 20 } : Room) s m args below meth c H locs 0 0 Q (F0 m 25 ls [.int y0]) := by
  obtain ⟨⟨hx, hb, hml, hown, hts⟩, hK, hN⟩ := id C0
  intro y0 H locs ls hP hD hS hl hw
  unfold wp_Natural_lowTwos_25 at hw
  exact hret _  _ _ _ _ hw hP hD hS dX4_lowTwos_25
set_option maxHeartbeats 4000000 in
set_option maxRecDepth 100000 in
theorem tw_Natural_lowTwos {post : Int32 → Prop} {h_t h_tl : Nat} {f_t : Nat → Int32}  (C0 : cx RX4 cX4_lowTwos 2 D cT p s m c args) (hA : ∀ q, s.heap.size ≤ q → A q) (hret : ∀ (r : Int32)  (H : Heap) (locs : List Loc) (pc : Nat) (ls : Array Slot), post r → va_P D vwCl [(h_t, .inr (4, [.ref h_tl])), (h_tl, .inl (cT 0, 16, .inl f_t))] H → va_D A [(h_t, .inr (4, [.ref h_tl])), (h_tl, .inl (cT 0, 16, .inl f_t))] → va_S A s.heap H locs → decode cX4_lowTwos pc = .ok (.ireturn, 1) → W p l e ({ frames := 1, cells := 0, slots := 0, locals := 20 } : Room) s m args below meth c H locs 0 0 Q (F0 m pc ls [.int r]))  : ∀  (H : Heap) (locs : List Loc) (ls : Array Slot), va_P D vwCl [(h_t, .inr (4, [.ref h_tl])), (h_tl, .inl (cT 0, 16, .inl f_t))] H → va_D A [(h_t, .inr (4, [.ref h_tl])), (h_tl, .inl (cT 0, 16, .inl f_t))] → va_S A s.heap H locs → lv_has ls 2 [(0, .ref h_t)] → wp_Natural_lowTwos post f_t  → W p l e ({ frames := 1, cells := 0, slots := 0, locals := 20 } : Room) s m args below meth c H locs 0 0 Q (F0 m 0 ls []) := by
  obtain ⟨⟨hx, hb, hml, hown, hts⟩, hK, hN⟩ := id C0
  intro H locs ls hP hD hS hl hw
  unfold wp_Natural_lowTwos at hw
  refine lv_aload_n hx hb dX4_lowTwos_0 rfl (lv_at hl 0 rfl) ?_
  refine va_get (D := D) (ci := 4) (v := .ref h_tl) (C := RX4) (T := TX4) (N := 1) hx hb hts inX4 hown hK hP 0 rfl rfl 0 (by decide) (hts _ q_105) (fun _ h9 => h9) rfl dX4_lowTwos_1 ?_
  refine lv_iconst (v := 0) hx hb dX4_lowTwos_4 (by decide) ?_
  obtain ⟨h_1, hw⟩ := hw
  refine va_iald hx hb hK hP 1 0 rfl rfl h_1 dX4_lowTwos_5 ?_
  refine lv_topi (fun x1_2 ex1_2 => ?_)
  have hw := hw x1_2 ex1_2
  refine lv_istore_n (lv' := [(1, .int x1_2), (0, .ref h_t)]) hx hb dX4_lowTwos_6 rfl hl (by decide) rfl (fun ls hl => ?_)
  refine lv_iload_n hx hb dX4_lowTwos_7 rfl (lv_at hl 0 rfl) ?_
  refine lv_if_ne (tgt := 16) hx hb dX4_lowTwos_8 (by decide) (fun c_3 => ?_) (fun c_3 => ?_)
  · have hw := hw.2 c_3
    refine lv_iload_n hx hb dX4_lowTwos_16 rfl (lv_at hl 0 rfl) ?_
    refine lv_iload_n hx hb dX4_lowTwos_17 rfl (lv_at hl 0 rfl) ?_
    refine lv_ineg hx hb dX4_lowTwos_18 ?_
    refine lv_iand hx hb dX4_lowTwos_19 ?_
    refine lv_iconst (v := 1) hx hb dX4_lowTwos_20 (by decide) ?_
    refine lv_isub hx hb dX4_lowTwos_21 ?_
    have hPc := hP.sub (ws' := []) [] rfl
    have hDc := hD.sub (ws' := []) [] (by decide) rfl
    have hFc := va_free (wc := []) hD hS hA [] rfl
    refine va_calli (va_runS (As := [.int ((x1_2 &&& (-x1_2)) - 1)]) (rest := []) ⟨hx, hb, hml, hown, hts⟩ (cn_Integer_bitCount l D cT  H.size ((x1_2 &&& (-x1_2)) - 1) _ hw) (gs_ 1 q_343 q_15 q_341 q_342 (by decide +kernel) ⟨Nat.le_of_ble_eq_true rfl, Nat.le_of_ble_eq_true rfl⟩ hts) ⟨pre_blind, fun U hU hW => ⟨rfl, pre_mk hU hW hPc hK hDc hN⟩⟩ rfl rfl hl.1 rfl (lv_room (Nat.le_of_ble_eq_true rfl)) dX4_lowTwos_22 ⟨(Nat.zero_le _), (Nat.zero_le _)⟩) hS (fun q _ h => hFc q h) hFc (fun r_4 u9 t H locs ht hvm hw hB hz1 hk1 hS => ?_)
    obtain ⟨hP1, hD1⟩ := hB
    rw [ht] at hP1
    obtain ⟨hP, hD⟩ := va_join (wr := [(h_t, .inr (4, [.ref h_tl])), (h_tl, .inl (cT 0, 16, .inl f_t))]) (w1 := []) hP hD [] [0, 1] rfl rfl (by decide) (by decide) hk1 hFc hP1 hD1
    have hP := hP.sub (ws' := [(h_t, .inr (4, [.ref h_tl])), (h_tl, .inl (cT 0, 16, .inl f_t))]) [0, 1] rfl
    have hD := hD.sub (ws' := [(h_t, .inr (4, [.ref h_tl])), (h_tl, .inl (cT 0, 16, .inl f_t))]) [0, 1] (by decide) rfl
    clear hP1 hD1 hPc hDc hFc hk1 hz1 hvm ht
    try dsimp only at hw
    exact tw_Natural_lowTwos_25 C0 hA hret  _ _ _ _ hP hD hS (lv_sub hl [] rfl) hw
  · have hw := hw.1 c_3
    refine lv_bipush (v := 31) hx hb dX4_lowTwos_11 (by decide) ?_
    refine lv_goto (tgt := 25) hx hb dX4_lowTwos_13 (by decide) ?_
    exact tw_Natural_lowTwos_25 C0 hA hret  _ _ _ _ hP hD hS (lv_sub hl [] rfl) hw
set_option maxHeartbeats 4000000 in
set_option maxRecDepth 100000 in
theorem cn_Natural_lowTwos (l : Launch) (D : va_G) (cT : Nat → ClassId) (h_t h_tl : Nat) (sz : Nat) (f_t : Nat → Int32)  (post : Int32 → Prop) (hw : wp_Natural_lowTwos post f_t ) : Met l yX4_lowTwos wX4_lowTwos ({ frames := 1, cells := 0, slots := 0, locals := 20 } : Room) (va_Pc [.ref h_t] (pre_ D cT [(h_t, .inr (4, [.ref h_tl])), (h_tl, .inl (cT 0, 16, .inl f_t))] sz)) (va_Qi (fun (r : Int32) (u : Unit) => post r) (fun u t => va_P D vwCl [(h_t, .inr (4, [.ref h_tl])), (h_tl, .inl (cT 0, 16, .inl f_t))] t.heap ∧ va_D (va_A [(h_t, .inr (4, [.ref h_tl])), (h_tl, .inl (cT 0, 16, .inl f_t))] sz) [(h_t, .inr (4, [.ref h_tl])), (h_tl, .inl (cT 0, 16, .inl f_t))]) (va_A [(h_t, .inr (4, [.ref h_tl])), (h_tl, .inl (cT 0, 16, .inl f_t))] sz)) 0 0 (va_A [(h_t, .inr (4, [.ref h_tl])), (h_tl, .inl (cT 0, 16, .inl f_t))] sz) := by
  refine Met.ofW (cc := cX4_lowTwos) (maxL := 2) (ret := (some .int)) (by decide) rfl ?_
  intro p e s m args below meth c s₁ B hml hv
  obtain ⟨rfl, hsz, hP, hK, hD0, hN⟩ := hv
  have hx := B.exec
  have hb := B.bytes
  have hr := B.returns
  have hts : ∀ w ∈ WG, w.before _ s = true := fun w h => atoms_spec (ws := wX4_lowTwos) B.pre w (List.mem_cons_of_mem _ h)
  have hown : s.vm.findClass RX4 = some m.cls := findClass_of_methodNamed B.named
  have hlocks := B.notSynchronized
  subst hsz
  have hD := hD0.self (sz := s.heap.size)
  generalize hAe : va_A [(h_t, .inr (4, [.ref h_tl])), (h_tl, .inl (cT 0, 16, .inl f_t))] s.heap.size = A at hD ⊢
  have hA : ∀ q : Nat, s.heap.size ≤ q → A q := fun q h => by rw [← hAe]; exact Or.inr h
  have hS : va_S A s.heap s.heap [] := va_S.rf
  have hl := lv_entry ([.ref h_t]) (n := 2) (Nat.le_of_ble_eq_true rfl)
  rw [lg_entry_eq]
  generalize (lg_sl ([.ref h_t]) ++ List.replicate (2 - (lg_sl ([.ref h_t])).length) Slot.unset).toArray = ls at hl ⊢
  refine tw_Natural_lowTwos (Q := MQ below _ _ s 0 0 A) ⟨⟨hx, hb, hml, hown, hts⟩, hK, hN⟩ hA (fun r  H locs pc ls hp hP hD hS hd => W.iret (v := r) hx hb hr (fun t ht hW => ⟨⟨r, (), rfl, hp, by rw [ht]; exact hP, hD⟩, hS.F ht⟩) hS.2.2 hd)  _ _ _ hP hD hS hl hw
end
def wp_Natural_shiftRight_28 (post : (Nat → Int32) → Prop)  (K2 : Int32 → Int32 → (Nat → Int32) → Prop) (x1 : Int32) (x2 : Int32) (y0 : Int32) (f_t : Nat → Int32) : Prop := (vp_in x2 16 ∧ ((vp_in x2 16 ∧ (∀ x2_5 : Int32, x2_5 = x2 + 1 → K2 x1 x2_5 (upd f_t x2.toNatClampNeg ((((f_t x2.toNatClampNeg).toUInt32 >>> (x1.toUInt32 &&& Int32.toUInt32 31)).toInt32) ||| ((y0 <<< ((31 - x1) &&& 31)) &&& 2147483647)))))))
def wp_Natural_shiftRight_2 (post : (Nat → Int32) → Prop)   : Nat → Int32 → Int32 → (Nat → Int32) → Prop
  | 0 => fun _ _ _ => False
  | n + 1 => fun x1 x2 f_t => ((16 ≤ x2 → (post f_t)) ∧ (¬ 16 ≤ x2 → (((16 ≤ (x2 + 1) → (wp_Natural_shiftRight_28 post (wp_Natural_shiftRight_2 post n) x1 x2 0 f_t)) ∧ (¬ 16 ≤ (x2 + 1) → ((vp_in (x2 + 1) 16 ∧ (wp_Natural_shiftRight_28 post (wp_Natural_shiftRight_2 post n) x1 x2 (f_t (x2 + 1).toNatClampNeg) f_t))))))))
def wp_Natural_shiftRight (post : (Nat → Int32) → Prop)   (x1 : Int32) (f_t : Nat → Int32) : Prop := ∃ k9, wp_Natural_shiftRight_2 post k9 x1 0 f_t
section
variable {p : Program} {l : Launch} {e : Env} {s : State} {m : MethodId} {args : Array Value} {below : List Frame} {meth : Method} {c : Code} {Q : State → Prop} {A : Nat → Prop} {D : va_G} {cT : Nat → ClassId}
set_option maxHeartbeats 4000000 in
set_option maxRecDepth 100000 in
theorem tw_Natural_shiftRight_28 {post : (Nat → Int32) → Prop} {h_t h_tl : Nat}  {K2 : Int32 → Int32 → (Nat → Int32) → Prop} (C0 : cx RX4 cX4_shiftRight 4 D cT p s m c args) (hA : ∀ q, s.heap.size ≤ q → A q) (hret : ∀ (f_t : Nat → Int32) (H : Heap) (locs : List Loc) (pc : Nat) (ls : Array Slot), post f_t → va_P D vwCl [(h_t, .inr (4, [.ref h_tl])), (h_tl, .inl (cT 0, 16, .inl f_t))] H → va_D A [(h_t, .inr (4, [.ref h_tl])), (h_tl, .inl (cT 0, 16, .inl f_t))] → va_S A s.heap H locs → decode cX4_shiftRight pc = .ok (.return_, 1) → W p l e ({ frames := 0, cells := 0, slots := 0, locals := 0 } : Room) s m args below meth c H locs 0 0 Q (F0 m pc ls [])) (hK2 : ∀ (x1 : Int32) (x2 : Int32) (f_t : Nat → Int32) (H : Heap) (locs : List Loc) (ls : Array Slot), va_P D vwCl [(h_t, .inr (4, [.ref h_tl])), (h_tl, .inl (cT 0, 16, .inl f_t))] H → va_D A [(h_t, .inr (4, [.ref h_tl])), (h_tl, .inl (cT 0, 16, .inl f_t))] → va_S A s.heap H locs → lv_has ls 4 [(0, .ref h_t), (1, .int x1), (2, .int x2)] → K2 x1 x2 f_t → W p l e ({ frames := 0, cells := 0, slots := 0, locals := 0 } : Room) s m args below meth c H locs 0 0 Q (F0 m 2 ls [])) : ∀ (x1 : Int32) (x2 : Int32) (y0 : Int32) (f_t : Nat → Int32) (H : Heap) (locs : List Loc) (ls : Array Slot), va_P D vwCl [(h_t, .inr (4, [.ref h_tl])), (h_tl, .inl (cT 0, 16, .inl f_t))] H → va_D A [(h_t, .inr (4, [.ref h_tl])), (h_tl, .inl (cT 0, 16, .inl f_t))] → va_S A s.heap H locs → lv_has ls 4 [(0, .ref h_t), (1, .int x1), (2, .int x2)] → wp_Natural_shiftRight_28 post K2 x1 x2 y0 f_t → W p l e ({ frames := 0, cells := 0, slots := 0, locals := 0 } : Room) s m args below meth c H locs 0 0 Q (F0 m 28 ls [.int y0]) := by
  obtain ⟨⟨hx, hb, hml, hown, hts⟩, hK, hN⟩ := id C0
  intro x1 x2 y0 f_t H locs ls hP hD hS hl hw
  unfold wp_Natural_shiftRight_28 at hw
  refine lv_istore_n (lv' := [(3, .int y0), (0, .ref h_t), (1, .int x1), (2, .int x2)]) hx hb dX4_shiftRight_28 rfl hl (by decide) rfl (fun ls hl => ?_)
  refine lv_aload_n hx hb dX4_shiftRight_29 rfl (lv_at hl 1 rfl) ?_
  refine va_get (D := D) (ci := 4) (v := .ref h_tl) (C := RX4) (T := TX4) (N := 1) hx hb hts inX4 hown hK hP 0 rfl rfl 0 (by decide) (hts _ q_105) (fun _ h9 => h9) rfl dX4_shiftRight_30 ?_
  refine lv_iload_n hx hb dX4_shiftRight_33 rfl (lv_at hl 3 rfl) ?_
  refine lv_aload_n hx hb dX4_shiftRight_34 rfl (lv_at hl 1 rfl) ?_
  refine va_get (D := D) (ci := 4) (v := .ref h_tl) (C := RX4) (T := TX4) (N := 1) hx hb hts inX4 hown hK hP 0 rfl rfl 0 (by decide) (hts _ q_105) (fun _ h9 => h9) rfl dX4_shiftRight_35 ?_
  refine lv_iload_n hx hb dX4_shiftRight_38 rfl (lv_at hl 3 rfl) ?_
  obtain ⟨h_3, hw⟩ := hw
  refine va_iald hx hb hK hP 1 0 rfl rfl h_3 dX4_shiftRight_39 ?_
  refine lv_iload_n hx hb dX4_shiftRight_40 rfl (lv_at hl 2 rfl) ?_
  refine lv_iushr hx hb dX4_shiftRight_41 rfl ?_
  refine lv_iload_n hx hb dX4_shiftRight_42 rfl (lv_at hl 0 rfl) ?_
  refine lv_bipush (v := 31) hx hb dX4_shiftRight_43 (by decide) ?_
  refine lv_iload_n hx hb dX4_shiftRight_45 rfl (lv_at hl 2 rfl) ?_
  refine lv_isub hx hb dX4_shiftRight_46 ?_
  refine lv_ishl hx hb dX4_shiftRight_47 ?_
  refine lv_ldc (v := 2147483647) hx hb hown (hts _ q_354) dX4_shiftRight_48 ?_
  refine lv_iand hx hb dX4_shiftRight_50 ?_
  refine lv_ior hx hb dX4_shiftRight_51 ?_
  obtain ⟨h_4, hw⟩ := hw
  refine va_iast hx hb hK hP hD hS 1 0 rfl rfl h_4 dX4_shiftRight_52 (fun H locs hP hD hS => ?_)
  have hP : va_P D vwCl [(h_t, .inr (4, [.ref h_tl])), (h_tl, .inl (cT 0, 16, .inl (upd f_t x2.toNatClampNeg ((((f_t x2.toNatClampNeg).toUInt32 >>> (x1.toUInt32 &&& Int32.toUInt32 31)).toInt32) ||| ((y0 <<< ((31 - x1) &&& 31)) &&& 2147483647)))))] H := hP
  have hD : va_D A [(h_t, .inr (4, [.ref h_tl])), (h_tl, .inl (cT 0, 16, .inl (upd f_t x2.toNatClampNeg ((((f_t x2.toNatClampNeg).toUInt32 >>> (x1.toUInt32 &&& Int32.toUInt32 31)).toInt32) ||| ((y0 <<< ((31 - x1) &&& 31)) &&& 2147483647)))))] := hD
  obtain ⟨x2_5, ex2_5⟩ : ∃ y : Int32, y = x2 + 1 := ⟨_, rfl⟩
  refine lv_iinc (v := x2_5) (lv' := [(2, .int x2_5), (3, .int y0), (0, .ref h_t), (1, .int x1)]) hx hb dX4_shiftRight_53 hl (k := 3) rfl (by rw [ex2_5]; rfl) (by decide) rfl (fun ls hl => ?_)
  have hw := hw x2_5 ex2_5
  refine lv_goto (tgt := 2) hx hb dX4_shiftRight_56 (by decide) ?_
  exact hK2 _ _ _ _ _ _ hP hD hS (lv_sub hl [2, 3, 0] rfl) hw
set_option maxHeartbeats 4000000 in
set_option maxRecDepth 100000 in
theorem tw_Natural_shiftRight_2 {post : (Nat → Int32) → Prop} {h_t h_tl : Nat}   (C0 : cx RX4 cX4_shiftRight 4 D cT p s m c args) (hA : ∀ q, s.heap.size ≤ q → A q) (hret : ∀ (f_t : Nat → Int32) (H : Heap) (locs : List Loc) (pc : Nat) (ls : Array Slot), post f_t → va_P D vwCl [(h_t, .inr (4, [.ref h_tl])), (h_tl, .inl (cT 0, 16, .inl f_t))] H → va_D A [(h_t, .inr (4, [.ref h_tl])), (h_tl, .inl (cT 0, 16, .inl f_t))] → va_S A s.heap H locs → decode cX4_shiftRight pc = .ok (.return_, 1) → W p l e ({ frames := 0, cells := 0, slots := 0, locals := 0 } : Room) s m args below meth c H locs 0 0 Q (F0 m pc ls []))  : ∀ (n : Nat) (x1 : Int32) (x2 : Int32) (f_t : Nat → Int32) (H : Heap) (locs : List Loc) (ls : Array Slot), va_P D vwCl [(h_t, .inr (4, [.ref h_tl])), (h_tl, .inl (cT 0, 16, .inl f_t))] H → va_D A [(h_t, .inr (4, [.ref h_tl])), (h_tl, .inl (cT 0, 16, .inl f_t))] → va_S A s.heap H locs → lv_has ls 4 [(0, .ref h_t), (1, .int x1), (2, .int x2)] → wp_Natural_shiftRight_2 post n x1 x2 f_t → W p l e ({ frames := 0, cells := 0, slots := 0, locals := 0 } : Room) s m args below meth c H locs 0 0 Q (F0 m 2 ls []) := by
  obtain ⟨⟨hx, hb, hml, hown, hts⟩, hK, hN⟩ := id C0
  intro n
  induction n with
  | zero => intro x1 x2 f_t H locs ls hP hD hS hl hw; exact hw.elim
  | succ n ih =>
    intro x1 x2 f_t H locs ls hP hD hS hl hw
    unfold wp_Natural_shiftRight_2 at hw
    refine lv_iload_n hx hb dX4_shiftRight_2 rfl (lv_at hl 2 rfl) ?_
    refine lv_bipush (v := 16) hx hb dX4_shiftRight_3 (by decide) ?_
    refine lv_icmp_ge (tgt := 59) hx hb dX4_shiftRight_5 (by decide) (fun c_1 => ?_) (fun c_1 => ?_)
    · have hw := hw.1 c_1
      exact hret _ _ _ _ _ hw hP hD hS dX4_shiftRight_59
    · have hw := hw.2 c_1
      refine lv_iload_n hx hb dX4_shiftRight_8 rfl (lv_at hl 2 rfl) ?_
      refine lv_iconst (v := 1) hx hb dX4_shiftRight_9 (by decide) ?_
      refine lv_iadd hx hb dX4_shiftRight_10 ?_
      refine lv_bipush (v := 16) hx hb dX4_shiftRight_11 (by decide) ?_
      refine lv_icmp_ge (tgt := 27) hx hb dX4_shiftRight_13 (by decide) (fun c_2 => ?_) (fun c_2 => ?_)
      · have hw := hw.1 c_2
        refine lv_iconst (v := 0) hx hb dX4_shiftRight_27 (by decide) ?_
        exact tw_Natural_shiftRight_28 C0 hA hret ih _ _ _ _ _ _ _ hP hD hS (lv_sub hl [0, 1, 2] rfl) hw
      · have hw := hw.2 c_2
        refine lv_aload_n hx hb dX4_shiftRight_16 rfl (lv_at hl 0 rfl) ?_
        refine va_get (D := D) (ci := 4) (v := .ref h_tl) (C := RX4) (T := TX4) (N := 1) hx hb hts inX4 hown hK hP 0 rfl rfl 0 (by decide) (hts _ q_105) (fun _ h9 => h9) rfl dX4_shiftRight_17 ?_
        refine lv_iload_n hx hb dX4_shiftRight_20 rfl (lv_at hl 2 rfl) ?_
        refine lv_iconst (v := 1) hx hb dX4_shiftRight_21 (by decide) ?_
        refine lv_iadd hx hb dX4_shiftRight_22 ?_
        obtain ⟨h_6, hw⟩ := hw
        refine va_iald hx hb hK hP 1 0 rfl rfl h_6 dX4_shiftRight_23 ?_
        refine lv_goto (tgt := 28) hx hb dX4_shiftRight_24 (by decide) ?_
        exact tw_Natural_shiftRight_28 C0 hA hret ih _ _ _ _ _ _ _ hP hD hS (lv_sub hl [0, 1, 2] rfl) hw
set_option maxHeartbeats 4000000 in
set_option maxRecDepth 100000 in
theorem tw_Natural_shiftRight {post : (Nat → Int32) → Prop} {h_t h_tl : Nat}   (C0 : cx RX4 cX4_shiftRight 4 D cT p s m c args) (hA : ∀ q, s.heap.size ≤ q → A q) (hret : ∀ (f_t : Nat → Int32) (H : Heap) (locs : List Loc) (pc : Nat) (ls : Array Slot), post f_t → va_P D vwCl [(h_t, .inr (4, [.ref h_tl])), (h_tl, .inl (cT 0, 16, .inl f_t))] H → va_D A [(h_t, .inr (4, [.ref h_tl])), (h_tl, .inl (cT 0, 16, .inl f_t))] → va_S A s.heap H locs → decode cX4_shiftRight pc = .ok (.return_, 1) → W p l e ({ frames := 0, cells := 0, slots := 0, locals := 0 } : Room) s m args below meth c H locs 0 0 Q (F0 m pc ls []))  : ∀ (x1 : Int32) (f_t : Nat → Int32) (H : Heap) (locs : List Loc) (ls : Array Slot), va_P D vwCl [(h_t, .inr (4, [.ref h_tl])), (h_tl, .inl (cT 0, 16, .inl f_t))] H → va_D A [(h_t, .inr (4, [.ref h_tl])), (h_tl, .inl (cT 0, 16, .inl f_t))] → va_S A s.heap H locs → lv_has ls 4 [(0, .ref h_t), (1, .int x1)] → wp_Natural_shiftRight post x1 f_t → W p l e ({ frames := 0, cells := 0, slots := 0, locals := 0 } : Room) s m args below meth c H locs 0 0 Q (F0 m 0 ls []) := by
  obtain ⟨⟨hx, hb, hml, hown, hts⟩, hK, hN⟩ := id C0
  intro x1 f_t H locs ls hP hD hS hl hw
  unfold wp_Natural_shiftRight at hw
  refine lv_iconst (v := 0) hx hb dX4_shiftRight_0 (by decide) ?_
  refine lv_istore_n (lv' := [(2, .int 0), (0, .ref h_t), (1, .int x1)]) hx hb dX4_shiftRight_1 rfl hl (by decide) rfl (fun ls hl => ?_)
  obtain ⟨n9, hw⟩ := hw
  exact tw_Natural_shiftRight_2 C0 hA hret  n9 _ _ _ _ _ _ hP hD hS (lv_sub hl [1, 2, 0] rfl) hw
set_option maxHeartbeats 4000000 in
set_option maxRecDepth 100000 in
theorem cn_Natural_shiftRight (l : Launch) (D : va_G) (cT : Nat → ClassId) (h_t h_tl : Nat) (sz : Nat) (f_t : Nat → Int32) (x1 : Int32) (post : (Nat → Int32) → Prop) (hw : wp_Natural_shiftRight post x1 f_t) : Met l yX4_shiftRight wX4_shiftRight ({ frames := 0, cells := 0, slots := 0, locals := 0 } : Room) (va_Pc [.ref h_t, .int x1] (pre_ D cT [(h_t, .inr (4, [.ref h_tl])), (h_tl, .inl (cT 0, 16, .inl f_t))] sz)) (va_Qv (fun (u : (Nat → Int32)) => post u) (fun u t => va_P D vwCl [(h_t, .inr (4, [.ref h_tl])), (h_tl, .inl (cT 0, 16, .inl u))] t.heap ∧ va_D (va_A [(h_t, .inr (4, [.ref h_tl])), (h_tl, .inl (cT 0, 16, .inl f_t))] sz) [(h_t, .inr (4, [.ref h_tl])), (h_tl, .inl (cT 0, 16, .inl u))]) (va_A [(h_t, .inr (4, [.ref h_tl])), (h_tl, .inl (cT 0, 16, .inl f_t))] sz)) 0 0 (va_A [(h_t, .inr (4, [.ref h_tl])), (h_tl, .inl (cT 0, 16, .inl f_t))] sz) := by
  refine Met.ofW (cc := cX4_shiftRight) (maxL := 4) (ret := none) (by decide) rfl ?_
  intro p e s m args below meth c s₁ B hml hv
  obtain ⟨rfl, hsz, hP, hK, hD0, hN⟩ := hv
  have hx := B.exec
  have hb := B.bytes
  have hr := B.returns
  have hts : ∀ w ∈ WG, w.before _ s = true := fun w h => atoms_spec (ws := wX4_shiftRight) B.pre w (List.mem_cons_of_mem _ h)
  have hown : s.vm.findClass RX4 = some m.cls := findClass_of_methodNamed B.named
  have hlocks := B.notSynchronized
  subst hsz
  have hD := hD0.self (sz := s.heap.size)
  generalize hAe : va_A [(h_t, .inr (4, [.ref h_tl])), (h_tl, .inl (cT 0, 16, .inl f_t))] s.heap.size = A at hD ⊢
  have hA : ∀ q : Nat, s.heap.size ≤ q → A q := fun q h => by rw [← hAe]; exact Or.inr h
  have hS : va_S A s.heap s.heap [] := va_S.rf
  have hl := lv_entry ([.ref h_t, .int x1]) (n := 4) (Nat.le_of_ble_eq_true rfl)
  rw [lg_entry_eq]
  generalize (lg_sl ([.ref h_t, .int x1]) ++ List.replicate (4 - (lg_sl ([.ref h_t, .int x1])).length) Slot.unset).toArray = ls at hl ⊢
  refine tw_Natural_shiftRight (Q := MQ below _ _ s 0 0 A) ⟨⟨hx, hb, hml, hown, hts⟩, hK, hN⟩ hA (fun f_t H locs pc ls hp hP hD hS hd => W.vret hx hb hr (fun t ht hW => ⟨⟨(f_t), rfl, hp, by rw [ht]; exact hP, hD⟩, hS.F ht⟩) hS.2.2 hd) _ _ _ _ _ hP hD hS hl hw
end
def wp_Natural_dropTwos_29 (post : (Nat → Int32) → Prop)   (f_t : Nat → Int32) : Prop := post f_t
def wp_Natural_dropTwos_2 (post : (Nat → Int32) → Prop)   : Nat → Int32 → (Nat → Int32) → Prop
  | 0 => fun _ _ => False
  | n + 1 => fun x1 f_t => ((16 < x1 → (wp_Natural_dropTwos_29 post f_t)) ∧ (¬ 16 < x1 → (wp_Natural_isEven (fun r_2 => ((r_2 = 0 → (wp_Natural_dropTwos_29 post f_t)) ∧ (¬ r_2 = 0 → (wp_Natural_lowTwos (fun r_4 => wp_Natural_shiftRight (fun u_5 => ∀ x1_6 : Int32, x1_6 = x1 + 1 → wp_Natural_dropTwos_2 post n x1_6 u_5) r_4 f_t) f_t)))) f_t)))
def wp_Natural_dropTwos (post : (Nat → Int32) → Prop)   (f_t : Nat → Int32) : Prop := ∃ k9, wp_Natural_dropTwos_2 post k9 0 f_t
section
variable {p : Program} {l : Launch} {e : Env} {s : State} {m : MethodId} {args : Array Value} {below : List Frame} {meth : Method} {c : Code} {Q : State → Prop} {A : Nat → Prop} {D : va_G} {cT : Nat → ClassId}
set_option maxHeartbeats 4000000 in
set_option maxRecDepth 100000 in
theorem tw_Natural_dropTwos_29 {post : (Nat → Int32) → Prop} {h_t h_tl : Nat}   (C0 : cx RX4 cX4_dropTwos 2 D cT p s m c args) (hA : ∀ q, s.heap.size ≤ q → A q) (hret : ∀ (f_t : Nat → Int32) (H : Heap) (locs : List Loc) (pc : Nat) (ls : Array Slot), post f_t → va_P D vwCl [(h_t, .inr (4, [.ref h_tl])), (h_tl, .inl (cT 0, 16, .inl f_t))] H → va_D A [(h_t, .inr (4, [.ref h_tl])), (h_tl, .inl (cT 0, 16, .inl f_t))] → va_S A s.heap H locs → decode cX4_dropTwos pc = .ok (.return_, 1) → W p l e ({ frames := 2, cells := 0, slots := 0, locals := 41 } : Room) s m args below meth c H locs 0 0 Q (F0 m pc ls []))  : ∀ (f_t : Nat → Int32) (H : Heap) (locs : List Loc) (ls : Array Slot), va_P D vwCl [(h_t, .inr (4, [.ref h_tl])), (h_tl, .inl (cT 0, 16, .inl f_t))] H → va_D A [(h_t, .inr (4, [.ref h_tl])), (h_tl, .inl (cT 0, 16, .inl f_t))] → va_S A s.heap H locs → lv_has ls 2 [] → wp_Natural_dropTwos_29 post f_t → W p l e ({ frames := 2, cells := 0, slots := 0, locals := 41 } : Room) s m args below meth c H locs 0 0 Q (F0 m 29 ls []) := by
  obtain ⟨⟨hx, hb, hml, hown, hts⟩, hK, hN⟩ := id C0
  intro f_t H locs ls hP hD hS hl hw
  unfold wp_Natural_dropTwos_29 at hw
  exact hret _ _ _ _ _ hw hP hD hS dX4_dropTwos_29
set_option maxHeartbeats 4000000 in
set_option maxRecDepth 100000 in
theorem tw_Natural_dropTwos_2 {post : (Nat → Int32) → Prop} {h_t h_tl : Nat}   (C0 : cx RX4 cX4_dropTwos 2 D cT p s m c args) (hA : ∀ q, s.heap.size ≤ q → A q) (hret : ∀ (f_t : Nat → Int32) (H : Heap) (locs : List Loc) (pc : Nat) (ls : Array Slot), post f_t → va_P D vwCl [(h_t, .inr (4, [.ref h_tl])), (h_tl, .inl (cT 0, 16, .inl f_t))] H → va_D A [(h_t, .inr (4, [.ref h_tl])), (h_tl, .inl (cT 0, 16, .inl f_t))] → va_S A s.heap H locs → decode cX4_dropTwos pc = .ok (.return_, 1) → W p l e ({ frames := 2, cells := 0, slots := 0, locals := 41 } : Room) s m args below meth c H locs 0 0 Q (F0 m pc ls []))  : ∀ (n : Nat) (x1 : Int32) (f_t : Nat → Int32) (H : Heap) (locs : List Loc) (ls : Array Slot), va_P D vwCl [(h_t, .inr (4, [.ref h_tl])), (h_tl, .inl (cT 0, 16, .inl f_t))] H → va_D A [(h_t, .inr (4, [.ref h_tl])), (h_tl, .inl (cT 0, 16, .inl f_t))] → va_S A s.heap H locs → lv_has ls 2 [(0, .ref h_t), (1, .int x1)] → wp_Natural_dropTwos_2 post n x1 f_t → W p l e ({ frames := 2, cells := 0, slots := 0, locals := 41 } : Room) s m args below meth c H locs 0 0 Q (F0 m 2 ls []) := by
  obtain ⟨⟨hx, hb, hml, hown, hts⟩, hK, hN⟩ := id C0
  intro n
  induction n with
  | zero => intro x1 f_t H locs ls hP hD hS hl hw; exact hw.elim
  | succ n ih =>
    intro x1 f_t H locs ls hP hD hS hl hw
    unfold wp_Natural_dropTwos_2 at hw
    refine lv_iload_n hx hb dX4_dropTwos_2 rfl (lv_at hl 1 rfl) ?_
    refine lv_bipush (v := 16) hx hb dX4_dropTwos_3 (by decide) ?_
    refine lv_icmp_gt (tgt := 29) hx hb dX4_dropTwos_5 (by decide) (fun c_1 => ?_) (fun c_1 => ?_)
    · have hw := hw.1 c_1
      exact tw_Natural_dropTwos_29 C0 hA hret  _ _ _ _ hP hD hS (lv_sub hl [] rfl) hw
    · have hw := hw.2 c_1
      refine lv_aload_n hx hb dX4_dropTwos_8 rfl (lv_at hl 0 rfl) ?_
      have hPc := hP.sub (ws' := [(h_t, .inr (4, [.ref h_tl])), (h_tl, .inl (cT 0, 16, .inl f_t))]) [0, 1] rfl
      have hDc := hD.sub (ws' := [(h_t, .inr (4, [.ref h_tl])), (h_tl, .inl (cT 0, 16, .inl f_t))]) [0, 1] (by decide) rfl
      have hFc := va_free (wc := [(h_t, .inr (4, [.ref h_tl])), (h_tl, .inl (cT 0, 16, .inl f_t))]) hD hS hA [0, 1] rfl
      refine va_calli (va_runV (As := []) (rest := []) ⟨hx, hb, hml, hown, hts⟩ (cn_Natural_isEven l D cT h_t h_tl H.size f_t _ hw) (gv_ 0 q_336 q_6 q_363 q_334 q_335 (by decide +kernel) ⟨Nat.le_of_ble_eq_true rfl, Nat.le_of_ble_eq_true rfl⟩ hts) ⟨pre_blind, va_recv hK hPc (ci := 4) (q0 := 0) rfl rfl, fun U hU hW => ⟨rfl, pre_mk hU hW hPc hK hDc hN⟩⟩ rfl rfl hl.1 rfl (lv_room (Nat.le_of_ble_eq_true rfl)) dX4_dropTwos_9 ⟨(Nat.zero_le _), (Nat.zero_le _)⟩) hS (fun q _ h => hFc q h) hFc (fun r_2 u9 t H locs ht hvm hw hB hz1 hk1 hS => ?_)
      obtain ⟨hP1, hD1⟩ := hB
      rw [ht] at hP1
      obtain ⟨hP, hD⟩ := va_join (wr := []) (w1 := [(h_t, .inr (4, [.ref h_tl])), (h_tl, .inl (cT 0, 16, .inl f_t))]) hP hD [0, 1] [] rfl rfl (by decide) (by decide) hk1 hFc hP1 hD1
      have hP := hP.sub (ws' := [(h_t, .inr (4, [.ref h_tl])), (h_tl, .inl (cT 0, 16, .inl f_t))]) [0, 1] rfl
      have hD := hD.sub (ws' := [(h_t, .inr (4, [.ref h_tl])), (h_tl, .inl (cT 0, 16, .inl f_t))]) [0, 1] (by decide) rfl
      clear hP1 hD1 hPc hDc hFc hk1 hz1 hvm ht
      try dsimp only at hw
      refine lv_if_eq (tgt := 29) hx hb dX4_dropTwos_12 (by decide) (fun c_3 => ?_) (fun c_3 => ?_)
      · have hw := hw.1 c_3
        exact tw_Natural_dropTwos_29 C0 hA hret  _ _ _ _ hP hD hS (lv_sub hl [] rfl) hw
      · have hw := hw.2 c_3
        refine lv_aload_n hx hb dX4_dropTwos_15 rfl (lv_at hl 0 rfl) ?_
        refine lv_aload_n hx hb dX4_dropTwos_16 rfl (lv_at hl 0 rfl) ?_
        have hPc := hP.sub (ws' := [(h_t, .inr (4, [.ref h_tl])), (h_tl, .inl (cT 0, 16, .inl f_t))]) [0, 1] rfl
        have hDc := hD.sub (ws' := [(h_t, .inr (4, [.ref h_tl])), (h_tl, .inl (cT 0, 16, .inl f_t))]) [0, 1] (by decide) rfl
        have hFc := va_free (wc := [(h_t, .inr (4, [.ref h_tl])), (h_tl, .inl (cT 0, 16, .inl f_t))]) hD hS hA [0, 1] rfl
        refine va_calli (va_runV (As := []) (rest := [.ref h_t]) ⟨hx, hb, hml, hown, hts⟩ (cn_Natural_lowTwos l D cT h_t h_tl H.size f_t _ hw) (gv_ 0 q_340 q_6 q_364 q_338 q_339 (by decide +kernel) ⟨Nat.le_of_ble_eq_true rfl, Nat.le_of_ble_eq_true rfl⟩ hts) ⟨pre_blind, va_recv hK hPc (ci := 4) (q0 := 0) rfl rfl, fun U hU hW => ⟨rfl, pre_mk hU hW hPc hK hDc hN⟩⟩ rfl rfl hl.1 rfl (lv_room (Nat.le_of_ble_eq_true rfl)) dX4_dropTwos_17 ⟨(Nat.zero_le _), (Nat.zero_le _)⟩) hS (fun q _ h => hFc q h) hFc (fun r_4 u9 t H locs ht hvm hw hB hz1 hk1 hS => ?_)
        obtain ⟨hP1, hD1⟩ := hB
        rw [ht] at hP1
        obtain ⟨hP, hD⟩ := va_join (wr := []) (w1 := [(h_t, .inr (4, [.ref h_tl])), (h_tl, .inl (cT 0, 16, .inl f_t))]) hP hD [0, 1] [] rfl rfl (by decide) (by decide) hk1 hFc hP1 hD1
        have hP := hP.sub (ws' := [(h_t, .inr (4, [.ref h_tl])), (h_tl, .inl (cT 0, 16, .inl f_t))]) [0, 1] rfl
        have hD := hD.sub (ws' := [(h_t, .inr (4, [.ref h_tl])), (h_tl, .inl (cT 0, 16, .inl f_t))]) [0, 1] (by decide) rfl
        clear hP1 hD1 hPc hDc hFc hk1 hz1 hvm ht
        try dsimp only at hw
        have hPc := hP.sub (ws' := [(h_t, .inr (4, [.ref h_tl])), (h_tl, .inl (cT 0, 16, .inl f_t))]) [0, 1] rfl
        have hDc := hD.sub (ws' := [(h_t, .inr (4, [.ref h_tl])), (h_tl, .inl (cT 0, 16, .inl f_t))]) [0, 1] (by decide) rfl
        have hFc := va_free (wc := [(h_t, .inr (4, [.ref h_tl])), (h_tl, .inl (cT 0, 16, .inl f_t))]) hD hS hA [0, 1] rfl
        refine va_callv (va_runV (As := [.int r_4]) (rest := []) ⟨hx, hb, hml, hown, hts⟩ (cn_Natural_shiftRight l D cT h_t h_tl H.size f_t r_4 _ hw) (gv_ 1 q_353 q_6 q_365 q_351 q_352 (by decide +kernel) ⟨Nat.le_of_ble_eq_true rfl, Nat.le_of_ble_eq_true rfl⟩ hts) ⟨pre_blind, va_recv hK hPc (ci := 4) (q0 := 0) rfl rfl, fun U hU hW => ⟨rfl, pre_mk hU hW hPc hK hDc hN⟩⟩ rfl rfl hl.1 rfl (lv_room (Nat.le_of_ble_eq_true rfl)) dX4_dropTwos_20 ⟨(Nat.zero_le _), (Nat.zero_le _)⟩) hS (fun q _ h => hFc q h) hFc (fun u9 t H locs ht hvm hw hB hz1 hk1 hS => ?_)
        obtain ⟨u_5, rfl⟩ : ∃ z, z = u9 := ⟨_, rfl⟩
        obtain ⟨hP1, hD1⟩ := hB
        rw [ht] at hP1
        obtain ⟨hP, hD⟩ := va_join (wr := []) (w1 := [(h_t, .inr (4, [.ref h_tl])), (h_tl, .inl (cT 0, 16, .inl u_5))]) hP hD [0, 1] [] rfl rfl (by decide) (by decide) hk1 hFc hP1 hD1
        have hP := hP.sub (ws' := [(h_t, .inr (4, [.ref h_tl])), (h_tl, .inl (cT 0, 16, .inl u_5))]) [0, 1] rfl
        have hD := hD.sub (ws' := [(h_t, .inr (4, [.ref h_tl])), (h_tl, .inl (cT 0, 16, .inl u_5))]) [0, 1] (by decide) rfl
        clear hP1 hD1 hPc hDc hFc hk1 hz1 hvm ht
        try dsimp only at hw
        obtain ⟨x1_6, ex1_6⟩ : ∃ y : Int32, y = x1 + 1 := ⟨_, rfl⟩
        refine lv_iinc (v := x1_6) (lv' := [(1, .int x1_6), (0, .ref h_t)]) hx hb dX4_dropTwos_23 hl (k := 1) rfl (by rw [ex1_6]; rfl) (by decide) rfl (fun ls hl => ?_)
        have hw := hw x1_6 ex1_6
        refine lv_goto (tgt := 2) hx hb dX4_dropTwos_26 (by decide) ?_
        exact ih _ _ _ _ _ hP hD hS (lv_sub hl [1, 0] rfl) hw
set_option maxHeartbeats 4000000 in
set_option maxRecDepth 100000 in
theorem tw_Natural_dropTwos {post : (Nat → Int32) → Prop} {h_t h_tl : Nat}   (C0 : cx RX4 cX4_dropTwos 2 D cT p s m c args) (hA : ∀ q, s.heap.size ≤ q → A q) (hret : ∀ (f_t : Nat → Int32) (H : Heap) (locs : List Loc) (pc : Nat) (ls : Array Slot), post f_t → va_P D vwCl [(h_t, .inr (4, [.ref h_tl])), (h_tl, .inl (cT 0, 16, .inl f_t))] H → va_D A [(h_t, .inr (4, [.ref h_tl])), (h_tl, .inl (cT 0, 16, .inl f_t))] → va_S A s.heap H locs → decode cX4_dropTwos pc = .ok (.return_, 1) → W p l e ({ frames := 2, cells := 0, slots := 0, locals := 41 } : Room) s m args below meth c H locs 0 0 Q (F0 m pc ls []))  : ∀ (f_t : Nat → Int32) (H : Heap) (locs : List Loc) (ls : Array Slot), va_P D vwCl [(h_t, .inr (4, [.ref h_tl])), (h_tl, .inl (cT 0, 16, .inl f_t))] H → va_D A [(h_t, .inr (4, [.ref h_tl])), (h_tl, .inl (cT 0, 16, .inl f_t))] → va_S A s.heap H locs → lv_has ls 2 [(0, .ref h_t)] → wp_Natural_dropTwos post f_t → W p l e ({ frames := 2, cells := 0, slots := 0, locals := 41 } : Room) s m args below meth c H locs 0 0 Q (F0 m 0 ls []) := by
  obtain ⟨⟨hx, hb, hml, hown, hts⟩, hK, hN⟩ := id C0
  intro f_t H locs ls hP hD hS hl hw
  unfold wp_Natural_dropTwos at hw
  refine lv_iconst (v := 0) hx hb dX4_dropTwos_0 (by decide) ?_
  refine lv_istore_n (lv' := [(1, .int 0), (0, .ref h_t)]) hx hb dX4_dropTwos_1 rfl hl (by decide) rfl (fun ls hl => ?_)
  obtain ⟨n9, hw⟩ := hw
  exact tw_Natural_dropTwos_2 C0 hA hret  n9 _ _ _ _ _ hP hD hS (lv_sub hl [1, 0] rfl) hw
set_option maxHeartbeats 4000000 in
set_option maxRecDepth 100000 in
theorem cn_Natural_dropTwos (l : Launch) (D : va_G) (cT : Nat → ClassId) (h_t h_tl : Nat) (sz : Nat) (f_t : Nat → Int32)  (post : (Nat → Int32) → Prop) (hw : wp_Natural_dropTwos post f_t) : Met l yX4_dropTwos wX4_dropTwos ({ frames := 2, cells := 0, slots := 0, locals := 41 } : Room) (va_Pc [.ref h_t] (pre_ D cT [(h_t, .inr (4, [.ref h_tl])), (h_tl, .inl (cT 0, 16, .inl f_t))] sz)) (va_Qv (fun (u : (Nat → Int32)) => post u) (fun u t => va_P D vwCl [(h_t, .inr (4, [.ref h_tl])), (h_tl, .inl (cT 0, 16, .inl u))] t.heap ∧ va_D (va_A [(h_t, .inr (4, [.ref h_tl])), (h_tl, .inl (cT 0, 16, .inl f_t))] sz) [(h_t, .inr (4, [.ref h_tl])), (h_tl, .inl (cT 0, 16, .inl u))]) (va_A [(h_t, .inr (4, [.ref h_tl])), (h_tl, .inl (cT 0, 16, .inl f_t))] sz)) 0 0 (va_A [(h_t, .inr (4, [.ref h_tl])), (h_tl, .inl (cT 0, 16, .inl f_t))] sz) := by
  refine Met.ofW (cc := cX4_dropTwos) (maxL := 2) (ret := none) (by decide) rfl ?_
  intro p e s m args below meth c s₁ B hml hv
  obtain ⟨rfl, hsz, hP, hK, hD0, hN⟩ := hv
  have hx := B.exec
  have hb := B.bytes
  have hr := B.returns
  have hts : ∀ w ∈ WG, w.before _ s = true := fun w h => atoms_spec (ws := wX4_dropTwos) B.pre w (List.mem_cons_of_mem _ h)
  have hown : s.vm.findClass RX4 = some m.cls := findClass_of_methodNamed B.named
  have hlocks := B.notSynchronized
  subst hsz
  have hD := hD0.self (sz := s.heap.size)
  generalize hAe : va_A [(h_t, .inr (4, [.ref h_tl])), (h_tl, .inl (cT 0, 16, .inl f_t))] s.heap.size = A at hD ⊢
  have hA : ∀ q : Nat, s.heap.size ≤ q → A q := fun q h => by rw [← hAe]; exact Or.inr h
  have hS : va_S A s.heap s.heap [] := va_S.rf
  have hl := lv_entry ([.ref h_t]) (n := 2) (Nat.le_of_ble_eq_true rfl)
  rw [lg_entry_eq]
  generalize (lg_sl ([.ref h_t]) ++ List.replicate (2 - (lg_sl ([.ref h_t])).length) Slot.unset).toArray = ls at hl ⊢
  refine tw_Natural_dropTwos (Q := MQ below _ _ s 0 0 A) ⟨⟨hx, hb, hml, hown, hts⟩, hK, hN⟩ hA (fun f_t H locs pc ls hp hP hD hS hd => W.vret hx hb hr (fun t ht hW => ⟨⟨(f_t), rfl, hp, by rw [ht]; exact hP, hD⟩, hS.F ht⟩) hS.2.2 hd) _ _ _ _ hP hD hS hl hw
end
def wp_Natural_inverseOfOdd_4 (post : Int32 → Prop)   : Nat → Int32 → Int32 → Int32 → Prop
  | 0 => fun _ _ _ => False
  | n + 1 => fun x0 x1 x2 => ((4 ≤ x2 → (post x1)) ∧ (¬ 4 ≤ x2 → (∀ x1_2 : Int32, x1_2 = x1 * (2 - (x0 * x1)) → ∀ x2_3 : Int32, x2_3 = x2 + 1 → wp_Natural_inverseOfOdd_4 post n x0 x1_2 x2_3)))
def wp_Natural_inverseOfOdd (post : Int32 → Prop)   (x0 : Int32) : Prop := ∃ k9, wp_Natural_inverseOfOdd_4 post k9 x0 x0 0
section
variable {p : Program} {l : Launch} {e : Env} {s : State} {m : MethodId} {args : Array Value} {below : List Frame} {meth : Method} {c : Code} {Q : State → Prop} {A : Nat → Prop} {D : va_G} {cT : Nat → ClassId}
set_option maxHeartbeats 4000000 in
set_option maxRecDepth 100000 in
theorem tw_Natural_inverseOfOdd_4 {post : Int32 → Prop}   (C0 : cx RX4 cX4_inverseOfOdd 3 D cT p s m c args) (hA : ∀ q, s.heap.size ≤ q → A q) (hret : ∀ (r : Int32)  (H : Heap) (locs : List Loc) (pc : Nat) (ls : Array Slot), post r → va_P D vwCl [] H → va_D A [] → va_S A s.heap H locs → decode cX4_inverseOfOdd pc = .ok (.ireturn, 1) → W p l e ({ frames := 0, cells := 0, slots := 0, locals := 0 } : Room) s m args below meth c H locs 0 0 Q (F0 m pc ls [.int r]))  : ∀ (n : Nat) (x0 : Int32) (x1 : Int32) (x2 : Int32) (H : Heap) (locs : List Loc) (ls : Array Slot), va_P D vwCl [] H → va_D A [] → va_S A s.heap H locs → lv_has ls 3 [(0, .int x0), (1, .int x1), (2, .int x2)] → wp_Natural_inverseOfOdd_4 post n x0 x1 x2 → W p l e ({ frames := 0, cells := 0, slots := 0, locals := 0 } : Room) s m args below meth c H locs 0 0 Q (F0 m 4 ls []) := by
  obtain ⟨⟨hx, hb, hml, hown, hts⟩, hK, hN⟩ := id C0
  intro n
  induction n with
  | zero => intro x0 x1 x2 H locs ls hP hD hS hl hw; exact hw.elim
  | succ n ih =>
    intro x0 x1 x2 H locs ls hP hD hS hl hw
    unfold wp_Natural_inverseOfOdd_4 at hw
    refine lv_iload_n hx hb dX4_inverseOfOdd_4 rfl (lv_at hl 2 rfl) ?_
    refine lv_iconst (v := 4) hx hb dX4_inverseOfOdd_5 (by decide) ?_
    refine lv_icmp_ge (tgt := 23) hx hb dX4_inverseOfOdd_6 (by decide) (fun c_1 => ?_) (fun c_1 => ?_)
    · have hw := hw.1 c_1
      refine lv_iload_n hx hb dX4_inverseOfOdd_23 rfl (lv_at hl 1 rfl) ?_
      exact hret _  _ _ _ _ hw hP hD hS dX4_inverseOfOdd_24
    · have hw := hw.2 c_1
      refine lv_iload_n hx hb dX4_inverseOfOdd_9 rfl (lv_at hl 1 rfl) ?_
      refine lv_iconst (v := 2) hx hb dX4_inverseOfOdd_10 (by decide) ?_
      refine lv_iload_n hx hb dX4_inverseOfOdd_11 rfl (lv_at hl 0 rfl) ?_
      refine lv_iload_n hx hb dX4_inverseOfOdd_12 rfl (lv_at hl 1 rfl) ?_
      refine lv_imul hx hb dX4_inverseOfOdd_13 ?_
      refine lv_isub hx hb dX4_inverseOfOdd_14 ?_
      refine lv_imul hx hb dX4_inverseOfOdd_15 ?_
      refine lv_topi (fun x1_2 ex1_2 => ?_)
      have hw := hw x1_2 ex1_2
      refine lv_istore_n (lv' := [(1, .int x1_2), (0, .int x0), (2, .int x2)]) hx hb dX4_inverseOfOdd_16 rfl hl (by decide) rfl (fun ls hl => ?_)
      obtain ⟨x2_3, ex2_3⟩ : ∃ y : Int32, y = x2 + 1 := ⟨_, rfl⟩
      refine lv_iinc (v := x2_3) (lv' := [(2, .int x2_3), (1, .int x1_2), (0, .int x0)]) hx hb dX4_inverseOfOdd_17 hl (k := 2) rfl (by rw [ex2_3]; rfl) (by decide) rfl (fun ls hl => ?_)
      have hw := hw x2_3 ex2_3
      refine lv_goto (tgt := 4) hx hb dX4_inverseOfOdd_20 (by decide) ?_
      exact ih _ _ _ _ _ _ hP hD hS (lv_sub hl [2, 1, 0] rfl) hw
set_option maxHeartbeats 4000000 in
set_option maxRecDepth 100000 in
theorem tw_Natural_inverseOfOdd {post : Int32 → Prop}   (C0 : cx RX4 cX4_inverseOfOdd 3 D cT p s m c args) (hA : ∀ q, s.heap.size ≤ q → A q) (hret : ∀ (r : Int32)  (H : Heap) (locs : List Loc) (pc : Nat) (ls : Array Slot), post r → va_P D vwCl [] H → va_D A [] → va_S A s.heap H locs → decode cX4_inverseOfOdd pc = .ok (.ireturn, 1) → W p l e ({ frames := 0, cells := 0, slots := 0, locals := 0 } : Room) s m args below meth c H locs 0 0 Q (F0 m pc ls [.int r]))  : ∀ (x0 : Int32) (H : Heap) (locs : List Loc) (ls : Array Slot), va_P D vwCl [] H → va_D A [] → va_S A s.heap H locs → lv_has ls 3 [(0, .int x0)] → wp_Natural_inverseOfOdd post x0 → W p l e ({ frames := 0, cells := 0, slots := 0, locals := 0 } : Room) s m args below meth c H locs 0 0 Q (F0 m 0 ls []) := by
  obtain ⟨⟨hx, hb, hml, hown, hts⟩, hK, hN⟩ := id C0
  intro x0 H locs ls hP hD hS hl hw
  unfold wp_Natural_inverseOfOdd at hw
  refine lv_iload_n hx hb dX4_inverseOfOdd_0 rfl (lv_at hl 0 rfl) ?_
  refine lv_istore_n (lv' := [(1, .int x0), (0, .int x0)]) hx hb dX4_inverseOfOdd_1 rfl hl (by decide) rfl (fun ls hl => ?_)
  refine lv_iconst (v := 0) hx hb dX4_inverseOfOdd_2 (by decide) ?_
  refine lv_istore_n (lv' := [(2, .int 0), (1, .int x0), (0, .int x0)]) hx hb dX4_inverseOfOdd_3 rfl hl (by decide) rfl (fun ls hl => ?_)
  obtain ⟨n9, hw⟩ := hw
  exact tw_Natural_inverseOfOdd_4 C0 hA hret  n9 _ _ _ _ _ _ hP hD hS (lv_sub hl [2, 1, 0] rfl) hw
set_option maxHeartbeats 4000000 in
set_option maxRecDepth 100000 in
theorem cn_Natural_inverseOfOdd (l : Launch) (D : va_G) (cT : Nat → ClassId) (sz : Nat)  (x0 : Int32) (post : Int32 → Prop) (hw : wp_Natural_inverseOfOdd post x0) : Met l yX4_inverseOfOdd wX4_inverseOfOdd ({ frames := 0, cells := 0, slots := 0, locals := 0 } : Room) (va_Pc [.int x0] (pre_ D cT [] sz)) (va_Qi (fun (r : Int32) (u : Unit) => post r) (fun u t => va_P D vwCl [] t.heap ∧ va_D (va_A [] sz) []) (va_A [] sz)) 0 0 (va_A [] sz) := by
  refine Met.ofW (cc := cX4_inverseOfOdd) (maxL := 3) (ret := (some .int)) (by decide) rfl ?_
  intro p e s m args below meth c s₁ B hml hv
  obtain ⟨rfl, hsz, hP, hK, hD0, hN⟩ := hv
  have hx := B.exec
  have hb := B.bytes
  have hr := B.returns
  have hts : ∀ w ∈ WG, w.before _ s = true := fun w h => atoms_spec (ws := wX4_inverseOfOdd) B.pre w (List.mem_cons_of_mem _ h)
  have hown : s.vm.findClass RX4 = some m.cls := findClass_of_methodNamed B.named
  have hlocks := B.notSynchronized
  subst hsz
  have hD := hD0.self (sz := s.heap.size)
  generalize hAe : va_A [] s.heap.size = A at hD ⊢
  have hA : ∀ q : Nat, s.heap.size ≤ q → A q := fun q h => by rw [← hAe]; exact Or.inr h
  have hS : va_S A s.heap s.heap [] := va_S.rf
  have hl := lv_entry ([.int x0]) (n := 3) (Nat.le_of_ble_eq_true rfl)
  rw [lg_entry_eq]
  generalize (lg_sl ([.int x0]) ++ List.replicate (3 - (lg_sl ([.int x0])).length) Slot.unset).toArray = ls at hl ⊢
  refine tw_Natural_inverseOfOdd (Q := MQ below _ _ s 0 0 A) ⟨⟨hx, hb, hml, hown, hts⟩, hK, hN⟩ hA (fun r  H locs pc ls hp hP hD hS hd => W.iret (v := r) hx hb hr (fun t ht hW => ⟨⟨r, (), rfl, hp, by rw [ht]; exact hP, hD⟩, hS.F ht⟩) hS.2.2 hd) _ _ _ _ hP hD hS hl hw
end
def wp_Natural_subtractMultiple_7 (post : (Nat → Int32) → Prop) (f_u : Nat → Int32)  : Nat → Int64 → Int32 → Int64 → Int32 → (Nat → Int32) → Prop
  | 0 => fun _ _ _ _ _ => False
  | n + 1 => fun x2 x4 x5 x7 f_t => ((16 ≤ x7 → (post f_t)) ∧ (¬ 16 ≤ x7 → ((vp_in (x7 - x4) 16 ∧ (∀ x8_3 : Int64, x8_3 = (((f_u (x7 - x4).toNatClampNeg).toInt64) * x2) + x5 → (vp_in x7 16 ∧ (∀ x10_5 : Int32, x10_5 = (f_t x7.toNatClampNeg) - ((x8_3 &&& 2147483647).toInt32) → (vp_in x7 16 ∧ (∀ x5_7 : Int64, x5_7 = ((x8_3.toUInt64 >>> ((31 : Int32).toInt64.toUInt64 &&& Int64.toUInt64 63)).toInt64) + (((x10_5.toUInt32 >>> ((31 : Int32).toUInt32 &&& Int32.toUInt32 31)).toInt32).toInt64) → ∀ x7_8 : Int32, x7_8 = x7 + 1 → wp_Natural_subtractMultiple_7 post f_u n x2 x4 x5_7 x7_8 (upd f_t x7.toNatClampNeg (x10_5 &&& 2147483647)))))))))))
def wp_Natural_subtractMultiple (post : (Nat → Int32) → Prop) (f_u : Nat → Int32)  (x2 : Int64) (x4 : Int32) (f_t : Nat → Int32) : Prop := ∃ k9, wp_Natural_subtractMultiple_7 post f_u k9 x2 x4 0 x4 f_t
section
variable {p : Program} {l : Launch} {e : Env} {s : State} {m : MethodId} {args : Array Value} {below : List Frame} {meth : Method} {c : Code} {Q : State → Prop} {A : Nat → Prop} {D : va_G} {cT : Nat → ClassId}
set_option maxHeartbeats 4000000 in
set_option maxRecDepth 100000 in
theorem tw_Natural_subtractMultiple_7 {post : (Nat → Int32) → Prop} {h_t h_tl h_u h_ul : Nat} {f_u : Nat → Int32}  (C0 : cx RX4 cX4_subtractMultiple 11 D cT p s m c args) (hA : ∀ q, s.heap.size ≤ q → A q) (hret : ∀ (f_t : Nat → Int32) (H : Heap) (locs : List Loc) (pc : Nat) (ls : Array Slot), post f_t → va_P D vwCl [(h_t, .inr (4, [.ref h_tl])), (h_tl, .inl (cT 0, 16, .inl f_t)), (h_u, .inr (4, [.ref h_ul])), (h_ul, .inl (cT 0, 16, .inl f_u))] H → va_D A [(h_t, .inr (4, [.ref h_tl])), (h_tl, .inl (cT 0, 16, .inl f_t)), (h_u, .inr (4, [.ref h_ul])), (h_ul, .inl (cT 0, 16, .inl f_u))] → va_S A s.heap H locs → decode cX4_subtractMultiple pc = .ok (.return_, 1) → W p l e ({ frames := 0, cells := 0, slots := 0, locals := 0 } : Room) s m args below meth c H locs 0 0 Q (F0 m pc ls []))  : ∀ (n : Nat) (x2 : Int64) (x4 : Int32) (x5 : Int64) (x7 : Int32) (f_t : Nat → Int32) (H : Heap) (locs : List Loc) (ls : Array Slot), va_P D vwCl [(h_t, .inr (4, [.ref h_tl])), (h_tl, .inl (cT 0, 16, .inl f_t)), (h_u, .inr (4, [.ref h_ul])), (h_ul, .inl (cT 0, 16, .inl f_u))] H → va_D A [(h_t, .inr (4, [.ref h_tl])), (h_tl, .inl (cT 0, 16, .inl f_t)), (h_u, .inr (4, [.ref h_ul])), (h_ul, .inl (cT 0, 16, .inl f_u))] → va_S A s.heap H locs → lv_has ls 11 [(0, .ref h_t), (1, .ref h_u), (2, .long x2), (4, .int x4), (5, .long x5), (7, .int x7)] → wp_Natural_subtractMultiple_7 post f_u n x2 x4 x5 x7 f_t → W p l e ({ frames := 0, cells := 0, slots := 0, locals := 0 } : Room) s m args below meth c H locs 0 0 Q (F0 m 7 ls []) := by
  obtain ⟨⟨hx, hb, hml, hown, hts⟩, hK, hN⟩ := id C0
  intro n
  induction n with
  | zero => intro x2 x4 x5 x7 f_t H locs ls hP hD hS hl hw; exact hw.elim
  | succ n ih =>
    intro x2 x4 x5 x7 f_t H locs ls hP hD hS hl hw
    unfold wp_Natural_subtractMultiple_7 at hw
    refine lv_iload hx hb dX4_subtractMultiple_7 (lv_at hl 5 rfl) ?_
    refine lv_bipush (v := 16) hx hb dX4_subtractMultiple_9 (by decide) ?_
    refine lv_icmp_ge (tgt := 81) hx hb dX4_subtractMultiple_11 (by decide) (fun c_1 => ?_) (fun c_1 => ?_)
    · have hw := hw.1 c_1
      exact hret _ _ _ _ _ hw hP hD hS dX4_subtractMultiple_81
    · have hw := hw.2 c_1
      refine lv_aload_n hx hb dX4_subtractMultiple_14 rfl (lv_at hl 1 rfl) ?_
      refine va_get (D := D) (ci := 4) (v := .ref h_ul) (C := RX4) (T := TX4) (N := 1) hx hb hts inX4 hown hK hP 2 rfl rfl 0 (by decide) (hts _ q_105) (fun _ h9 => h9) rfl dX4_subtractMultiple_15 ?_
      refine lv_iload hx hb dX4_subtractMultiple_18 (lv_at hl 5 rfl) ?_
      refine lv_iload hx hb dX4_subtractMultiple_20 (lv_at hl 3 rfl) ?_
      refine lv_isub hx hb dX4_subtractMultiple_22 ?_
      obtain ⟨h_2, hw⟩ := hw
      refine va_iald hx hb hK hP 3 0 rfl rfl h_2 dX4_subtractMultiple_23 ?_
      refine lv_i2l hx hb dX4_subtractMultiple_24 rfl ?_
      refine lv_lload_n hx hb dX4_subtractMultiple_25 rfl (lv_at hl 2 rfl) ?_
      refine lv_lmul hx hb dX4_subtractMultiple_26 ?_
      refine lv_lload hx hb dX4_subtractMultiple_27 (lv_at hl 4 rfl) ?_
      refine lv_ladd hx hb dX4_subtractMultiple_29 ?_
      refine lv_topl (fun x8_3 ex8_3 => ?_)
      have hw := hw x8_3 ex8_3
      refine lv_lstore (lv' := [(8, .long x8_3), (0, .ref h_t), (1, .ref h_u), (2, .long x2), (4, .int x4), (5, .long x5), (7, .int x7)]) hx hb dX4_subtractMultiple_30 hl (by decide) rfl (fun ls hl => ?_)
      refine lv_aload_n hx hb dX4_subtractMultiple_32 rfl (lv_at hl 1 rfl) ?_
      refine va_get (D := D) (ci := 4) (v := .ref h_tl) (C := RX4) (T := TX4) (N := 1) hx hb hts inX4 hown hK hP 0 rfl rfl 0 (by decide) (hts _ q_105) (fun _ h9 => h9) rfl dX4_subtractMultiple_33 ?_
      refine lv_iload hx hb dX4_subtractMultiple_36 (lv_at hl 6 rfl) ?_
      obtain ⟨h_4, hw⟩ := hw
      refine va_iald hx hb hK hP 1 0 rfl rfl h_4 dX4_subtractMultiple_38 ?_
      refine lv_lload hx hb dX4_subtractMultiple_39 (lv_at hl 0 rfl) ?_
      refine lv_ldc2 (v := 2147483647) hx hb hown (hts _ q_291) dX4_subtractMultiple_41 ?_
      refine lv_land hx hb dX4_subtractMultiple_44 ?_
      refine lv_l2i hx hb dX4_subtractMultiple_45 rfl ?_
      refine lv_isub hx hb dX4_subtractMultiple_46 ?_
      refine lv_topi (fun x10_5 ex10_5 => ?_)
      have hw := hw x10_5 ex10_5
      refine lv_istore (lv' := [(10, .int x10_5), (8, .long x8_3), (0, .ref h_t), (1, .ref h_u), (2, .long x2), (4, .int x4), (5, .long x5), (7, .int x7)]) hx hb dX4_subtractMultiple_47 hl (by decide) rfl (fun ls hl => ?_)
      refine lv_aload_n hx hb dX4_subtractMultiple_49 rfl (lv_at hl 2 rfl) ?_
      refine va_get (D := D) (ci := 4) (v := .ref h_tl) (C := RX4) (T := TX4) (N := 1) hx hb hts inX4 hown hK hP 0 rfl rfl 0 (by decide) (hts _ q_105) (fun _ h9 => h9) rfl dX4_subtractMultiple_50 ?_
      refine lv_iload hx hb dX4_subtractMultiple_53 (lv_at hl 7 rfl) ?_
      refine lv_iload hx hb dX4_subtractMultiple_55 (lv_at hl 0 rfl) ?_
      refine lv_ldc (v := 2147483647) hx hb hown (hts _ q_354) dX4_subtractMultiple_57 ?_
      refine lv_iand hx hb dX4_subtractMultiple_59 ?_
      obtain ⟨h_6, hw⟩ := hw
      refine va_iast hx hb hK hP hD hS 1 0 rfl rfl h_6 dX4_subtractMultiple_60 (fun H locs hP hD hS => ?_)
      have hP : va_P D vwCl [(h_t, .inr (4, [.ref h_tl])), (h_tl, .inl (cT 0, 16, .inl (upd f_t x7.toNatClampNeg (x10_5 &&& 2147483647)))), (h_u, .inr (4, [.ref h_ul])), (h_ul, .inl (cT 0, 16, .inl f_u))] H := hP
      have hD : va_D A [(h_t, .inr (4, [.ref h_tl])), (h_tl, .inl (cT 0, 16, .inl (upd f_t x7.toNatClampNeg (x10_5 &&& 2147483647)))), (h_u, .inr (4, [.ref h_ul])), (h_ul, .inl (cT 0, 16, .inl f_u))] := hD
      refine lv_lload hx hb dX4_subtractMultiple_61 (lv_at hl 1 rfl) ?_
      refine lv_bipush (v := 31) hx hb dX4_subtractMultiple_63 (by decide) ?_
      refine lv_lushr hx hb dX4_subtractMultiple_65 rfl ?_
      refine lv_iload hx hb dX4_subtractMultiple_66 (lv_at hl 0 rfl) ?_
      refine lv_bipush (v := 31) hx hb dX4_subtractMultiple_68 (by decide) ?_
      refine lv_iushr hx hb dX4_subtractMultiple_70 rfl ?_
      refine lv_i2l hx hb dX4_subtractMultiple_71 rfl ?_
      refine lv_ladd hx hb dX4_subtractMultiple_72 ?_
      refine lv_topl (fun x5_7 ex5_7 => ?_)
      have hw := hw x5_7 ex5_7
      refine lv_lstore (lv' := [(5, .long x5_7), (10, .int x10_5), (8, .long x8_3), (0, .ref h_t), (1, .ref h_u), (2, .long x2), (4, .int x4), (7, .int x7)]) hx hb dX4_subtractMultiple_73 hl (by decide) rfl (fun ls hl => ?_)
      obtain ⟨x7_8, ex7_8⟩ : ∃ y : Int32, y = x7 + 1 := ⟨_, rfl⟩
      refine lv_iinc (v := x7_8) (lv' := [(7, .int x7_8), (5, .long x5_7), (10, .int x10_5), (8, .long x8_3), (0, .ref h_t), (1, .ref h_u), (2, .long x2), (4, .int x4)]) hx hb dX4_subtractMultiple_75 hl (k := 7) rfl (by rw [ex7_8]; rfl) (by decide) rfl (fun ls hl => ?_)
      have hw := hw x7_8 ex7_8
      refine lv_goto (tgt := 7) hx hb dX4_subtractMultiple_78 (by decide) ?_
      exact ih _ _ _ _ _ _ _ _ hP hD hS (lv_sub hl [4, 5, 6, 7, 1, 0] rfl) hw
set_option maxHeartbeats 4000000 in
set_option maxRecDepth 100000 in
theorem tw_Natural_subtractMultiple {post : (Nat → Int32) → Prop} {h_t h_tl h_u h_ul : Nat} {f_u : Nat → Int32}  (C0 : cx RX4 cX4_subtractMultiple 11 D cT p s m c args) (hA : ∀ q, s.heap.size ≤ q → A q) (hret : ∀ (f_t : Nat → Int32) (H : Heap) (locs : List Loc) (pc : Nat) (ls : Array Slot), post f_t → va_P D vwCl [(h_t, .inr (4, [.ref h_tl])), (h_tl, .inl (cT 0, 16, .inl f_t)), (h_u, .inr (4, [.ref h_ul])), (h_ul, .inl (cT 0, 16, .inl f_u))] H → va_D A [(h_t, .inr (4, [.ref h_tl])), (h_tl, .inl (cT 0, 16, .inl f_t)), (h_u, .inr (4, [.ref h_ul])), (h_ul, .inl (cT 0, 16, .inl f_u))] → va_S A s.heap H locs → decode cX4_subtractMultiple pc = .ok (.return_, 1) → W p l e ({ frames := 0, cells := 0, slots := 0, locals := 0 } : Room) s m args below meth c H locs 0 0 Q (F0 m pc ls []))  : ∀ (x2 : Int64) (x4 : Int32) (f_t : Nat → Int32) (H : Heap) (locs : List Loc) (ls : Array Slot), va_P D vwCl [(h_t, .inr (4, [.ref h_tl])), (h_tl, .inl (cT 0, 16, .inl f_t)), (h_u, .inr (4, [.ref h_ul])), (h_ul, .inl (cT 0, 16, .inl f_u))] H → va_D A [(h_t, .inr (4, [.ref h_tl])), (h_tl, .inl (cT 0, 16, .inl f_t)), (h_u, .inr (4, [.ref h_ul])), (h_ul, .inl (cT 0, 16, .inl f_u))] → va_S A s.heap H locs → lv_has ls 11 [(0, .ref h_t), (1, .ref h_u), (2, .long x2), (4, .int x4)] → wp_Natural_subtractMultiple post f_u x2 x4 f_t → W p l e ({ frames := 0, cells := 0, slots := 0, locals := 0 } : Room) s m args below meth c H locs 0 0 Q (F0 m 0 ls []) := by
  obtain ⟨⟨hx, hb, hml, hown, hts⟩, hK, hN⟩ := id C0
  intro x2 x4 f_t H locs ls hP hD hS hl hw
  unfold wp_Natural_subtractMultiple at hw
  refine lv_lconst (v := 0) hx hb dX4_subtractMultiple_0 (by decide) ?_
  refine lv_lstore (lv' := [(5, .long 0), (0, .ref h_t), (1, .ref h_u), (2, .long x2), (4, .int x4)]) hx hb dX4_subtractMultiple_1 hl (by decide) rfl (fun ls hl => ?_)
  refine lv_iload hx hb dX4_subtractMultiple_3 (lv_at hl 4 rfl) ?_
  refine lv_istore (lv' := [(7, .int x4), (5, .long 0), (0, .ref h_t), (1, .ref h_u), (2, .long x2), (4, .int x4)]) hx hb dX4_subtractMultiple_5 hl (by decide) rfl (fun ls hl => ?_)
  obtain ⟨n9, hw⟩ := hw
  exact tw_Natural_subtractMultiple_7 C0 hA hret  n9 _ _ _ _ _ _ _ _ hP hD hS (lv_sub hl [2, 3, 4, 5, 1, 0] rfl) hw
set_option maxHeartbeats 4000000 in
set_option maxRecDepth 100000 in
theorem cn_Natural_subtractMultiple (l : Launch) (D : va_G) (cT : Nat → ClassId) (h_t h_tl h_u h_ul : Nat) (sz : Nat) (f_t : Nat → Int32) (f_u : Nat → Int32) (x2 : Int64) (x4 : Int32) (post : (Nat → Int32) → Prop) (hw : wp_Natural_subtractMultiple post f_u x2 x4 f_t) : Met l yX4_subtractMultiple wX4_subtractMultiple ({ frames := 0, cells := 0, slots := 0, locals := 0 } : Room) (va_Pc [.ref h_t, .ref h_u, .long x2, .int x4] (pre_ D cT [(h_t, .inr (4, [.ref h_tl])), (h_tl, .inl (cT 0, 16, .inl f_t)), (h_u, .inr (4, [.ref h_ul])), (h_ul, .inl (cT 0, 16, .inl f_u))] sz)) (va_Qv (fun (u : (Nat → Int32)) => post u) (fun u t => va_P D vwCl [(h_t, .inr (4, [.ref h_tl])), (h_tl, .inl (cT 0, 16, .inl u)), (h_u, .inr (4, [.ref h_ul])), (h_ul, .inl (cT 0, 16, .inl f_u))] t.heap ∧ va_D (va_A [(h_t, .inr (4, [.ref h_tl])), (h_tl, .inl (cT 0, 16, .inl f_t)), (h_u, .inr (4, [.ref h_ul])), (h_ul, .inl (cT 0, 16, .inl f_u))] sz) [(h_t, .inr (4, [.ref h_tl])), (h_tl, .inl (cT 0, 16, .inl u)), (h_u, .inr (4, [.ref h_ul])), (h_ul, .inl (cT 0, 16, .inl f_u))]) (va_A [(h_t, .inr (4, [.ref h_tl])), (h_tl, .inl (cT 0, 16, .inl f_t)), (h_u, .inr (4, [.ref h_ul])), (h_ul, .inl (cT 0, 16, .inl f_u))] sz)) 0 0 (va_A [(h_t, .inr (4, [.ref h_tl])), (h_tl, .inl (cT 0, 16, .inl f_t)), (h_u, .inr (4, [.ref h_ul])), (h_ul, .inl (cT 0, 16, .inl f_u))] sz) := by
  refine Met.ofW (cc := cX4_subtractMultiple) (maxL := 11) (ret := none) (by decide) rfl ?_
  intro p e s m args below meth c s₁ B hml hv
  obtain ⟨rfl, hsz, hP, hK, hD0, hN⟩ := hv
  have hx := B.exec
  have hb := B.bytes
  have hr := B.returns
  have hts : ∀ w ∈ WG, w.before _ s = true := fun w h => atoms_spec (ws := wX4_subtractMultiple) B.pre w (List.mem_cons_of_mem _ h)
  have hown : s.vm.findClass RX4 = some m.cls := findClass_of_methodNamed B.named
  have hlocks := B.notSynchronized
  subst hsz
  have hD := hD0.self (sz := s.heap.size)
  generalize hAe : va_A [(h_t, .inr (4, [.ref h_tl])), (h_tl, .inl (cT 0, 16, .inl f_t)), (h_u, .inr (4, [.ref h_ul])), (h_ul, .inl (cT 0, 16, .inl f_u))] s.heap.size = A at hD ⊢
  have hA : ∀ q : Nat, s.heap.size ≤ q → A q := fun q h => by rw [← hAe]; exact Or.inr h
  have hS : va_S A s.heap s.heap [] := va_S.rf
  have hl := lv_entry ([.ref h_t, .ref h_u, .long x2, .int x4]) (n := 11) (Nat.le_of_ble_eq_true rfl)
  rw [lg_entry_eq]
  generalize (lg_sl ([.ref h_t, .ref h_u, .long x2, .int x4]) ++ List.replicate (11 - (lg_sl ([.ref h_t, .ref h_u, .long x2, .int x4])).length) Slot.unset).toArray = ls at hl ⊢
  refine tw_Natural_subtractMultiple (Q := MQ below _ _ s 0 0 A) ⟨⟨hx, hb, hml, hown, hts⟩, hK, hN⟩ hA (fun f_t H locs pc ls hp hP hD hS hd => W.vret hx hb hr (fun t ht hW => ⟨⟨(f_t), rfl, hp, by rw [ht]; exact hP, hD⟩, hS.F ht⟩) hS.2.2 hd) _ _ _ _ _ _ hP hD hS hl hw
end
def wp_Natural_divideByOddDivisor_12 (post : (Nat → Int32) → Prop) (f_u : Nat → Int32)  : Nat → Int32 → Int32 → (Nat → Int32) → Prop
  | 0 => fun _ _ _ => False
  | n + 1 => fun x2 x3 f_t => ((16 ≤ x3 → (post f_t)) ∧ (¬ 16 ≤ x3 → ((vp_in x3 16 ∧ (∀ x4_5 : Int32, x4_5 = ((f_t x3.toNatClampNeg) * x2) &&& 2147483647 → wp_Natural_subtractMultiple (fun u_6 => (vp_in x3 16 ∧ (∀ x3_8 : Int32, x3_8 = x3 + 1 → wp_Natural_divideByOddDivisor_12 post f_u n x2 x3_8 (upd u_6 x3.toNatClampNeg x4_5)))) f_u x4_5.toInt64 x3 f_t)))))
def wp_Natural_divideByOddDivisor (post : (Nat → Int32) → Prop) (f_u : Nat → Int32)  (f_t : Nat → Int32) : Prop := (vp_in 0 16 ∧ (wp_Natural_inverseOfOdd (fun r_2 => ∃ k9, wp_Natural_divideByOddDivisor_12 post f_u k9 r_2 0 f_t) (f_u (0 : Int32).toNatClampNeg)))
section
variable {p : Program} {l : Launch} {e : Env} {s : State} {m : MethodId} {args : Array Value} {below : List Frame} {meth : Method} {c : Code} {Q : State → Prop} {A : Nat → Prop} {D : va_G} {cT : Nat → ClassId}
set_option maxHeartbeats 4000000 in
set_option maxRecDepth 100000 in
theorem tw_Natural_divideByOddDivisor_12 {post : (Nat → Int32) → Prop} {h_t h_tl h_u h_ul : Nat} {f_u : Nat → Int32}  (C0 : cx RX4 cX4_divideByOddDivisor 5 D cT p s m c args) (hA : ∀ q, s.heap.size ≤ q → A q) (hret : ∀ (f_t : Nat → Int32) (H : Heap) (locs : List Loc) (pc : Nat) (ls : Array Slot), post f_t → va_P D vwCl [(h_t, .inr (4, [.ref h_tl])), (h_tl, .inl (cT 0, 16, .inl f_t)), (h_u, .inr (4, [.ref h_ul])), (h_ul, .inl (cT 0, 16, .inl f_u))] H → va_D A [(h_t, .inr (4, [.ref h_tl])), (h_tl, .inl (cT 0, 16, .inl f_t)), (h_u, .inr (4, [.ref h_ul])), (h_ul, .inl (cT 0, 16, .inl f_u))] → va_S A s.heap H locs → decode cX4_divideByOddDivisor pc = .ok (.return_, 1) → W p l e ({ frames := 1, cells := 0, slots := 0, locals := 30 } : Room) s m args below meth c H locs 0 0 Q (F0 m pc ls []))  : ∀ (n : Nat) (x2 : Int32) (x3 : Int32) (f_t : Nat → Int32) (H : Heap) (locs : List Loc) (ls : Array Slot), va_P D vwCl [(h_t, .inr (4, [.ref h_tl])), (h_tl, .inl (cT 0, 16, .inl f_t)), (h_u, .inr (4, [.ref h_ul])), (h_ul, .inl (cT 0, 16, .inl f_u))] H → va_D A [(h_t, .inr (4, [.ref h_tl])), (h_tl, .inl (cT 0, 16, .inl f_t)), (h_u, .inr (4, [.ref h_ul])), (h_ul, .inl (cT 0, 16, .inl f_u))] → va_S A s.heap H locs → lv_has ls 5 [(0, .ref h_t), (1, .ref h_u), (2, .int x2), (3, .int x3)] → wp_Natural_divideByOddDivisor_12 post f_u n x2 x3 f_t → W p l e ({ frames := 1, cells := 0, slots := 0, locals := 30 } : Room) s m args below meth c H locs 0 0 Q (F0 m 12 ls []) := by
  obtain ⟨⟨hx, hb, hml, hown, hts⟩, hK, hN⟩ := id C0
  intro n
  induction n with
  | zero => intro x2 x3 f_t H locs ls hP hD hS hl hw; exact hw.elim
  | succ n ih =>
    intro x2 x3 f_t H locs ls hP hD hS hl hw
    unfold wp_Natural_divideByOddDivisor_12 at hw
    refine lv_iload_n hx hb dX4_divideByOddDivisor_12 rfl (lv_at hl 3 rfl) ?_
    refine lv_bipush (v := 16) hx hb dX4_divideByOddDivisor_13 (by decide) ?_
    refine lv_icmp_ge (tgt := 54) hx hb dX4_divideByOddDivisor_15 (by decide) (fun c_3 => ?_) (fun c_3 => ?_)
    · have hw := hw.1 c_3
      exact hret _ _ _ _ _ hw hP hD hS dX4_divideByOddDivisor_54
    · have hw := hw.2 c_3
      refine lv_aload_n hx hb dX4_divideByOddDivisor_18 rfl (lv_at hl 0 rfl) ?_
      refine va_get (D := D) (ci := 4) (v := .ref h_tl) (C := RX4) (T := TX4) (N := 1) hx hb hts inX4 hown hK hP 0 rfl rfl 0 (by decide) (hts _ q_105) (fun _ h9 => h9) rfl dX4_divideByOddDivisor_19 ?_
      refine lv_iload_n hx hb dX4_divideByOddDivisor_22 rfl (lv_at hl 3 rfl) ?_
      obtain ⟨h_4, hw⟩ := hw
      refine va_iald hx hb hK hP 1 0 rfl rfl h_4 dX4_divideByOddDivisor_23 ?_
      refine lv_iload_n hx hb dX4_divideByOddDivisor_24 rfl (lv_at hl 2 rfl) ?_
      refine lv_imul hx hb dX4_divideByOddDivisor_25 ?_
      refine lv_ldc (v := 2147483647) hx hb hown (hts _ q_354) dX4_divideByOddDivisor_26 ?_
      refine lv_iand hx hb dX4_divideByOddDivisor_28 ?_
      refine lv_topi (fun x4_5 ex4_5 => ?_)
      have hw := hw x4_5 ex4_5
      refine lv_istore (lv' := [(4, .int x4_5), (0, .ref h_t), (1, .ref h_u), (2, .int x2), (3, .int x3)]) hx hb dX4_divideByOddDivisor_29 hl (by decide) rfl (fun ls hl => ?_)
      refine lv_aload_n hx hb dX4_divideByOddDivisor_31 rfl (lv_at hl 1 rfl) ?_
      refine lv_aload_n hx hb dX4_divideByOddDivisor_32 rfl (lv_at hl 2 rfl) ?_
      refine lv_iload hx hb dX4_divideByOddDivisor_33 (lv_at hl 0 rfl) ?_
      refine lv_i2l hx hb dX4_divideByOddDivisor_35 rfl ?_
      refine lv_iload_n hx hb dX4_divideByOddDivisor_36 rfl (lv_at hl 4 rfl) ?_
      have hPc := hP.sub (ws' := [(h_t, .inr (4, [.ref h_tl])), (h_tl, .inl (cT 0, 16, .inl f_t)), (h_u, .inr (4, [.ref h_ul])), (h_ul, .inl (cT 0, 16, .inl f_u))]) [0, 1, 2, 3] rfl
      have hDc := hD.sub (ws' := [(h_t, .inr (4, [.ref h_tl])), (h_tl, .inl (cT 0, 16, .inl f_t)), (h_u, .inr (4, [.ref h_ul])), (h_ul, .inl (cT 0, 16, .inl f_u))]) [0, 1, 2, 3] (by decide) rfl
      have hFc := va_free (wc := [(h_t, .inr (4, [.ref h_tl])), (h_tl, .inl (cT 0, 16, .inl f_t)), (h_u, .inr (4, [.ref h_ul])), (h_ul, .inl (cT 0, 16, .inl f_u))]) hD hS hA [0, 1, 2, 3] rfl
      refine va_callv (va_runV (As := [.ref h_u, .long x4_5.toInt64, .int x3]) (rest := []) ⟨hx, hb, hml, hown, hts⟩ (cn_Natural_subtractMultiple l D cT h_t h_tl h_u h_ul H.size f_t f_u x4_5.toInt64 x3 _ hw) (gv_ 3 q_384 q_6 q_381 q_383 qs_16 (by decide +kernel) ⟨Nat.le_of_ble_eq_true rfl, Nat.le_of_ble_eq_true rfl⟩ hts) ⟨pre_blind, va_recv hK hPc (ci := 4) (q0 := 0) rfl rfl, fun U hU hW => ⟨rfl, pre_mk hU hW hPc hK hDc hN⟩⟩ rfl rfl hl.1 rfl (lv_room (Nat.le_of_ble_eq_true rfl)) dX4_divideByOddDivisor_37 ⟨(Nat.zero_le _), (Nat.zero_le _)⟩) hS (fun q _ h => hFc q h) hFc (fun u9 t H locs ht hvm hw hB hz1 hk1 hS => ?_)
      obtain ⟨u_6, rfl⟩ : ∃ z, z = u9 := ⟨_, rfl⟩
      obtain ⟨hP1, hD1⟩ := hB
      rw [ht] at hP1
      obtain ⟨hP, hD⟩ := va_join (wr := []) (w1 := [(h_t, .inr (4, [.ref h_tl])), (h_tl, .inl (cT 0, 16, .inl u_6)), (h_u, .inr (4, [.ref h_ul])), (h_ul, .inl (cT 0, 16, .inl f_u))]) hP hD [0, 1, 2, 3] [] rfl rfl (by decide) (by decide) hk1 hFc hP1 hD1
      have hP := hP.sub (ws' := [(h_t, .inr (4, [.ref h_tl])), (h_tl, .inl (cT 0, 16, .inl u_6)), (h_u, .inr (4, [.ref h_ul])), (h_ul, .inl (cT 0, 16, .inl f_u))]) [0, 1, 2, 3] rfl
      have hD := hD.sub (ws' := [(h_t, .inr (4, [.ref h_tl])), (h_tl, .inl (cT 0, 16, .inl u_6)), (h_u, .inr (4, [.ref h_ul])), (h_ul, .inl (cT 0, 16, .inl f_u))]) [0, 1, 2, 3] (by decide) rfl
      clear hP1 hD1 hPc hDc hFc hk1 hz1 hvm ht
      try dsimp only at hw
      refine lv_aload_n hx hb dX4_divideByOddDivisor_40 rfl (lv_at hl 1 rfl) ?_
      refine va_get (D := D) (ci := 4) (v := .ref h_tl) (C := RX4) (T := TX4) (N := 1) hx hb hts inX4 hown hK hP 0 rfl rfl 0 (by decide) (hts _ q_105) (fun _ h9 => h9) rfl dX4_divideByOddDivisor_41 ?_
      refine lv_iload_n hx hb dX4_divideByOddDivisor_44 rfl (lv_at hl 4 rfl) ?_
      refine lv_iload hx hb dX4_divideByOddDivisor_45 (lv_at hl 0 rfl) ?_
      obtain ⟨h_7, hw⟩ := hw
      refine va_iast hx hb hK hP hD hS 1 0 rfl rfl h_7 dX4_divideByOddDivisor_47 (fun H locs hP hD hS => ?_)
      have hP : va_P D vwCl [(h_t, .inr (4, [.ref h_tl])), (h_tl, .inl (cT 0, 16, .inl (upd u_6 x3.toNatClampNeg x4_5))), (h_u, .inr (4, [.ref h_ul])), (h_ul, .inl (cT 0, 16, .inl f_u))] H := hP
      have hD : va_D A [(h_t, .inr (4, [.ref h_tl])), (h_tl, .inl (cT 0, 16, .inl (upd u_6 x3.toNatClampNeg x4_5))), (h_u, .inr (4, [.ref h_ul])), (h_ul, .inl (cT 0, 16, .inl f_u))] := hD
      obtain ⟨x3_8, ex3_8⟩ : ∃ y : Int32, y = x3 + 1 := ⟨_, rfl⟩
      refine lv_iinc (v := x3_8) (lv' := [(3, .int x3_8), (4, .int x4_5), (0, .ref h_t), (1, .ref h_u), (2, .int x2)]) hx hb dX4_divideByOddDivisor_48 hl (k := 4) rfl (by rw [ex3_8]; rfl) (by decide) rfl (fun ls hl => ?_)
      have hw := hw x3_8 ex3_8
      refine lv_goto (tgt := 12) hx hb dX4_divideByOddDivisor_51 (by decide) ?_
      exact ih _ _ _ _ _ _ hP hD hS (lv_sub hl [2, 3, 4, 0] rfl) hw
set_option maxHeartbeats 4000000 in
set_option maxRecDepth 100000 in
theorem tw_Natural_divideByOddDivisor {post : (Nat → Int32) → Prop} {h_t h_tl h_u h_ul : Nat} {f_u : Nat → Int32}  (C0 : cx RX4 cX4_divideByOddDivisor 5 D cT p s m c args) (hA : ∀ q, s.heap.size ≤ q → A q) (hret : ∀ (f_t : Nat → Int32) (H : Heap) (locs : List Loc) (pc : Nat) (ls : Array Slot), post f_t → va_P D vwCl [(h_t, .inr (4, [.ref h_tl])), (h_tl, .inl (cT 0, 16, .inl f_t)), (h_u, .inr (4, [.ref h_ul])), (h_ul, .inl (cT 0, 16, .inl f_u))] H → va_D A [(h_t, .inr (4, [.ref h_tl])), (h_tl, .inl (cT 0, 16, .inl f_t)), (h_u, .inr (4, [.ref h_ul])), (h_ul, .inl (cT 0, 16, .inl f_u))] → va_S A s.heap H locs → decode cX4_divideByOddDivisor pc = .ok (.return_, 1) → W p l e ({ frames := 1, cells := 0, slots := 0, locals := 30 } : Room) s m args below meth c H locs 0 0 Q (F0 m pc ls []))  : ∀ (f_t : Nat → Int32) (H : Heap) (locs : List Loc) (ls : Array Slot), va_P D vwCl [(h_t, .inr (4, [.ref h_tl])), (h_tl, .inl (cT 0, 16, .inl f_t)), (h_u, .inr (4, [.ref h_ul])), (h_ul, .inl (cT 0, 16, .inl f_u))] H → va_D A [(h_t, .inr (4, [.ref h_tl])), (h_tl, .inl (cT 0, 16, .inl f_t)), (h_u, .inr (4, [.ref h_ul])), (h_ul, .inl (cT 0, 16, .inl f_u))] → va_S A s.heap H locs → lv_has ls 5 [(0, .ref h_t), (1, .ref h_u)] → wp_Natural_divideByOddDivisor post f_u f_t → W p l e ({ frames := 1, cells := 0, slots := 0, locals := 30 } : Room) s m args below meth c H locs 0 0 Q (F0 m 0 ls []) := by
  obtain ⟨⟨hx, hb, hml, hown, hts⟩, hK, hN⟩ := id C0
  intro f_t H locs ls hP hD hS hl hw
  unfold wp_Natural_divideByOddDivisor at hw
  refine lv_aload_n hx hb dX4_divideByOddDivisor_0 rfl (lv_at hl 1 rfl) ?_
  refine va_get (D := D) (ci := 4) (v := .ref h_ul) (C := RX4) (T := TX4) (N := 1) hx hb hts inX4 hown hK hP 2 rfl rfl 0 (by decide) (hts _ q_105) (fun _ h9 => h9) rfl dX4_divideByOddDivisor_1 ?_
  refine lv_iconst (v := 0) hx hb dX4_divideByOddDivisor_4 (by decide) ?_
  obtain ⟨h_1, hw⟩ := hw
  refine va_iald hx hb hK hP 3 0 rfl rfl h_1 dX4_divideByOddDivisor_5 ?_
  have hPc := hP.sub (ws' := []) [] rfl
  have hDc := hD.sub (ws' := []) [] (by decide) rfl
  have hFc := va_free (wc := []) hD hS hA [] rfl
  refine va_calli (va_runS (As := [.int (f_u (0 : Int32).toNatClampNeg)]) (rest := []) ⟨hx, hb, hml, hown, hts⟩ (cn_Natural_inverseOfOdd l D cT  H.size (f_u (0 : Int32).toNatClampNeg) _ hw) (gs_ 1 q_380 q_6 q_378 q_379 (by decide +kernel) ⟨Nat.le_of_ble_eq_true rfl, Nat.le_of_ble_eq_true rfl⟩ hts) ⟨pre_blind, fun U hU hW => ⟨rfl, pre_mk hU hW hPc hK hDc hN⟩⟩ rfl rfl hl.1 rfl (lv_room (Nat.le_of_ble_eq_true rfl)) dX4_divideByOddDivisor_6 ⟨(Nat.zero_le _), (Nat.zero_le _)⟩) hS (fun q _ h => hFc q h) hFc (fun r_2 u9 t H locs ht hvm hw hB hz1 hk1 hS => ?_)
  obtain ⟨hP1, hD1⟩ := hB
  rw [ht] at hP1
  obtain ⟨hP, hD⟩ := va_join (wr := [(h_t, .inr (4, [.ref h_tl])), (h_tl, .inl (cT 0, 16, .inl f_t)), (h_u, .inr (4, [.ref h_ul])), (h_ul, .inl (cT 0, 16, .inl f_u))]) (w1 := []) hP hD [] [0, 1, 2, 3] rfl rfl (by decide) (by decide) hk1 hFc hP1 hD1
  have hP := hP.sub (ws' := [(h_t, .inr (4, [.ref h_tl])), (h_tl, .inl (cT 0, 16, .inl f_t)), (h_u, .inr (4, [.ref h_ul])), (h_ul, .inl (cT 0, 16, .inl f_u))]) [0, 1, 2, 3] rfl
  have hD := hD.sub (ws' := [(h_t, .inr (4, [.ref h_tl])), (h_tl, .inl (cT 0, 16, .inl f_t)), (h_u, .inr (4, [.ref h_ul])), (h_ul, .inl (cT 0, 16, .inl f_u))]) [0, 1, 2, 3] (by decide) rfl
  clear hP1 hD1 hPc hDc hFc hk1 hz1 hvm ht
  try dsimp only at hw
  refine lv_istore_n (lv' := [(2, .int r_2), (0, .ref h_t), (1, .ref h_u)]) hx hb dX4_divideByOddDivisor_9 rfl hl (by decide) rfl (fun ls hl => ?_)
  refine lv_iconst (v := 0) hx hb dX4_divideByOddDivisor_10 (by decide) ?_
  refine lv_istore_n (lv' := [(3, .int 0), (2, .int r_2), (0, .ref h_t), (1, .ref h_u)]) hx hb dX4_divideByOddDivisor_11 rfl hl (by decide) rfl (fun ls hl => ?_)
  obtain ⟨n9, hw⟩ := hw
  exact tw_Natural_divideByOddDivisor_12 C0 hA hret  n9 _ _ _ _ _ _ hP hD hS (lv_sub hl [2, 3, 1, 0] rfl) hw
set_option maxHeartbeats 4000000 in
set_option maxRecDepth 100000 in
theorem cn_Natural_divideByOddDivisor (l : Launch) (D : va_G) (cT : Nat → ClassId) (h_t h_tl h_u h_ul : Nat) (sz : Nat) (f_t : Nat → Int32) (f_u : Nat → Int32)  (post : (Nat → Int32) → Prop) (hw : wp_Natural_divideByOddDivisor post f_u f_t) : Met l yX4_divideByOddDivisor wX4_divideByOddDivisor ({ frames := 1, cells := 0, slots := 0, locals := 30 } : Room) (va_Pc [.ref h_t, .ref h_u] (pre_ D cT [(h_t, .inr (4, [.ref h_tl])), (h_tl, .inl (cT 0, 16, .inl f_t)), (h_u, .inr (4, [.ref h_ul])), (h_ul, .inl (cT 0, 16, .inl f_u))] sz)) (va_Qv (fun (u : (Nat → Int32)) => post u) (fun u t => va_P D vwCl [(h_t, .inr (4, [.ref h_tl])), (h_tl, .inl (cT 0, 16, .inl u)), (h_u, .inr (4, [.ref h_ul])), (h_ul, .inl (cT 0, 16, .inl f_u))] t.heap ∧ va_D (va_A [(h_t, .inr (4, [.ref h_tl])), (h_tl, .inl (cT 0, 16, .inl f_t)), (h_u, .inr (4, [.ref h_ul])), (h_ul, .inl (cT 0, 16, .inl f_u))] sz) [(h_t, .inr (4, [.ref h_tl])), (h_tl, .inl (cT 0, 16, .inl u)), (h_u, .inr (4, [.ref h_ul])), (h_ul, .inl (cT 0, 16, .inl f_u))]) (va_A [(h_t, .inr (4, [.ref h_tl])), (h_tl, .inl (cT 0, 16, .inl f_t)), (h_u, .inr (4, [.ref h_ul])), (h_ul, .inl (cT 0, 16, .inl f_u))] sz)) 0 0 (va_A [(h_t, .inr (4, [.ref h_tl])), (h_tl, .inl (cT 0, 16, .inl f_t)), (h_u, .inr (4, [.ref h_ul])), (h_ul, .inl (cT 0, 16, .inl f_u))] sz) := by
  refine Met.ofW (cc := cX4_divideByOddDivisor) (maxL := 5) (ret := none) (by decide) rfl ?_
  intro p e s m args below meth c s₁ B hml hv
  obtain ⟨rfl, hsz, hP, hK, hD0, hN⟩ := hv
  have hx := B.exec
  have hb := B.bytes
  have hr := B.returns
  have hts : ∀ w ∈ WG, w.before _ s = true := fun w h => atoms_spec (ws := wX4_divideByOddDivisor) B.pre w (List.mem_cons_of_mem _ h)
  have hown : s.vm.findClass RX4 = some m.cls := findClass_of_methodNamed B.named
  have hlocks := B.notSynchronized
  subst hsz
  have hD := hD0.self (sz := s.heap.size)
  generalize hAe : va_A [(h_t, .inr (4, [.ref h_tl])), (h_tl, .inl (cT 0, 16, .inl f_t)), (h_u, .inr (4, [.ref h_ul])), (h_ul, .inl (cT 0, 16, .inl f_u))] s.heap.size = A at hD ⊢
  have hA : ∀ q : Nat, s.heap.size ≤ q → A q := fun q h => by rw [← hAe]; exact Or.inr h
  have hS : va_S A s.heap s.heap [] := va_S.rf
  have hl := lv_entry ([.ref h_t, .ref h_u]) (n := 5) (Nat.le_of_ble_eq_true rfl)
  rw [lg_entry_eq]
  generalize (lg_sl ([.ref h_t, .ref h_u]) ++ List.replicate (5 - (lg_sl ([.ref h_t, .ref h_u])).length) Slot.unset).toArray = ls at hl ⊢
  refine tw_Natural_divideByOddDivisor (Q := MQ below _ _ s 0 0 A) ⟨⟨hx, hb, hml, hown, hts⟩, hK, hN⟩ hA (fun f_t H locs pc ls hp hP hD hS hd => W.vret hx hb hr (fun t ht hW => ⟨⟨(f_t), rfl, hp, by rw [ht]; exact hP, hD⟩, hS.F ht⟩) hS.2.2 hd) _ _ _ _ hP hD hS hl hw
end
