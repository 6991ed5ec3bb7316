def wp_Remainders_minus_20 (post : Int64 → Prop) (v_rp : Int64)  (y0 : Int64) : Prop := post y0
def wp_Remainders_minus (post : Int64 → Prop) (v_rp : Int64)  (x1 : Int64) (x3 : Int64) : Prop := (((lg_cmp x1 x3) < 0 → (wp_Remainders_minus_20 post v_rp ((x1 - x3) + v_rp))) ∧ (¬ (lg_cmp x1 x3) < 0 → (wp_Remainders_minus_20 post v_rp (x1 - x3))))
section
variable {p : Program} {l : Launch} {e : Env} {s : State} {m : MethodId} {args : Array Value} {below : List Frame} {meth : Method} {c : Code} {Q : State → Prop} {A : Nat → Prop} {D : va_G} {cT : Nat → ClassId}
set_option maxHeartbeats 4000000 in
set_option maxRecDepth 100000 in
theorem tw_Remainders_minus_20 {post : Int64 → Prop} {h_r : Nat} {v_rp : Int64}  (C0 : cx RX6 cX6_minus 5 D cT p s m c args) (hA : ∀ q, s.heap.size ≤ q → A q) (hret : ∀ (r : Int64)  (H : Heap) (locs : List Loc) (pc : Nat) (ls : Array Slot), post r → va_P D vwCl [(h_r, .inr (6, [.long v_rp]))] H → va_D A [(h_r, .inr (6, [.long v_rp]))] → va_S A s.heap H locs → decode cX6_minus pc = .ok (.lreturn, 1) → W p l e ({ frames := 0, cells := 0, slots := 0, locals := 0 } : Room) s m args below meth c H locs 0 0 Q (F0 m pc ls [.long r]))  : ∀ (y0 : Int64) (H : Heap) (locs : List Loc) (ls : Array Slot), va_P D vwCl [(h_r, .inr (6, [.long v_rp]))] H → va_D A [(h_r, .inr (6, [.long v_rp]))] → va_S A s.heap H locs → lv_has ls 5 [] → wp_Remainders_minus_20 post v_rp y0 → W p l e ({ frames := 0, cells := 0, slots := 0, locals := 0 } : Room) s m args below meth c H locs 0 0 Q (F0 m 20 ls [.long y0]) := by
  obtain ⟨⟨hx, hb, hml, hown, hts⟩, hK, hN⟩ := id C0
  intro y0 H locs ls hP hD hS hl hw
  unfold wp_Remainders_minus_20 at hw
  exact hret _  _ _ _ _ hw hP hD hS dX6_minus_20
set_option maxHeartbeats 4000000 in
set_option maxRecDepth 100000 in
theorem tw_Remainders_minus {post : Int64 → Prop} {h_r : Nat} {v_rp : Int64}  (C0 : cx RX6 cX6_minus 5 D cT p s m c args) (hA : ∀ q, s.heap.size ≤ q → A q) (hret : ∀ (r : Int64)  (H : Heap) (locs : List Loc) (pc : Nat) (ls : Array Slot), post r → va_P D vwCl [(h_r, .inr (6, [.long v_rp]))] H → va_D A [(h_r, .inr (6, [.long v_rp]))] → va_S A s.heap H locs → decode cX6_minus pc = .ok (.lreturn, 1) → W p l e ({ frames := 0, cells := 0, slots := 0, locals := 0 } : Room) s m args below meth c H locs 0 0 Q (F0 m pc ls [.long r]))  : ∀ (x1 : Int64) (x3 : Int64) (H : Heap) (locs : List Loc) (ls : Array Slot), va_P D vwCl [(h_r, .inr (6, [.long v_rp]))] H → va_D A [(h_r, .inr (6, [.long v_rp]))] → va_S A s.heap H locs → lv_has ls 5 [(0, .ref h_r), (1, .long x1), (3, .long x3)] → wp_Remainders_minus post v_rp x1 x3 → W p l e ({ frames := 0, cells := 0, slots := 0, locals := 0 } : Room) s m args below meth c H locs 0 0 Q (F0 m 0 ls []) := by
  obtain ⟨⟨hx, hb, hml, hown, hts⟩, hK, hN⟩ := id C0
  intro x1 x3 H locs ls hP hD hS hl hw
  unfold wp_Remainders_minus at hw
  refine lv_lload_n hx hb dX6_minus_0 rfl (lv_at hl 1 rfl) ?_
  refine lv_lload_n hx hb dX6_minus_1 rfl (lv_at hl 2 rfl) ?_
  refine W.lcmp hx hb dX6_minus_2 ?_
  refine lv_if_lt (tgt := 12) hx hb dX6_minus_3 (by decide) (fun c_1 => ?_) (fun c_1 => ?_)
  · have hw := hw.1 c_1
    refine lv_lload_n hx hb dX6_minus_12 rfl (lv_at hl 1 rfl) ?_
    refine lv_lload_n hx hb dX6_minus_13 rfl (lv_at hl 2 rfl) ?_
    refine lv_lsub hx hb dX6_minus_14 ?_
    refine lv_aload_n hx hb dX6_minus_15 rfl (lv_at hl 0 rfl) ?_
    refine va_get (D := D) (ci := 6) (v := .long v_rp) (C := RX6) (T := TX6) (N := 1) hx hb hts inX6 hown hK hP 0 rfl rfl 0 (by decide) (hts _ q_72) (fun _ h9 => h9) rfl dX6_minus_16 ?_
    refine lv_ladd hx hb dX6_minus_19 ?_
    exact tw_Remainders_minus_20 C0 hA hret  _ _ _ _ hP hD hS (lv_sub hl [] rfl) hw
  · have hw := hw.2 c_1
    refine lv_lload_n hx hb dX6_minus_6 rfl (lv_at hl 1 rfl) ?_
    refine lv_lload_n hx hb dX6_minus_7 rfl (lv_at hl 2 rfl) ?_
    refine lv_lsub hx hb dX6_minus_8 ?_
    refine lv_goto (tgt := 20) hx hb dX6_minus_9 (by decide) ?_
    exact tw_Remainders_minus_20 C0 hA hret  _ _ _ _ hP hD hS (lv_sub hl [] rfl) hw
set_option maxHeartbeats 4000000 in
set_option maxRecDepth 100000 in
theorem cn_Remainders_minus (l : Launch) (D : va_G) (cT : Nat → ClassId) (h_r : Nat) (sz : Nat) (v_rp : Int64) (x1 : Int64) (x3 : Int64) (post : Int64 → Prop) (hw : wp_Remainders_minus post v_rp x1 x3) : Met l yX6_minus wX6_minus ({ frames := 0, cells := 0, slots := 0, locals := 0 } : Room) (va_Pc [.ref h_r, .long x1, .long x3] (pre_ D cT [(h_r, .inr (6, [.long v_rp]))] sz)) (va_Ql (fun (r : Int64) (u : Unit) => post r) (fun u t => va_P D vwCl [(h_r, .inr (6, [.long v_rp]))] t.heap ∧ va_D (va_A [(h_r, .inr (6, [.long v_rp]))] sz) [(h_r, .inr (6, [.long v_rp]))]) (va_A [(h_r, .inr (6, [.long v_rp]))] sz)) 0 0 (va_A [(h_r, .inr (6, [.long v_rp]))] sz) := by
  refine Met.ofW (cc := cX6_minus) (maxL := 5) (ret := (some .long)) (by decide) rfl ?_
  intro p e s m args below meth c s₁ B hml hv
  obtain ⟨rfl, hsz, hP, hK, hD0, hN⟩ := hv
  have hx := B.exec
  have hb := B.bytes
  have hr := B.returns
  have hts : ∀ w ∈ WG, w.before _ s = true := fun w h => atoms_spec (ws := wX6_minus) B.pre w (List.mem_cons_of_mem _ h)
  have hown : s.vm.findClass RX6 = some m.cls := findClass_of_methodNamed B.named
  have hlocks := B.notSynchronized
  subst hsz
  have hD := hD0.self (sz := s.heap.size)
  generalize hAe : va_A [(h_r, .inr (6, [.long v_rp]))] s.heap.size = A at hD ⊢
  have hA : ∀ q : Nat, s.heap.size ≤ q → A q := fun q h => by rw [← hAe]; exact Or.inr h
  have hS : va_S A s.heap s.heap [] := va_S.rf
  have hl := lv_entry ([.ref h_r, .long x1, .long x3]) (n := 5) (Nat.le_of_ble_eq_true rfl)
  rw [lg_entry_eq]
  generalize (lg_sl ([.ref h_r, .long x1, .long x3]) ++ List.replicate (5 - (lg_sl ([.ref h_r, .long x1, .long x3])).length) Slot.unset).toArray = ls at hl ⊢
  refine tw_Remainders_minus (Q := MQ below _ _ s 0 0 A) ⟨⟨hx, hb, hml, hown, hts⟩, hK, hN⟩ hA (fun r  H locs pc ls hp hP hD hS hd => W.lret (v := r) hx hb hr (fun t ht hW => ⟨⟨r, (), rfl, hp, by rw [ht]; exact hP, hD⟩, hS.F ht⟩) hS.2.2 hd) _ _ _ _ _ hP hD hS hl hw
end
def wp_Remainders_plusTimes_24 (post : Int64 → Prop) (v_rp : Int64)  (y0 : Int64) : Prop := post y0
def wp_Remainders_plusTimes (post : Int64 → Prop) (v_rp : Int64)  (x1 : Int64) (x3 : Int64) (x5 : Int64) : Prop := (((lg_cmp v_rp 0) ≤ 0 → (wp_Remainders_plusTimes_24 post v_rp 0)) ∧ (¬ (lg_cmp v_rp 0) ≤ 0 → ((¬ v_rp = 0 ∧ (wp_Remainders_plusTimes_24 post v_rp ((x1 + (x3 * x5)) - (x1 + (x3 * x5)) / v_rp * v_rp))))))
section
variable {p : Program} {l : Launch} {e : Env} {s : State} {m : MethodId} {args : Array Value} {below : List Frame} {meth : Method} {c : Code} {Q : State → Prop} {A : Nat → Prop} {D : va_G} {cT : Nat → ClassId}
set_option maxHeartbeats 4000000 in
set_option maxRecDepth 100000 in
theorem tw_Remainders_plusTimes_24 {post : Int64 → Prop} {h_r : Nat} {v_rp : Int64}  (C0 : cx RX6 cX6_plusTimes 7 D cT p s m c args) (hA : ∀ q, s.heap.size ≤ q → A q) (hret : ∀ (r : Int64)  (H : Heap) (locs : List Loc) (pc : Nat) (ls : Array Slot), post r → va_P D vwCl [(h_r, .inr (6, [.long v_rp]))] H → va_D A [(h_r, .inr (6, [.long v_rp]))] → va_S A s.heap H locs → decode cX6_plusTimes pc = .ok (.lreturn, 1) → W p l e ({ frames := 0, cells := 0, slots := 0, locals := 0 } : Room) s m args below meth c H locs 0 0 Q (F0 m pc ls [.long r]))  : ∀ (y0 : Int64) (H : Heap) (locs : List Loc) (ls : Array Slot), va_P D vwCl [(h_r, .inr (6, [.long v_rp]))] H → va_D A [(h_r, .inr (6, [.long v_rp]))] → va_S A s.heap H locs → lv_has ls 7 [] → wp_Remainders_plusTimes_24 post v_rp y0 → W p l e ({ frames := 0, cells := 0, slots := 0, locals := 0 } : Room) s m args below meth c H locs 0 0 Q (F0 m 24 ls [.long y0]) := by
  obtain ⟨⟨hx, hb, hml, hown, hts⟩, hK, hN⟩ := id C0
  intro y0 H locs ls hP hD hS hl hw
  unfold wp_Remainders_plusTimes_24 at hw
  exact hret _  _ _ _ _ hw hP hD hS dX6_plusTimes_24
set_option maxHeartbeats 4000000 in
set_option maxRecDepth 100000 in
theorem tw_Remainders_plusTimes {post : Int64 → Prop} {h_r : Nat} {v_rp : Int64}  (C0 : cx RX6 cX6_plusTimes 7 D cT p s m c args) (hA : ∀ q, s.heap.size ≤ q → A q) (hret : ∀ (r : Int64)  (H : Heap) (locs : List Loc) (pc : Nat) (ls : Array Slot), post r → va_P D vwCl [(h_r, .inr (6, [.long v_rp]))] H → va_D A [(h_r, .inr (6, [.long v_rp]))] → va_S A s.heap H locs → decode cX6_plusTimes pc = .ok (.lreturn, 1) → W p l e ({ frames := 0, cells := 0, slots := 0, locals := 0 } : Room) s m args below meth c H locs 0 0 Q (F0 m pc ls [.long r]))  : ∀ (x1 : Int64) (x3 : Int64) (x5 : Int64) (H : Heap) (locs : List Loc) (ls : Array Slot), va_P D vwCl [(h_r, .inr (6, [.long v_rp]))] H → va_D A [(h_r, .inr (6, [.long v_rp]))] → va_S A s.heap H locs → lv_has ls 7 [(0, .ref h_r), (1, .long x1), (3, .long x3), (5, .long x5)] → wp_Remainders_plusTimes post v_rp x1 x3 x5 → W p l e ({ frames := 0, cells := 0, slots := 0, locals := 0 } : Room) s m args below meth c H locs 0 0 Q (F0 m 0 ls []) := by
  obtain ⟨⟨hx, hb, hml, hown, hts⟩, hK, hN⟩ := id C0
  intro x1 x3 x5 H locs ls hP hD hS hl hw
  unfold wp_Remainders_plusTimes at hw
  refine lv_aload_n hx hb dX6_plusTimes_0 rfl (lv_at hl 0 rfl) ?_
  refine va_get (D := D) (ci := 6) (v := .long v_rp) (C := RX6) (T := TX6) (N := 1) hx hb hts inX6 hown hK hP 0 rfl rfl 0 (by decide) (hts _ q_72) (fun _ h9 => h9) rfl dX6_plusTimes_1 ?_
  refine lv_lconst (v := 0) hx hb dX6_plusTimes_4 (by decide) ?_
  refine W.lcmp hx hb dX6_plusTimes_5 ?_
  refine lv_if_le (tgt := 23) hx hb dX6_plusTimes_6 (by decide) (fun c_1 => ?_) (fun c_1 => ?_)
  · have hw := hw.1 c_1
    refine lv_lconst (v := 0) hx hb dX6_plusTimes_23 (by decide) ?_
    exact tw_Remainders_plusTimes_24 C0 hA hret  _ _ _ _ hP hD hS (lv_sub hl [] rfl) hw
  · have hw := hw.2 c_1
    refine lv_lload_n hx hb dX6_plusTimes_9 rfl (lv_at hl 1 rfl) ?_
    refine lv_lload_n hx hb dX6_plusTimes_10 rfl (lv_at hl 2 rfl) ?_
    refine lv_lload hx hb dX6_plusTimes_11 (lv_at hl 3 rfl) ?_
    refine lv_lmul hx hb dX6_plusTimes_13 ?_
    refine lv_ladd hx hb dX6_plusTimes_14 ?_
    refine lv_aload_n hx hb dX6_plusTimes_15 rfl (lv_at hl 0 rfl) ?_
    refine va_get (D := D) (ci := 6) (v := .long v_rp) (C := RX6) (T := TX6) (N := 1) hx hb hts inX6 hown hK hP 0 rfl rfl 0 (by decide) (hts _ q_72) (fun _ h9 => h9) rfl dX6_plusTimes_16 ?_
    obtain ⟨h_2, hw⟩ := hw
    refine lv_lrem hx hb dX6_plusTimes_19 h_2 ?_
    refine lv_goto (tgt := 24) hx hb dX6_plusTimes_20 (by decide) ?_
    exact tw_Remainders_plusTimes_24 C0 hA hret  _ _ _ _ hP hD hS (lv_sub hl [] rfl) hw
set_option maxHeartbeats 4000000 in
set_option maxRecDepth 100000 in
theorem cn_Remainders_plusTimes (l : Launch) (D : va_G) (cT : Nat → ClassId) (h_r : Nat) (sz : Nat) (v_rp : Int64) (x1 : Int64) (x3 : Int64) (x5 : Int64) (post : Int64 → Prop) (hw : wp_Remainders_plusTimes post v_rp x1 x3 x5) : Met l yX6_plusTimes wX6_plusTimes ({ frames := 0, cells := 0, slots := 0, locals := 0 } : Room) (va_Pc [.ref h_r, .long x1, .long x3, .long x5] (pre_ D cT [(h_r, .inr (6, [.long v_rp]))] sz)) (va_Ql (fun (r : Int64) (u : Unit) => post r) (fun u t => va_P D vwCl [(h_r, .inr (6, [.long v_rp]))] t.heap ∧ va_D (va_A [(h_r, .inr (6, [.long v_rp]))] sz) [(h_r, .inr (6, [.long v_rp]))]) (va_A [(h_r, .inr (6, [.long v_rp]))] sz)) 0 0 (va_A [(h_r, .inr (6, [.long v_rp]))] sz) := by
  refine Met.ofW (cc := cX6_plusTimes) (maxL := 7) (ret := (some .long)) (by decide) rfl ?_
  intro p e s m args below meth c s₁ B hml hv
  obtain ⟨rfl, hsz, hP, hK, hD0, hN⟩ := hv
  have hx := B.exec
  have hb := B.bytes
  have hr := B.returns
  have hts : ∀ w ∈ WG, w.before _ s = true := fun w h => atoms_spec (ws := wX6_plusTimes) B.pre w (List.mem_cons_of_mem _ h)
  have hown : s.vm.findClass RX6 = some m.cls := findClass_of_methodNamed B.named
  have hlocks := B.notSynchronized
  subst hsz
  have hD := hD0.self (sz := s.heap.size)
  generalize hAe : va_A [(h_r, .inr (6, [.long v_rp]))] s.heap.size = A at hD ⊢
  have hA : ∀ q : Nat, s.heap.size ≤ q → A q := fun q h => by rw [← hAe]; exact Or.inr h
  have hS : va_S A s.heap s.heap [] := va_S.rf
  have hl := lv_entry ([.ref h_r, .long x1, .long x3, .long x5]) (n := 7) (Nat.le_of_ble_eq_true rfl)
  rw [lg_entry_eq]
  generalize (lg_sl ([.ref h_r, .long x1, .long x3, .long x5]) ++ List.replicate (7 - (lg_sl ([.ref h_r, .long x1, .long x3, .long x5])).length) Slot.unset).toArray = ls at hl ⊢
  refine tw_Remainders_plusTimes (Q := MQ below _ _ s 0 0 A) ⟨⟨hx, hb, hml, hown, hts⟩, hK, hN⟩ hA (fun r  H locs pc ls hp hP hD hS hd => W.lret (v := r) hx hb hr (fun t ht hW => ⟨⟨r, (), rfl, hp, by rw [ht]; exact hP, hD⟩, hS.F ht⟩) hS.2.2 hd) _ _ _ _ _ _ hP hD hS hl hw
end
def wp_Remainders_times (post : Int64 → Prop) (v_rp : Int64)  (x1 : Int64) (x3 : Int64) : Prop := wp_Remainders_plusTimes (fun r_1 => post r_1) v_rp 0 x1 x3
section
variable {p : Program} {l : Launch} {e : Env} {s : State} {m : MethodId} {args : Array Value} {below : List Frame} {meth : Method} {c : Code} {Q : State → Prop} {A : Nat → Prop} {D : va_G} {cT : Nat → ClassId}
set_option maxHeartbeats 4000000 in
set_option maxRecDepth 100000 in
theorem tw_Remainders_times {post : Int64 → Prop} {h_r : Nat} {v_rp : Int64}  (C0 : cx RX6 cX6_times 5 D cT p s m c args) (hA : ∀ q, s.heap.size ≤ q → A q) (hret : ∀ (r : Int64)  (H : Heap) (locs : List Loc) (pc : Nat) (ls : Array Slot), post r → va_P D vwCl [(h_r, .inr (6, [.long v_rp]))] H → va_D A [(h_r, .inr (6, [.long v_rp]))] → va_S A s.heap H locs → decode cX6_times pc = .ok (.lreturn, 1) → W p l e ({ frames := 1, cells := 0, slots := 0, locals := 26 } : Room) s m args below meth c H locs 0 0 Q (F0 m pc ls [.long r]))  : ∀ (x1 : Int64) (x3 : Int64) (H : Heap) (locs : List Loc) (ls : Array Slot), va_P D vwCl [(h_r, .inr (6, [.long v_rp]))] H → va_D A [(h_r, .inr (6, [.long v_rp]))] → va_S A s.heap H locs → lv_has ls 5 [(0, .ref h_r), (1, .long x1), (3, .long x3)] → wp_Remainders_times post v_rp x1 x3 → W p l e ({ frames := 1, cells := 0, slots := 0, locals := 26 } : Room) s m args below meth c H locs 0 0 Q (F0 m 0 ls []) := by
  obtain ⟨⟨hx, hb, hml, hown, hts⟩, hK, hN⟩ := id C0
  intro x1 x3 H locs ls hP hD hS hl hw
  unfold wp_Remainders_times at hw
  refine lv_aload_n hx hb dX6_times_0 rfl (lv_at hl 0 rfl) ?_
  refine lv_lconst (v := 0) hx hb dX6_times_1 (by decide) ?_
  refine lv_lload_n hx hb dX6_times_2 rfl (lv_at hl 1 rfl) ?_
  refine lv_lload_n hx hb dX6_times_3 rfl (lv_at hl 2 rfl) ?_
  have hPc := hP.sub (ws' := [(h_r, .inr (6, [.long v_rp]))]) [0] rfl
  have hDc := hD.sub (ws' := [(h_r, .inr (6, [.long v_rp]))]) [0] (by decide) rfl
  have hFc := va_free (wc := [(h_r, .inr (6, [.long v_rp]))]) hD hS hA [0] rfl
  refine va_calll (va_runV (As := [.long 0, .long x1, .long x3]) (rest := []) ⟨hx, hb, hml, hown, hts⟩ (cn_Remainders_plusTimes l D cT h_r H.size v_rp 0 x1 x3 _ hw) (gv_ 3 q_253 q_5 q_250 q_251 q_252 (by decide +kernel) ⟨Nat.le_of_ble_eq_true rfl, Nat.le_of_ble_eq_true rfl⟩ hts) ⟨pre_blind, va_recv hK hPc (ci := 6) (q0 := 0) rfl rfl, fun U hU hW => ⟨rfl, pre_mk hU hW hPc hK hDc hN⟩⟩ rfl rfl hl.1 rfl (lv_room (Nat.le_of_ble_eq_true rfl)) dX6_times_4 ⟨(Nat.zero_le _), (Nat.zero_le _)⟩) hS (fun q _ h => hFc q h) hFc (fun r_1 u9 t H locs ht hvm hw hB hz1 hk1 hS => ?_)
  obtain ⟨hP1, hD1⟩ := hB
  rw [ht] at hP1
  obtain ⟨hP, hD⟩ := va_join (wr := []) (w1 := [(h_r, .inr (6, [.long v_rp]))]) hP hD [0] [] rfl rfl (by decide) (by decide) hk1 hFc hP1 hD1
  have hP := hP.sub (ws' := [(h_r, .inr (6, [.long v_rp]))]) [0] rfl
  have hD := hD.sub (ws' := [(h_r, .inr (6, [.long v_rp]))]) [0] (by decide) rfl
  clear hP1 hD1 hPc hDc hFc hk1 hz1 hvm ht
  try dsimp only at hw
  exact hret _  _ _ _ _ hw hP hD hS dX6_times_7
set_option maxHeartbeats 4000000 in
set_option maxRecDepth 100000 in
theorem cn_Remainders_times (l : Launch) (D : va_G) (cT : Nat → ClassId) (h_r : Nat) (sz : Nat) (v_rp : Int64) (x1 : Int64) (x3 : Int64) (post : Int64 → Prop) (hw : wp_Remainders_times post v_rp x1 x3) : Met l yX6_times wX6_times ({ frames := 1, cells := 0, slots := 0, locals := 26 } : Room) (va_Pc [.ref h_r, .long x1, .long x3] (pre_ D cT [(h_r, .inr (6, [.long v_rp]))] sz)) (va_Ql (fun (r : Int64) (u : Unit) => post r) (fun u t => va_P D vwCl [(h_r, .inr (6, [.long v_rp]))] t.heap ∧ va_D (va_A [(h_r, .inr (6, [.long v_rp]))] sz) [(h_r, .inr (6, [.long v_rp]))]) (va_A [(h_r, .inr (6, [.long v_rp]))] sz)) 0 0 (va_A [(h_r, .inr (6, [.long v_rp]))] sz) := by
  refine Met.ofW (cc := cX6_times) (maxL := 5) (ret := (some .long)) (by decide) rfl ?_
  intro p e s m args below meth c s₁ B hml hv
  obtain ⟨rfl, hsz, hP, hK, hD0, hN⟩ := hv
  have hx := B.exec
  have hb := B.bytes
  have hr := B.returns
  have hts : ∀ w ∈ WG, w.before _ s = true := fun w h => atoms_spec (ws := wX6_times) B.pre w (List.mem_cons_of_mem _ h)
  have hown : s.vm.findClass RX6 = some m.cls := findClass_of_methodNamed B.named
  have hlocks := B.notSynchronized
  subst hsz
  have hD := hD0.self (sz := s.heap.size)
  generalize hAe : va_A [(h_r, .inr (6, [.long v_rp]))] s.heap.size = A at hD ⊢
  have hA : ∀ q : Nat, s.heap.size ≤ q → A q := fun q h => by rw [← hAe]; exact Or.inr h
  have hS : va_S A s.heap s.heap [] := va_S.rf
  have hl := lv_entry ([.ref h_r, .long x1, .long x3]) (n := 5) (Nat.le_of_ble_eq_true rfl)
  rw [lg_entry_eq]
  generalize (lg_sl ([.ref h_r, .long x1, .long x3]) ++ List.replicate (5 - (lg_sl ([.ref h_r, .long x1, .long x3])).length) Slot.unset).toArray = ls at hl ⊢
  refine tw_Remainders_times (Q := MQ below _ _ s 0 0 A) ⟨⟨hx, hb, hml, hown, hts⟩, hK, hN⟩ hA (fun r  H locs pc ls hp hP hD hS hd => W.lret (v := r) hx hb hr (fun t ht hW => ⟨⟨r, (), rfl, hp, by rw [ht]; exact hP, hD⟩, hS.F ht⟩) hS.2.2 hd) _ _ _ _ _ hP hD hS hl hw
end
def wp_Remainders_inverse_39 (post : Int64 → Prop) (v_rp : Int64) (K15 : Int64 → Int64 → Int64 → Prop) (x3 : Int64) (x5 : Int64) (x7 : Int64) : Prop := wp_Remainders_times (fun r_4 => ∀ x7_5 : Int64, x7_5 = x7 >>> ((1 : Int32).toInt64 &&& 63) → K15 x3 r_4 x7_5) v_rp x5 x5
def wp_Remainders_inverse_15 (post : Int64 → Prop) (v_rp : Int64)  : Nat → Int64 → Int64 → Int64 → Prop
  | 0 => fun _ _ _ => False
  | n + 1 => fun x3 x5 x7 => (((lg_cmp x7 0) ≤ 0 → (post x3)) ∧ (¬ (lg_cmp x7 0) ≤ 0 → ((((lg_cmp (x7 &&& 1) 1) = 0 → (wp_Remainders_times (fun r_6 => wp_Remainders_inverse_39 post v_rp (wp_Remainders_inverse_15 post v_rp n) r_6 x5 x7) v_rp x3 x5)) ∧ (¬ (lg_cmp (x7 &&& 1) 1) = 0 → (wp_Remainders_inverse_39 post v_rp (wp_Remainders_inverse_15 post v_rp n) x3 x5 x7))))))
def wp_Remainders_inverse (post : Int64 → Prop) (v_rp : Int64)  (x1 : Int64) : Prop := ∀ x7_1 : Int64, x7_1 = v_rp - 2 → ∃ k9, wp_Remainders_inverse_15 post v_rp k9 1 x1 x7_1
section
variable {p : Program} {l : Launch} {e : Env} {s : State} {m : MethodId} {args : Array Value} {below : List Frame} {meth : Method} {c : Code} {Q : State → Prop} {A : Nat → Prop} {D : va_G} {cT : Nat → ClassId}
set_option maxHeartbeats 4000000 in
set_option maxRecDepth 100000 in
theorem tw_Remainders_inverse_39 {post : Int64 → Prop} {h_r : Nat} {v_rp : Int64} {K15 : Int64 → Int64 → Int64 → Prop} (C0 : cx RX6 cX6_inverse 9 D cT p s m c args) (hA : ∀ q, s.heap.size ≤ q → A q) (hret : ∀ (r : Int64)  (H : Heap) (locs : List Loc) (pc : Nat) (ls : Array Slot), post r → va_P D vwCl [(h_r, .inr (6, [.long v_rp]))] H → va_D A [(h_r, .inr (6, [.long v_rp]))] → va_S A s.heap H locs → decode cX6_inverse pc = .ok (.lreturn, 1) → W p l e ({ frames := 2, cells := 0, slots := 0, locals := 50 } : Room) s m args below meth c H locs 0 0 Q (F0 m pc ls [.long r])) (hK15 : ∀ (x3 : Int64) (x5 : Int64) (x7 : Int64) (H : Heap) (locs : List Loc) (ls : Array Slot), va_P D vwCl [(h_r, .inr (6, [.long v_rp]))] H → va_D A [(h_r, .inr (6, [.long v_rp]))] → va_S A s.heap H locs → lv_has ls 9 [(0, .ref h_r), (3, .long x3), (5, .long x5), (7, .long x7)] → K15 x3 x5 x7 → W p l e ({ frames := 2, cells := 0, slots := 0, locals := 50 } : Room) s m args below meth c H locs 0 0 Q (F0 m 15 ls [])) : ∀ (x3 : Int64) (x5 : Int64) (x7 : Int64) (H : Heap) (locs : List Loc) (ls : Array Slot), va_P D vwCl [(h_r, .inr (6, [.long v_rp]))] H → va_D A [(h_r, .inr (6, [.long v_rp]))] → va_S A s.heap H locs → lv_has ls 9 [(0, .ref h_r), (3, .long x3), (5, .long x5), (7, .long x7)] → wp_Remainders_inverse_39 post v_rp K15 x3 x5 x7 → W p l e ({ frames := 2, cells := 0, slots := 0, locals := 50 } : Room) s m args below meth c H locs 0 0 Q (F0 m 39 ls []) := by
  obtain ⟨⟨hx, hb, hml, hown, hts⟩, hK, hN⟩ := id C0
  intro x3 x5 x7 H locs ls hP hD hS hl hw
  unfold wp_Remainders_inverse_39 at hw
  refine lv_aload_n hx hb dX6_inverse_39 rfl (lv_at hl 0 rfl) ?_
  refine lv_lload hx hb dX6_inverse_40 (lv_at hl 2 rfl) ?_
  refine lv_lload hx hb dX6_inverse_42 (lv_at hl 2 rfl) ?_
  have hPc := hP.sub (ws' := [(h_r, .inr (6, [.long v_rp]))]) [0] rfl
  have hDc := hD.sub (ws' := [(h_r, .inr (6, [.long v_rp]))]) [0] (by decide) rfl
  have hFc := va_free (wc := [(h_r, .inr (6, [.long v_rp]))]) hD hS hA [0] rfl
  refine va_calll (va_runV (As := [.long x5, .long x5]) (rest := []) ⟨hx, hb, hml, hown, hts⟩ (cn_Remainders_times l D cT h_r H.size v_rp x5 x5 _ hw) (gv_ 2 q_249 q_5 q_258 q_247 q_248 (by decide +kernel) ⟨Nat.le_of_ble_eq_true rfl, Nat.le_of_ble_eq_true rfl⟩ hts) ⟨pre_blind, va_recv hK hPc (ci := 6) (q0 := 0) rfl rfl, fun U hU hW => ⟨rfl, pre_mk hU hW hPc hK hDc hN⟩⟩ rfl rfl hl.1 rfl (lv_room (Nat.le_of_ble_eq_true rfl)) dX6_inverse_44 ⟨(Nat.zero_le _), (Nat.zero_le _)⟩) hS (fun q _ h => hFc q h) hFc (fun r_4 u9 t H locs ht hvm hw hB hz1 hk1 hS => ?_)
  obtain ⟨hP1, hD1⟩ := hB
  rw [ht] at hP1
  obtain ⟨hP, hD⟩ := va_join (wr := []) (w1 := [(h_r, .inr (6, [.long v_rp]))]) hP hD [0] [] rfl rfl (by decide) (by decide) hk1 hFc hP1 hD1
  have hP := hP.sub (ws' := [(h_r, .inr (6, [.long v_rp]))]) [0] rfl
  have hD := hD.sub (ws' := [(h_r, .inr (6, [.long v_rp]))]) [0] (by decide) rfl
  clear hP1 hD1 hPc hDc hFc hk1 hz1 hvm ht
  try dsimp only at hw
  refine lv_lstore (lv' := [(5, .long r_4), (0, .ref h_r), (3, .long x3), (7, .long x7)]) hx hb dX6_inverse_47 hl (by decide) rfl (fun ls hl => ?_)
  refine lv_lload hx hb dX6_inverse_49 (lv_at hl 3 rfl) ?_
  refine lv_iconst (v := 1) hx hb dX6_inverse_51 (by decide) ?_
  refine lv_lshr hx hb dX6_inverse_52 rfl ?_
  refine lv_topl (fun x7_5 ex7_5 => ?_)
  have hw := hw x7_5 ex7_5
  refine lv_lstore (lv' := [(7, .long x7_5), (5, .long r_4), (0, .ref h_r), (3, .long x3)]) hx hb dX6_inverse_53 hl (by decide) rfl (fun ls hl => ?_)
  refine lv_goto (tgt := 15) hx hb dX6_inverse_55 (by decide) ?_
  exact hK15 _ _ _ _ _ _ hP hD hS (lv_sub hl [2, 3, 1, 0] rfl) hw
set_option maxHeartbeats 4000000 in
set_option maxRecDepth 100000 in
theorem tw_Remainders_inverse_15 {post : Int64 → Prop} {h_r : Nat} {v_rp : Int64}  (C0 : cx RX6 cX6_inverse 9 D cT p s m c args) (hA : ∀ q, s.heap.size ≤ q → A q) (hret : ∀ (r : Int64)  (H : Heap) (locs : List Loc) (pc : Nat) (ls : Array Slot), post r → va_P D vwCl [(h_r, .inr (6, [.long v_rp]))] H → va_D A [(h_r, .inr (6, [.long v_rp]))] → va_S A s.heap H locs → decode cX6_inverse pc = .ok (.lreturn, 1) → W p l e ({ frames := 2, cells := 0, slots := 0, locals := 50 } : Room) s m args below meth c H locs 0 0 Q (F0 m pc ls [.long r]))  : ∀ (n : Nat) (x3 : Int64) (x5 : Int64) (x7 : Int64) (H : Heap) (locs : List Loc) (ls : Array Slot), va_P D vwCl [(h_r, .inr (6, [.long v_rp]))] H → va_D A [(h_r, .inr (6, [.long v_rp]))] → va_S A s.heap H locs → lv_has ls 9 [(0, .ref h_r), (3, .long x3), (5, .long x5), (7, .long x7)] → wp_Remainders_inverse_15 post v_rp n x3 x5 x7 → W p l e ({ frames := 2, cells := 0, slots := 0, locals := 50 } : Room) s m args below meth c H locs 0 0 Q (F0 m 15 ls []) := by
  obtain ⟨⟨hx, hb, hml, hown, hts⟩, hK, hN⟩ := id C0
  intro n
  induction n with
  | zero => intro x3 x5 x7 H locs ls hP hD hS hl hw; exact hw.elim
  | succ n ih =>
    intro x3 x5 x7 H locs ls hP hD hS hl hw
    unfold wp_Remainders_inverse_15 at hw
    refine lv_lload hx hb dX6_inverse_15 (lv_at hl 3 rfl) ?_
    refine lv_lconst (v := 0) hx hb dX6_inverse_17 (by decide) ?_
    refine W.lcmp hx hb dX6_inverse_18 ?_
    refine lv_if_le (tgt := 58) hx hb dX6_inverse_19 (by decide) (fun c_2 => ?_) (fun c_2 => ?_)
    · have hw := hw.1 c_2
      refine lv_lload_n hx hb dX6_inverse_58 rfl (lv_at hl 1 rfl) ?_
      exact hret _  _ _ _ _ hw hP hD hS dX6_inverse_59
    · have hw := hw.2 c_2
      refine lv_lload hx hb dX6_inverse_22 (lv_at hl 3 rfl) ?_
      refine lv_lconst (v := 1) hx hb dX6_inverse_24 (by decide) ?_
      refine lv_land hx hb dX6_inverse_25 ?_
      refine lv_lconst (v := 1) hx hb dX6_inverse_26 (by decide) ?_
      refine W.lcmp hx hb dX6_inverse_27 ?_
      refine lv_if_ne (tgt := 39) hx hb dX6_inverse_28 (by decide) (fun c_3 => ?_) (fun c_3 => ?_)
      · have hw := hw.2 c_3
        exact tw_Remainders_inverse_39 C0 hA hret ih _ _ _ _ _ _ hP hD hS (lv_sub hl [0, 1, 2, 3] rfl) hw
      · have hw := hw.1 c_3
        refine lv_aload_n hx hb dX6_inverse_31 rfl (lv_at hl 0 rfl) ?_
        refine lv_lload_n hx hb dX6_inverse_32 rfl (lv_at hl 1 rfl) ?_
        refine lv_lload hx hb dX6_inverse_33 (lv_at hl 2 rfl) ?_
        have hPc := hP.sub (ws' := [(h_r, .inr (6, [.long v_rp]))]) [0] rfl
        have hDc := hD.sub (ws' := [(h_r, .inr (6, [.long v_rp]))]) [0] (by decide) rfl
        have hFc := va_free (wc := [(h_r, .inr (6, [.long v_rp]))]) hD hS hA [0] rfl
        refine va_calll (va_runV (As := [.long x3, .long x5]) (rest := []) ⟨hx, hb, hml, hown, hts⟩ (cn_Remainders_times l D cT h_r H.size v_rp x3 x5 _ hw) (gv_ 2 q_249 q_5 q_258 q_247 q_248 (by decide +kernel) ⟨Nat.le_of_ble_eq_true rfl, Nat.le_of_ble_eq_true rfl⟩ hts) ⟨pre_blind, va_recv hK hPc (ci := 6) (q0 := 0) rfl rfl, fun U hU hW => ⟨rfl, pre_mk hU hW hPc hK hDc hN⟩⟩ rfl rfl hl.1 rfl (lv_room (Nat.le_of_ble_eq_true rfl)) dX6_inverse_35 ⟨(Nat.zero_le _), (Nat.zero_le _)⟩) hS (fun q _ h => hFc q h) hFc (fun r_6 u9 t H locs ht hvm hw hB hz1 hk1 hS => ?_)
        obtain ⟨hP1, hD1⟩ := hB
        rw [ht] at hP1
        obtain ⟨hP, hD⟩ := va_join (wr := []) (w1 := [(h_r, .inr (6, [.long v_rp]))]) hP hD [0] [] rfl rfl (by decide) (by decide) hk1 hFc hP1 hD1
        have hP := hP.sub (ws' := [(h_r, .inr (6, [.long v_rp]))]) [0] rfl
        have hD := hD.sub (ws' := [(h_r, .inr (6, [.long v_rp]))]) [0] (by decide) rfl
        clear hP1 hD1 hPc hDc hFc hk1 hz1 hvm ht
        try dsimp only at hw
        refine lv_lstore_n (lv' := [(3, .long r_6), (0, .ref h_r), (5, .long x5), (7, .long x7)]) hx hb dX6_inverse_38 rfl hl (by decide) rfl (fun ls hl => ?_)
        exact tw_Remainders_inverse_39 C0 hA hret ih _ _ _ _ _ _ hP hD hS (lv_sub hl [1, 0, 2, 3] rfl) hw
set_option maxHeartbeats 4000000 in
set_option maxRecDepth 100000 in
theorem tw_Remainders_inverse {post : Int64 → Prop} {h_r : Nat} {v_rp : Int64}  (C0 : cx RX6 cX6_inverse 9 D cT p s m c args) (hA : ∀ q, s.heap.size ≤ q → A q) (hret : ∀ (r : Int64)  (H : Heap) (locs : List Loc) (pc : Nat) (ls : Array Slot), post r → va_P D vwCl [(h_r, .inr (6, [.long v_rp]))] H → va_D A [(h_r, .inr (6, [.long v_rp]))] → va_S A s.heap H locs → decode cX6_inverse pc = .ok (.lreturn, 1) → W p l e ({ frames := 2, cells := 0, slots := 0, locals := 50 } : Room) s m args below meth c H locs 0 0 Q (F0 m pc ls [.long r]))  : ∀ (x1 : Int64) (H : Heap) (locs : List Loc) (ls : Array Slot), va_P D vwCl [(h_r, .inr (6, [.long v_rp]))] H → va_D A [(h_r, .inr (6, [.long v_rp]))] → va_S A s.heap H locs → lv_has ls 9 [(0, .ref h_r), (1, .long x1)] → wp_Remainders_inverse post v_rp x1 → W p l e ({ frames := 2, cells := 0, slots := 0, locals := 50 } : Room) s m args below meth c H locs 0 0 Q (F0 m 0 ls []) := by
  obtain ⟨⟨hx, hb, hml, hown, hts⟩, hK, hN⟩ := id C0
  intro x1 H locs ls hP hD hS hl hw
  unfold wp_Remainders_inverse at hw
  refine lv_lconst (v := 1) hx hb dX6_inverse_0 (by decide) ?_
  refine lv_lstore_n (lv' := [(3, .long 1), (0, .ref h_r), (1, .long x1)]) hx hb dX6_inverse_1 rfl hl (by decide) rfl (fun ls hl => ?_)
  refine lv_lload_n hx hb dX6_inverse_2 rfl (lv_at hl 2 rfl) ?_
  refine lv_lstore (lv' := [(5, .long x1), (3, .long 1), (0, .ref h_r), (1, .long x1)]) hx hb dX6_inverse_3 hl (by decide) rfl (fun ls hl => ?_)
  refine lv_aload_n hx hb dX6_inverse_5 rfl (lv_at hl 2 rfl) ?_
  refine va_get (D := D) (ci := 6) (v := .long v_rp) (C := RX6) (T := TX6) (N := 1) hx hb hts inX6 hown hK hP 0 rfl rfl 0 (by decide) (hts _ q_72) (fun _ h9 => h9) rfl dX6_inverse_6 ?_
  refine lv_ldc2 (v := 2) hx hb hown (hts _ q_71) dX6_inverse_9 ?_
  refine lv_lsub hx hb dX6_inverse_12 ?_
  refine lv_topl (fun x7_1 ex7_1 => ?_)
  have hw := hw x7_1 ex7_1
  refine lv_lstore (lv' := [(7, .long x7_1), (5, .long x1), (3, .long 1), (0, .ref h_r), (1, .long x1)]) hx hb dX6_inverse_13 hl (by decide) rfl (fun ls hl => ?_)
  obtain ⟨n9, hw⟩ := hw
  exact tw_Remainders_inverse_15 C0 hA hret  n9 _ _ _ _ _ _ hP hD hS (lv_sub hl [3, 2, 1, 0] rfl) hw
set_option maxHeartbeats 4000000 in
set_option maxRecDepth 100000 in
theorem cn_Remainders_inverse (l : Launch) (D : va_G) (cT : Nat → ClassId) (h_r : Nat) (sz : Nat) (v_rp : Int64) (x1 : Int64) (post : Int64 → Prop) (hw : wp_Remainders_inverse post v_rp x1) : Met l yX6_inverse wX6_inverse ({ frames := 2, cells := 0, slots := 0, locals := 50 } : Room) (va_Pc [.ref h_r, .long x1] (pre_ D cT [(h_r, .inr (6, [.long v_rp]))] sz)) (va_Ql (fun (r : Int64) (u : Unit) => post r) (fun u t => va_P D vwCl [(h_r, .inr (6, [.long v_rp]))] t.heap ∧ va_D (va_A [(h_r, .inr (6, [.long v_rp]))] sz) [(h_r, .inr (6, [.long v_rp]))]) (va_A [(h_r, .inr (6, [.long v_rp]))] sz)) 0 0 (va_A [(h_r, .inr (6, [.long v_rp]))] sz) := by
  refine Met.ofW (cc := cX6_inverse) (maxL := 9) (ret := (some .long)) (by decide) rfl ?_
  intro p e s m args below meth c s₁ B hml hv
  obtain ⟨rfl, hsz, hP, hK, hD0, hN⟩ := hv
  have hx := B.exec
  have hb := B.bytes
  have hr := B.returns
  have hts : ∀ w ∈ WG, w.before _ s = true := fun w h => atoms_spec (ws := wX6_inverse) B.pre w (List.mem_cons_of_mem _ h)
  have hown : s.vm.findClass RX6 = some m.cls := findClass_of_methodNamed B.named
  have hlocks := B.notSynchronized
  subst hsz
  have hD := hD0.self (sz := s.heap.size)
  generalize hAe : va_A [(h_r, .inr (6, [.long v_rp]))] s.heap.size = A at hD ⊢
  have hA : ∀ q : Nat, s.heap.size ≤ q → A q := fun q h => by rw [← hAe]; exact Or.inr h
  have hS : va_S A s.heap s.heap [] := va_S.rf
  have hl := lv_entry ([.ref h_r, .long x1]) (n := 9) (Nat.le_of_ble_eq_true rfl)
  rw [lg_entry_eq]
  generalize (lg_sl ([.ref h_r, .long x1]) ++ List.replicate (9 - (lg_sl ([.ref h_r, .long x1])).length) Slot.unset).toArray = ls at hl ⊢
  refine tw_Remainders_inverse (Q := MQ below _ _ s 0 0 A) ⟨⟨hx, hb, hml, hown, hts⟩, hK, hN⟩ hA (fun r  H locs pc ls hp hP hD hS hd => W.lret (v := r) hx hb hr (fun t ht hW => ⟨⟨r, (), rfl, hp, by rw [ht]; exact hP, hD⟩, hS.F ht⟩) hS.2.2 hd) _ _ _ _ hP hD hS hl hw
end
