def wp_Chain_hasState_17 (post : Int32 → Prop) (v_cs : Int32) (f_cw : Nat → Int32) (f_cl : Nat → Int32) (f_cp : Nat → Int32) (f_ce : Nat → Int32)  (y0 : Int32) : Prop := (narrow .boolean (.int y0) = .int y0 ∧ post y0)
def wp_Chain_hasState_16 (post : Int32 → Prop) (v_cs : Int32) (f_cw : Nat → Int32) (f_cl : Nat → Int32) (f_cp : Nat → Int32) (f_ce : Nat → Int32)   : Prop := wp_Chain_hasState_17 post v_cs f_cw f_cl f_cp f_ce 0
def wp_Chain_hasState (post : Int32 → Prop) (v_cs : Int32) (f_cw : Nat → Int32) (f_cl : Nat → Int32) (f_cp : Nat → Int32) (f_ce : Nat → Int32)  (x1 : Int32) : Prop := ((x1 < 0 → (wp_Chain_hasState_16 post v_cs f_cw f_cl f_cp f_ce)) ∧ (¬ x1 < 0 → (((v_cs ≤ x1 → (wp_Chain_hasState_16 post v_cs f_cw f_cl f_cp f_ce)) ∧ (¬ v_cs ≤ x1 → (wp_Chain_hasState_17 post v_cs f_cw f_cl f_cp f_ce 1))))))
section
variable {p : Program} {l : Launch} {e : Env} {s : State} {m : MethodId} {args : Array Value} {below : List Frame} {meth : Method} {c : Code} {Q : State → Prop} {A : Nat → Prop} {D : va_G} {cT : Nat → ClassId}
set_option maxHeartbeats 4000000 in
set_option maxRecDepth 100000 in
theorem tw_Chain_hasState_17 {post : Int32 → Prop} {h_c h_cw h_cl h_cp h_ce : Nat} {v_cs : Int32} {f_cw : Nat → Int32} {f_cl : Nat → Int32} {f_cp : Nat → Int32} {f_ce : Nat → Int32}  (C0 : cx RX0 cX0_hasState 2 D cT p s m c args) (hA : ∀ q, s.heap.size ≤ q → A q) (hret : ∀ (r : Int32)  (H : Heap) (locs : List Loc) (pc : Nat) (ls : Array Slot), narrow .boolean (.int r) = .int r → post r → va_P D vwCl [(h_c, .inr (0, [.ref h_cw, .ref h_cl, .ref h_cp, .ref h_ce, .int v_cs])), (h_cw, .inl (cT 0, 40, .inl f_cw)), (h_cl, .inl (cT 0, 40, .inl f_cl)), (h_cp, .inl (cT 0, 1640, .inl f_cp)), (h_ce, .inl (cT 2, 40, .inl f_ce))] H → va_D A [(h_c, .inr (0, [.ref h_cw, .ref h_cl, .ref h_cp, .ref h_ce, .int v_cs])), (h_cw, .inl (cT 0, 40, .inl f_cw)), (h_cl, .inl (cT 0, 40, .inl f_cl)), (h_cp, .inl (cT 0, 1640, .inl f_cp)), (h_ce, .inl (cT 2, 40, .inl f_ce))] → va_S A s.heap H locs → decode cX0_hasState pc = .ok (.ireturn, 1) → W p l e ({ frames := 0, cells := 0, slots := 0, locals := 0 } : Room) s m args below meth c H locs 0 0 Q (F0 m pc ls [.int r]))  : ∀ (y0 : Int32) (H : Heap) (locs : List Loc) (ls : Array Slot), va_P D vwCl [(h_c, .inr (0, [.ref h_cw, .ref h_cl, .ref h_cp, .ref h_ce, .int v_cs])), (h_cw, .inl (cT 0, 40, .inl f_cw)), (h_cl, .inl (cT 0, 40, .inl f_cl)), (h_cp, .inl (cT 0, 1640, .inl f_cp)), (h_ce, .inl (cT 2, 40, .inl f_ce))] H → va_D A [(h_c, .inr (0, [.ref h_cw, .ref h_cl, .ref h_cp, .ref h_ce, .int v_cs])), (h_cw, .inl (cT 0, 40, .inl f_cw)), (h_cl, .inl (cT 0, 40, .inl f_cl)), (h_cp, .inl (cT 0, 1640, .inl f_cp)), (h_ce, .inl (cT 2, 40, .inl f_ce))] → va_S A s.heap H locs → lv_has ls 2 [] → wp_Chain_hasState_17 post v_cs f_cw f_cl f_cp f_ce y0 → W p l e ({ frames := 0, cells := 0, slots := 0, locals := 0 } : Room) s m args below meth c H locs 0 0 Q (F0 m 17 ls [.int y0]) := by
  obtain ⟨⟨hx, hb, hml, hown, hts⟩, hK, hN⟩ := id C0
  intro y0 H locs ls hP hD hS hl hw
  unfold wp_Chain_hasState_17 at hw
  exact hret _  _ _ _ _ hw.1 hw.2 hP hD hS dX0_hasState_17
set_option maxHeartbeats 4000000 in
set_option maxRecDepth 100000 in
theorem tw_Chain_hasState_16 {post : Int32 → Prop} {h_c h_cw h_cl h_cp h_ce : Nat} {v_cs : Int32} {f_cw : Nat → Int32} {f_cl : Nat → Int32} {f_cp : Nat → Int32} {f_ce : Nat → Int32}  (C0 : cx RX0 cX0_hasState 2 D cT p s m c args) (hA : ∀ q, s.heap.size ≤ q → A q) (hret : ∀ (r : Int32)  (H : Heap) (locs : List Loc) (pc : Nat) (ls : Array Slot), narrow .boolean (.int r) = .int r → post r → va_P D vwCl [(h_c, .inr (0, [.ref h_cw, .ref h_cl, .ref h_cp, .ref h_ce, .int v_cs])), (h_cw, .inl (cT 0, 40, .inl f_cw)), (h_cl, .inl (cT 0, 40, .inl f_cl)), (h_cp, .inl (cT 0, 1640, .inl f_cp)), (h_ce, .inl (cT 2, 40, .inl f_ce))] H → va_D A [(h_c, .inr (0, [.ref h_cw, .ref h_cl, .ref h_cp, .ref h_ce, .int v_cs])), (h_cw, .inl (cT 0, 40, .inl f_cw)), (h_cl, .inl (cT 0, 40, .inl f_cl)), (h_cp, .inl (cT 0, 1640, .inl f_cp)), (h_ce, .inl (cT 2, 40, .inl f_ce))] → va_S A s.heap H locs → decode cX0_hasState pc = .ok (.ireturn, 1) → W p l e ({ frames := 0, cells := 0, slots := 0, locals := 0 } : Room) s m args below meth c H locs 0 0 Q (F0 m pc ls [.int r]))  : ∀  (H : Heap) (locs : List Loc) (ls : Array Slot), va_P D vwCl [(h_c, .inr (0, [.ref h_cw, .ref h_cl, .ref h_cp, .ref h_ce, .int v_cs])), (h_cw, .inl (cT 0, 40, .inl f_cw)), (h_cl, .inl (cT 0, 40, .inl f_cl)), (h_cp, .inl (cT 0, 1640, .inl f_cp)), (h_ce, .inl (cT 2, 40, .inl f_ce))] H → va_D A [(h_c, .inr (0, [.ref h_cw, .ref h_cl, .ref h_cp, .ref h_ce, .int v_cs])), (h_cw, .inl (cT 0, 40, .inl f_cw)), (h_cl, .inl (cT 0, 40, .inl f_cl)), (h_cp, .inl (cT 0, 1640, .inl f_cp)), (h_ce, .inl (cT 2, 40, .inl f_ce))] → va_S A s.heap H locs → lv_has ls 2 [] → wp_Chain_hasState_16 post v_cs f_cw f_cl f_cp f_ce  → W p l e ({ frames := 0, cells := 0, slots := 0, locals := 0 } : Room) s m args below meth c H locs 0 0 Q (F0 m 16 ls []) := by
  obtain ⟨⟨hx, hb, hml, hown, hts⟩, hK, hN⟩ := id C0
  intro H locs ls hP hD hS hl hw
  unfold wp_Chain_hasState_16 at hw
  refine lv_iconst (v := 0) hx hb dX0_hasState_16 (by decide) ?_
  exact tw_Chain_hasState_17 C0 hA hret  _ _ _ _ hP hD hS (lv_sub hl [] rfl) hw
set_option maxHeartbeats 4000000 in
set_option maxRecDepth 100000 in
theorem tw_Chain_hasState {post : Int32 → Prop} {h_c h_cw h_cl h_cp h_ce : Nat} {v_cs : Int32} {f_cw : Nat → Int32} {f_cl : Nat → Int32} {f_cp : Nat → Int32} {f_ce : Nat → Int32}  (C0 : cx RX0 cX0_hasState 2 D cT p s m c args) (hA : ∀ q, s.heap.size ≤ q → A q) (hret : ∀ (r : Int32)  (H : Heap) (locs : List Loc) (pc : Nat) (ls : Array Slot), narrow .boolean (.int r) = .int r → post r → va_P D vwCl [(h_c, .inr (0, [.ref h_cw, .ref h_cl, .ref h_cp, .ref h_ce, .int v_cs])), (h_cw, .inl (cT 0, 40, .inl f_cw)), (h_cl, .inl (cT 0, 40, .inl f_cl)), (h_cp, .inl (cT 0, 1640, .inl f_cp)), (h_ce, .inl (cT 2, 40, .inl f_ce))] H → va_D A [(h_c, .inr (0, [.ref h_cw, .ref h_cl, .ref h_cp, .ref h_ce, .int v_cs])), (h_cw, .inl (cT 0, 40, .inl f_cw)), (h_cl, .inl (cT 0, 40, .inl f_cl)), (h_cp, .inl (cT 0, 1640, .inl f_cp)), (h_ce, .inl (cT 2, 40, .inl f_ce))] → va_S A s.heap H locs → decode cX0_hasState pc = .ok (.ireturn, 1) → W p l e ({ frames := 0, cells := 0, slots := 0, locals := 0 } : Room) s m args below meth c H locs 0 0 Q (F0 m pc ls [.int r]))  : ∀ (x1 : Int32) (H : Heap) (locs : List Loc) (ls : Array Slot), va_P D vwCl [(h_c, .inr (0, [.ref h_cw, .ref h_cl, .ref h_cp, .ref h_ce, .int v_cs])), (h_cw, .inl (cT 0, 40, .inl f_cw)), (h_cl, .inl (cT 0, 40, .inl f_cl)), (h_cp, .inl (cT 0, 1640, .inl f_cp)), (h_ce, .inl (cT 2, 40, .inl f_ce))] H → va_D A [(h_c, .inr (0, [.ref h_cw, .ref h_cl, .ref h_cp, .ref h_ce, .int v_cs])), (h_cw, .inl (cT 0, 40, .inl f_cw)), (h_cl, .inl (cT 0, 40, .inl f_cl)), (h_cp, .inl (cT 0, 1640, .inl f_cp)), (h_ce, .inl (cT 2, 40, .inl f_ce))] → va_S A s.heap H locs → lv_has ls 2 [(0, .ref h_c), (1, .int x1)] → wp_Chain_hasState post v_cs f_cw f_cl f_cp f_ce x1 → W p l e ({ frames := 0, cells := 0, slots := 0, locals := 0 } : Room) s m args below meth c H locs 0 0 Q (F0 m 0 ls []) := by
  obtain ⟨⟨hx, hb, hml, hown, hts⟩, hK, hN⟩ := id C0
  intro x1 H locs ls hP hD hS hl hw
  unfold wp_Chain_hasState at hw
  refine lv_iload_n hx hb dX0_hasState_0 rfl (lv_at hl 1 rfl) ?_
  refine lv_if_lt (tgt := 16) hx hb dX0_hasState_1 (by decide) (fun c_1 => ?_) (fun c_1 => ?_)
  · have hw := hw.1 c_1
    exact tw_Chain_hasState_16 C0 hA hret   _ _ _ hP hD hS (lv_sub hl [] rfl) hw
  · have hw := hw.2 c_1
    refine lv_iload_n hx hb dX0_hasState_4 rfl (lv_at hl 1 rfl) ?_
    refine lv_aload_n hx hb dX0_hasState_5 rfl (lv_at hl 0 rfl) ?_
    refine va_get (D := D) (ci := 0) (v := .int v_cs) (C := RX0) (T := TX0) (N := 5) hx hb hts inX0 hown hK hP 0 rfl rfl 4 (by decide) (hts _ q_37) (fun _ h9 => h9) rfl dX0_hasState_6 ?_
    refine lv_icmp_ge (tgt := 16) hx hb dX0_hasState_9 (by decide) (fun c_2 => ?_) (fun c_2 => ?_)
    · have hw := hw.1 c_2
      exact tw_Chain_hasState_16 C0 hA hret   _ _ _ hP hD hS (lv_sub hl [] rfl) hw
    · have hw := hw.2 c_2
      refine lv_iconst (v := 1) hx hb dX0_hasState_12 (by decide) ?_
      refine lv_goto (tgt := 17) hx hb dX0_hasState_13 (by decide) ?_
      exact tw_Chain_hasState_17 C0 hA hret  _ _ _ _ hP hD hS (lv_sub hl [] rfl) hw
set_option maxHeartbeats 4000000 in
set_option maxRecDepth 100000 in
theorem cn_Chain_hasState (l : Launch) (D : va_G) (cT : Nat → ClassId) (h_c h_cw h_cl h_cp h_ce : Nat) (sz : Nat) (v_cs : Int32) (f_cw : Nat → Int32) (f_cl : Nat → Int32) (f_cp : Nat → Int32) (f_ce : Nat → Int32) (x1 : Int32) (post : Int32 → Prop) (hw : wp_Chain_hasState post v_cs f_cw f_cl f_cp f_ce x1) : Met l yX0_hasState wX0_hasState ({ frames := 0, cells := 0, slots := 0, locals := 0 } : Room) (va_Pc [.ref h_c, .int x1] (pre_ D cT [(h_c, .inr (0, [.ref h_cw, .ref h_cl, .ref h_cp, .ref h_ce, .int v_cs])), (h_cw, .inl (cT 0, 40, .inl f_cw)), (h_cl, .inl (cT 0, 40, .inl f_cl)), (h_cp, .inl (cT 0, 1640, .inl f_cp)), (h_ce, .inl (cT 2, 40, .inl f_ce))] sz)) (va_Qi (fun (r : Int32) (u : Unit) => post r) (fun u t => va_P D vwCl [(h_c, .inr (0, [.ref h_cw, .ref h_cl, .ref h_cp, .ref h_ce, .int v_cs])), (h_cw, .inl (cT 0, 40, .inl f_cw)), (h_cl, .inl (cT 0, 40, .inl f_cl)), (h_cp, .inl (cT 0, 1640, .inl f_cp)), (h_ce, .inl (cT 2, 40, .inl f_ce))] t.heap ∧ va_D (va_A [(h_c, .inr (0, [.ref h_cw, .ref h_cl, .ref h_cp, .ref h_ce, .int v_cs])), (h_cw, .inl (cT 0, 40, .inl f_cw)), (h_cl, .inl (cT 0, 40, .inl f_cl)), (h_cp, .inl (cT 0, 1640, .inl f_cp)), (h_ce, .inl (cT 2, 40, .inl f_ce))] sz) [(h_c, .inr (0, [.ref h_cw, .ref h_cl, .ref h_cp, .ref h_ce, .int v_cs])), (h_cw, .inl (cT 0, 40, .inl f_cw)), (h_cl, .inl (cT 0, 40, .inl f_cl)), (h_cp, .inl (cT 0, 1640, .inl f_cp)), (h_ce, .inl (cT 2, 40, .inl f_ce))]) (va_A [(h_c, .inr (0, [.ref h_cw, .ref h_cl, .ref h_cp, .ref h_ce, .int v_cs])), (h_cw, .inl (cT 0, 40, .inl f_cw)), (h_cl, .inl (cT 0, 40, .inl f_cl)), (h_cp, .inl (cT 0, 1640, .inl f_cp)), (h_ce, .inl (cT 2, 40, .inl f_ce))] sz)) 0 0 (va_A [(h_c, .inr (0, [.ref h_cw, .ref h_cl, .ref h_cp, .ref h_ce, .int v_cs])), (h_cw, .inl (cT 0, 40, .inl f_cw)), (h_cl, .inl (cT 0, 40, .inl f_cl)), (h_cp, .inl (cT 0, 1640, .inl f_cp)), (h_ce, .inl (cT 2, 40, .inl f_ce))] sz) := by
  refine Met.ofW (cc := cX0_hasState) (maxL := 2) (ret := (some .boolean)) (by decide) rfl ?_
  intro p e s m args below meth c s₁ B hml hv
  obtain ⟨rfl, hsz, hP, hK, hD0, hN⟩ := hv
  have hx := B.exec
  have hb := B.bytes
  have hr := B.returns
  have hts : ∀ w ∈ WG, w.before _ s = true := fun w h => atoms_spec (ws := wX0_hasState) B.pre w (List.mem_cons_of_mem _ h)
  have hown : s.vm.findClass RX0 = some m.cls := findClass_of_methodNamed B.named
  have hlocks := B.notSynchronized
  subst hsz
  have hD := hD0.self (sz := s.heap.size)
  generalize hAe : va_A [(h_c, .inr (0, [.ref h_cw, .ref h_cl, .ref h_cp, .ref h_ce, .int v_cs])), (h_cw, .inl (cT 0, 40, .inl f_cw)), (h_cl, .inl (cT 0, 40, .inl f_cl)), (h_cp, .inl (cT 0, 1640, .inl f_cp)), (h_ce, .inl (cT 2, 40, .inl f_ce))] s.heap.size = A at hD ⊢
  have hA : ∀ q : Nat, s.heap.size ≤ q → A q := fun q h => by rw [← hAe]; exact Or.inr h
  have hS : va_S A s.heap s.heap [] := va_S.rf
  have hl := lv_entry ([.ref h_c, .int x1]) (n := 2) (Nat.le_of_ble_eq_true rfl)
  rw [lg_entry_eq]
  generalize (lg_sl ([.ref h_c, .int x1]) ++ List.replicate (2 - (lg_sl ([.ref h_c, .int x1])).length) Slot.unset).toArray = ls at hl ⊢
  refine tw_Chain_hasState (Q := MQ below _ _ s 0 0 A) ⟨⟨hx, hb, hml, hown, hts⟩, hK, hN⟩ hA (fun r  H locs pc ls hn9 hp hP hD hS hd => W.zret (v := r) hx hb hr hn9 (fun t ht hW => ⟨⟨r, (), rfl, hp, by rw [ht]; exact hP, hD⟩, hS.F ht⟩) hS.2.2 hd) _ _ _ _ hP hD hS hl hw
end
def wp_Chain_hasTarget_17 (post : Int32 → Prop) (v_cs : Int32) (f_cw : Nat → Int32) (f_cl : Nat → Int32) (f_cp : Nat → Int32) (f_ce : Nat → Int32)  (y0 : Int32) : Prop := (narrow .boolean (.int y0) = .int y0 ∧ post y0)
def wp_Chain_hasTarget_16 (post : Int32 → Prop) (v_cs : Int32) (f_cw : Nat → Int32) (f_cl : Nat → Int32) (f_cp : Nat → Int32) (f_ce : Nat → Int32)   : Prop := wp_Chain_hasTarget_17 post v_cs f_cw f_cl f_cp f_ce 0
def wp_Chain_hasTarget (post : Int32 → Prop) (v_cs : Int32) (f_cw : Nat → Int32) (f_cl : Nat → Int32) (f_cp : Nat → Int32) (f_ce : Nat → Int32)  (x1 : Int32) : Prop := ((x1 < 0 → (wp_Chain_hasTarget_16 post v_cs f_cw f_cl f_cp f_ce)) ∧ (¬ x1 < 0 → (((v_cs < x1 → (wp_Chain_hasTarget_16 post v_cs f_cw f_cl f_cp f_ce)) ∧ (¬ v_cs < x1 → (wp_Chain_hasTarget_17 post v_cs f_cw f_cl f_cp f_ce 1))))))
section
variable {p : Program} {l : Launch} {e : Env} {s : State} {m : MethodId} {args : Array Value} {below : List Frame} {meth : Method} {c : Code} {Q : State → Prop} {A : Nat → Prop} {D : va_G} {cT : Nat → ClassId}
set_option maxHeartbeats 4000000 in
set_option maxRecDepth 100000 in
theorem tw_Chain_hasTarget_17 {post : Int32 → Prop} {h_c h_cw h_cl h_cp h_ce : Nat} {v_cs : Int32} {f_cw : Nat → Int32} {f_cl : Nat → Int32} {f_cp : Nat → Int32} {f_ce : Nat → Int32}  (C0 : cx RX0 cX0_hasTarget 2 D cT p s m c args) (hA : ∀ q, s.heap.size ≤ q → A q) (hret : ∀ (r : Int32)  (H : Heap) (locs : List Loc) (pc : Nat) (ls : Array Slot), narrow .boolean (.int r) = .int r → post r → va_P D vwCl [(h_c, .inr (0, [.ref h_cw, .ref h_cl, .ref h_cp, .ref h_ce, .int v_cs])), (h_cw, .inl (cT 0, 40, .inl f_cw)), (h_cl, .inl (cT 0, 40, .inl f_cl)), (h_cp, .inl (cT 0, 1640, .inl f_cp)), (h_ce, .inl (cT 2, 40, .inl f_ce))] H → va_D A [(h_c, .inr (0, [.ref h_cw, .ref h_cl, .ref h_cp, .ref h_ce, .int v_cs])), (h_cw, .inl (cT 0, 40, .inl f_cw)), (h_cl, .inl (cT 0, 40, .inl f_cl)), (h_cp, .inl (cT 0, 1640, .inl f_cp)), (h_ce, .inl (cT 2, 40, .inl f_ce))] → va_S A s.heap H locs → decode cX0_hasTarget pc = .ok (.ireturn, 1) → W p l e ({ frames := 0, cells := 0, slots := 0, locals := 0 } : Room) s m args below meth c H locs 0 0 Q (F0 m pc ls [.int r]))  : ∀ (y0 : Int32) (H : Heap) (locs : List Loc) (ls : Array Slot), va_P D vwCl [(h_c, .inr (0, [.ref h_cw, .ref h_cl, .ref h_cp, .ref h_ce, .int v_cs])), (h_cw, .inl (cT 0, 40, .inl f_cw)), (h_cl, .inl (cT 0, 40, .inl f_cl)), (h_cp, .inl (cT 0, 1640, .inl f_cp)), (h_ce, .inl (cT 2, 40, .inl f_ce))] H → va_D A [(h_c, .inr (0, [.ref h_cw, .ref h_cl, .ref h_cp, .ref h_ce, .int v_cs])), (h_cw, .inl (cT 0, 40, .inl f_cw)), (h_cl, .inl (cT 0, 40, .inl f_cl)), (h_cp, .inl (cT 0, 1640, .inl f_cp)), (h_ce, .inl (cT 2, 40, .inl f_ce))] → va_S A s.heap H locs → lv_has ls 2 [] → wp_Chain_hasTarget_17 post v_cs f_cw f_cl f_cp f_ce y0 → W p l e ({ frames := 0, cells := 0, slots := 0, locals := 0 } : Room) s m args below meth c H locs 0 0 Q (F0 m 17 ls [.int y0]) := by
  obtain ⟨⟨hx, hb, hml, hown, hts⟩, hK, hN⟩ := id C0
  intro y0 H locs ls hP hD hS hl hw
  unfold wp_Chain_hasTarget_17 at hw
  exact hret _  _ _ _ _ hw.1 hw.2 hP hD hS dX0_hasTarget_17
set_option maxHeartbeats 4000000 in
set_option maxRecDepth 100000 in
theorem tw_Chain_hasTarget_16 {post : Int32 → Prop} {h_c h_cw h_cl h_cp h_ce : Nat} {v_cs : Int32} {f_cw : Nat → Int32} {f_cl : Nat → Int32} {f_cp : Nat → Int32} {f_ce : Nat → Int32}  (C0 : cx RX0 cX0_hasTarget 2 D cT p s m c args) (hA : ∀ q, s.heap.size ≤ q → A q) (hret : ∀ (r : Int32)  (H : Heap) (locs : List Loc) (pc : Nat) (ls : Array Slot), narrow .boolean (.int r) = .int r → post r → va_P D vwCl [(h_c, .inr (0, [.ref h_cw, .ref h_cl, .ref h_cp, .ref h_ce, .int v_cs])), (h_cw, .inl (cT 0, 40, .inl f_cw)), (h_cl, .inl (cT 0, 40, .inl f_cl)), (h_cp, .inl (cT 0, 1640, .inl f_cp)), (h_ce, .inl (cT 2, 40, .inl f_ce))] H → va_D A [(h_c, .inr (0, [.ref h_cw, .ref h_cl, .ref h_cp, .ref h_ce, .int v_cs])), (h_cw, .inl (cT 0, 40, .inl f_cw)), (h_cl, .inl (cT 0, 40, .inl f_cl)), (h_cp, .inl (cT 0, 1640, .inl f_cp)), (h_ce, .inl (cT 2, 40, .inl f_ce))] → va_S A s.heap H locs → decode cX0_hasTarget pc = .ok (.ireturn, 1) → W p l e ({ frames := 0, cells := 0, slots := 0, locals := 0 } : Room) s m args below meth c H locs 0 0 Q (F0 m pc ls [.int r]))  : ∀  (H : Heap) (locs : List Loc) (ls : Array Slot), va_P D vwCl [(h_c, .inr (0, [.ref h_cw, .ref h_cl, .ref h_cp, .ref h_ce, .int v_cs])), (h_cw, .inl (cT 0, 40, .inl f_cw)), (h_cl, .inl (cT 0, 40, .inl f_cl)), (h_cp, .inl (cT 0, 1640, .inl f_cp)), (h_ce, .inl (cT 2, 40, .inl f_ce))] H → va_D A [(h_c, .inr (0, [.ref h_cw, .ref h_cl, .ref h_cp, .ref h_ce, .int v_cs])), (h_cw, .inl (cT 0, 40, .inl f_cw)), (h_cl, .inl (cT 0, 40, .inl f_cl)), (h_cp, .inl (cT 0, 1640, .inl f_cp)), (h_ce, .inl (cT 2, 40, .inl f_ce))] → va_S A s.heap H locs → lv_has ls 2 [] → wp_Chain_hasTarget_16 post v_cs f_cw f_cl f_cp f_ce  → W p l e ({ frames := 0, cells := 0, slots := 0, locals := 0 } : Room) s m args below meth c H locs 0 0 Q (F0 m 16 ls []) := by
  obtain ⟨⟨hx, hb, hml, hown, hts⟩, hK, hN⟩ := id C0
  intro H locs ls hP hD hS hl hw
  unfold wp_Chain_hasTarget_16 at hw
  refine lv_iconst (v := 0) hx hb dX0_hasTarget_16 (by decide) ?_
  exact tw_Chain_hasTarget_17 C0 hA hret  _ _ _ _ hP hD hS (lv_sub hl [] rfl) hw
set_option maxHeartbeats 4000000 in
set_option maxRecDepth 100000 in
theorem tw_Chain_hasTarget {post : Int32 → Prop} {h_c h_cw h_cl h_cp h_ce : Nat} {v_cs : Int32} {f_cw : Nat → Int32} {f_cl : Nat → Int32} {f_cp : Nat → Int32} {f_ce : Nat → Int32}  (C0 : cx RX0 cX0_hasTarget 2 D cT p s m c args) (hA : ∀ q, s.heap.size ≤ q → A q) (hret : ∀ (r : Int32)  (H : Heap) (locs : List Loc) (pc : Nat) (ls : Array Slot), narrow .boolean (.int r) = .int r → post r → va_P D vwCl [(h_c, .inr (0, [.ref h_cw, .ref h_cl, .ref h_cp, .ref h_ce, .int v_cs])), (h_cw, .inl (cT 0, 40, .inl f_cw)), (h_cl, .inl (cT 0, 40, .inl f_cl)), (h_cp, .inl (cT 0, 1640, .inl f_cp)), (h_ce, .inl (cT 2, 40, .inl f_ce))] H → va_D A [(h_c, .inr (0, [.ref h_cw, .ref h_cl, .ref h_cp, .ref h_ce, .int v_cs])), (h_cw, .inl (cT 0, 40, .inl f_cw)), (h_cl, .inl (cT 0, 40, .inl f_cl)), (h_cp, .inl (cT 0, 1640, .inl f_cp)), (h_ce, .inl (cT 2, 40, .inl f_ce))] → va_S A s.heap H locs → decode cX0_hasTarget pc = .ok (.ireturn, 1) → W p l e ({ frames := 0, cells := 0, slots := 0, locals := 0 } : Room) s m args below meth c H locs 0 0 Q (F0 m pc ls [.int r]))  : ∀ (x1 : Int32) (H : Heap) (locs : List Loc) (ls : Array Slot), va_P D vwCl [(h_c, .inr (0, [.ref h_cw, .ref h_cl, .ref h_cp, .ref h_ce, .int v_cs])), (h_cw, .inl (cT 0, 40, .inl f_cw)), (h_cl, .inl (cT 0, 40, .inl f_cl)), (h_cp, .inl (cT 0, 1640, .inl f_cp)), (h_ce, .inl (cT 2, 40, .inl f_ce))] H → va_D A [(h_c, .inr (0, [.ref h_cw, .ref h_cl, .ref h_cp, .ref h_ce, .int v_cs])), (h_cw, .inl (cT 0, 40, .inl f_cw)), (h_cl, .inl (cT 0, 40, .inl f_cl)), (h_cp, .inl (cT 0, 1640, .inl f_cp)), (h_ce, .inl (cT 2, 40, .inl f_ce))] → va_S A s.heap H locs → lv_has ls 2 [(0, .ref h_c), (1, .int x1)] → wp_Chain_hasTarget post v_cs f_cw f_cl f_cp f_ce x1 → W p l e ({ frames := 0, cells := 0, slots := 0, locals := 0 } : Room) s m args below meth c H locs 0 0 Q (F0 m 0 ls []) := by
  obtain ⟨⟨hx, hb, hml, hown, hts⟩, hK, hN⟩ := id C0
  intro x1 H locs ls hP hD hS hl hw
  unfold wp_Chain_hasTarget at hw
  refine lv_iload_n hx hb dX0_hasTarget_0 rfl (lv_at hl 1 rfl) ?_
  refine lv_if_lt (tgt := 16) hx hb dX0_hasTarget_1 (by decide) (fun c_1 => ?_) (fun c_1 => ?_)
  · have hw := hw.1 c_1
    exact tw_Chain_hasTarget_16 C0 hA hret   _ _ _ hP hD hS (lv_sub hl [] rfl) hw
  · have hw := hw.2 c_1
    refine lv_iload_n hx hb dX0_hasTarget_4 rfl (lv_at hl 1 rfl) ?_
    refine lv_aload_n hx hb dX0_hasTarget_5 rfl (lv_at hl 0 rfl) ?_
    refine va_get (D := D) (ci := 0) (v := .int v_cs) (C := RX0) (T := TX0) (N := 5) hx hb hts inX0 hown hK hP 0 rfl rfl 4 (by decide) (hts _ q_37) (fun _ h9 => h9) rfl dX0_hasTarget_6 ?_
    refine lv_icmp_gt (tgt := 16) hx hb dX0_hasTarget_9 (by decide) (fun c_2 => ?_) (fun c_2 => ?_)
    · have hw := hw.1 c_2
      exact tw_Chain_hasTarget_16 C0 hA hret   _ _ _ hP hD hS (lv_sub hl [] rfl) hw
    · have hw := hw.2 c_2
      refine lv_iconst (v := 1) hx hb dX0_hasTarget_12 (by decide) ?_
      refine lv_goto (tgt := 17) hx hb dX0_hasTarget_13 (by decide) ?_
      exact tw_Chain_hasTarget_17 C0 hA hret  _ _ _ _ hP hD hS (lv_sub hl [] rfl) hw
set_option maxHeartbeats 4000000 in
set_option maxRecDepth 100000 in
theorem cn_Chain_hasTarget (l : Launch) (D : va_G) (cT : Nat → ClassId) (h_c h_cw h_cl h_cp h_ce : Nat) (sz : Nat) (v_cs : Int32) (f_cw : Nat → Int32) (f_cl : Nat → Int32) (f_cp : Nat → Int32) (f_ce : Nat → Int32) (x1 : Int32) (post : Int32 → Prop) (hw : wp_Chain_hasTarget post v_cs f_cw f_cl f_cp f_ce x1) : Met l yX0_hasTarget wX0_hasTarget ({ frames := 0, cells := 0, slots := 0, locals := 0 } : Room) (va_Pc [.ref h_c, .int x1] (pre_ D cT [(h_c, .inr (0, [.ref h_cw, .ref h_cl, .ref h_cp, .ref h_ce, .int v_cs])), (h_cw, .inl (cT 0, 40, .inl f_cw)), (h_cl, .inl (cT 0, 40, .inl f_cl)), (h_cp, .inl (cT 0, 1640, .inl f_cp)), (h_ce, .inl (cT 2, 40, .inl f_ce))] sz)) (va_Qi (fun (r : Int32) (u : Unit) => post r) (fun u t => va_P D vwCl [(h_c, .inr (0, [.ref h_cw, .ref h_cl, .ref h_cp, .ref h_ce, .int v_cs])), (h_cw, .inl (cT 0, 40, .inl f_cw)), (h_cl, .inl (cT 0, 40, .inl f_cl)), (h_cp, .inl (cT 0, 1640, .inl f_cp)), (h_ce, .inl (cT 2, 40, .inl f_ce))] t.heap ∧ va_D (va_A [(h_c, .inr (0, [.ref h_cw, .ref h_cl, .ref h_cp, .ref h_ce, .int v_cs])), (h_cw, .inl (cT 0, 40, .inl f_cw)), (h_cl, .inl (cT 0, 40, .inl f_cl)), (h_cp, .inl (cT 0, 1640, .inl f_cp)), (h_ce, .inl (cT 2, 40, .inl f_ce))] sz) [(h_c, .inr (0, [.ref h_cw, .ref h_cl, .ref h_cp, .ref h_ce, .int v_cs])), (h_cw, .inl (cT 0, 40, .inl f_cw)), (h_cl, .inl (cT 0, 40, .inl f_cl)), (h_cp, .inl (cT 0, 1640, .inl f_cp)), (h_ce, .inl (cT 2, 40, .inl f_ce))]) (va_A [(h_c, .inr (0, [.ref h_cw, .ref h_cl, .ref h_cp, .ref h_ce, .int v_cs])), (h_cw, .inl (cT 0, 40, .inl f_cw)), (h_cl, .inl (cT 0, 40, .inl f_cl)), (h_cp, .inl (cT 0, 1640, .inl f_cp)), (h_ce, .inl (cT 2, 40, .inl f_ce))] sz)) 0 0 (va_A [(h_c, .inr (0, [.ref h_cw, .ref h_cl, .ref h_cp, .ref h_ce, .int v_cs])), (h_cw, .inl (cT 0, 40, .inl f_cw)), (h_cl, .inl (cT 0, 40, .inl f_cl)), (h_cp, .inl (cT 0, 1640, .inl f_cp)), (h_ce, .inl (cT 2, 40, .inl f_ce))] sz) := by
  refine Met.ofW (cc := cX0_hasTarget) (maxL := 2) (ret := (some .boolean)) (by decide) rfl ?_
  intro p e s m args below meth c s₁ B hml hv
  obtain ⟨rfl, hsz, hP, hK, hD0, hN⟩ := hv
  have hx := B.exec
  have hb := B.bytes
  have hr := B.returns
  have hts : ∀ w ∈ WG, w.before _ s = true := fun w h => atoms_spec (ws := wX0_hasTarget) B.pre w (List.mem_cons_of_mem _ h)
  have hown : s.vm.findClass RX0 = some m.cls := findClass_of_methodNamed B.named
  have hlocks := B.notSynchronized
  subst hsz
  have hD := hD0.self (sz := s.heap.size)
  generalize hAe : va_A [(h_c, .inr (0, [.ref h_cw, .ref h_cl, .ref h_cp, .ref h_ce, .int v_cs])), (h_cw, .inl (cT 0, 40, .inl f_cw)), (h_cl, .inl (cT 0, 40, .inl f_cl)), (h_cp, .inl (cT 0, 1640, .inl f_cp)), (h_ce, .inl (cT 2, 40, .inl f_ce))] s.heap.size = A at hD ⊢
  have hA : ∀ q : Nat, s.heap.size ≤ q → A q := fun q h => by rw [← hAe]; exact Or.inr h
  have hS : va_S A s.heap s.heap [] := va_S.rf
  have hl := lv_entry ([.ref h_c, .int x1]) (n := 2) (Nat.le_of_ble_eq_true rfl)
  rw [lg_entry_eq]
  generalize (lg_sl ([.ref h_c, .int x1]) ++ List.replicate (2 - (lg_sl ([.ref h_c, .int x1])).length) Slot.unset).toArray = ls at hl ⊢
  refine tw_Chain_hasTarget (Q := MQ below _ _ s 0 0 A) ⟨⟨hx, hb, hml, hown, hts⟩, hK, hN⟩ hA (fun r  H locs pc ls hn9 hp hP hD hS hd => W.zret (v := r) hx hb hr hn9 (fun t ht hW => ⟨⟨r, (), rfl, hp, by rw [ht]; exact hP, hD⟩, hS.F ht⟩) hS.2.2 hd) _ _ _ _ hP hD hS hl hw
end
def wp_Chain_resetState_16 (post : (Nat → Int32) → (Nat → Int32) → (Nat → Int32) → Prop) (v_cs : Int32) (f_ce : Nat → Int32)  : Nat → Int32 → Int32 → (Nat → Int32) → (Nat → Int32) → (Nat → Int32) → Prop
  | 0 => fun _ _ _ _ _ => False
  | n + 1 => fun x1 x3 f_cw f_cl f_cp => ((41 ≤ x3 → (post f_cw f_cl f_cp)) ∧ (¬ 41 ≤ x3 → ((vp_in ((x1 * 41) + x3) 1640 ∧ (∀ x3_5 : Int32, x3_5 = x3 + 1 → wp_Chain_resetState_16 post v_cs f_ce n x1 x3_5 f_cw f_cl (upd f_cp ((x1 * 41) + x3).toNatClampNeg 0))))))
def wp_Chain_resetState (post : (Nat → Int32) → (Nat → Int32) → (Nat → Int32) → Prop) (v_cs : Int32) (f_ce : Nat → Int32)  (x1 : Int32) (x2 : Int32) (f_cw : Nat → Int32) (f_cl : Nat → Int32) (f_cp : Nat → Int32) : Prop := (vp_in x1 40 ∧ ((vp_in x1 40 ∧ (∃ k9, wp_Chain_resetState_16 post v_cs f_ce k9 x1 0 (upd f_cw x1.toNatClampNeg x2) (upd f_cl x1.toNatClampNeg x2) f_cp))))
section
variable {p : Program} {l : Launch} {e : Env} {s : State} {m : MethodId} {args : Array Value} {below : List Frame} {meth : Method} {c : Code} {Q : State → Prop} {A : Nat → Prop} {D : va_G} {cT : Nat → ClassId}
set_option maxHeartbeats 4000000 in
set_option maxRecDepth 100000 in
theorem tw_Chain_resetState_16 {post : (Nat → Int32) → (Nat → Int32) → (Nat → Int32) → Prop} {h_c h_cw h_cl h_cp h_ce : Nat} {v_cs : Int32} {f_ce : Nat → Int32}  (C0 : cx RX0 cX0_resetState 4 D cT p s m c args) (hA : ∀ q, s.heap.size ≤ q → A q) (hret : ∀ (f_cw : Nat → Int32) (f_cl : Nat → Int32) (f_cp : Nat → Int32) (H : Heap) (locs : List Loc) (pc : Nat) (ls : Array Slot), post f_cw f_cl f_cp → va_P D vwCl [(h_c, .inr (0, [.ref h_cw, .ref h_cl, .ref h_cp, .ref h_ce, .int v_cs])), (h_cw, .inl (cT 0, 40, .inl f_cw)), (h_cl, .inl (cT 0, 40, .inl f_cl)), (h_cp, .inl (cT 0, 1640, .inl f_cp)), (h_ce, .inl (cT 2, 40, .inl f_ce))] H → va_D A [(h_c, .inr (0, [.ref h_cw, .ref h_cl, .ref h_cp, .ref h_ce, .int v_cs])), (h_cw, .inl (cT 0, 40, .inl f_cw)), (h_cl, .inl (cT 0, 40, .inl f_cl)), (h_cp, .inl (cT 0, 1640, .inl f_cp)), (h_ce, .inl (cT 2, 40, .inl f_ce))] → va_S A s.heap H locs → decode cX0_resetState pc = .ok (.return_, 1) → W p l e ({ frames := 0, cells := 0, slots := 0, locals := 0 } : Room) s m args below meth c H locs 0 0 Q (F0 m pc ls []))  : ∀ (n : Nat) (x1 : Int32) (x3 : Int32) (f_cw : Nat → Int32) (f_cl : Nat → Int32) (f_cp : Nat → Int32) (H : Heap) (locs : List Loc) (ls : Array Slot), va_P D vwCl [(h_c, .inr (0, [.ref h_cw, .ref h_cl, .ref h_cp, .ref h_ce, .int v_cs])), (h_cw, .inl (cT 0, 40, .inl f_cw)), (h_cl, .inl (cT 0, 40, .inl f_cl)), (h_cp, .inl (cT 0, 1640, .inl f_cp)), (h_ce, .inl (cT 2, 40, .inl f_ce))] H → va_D A [(h_c, .inr (0, [.ref h_cw, .ref h_cl, .ref h_cp, .ref h_ce, .int v_cs])), (h_cw, .inl (cT 0, 40, .inl f_cw)), (h_cl, .inl (cT 0, 40, .inl f_cl)), (h_cp, .inl (cT 0, 1640, .inl f_cp)), (h_ce, .inl (cT 2, 40, .inl f_ce))] → va_S A s.heap H locs → lv_has ls 4 [(0, .ref h_c), (1, .int x1), (3, .int x3)] → wp_Chain_resetState_16 post v_cs f_ce n x1 x3 f_cw f_cl f_cp → W p l e ({ frames := 0, cells := 0, slots := 0, locals := 0 } : Room) s m args below meth c H locs 0 0 Q (F0 m 16 ls []) := by
  obtain ⟨⟨hx, hb, hml, hown, hts⟩, hK, hN⟩ := id C0
  intro n
  induction n with
  | zero => intro x1 x3 f_cw f_cl f_cp H locs ls hP hD hS hl hw; exact hw.elim
  | succ n ih =>
    intro x1 x3 f_cw f_cl f_cp H locs ls hP hD hS hl hw
    unfold wp_Chain_resetState_16 at hw
    refine lv_iload_n hx hb dX0_resetState_16 rfl (lv_at hl 2 rfl) ?_
    refine lv_bipush (v := 41) hx hb dX0_resetState_17 (by decide) ?_
    refine lv_icmp_ge (tgt := 40) hx hb dX0_resetState_19 (by decide) (fun c_3 => ?_) (fun c_3 => ?_)
    · have hw := hw.1 c_3
      exact hret _ _ _ _ _ _ _ hw hP hD hS dX0_resetState_40
    · have hw := hw.2 c_3
      refine lv_aload_n hx hb dX0_resetState_22 rfl (lv_at hl 0 rfl) ?_
      refine va_get (D := D) (ci := 0) (v := .ref h_cp) (C := RX0) (T := TX0) (N := 5) hx hb hts inX0 hown hK hP 0 rfl rfl 2 (by decide) (hts _ q_34) (fun _ h9 => h9) rfl dX0_resetState_23 ?_
      refine lv_iload_n hx hb dX0_resetState_26 rfl (lv_at hl 1 rfl) ?_
      refine lv_bipush (v := 41) hx hb dX0_resetState_27 (by decide) ?_
      refine lv_imul hx hb dX0_resetState_29 ?_
      refine lv_iload_n hx hb dX0_resetState_30 rfl (lv_at hl 2 rfl) ?_
      refine lv_iadd hx hb dX0_resetState_31 ?_
      refine lv_iconst (v := 0) hx hb dX0_resetState_32 (by decide) ?_
      obtain ⟨h_4, hw⟩ := hw
      refine va_iast hx hb hK hP hD hS 3 0 rfl rfl h_4 dX0_resetState_33 (fun H locs hP hD hS => ?_)
      have hP : va_P D vwCl [(h_c, .inr (0, [.ref h_cw, .ref h_cl, .ref h_cp, .ref h_ce, .int v_cs])), (h_cw, .inl (cT 0, 40, .inl f_cw)), (h_cl, .inl (cT 0, 40, .inl f_cl)), (h_cp, .inl (cT 0, 1640, .inl (upd f_cp ((x1 * 41) + x3).toNatClampNeg 0))), (h_ce, .inl (cT 2, 40, .inl f_ce))] H := hP
      have hD : va_D A [(h_c, .inr (0, [.ref h_cw, .ref h_cl, .ref h_cp, .ref h_ce, .int v_cs])), (h_cw, .inl (cT 0, 40, .inl f_cw)), (h_cl, .inl (cT 0, 40, .inl f_cl)), (h_cp, .inl (cT 0, 1640, .inl (upd f_cp ((x1 * 41) + x3).toNatClampNeg 0))), (h_ce, .inl (cT 2, 40, .inl f_ce))] := hD
      obtain ⟨x3_5, ex3_5⟩ : ∃ y : Int32, y = x3 + 1 := ⟨_, rfl⟩
      refine lv_iinc (v := x3_5) (lv' := [(3, .int x3_5), (0, .ref h_c), (1, .int x1)]) hx hb dX0_resetState_34 hl (k := 2) rfl (by rw [ex3_5]; rfl) (by decide) rfl (fun ls hl => ?_)
      have hw := hw x3_5 ex3_5
      refine lv_goto (tgt := 16) hx hb dX0_resetState_37 (by decide) ?_
      exact ih _ _ _ _ _ _ _ _ hP hD hS (lv_sub hl [1, 2, 0] rfl) hw
set_option maxHeartbeats 4000000 in
set_option maxRecDepth 100000 in
theorem tw_Chain_resetState {post : (Nat → Int32) → (Nat → Int32) → (Nat → Int32) → Prop} {h_c h_cw h_cl h_cp h_ce : Nat} {v_cs : Int32} {f_ce : Nat → Int32}  (C0 : cx RX0 cX0_resetState 4 D cT p s m c args) (hA : ∀ q, s.heap.size ≤ q → A q) (hret : ∀ (f_cw : Nat → Int32) (f_cl : Nat → Int32) (f_cp : Nat → Int32) (H : Heap) (locs : List Loc) (pc : Nat) (ls : Array Slot), post f_cw f_cl f_cp → va_P D vwCl [(h_c, .inr (0, [.ref h_cw, .ref h_cl, .ref h_cp, .ref h_ce, .int v_cs])), (h_cw, .inl (cT 0, 40, .inl f_cw)), (h_cl, .inl (cT 0, 40, .inl f_cl)), (h_cp, .inl (cT 0, 1640, .inl f_cp)), (h_ce, .inl (cT 2, 40, .inl f_ce))] H → va_D A [(h_c, .inr (0, [.ref h_cw, .ref h_cl, .ref h_cp, .ref h_ce, .int v_cs])), (h_cw, .inl (cT 0, 40, .inl f_cw)), (h_cl, .inl (cT 0, 40, .inl f_cl)), (h_cp, .inl (cT 0, 1640, .inl f_cp)), (h_ce, .inl (cT 2, 40, .inl f_ce))] → va_S A s.heap H locs → decode cX0_resetState pc = .ok (.return_, 1) → W p l e ({ frames := 0, cells := 0, slots := 0, locals := 0 } : Room) s m args below meth c H locs 0 0 Q (F0 m pc ls []))  : ∀ (x1 : Int32) (x2 : Int32) (f_cw : Nat → Int32) (f_cl : Nat → Int32) (f_cp : Nat → Int32) (H : Heap) (locs : List Loc) (ls : Array Slot), va_P D vwCl [(h_c, .inr (0, [.ref h_cw, .ref h_cl, .ref h_cp, .ref h_ce, .int v_cs])), (h_cw, .inl (cT 0, 40, .inl f_cw)), (h_cl, .inl (cT 0, 40, .inl f_cl)), (h_cp, .inl (cT 0, 1640, .inl f_cp)), (h_ce, .inl (cT 2, 40, .inl f_ce))] H → va_D A [(h_c, .inr (0, [.ref h_cw, .ref h_cl, .ref h_cp, .ref h_ce, .int v_cs])), (h_cw, .inl (cT 0, 40, .inl f_cw)), (h_cl, .inl (cT 0, 40, .inl f_cl)), (h_cp, .inl (cT 0, 1640, .inl f_cp)), (h_ce, .inl (cT 2, 40, .inl f_ce))] → va_S A s.heap H locs → lv_has ls 4 [(0, .ref h_c), (1, .int x1), (2, .int x2)] → wp_Chain_resetState post v_cs f_ce x1 x2 f_cw f_cl f_cp → W p l e ({ frames := 0, cells := 0, slots := 0, locals := 0 } : Room) s m args below meth c H locs 0 0 Q (F0 m 0 ls []) := by
  obtain ⟨⟨hx, hb, hml, hown, hts⟩, hK, hN⟩ := id C0
  intro x1 x2 f_cw f_cl f_cp H locs ls hP hD hS hl hw
  unfold wp_Chain_resetState at hw
  refine lv_aload_n hx hb dX0_resetState_0 rfl (lv_at hl 0 rfl) ?_
  refine va_get (D := D) (ci := 0) (v := .ref h_cw) (C := RX0) (T := TX0) (N := 5) hx hb hts inX0 hown hK hP 0 rfl rfl 0 (by decide) (hts _ q_31) (fun _ h9 => h9) rfl dX0_resetState_1 ?_
  refine lv_iload_n hx hb dX0_resetState_4 rfl (lv_at hl 1 rfl) ?_
  refine lv_iload_n hx hb dX0_resetState_5 rfl (lv_at hl 2 rfl) ?_
  obtain ⟨h_1, hw⟩ := hw
  refine va_iast hx hb hK hP hD hS 1 0 rfl rfl h_1 dX0_resetState_6 (fun H locs hP hD hS => ?_)
  have hP : va_P D vwCl [(h_c, .inr (0, [.ref h_cw, .ref h_cl, .ref h_cp, .ref h_ce, .int v_cs])), (h_cw, .inl (cT 0, 40, .inl (upd f_cw x1.toNatClampNeg x2))), (h_cl, .inl (cT 0, 40, .inl f_cl)), (h_cp, .inl (cT 0, 1640, .inl f_cp)), (h_ce, .inl (cT 2, 40, .inl f_ce))] H := hP
  have hD : va_D A [(h_c, .inr (0, [.ref h_cw, .ref h_cl, .ref h_cp, .ref h_ce, .int v_cs])), (h_cw, .inl (cT 0, 40, .inl (upd f_cw x1.toNatClampNeg x2))), (h_cl, .inl (cT 0, 40, .inl f_cl)), (h_cp, .inl (cT 0, 1640, .inl f_cp)), (h_ce, .inl (cT 2, 40, .inl f_ce))] := hD
  refine lv_aload_n hx hb dX0_resetState_7 rfl (lv_at hl 0 rfl) ?_
  refine va_get (D := D) (ci := 0) (v := .ref h_cl) (C := RX0) (T := TX0) (N := 5) hx hb hts inX0 hown hK hP 0 rfl rfl 1 (by decide) (hts _ q_33) (fun _ h9 => h9) rfl dX0_resetState_8 ?_
  refine lv_iload_n hx hb dX0_resetState_11 rfl (lv_at hl 1 rfl) ?_
  refine lv_iload_n hx hb dX0_resetState_12 rfl (lv_at hl 2 rfl) ?_
  obtain ⟨h_2, hw⟩ := hw
  refine va_iast hx hb hK hP hD hS 2 0 rfl rfl h_2 dX0_resetState_13 (fun H locs hP hD hS => ?_)
  have hP : va_P D vwCl [(h_c, .inr (0, [.ref h_cw, .ref h_cl, .ref h_cp, .ref h_ce, .int v_cs])), (h_cw, .inl (cT 0, 40, .inl (upd f_cw x1.toNatClampNeg x2))), (h_cl, .inl (cT 0, 40, .inl (upd f_cl x1.toNatClampNeg x2))), (h_cp, .inl (cT 0, 1640, .inl f_cp)), (h_ce, .inl (cT 2, 40, .inl f_ce))] H := hP
  have hD : va_D A [(h_c, .inr (0, [.ref h_cw, .ref h_cl, .ref h_cp, .ref h_ce, .int v_cs])), (h_cw, .inl (cT 0, 40, .inl (upd f_cw x1.toNatClampNeg x2))), (h_cl, .inl (cT 0, 40, .inl (upd f_cl x1.toNatClampNeg x2))), (h_cp, .inl (cT 0, 1640, .inl f_cp)), (h_ce, .inl (cT 2, 40, .inl f_ce))] := hD
  refine lv_iconst (v := 0) hx hb dX0_resetState_14 (by decide) ?_
  refine lv_istore_n (lv' := [(3, .int 0), (0, .ref h_c), (1, .int x1), (2, .int x2)]) hx hb dX0_resetState_15 rfl hl (by decide) rfl (fun ls hl => ?_)
  obtain ⟨n9, hw⟩ := hw
  exact tw_Chain_resetState_16 C0 hA hret  n9 _ _ _ _ _ _ _ _ hP hD hS (lv_sub hl [1, 2, 0] rfl) hw
set_option maxHeartbeats 4000000 in
set_option maxRecDepth 100000 in
theorem cn_Chain_resetState (l : Launch) (D : va_G) (cT : Nat → ClassId) (h_c h_cw h_cl h_cp h_ce : Nat) (sz : Nat) (v_cs : Int32) (f_cw : Nat → Int32) (f_cl : Nat → Int32) (f_cp : Nat → Int32) (f_ce : Nat → Int32) (x1 : Int32) (x2 : Int32) (post : (Nat → Int32) → (Nat → Int32) → (Nat → Int32) → Prop) (hw : wp_Chain_resetState post v_cs f_ce x1 x2 f_cw f_cl f_cp) : Met l yX0_resetState wX0_resetState ({ frames := 0, cells := 0, slots := 0, locals := 0 } : Room) (va_Pc [.ref h_c, .int x1, .int x2] (pre_ D cT [(h_c, .inr (0, [.ref h_cw, .ref h_cl, .ref h_cp, .ref h_ce, .int v_cs])), (h_cw, .inl (cT 0, 40, .inl f_cw)), (h_cl, .inl (cT 0, 40, .inl f_cl)), (h_cp, .inl (cT 0, 1640, .inl f_cp)), (h_ce, .inl (cT 2, 40, .inl f_ce))] sz)) (va_Qv (fun (u : (Nat → Int32) × (Nat → Int32) × (Nat → Int32)) => post u.1 u.2.1 u.2.2) (fun u t => va_P D vwCl [(h_c, .inr (0, [.ref h_cw, .ref h_cl, .ref h_cp, .ref h_ce, .int v_cs])), (h_cw, .inl (cT 0, 40, .inl u.1)), (h_cl, .inl (cT 0, 40, .inl u.2.1)), (h_cp, .inl (cT 0, 1640, .inl u.2.2)), (h_ce, .inl (cT 2, 40, .inl f_ce))] t.heap ∧ va_D (va_A [(h_c, .inr (0, [.ref h_cw, .ref h_cl, .ref h_cp, .ref h_ce, .int v_cs])), (h_cw, .inl (cT 0, 40, .inl f_cw)), (h_cl, .inl (cT 0, 40, .inl f_cl)), (h_cp, .inl (cT 0, 1640, .inl f_cp)), (h_ce, .inl (cT 2, 40, .inl f_ce))] sz) [(h_c, .inr (0, [.ref h_cw, .ref h_cl, .ref h_cp, .ref h_ce, .int v_cs])), (h_cw, .inl (cT 0, 40, .inl u.1)), (h_cl, .inl (cT 0, 40, .inl u.2.1)), (h_cp, .inl (cT 0, 1640, .inl u.2.2)), (h_ce, .inl (cT 2, 40, .inl f_ce))]) (va_A [(h_c, .inr (0, [.ref h_cw, .ref h_cl, .ref h_cp, .ref h_ce, .int v_cs])), (h_cw, .inl (cT 0, 40, .inl f_cw)), (h_cl, .inl (cT 0, 40, .inl f_cl)), (h_cp, .inl (cT 0, 1640, .inl f_cp)), (h_ce, .inl (cT 2, 40, .inl f_ce))] sz)) 0 0 (va_A [(h_c, .inr (0, [.ref h_cw, .ref h_cl, .ref h_cp, .ref h_ce, .int v_cs])), (h_cw, .inl (cT 0, 40, .inl f_cw)), (h_cl, .inl (cT 0, 40, .inl f_cl)), (h_cp, .inl (cT 0, 1640, .inl f_cp)), (h_ce, .inl (cT 2, 40, .inl f_ce))] sz) := by
  refine Met.ofW (cc := cX0_resetState) (maxL := 4) (ret := none) (by decide) rfl ?_
  intro p e s m args below meth c s₁ B hml hv
  obtain ⟨rfl, hsz, hP, hK, hD0, hN⟩ := hv
  have hx := B.exec
  have hb := B.bytes
  have hr := B.returns
  have hts : ∀ w ∈ WG, w.before _ s = true := fun w h => atoms_spec (ws := wX0_resetState) B.pre w (List.mem_cons_of_mem _ h)
  have hown : s.vm.findClass RX0 = some m.cls := findClass_of_methodNamed B.named
  have hlocks := B.notSynchronized
  subst hsz
  have hD := hD0.self (sz := s.heap.size)
  generalize hAe : va_A [(h_c, .inr (0, [.ref h_cw, .ref h_cl, .ref h_cp, .ref h_ce, .int v_cs])), (h_cw, .inl (cT 0, 40, .inl f_cw)), (h_cl, .inl (cT 0, 40, .inl f_cl)), (h_cp, .inl (cT 0, 1640, .inl f_cp)), (h_ce, .inl (cT 2, 40, .inl f_ce))] s.heap.size = A at hD ⊢
  have hA : ∀ q : Nat, s.heap.size ≤ q → A q := fun q h => by rw [← hAe]; exact Or.inr h
  have hS : va_S A s.heap s.heap [] := va_S.rf
  have hl := lv_entry ([.ref h_c, .int x1, .int x2]) (n := 4) (Nat.le_of_ble_eq_true rfl)
  rw [lg_entry_eq]
  generalize (lg_sl ([.ref h_c, .int x1, .int x2]) ++ List.replicate (4 - (lg_sl ([.ref h_c, .int x1, .int x2])).length) Slot.unset).toArray = ls at hl ⊢
  refine tw_Chain_resetState (Q := MQ below _ _ s 0 0 A) ⟨⟨hx, hb, hml, hown, hts⟩, hK, hN⟩ hA (fun f_cw f_cl f_cp H locs pc ls hp hP hD hS hd => W.vret hx hb hr (fun t ht hW => ⟨⟨(f_cw, f_cl, f_cp), rfl, hp, by rw [ht]; exact hP, hD⟩, hS.F ht⟩) hS.2.2 hd) _ _ _ _ _ _ _ _ hP hD hS hl hw
end
def wp_Chain_restart_7 (post : Int32 → (Nat → Int32) → (Nat → Int32) → (Nat → Int32) → Prop) (f_ce : Nat → Int32)  : Nat → Int32 → Int32 → Int32 → (Nat → Int32) → (Nat → Int32) → (Nat → Int32) → Prop
  | 0 => fun _ _ _ _ _ _ => False
  | n + 1 => fun x1 x2 v_cs f_cw f_cl f_cp => ((x1 ≤ x2 → (post v_cs f_cw f_cl f_cp)) ∧ (¬ x1 ≤ x2 → (wp_Chain_resetState (fun u_2 u_3 u_4 => ∀ x2_5 : Int32, x2_5 = x2 + 1 → wp_Chain_restart_7 post f_ce n x1 x2_5 v_cs u_2 u_3 u_4) v_cs f_ce x2 1 f_cw f_cl f_cp)))
def wp_Chain_restart (post : Int32 → (Nat → Int32) → (Nat → Int32) → (Nat → Int32) → Prop) (f_ce : Nat → Int32)  (x1 : Int32) (v_cs : Int32) (f_cw : Nat → Int32) (f_cl : Nat → Int32) (f_cp : Nat → Int32) : Prop := ∃ k9, wp_Chain_restart_7 post f_ce k9 x1 0 x1 f_cw f_cl f_cp
section
variable {p : Program} {l : Launch} {e : Env} {s : State} {m : MethodId} {args : Array Value} {below : List Frame} {meth : Method} {c : Code} {Q : State → Prop} {A : Nat → Prop} {D : va_G} {cT : Nat → ClassId}
set_option maxHeartbeats 4000000 in
set_option maxRecDepth 100000 in
theorem tw_Chain_restart_7 {post : Int32 → (Nat → Int32) → (Nat → Int32) → (Nat → Int32) → Prop} {h_c h_cw h_cl h_cp h_ce : Nat} {f_ce : Nat → Int32}  (C0 : cx RX0 cX0_restart 3 D cT p s m c args) (hA : ∀ q, s.heap.size ≤ q → A q) (hret : ∀ (v_cs : Int32) (f_cw : Nat → Int32) (f_cl : Nat → Int32) (f_cp : Nat → Int32) (H : Heap) (locs : List Loc) (pc : Nat) (ls : Array Slot), post v_cs f_cw f_cl f_cp → va_P D vwCl [(h_c, .inr (0, [.ref h_cw, .ref h_cl, .ref h_cp, .ref h_ce, .int v_cs])), (h_cw, .inl (cT 0, 40, .inl f_cw)), (h_cl, .inl (cT 0, 40, .inl f_cl)), (h_cp, .inl (cT 0, 1640, .inl f_cp)), (h_ce, .inl (cT 2, 40, .inl f_ce))] H → va_D A [(h_c, .inr (0, [.ref h_cw, .ref h_cl, .ref h_cp, .ref h_ce, .int v_cs])), (h_cw, .inl (cT 0, 40, .inl f_cw)), (h_cl, .inl (cT 0, 40, .inl f_cl)), (h_cp, .inl (cT 0, 1640, .inl f_cp)), (h_ce, .inl (cT 2, 40, .inl f_ce))] → va_S A s.heap H locs → decode cX0_restart pc = .ok (.return_, 1) → W p l e ({ frames := 1, cells := 0, slots := 0, locals := 23 } : Room) s m args below meth c H locs 0 0 Q (F0 m pc ls []))  : ∀ (n : Nat) (x1 : Int32) (x2 : Int32) (v_cs : Int32) (f_cw : Nat → Int32) (f_cl : Nat → Int32) (f_cp : Nat → Int32) (H : Heap) (locs : List Loc) (ls : Array Slot), va_P D vwCl [(h_c, .inr (0, [.ref h_cw, .ref h_cl, .ref h_cp, .ref h_ce, .int v_cs])), (h_cw, .inl (cT 0, 40, .inl f_cw)), (h_cl, .inl (cT 0, 40, .inl f_cl)), (h_cp, .inl (cT 0, 1640, .inl f_cp)), (h_ce, .inl (cT 2, 40, .inl f_ce))] H → va_D A [(h_c, .inr (0, [.ref h_cw, .ref h_cl, .ref h_cp, .ref h_ce, .int v_cs])), (h_cw, .inl (cT 0, 40, .inl f_cw)), (h_cl, .inl (cT 0, 40, .inl f_cl)), (h_cp, .inl (cT 0, 1640, .inl f_cp)), (h_ce, .inl (cT 2, 40, .inl f_ce))] → va_S A s.heap H locs → lv_has ls 3 [(0, .ref h_c), (1, .int x1), (2, .int x2)] → wp_Chain_restart_7 post f_ce n x1 x2 v_cs f_cw f_cl f_cp → W p l e ({ frames := 1, cells := 0, slots := 0, locals := 23 } : Room) s m args below meth c H locs 0 0 Q (F0 m 7 ls []) := by
  obtain ⟨⟨hx, hb, hml, hown, hts⟩, hK, hN⟩ := id C0
  intro n
  induction n with
  | zero => intro x1 x2 v_cs f_cw f_cl f_cp H locs ls hP hD hS hl hw; exact hw.elim
  | succ n ih =>
    intro x1 x2 v_cs f_cw f_cl f_cp H locs ls hP hD hS hl hw
    unfold wp_Chain_restart_7 at hw
    refine lv_iload_n hx hb dX0_restart_7 rfl (lv_at hl 2 rfl) ?_
    refine lv_iload_n hx hb dX0_restart_8 rfl (lv_at hl 1 rfl) ?_
    refine lv_icmp_ge (tgt := 24) hx hb dX0_restart_9 (by decide) (fun c_1 => ?_) (fun c_1 => ?_)
    · have hw := hw.1 c_1
      exact hret _ _ _ _ _ _ _ _ hw hP hD hS dX0_restart_24
    · have hw := hw.2 c_1
      refine lv_aload_n hx hb dX0_restart_12 rfl (lv_at hl 0 rfl) ?_
      refine lv_iload_n hx hb dX0_restart_13 rfl (lv_at hl 2 rfl) ?_
      refine lv_iconst (v := 1) hx hb dX0_restart_14 (by decide) ?_
      have hPc := hP.sub (ws' := [(h_c, .inr (0, [.ref h_cw, .ref h_cl, .ref h_cp, .ref h_ce, .int v_cs])), (h_cw, .inl (cT 0, 40, .inl f_cw)), (h_cl, .inl (cT 0, 40, .inl f_cl)), (h_cp, .inl (cT 0, 1640, .inl f_cp)), (h_ce, .inl (cT 2, 40, .inl f_ce))]) [0, 1, 2, 3, 4] rfl
      have hDc := hD.sub (ws' := [(h_c, .inr (0, [.ref h_cw, .ref h_cl, .ref h_cp, .ref h_ce, .int v_cs])), (h_cw, .inl (cT 0, 40, .inl f_cw)), (h_cl, .inl (cT 0, 40, .inl f_cl)), (h_cp, .inl (cT 0, 1640, .inl f_cp)), (h_ce, .inl (cT 2, 40, .inl f_ce))]) [0, 1, 2, 3, 4] (by decide) rfl
      have hFc := va_free (wc := [(h_c, .inr (0, [.ref h_cw, .ref h_cl, .ref h_cp, .ref h_ce, .int v_cs])), (h_cw, .inl (cT 0, 40, .inl f_cw)), (h_cl, .inl (cT 0, 40, .inl f_cl)), (h_cp, .inl (cT 0, 1640, .inl f_cp)), (h_ce, .inl (cT 2, 40, .inl f_ce))]) hD hS hA [0, 1, 2, 3, 4] rfl
      refine va_callv (va_runV (As := [.int x2, .int 1]) (rest := []) ⟨hx, hb, hml, hown, hts⟩ (cn_Chain_resetState l D cT h_c h_cw h_cl h_cp h_ce H.size v_cs f_cw f_cl f_cp f_ce x2 1 _ hw) (gv_ 2 q_522 q_2 q_519 q_520 q_521 (by decide +kernel) ⟨Nat.le_of_ble_eq_true rfl, Nat.le_of_ble_eq_true rfl⟩ hts) ⟨pre_blind, va_recv hK hPc (ci := 0) (q0 := 0) rfl rfl, fun U hU hW => ⟨rfl, pre_mk hU hW hPc hK hDc hN⟩⟩ rfl rfl hl.1 rfl (lv_room (Nat.le_of_ble_eq_true rfl)) dX0_restart_15 ⟨(Nat.zero_le _), (Nat.zero_le _)⟩) hS (fun q _ h => hFc q h) hFc (fun u9 t H locs ht hvm hw hB hz1 hk1 hS => ?_)
      obtain ⟨u_2, u_3, u_4⟩ := u9
      obtain ⟨hP1, hD1⟩ := hB
      rw [ht] at hP1
      obtain ⟨hP, hD⟩ := va_join (wr := []) (w1 := [(h_c, .inr (0, [.ref h_cw, .ref h_cl, .ref h_cp, .ref h_ce, .int v_cs])), (h_cw, .inl (cT 0, 40, .inl u_2)), (h_cl, .inl (cT 0, 40, .inl u_3)), (h_cp, .inl (cT 0, 1640, .inl u_4)), (h_ce, .inl (cT 2, 40, .inl f_ce))]) hP hD [0, 1, 2, 3, 4] [] rfl rfl (by decide) (by decide) hk1 hFc hP1 hD1
      have hP := hP.sub (ws' := [(h_c, .inr (0, [.ref h_cw, .ref h_cl, .ref h_cp, .ref h_ce, .int v_cs])), (h_cw, .inl (cT 0, 40, .inl u_2)), (h_cl, .inl (cT 0, 40, .inl u_3)), (h_cp, .inl (cT 0, 1640, .inl u_4)), (h_ce, .inl (cT 2, 40, .inl f_ce))]) [0, 1, 2, 3, 4] rfl
      have hD := hD.sub (ws' := [(h_c, .inr (0, [.ref h_cw, .ref h_cl, .ref h_cp, .ref h_ce, .int v_cs])), (h_cw, .inl (cT 0, 40, .inl u_2)), (h_cl, .inl (cT 0, 40, .inl u_3)), (h_cp, .inl (cT 0, 1640, .inl u_4)), (h_ce, .inl (cT 2, 40, .inl f_ce))]) [0, 1, 2, 3, 4] (by decide) rfl
      clear hP1 hD1 hPc hDc hFc hk1 hz1 hvm ht
      try dsimp only at hw
      obtain ⟨x2_5, ex2_5⟩ : ∃ y : Int32, y = x2 + 1 := ⟨_, rfl⟩
      refine lv_iinc (v := x2_5) (lv' := [(2, .int x2_5), (0, .ref h_c), (1, .int x1)]) hx hb dX0_restart_18 hl (k := 2) rfl (by rw [ex2_5]; rfl) (by decide) rfl (fun ls hl => ?_)
      have hw := hw x2_5 ex2_5
      refine lv_goto (tgt := 7) hx hb dX0_restart_21 (by decide) ?_
      exact ih _ _ _ _ _ _ _ _ _ hP hD hS (lv_sub hl [1, 2, 0] rfl) hw
set_option maxHeartbeats 4000000 in
set_option maxRecDepth 100000 in
theorem tw_Chain_restart {post : Int32 → (Nat → Int32) → (Nat → Int32) → (Nat → Int32) → Prop} {h_c h_cw h_cl h_cp h_ce : Nat} {f_ce : Nat → Int32}  (C0 : cx RX0 cX0_restart 3 D cT p s m c args) (hA : ∀ q, s.heap.size ≤ q → A q) (hret : ∀ (v_cs : Int32) (f_cw : Nat → Int32) (f_cl : Nat → Int32) (f_cp : Nat → Int32) (H : Heap) (locs : List Loc) (pc : Nat) (ls : Array Slot), post v_cs f_cw f_cl f_cp → va_P D vwCl [(h_c, .inr (0, [.ref h_cw, .ref h_cl, .ref h_cp, .ref h_ce, .int v_cs])), (h_cw, .inl (cT 0, 40, .inl f_cw)), (h_cl, .inl (cT 0, 40, .inl f_cl)), (h_cp, .inl (cT 0, 1640, .inl f_cp)), (h_ce, .inl (cT 2, 40, .inl f_ce))] H → va_D A [(h_c, .inr (0, [.ref h_cw, .ref h_cl, .ref h_cp, .ref h_ce, .int v_cs])), (h_cw, .inl (cT 0, 40, .inl f_cw)), (h_cl, .inl (cT 0, 40, .inl f_cl)), (h_cp, .inl (cT 0, 1640, .inl f_cp)), (h_ce, .inl (cT 2, 40, .inl f_ce))] → va_S A s.heap H locs → decode cX0_restart pc = .ok (.return_, 1) → W p l e ({ frames := 1, cells := 0, slots := 0, locals := 23 } : Room) s m args below meth c H locs 0 0 Q (F0 m pc ls []))  : ∀ (x1 : Int32) (v_cs : Int32) (f_cw : Nat → Int32) (f_cl : Nat → Int32) (f_cp : Nat → Int32) (H : Heap) (locs : List Loc) (ls : Array Slot), va_P D vwCl [(h_c, .inr (0, [.ref h_cw, .ref h_cl, .ref h_cp, .ref h_ce, .int v_cs])), (h_cw, .inl (cT 0, 40, .inl f_cw)), (h_cl, .inl (cT 0, 40, .inl f_cl)), (h_cp, .inl (cT 0, 1640, .inl f_cp)), (h_ce, .inl (cT 2, 40, .inl f_ce))] H → va_D A [(h_c, .inr (0, [.ref h_cw, .ref h_cl, .ref h_cp, .ref h_ce, .int v_cs])), (h_cw, .inl (cT 0, 40, .inl f_cw)), (h_cl, .inl (cT 0, 40, .inl f_cl)), (h_cp, .inl (cT 0, 1640, .inl f_cp)), (h_ce, .inl (cT 2, 40, .inl f_ce))] → va_S A s.heap H locs → lv_has ls 3 [(0, .ref h_c), (1, .int x1)] → wp_Chain_restart post f_ce x1 v_cs f_cw f_cl f_cp → W p l e ({ frames := 1, cells := 0, slots := 0, locals := 23 } : Room) s m args below meth c H locs 0 0 Q (F0 m 0 ls []) := by
  obtain ⟨⟨hx, hb, hml, hown, hts⟩, hK, hN⟩ := id C0
  intro x1 v_cs f_cw f_cl f_cp H locs ls hP hD hS hl hw
  unfold wp_Chain_restart at hw
  refine lv_aload_n hx hb dX0_restart_0 rfl (lv_at hl 0 rfl) ?_
  refine lv_iload_n hx hb dX0_restart_1 rfl (lv_at hl 1 rfl) ?_
  refine va_put (D := D) (ci := 0) (v := .int x1) (ty := .int) (C := RX0) (T := TX0) (N := 5) hx hb hts inX0 tyX0 tyX0_ok nmX0 hown hK hP hD hS 0 rfl rfl 4 (by decide) (hts _ q_37) (fun _ h9 => h9) rfl (by decide +kernel) rfl rfl (Nat.le_of_ble_eq_true rfl) dX0_restart_2 (fun H locs hP hD hS => ?_)
  have hP : va_P D vwCl [(h_c, .inr (0, [.ref h_cw, .ref h_cl, .ref h_cp, .ref h_ce, .int x1])), (h_cw, .inl (cT 0, 40, .inl f_cw)), (h_cl, .inl (cT 0, 40, .inl f_cl)), (h_cp, .inl (cT 0, 1640, .inl f_cp)), (h_ce, .inl (cT 2, 40, .inl f_ce))] H := hP
  have hD : va_D A [(h_c, .inr (0, [.ref h_cw, .ref h_cl, .ref h_cp, .ref h_ce, .int x1])), (h_cw, .inl (cT 0, 40, .inl f_cw)), (h_cl, .inl (cT 0, 40, .inl f_cl)), (h_cp, .inl (cT 0, 1640, .inl f_cp)), (h_ce, .inl (cT 2, 40, .inl f_ce))] := hD
  refine lv_iconst (v := 0) hx hb dX0_restart_5 (by decide) ?_
  refine lv_istore_n (lv' := [(2, .int 0), (0, .ref h_c), (1, .int x1)]) hx hb dX0_restart_6 rfl hl (by decide) rfl (fun ls hl => ?_)
  obtain ⟨n9, hw⟩ := hw
  exact tw_Chain_restart_7 C0 hA hret  n9 _ _ _ _ _ _ _ _ _ hP hD hS (lv_sub hl [1, 2, 0] rfl) hw
set_option maxHeartbeats 4000000 in
set_option maxRecDepth 100000 in
theorem cn_Chain_restart (l : Launch) (D : va_G) (cT : Nat → ClassId) (h_c h_cw h_cl h_cp h_ce : Nat) (sz : Nat) (v_cs : Int32) (f_cw : Nat → Int32) (f_cl : Nat → Int32) (f_cp : Nat → Int32) (f_ce : Nat → Int32) (x1 : Int32) (post : Int32 → (Nat → Int32) → (Nat → Int32) → (Nat → Int32) → Prop) (hw : wp_Chain_restart post f_ce x1 v_cs f_cw f_cl f_cp) : Met l yX0_restart wX0_restart ({ frames := 1, cells := 0, slots := 0, locals := 23 } : Room) (va_Pc [.ref h_c, .int x1] (pre_ D cT [(h_c, .inr (0, [.ref h_cw, .ref h_cl, .ref h_cp, .ref h_ce, .int v_cs])), (h_cw, .inl (cT 0, 40, .inl f_cw)), (h_cl, .inl (cT 0, 40, .inl f_cl)), (h_cp, .inl (cT 0, 1640, .inl f_cp)), (h_ce, .inl (cT 2, 40, .inl f_ce))] sz)) (va_Qv (fun (u : Int32 × (Nat → Int32) × (Nat → Int32) × (Nat → Int32)) => post u.1 u.2.1 u.2.2.1 u.2.2.2) (fun u t => va_P D vwCl [(h_c, .inr (0, [.ref h_cw, .ref h_cl, .ref h_cp, .ref h_ce, .int u.1])), (h_cw, .inl (cT 0, 40, .inl u.2.1)), (h_cl, .inl (cT 0, 40, .inl u.2.2.1)), (h_cp, .inl (cT 0, 1640, .inl u.2.2.2)), (h_ce, .inl (cT 2, 40, .inl f_ce))] t.heap ∧ va_D (va_A [(h_c, .inr (0, [.ref h_cw, .ref h_cl, .ref h_cp, .ref h_ce, .int v_cs])), (h_cw, .inl (cT 0, 40, .inl f_cw)), (h_cl, .inl (cT 0, 40, .inl f_cl)), (h_cp, .inl (cT 0, 1640, .inl f_cp)), (h_ce, .inl (cT 2, 40, .inl f_ce))] sz) [(h_c, .inr (0, [.ref h_cw, .ref h_cl, .ref h_cp, .ref h_ce, .int u.1])), (h_cw, .inl (cT 0, 40, .inl u.2.1)), (h_cl, .inl (cT 0, 40, .inl u.2.2.1)), (h_cp, .inl (cT 0, 1640, .inl u.2.2.2)), (h_ce, .inl (cT 2, 40, .inl f_ce))]) (va_A [(h_c, .inr (0, [.ref h_cw, .ref h_cl, .ref h_cp, .ref h_ce, .int v_cs])), (h_cw, .inl (cT 0, 40, .inl f_cw)), (h_cl, .inl (cT 0, 40, .inl f_cl)), (h_cp, .inl (cT 0, 1640, .inl f_cp)), (h_ce, .inl (cT 2, 40, .inl f_ce))] sz)) 0 0 (va_A [(h_c, .inr (0, [.ref h_cw, .ref h_cl, .ref h_cp, .ref h_ce, .int v_cs])), (h_cw, .inl (cT 0, 40, .inl f_cw)), (h_cl, .inl (cT 0, 40, .inl f_cl)), (h_cp, .inl (cT 0, 1640, .inl f_cp)), (h_ce, .inl (cT 2, 40, .inl f_ce))] sz) := by
  refine Met.ofW (cc := cX0_restart) (maxL := 3) (ret := none) (by decide) rfl ?_
  intro p e s m args below meth c s₁ B hml hv
  obtain ⟨rfl, hsz, hP, hK, hD0, hN⟩ := hv
  have hx := B.exec
  have hb := B.bytes
  have hr := B.returns
  have hts : ∀ w ∈ WG, w.before _ s = true := fun w h => atoms_spec (ws := wX0_restart) B.pre w (List.mem_cons_of_mem _ h)
  have hown : s.vm.findClass RX0 = some m.cls := findClass_of_methodNamed B.named
  have hlocks := B.notSynchronized
  subst hsz
  have hD := hD0.self (sz := s.heap.size)
  generalize hAe : va_A [(h_c, .inr (0, [.ref h_cw, .ref h_cl, .ref h_cp, .ref h_ce, .int v_cs])), (h_cw, .inl (cT 0, 40, .inl f_cw)), (h_cl, .inl (cT 0, 40, .inl f_cl)), (h_cp, .inl (cT 0, 1640, .inl f_cp)), (h_ce, .inl (cT 2, 40, .inl f_ce))] s.heap.size = A at hD ⊢
  have hA : ∀ q : Nat, s.heap.size ≤ q → A q := fun q h => by rw [← hAe]; exact Or.inr h
  have hS : va_S A s.heap s.heap [] := va_S.rf
  have hl := lv_entry ([.ref h_c, .int x1]) (n := 3) (Nat.le_of_ble_eq_true rfl)
  rw [lg_entry_eq]
  generalize (lg_sl ([.ref h_c, .int x1]) ++ List.replicate (3 - (lg_sl ([.ref h_c, .int x1])).length) Slot.unset).toArray = ls at hl ⊢
  refine tw_Chain_restart (Q := MQ below _ _ s 0 0 A) ⟨⟨hx, hb, hml, hown, hts⟩, hK, hN⟩ hA (fun v_cs f_cw f_cl f_cp H locs pc ls hp hP hD hS hd => W.vret hx hb hr (fun t ht hW => ⟨⟨(v_cs, f_cw, f_cl, f_cp), rfl, hp, by rw [ht]; exact hP, hD⟩, hS.F ht⟩) hS.2.2 hd) _ _ _ _ _ _ _ _ hP hD hS hl hw
end
def wp_Chain_leftWith (post : Int32 → Prop) (v_cs : Int32) (f_cw : Nat → Int32) (f_cl : Nat → Int32) (f_cp : Nat → Int32) (f_ce : Nat → Int32)  (x1 : Int32) (x2 : Int32) (x3 : Int32) : Prop := (vp_in x1 40 ∧ ((vp_in ((x1 * 41) + x2) 1640 ∧ (post (((f_cl x1.toNatClampNeg) + (f_cp ((x1 * 41) + x2).toNatClampNeg)) - x3)))))
section
variable {p : Program} {l : Launch} {e : Env} {s : State} {m : MethodId} {args : Array Value} {below : List Frame} {meth : Method} {c : Code} {Q : State → Prop} {A : Nat → Prop} {D : va_G} {cT : Nat → ClassId}
set_option maxHeartbeats 4000000 in
set_option maxRecDepth 100000 in
theorem tw_Chain_leftWith {post : Int32 → Prop} {h_c h_cw h_cl h_cp h_ce : Nat} {v_cs : Int32} {f_cw : Nat → Int32} {f_cl : Nat → Int32} {f_cp : Nat → Int32} {f_ce : Nat → Int32}  (C0 : cx RX0 cX0_leftWith 4 D cT p s m c args) (hA : ∀ q, s.heap.size ≤ q → A q) (hret : ∀ (r : Int32)  (H : Heap) (locs : List Loc) (pc : Nat) (ls : Array Slot), post r → va_P D vwCl [(h_c, .inr (0, [.ref h_cw, .ref h_cl, .ref h_cp, .ref h_ce, .int v_cs])), (h_cw, .inl (cT 0, 40, .inl f_cw)), (h_cl, .inl (cT 0, 40, .inl f_cl)), (h_cp, .inl (cT 0, 1640, .inl f_cp)), (h_ce, .inl (cT 2, 40, .inl f_ce))] H → va_D A [(h_c, .inr (0, [.ref h_cw, .ref h_cl, .ref h_cp, .ref h_ce, .int v_cs])), (h_cw, .inl (cT 0, 40, .inl f_cw)), (h_cl, .inl (cT 0, 40, .inl f_cl)), (h_cp, .inl (cT 0, 1640, .inl f_cp)), (h_ce, .inl (cT 2, 40, .inl f_ce))] → va_S A s.heap H locs → decode cX0_leftWith pc = .ok (.ireturn, 1) → W p l e ({ frames := 0, cells := 0, slots := 0, locals := 0 } : Room) s m args below meth c H locs 0 0 Q (F0 m pc ls [.int r]))  : ∀ (x1 : Int32) (x2 : Int32) (x3 : Int32) (H : Heap) (locs : List Loc) (ls : Array Slot), va_P D vwCl [(h_c, .inr (0, [.ref h_cw, .ref h_cl, .ref h_cp, .ref h_ce, .int v_cs])), (h_cw, .inl (cT 0, 40, .inl f_cw)), (h_cl, .inl (cT 0, 40, .inl f_cl)), (h_cp, .inl (cT 0, 1640, .inl f_cp)), (h_ce, .inl (cT 2, 40, .inl f_ce))] H → va_D A [(h_c, .inr (0, [.ref h_cw, .ref h_cl, .ref h_cp, .ref h_ce, .int v_cs])), (h_cw, .inl (cT 0, 40, .inl f_cw)), (h_cl, .inl (cT 0, 40, .inl f_cl)), (h_cp, .inl (cT 0, 1640, .inl f_cp)), (h_ce, .inl (cT 2, 40, .inl f_ce))] → va_S A s.heap H locs → lv_has ls 4 [(0, .ref h_c), (1, .int x1), (2, .int x2), (3, .int x3)] → wp_Chain_leftWith post v_cs f_cw f_cl f_cp f_ce x1 x2 x3 → W p l e ({ frames := 0, cells := 0, slots := 0, locals := 0 } : Room) s m args below meth c H locs 0 0 Q (F0 m 0 ls []) := by
  obtain ⟨⟨hx, hb, hml, hown, hts⟩, hK, hN⟩ := id C0
  intro x1 x2 x3 H locs ls hP hD hS hl hw
  unfold wp_Chain_leftWith at hw
  refine lv_aload_n hx hb dX0_leftWith_0 rfl (lv_at hl 0 rfl) ?_
  refine va_get (D := D) (ci := 0) (v := .ref h_cl) (C := RX0) (T := TX0) (N := 5) hx hb hts inX0 hown hK hP 0 rfl rfl 1 (by decide) (hts _ q_33) (fun _ h9 => h9) rfl dX0_leftWith_1 ?_
  refine lv_iload_n hx hb dX0_leftWith_4 rfl (lv_at hl 1 rfl) ?_
  obtain ⟨h_1, hw⟩ := hw
  refine va_iald hx hb hK hP 2 0 rfl rfl h_1 dX0_leftWith_5 ?_
  refine lv_aload_n hx hb dX0_leftWith_6 rfl (lv_at hl 0 rfl) ?_
  refine va_get (D := D) (ci := 0) (v := .ref h_cp) (C := RX0) (T := TX0) (N := 5) hx hb hts inX0 hown hK hP 0 rfl rfl 2 (by decide) (hts _ q_34) (fun _ h9 => h9) rfl dX0_leftWith_7 ?_
  refine lv_iload_n hx hb dX0_leftWith_10 rfl (lv_at hl 1 rfl) ?_
  refine lv_bipush (v := 41) hx hb dX0_leftWith_11 (by decide) ?_
  refine lv_imul hx hb dX0_leftWith_13 ?_
  refine lv_iload_n hx hb dX0_leftWith_14 rfl (lv_at hl 2 rfl) ?_
  refine lv_iadd hx hb dX0_leftWith_15 ?_
  obtain ⟨h_2, hw⟩ := hw
  refine va_iald hx hb hK hP 3 0 rfl rfl h_2 dX0_leftWith_16 ?_
  refine lv_iadd hx hb dX0_leftWith_17 ?_
  refine lv_iload_n hx hb dX0_leftWith_18 rfl (lv_at hl 3 rfl) ?_
  refine lv_isub hx hb dX0_leftWith_19 ?_
  exact hret _  _ _ _ _ hw hP hD hS dX0_leftWith_20
set_option maxHeartbeats 4000000 in
set_option maxRecDepth 100000 in
theorem cn_Chain_leftWith (l : Launch) (D : va_G) (cT : Nat → ClassId) (h_c h_cw h_cl h_cp h_ce : Nat) (sz : Nat) (v_cs : Int32) (f_cw : Nat → Int32) (f_cl : Nat → Int32) (f_cp : Nat → Int32) (f_ce : Nat → Int32) (x1 : Int32) (x2 : Int32) (x3 : Int32) (post : Int32 → Prop) (hw : wp_Chain_leftWith post v_cs f_cw f_cl f_cp f_ce x1 x2 x3) : Met l yX0_leftWith wX0_leftWith ({ frames := 0, cells := 0, slots := 0, locals := 0 } : Room) (va_Pc [.ref h_c, .int x1, .int x2, .int x3] (pre_ D cT [(h_c, .inr (0, [.ref h_cw, .ref h_cl, .ref h_cp, .ref h_ce, .int v_cs])), (h_cw, .inl (cT 0, 40, .inl f_cw)), (h_cl, .inl (cT 0, 40, .inl f_cl)), (h_cp, .inl (cT 0, 1640, .inl f_cp)), (h_ce, .inl (cT 2, 40, .inl f_ce))] sz)) (va_Qi (fun (r : Int32) (u : Unit) => post r) (fun u t => va_P D vwCl [(h_c, .inr (0, [.ref h_cw, .ref h_cl, .ref h_cp, .ref h_ce, .int v_cs])), (h_cw, .inl (cT 0, 40, .inl f_cw)), (h_cl, .inl (cT 0, 40, .inl f_cl)), (h_cp, .inl (cT 0, 1640, .inl f_cp)), (h_ce, .inl (cT 2, 40, .inl f_ce))] t.heap ∧ va_D (va_A [(h_c, .inr (0, [.ref h_cw, .ref h_cl, .ref h_cp, .ref h_ce, .int v_cs])), (h_cw, .inl (cT 0, 40, .inl f_cw)), (h_cl, .inl (cT 0, 40, .inl f_cl)), (h_cp, .inl (cT 0, 1640, .inl f_cp)), (h_ce, .inl (cT 2, 40, .inl f_ce))] sz) [(h_c, .inr (0, [.ref h_cw, .ref h_cl, .ref h_cp, .ref h_ce, .int v_cs])), (h_cw, .inl (cT 0, 40, .inl f_cw)), (h_cl, .inl (cT 0, 40, .inl f_cl)), (h_cp, .inl (cT 0, 1640, .inl f_cp)), (h_ce, .inl (cT 2, 40, .inl f_ce))]) (va_A [(h_c, .inr (0, [.ref h_cw, .ref h_cl, .ref h_cp, .ref h_ce, .int v_cs])), (h_cw, .inl (cT 0, 40, .inl f_cw)), (h_cl, .inl (cT 0, 40, .inl f_cl)), (h_cp, .inl (cT 0, 1640, .inl f_cp)), (h_ce, .inl (cT 2, 40, .inl f_ce))] sz)) 0 0 (va_A [(h_c, .inr (0, [.ref h_cw, .ref h_cl, .ref h_cp, .ref h_ce, .int v_cs])), (h_cw, .inl (cT 0, 40, .inl f_cw)), (h_cl, .inl (cT 0, 40, .inl f_cl)), (h_cp, .inl (cT 0, 1640, .inl f_cp)), (h_ce, .inl (cT 2, 40, .inl f_ce))] sz) := by
  refine Met.ofW (cc := cX0_leftWith) (maxL := 4) (ret := (some .int)) (by decide) rfl ?_
  intro p e s m args below meth c s₁ B hml hv
  obtain ⟨rfl, hsz, hP, hK, hD0, hN⟩ := hv
  have hx := B.exec
  have hb := B.bytes
  have hr := B.returns
  have hts : ∀ w ∈ WG, w.before _ s = true := fun w h => atoms_spec (ws := wX0_leftWith) B.pre w (List.mem_cons_of_mem _ h)
  have hown : s.vm.findClass RX0 = some m.cls := findClass_of_methodNamed B.named
  have hlocks := B.notSynchronized
  subst hsz
  have hD := hD0.self (sz := s.heap.size)
  generalize hAe : va_A [(h_c, .inr (0, [.ref h_cw, .ref h_cl, .ref h_cp, .ref h_ce, .int v_cs])), (h_cw, .inl (cT 0, 40, .inl f_cw)), (h_cl, .inl (cT 0, 40, .inl f_cl)), (h_cp, .inl (cT 0, 1640, .inl f_cp)), (h_ce, .inl (cT 2, 40, .inl f_ce))] s.heap.size = A at hD ⊢
  have hA : ∀ q : Nat, s.heap.size ≤ q → A q := fun q h => by rw [← hAe]; exact Or.inr h
  have hS : va_S A s.heap s.heap [] := va_S.rf
  have hl := lv_entry ([.ref h_c, .int x1, .int x2, .int x3]) (n := 4) (Nat.le_of_ble_eq_true rfl)
  rw [lg_entry_eq]
  generalize (lg_sl ([.ref h_c, .int x1, .int x2, .int x3]) ++ List.replicate (4 - (lg_sl ([.ref h_c, .int x1, .int x2, .int x3])).length) Slot.unset).toArray = ls at hl ⊢
  refine tw_Chain_leftWith (Q := MQ below _ _ s 0 0 A) ⟨⟨hx, hb, hml, hown, hts⟩, hK, hN⟩ hA (fun r  H locs pc ls hp hP hD hS hd => W.iret (v := r) hx hb hr (fun t ht hW => ⟨⟨r, (), rfl, hp, by rw [ht]; exact hP, hD⟩, hS.F ht⟩) hS.2.2 hd) _ _ _ _ _ _ hP hD hS hl hw
end
def wp_Chain_setPart (post : (Nat → Int32) → (Nat → Int32) → Prop) (v_cs : Int32) (f_cw : Nat → Int32) (f_ce : Nat → Int32)  (x1 : Int32) (x2 : Int32) (x3 : Int32) (f_cl : Nat → Int32) (f_cp : Nat → Int32) : Prop := wp_Chain_leftWith (fun r_1 => (vp_in x1 40 ∧ ((vp_in ((x1 * 41) + x2) 1640 ∧ (post (upd f_cl x1.toNatClampNeg r_1) (upd f_cp ((x1 * 41) + x2).toNatClampNeg x3)))))) v_cs f_cw f_cl f_cp f_ce x1 x2 x3
section
variable {p : Program} {l : Launch} {e : Env} {s : State} {m : MethodId} {args : Array Value} {below : List Frame} {meth : Method} {c : Code} {Q : State → Prop} {A : Nat → Prop} {D : va_G} {cT : Nat → ClassId}
set_option maxHeartbeats 4000000 in
set_option maxRecDepth 100000 in
theorem tw_Chain_setPart {post : (Nat → Int32) → (Nat → Int32) → Prop} {h_c h_cw h_cl h_cp h_ce : Nat} {v_cs : Int32} {f_cw : Nat → Int32} {f_ce : Nat → Int32}  (C0 : cx RX0 cX0_setPart 4 D cT p s m c args) (hA : ∀ q, s.heap.size ≤ q → A q) (hret : ∀ (f_cl : Nat → Int32) (f_cp : Nat → Int32) (H : Heap) (locs : List Loc) (pc : Nat) (ls : Array Slot), post f_cl f_cp → va_P D vwCl [(h_c, .inr (0, [.ref h_cw, .ref h_cl, .ref h_cp, .ref h_ce, .int v_cs])), (h_cw, .inl (cT 0, 40, .inl f_cw)), (h_cl, .inl (cT 0, 40, .inl f_cl)), (h_cp, .inl (cT 0, 1640, .inl f_cp)), (h_ce, .inl (cT 2, 40, .inl f_ce))] H → va_D A [(h_c, .inr (0, [.ref h_cw, .ref h_cl, .ref h_cp, .ref h_ce, .int v_cs])), (h_cw, .inl (cT 0, 40, .inl f_cw)), (h_cl, .inl (cT 0, 40, .inl f_cl)), (h_cp, .inl (cT 0, 1640, .inl f_cp)), (h_ce, .inl (cT 2, 40, .inl f_ce))] → va_S A s.heap H locs → decode cX0_setPart pc = .ok (.return_, 1) → W p l e ({ frames := 1, cells := 0, slots := 0, locals := 23 } : Room) s m args below meth c H locs 0 0 Q (F0 m pc ls []))  : ∀ (x1 : Int32) (x2 : Int32) (x3 : Int32) (f_cl : Nat → Int32) (f_cp : Nat → Int32) (H : Heap) (locs : List Loc) (ls : Array Slot), va_P D vwCl [(h_c, .inr (0, [.ref h_cw, .ref h_cl, .ref h_cp, .ref h_ce, .int v_cs])), (h_cw, .inl (cT 0, 40, .inl f_cw)), (h_cl, .inl (cT 0, 40, .inl f_cl)), (h_cp, .inl (cT 0, 1640, .inl f_cp)), (h_ce, .inl (cT 2, 40, .inl f_ce))] H → va_D A [(h_c, .inr (0, [.ref h_cw, .ref h_cl, .ref h_cp, .ref h_ce, .int v_cs])), (h_cw, .inl (cT 0, 40, .inl f_cw)), (h_cl, .inl (cT 0, 40, .inl f_cl)), (h_cp, .inl (cT 0, 1640, .inl f_cp)), (h_ce, .inl (cT 2, 40, .inl f_ce))] → va_S A s.heap H locs → lv_has ls 4 [(0, .ref h_c), (1, .int x1), (2, .int x2), (3, .int x3)] → wp_Chain_setPart post v_cs f_cw f_ce x1 x2 x3 f_cl f_cp → W p l e ({ frames := 1, cells := 0, slots := 0, locals := 23 } : Room) s m args below meth c H locs 0 0 Q (F0 m 0 ls []) := by
  obtain ⟨⟨hx, hb, hml, hown, hts⟩, hK, hN⟩ := id C0
  intro x1 x2 x3 f_cl f_cp H locs ls hP hD hS hl hw
  unfold wp_Chain_setPart at hw
  refine lv_aload_n hx hb dX0_setPart_0 rfl (lv_at hl 0 rfl) ?_
  refine va_get (D := D) (ci := 0) (v := .ref h_cl) (C := RX0) (T := TX0) (N := 5) hx hb hts inX0 hown hK hP 0 rfl rfl 1 (by decide) (hts _ q_33) (fun _ h9 => h9) rfl dX0_setPart_1 ?_
  refine lv_iload_n hx hb dX0_setPart_4 rfl (lv_at hl 1 rfl) ?_
  refine lv_aload_n hx hb dX0_setPart_5 rfl (lv_at hl 0 rfl) ?_
  refine lv_iload_n hx hb dX0_setPart_6 rfl (lv_at hl 1 rfl) ?_
  refine lv_iload_n hx hb dX0_setPart_7 rfl (lv_at hl 2 rfl) ?_
  refine lv_iload_n hx hb dX0_setPart_8 rfl (lv_at hl 3 rfl) ?_
  have hPc := hP.sub (ws' := [(h_c, .inr (0, [.ref h_cw, .ref h_cl, .ref h_cp, .ref h_ce, .int v_cs])), (h_cw, .inl (cT 0, 40, .inl f_cw)), (h_cl, .inl (cT 0, 40, .inl f_cl)), (h_cp, .inl (cT 0, 1640, .inl f_cp)), (h_ce, .inl (cT 2, 40, .inl f_ce))]) [0, 1, 2, 3, 4] rfl
  have hDc := hD.sub (ws' := [(h_c, .inr (0, [.ref h_cw, .ref h_cl, .ref h_cp, .ref h_ce, .int v_cs])), (h_cw, .inl (cT 0, 40, .inl f_cw)), (h_cl, .inl (cT 0, 40, .inl f_cl)), (h_cp, .inl (cT 0, 1640, .inl f_cp)), (h_ce, .inl (cT 2, 40, .inl f_ce))]) [0, 1, 2, 3, 4] (by decide) rfl
  have hFc := va_free (wc := [(h_c, .inr (0, [.ref h_cw, .ref h_cl, .ref h_cp, .ref h_ce, .int v_cs])), (h_cw, .inl (cT 0, 40, .inl f_cw)), (h_cl, .inl (cT 0, 40, .inl f_cl)), (h_cp, .inl (cT 0, 1640, .inl f_cp)), (h_ce, .inl (cT 2, 40, .inl f_ce))]) hD hS hA [0, 1, 2, 3, 4] rfl
  refine va_calli (va_runV (As := [.int x1, .int x2, .int x3]) (rest := [.int x1, .ref h_cl]) ⟨hx, hb, hml, hown, hts⟩ (cn_Chain_leftWith l D cT h_c h_cw h_cl h_cp h_ce H.size v_cs f_cw f_cl f_cp f_ce x1 x2 x3 _ hw) (gv_ 3 q_551 q_2 q_572 q_549 q_550 (by decide +kernel) ⟨Nat.le_of_ble_eq_true rfl, Nat.le_of_ble_eq_true rfl⟩ hts) ⟨pre_blind, va_recv hK hPc (ci := 0) (q0 := 0) rfl rfl, fun U hU hW => ⟨rfl, pre_mk hU hW hPc hK hDc hN⟩⟩ rfl rfl hl.1 rfl (lv_room (Nat.le_of_ble_eq_true rfl)) dX0_setPart_9 ⟨(Nat.zero_le _), (Nat.zero_le _)⟩) hS (fun q _ h => hFc q h) hFc (fun r_1 u9 t H locs ht hvm hw hB hz1 hk1 hS => ?_)
  obtain ⟨hP1, hD1⟩ := hB
  rw [ht] at hP1
  obtain ⟨hP, hD⟩ := va_join (wr := []) (w1 := [(h_c, .inr (0, [.ref h_cw, .ref h_cl, .ref h_cp, .ref h_ce, .int v_cs])), (h_cw, .inl (cT 0, 40, .inl f_cw)), (h_cl, .inl (cT 0, 40, .inl f_cl)), (h_cp, .inl (cT 0, 1640, .inl f_cp)), (h_ce, .inl (cT 2, 40, .inl f_ce))]) hP hD [0, 1, 2, 3, 4] [] rfl rfl (by decide) (by decide) hk1 hFc hP1 hD1
  have hP := hP.sub (ws' := [(h_c, .inr (0, [.ref h_cw, .ref h_cl, .ref h_cp, .ref h_ce, .int v_cs])), (h_cw, .inl (cT 0, 40, .inl f_cw)), (h_cl, .inl (cT 0, 40, .inl f_cl)), (h_cp, .inl (cT 0, 1640, .inl f_cp)), (h_ce, .inl (cT 2, 40, .inl f_ce))]) [0, 1, 2, 3, 4] rfl
  have hD := hD.sub (ws' := [(h_c, .inr (0, [.ref h_cw, .ref h_cl, .ref h_cp, .ref h_ce, .int v_cs])), (h_cw, .inl (cT 0, 40, .inl f_cw)), (h_cl, .inl (cT 0, 40, .inl f_cl)), (h_cp, .inl (cT 0, 1640, .inl f_cp)), (h_ce, .inl (cT 2, 40, .inl f_ce))]) [0, 1, 2, 3, 4] (by decide) rfl
  clear hP1 hD1 hPc hDc hFc hk1 hz1 hvm ht
  try dsimp only at hw
  obtain ⟨h_2, hw⟩ := hw
  refine va_iast hx hb hK hP hD hS 2 0 rfl rfl h_2 dX0_setPart_12 (fun H locs hP hD hS => ?_)
  have hP : va_P D vwCl [(h_c, .inr (0, [.ref h_cw, .ref h_cl, .ref h_cp, .ref h_ce, .int v_cs])), (h_cw, .inl (cT 0, 40, .inl f_cw)), (h_cl, .inl (cT 0, 40, .inl (upd f_cl x1.toNatClampNeg r_1))), (h_cp, .inl (cT 0, 1640, .inl f_cp)), (h_ce, .inl (cT 2, 40, .inl f_ce))] H := hP
  have hD : va_D A [(h_c, .inr (0, [.ref h_cw, .ref h_cl, .ref h_cp, .ref h_ce, .int v_cs])), (h_cw, .inl (cT 0, 40, .inl f_cw)), (h_cl, .inl (cT 0, 40, .inl (upd f_cl x1.toNatClampNeg r_1))), (h_cp, .inl (cT 0, 1640, .inl f_cp)), (h_ce, .inl (cT 2, 40, .inl f_ce))] := hD
  refine lv_aload_n hx hb dX0_setPart_13 rfl (lv_at hl 0 rfl) ?_
  refine va_get (D := D) (ci := 0) (v := .ref h_cp) (C := RX0) (T := TX0) (N := 5) hx hb hts inX0 hown hK hP 0 rfl rfl 2 (by decide) (hts _ q_34) (fun _ h9 => h9) rfl dX0_setPart_14 ?_
  refine lv_iload_n hx hb dX0_setPart_17 rfl (lv_at hl 1 rfl) ?_
  refine lv_bipush (v := 41) hx hb dX0_setPart_18 (by decide) ?_
  refine lv_imul hx hb dX0_setPart_20 ?_
  refine lv_iload_n hx hb dX0_setPart_21 rfl (lv_at hl 2 rfl) ?_
  refine lv_iadd hx hb dX0_setPart_22 ?_
  refine lv_iload_n hx hb dX0_setPart_23 rfl (lv_at hl 3 rfl) ?_
  obtain ⟨h_3, hw⟩ := hw
  refine va_iast hx hb hK hP hD hS 3 0 rfl rfl h_3 dX0_setPart_24 (fun H locs hP hD hS => ?_)
  have hP : va_P D vwCl [(h_c, .inr (0, [.ref h_cw, .ref h_cl, .ref h_cp, .ref h_ce, .int v_cs])), (h_cw, .inl (cT 0, 40, .inl f_cw)), (h_cl, .inl (cT 0, 40, .inl (upd f_cl x1.toNatClampNeg r_1))), (h_cp, .inl (cT 0, 1640, .inl (upd f_cp ((x1 * 41) + x2).toNatClampNeg x3))), (h_ce, .inl (cT 2, 40, .inl f_ce))] H := hP
  have hD : va_D A [(h_c, .inr (0, [.ref h_cw, .ref h_cl, .ref h_cp, .ref h_ce, .int v_cs])), (h_cw, .inl (cT 0, 40, .inl f_cw)), (h_cl, .inl (cT 0, 40, .inl (upd f_cl x1.toNatClampNeg r_1))), (h_cp, .inl (cT 0, 1640, .inl (upd f_cp ((x1 * 41) + x2).toNatClampNeg x3))), (h_ce, .inl (cT 2, 40, .inl f_ce))] := hD
  exact hret _ _ _ _ _ _ hw hP hD hS dX0_setPart_25
set_option maxHeartbeats 4000000 in
set_option maxRecDepth 100000 in
theorem cn_Chain_setPart (l : Launch) (D : va_G) (cT : Nat → ClassId) (h_c h_cw h_cl h_cp h_ce : Nat) (sz : Nat) (v_cs : Int32) (f_cw : Nat → Int32) (f_cl : Nat → Int32) (f_cp : Nat → Int32) (f_ce : Nat → Int32) (x1 : Int32) (x2 : Int32) (x3 : Int32) (post : (Nat → Int32) → (Nat → Int32) → Prop) (hw : wp_Chain_setPart post v_cs f_cw f_ce x1 x2 x3 f_cl f_cp) : Met l yX0_setPart wX0_setPart ({ frames := 1, cells := 0, slots := 0, locals := 23 } : Room) (va_Pc [.ref h_c, .int x1, .int x2, .int x3] (pre_ D cT [(h_c, .inr (0, [.ref h_cw, .ref h_cl, .ref h_cp, .ref h_ce, .int v_cs])), (h_cw, .inl (cT 0, 40, .inl f_cw)), (h_cl, .inl (cT 0, 40, .inl f_cl)), (h_cp, .inl (cT 0, 1640, .inl f_cp)), (h_ce, .inl (cT 2, 40, .inl f_ce))] sz)) (va_Qv (fun (u : (Nat → Int32) × (Nat → Int32)) => post u.1 u.2) (fun u t => va_P D vwCl [(h_c, .inr (0, [.ref h_cw, .ref h_cl, .ref h_cp, .ref h_ce, .int v_cs])), (h_cw, .inl (cT 0, 40, .inl f_cw)), (h_cl, .inl (cT 0, 40, .inl u.1)), (h_cp, .inl (cT 0, 1640, .inl u.2)), (h_ce, .inl (cT 2, 40, .inl f_ce))] t.heap ∧ va_D (va_A [(h_c, .inr (0, [.ref h_cw, .ref h_cl, .ref h_cp, .ref h_ce, .int v_cs])), (h_cw, .inl (cT 0, 40, .inl f_cw)), (h_cl, .inl (cT 0, 40, .inl f_cl)), (h_cp, .inl (cT 0, 1640, .inl f_cp)), (h_ce, .inl (cT 2, 40, .inl f_ce))] sz) [(h_c, .inr (0, [.ref h_cw, .ref h_cl, .ref h_cp, .ref h_ce, .int v_cs])), (h_cw, .inl (cT 0, 40, .inl f_cw)), (h_cl, .inl (cT 0, 40, .inl u.1)), (h_cp, .inl (cT 0, 1640, .inl u.2)), (h_ce, .inl (cT 2, 40, .inl f_ce))]) (va_A [(h_c, .inr (0, [.ref h_cw, .ref h_cl, .ref h_cp, .ref h_ce, .int v_cs])), (h_cw, .inl (cT 0, 40, .inl f_cw)), (h_cl, .inl (cT 0, 40, .inl f_cl)), (h_cp, .inl (cT 0, 1640, .inl f_cp)), (h_ce, .inl (cT 2, 40, .inl f_ce))] sz)) 0 0 (va_A [(h_c, .inr (0, [.ref h_cw, .ref h_cl, .ref h_cp, .ref h_ce, .int v_cs])), (h_cw, .inl (cT 0, 40, .inl f_cw)), (h_cl, .inl (cT 0, 40, .inl f_cl)), (h_cp, .inl (cT 0, 1640, .inl f_cp)), (h_ce, .inl (cT 2, 40, .inl f_ce))] sz) := by
  refine Met.ofW (cc := cX0_setPart) (maxL := 4) (ret := none) (by decide) rfl ?_
  intro p e s m args below meth c s₁ B hml hv
  obtain ⟨rfl, hsz, hP, hK, hD0, hN⟩ := hv
  have hx := B.exec
  have hb := B.bytes
  have hr := B.returns
  have hts : ∀ w ∈ WG, w.before _ s = true := fun w h => atoms_spec (ws := wX0_setPart) B.pre w (List.mem_cons_of_mem _ h)
  have hown : s.vm.findClass RX0 = some m.cls := findClass_of_methodNamed B.named
  have hlocks := B.notSynchronized
  subst hsz
  have hD := hD0.self (sz := s.heap.size)
  generalize hAe : va_A [(h_c, .inr (0, [.ref h_cw, .ref h_cl, .ref h_cp, .ref h_ce, .int v_cs])), (h_cw, .inl (cT 0, 40, .inl f_cw)), (h_cl, .inl (cT 0, 40, .inl f_cl)), (h_cp, .inl (cT 0, 1640, .inl f_cp)), (h_ce, .inl (cT 2, 40, .inl f_ce))] s.heap.size = A at hD ⊢
  have hA : ∀ q : Nat, s.heap.size ≤ q → A q := fun q h => by rw [← hAe]; exact Or.inr h
  have hS : va_S A s.heap s.heap [] := va_S.rf
  have hl := lv_entry ([.ref h_c, .int x1, .int x2, .int x3]) (n := 4) (Nat.le_of_ble_eq_true rfl)
  rw [lg_entry_eq]
  generalize (lg_sl ([.ref h_c, .int x1, .int x2, .int x3]) ++ List.replicate (4 - (lg_sl ([.ref h_c, .int x1, .int x2, .int x3])).length) Slot.unset).toArray = ls at hl ⊢
  refine tw_Chain_setPart (Q := MQ below _ _ s 0 0 A) ⟨⟨hx, hb, hml, hown, hts⟩, hK, hN⟩ hA (fun f_cl f_cp H locs pc ls hp hP hD hS hd => W.vret hx hb hr (fun t ht hW => ⟨⟨(f_cl, f_cp), rfl, hp, by rw [ht]; exact hP, hD⟩, hS.F ht⟩) hS.2.2 hd) _ _ _ _ _ _ _ _ hP hD hS hl hw
end
def wp_Chain_weightOf_27 (post : Int32 → Prop)   (x1 : Int32) : Prop := post x1
def wp_Chain_weightOf_2 (post : Int32 → Prop)   : Nat → Int32 → Int32 → Prop
  | 0 => fun _ _ => False
  | n + 1 => fun x0 x1 => ((31 ≤ x1 → (wp_Chain_weightOf_27 post x1)) ∧ (¬ 31 ≤ x1 → (((0 ≤ (lg_cmp ((1 : Int64) <<< (x1.toInt64 &&& 63)) (2 * x0.toInt64)) → (wp_Chain_weightOf_27 post x1)) ∧ (¬ 0 ≤ (lg_cmp ((1 : Int64) <<< (x1.toInt64 &&& 63)) (2 * x0.toInt64)) → (∀ x1_3 : Int32, x1_3 = x1 + 1 → wp_Chain_weightOf_2 post n x0 x1_3))))))
def wp_Chain_weightOf (post : Int32 → Prop)   (x0 : Int32) : Prop := ∃ k9, wp_Chain_weightOf_2 post k9 x0 1
section
variable {p : Program} {l : Launch} {e : Env} {s : State} {m : MethodId} {args : Array Value} {below : List Frame} {meth : Method} {c : Code} {Q : State → Prop} {A : Nat → Prop} {D : va_G} {cT : Nat → ClassId}
set_option maxHeartbeats 4000000 in
set_option maxRecDepth 100000 in
theorem tw_Chain_weightOf_27 {post : Int32 → Prop}   (C0 : cx RX0 cX0_weightOf 2 D cT p s m c args) (hA : ∀ q, s.heap.size ≤ q → A q) (hret : ∀ (r : Int32)  (H : Heap) (locs : List Loc) (pc : Nat) (ls : Array Slot), post r → va_P D vwCl [] H → va_D A [] → va_S A s.heap H locs → decode cX0_weightOf pc = .ok (.ireturn, 1) → W p l e ({ frames := 0, cells := 0, slots := 0, locals := 0 } : Room) s m args below meth c H locs 0 0 Q (F0 m pc ls [.int r]))  : ∀ (x1 : Int32) (H : Heap) (locs : List Loc) (ls : Array Slot), va_P D vwCl [] H → va_D A [] → va_S A s.heap H locs → lv_has ls 2 [(1, .int x1)] → wp_Chain_weightOf_27 post x1 → W p l e ({ frames := 0, cells := 0, slots := 0, locals := 0 } : Room) s m args below meth c H locs 0 0 Q (F0 m 27 ls []) := by
  obtain ⟨⟨hx, hb, hml, hown, hts⟩, hK, hN⟩ := id C0
  intro x1 H locs ls hP hD hS hl hw
  unfold wp_Chain_weightOf_27 at hw
  refine lv_iload_n hx hb dX0_weightOf_27 rfl (lv_at hl 0 rfl) ?_
  exact hret _  _ _ _ _ hw hP hD hS dX0_weightOf_28
set_option maxHeartbeats 4000000 in
set_option maxRecDepth 100000 in
theorem tw_Chain_weightOf_2 {post : Int32 → Prop}   (C0 : cx RX0 cX0_weightOf 2 D cT p s m c args) (hA : ∀ q, s.heap.size ≤ q → A q) (hret : ∀ (r : Int32)  (H : Heap) (locs : List Loc) (pc : Nat) (ls : Array Slot), post r → va_P D vwCl [] H → va_D A [] → va_S A s.heap H locs → decode cX0_weightOf pc = .ok (.ireturn, 1) → W p l e ({ frames := 0, cells := 0, slots := 0, locals := 0 } : Room) s m args below meth c H locs 0 0 Q (F0 m pc ls [.int r]))  : ∀ (n : Nat) (x0 : Int32) (x1 : Int32) (H : Heap) (locs : List Loc) (ls : Array Slot), va_P D vwCl [] H → va_D A [] → va_S A s.heap H locs → lv_has ls 2 [(0, .int x0), (1, .int x1)] → wp_Chain_weightOf_2 post n x0 x1 → W p l e ({ frames := 0, cells := 0, slots := 0, locals := 0 } : Room) s m args below meth c H locs 0 0 Q (F0 m 2 ls []) := by
  obtain ⟨⟨hx, hb, hml, hown, hts⟩, hK, hN⟩ := id C0
  intro n
  induction n with
  | zero => intro x0 x1 H locs ls hP hD hS hl hw; exact hw.elim
  | succ n ih =>
    intro x0 x1 H locs ls hP hD hS hl hw
    unfold wp_Chain_weightOf_2 at hw
    refine lv_iload_n hx hb dX0_weightOf_2 rfl (lv_at hl 1 rfl) ?_
    refine lv_bipush (v := 31) hx hb dX0_weightOf_3 (by decide) ?_
    refine lv_icmp_ge (tgt := 27) hx hb dX0_weightOf_5 (by decide) (fun c_1 => ?_) (fun c_1 => ?_)
    · have hw := hw.1 c_1
      exact tw_Chain_weightOf_27 C0 hA hret  _ _ _ _ hP hD hS (lv_sub hl [1] rfl) hw
    · have hw := hw.2 c_1
      refine lv_lconst (v := 1) hx hb dX0_weightOf_8 (by decide) ?_
      refine lv_iload_n hx hb dX0_weightOf_9 rfl (lv_at hl 1 rfl) ?_
      refine lv_lshl hx hb dX0_weightOf_10 rfl ?_
      refine lv_ldc2 (v := 2) hx hb hown (hts _ q_198) dX0_weightOf_11 ?_
      refine lv_iload_n hx hb dX0_weightOf_14 rfl (lv_at hl 0 rfl) ?_
      refine lv_i2l hx hb dX0_weightOf_15 rfl ?_
      refine lv_lmul hx hb dX0_weightOf_16 ?_
      refine W.lcmp hx hb dX0_weightOf_17 ?_
      refine lv_if_ge (tgt := 27) hx hb dX0_weightOf_18 (by decide) (fun c_2 => ?_) (fun c_2 => ?_)
      · have hw := hw.1 c_2
        exact tw_Chain_weightOf_27 C0 hA hret  _ _ _ _ hP hD hS (lv_sub hl [1] rfl) hw
      · have hw := hw.2 c_2
        obtain ⟨x1_3, ex1_3⟩ : ∃ y : Int32, y = x1 + 1 := ⟨_, rfl⟩
        refine lv_iinc (v := x1_3) (lv' := [(1, .int x1_3), (0, .int x0)]) hx hb dX0_weightOf_21 hl (k := 1) rfl (by rw [ex1_3]; rfl) (by decide) rfl (fun ls hl => ?_)
        have hw := hw x1_3 ex1_3
        refine lv_goto (tgt := 2) hx hb dX0_weightOf_24 (by decide) ?_
        exact ih _ _ _ _ _ hP hD hS (lv_sub hl [1, 0] rfl) hw
set_option maxHeartbeats 4000000 in
set_option maxRecDepth 100000 in
theorem tw_Chain_weightOf {post : Int32 → Prop}   (C0 : cx RX0 cX0_weightOf 2 D cT p s m c args) (hA : ∀ q, s.heap.size ≤ q → A q) (hret : ∀ (r : Int32)  (H : Heap) (locs : List Loc) (pc : Nat) (ls : Array Slot), post r → va_P D vwCl [] H → va_D A [] → va_S A s.heap H locs → decode cX0_weightOf pc = .ok (.ireturn, 1) → W p l e ({ frames := 0, cells := 0, slots := 0, locals := 0 } : Room) s m args below meth c H locs 0 0 Q (F0 m pc ls [.int r]))  : ∀ (x0 : Int32) (H : Heap) (locs : List Loc) (ls : Array Slot), va_P D vwCl [] H → va_D A [] → va_S A s.heap H locs → lv_has ls 2 [(0, .int x0)] → wp_Chain_weightOf post x0 → W p l e ({ frames := 0, cells := 0, slots := 0, locals := 0 } : Room) s m args below meth c H locs 0 0 Q (F0 m 0 ls []) := by
  obtain ⟨⟨hx, hb, hml, hown, hts⟩, hK, hN⟩ := id C0
  intro x0 H locs ls hP hD hS hl hw
  unfold wp_Chain_weightOf at hw
  refine lv_iconst (v := 1) hx hb dX0_weightOf_0 (by decide) ?_
  refine lv_istore_n (lv' := [(1, .int 1), (0, .int x0)]) hx hb dX0_weightOf_1 rfl hl (by decide) rfl (fun ls hl => ?_)
  obtain ⟨n9, hw⟩ := hw
  exact tw_Chain_weightOf_2 C0 hA hret  n9 _ _ _ _ _ hP hD hS (lv_sub hl [1, 0] rfl) hw
set_option maxHeartbeats 4000000 in
set_option maxRecDepth 100000 in
theorem cn_Chain_weightOf (l : Launch) (D : va_G) (cT : Nat → ClassId) (sz : Nat)  (x0 : Int32) (post : Int32 → Prop) (hw : wp_Chain_weightOf post x0) : Met l yX0_weightOf wX0_weightOf ({ frames := 0, cells := 0, slots := 0, locals := 0 } : Room) (va_Pc [.int x0] (pre_ D cT [] sz)) (va_Qi (fun (r : Int32) (u : Unit) => post r) (fun u t => va_P D vwCl [] t.heap ∧ va_D (va_A [] sz) []) (va_A [] sz)) 0 0 (va_A [] sz) := by
  refine Met.ofW (cc := cX0_weightOf) (maxL := 2) (ret := (some .int)) (by decide) rfl ?_
  intro p e s m args below meth c s₁ B hml hv
  obtain ⟨rfl, hsz, hP, hK, hD0, hN⟩ := hv
  have hx := B.exec
  have hb := B.bytes
  have hr := B.returns
  have hts : ∀ w ∈ WG, w.before _ s = true := fun w h => atoms_spec (ws := wX0_weightOf) B.pre w (List.mem_cons_of_mem _ h)
  have hown : s.vm.findClass RX0 = some m.cls := findClass_of_methodNamed B.named
  have hlocks := B.notSynchronized
  subst hsz
  have hD := hD0.self (sz := s.heap.size)
  generalize hAe : va_A [] s.heap.size = A at hD ⊢
  have hA : ∀ q : Nat, s.heap.size ≤ q → A q := fun q h => by rw [← hAe]; exact Or.inr h
  have hS : va_S A s.heap s.heap [] := va_S.rf
  have hl := lv_entry ([.int x0]) (n := 2) (Nat.le_of_ble_eq_true rfl)
  rw [lg_entry_eq]
  generalize (lg_sl ([.int x0]) ++ List.replicate (2 - (lg_sl ([.int x0])).length) Slot.unset).toArray = ls at hl ⊢
  refine tw_Chain_weightOf (Q := MQ below _ _ s 0 0 A) ⟨⟨hx, hb, hml, hown, hts⟩, hK, hN⟩ hA (fun r  H locs pc ls hp hP hD hS hd => W.iret (v := r) hx hb hr (fun t ht hW => ⟨⟨r, (), rfl, hp, by rw [ht]; exact hP, hD⟩, hS.F ht⟩) hS.2.2 hd) _ _ _ _ hP hD hS hl hw
end
def wp_Chain_weight_4 (post : Int32 → Prop) (v_cs : Int32) (f_cw : Nat → Int32) (f_cl : Nat → Int32) (f_cp : Nat → Int32) (f_ce : Nat → Int32)  : Nat → Int32 → Int32 → Prop
  | 0 => fun _ _ => False
  | n + 1 => fun x1 x2 => ((v_cs ≤ x2 → (post x1)) ∧ (¬ v_cs ≤ x2 → ((vp_in x2 40 ∧ (wp_Chain_weightOf (fun r_3 => ∀ x1_4 : Int32, x1_4 = x1 + r_3 → ∀ x2_5 : Int32, x2_5 = x2 + 1 → wp_Chain_weight_4 post v_cs f_cw f_cl f_cp f_ce n x1_4 x2_5) (f_cw x2.toNatClampNeg))))))
def wp_Chain_weight (post : Int32 → Prop) (v_cs : Int32) (f_cw : Nat → Int32) (f_cl : Nat → Int32) (f_cp : Nat → Int32) (f_ce : Nat → Int32)   : Prop := ∃ k9, wp_Chain_weight_4 post v_cs f_cw f_cl f_cp f_ce k9 0 0
section
variable {p : Program} {l : Launch} {e : Env} {s : State} {m : MethodId} {args : Array Value} {below : List Frame} {meth : Method} {c : Code} {Q : State → Prop} {A : Nat → Prop} {D : va_G} {cT : Nat → ClassId}
set_option maxHeartbeats 4000000 in
set_option maxRecDepth 100000 in
theorem tw_Chain_weight_4 {post : Int32 → Prop} {h_c h_cw h_cl h_cp h_ce : Nat} {v_cs : Int32} {f_cw : Nat → Int32} {f_cl : Nat → Int32} {f_cp : Nat → Int32} {f_ce : Nat → Int32}  (C0 : cx RX0 cX0_weight 3 D cT p s m c args) (hA : ∀ q, s.heap.size ≤ q → A q) (hret : ∀ (r : Int32)  (H : Heap) (locs : List Loc) (pc : Nat) (ls : Array Slot), post r → va_P D vwCl [(h_c, .inr (0, [.ref h_cw, .ref h_cl, .ref h_cp, .ref h_ce, .int v_cs])), (h_cw, .inl (cT 0, 40, .inl f_cw)), (h_cl, .inl (cT 0, 40, .inl f_cl)), (h_cp, .inl (cT 0, 1640, .inl f_cp)), (h_ce, .inl (cT 2, 40, .inl f_ce))] H → va_D A [(h_c, .inr (0, [.ref h_cw, .ref h_cl, .ref h_cp, .ref h_ce, .int v_cs])), (h_cw, .inl (cT 0, 40, .inl f_cw)), (h_cl, .inl (cT 0, 40, .inl f_cl)), (h_cp, .inl (cT 0, 1640, .inl f_cp)), (h_ce, .inl (cT 2, 40, .inl f_ce))] → va_S A s.heap H locs → decode cX0_weight pc = .ok (.ireturn, 1) → W p l e ({ frames := 1, cells := 0, slots := 0, locals := 21 } : Room) s m args below meth c H locs 0 0 Q (F0 m pc ls [.int r]))  : ∀ (n : Nat) (x1 : Int32) (x2 : Int32) (H : Heap) (locs : List Loc) (ls : Array Slot), va_P D vwCl [(h_c, .inr (0, [.ref h_cw, .ref h_cl, .ref h_cp, .ref h_ce, .int v_cs])), (h_cw, .inl (cT 0, 40, .inl f_cw)), (h_cl, .inl (cT 0, 40, .inl f_cl)), (h_cp, .inl (cT 0, 1640, .inl f_cp)), (h_ce, .inl (cT 2, 40, .inl f_ce))] H → va_D A [(h_c, .inr (0, [.ref h_cw, .ref h_cl, .ref h_cp, .ref h_ce, .int v_cs])), (h_cw, .inl (cT 0, 40, .inl f_cw)), (h_cl, .inl (cT 0, 40, .inl f_cl)), (h_cp, .inl (cT 0, 1640, .inl f_cp)), (h_ce, .inl (cT 2, 40, .inl f_ce))] → va_S A s.heap H locs → lv_has ls 3 [(0, .ref h_c), (1, .int x1), (2, .int x2)] → wp_Chain_weight_4 post v_cs f_cw f_cl f_cp f_ce n x1 x2 → W p l e ({ frames := 1, cells := 0, slots := 0, locals := 21 } : Room) s m args below meth c H locs 0 0 Q (F0 m 4 ls []) := by
  obtain ⟨⟨hx, hb, hml, hown, hts⟩, hK, hN⟩ := id C0
  intro n
  induction n with
  | zero => intro x1 x2 H locs ls hP hD hS hl hw; exact hw.elim
  | succ n ih =>
    intro x1 x2 H locs ls hP hD hS hl hw
    unfold wp_Chain_weight_4 at hw
    refine lv_iload_n hx hb dX0_weight_4 rfl (lv_at hl 2 rfl) ?_
    refine lv_aload_n hx hb dX0_weight_5 rfl (lv_at hl 0 rfl) ?_
    refine va_get (D := D) (ci := 0) (v := .int v_cs) (C := RX0) (T := TX0) (N := 5) hx hb hts inX0 hown hK hP 0 rfl rfl 4 (by decide) (hts _ q_37) (fun _ h9 => h9) rfl dX0_weight_6 ?_
    refine lv_icmp_ge (tgt := 30) hx hb dX0_weight_9 (by decide) (fun c_1 => ?_) (fun c_1 => ?_)
    · have hw := hw.1 c_1
      refine lv_iload_n hx hb dX0_weight_30 rfl (lv_at hl 1 rfl) ?_
      exact hret _  _ _ _ _ hw hP hD hS dX0_weight_31
    · have hw := hw.2 c_1
      refine lv_iload_n hx hb dX0_weight_12 rfl (lv_at hl 1 rfl) ?_
      refine lv_aload_n hx hb dX0_weight_13 rfl (lv_at hl 0 rfl) ?_
      refine va_get (D := D) (ci := 0) (v := .ref h_cw) (C := RX0) (T := TX0) (N := 5) hx hb hts inX0 hown hK hP 0 rfl rfl 0 (by decide) (hts _ q_31) (fun _ h9 => h9) rfl dX0_weight_14 ?_
      refine lv_iload_n hx hb dX0_weight_17 rfl (lv_at hl 2 rfl) ?_
      obtain ⟨h_2, hw⟩ := hw
      refine va_iald hx hb hK hP 1 0 rfl rfl h_2 dX0_weight_18 ?_
      have hPc := hP.sub (ws' := []) [] rfl
      have hDc := hD.sub (ws' := []) [] (by decide) rfl
      have hFc := va_free (wc := []) hD hS hA [] rfl
      refine va_calli (va_runS (As := [.int (f_cw x2.toNatClampNeg)]) (rest := [.int x1]) ⟨hx, hb, hml, hown, hts⟩ (cn_Chain_weightOf l D cT  H.size (f_cw x2.toNatClampNeg) _ hw) (gs_ 1 q_197 q_2 q_195 q_196 (by decide +kernel) ⟨Nat.le_of_ble_eq_true rfl, Nat.le_of_ble_eq_true rfl⟩ hts) ⟨pre_blind, fun U hU hW => ⟨rfl, pre_mk hU hW hPc hK hDc hN⟩⟩ rfl rfl hl.1 rfl (lv_room (Nat.le_of_ble_eq_true rfl)) dX0_weight_19 ⟨(Nat.zero_le _), (Nat.zero_le _)⟩) hS (fun q _ h => hFc q h) hFc (fun r_3 u9 t H locs ht hvm hw hB hz1 hk1 hS => ?_)
      obtain ⟨hP1, hD1⟩ := hB
      rw [ht] at hP1
      obtain ⟨hP, hD⟩ := va_join (wr := [(h_c, .inr (0, [.ref h_cw, .ref h_cl, .ref h_cp, .ref h_ce, .int v_cs])), (h_cw, .inl (cT 0, 40, .inl f_cw)), (h_cl, .inl (cT 0, 40, .inl f_cl)), (h_cp, .inl (cT 0, 1640, .inl f_cp)), (h_ce, .inl (cT 2, 40, .inl f_ce))]) (w1 := []) hP hD [] [0, 1, 2, 3, 4] rfl rfl (by decide) (by decide) hk1 hFc hP1 hD1
      have hP := hP.sub (ws' := [(h_c, .inr (0, [.ref h_cw, .ref h_cl, .ref h_cp, .ref h_ce, .int v_cs])), (h_cw, .inl (cT 0, 40, .inl f_cw)), (h_cl, .inl (cT 0, 40, .inl f_cl)), (h_cp, .inl (cT 0, 1640, .inl f_cp)), (h_ce, .inl (cT 2, 40, .inl f_ce))]) [0, 1, 2, 3, 4] rfl
      have hD := hD.sub (ws' := [(h_c, .inr (0, [.ref h_cw, .ref h_cl, .ref h_cp, .ref h_ce, .int v_cs])), (h_cw, .inl (cT 0, 40, .inl f_cw)), (h_cl, .inl (cT 0, 40, .inl f_cl)), (h_cp, .inl (cT 0, 1640, .inl f_cp)), (h_ce, .inl (cT 2, 40, .inl f_ce))]) [0, 1, 2, 3, 4] (by decide) rfl
      clear hP1 hD1 hPc hDc hFc hk1 hz1 hvm ht
      try dsimp only at hw
      refine lv_iadd hx hb dX0_weight_22 ?_
      refine lv_topi (fun x1_4 ex1_4 => ?_)
      have hw := hw x1_4 ex1_4
      refine lv_istore_n (lv' := [(1, .int x1_4), (0, .ref h_c), (2, .int x2)]) hx hb dX0_weight_23 rfl hl (by decide) rfl (fun ls hl => ?_)
      obtain ⟨x2_5, ex2_5⟩ : ∃ y : Int32, y = x2 + 1 := ⟨_, rfl⟩
      refine lv_iinc (v := x2_5) (lv' := [(2, .int x2_5), (1, .int x1_4), (0, .ref h_c)]) hx hb dX0_weight_24 hl (k := 2) rfl (by rw [ex2_5]; rfl) (by decide) rfl (fun ls hl => ?_)
      have hw := hw x2_5 ex2_5
      refine lv_goto (tgt := 4) hx hb dX0_weight_27 (by decide) ?_
      exact ih _ _ _ _ _ hP hD hS (lv_sub hl [2, 1, 0] rfl) hw
set_option maxHeartbeats 4000000 in
set_option maxRecDepth 100000 in
theorem tw_Chain_weight {post : Int32 → Prop} {h_c h_cw h_cl h_cp h_ce : Nat} {v_cs : Int32} {f_cw : Nat → Int32} {f_cl : Nat → Int32} {f_cp : Nat → Int32} {f_ce : Nat → Int32}  (C0 : cx RX0 cX0_weight 3 D cT p s m c args) (hA : ∀ q, s.heap.size ≤ q → A q) (hret : ∀ (r : Int32)  (H : Heap) (locs : List Loc) (pc : Nat) (ls : Array Slot), post r → va_P D vwCl [(h_c, .inr (0, [.ref h_cw, .ref h_cl, .ref h_cp, .ref h_ce, .int v_cs])), (h_cw, .inl (cT 0, 40, .inl f_cw)), (h_cl, .inl (cT 0, 40, .inl f_cl)), (h_cp, .inl (cT 0, 1640, .inl f_cp)), (h_ce, .inl (cT 2, 40, .inl f_ce))] H → va_D A [(h_c, .inr (0, [.ref h_cw, .ref h_cl, .ref h_cp, .ref h_ce, .int v_cs])), (h_cw, .inl (cT 0, 40, .inl f_cw)), (h_cl, .inl (cT 0, 40, .inl f_cl)), (h_cp, .inl (cT 0, 1640, .inl f_cp)), (h_ce, .inl (cT 2, 40, .inl f_ce))] → va_S A s.heap H locs → decode cX0_weight pc = .ok (.ireturn, 1) → W p l e ({ frames := 1, cells := 0, slots := 0, locals := 21 } : Room) s m args below meth c H locs 0 0 Q (F0 m pc ls [.int r]))  : ∀  (H : Heap) (locs : List Loc) (ls : Array Slot), va_P D vwCl [(h_c, .inr (0, [.ref h_cw, .ref h_cl, .ref h_cp, .ref h_ce, .int v_cs])), (h_cw, .inl (cT 0, 40, .inl f_cw)), (h_cl, .inl (cT 0, 40, .inl f_cl)), (h_cp, .inl (cT 0, 1640, .inl f_cp)), (h_ce, .inl (cT 2, 40, .inl f_ce))] H → va_D A [(h_c, .inr (0, [.ref h_cw, .ref h_cl, .ref h_cp, .ref h_ce, .int v_cs])), (h_cw, .inl (cT 0, 40, .inl f_cw)), (h_cl, .inl (cT 0, 40, .inl f_cl)), (h_cp, .inl (cT 0, 1640, .inl f_cp)), (h_ce, .inl (cT 2, 40, .inl f_ce))] → va_S A s.heap H locs → lv_has ls 3 [(0, .ref h_c)] → wp_Chain_weight post v_cs f_cw f_cl f_cp f_ce  → W p l e ({ frames := 1, cells := 0, slots := 0, locals := 21 } : Room) s m args below meth c H locs 0 0 Q (F0 m 0 ls []) := by
  obtain ⟨⟨hx, hb, hml, hown, hts⟩, hK, hN⟩ := id C0
  intro H locs ls hP hD hS hl hw
  unfold wp_Chain_weight at hw
  refine lv_iconst (v := 0) hx hb dX0_weight_0 (by decide) ?_
  refine lv_istore_n (lv' := [(1, .int 0), (0, .ref h_c)]) hx hb dX0_weight_1 rfl hl (by decide) rfl (fun ls hl => ?_)
  refine lv_iconst (v := 0) hx hb dX0_weight_2 (by decide) ?_
  refine lv_istore_n (lv' := [(2, .int 0), (1, .int 0), (0, .ref h_c)]) hx hb dX0_weight_3 rfl hl (by decide) rfl (fun ls hl => ?_)
  obtain ⟨n9, hw⟩ := hw
  exact tw_Chain_weight_4 C0 hA hret  n9 _ _ _ _ _ hP hD hS (lv_sub hl [2, 1, 0] rfl) hw
set_option maxHeartbeats 4000000 in
set_option maxRecDepth 100000 in
theorem cn_Chain_weight (l : Launch) (D : va_G) (cT : Nat → ClassId) (h_c h_cw h_cl h_cp h_ce : Nat) (sz : Nat) (v_cs : Int32) (f_cw : Nat → Int32) (f_cl : Nat → Int32) (f_cp : Nat → Int32) (f_ce : Nat → Int32)  (post : Int32 → Prop) (hw : wp_Chain_weight post v_cs f_cw f_cl f_cp f_ce ) : Met l yX0_weight wX0_weight ({ frames := 1, cells := 0, slots := 0, locals := 21 } : Room) (va_Pc [.ref h_c] (pre_ D cT [(h_c, .inr (0, [.ref h_cw, .ref h_cl, .ref h_cp, .ref h_ce, .int v_cs])), (h_cw, .inl (cT 0, 40, .inl f_cw)), (h_cl, .inl (cT 0, 40, .inl f_cl)), (h_cp, .inl (cT 0, 1640, .inl f_cp)), (h_ce, .inl (cT 2, 40, .inl f_ce))] sz)) (va_Qi (fun (r : Int32) (u : Unit) => post r) (fun u t => va_P D vwCl [(h_c, .inr (0, [.ref h_cw, .ref h_cl, .ref h_cp, .ref h_ce, .int v_cs])), (h_cw, .inl (cT 0, 40, .inl f_cw)), (h_cl, .inl (cT 0, 40, .inl f_cl)), (h_cp, .inl (cT 0, 1640, .inl f_cp)), (h_ce, .inl (cT 2, 40, .inl f_ce))] t.heap ∧ va_D (va_A [(h_c, .inr (0, [.ref h_cw, .ref h_cl, .ref h_cp, .ref h_ce, .int v_cs])), (h_cw, .inl (cT 0, 40, .inl f_cw)), (h_cl, .inl (cT 0, 40, .inl f_cl)), (h_cp, .inl (cT 0, 1640, .inl f_cp)), (h_ce, .inl (cT 2, 40, .inl f_ce))] sz) [(h_c, .inr (0, [.ref h_cw, .ref h_cl, .ref h_cp, .ref h_ce, .int v_cs])), (h_cw, .inl (cT 0, 40, .inl f_cw)), (h_cl, .inl (cT 0, 40, .inl f_cl)), (h_cp, .inl (cT 0, 1640, .inl f_cp)), (h_ce, .inl (cT 2, 40, .inl f_ce))]) (va_A [(h_c, .inr (0, [.ref h_cw, .ref h_cl, .ref h_cp, .ref h_ce, .int v_cs])), (h_cw, .inl (cT 0, 40, .inl f_cw)), (h_cl, .inl (cT 0, 40, .inl f_cl)), (h_cp, .inl (cT 0, 1640, .inl f_cp)), (h_ce, .inl (cT 2, 40, .inl f_ce))] sz)) 0 0 (va_A [(h_c, .inr (0, [.ref h_cw, .ref h_cl, .ref h_cp, .ref h_ce, .int v_cs])), (h_cw, .inl (cT 0, 40, .inl f_cw)), (h_cl, .inl (cT 0, 40, .inl f_cl)), (h_cp, .inl (cT 0, 1640, .inl f_cp)), (h_ce, .inl (cT 2, 40, .inl f_ce))] sz) := by
  refine Met.ofW (cc := cX0_weight) (maxL := 3) (ret := (some .int)) (by decide) rfl ?_
  intro p e s m args below meth c s₁ B hml hv
  obtain ⟨rfl, hsz, hP, hK, hD0, hN⟩ := hv
  have hx := B.exec
  have hb := B.bytes
  have hr := B.returns
  have hts : ∀ w ∈ WG, w.before _ s = true := fun w h => atoms_spec (ws := wX0_weight) B.pre w (List.mem_cons_of_mem _ h)
  have hown : s.vm.findClass RX0 = some m.cls := findClass_of_methodNamed B.named
  have hlocks := B.notSynchronized
  subst hsz
  have hD := hD0.self (sz := s.heap.size)
  generalize hAe : va_A [(h_c, .inr (0, [.ref h_cw, .ref h_cl, .ref h_cp, .ref h_ce, .int v_cs])), (h_cw, .inl (cT 0, 40, .inl f_cw)), (h_cl, .inl (cT 0, 40, .inl f_cl)), (h_cp, .inl (cT 0, 1640, .inl f_cp)), (h_ce, .inl (cT 2, 40, .inl f_ce))] s.heap.size = A at hD ⊢
  have hA : ∀ q : Nat, s.heap.size ≤ q → A q := fun q h => by rw [← hAe]; exact Or.inr h
  have hS : va_S A s.heap s.heap [] := va_S.rf
  have hl := lv_entry ([.ref h_c]) (n := 3) (Nat.le_of_ble_eq_true rfl)
  rw [lg_entry_eq]
  generalize (lg_sl ([.ref h_c]) ++ List.replicate (3 - (lg_sl ([.ref h_c])).length) Slot.unset).toArray = ls at hl ⊢
  refine tw_Chain_weight (Q := MQ below _ _ s 0 0 A) ⟨⟨hx, hb, hml, hown, hts⟩, hK, hN⟩ hA (fun r  H locs pc ls hp hP hD hS hd => W.iret (v := r) hx hb hr (fun t ht hW => ⟨⟨r, (), rfl, hp, by rw [ht]; exact hP, hD⟩, hS.F ht⟩) hS.2.2 hd)  _ _ _ hP hD hS hl hw
end
def wp_Chain_canEnd_26 (post : Int32 → Prop) (v_cs : Int32) (f_cw : Nat → Int32) (f_cl : Nat → Int32) (f_cp : Nat → Int32) (f_ce : Nat → Int32)   : Prop := post 1
def wp_Chain_canEnd_63 (post : Int32 → Prop) (v_cs : Int32) (f_cw : Nat → Int32) (f_cl : Nat → Int32) (f_cp : Nat → Int32) (f_ce : Nat → Int32) (K30 : Int32 → Int32 → Prop) (x1 : Int32) (x2 : Int32) : Prop := ∀ x2_8 : Int32, x2_8 = x2 + 1 → K30 x1 x2_8
def wp_Chain_canEnd_30 (post : Int32 → Prop) (v_cs : Int32) (f_cw : Nat → Int32) (f_cl : Nat → Int32) (f_cp : Nat → Int32) (f_ce : Nat → Int32)  : Nat → Int32 → Int32 → Prop
  | 0 => fun _ _ => False
  | n + 1 => fun x1 x2 => ((v_cs ≤ x2 → (post 0)) ∧ (¬ v_cs ≤ x2 → ((vp_in x2 40 ∧ ((((f_ce x2.toNatClampNeg) = 0 → (wp_Chain_canEnd_63 post v_cs f_cw f_cl f_cp f_ce (wp_Chain_canEnd_30 post v_cs f_cw f_cl f_cp f_ce n) x1 x2)) ∧ (¬ (f_ce x2.toNatClampNeg) = 0 → ((vp_in ((x1 * 41) + x2) 1640 ∧ ((((f_cp ((x1 * 41) + x2).toNatClampNeg) ≤ 0 → (wp_Chain_canEnd_63 post v_cs f_cw f_cl f_cp f_ce (wp_Chain_canEnd_30 post v_cs f_cw f_cl f_cp f_ce n) x1 x2)) ∧ (¬ (f_cp ((x1 * 41) + x2).toNatClampNeg) ≤ 0 → (post 1)))))))))))))
def wp_Chain_canEnd (post : Int32 → Prop) (v_cs : Int32) (f_cw : Nat → Int32) (f_cl : Nat → Int32) (f_cp : Nat → Int32) (f_ce : Nat → Int32)  (x1 : Int32) : Prop := (vp_in x1 40 ∧ (((0 < (f_cl x1.toNatClampNeg) → (wp_Chain_canEnd_26 post v_cs f_cw f_cl f_cp f_ce)) ∧ (¬ 0 < (f_cl x1.toNatClampNeg) → ((vp_in ((x1 * 41) + v_cs) 1640 ∧ ((((f_cp ((x1 * 41) + v_cs).toNatClampNeg) ≤ 0 → (∃ k9, wp_Chain_canEnd_30 post v_cs f_cw f_cl f_cp f_ce k9 x1 0)) ∧ (¬ (f_cp ((x1 * 41) + v_cs).toNatClampNeg) ≤ 0 → (wp_Chain_canEnd_26 post v_cs f_cw f_cl f_cp f_ce))))))))))
section
variable {p : Program} {l : Launch} {e : Env} {s : State} {m : MethodId} {args : Array Value} {below : List Frame} {meth : Method} {c : Code} {Q : State → Prop} {A : Nat → Prop} {D : va_G} {cT : Nat → ClassId}
set_option maxHeartbeats 4000000 in
set_option maxRecDepth 100000 in
theorem tw_Chain_canEnd_26 {post : Int32 → Prop} {h_c h_cw h_cl h_cp h_ce : Nat} {v_cs : Int32} {f_cw : Nat → Int32} {f_cl : Nat → Int32} {f_cp : Nat → Int32} {f_ce : Nat → Int32}  (C0 : cx RX0 cX0_canEnd 3 D cT p s m c args) (hA : ∀ q, s.heap.size ≤ q → A q) (hret : ∀ (r : Int32)  (H : Heap) (locs : List Loc) (pc : Nat) (ls : Array Slot), narrow .boolean (.int r) = .int r → post r → va_P D vwCl [(h_c, .inr (0, [.ref h_cw, .ref h_cl, .ref h_cp, .ref h_ce, .int v_cs])), (h_cw, .inl (cT 0, 40, .inl f_cw)), (h_cl, .inl (cT 0, 40, .inl f_cl)), (h_cp, .inl (cT 0, 1640, .inl f_cp)), (h_ce, .inl (cT 2, 40, .inl f_ce))] H → va_D A [(h_c, .inr (0, [.ref h_cw, .ref h_cl, .ref h_cp, .ref h_ce, .int v_cs])), (h_cw, .inl (cT 0, 40, .inl f_cw)), (h_cl, .inl (cT 0, 40, .inl f_cl)), (h_cp, .inl (cT 0, 1640, .inl f_cp)), (h_ce, .inl (cT 2, 40, .inl f_ce))] → va_S A s.heap H locs → decode cX0_canEnd pc = .ok (.ireturn, 1) → W p l e ({ frames := 0, cells := 0, slots := 0, locals := 0 } : Room) s m args below meth c H locs 0 0 Q (F0 m pc ls [.int r]))  : ∀  (H : Heap) (locs : List Loc) (ls : Array Slot), va_P D vwCl [(h_c, .inr (0, [.ref h_cw, .ref h_cl, .ref h_cp, .ref h_ce, .int v_cs])), (h_cw, .inl (cT 0, 40, .inl f_cw)), (h_cl, .inl (cT 0, 40, .inl f_cl)), (h_cp, .inl (cT 0, 1640, .inl f_cp)), (h_ce, .inl (cT 2, 40, .inl f_ce))] H → va_D A [(h_c, .inr (0, [.ref h_cw, .ref h_cl, .ref h_cp, .ref h_ce, .int v_cs])), (h_cw, .inl (cT 0, 40, .inl f_cw)), (h_cl, .inl (cT 0, 40, .inl f_cl)), (h_cp, .inl (cT 0, 1640, .inl f_cp)), (h_ce, .inl (cT 2, 40, .inl f_ce))] → va_S A s.heap H locs → lv_has ls 3 [] → wp_Chain_canEnd_26 post v_cs f_cw f_cl f_cp f_ce  → W p l e ({ frames := 0, cells := 0, slots := 0, locals := 0 } : Room) s m args below meth c H locs 0 0 Q (F0 m 26 ls []) := by
  obtain ⟨⟨hx, hb, hml, hown, hts⟩, hK, hN⟩ := id C0
  intro H locs ls hP hD hS hl hw
  unfold wp_Chain_canEnd_26 at hw
  refine lv_iconst (v := 1) hx hb dX0_canEnd_26 (by decide) ?_
  exact hret _  _ _ _ _ rfl hw hP hD hS dX0_canEnd_27
set_option maxHeartbeats 4000000 in
set_option maxRecDepth 100000 in
theorem tw_Chain_canEnd_63 {post : Int32 → Prop} {h_c h_cw h_cl h_cp h_ce : Nat} {v_cs : Int32} {f_cw : Nat → Int32} {f_cl : Nat → Int32} {f_cp : Nat → Int32} {f_ce : Nat → Int32} {K30 : Int32 → Int32 → Prop} (C0 : cx RX0 cX0_canEnd 3 D cT p s m c args) (hA : ∀ q, s.heap.size ≤ q → A q) (hret : ∀ (r : Int32)  (H : Heap) (locs : List Loc) (pc : Nat) (ls : Array Slot), narrow .boolean (.int r) = .int r → post r → va_P D vwCl [(h_c, .inr (0, [.ref h_cw, .ref h_cl, .ref h_cp, .ref h_ce, .int v_cs])), (h_cw, .inl (cT 0, 40, .inl f_cw)), (h_cl, .inl (cT 0, 40, .inl f_cl)), (h_cp, .inl (cT 0, 1640, .inl f_cp)), (h_ce, .inl (cT 2, 40, .inl f_ce))] H → va_D A [(h_c, .inr (0, [.ref h_cw, .ref h_cl, .ref h_cp, .ref h_ce, .int v_cs])), (h_cw, .inl (cT 0, 40, .inl f_cw)), (h_cl, .inl (cT 0, 40, .inl f_cl)), (h_cp, .inl (cT 0, 1640, .inl f_cp)), (h_ce, .inl (cT 2, 40, .inl f_ce))] → va_S A s.heap H locs → decode cX0_canEnd pc = .ok (.ireturn, 1) → W p l e ({ frames := 0, cells := 0, slots := 0, locals := 0 } : Room) s m args below meth c H locs 0 0 Q (F0 m pc ls [.int r])) (hK30 : ∀ (x1 : Int32) (x2 : Int32) (H : Heap) (locs : List Loc) (ls : Array Slot), va_P D vwCl [(h_c, .inr (0, [.ref h_cw, .ref h_cl, .ref h_cp, .ref h_ce, .int v_cs])), (h_cw, .inl (cT 0, 40, .inl f_cw)), (h_cl, .inl (cT 0, 40, .inl f_cl)), (h_cp, .inl (cT 0, 1640, .inl f_cp)), (h_ce, .inl (cT 2, 40, .inl f_ce))] H → va_D A [(h_c, .inr (0, [.ref h_cw, .ref h_cl, .ref h_cp, .ref h_ce, .int v_cs])), (h_cw, .inl (cT 0, 40, .inl f_cw)), (h_cl, .inl (cT 0, 40, .inl f_cl)), (h_cp, .inl (cT 0, 1640, .inl f_cp)), (h_ce, .inl (cT 2, 40, .inl f_ce))] → va_S A s.heap H locs → lv_has ls 3 [(0, .ref h_c), (1, .int x1), (2, .int x2)] → K30 x1 x2 → W p l e ({ frames := 0, cells := 0, slots := 0, locals := 0 } : Room) s m args below meth c H locs 0 0 Q (F0 m 30 ls [])) : ∀ (x1 : Int32) (x2 : Int32) (H : Heap) (locs : List Loc) (ls : Array Slot), va_P D vwCl [(h_c, .inr (0, [.ref h_cw, .ref h_cl, .ref h_cp, .ref h_ce, .int v_cs])), (h_cw, .inl (cT 0, 40, .inl f_cw)), (h_cl, .inl (cT 0, 40, .inl f_cl)), (h_cp, .inl (cT 0, 1640, .inl f_cp)), (h_ce, .inl (cT 2, 40, .inl f_ce))] H → va_D A [(h_c, .inr (0, [.ref h_cw, .ref h_cl, .ref h_cp, .ref h_ce, .int v_cs])), (h_cw, .inl (cT 0, 40, .inl f_cw)), (h_cl, .inl (cT 0, 40, .inl f_cl)), (h_cp, .inl (cT 0, 1640, .inl f_cp)), (h_ce, .inl (cT 2, 40, .inl f_ce))] → va_S A s.heap H locs → lv_has ls 3 [(0, .ref h_c), (1, .int x1), (2, .int x2)] → wp_Chain_canEnd_63 post v_cs f_cw f_cl f_cp f_ce K30 x1 x2 → W p l e ({ frames := 0, cells := 0, slots := 0, locals := 0 } : Room) s m args below meth c H locs 0 0 Q (F0 m 63 ls []) := by
  obtain ⟨⟨hx, hb, hml, hown, hts⟩, hK, hN⟩ := id C0
  intro x1 x2 H locs ls hP hD hS hl hw
  unfold wp_Chain_canEnd_63 at hw
  obtain ⟨x2_8, ex2_8⟩ : ∃ y : Int32, y = x2 + 1 := ⟨_, rfl⟩
  refine lv_iinc (v := x2_8) (lv' := [(2, .int x2_8), (0, .ref h_c), (1, .int x1)]) hx hb dX0_canEnd_63 hl (k := 2) rfl (by rw [ex2_8]; rfl) (by decide) rfl (fun ls hl => ?_)
  have hw := hw x2_8 ex2_8
  refine lv_goto (tgt := 30) hx hb dX0_canEnd_66 (by decide) ?_
  exact hK30 _ _ _ _ _ hP hD hS (lv_sub hl [1, 2, 0] rfl) hw
set_option maxHeartbeats 4000000 in
set_option maxRecDepth 100000 in
theorem tw_Chain_canEnd_30 {post : Int32 → Prop} {h_c h_cw h_cl h_cp h_ce : Nat} {v_cs : Int32} {f_cw : Nat → Int32} {f_cl : Nat → Int32} {f_cp : Nat → Int32} {f_ce : Nat → Int32}  (C0 : cx RX0 cX0_canEnd 3 D cT p s m c args) (hA : ∀ q, s.heap.size ≤ q → A q) (hret : ∀ (r : Int32)  (H : Heap) (locs : List Loc) (pc : Nat) (ls : Array Slot), narrow .boolean (.int r) = .int r → post r → va_P D vwCl [(h_c, .inr (0, [.ref h_cw, .ref h_cl, .ref h_cp, .ref h_ce, .int v_cs])), (h_cw, .inl (cT 0, 40, .inl f_cw)), (h_cl, .inl (cT 0, 40, .inl f_cl)), (h_cp, .inl (cT 0, 1640, .inl f_cp)), (h_ce, .inl (cT 2, 40, .inl f_ce))] H → va_D A [(h_c, .inr (0, [.ref h_cw, .ref h_cl, .ref h_cp, .ref h_ce, .int v_cs])), (h_cw, .inl (cT 0, 40, .inl f_cw)), (h_cl, .inl (cT 0, 40, .inl f_cl)), (h_cp, .inl (cT 0, 1640, .inl f_cp)), (h_ce, .inl (cT 2, 40, .inl f_ce))] → va_S A s.heap H locs → decode cX0_canEnd pc = .ok (.ireturn, 1) → W p l e ({ frames := 0, cells := 0, slots := 0, locals := 0 } : Room) s m args below meth c H locs 0 0 Q (F0 m pc ls [.int r]))  : ∀ (n : Nat) (x1 : Int32) (x2 : Int32) (H : Heap) (locs : List Loc) (ls : Array Slot), va_P D vwCl [(h_c, .inr (0, [.ref h_cw, .ref h_cl, .ref h_cp, .ref h_ce, .int v_cs])), (h_cw, .inl (cT 0, 40, .inl f_cw)), (h_cl, .inl (cT 0, 40, .inl f_cl)), (h_cp, .inl (cT 0, 1640, .inl f_cp)), (h_ce, .inl (cT 2, 40, .inl f_ce))] H → va_D A [(h_c, .inr (0, [.ref h_cw, .ref h_cl, .ref h_cp, .ref h_ce, .int v_cs])), (h_cw, .inl (cT 0, 40, .inl f_cw)), (h_cl, .inl (cT 0, 40, .inl f_cl)), (h_cp, .inl (cT 0, 1640, .inl f_cp)), (h_ce, .inl (cT 2, 40, .inl f_ce))] → va_S A s.heap H locs → lv_has ls 3 [(0, .ref h_c), (1, .int x1), (2, .int x2)] → wp_Chain_canEnd_30 post v_cs f_cw f_cl f_cp f_ce n x1 x2 → W p l e ({ frames := 0, cells := 0, slots := 0, locals := 0 } : Room) s m args below meth c H locs 0 0 Q (F0 m 30 ls []) := by
  obtain ⟨⟨hx, hb, hml, hown, hts⟩, hK, hN⟩ := id C0
  intro n
  induction n with
  | zero => intro x1 x2 H locs ls hP hD hS hl hw; exact hw.elim
  | succ n ih =>
    intro x1 x2 H locs ls hP hD hS hl hw
    unfold wp_Chain_canEnd_30 at hw
    refine lv_iload_n hx hb dX0_canEnd_30 rfl (lv_at hl 2 rfl) ?_
    refine lv_aload_n hx hb dX0_canEnd_31 rfl (lv_at hl 0 rfl) ?_
    refine va_get (D := D) (ci := 0) (v := .int v_cs) (C := RX0) (T := TX0) (N := 5) hx hb hts inX0 hown hK hP 0 rfl rfl 4 (by decide) (hts _ q_37) (fun _ h9 => h9) rfl dX0_canEnd_32 ?_
    refine lv_icmp_ge (tgt := 69) hx hb dX0_canEnd_35 (by decide) (fun c_5 => ?_) (fun c_5 => ?_)
    · have hw := hw.1 c_5
      refine lv_iconst (v := 0) hx hb dX0_canEnd_69 (by decide) ?_
      exact hret _  _ _ _ _ rfl hw hP hD hS dX0_canEnd_70
    · have hw := hw.2 c_5
      refine lv_aload_n hx hb dX0_canEnd_38 rfl (lv_at hl 0 rfl) ?_
      refine va_get (D := D) (ci := 0) (v := .ref h_ce) (C := RX0) (T := TX0) (N := 5) hx hb hts inX0 hown hK hP 0 rfl rfl 3 (by decide) (hts _ q_36) (fun _ h9 => h9) rfl dX0_canEnd_39 ?_
      refine lv_iload_n hx hb dX0_canEnd_42 rfl (lv_at hl 2 rfl) ?_
      obtain ⟨h_6, hw⟩ := hw
      refine va_zald hx hb hK hP 4 2 rfl rfl h_6 dX0_canEnd_43 ?_
      refine lv_if_eq (tgt := 63) hx hb dX0_canEnd_44 (by decide) (fun c_7 => ?_) (fun c_7 => ?_)
      · have hw := hw.1 c_7
        exact tw_Chain_canEnd_63 C0 hA hret ih _ _ _ _ _ hP hD hS (lv_sub hl [0, 1, 2] rfl) hw
      · have hw := hw.2 c_7
        refine lv_aload_n hx hb dX0_canEnd_47 rfl (lv_at hl 0 rfl) ?_
        refine va_get (D := D) (ci := 0) (v := .ref h_cp) (C := RX0) (T := TX0) (N := 5) hx hb hts inX0 hown hK hP 0 rfl rfl 2 (by decide) (hts _ q_34) (fun _ h9 => h9) rfl dX0_canEnd_48 ?_
        refine lv_iload_n hx hb dX0_canEnd_51 rfl (lv_at hl 1 rfl) ?_
        refine lv_bipush (v := 41) hx hb dX0_canEnd_52 (by decide) ?_
        refine lv_imul hx hb dX0_canEnd_54 ?_
        refine lv_iload_n hx hb dX0_canEnd_55 rfl (lv_at hl 2 rfl) ?_
        refine lv_iadd hx hb dX0_canEnd_56 ?_
        obtain ⟨h_9, hw⟩ := hw
        refine va_iald hx hb hK hP 3 0 rfl rfl h_9 dX0_canEnd_57 ?_
        refine lv_if_le (tgt := 63) hx hb dX0_canEnd_58 (by decide) (fun c_10 => ?_) (fun c_10 => ?_)
        · have hw := hw.1 c_10
          exact tw_Chain_canEnd_63 C0 hA hret ih _ _ _ _ _ hP hD hS (lv_sub hl [0, 1, 2] rfl) hw
        · have hw := hw.2 c_10
          refine lv_iconst (v := 1) hx hb dX0_canEnd_61 (by decide) ?_
          exact hret _  _ _ _ _ rfl hw hP hD hS dX0_canEnd_62
set_option maxHeartbeats 4000000 in
set_option maxRecDepth 100000 in
theorem tw_Chain_canEnd {post : Int32 → Prop} {h_c h_cw h_cl h_cp h_ce : Nat} {v_cs : Int32} {f_cw : Nat → Int32} {f_cl : Nat → Int32} {f_cp : Nat → Int32} {f_ce : Nat → Int32}  (C0 : cx RX0 cX0_canEnd 3 D cT p s m c args) (hA : ∀ q, s.heap.size ≤ q → A q) (hret : ∀ (r : Int32)  (H : Heap) (locs : List Loc) (pc : Nat) (ls : Array Slot), narrow .boolean (.int r) = .int r → post r → va_P D vwCl [(h_c, .inr (0, [.ref h_cw, .ref h_cl, .ref h_cp, .ref h_ce, .int v_cs])), (h_cw, .inl (cT 0, 40, .inl f_cw)), (h_cl, .inl (cT 0, 40, .inl f_cl)), (h_cp, .inl (cT 0, 1640, .inl f_cp)), (h_ce, .inl (cT 2, 40, .inl f_ce))] H → va_D A [(h_c, .inr (0, [.ref h_cw, .ref h_cl, .ref h_cp, .ref h_ce, .int v_cs])), (h_cw, .inl (cT 0, 40, .inl f_cw)), (h_cl, .inl (cT 0, 40, .inl f_cl)), (h_cp, .inl (cT 0, 1640, .inl f_cp)), (h_ce, .inl (cT 2, 40, .inl f_ce))] → va_S A s.heap H locs → decode cX0_canEnd pc = .ok (.ireturn, 1) → W p l e ({ frames := 0, cells := 0, slots := 0, locals := 0 } : Room) s m args below meth c H locs 0 0 Q (F0 m pc ls [.int r]))  : ∀ (x1 : Int32) (H : Heap) (locs : List Loc) (ls : Array Slot), va_P D vwCl [(h_c, .inr (0, [.ref h_cw, .ref h_cl, .ref h_cp, .ref h_ce, .int v_cs])), (h_cw, .inl (cT 0, 40, .inl f_cw)), (h_cl, .inl (cT 0, 40, .inl f_cl)), (h_cp, .inl (cT 0, 1640, .inl f_cp)), (h_ce, .inl (cT 2, 40, .inl f_ce))] H → va_D A [(h_c, .inr (0, [.ref h_cw, .ref h_cl, .ref h_cp, .ref h_ce, .int v_cs])), (h_cw, .inl (cT 0, 40, .inl f_cw)), (h_cl, .inl (cT 0, 40, .inl f_cl)), (h_cp, .inl (cT 0, 1640, .inl f_cp)), (h_ce, .inl (cT 2, 40, .inl f_ce))] → va_S A s.heap H locs → lv_has ls 3 [(0, .ref h_c), (1, .int x1)] → wp_Chain_canEnd post v_cs f_cw f_cl f_cp f_ce x1 → W p l e ({ frames := 0, cells := 0, slots := 0, locals := 0 } : Room) s m args below meth c H locs 0 0 Q (F0 m 0 ls []) := by
  obtain ⟨⟨hx, hb, hml, hown, hts⟩, hK, hN⟩ := id C0
  intro x1 H locs ls hP hD hS hl hw
  unfold wp_Chain_canEnd at hw
  refine lv_aload_n hx hb dX0_canEnd_0 rfl (lv_at hl 0 rfl) ?_
  refine va_get (D := D) (ci := 0) (v := .ref h_cl) (C := RX0) (T := TX0) (N := 5) hx hb hts inX0 hown hK hP 0 rfl rfl 1 (by decide) (hts _ q_33) (fun _ h9 => h9) rfl dX0_canEnd_1 ?_
  refine lv_iload_n hx hb dX0_canEnd_4 rfl (lv_at hl 1 rfl) ?_
  obtain ⟨h_1, hw⟩ := hw
  refine va_iald hx hb hK hP 2 0 rfl rfl h_1 dX0_canEnd_5 ?_
  refine lv_if_gt (tgt := 26) hx hb dX0_canEnd_6 (by decide) (fun c_2 => ?_) (fun c_2 => ?_)
  · have hw := hw.1 c_2
    exact tw_Chain_canEnd_26 C0 hA hret   _ _ _ hP hD hS (lv_sub hl [] rfl) hw
  · have hw := hw.2 c_2
    refine lv_aload_n hx hb dX0_canEnd_9 rfl (lv_at hl 0 rfl) ?_
    refine va_get (D := D) (ci := 0) (v := .ref h_cp) (C := RX0) (T := TX0) (N := 5) hx hb hts inX0 hown hK hP 0 rfl rfl 2 (by decide) (hts _ q_34) (fun _ h9 => h9) rfl dX0_canEnd_10 ?_
    refine lv_iload_n hx hb dX0_canEnd_13 rfl (lv_at hl 1 rfl) ?_
    refine lv_bipush (v := 41) hx hb dX0_canEnd_14 (by decide) ?_
    refine lv_imul hx hb dX0_canEnd_16 ?_
    refine lv_aload_n hx hb dX0_canEnd_17 rfl (lv_at hl 0 rfl) ?_
    refine va_get (D := D) (ci := 0) (v := .int v_cs) (C := RX0) (T := TX0) (N := 5) hx hb hts inX0 hown hK hP 0 rfl rfl 4 (by decide) (hts _ q_37) (fun _ h9 => h9) rfl dX0_canEnd_18 ?_
    refine lv_iadd hx hb dX0_canEnd_21 ?_
    obtain ⟨h_3, hw⟩ := hw
    refine va_iald hx hb hK hP 3 0 rfl rfl h_3 dX0_canEnd_22 ?_
    refine lv_if_le (tgt := 28) hx hb dX0_canEnd_23 (by decide) (fun c_4 => ?_) (fun c_4 => ?_)
    · have hw := hw.1 c_4
      refine lv_iconst (v := 0) hx hb dX0_canEnd_28 (by decide) ?_
      refine lv_istore_n (lv' := [(2, .int 0), (0, .ref h_c), (1, .int x1)]) hx hb dX0_canEnd_29 rfl hl (by decide) rfl (fun ls hl => ?_)
      obtain ⟨n9, hw⟩ := hw
      exact tw_Chain_canEnd_30 C0 hA hret  n9 _ _ _ _ _ hP hD hS (lv_sub hl [1, 2, 0] rfl) hw
    · have hw := hw.2 c_4
      exact tw_Chain_canEnd_26 C0 hA hret   _ _ _ hP hD hS (lv_sub hl [] rfl) hw
set_option maxHeartbeats 4000000 in
set_option maxRecDepth 100000 in
theorem cn_Chain_canEnd (l : Launch) (D : va_G) (cT : Nat → ClassId) (h_c h_cw h_cl h_cp h_ce : Nat) (sz : Nat) (v_cs : Int32) (f_cw : Nat → Int32) (f_cl : Nat → Int32) (f_cp : Nat → Int32) (f_ce : Nat → Int32) (x1 : Int32) (post : Int32 → Prop) (hw : wp_Chain_canEnd post v_cs f_cw f_cl f_cp f_ce x1) : Met l yX0_canEnd wX0_canEnd ({ frames := 0, cells := 0, slots := 0, locals := 0 } : Room) (va_Pc [.ref h_c, .int x1] (pre_ D cT [(h_c, .inr (0, [.ref h_cw, .ref h_cl, .ref h_cp, .ref h_ce, .int v_cs])), (h_cw, .inl (cT 0, 40, .inl f_cw)), (h_cl, .inl (cT 0, 40, .inl f_cl)), (h_cp, .inl (cT 0, 1640, .inl f_cp)), (h_ce, .inl (cT 2, 40, .inl f_ce))] sz)) (va_Qi (fun (r : Int32) (u : Unit) => post r) (fun u t => va_P D vwCl [(h_c, .inr (0, [.ref h_cw, .ref h_cl, .ref h_cp, .ref h_ce, .int v_cs])), (h_cw, .inl (cT 0, 40, .inl f_cw)), (h_cl, .inl (cT 0, 40, .inl f_cl)), (h_cp, .inl (cT 0, 1640, .inl f_cp)), (h_ce, .inl (cT 2, 40, .inl f_ce))] t.heap ∧ va_D (va_A [(h_c, .inr (0, [.ref h_cw, .ref h_cl, .ref h_cp, .ref h_ce, .int v_cs])), (h_cw, .inl (cT 0, 40, .inl f_cw)), (h_cl, .inl (cT 0, 40, .inl f_cl)), (h_cp, .inl (cT 0, 1640, .inl f_cp)), (h_ce, .inl (cT 2, 40, .inl f_ce))] sz) [(h_c, .inr (0, [.ref h_cw, .ref h_cl, .ref h_cp, .ref h_ce, .int v_cs])), (h_cw, .inl (cT 0, 40, .inl f_cw)), (h_cl, .inl (cT 0, 40, .inl f_cl)), (h_cp, .inl (cT 0, 1640, .inl f_cp)), (h_ce, .inl (cT 2, 40, .inl f_ce))]) (va_A [(h_c, .inr (0, [.ref h_cw, .ref h_cl, .ref h_cp, .ref h_ce, .int v_cs])), (h_cw, .inl (cT 0, 40, .inl f_cw)), (h_cl, .inl (cT 0, 40, .inl f_cl)), (h_cp, .inl (cT 0, 1640, .inl f_cp)), (h_ce, .inl (cT 2, 40, .inl f_ce))] sz)) 0 0 (va_A [(h_c, .inr (0, [.ref h_cw, .ref h_cl, .ref h_cp, .ref h_ce, .int v_cs])), (h_cw, .inl (cT 0, 40, .inl f_cw)), (h_cl, .inl (cT 0, 40, .inl f_cl)), (h_cp, .inl (cT 0, 1640, .inl f_cp)), (h_ce, .inl (cT 2, 40, .inl f_ce))] sz) := by
  refine Met.ofW (cc := cX0_canEnd) (maxL := 3) (ret := (some .boolean)) (by decide) rfl ?_
  intro p e s m args below meth c s₁ B hml hv
  obtain ⟨rfl, hsz, hP, hK, hD0, hN⟩ := hv
  have hx := B.exec
  have hb := B.bytes
  have hr := B.returns
  have hts : ∀ w ∈ WG, w.before _ s = true := fun w h => atoms_spec (ws := wX0_canEnd) B.pre w (List.mem_cons_of_mem _ h)
  have hown : s.vm.findClass RX0 = some m.cls := findClass_of_methodNamed B.named
  have hlocks := B.notSynchronized
  subst hsz
  have hD := hD0.self (sz := s.heap.size)
  generalize hAe : va_A [(h_c, .inr (0, [.ref h_cw, .ref h_cl, .ref h_cp, .ref h_ce, .int v_cs])), (h_cw, .inl (cT 0, 40, .inl f_cw)), (h_cl, .inl (cT 0, 40, .inl f_cl)), (h_cp, .inl (cT 0, 1640, .inl f_cp)), (h_ce, .inl (cT 2, 40, .inl f_ce))] s.heap.size = A at hD ⊢
  have hA : ∀ q : Nat, s.heap.size ≤ q → A q := fun q h => by rw [← hAe]; exact Or.inr h
  have hS : va_S A s.heap s.heap [] := va_S.rf
  have hl := lv_entry ([.ref h_c, .int x1]) (n := 3) (Nat.le_of_ble_eq_true rfl)
  rw [lg_entry_eq]
  generalize (lg_sl ([.ref h_c, .int x1]) ++ List.replicate (3 - (lg_sl ([.ref h_c, .int x1])).length) Slot.unset).toArray = ls at hl ⊢
  refine tw_Chain_canEnd (Q := MQ below _ _ s 0 0 A) ⟨⟨hx, hb, hml, hown, hts⟩, hK, hN⟩ hA (fun r  H locs pc ls hn9 hp hP hD hS hd => W.zret (v := r) hx hb hr hn9 (fun t ht hW => ⟨⟨r, (), rfl, hp, by rw [ht]; exact hP, hD⟩, hS.F ht⟩) hS.2.2 hd) _ _ _ _ hP hD hS hl hw
end
def wp_Chain_isStuck_105 (post : Int32 → (Nat → Int32) → Prop) (v_cs : Int32) (f_cw : Nat → Int32) (f_cl : Nat → Int32) (f_cp : Nat → Int32)  (y0 : Int32) (f_ce : Nat → Int32) : Prop := (narrow .boolean (.int y0) = .int y0 ∧ post y0 f_ce)
def wp_Chain_isStuck_92 (post : Int32 → (Nat → Int32) → Prop) (v_cs : Int32) (f_cw : Nat → Int32) (f_cl : Nat → Int32) (f_cp : Nat → Int32)  (x1 : Int32) (f_ce : Nat → Int32) : Prop := ((v_cs ≤ x1 → (wp_Chain_isStuck_105 post v_cs f_cw f_cl f_cp 0 f_ce)) ∧ (¬ v_cs ≤ x1 → (wp_Chain_isStuck_105 post v_cs f_cw f_cl f_cp 1 f_ce)))
def wp_Chain_isStuck_80 (post : Int32 → (Nat → Int32) → Prop) (v_cs : Int32) (f_cw : Nat → Int32) (f_cl : Nat → Int32) (f_cp : Nat → Int32) (K27 : Int32 → Int32 → (Nat → Int32) → Prop) (K45 : Int32 → Int32 → Int32 → (Nat → Int32) → Prop) (x1 : Int32) (x2 : Int32) (x3 : Int32) (f_ce : Nat → Int32) : Prop := ∀ x3_9 : Int32, x3_9 = x3 + 1 → K45 x1 x2 x3_9 f_ce
def wp_Chain_isStuck_45 (post : Int32 → (Nat → Int32) → Prop) (v_cs : Int32) (f_cw : Nat → Int32) (f_cl : Nat → Int32) (f_cp : Nat → Int32) (K27 : Int32 → Int32 → (Nat → Int32) → Prop) : Nat → Int32 → Int32 → Int32 → (Nat → Int32) → Prop
  | 0 => fun _ _ _ _ => False
  | n + 1 => fun x1 x2 x3 f_ce => ((v_cs ≤ x3 → (∀ x2_6 : Int32, x2_6 = x2 + 1 → K27 x1 x2_6 f_ce)) ∧ (¬ v_cs ≤ x3 → ((vp_in x3 40 ∧ ((((f_ce x3.toNatClampNeg) = 0 → (wp_Chain_canEnd (fun r_10 => ((r_10 = 0 → (wp_Chain_isStuck_80 post v_cs f_cw f_cl f_cp K27 (wp_Chain_isStuck_45 post v_cs f_cw f_cl f_cp K27 n) x1 x2 x3 f_ce)) ∧ (¬ r_10 = 0 → ((vp_in x3 40 ∧ (∀ x1_13 : Int32, x1_13 = x1 + 1 → wp_Chain_isStuck_80 post v_cs f_cw f_cl f_cp K27 (wp_Chain_isStuck_45 post v_cs f_cw f_cl f_cp K27 n) x1_13 x2 x3 (upd f_ce x3.toNatClampNeg (vp_nar .boolean 1)))))))) v_cs f_cw f_cl f_cp f_ce x3)) ∧ (¬ (f_ce x3.toNatClampNeg) = 0 → (wp_Chain_isStuck_80 post v_cs f_cw f_cl f_cp K27 (wp_Chain_isStuck_45 post v_cs f_cw f_cl f_cp K27 n) x1 x2 x3 f_ce))))))))
def wp_Chain_isStuck_27 (post : Int32 → (Nat → Int32) → Prop) (v_cs : Int32) (f_cw : Nat → Int32) (f_cl : Nat → Int32) (f_cp : Nat → Int32)  : Nat → Int32 → Int32 → (Nat → Int32) → Prop
  | 0 => fun _ _ _ => False
  | n + 1 => fun x1 x2 f_ce => ((v_cs ≤ x2 → (wp_Chain_isStuck_92 post v_cs f_cw f_cl f_cp x1 f_ce)) ∧ (¬ v_cs ≤ x2 → (((v_cs ≤ x1 → (wp_Chain_isStuck_92 post v_cs f_cw f_cl f_cp x1 f_ce)) ∧ (¬ v_cs ≤ x1 → (∃ k9, wp_Chain_isStuck_45 post v_cs f_cw f_cl f_cp (wp_Chain_isStuck_27 post v_cs f_cw f_cl f_cp n) k9 x1 x2 0 f_ce))))))
def wp_Chain_isStuck_2 (post : Int32 → (Nat → Int32) → Prop) (v_cs : Int32) (f_cw : Nat → Int32) (f_cl : Nat → Int32) (f_cp : Nat → Int32)  : Nat → Int32 → (Nat → Int32) → Prop
  | 0 => fun _ _ => False
  | n + 1 => fun x1 f_ce => ((v_cs ≤ x1 → (∃ k9, wp_Chain_isStuck_27 post v_cs f_cw f_cl f_cp k9 0 0 f_ce)) ∧ (¬ v_cs ≤ x1 → ((vp_in x1 40 ∧ (∀ x1_15 : Int32, x1_15 = x1 + 1 → wp_Chain_isStuck_2 post v_cs f_cw f_cl f_cp n x1_15 (upd f_ce x1.toNatClampNeg (vp_nar .boolean 0)))))))
def wp_Chain_isStuck (post : Int32 → (Nat → Int32) → Prop) (v_cs : Int32) (f_cw : Nat → Int32) (f_cl : Nat → Int32) (f_cp : Nat → Int32)  (f_ce : Nat → Int32) : Prop := ∃ k9, wp_Chain_isStuck_2 post v_cs f_cw f_cl f_cp k9 0 f_ce
section
variable {p : Program} {l : Launch} {e : Env} {s : State} {m : MethodId} {args : Array Value} {below : List Frame} {meth : Method} {c : Code} {Q : State → Prop} {A : Nat → Prop} {D : va_G} {cT : Nat → ClassId}
set_option maxHeartbeats 4000000 in
set_option maxRecDepth 100000 in
theorem tw_Chain_isStuck_105 {post : Int32 → (Nat → Int32) → Prop} {h_c h_cw h_cl h_cp h_ce : Nat} {v_cs : Int32} {f_cw : Nat → Int32} {f_cl : Nat → Int32} {f_cp : Nat → Int32}  (C0 : cx RX0 cX0_isStuck 4 D cT p s m c args) (hA : ∀ q, s.heap.size ≤ q → A q) (hret : ∀ (r : Int32) (f_ce : Nat → Int32) (H : Heap) (locs : List Loc) (pc : Nat) (ls : Array Slot), narrow .boolean (.int r) = .int r → post r f_ce → va_P D vwCl [(h_c, .inr (0, [.ref h_cw, .ref h_cl, .ref h_cp, .ref h_ce, .int v_cs])), (h_cw, .inl (cT 0, 40, .inl f_cw)), (h_cl, .inl (cT 0, 40, .inl f_cl)), (h_cp, .inl (cT 0, 1640, .inl f_cp)), (h_ce, .inl (cT 2, 40, .inl f_ce))] H → va_D A [(h_c, .inr (0, [.ref h_cw, .ref h_cl, .ref h_cp, .ref h_ce, .int v_cs])), (h_cw, .inl (cT 0, 40, .inl f_cw)), (h_cl, .inl (cT 0, 40, .inl f_cl)), (h_cp, .inl (cT 0, 1640, .inl f_cp)), (h_ce, .inl (cT 2, 40, .inl f_ce))] → va_S A s.heap H locs → decode cX0_isStuck pc = .ok (.ireturn, 1) → W p l e ({ frames := 1, cells := 0, slots := 0, locals := 22 } : Room) s m args below meth c H locs 0 0 Q (F0 m pc ls [.int r]))  : ∀ (y0 : Int32) (f_ce : Nat → Int32) (H : Heap) (locs : List Loc) (ls : Array Slot), va_P D vwCl [(h_c, .inr (0, [.ref h_cw, .ref h_cl, .ref h_cp, .ref h_ce, .int v_cs])), (h_cw, .inl (cT 0, 40, .inl f_cw)), (h_cl, .inl (cT 0, 40, .inl f_cl)), (h_cp, .inl (cT 0, 1640, .inl f_cp)), (h_ce, .inl (cT 2, 40, .inl f_ce))] H → va_D A [(h_c, .inr (0, [.ref h_cw, .ref h_cl, .ref h_cp, .ref h_ce, .int v_cs])), (h_cw, .inl (cT 0, 40, .inl f_cw)), (h_cl, .inl (cT 0, 40, .inl f_cl)), (h_cp, .inl (cT 0, 1640, .inl f_cp)), (h_ce, .inl (cT 2, 40, .inl f_ce))] → va_S A s.heap H locs → lv_has ls 4 [] → wp_Chain_isStuck_105 post v_cs f_cw f_cl f_cp y0 f_ce → W p l e ({ frames := 1, cells := 0, slots := 0, locals := 22 } : Room) s m args below meth c H locs 0 0 Q (F0 m 105 ls [.int y0]) := by
  obtain ⟨⟨hx, hb, hml, hown, hts⟩, hK, hN⟩ := id C0
  intro y0 f_ce H locs ls hP hD hS hl hw
  unfold wp_Chain_isStuck_105 at hw
  exact hret _ _ _ _ _ _ hw.1 hw.2 hP hD hS dX0_isStuck_105
set_option maxHeartbeats 4000000 in
set_option maxRecDepth 100000 in
theorem tw_Chain_isStuck_92 {post : Int32 → (Nat → Int32) → Prop} {h_c h_cw h_cl h_cp h_ce : Nat} {v_cs : Int32} {f_cw : Nat → Int32} {f_cl : Nat → Int32} {f_cp : Nat → Int32}  (C0 : cx RX0 cX0_isStuck 4 D cT p s m c args) (hA : ∀ q, s.heap.size ≤ q → A q) (hret : ∀ (r : Int32) (f_ce : Nat → Int32) (H : Heap) (locs : List Loc) (pc : Nat) (ls : Array Slot), narrow .boolean (.int r) = .int r → post r f_ce → va_P D vwCl [(h_c, .inr (0, [.ref h_cw, .ref h_cl, .ref h_cp, .ref h_ce, .int v_cs])), (h_cw, .inl (cT 0, 40, .inl f_cw)), (h_cl, .inl (cT 0, 40, .inl f_cl)), (h_cp, .inl (cT 0, 1640, .inl f_cp)), (h_ce, .inl (cT 2, 40, .inl f_ce))] H → va_D A [(h_c, .inr (0, [.ref h_cw, .ref h_cl, .ref h_cp, .ref h_ce, .int v_cs])), (h_cw, .inl (cT 0, 40, .inl f_cw)), (h_cl, .inl (cT 0, 40, .inl f_cl)), (h_cp, .inl (cT 0, 1640, .inl f_cp)), (h_ce, .inl (cT 2, 40, .inl f_ce))] → va_S A s.heap H locs → decode cX0_isStuck pc = .ok (.ireturn, 1) → W p l e ({ frames := 1, cells := 0, slots := 0, locals := 22 } : Room) s m args below meth c H locs 0 0 Q (F0 m pc ls [.int r]))  : ∀ (x1 : Int32) (f_ce : Nat → Int32) (H : Heap) (locs : List Loc) (ls : Array Slot), va_P D vwCl [(h_c, .inr (0, [.ref h_cw, .ref h_cl, .ref h_cp, .ref h_ce, .int v_cs])), (h_cw, .inl (cT 0, 40, .inl f_cw)), (h_cl, .inl (cT 0, 40, .inl f_cl)), (h_cp, .inl (cT 0, 1640, .inl f_cp)), (h_ce, .inl (cT 2, 40, .inl f_ce))] H → va_D A [(h_c, .inr (0, [.ref h_cw, .ref h_cl, .ref h_cp, .ref h_ce, .int v_cs])), (h_cw, .inl (cT 0, 40, .inl f_cw)), (h_cl, .inl (cT 0, 40, .inl f_cl)), (h_cp, .inl (cT 0, 1640, .inl f_cp)), (h_ce, .inl (cT 2, 40, .inl f_ce))] → va_S A s.heap H locs → lv_has ls 4 [(0, .ref h_c), (1, .int x1)] → wp_Chain_isStuck_92 post v_cs f_cw f_cl f_cp x1 f_ce → W p l e ({ frames := 1, cells := 0, slots := 0, locals := 22 } : Room) s m args below meth c H locs 0 0 Q (F0 m 92 ls []) := by
  obtain ⟨⟨hx, hb, hml, hown, hts⟩, hK, hN⟩ := id C0
  intro x1 f_ce H locs ls hP hD hS hl hw
  unfold wp_Chain_isStuck_92 at hw
  refine lv_iload_n hx hb dX0_isStuck_92 rfl (lv_at hl 1 rfl) ?_
  refine lv_aload_n hx hb dX0_isStuck_93 rfl (lv_at hl 0 rfl) ?_
  refine va_get (D := D) (ci := 0) (v := .int v_cs) (C := RX0) (T := TX0) (N := 5) hx hb hts inX0 hown hK hP 0 rfl rfl 4 (by decide) (hts _ q_37) (fun _ h9 => h9) rfl dX0_isStuck_94 ?_
  refine lv_icmp_ge (tgt := 104) hx hb dX0_isStuck_97 (by decide) (fun c_3 => ?_) (fun c_3 => ?_)
  · have hw := hw.1 c_3
    refine lv_iconst (v := 0) hx hb dX0_isStuck_104 (by decide) ?_
    exact tw_Chain_isStuck_105 C0 hA hret  _ _ _ _ _ hP hD hS (lv_sub hl [] rfl) hw
  · have hw := hw.2 c_3
    refine lv_iconst (v := 1) hx hb dX0_isStuck_100 (by decide) ?_
    refine lv_goto (tgt := 105) hx hb dX0_isStuck_101 (by decide) ?_
    exact tw_Chain_isStuck_105 C0 hA hret  _ _ _ _ _ hP hD hS (lv_sub hl [] rfl) hw
set_option maxHeartbeats 4000000 in
set_option maxRecDepth 100000 in
theorem tw_Chain_isStuck_80 {post : Int32 → (Nat → Int32) → Prop} {h_c h_cw h_cl h_cp h_ce : Nat} {v_cs : Int32} {f_cw : Nat → Int32} {f_cl : Nat → Int32} {f_cp : Nat → Int32} {K27 : Int32 → Int32 → (Nat → Int32) → Prop} {K45 : Int32 → Int32 → Int32 → (Nat → Int32) → Prop} (C0 : cx RX0 cX0_isStuck 4 D cT p s m c args) (hA : ∀ q, s.heap.size ≤ q → A q) (hret : ∀ (r : Int32) (f_ce : Nat → Int32) (H : Heap) (locs : List Loc) (pc : Nat) (ls : Array Slot), narrow .boolean (.int r) = .int r → post r f_ce → va_P D vwCl [(h_c, .inr (0, [.ref h_cw, .ref h_cl, .ref h_cp, .ref h_ce, .int v_cs])), (h_cw, .inl (cT 0, 40, .inl f_cw)), (h_cl, .inl (cT 0, 40, .inl f_cl)), (h_cp, .inl (cT 0, 1640, .inl f_cp)), (h_ce, .inl (cT 2, 40, .inl f_ce))] H → va_D A [(h_c, .inr (0, [.ref h_cw, .ref h_cl, .ref h_cp, .ref h_ce, .int v_cs])), (h_cw, .inl (cT 0, 40, .inl f_cw)), (h_cl, .inl (cT 0, 40, .inl f_cl)), (h_cp, .inl (cT 0, 1640, .inl f_cp)), (h_ce, .inl (cT 2, 40, .inl f_ce))] → va_S A s.heap H locs → decode cX0_isStuck pc = .ok (.ireturn, 1) → W p l e ({ frames := 1, cells := 0, slots := 0, locals := 22 } : Room) s m args below meth c H locs 0 0 Q (F0 m pc ls [.int r])) (hK27 : ∀ (x1 : Int32) (x2 : Int32) (f_ce : Nat → Int32) (H : Heap) (locs : List Loc) (ls : Array Slot), va_P D vwCl [(h_c, .inr (0, [.ref h_cw, .ref h_cl, .ref h_cp, .ref h_ce, .int v_cs])), (h_cw, .inl (cT 0, 40, .inl f_cw)), (h_cl, .inl (cT 0, 40, .inl f_cl)), (h_cp, .inl (cT 0, 1640, .inl f_cp)), (h_ce, .inl (cT 2, 40, .inl f_ce))] H → va_D A [(h_c, .inr (0, [.ref h_cw, .ref h_cl, .ref h_cp, .ref h_ce, .int v_cs])), (h_cw, .inl (cT 0, 40, .inl f_cw)), (h_cl, .inl (cT 0, 40, .inl f_cl)), (h_cp, .inl (cT 0, 1640, .inl f_cp)), (h_ce, .inl (cT 2, 40, .inl f_ce))] → va_S A s.heap H locs → lv_has ls 4 [(0, .ref h_c), (1, .int x1), (2, .int x2)] → K27 x1 x2 f_ce → W p l e ({ frames := 1, cells := 0, slots := 0, locals := 22 } : Room) s m args below meth c H locs 0 0 Q (F0 m 27 ls [])) (hK45 : ∀ (x1 : Int32) (x2 : Int32) (x3 : Int32) (f_ce : Nat → Int32) (H : Heap) (locs : List Loc) (ls : Array Slot), va_P D vwCl [(h_c, .inr (0, [.ref h_cw, .ref h_cl, .ref h_cp, .ref h_ce, .int v_cs])), (h_cw, .inl (cT 0, 40, .inl f_cw)), (h_cl, .inl (cT 0, 40, .inl f_cl)), (h_cp, .inl (cT 0, 1640, .inl f_cp)), (h_ce, .inl (cT 2, 40, .inl f_ce))] H → va_D A [(h_c, .inr (0, [.ref h_cw, .ref h_cl, .ref h_cp, .ref h_ce, .int v_cs])), (h_cw, .inl (cT 0, 40, .inl f_cw)), (h_cl, .inl (cT 0, 40, .inl f_cl)), (h_cp, .inl (cT 0, 1640, .inl f_cp)), (h_ce, .inl (cT 2, 40, .inl f_ce))] → va_S A s.heap H locs → lv_has ls 4 [(0, .ref h_c), (1, .int x1), (2, .int x2), (3, .int x3)] → K45 x1 x2 x3 f_ce → W p l e ({ frames := 1, cells := 0, slots := 0, locals := 22 } : Room) s m args below meth c H locs 0 0 Q (F0 m 45 ls [])) : ∀ (x1 : Int32) (x2 : Int32) (x3 : Int32) (f_ce : Nat → Int32) (H : Heap) (locs : List Loc) (ls : Array Slot), va_P D vwCl [(h_c, .inr (0, [.ref h_cw, .ref h_cl, .ref h_cp, .ref h_ce, .int v_cs])), (h_cw, .inl (cT 0, 40, .inl f_cw)), (h_cl, .inl (cT 0, 40, .inl f_cl)), (h_cp, .inl (cT 0, 1640, .inl f_cp)), (h_ce, .inl (cT 2, 40, .inl f_ce))] H → va_D A [(h_c, .inr (0, [.ref h_cw, .ref h_cl, .ref h_cp, .ref h_ce, .int v_cs])), (h_cw, .inl (cT 0, 40, .inl f_cw)), (h_cl, .inl (cT 0, 40, .inl f_cl)), (h_cp, .inl (cT 0, 1640, .inl f_cp)), (h_ce, .inl (cT 2, 40, .inl f_ce))] → va_S A s.heap H locs → lv_has ls 4 [(0, .ref h_c), (1, .int x1), (2, .int x2), (3, .int x3)] → wp_Chain_isStuck_80 post v_cs f_cw f_cl f_cp K27 K45 x1 x2 x3 f_ce → W p l e ({ frames := 1, cells := 0, slots := 0, locals := 22 } : Room) s m args below meth c H locs 0 0 Q (F0 m 80 ls []) := by
  obtain ⟨⟨hx, hb, hml, hown, hts⟩, hK, hN⟩ := id C0
  intro x1 x2 x3 f_ce H locs ls hP hD hS hl hw
  unfold wp_Chain_isStuck_80 at hw
  obtain ⟨x3_9, ex3_9⟩ : ∃ y : Int32, y = x3 + 1 := ⟨_, rfl⟩
  refine lv_iinc (v := x3_9) (lv' := [(3, .int x3_9), (0, .ref h_c), (1, .int x1), (2, .int x2)]) hx hb dX0_isStuck_80 hl (k := 3) rfl (by rw [ex3_9]; rfl) (by decide) rfl (fun ls hl => ?_)
  have hw := hw x3_9 ex3_9
  refine lv_goto (tgt := 45) hx hb dX0_isStuck_83 (by decide) ?_
  exact hK45 _ _ _ _ _ _ _ hP hD hS (lv_sub hl [1, 2, 3, 0] rfl) hw
set_option maxHeartbeats 4000000 in
set_option maxRecDepth 100000 in
theorem tw_Chain_isStuck_45 {post : Int32 → (Nat → Int32) → Prop} {h_c h_cw h_cl h_cp h_ce : Nat} {v_cs : Int32} {f_cw : Nat → Int32} {f_cl : Nat → Int32} {f_cp : Nat → Int32} {K27 : Int32 → Int32 → (Nat → Int32) → Prop} (C0 : cx RX0 cX0_isStuck 4 D cT p s m c args) (hA : ∀ q, s.heap.size ≤ q → A q) (hret : ∀ (r : Int32) (f_ce : Nat → Int32) (H : Heap) (locs : List Loc) (pc : Nat) (ls : Array Slot), narrow .boolean (.int r) = .int r → post r f_ce → va_P D vwCl [(h_c, .inr (0, [.ref h_cw, .ref h_cl, .ref h_cp, .ref h_ce, .int v_cs])), (h_cw, .inl (cT 0, 40, .inl f_cw)), (h_cl, .inl (cT 0, 40, .inl f_cl)), (h_cp, .inl (cT 0, 1640, .inl f_cp)), (h_ce, .inl (cT 2, 40, .inl f_ce))] H → va_D A [(h_c, .inr (0, [.ref h_cw, .ref h_cl, .ref h_cp, .ref h_ce, .int v_cs])), (h_cw, .inl (cT 0, 40, .inl f_cw)), (h_cl, .inl (cT 0, 40, .inl f_cl)), (h_cp, .inl (cT 0, 1640, .inl f_cp)), (h_ce, .inl (cT 2, 40, .inl f_ce))] → va_S A s.heap H locs → decode cX0_isStuck pc = .ok (.ireturn, 1) → W p l e ({ frames := 1, cells := 0, slots := 0, locals := 22 } : Room) s m args below meth c H locs 0 0 Q (F0 m pc ls [.int r])) (hK27 : ∀ (x1 : Int32) (x2 : Int32) (f_ce : Nat → Int32) (H : Heap) (locs : List Loc) (ls : Array Slot), va_P D vwCl [(h_c, .inr (0, [.ref h_cw, .ref h_cl, .ref h_cp, .ref h_ce, .int v_cs])), (h_cw, .inl (cT 0, 40, .inl f_cw)), (h_cl, .inl (cT 0, 40, .inl f_cl)), (h_cp, .inl (cT 0, 1640, .inl f_cp)), (h_ce, .inl (cT 2, 40, .inl f_ce))] H → va_D A [(h_c, .inr (0, [.ref h_cw, .ref h_cl, .ref h_cp, .ref h_ce, .int v_cs])), (h_cw, .inl (cT 0, 40, .inl f_cw)), (h_cl, .inl (cT 0, 40, .inl f_cl)), (h_cp, .inl (cT 0, 1640, .inl f_cp)), (h_ce, .inl (cT 2, 40, .inl f_ce))] → va_S A s.heap H locs → lv_has ls 4 [(0, .ref h_c), (1, .int x1), (2, .int x2)] → K27 x1 x2 f_ce → W p l e ({ frames := 1, cells := 0, slots := 0, locals := 22 } : Room) s m args below meth c H locs 0 0 Q (F0 m 27 ls [])) : ∀ (n : Nat) (x1 : Int32) (x2 : Int32) (x3 : Int32) (f_ce : Nat → Int32) (H : Heap) (locs : List Loc) (ls : Array Slot), va_P D vwCl [(h_c, .inr (0, [.ref h_cw, .ref h_cl, .ref h_cp, .ref h_ce, .int v_cs])), (h_cw, .inl (cT 0, 40, .inl f_cw)), (h_cl, .inl (cT 0, 40, .inl f_cl)), (h_cp, .inl (cT 0, 1640, .inl f_cp)), (h_ce, .inl (cT 2, 40, .inl f_ce))] H → va_D A [(h_c, .inr (0, [.ref h_cw, .ref h_cl, .ref h_cp, .ref h_ce, .int v_cs])), (h_cw, .inl (cT 0, 40, .inl f_cw)), (h_cl, .inl (cT 0, 40, .inl f_cl)), (h_cp, .inl (cT 0, 1640, .inl f_cp)), (h_ce, .inl (cT 2, 40, .inl f_ce))] → va_S A s.heap H locs → lv_has ls 4 [(0, .ref h_c), (1, .int x1), (2, .int x2), (3, .int x3)] → wp_Chain_isStuck_45 post v_cs f_cw f_cl f_cp K27 n x1 x2 x3 f_ce → W p l e ({ frames := 1, cells := 0, slots := 0, locals := 22 } : Room) s m args below meth c H locs 0 0 Q (F0 m 45 ls []) := by
  obtain ⟨⟨hx, hb, hml, hown, hts⟩, hK, hN⟩ := id C0
  intro n
  induction n with
  | zero => intro x1 x2 x3 f_ce H locs ls hP hD hS hl hw; exact hw.elim
  | succ n ih =>
    intro x1 x2 x3 f_ce H locs ls hP hD hS hl hw
    unfold wp_Chain_isStuck_45 at hw
    refine lv_iload_n hx hb dX0_isStuck_45 rfl (lv_at hl 3 rfl) ?_
    refine lv_aload_n hx hb dX0_isStuck_46 rfl (lv_at hl 0 rfl) ?_
    refine va_get (D := D) (ci := 0) (v := .int v_cs) (C := RX0) (T := TX0) (N := 5) hx hb hts inX0 hown hK hP 0 rfl rfl 4 (by decide) (hts _ q_37) (fun _ h9 => h9) rfl dX0_isStuck_47 ?_
    refine lv_icmp_ge (tgt := 86) hx hb dX0_isStuck_50 (by decide) (fun c_5 => ?_) (fun c_5 => ?_)
    · have hw := hw.1 c_5
      obtain ⟨x2_6, ex2_6⟩ : ∃ y : Int32, y = x2 + 1 := ⟨_, rfl⟩
      refine lv_iinc (v := x2_6) (lv' := [(2, .int x2_6), (0, .ref h_c), (1, .int x1), (3, .int x3)]) hx hb dX0_isStuck_86 hl (k := 2) rfl (by rw [ex2_6]; rfl) (by decide) rfl (fun ls hl => ?_)
      have hw := hw x2_6 ex2_6
      refine lv_goto (tgt := 27) hx hb dX0_isStuck_89 (by decide) ?_
      exact hK27 _ _ _ _ _ _ hP hD hS (lv_sub hl [1, 2, 0] rfl) hw
    · have hw := hw.2 c_5
      refine lv_aload_n hx hb dX0_isStuck_53 rfl (lv_at hl 0 rfl) ?_
      refine va_get (D := D) (ci := 0) (v := .ref h_ce) (C := RX0) (T := TX0) (N := 5) hx hb hts inX0 hown hK hP 0 rfl rfl 3 (by decide) (hts _ q_36) (fun _ h9 => h9) rfl dX0_isStuck_54 ?_
      refine lv_iload_n hx hb dX0_isStuck_57 rfl (lv_at hl 3 rfl) ?_
      obtain ⟨h_7, hw⟩ := hw
      refine va_zald hx hb hK hP 4 2 rfl rfl h_7 dX0_isStuck_58 ?_
      refine lv_if_ne (tgt := 80) hx hb dX0_isStuck_59 (by decide) (fun c_8 => ?_) (fun c_8 => ?_)
      · have hw := hw.2 c_8
        exact tw_Chain_isStuck_80 C0 hA hret hK27 ih _ _ _ _ _ _ _ hP hD hS (lv_sub hl [0, 1, 2, 3] rfl) hw
      · have hw := hw.1 c_8
        refine lv_aload_n hx hb dX0_isStuck_62 rfl (lv_at hl 0 rfl) ?_
        refine lv_iload_n hx hb dX0_isStuck_63 rfl (lv_at hl 3 rfl) ?_
        have hPc := hP.sub (ws' := [(h_c, .inr (0, [.ref h_cw, .ref h_cl, .ref h_cp, .ref h_ce, .int v_cs])), (h_cw, .inl (cT 0, 40, .inl f_cw)), (h_cl, .inl (cT 0, 40, .inl f_cl)), (h_cp, .inl (cT 0, 1640, .inl f_cp)), (h_ce, .inl (cT 2, 40, .inl f_ce))]) [0, 1, 2, 3, 4] rfl
        have hDc := hD.sub (ws' := [(h_c, .inr (0, [.ref h_cw, .ref h_cl, .ref h_cp, .ref h_ce, .int v_cs])), (h_cw, .inl (cT 0, 40, .inl f_cw)), (h_cl, .inl (cT 0, 40, .inl f_cl)), (h_cp, .inl (cT 0, 1640, .inl f_cp)), (h_ce, .inl (cT 2, 40, .inl f_ce))]) [0, 1, 2, 3, 4] (by decide) rfl
        have hFc := va_free (wc := [(h_c, .inr (0, [.ref h_cw, .ref h_cl, .ref h_cp, .ref h_ce, .int v_cs])), (h_cw, .inl (cT 0, 40, .inl f_cw)), (h_cl, .inl (cT 0, 40, .inl f_cl)), (h_cp, .inl (cT 0, 1640, .inl f_cp)), (h_ce, .inl (cT 2, 40, .inl f_ce))]) hD hS hA [0, 1, 2, 3, 4] rfl
        refine va_calli (va_runV (As := [.int x3]) (rest := []) ⟨hx, hb, hml, hown, hts⟩ (cn_Chain_canEnd l D cT h_c h_cw h_cl h_cp h_ce H.size v_cs f_cw f_cl f_cp f_ce x3 _ hw) (gv_ 1 q_206 q_2 q_203 q_205 qs_0 (by decide +kernel) ⟨Nat.le_of_ble_eq_true rfl, Nat.le_of_ble_eq_true rfl⟩ hts) ⟨pre_blind, va_recv hK hPc (ci := 0) (q0 := 0) rfl rfl, fun U hU hW => ⟨rfl, pre_mk hU hW hPc hK hDc hN⟩⟩ rfl rfl hl.1 rfl (lv_room (Nat.le_of_ble_eq_true rfl)) dX0_isStuck_64 ⟨(Nat.zero_le _), (Nat.zero_le _)⟩) hS (fun q _ h => hFc q h) hFc (fun r_10 u9 t H locs ht hvm hw hB hz1 hk1 hS => ?_)
        obtain ⟨hP1, hD1⟩ := hB
        rw [ht] at hP1
        obtain ⟨hP, hD⟩ := va_join (wr := []) (w1 := [(h_c, .inr (0, [.ref h_cw, .ref h_cl, .ref h_cp, .ref h_ce, .int v_cs])), (h_cw, .inl (cT 0, 40, .inl f_cw)), (h_cl, .inl (cT 0, 40, .inl f_cl)), (h_cp, .inl (cT 0, 1640, .inl f_cp)), (h_ce, .inl (cT 2, 40, .inl f_ce))]) hP hD [0, 1, 2, 3, 4] [] rfl rfl (by decide) (by decide) hk1 hFc hP1 hD1
        have hP := hP.sub (ws' := [(h_c, .inr (0, [.ref h_cw, .ref h_cl, .ref h_cp, .ref h_ce, .int v_cs])), (h_cw, .inl (cT 0, 40, .inl f_cw)), (h_cl, .inl (cT 0, 40, .inl f_cl)), (h_cp, .inl (cT 0, 1640, .inl f_cp)), (h_ce, .inl (cT 2, 40, .inl f_ce))]) [0, 1, 2, 3, 4] rfl
        have hD := hD.sub (ws' := [(h_c, .inr (0, [.ref h_cw, .ref h_cl, .ref h_cp, .ref h_ce, .int v_cs])), (h_cw, .inl (cT 0, 40, .inl f_cw)), (h_cl, .inl (cT 0, 40, .inl f_cl)), (h_cp, .inl (cT 0, 1640, .inl f_cp)), (h_ce, .inl (cT 2, 40, .inl f_ce))]) [0, 1, 2, 3, 4] (by decide) rfl
        clear hP1 hD1 hPc hDc hFc hk1 hz1 hvm ht
        try dsimp only at hw
        refine lv_if_eq (tgt := 80) hx hb dX0_isStuck_67 (by decide) (fun c_11 => ?_) (fun c_11 => ?_)
        · have hw := hw.1 c_11
          exact tw_Chain_isStuck_80 C0 hA hret hK27 ih _ _ _ _ _ _ _ hP hD hS (lv_sub hl [0, 1, 2, 3] rfl) hw
        · have hw := hw.2 c_11
          refine lv_aload_n hx hb dX0_isStuck_70 rfl (lv_at hl 0 rfl) ?_
          refine va_get (D := D) (ci := 0) (v := .ref h_ce) (C := RX0) (T := TX0) (N := 5) hx hb hts inX0 hown hK hP 0 rfl rfl 3 (by decide) (hts _ q_36) (fun _ h9 => h9) rfl dX0_isStuck_71 ?_
          refine lv_iload_n hx hb dX0_isStuck_74 rfl (lv_at hl 3 rfl) ?_
          refine lv_iconst (v := 1) hx hb dX0_isStuck_75 (by decide) ?_
          obtain ⟨h_12, hw⟩ := hw
          refine va_zast hx hb hK hP hD hS 4 2 rfl rfl h_12 dX0_isStuck_76 (fun H locs hP hD hS => ?_)
          have hP : va_P D vwCl [(h_c, .inr (0, [.ref h_cw, .ref h_cl, .ref h_cp, .ref h_ce, .int v_cs])), (h_cw, .inl (cT 0, 40, .inl f_cw)), (h_cl, .inl (cT 0, 40, .inl f_cl)), (h_cp, .inl (cT 0, 1640, .inl f_cp)), (h_ce, .inl (cT 2, 40, .inl (upd f_ce x3.toNatClampNeg (vp_nar .boolean 1))))] H := hP
          have hD : va_D A [(h_c, .inr (0, [.ref h_cw, .ref h_cl, .ref h_cp, .ref h_ce, .int v_cs])), (h_cw, .inl (cT 0, 40, .inl f_cw)), (h_cl, .inl (cT 0, 40, .inl f_cl)), (h_cp, .inl (cT 0, 1640, .inl f_cp)), (h_ce, .inl (cT 2, 40, .inl (upd f_ce x3.toNatClampNeg (vp_nar .boolean 1))))] := hD
          obtain ⟨x1_13, ex1_13⟩ : ∃ y : Int32, y = x1 + 1 := ⟨_, rfl⟩
          refine lv_iinc (v := x1_13) (lv' := [(1, .int x1_13), (0, .ref h_c), (2, .int x2), (3, .int x3)]) hx hb dX0_isStuck_77 hl (k := 1) rfl (by rw [ex1_13]; rfl) (by decide) rfl (fun ls hl => ?_)
          have hw := hw x1_13 ex1_13
          exact tw_Chain_isStuck_80 C0 hA hret hK27 ih _ _ _ _ _ _ _ hP hD hS (lv_sub hl [1, 0, 2, 3] rfl) hw
set_option maxHeartbeats 4000000 in
set_option maxRecDepth 100000 in
theorem tw_Chain_isStuck_27 {post : Int32 → (Nat → Int32) → Prop} {h_c h_cw h_cl h_cp h_ce : Nat} {v_cs : Int32} {f_cw : Nat → Int32} {f_cl : Nat → Int32} {f_cp : Nat → Int32}  (C0 : cx RX0 cX0_isStuck 4 D cT p s m c args) (hA : ∀ q, s.heap.size ≤ q → A q) (hret : ∀ (r : Int32) (f_ce : Nat → Int32) (H : Heap) (locs : List Loc) (pc : Nat) (ls : Array Slot), narrow .boolean (.int r) = .int r → post r f_ce → va_P D vwCl [(h_c, .inr (0, [.ref h_cw, .ref h_cl, .ref h_cp, .ref h_ce, .int v_cs])), (h_cw, .inl (cT 0, 40, .inl f_cw)), (h_cl, .inl (cT 0, 40, .inl f_cl)), (h_cp, .inl (cT 0, 1640, .inl f_cp)), (h_ce, .inl (cT 2, 40, .inl f_ce))] H → va_D A [(h_c, .inr (0, [.ref h_cw, .ref h_cl, .ref h_cp, .ref h_ce, .int v_cs])), (h_cw, .inl (cT 0, 40, .inl f_cw)), (h_cl, .inl (cT 0, 40, .inl f_cl)), (h_cp, .inl (cT 0, 1640, .inl f_cp)), (h_ce, .inl (cT 2, 40, .inl f_ce))] → va_S A s.heap H locs → decode cX0_isStuck pc = .ok (.ireturn, 1) → W p l e ({ frames := 1, cells := 0, slots := 0, locals := 22 } : Room) s m args below meth c H locs 0 0 Q (F0 m pc ls [.int r]))  : ∀ (n : Nat) (x1 : Int32) (x2 : Int32) (f_ce : Nat → Int32) (H : Heap) (locs : List Loc) (ls : Array Slot), va_P D vwCl [(h_c, .inr (0, [.ref h_cw, .ref h_cl, .ref h_cp, .ref h_ce, .int v_cs])), (h_cw, .inl (cT 0, 40, .inl f_cw)), (h_cl, .inl (cT 0, 40, .inl f_cl)), (h_cp, .inl (cT 0, 1640, .inl f_cp)), (h_ce, .inl (cT 2, 40, .inl f_ce))] H → va_D A [(h_c, .inr (0, [.ref h_cw, .ref h_cl, .ref h_cp, .ref h_ce, .int v_cs])), (h_cw, .inl (cT 0, 40, .inl f_cw)), (h_cl, .inl (cT 0, 40, .inl f_cl)), (h_cp, .inl (cT 0, 1640, .inl f_cp)), (h_ce, .inl (cT 2, 40, .inl f_ce))] → va_S A s.heap H locs → lv_has ls 4 [(0, .ref h_c), (1, .int x1), (2, .int x2)] → wp_Chain_isStuck_27 post v_cs f_cw f_cl f_cp n x1 x2 f_ce → W p l e ({ frames := 1, cells := 0, slots := 0, locals := 22 } : Room) s m args below meth c H locs 0 0 Q (F0 m 27 ls []) := by
  obtain ⟨⟨hx, hb, hml, hown, hts⟩, hK, hN⟩ := id C0
  intro n
  induction n with
  | zero => intro x1 x2 f_ce H locs ls hP hD hS hl hw; exact hw.elim
  | succ n ih =>
    intro x1 x2 f_ce H locs ls hP hD hS hl hw
    unfold wp_Chain_isStuck_27 at hw
    refine lv_iload_n hx hb dX0_isStuck_27 rfl (lv_at hl 2 rfl) ?_
    refine lv_aload_n hx hb dX0_isStuck_28 rfl (lv_at hl 0 rfl) ?_
    refine va_get (D := D) (ci := 0) (v := .int v_cs) (C := RX0) (T := TX0) (N := 5) hx hb hts inX0 hown hK hP 0 rfl rfl 4 (by decide) (hts _ q_37) (fun _ h9 => h9) rfl dX0_isStuck_29 ?_
    refine lv_icmp_ge (tgt := 92) hx hb dX0_isStuck_32 (by decide) (fun c_2 => ?_) (fun c_2 => ?_)
    · have hw := hw.1 c_2
      exact tw_Chain_isStuck_92 C0 hA hret  _ _ _ _ _ hP hD hS (lv_sub hl [0, 1] rfl) hw
    · have hw := hw.2 c_2
      refine lv_iload_n hx hb dX0_isStuck_35 rfl (lv_at hl 1 rfl) ?_
      refine lv_aload_n hx hb dX0_isStuck_36 rfl (lv_at hl 0 rfl) ?_
      refine va_get (D := D) (ci := 0) (v := .int v_cs) (C := RX0) (T := TX0) (N := 5) hx hb hts inX0 hown hK hP 0 rfl rfl 4 (by decide) (hts _ q_37) (fun _ h9 => h9) rfl dX0_isStuck_37 ?_
      refine lv_icmp_ge (tgt := 92) hx hb dX0_isStuck_40 (by decide) (fun c_4 => ?_) (fun c_4 => ?_)
      · have hw := hw.1 c_4
        exact tw_Chain_isStuck_92 C0 hA hret  _ _ _ _ _ hP hD hS (lv_sub hl [0, 1] rfl) hw
      · have hw := hw.2 c_4
        refine lv_iconst (v := 0) hx hb dX0_isStuck_43 (by decide) ?_
        refine lv_istore_n (lv' := [(3, .int 0), (0, .ref h_c), (1, .int x1), (2, .int x2)]) hx hb dX0_isStuck_44 rfl hl (by decide) rfl (fun ls hl => ?_)
        obtain ⟨n9, hw⟩ := hw
        exact tw_Chain_isStuck_45 C0 hA hret ih n9 _ _ _ _ _ _ _ hP hD hS (lv_sub hl [1, 2, 3, 0] rfl) hw
set_option maxHeartbeats 4000000 in
set_option maxRecDepth 100000 in
theorem tw_Chain_isStuck_2 {post : Int32 → (Nat → Int32) → Prop} {h_c h_cw h_cl h_cp h_ce : Nat} {v_cs : Int32} {f_cw : Nat → Int32} {f_cl : Nat → Int32} {f_cp : Nat → Int32}  (C0 : cx RX0 cX0_isStuck 4 D cT p s m c args) (hA : ∀ q, s.heap.size ≤ q → A q) (hret : ∀ (r : Int32) (f_ce : Nat → Int32) (H : Heap) (locs : List Loc) (pc : Nat) (ls : Array Slot), narrow .boolean (.int r) = .int r → post r f_ce → va_P D vwCl [(h_c, .inr (0, [.ref h_cw, .ref h_cl, .ref h_cp, .ref h_ce, .int v_cs])), (h_cw, .inl (cT 0, 40, .inl f_cw)), (h_cl, .inl (cT 0, 40, .inl f_cl)), (h_cp, .inl (cT 0, 1640, .inl f_cp)), (h_ce, .inl (cT 2, 40, .inl f_ce))] H → va_D A [(h_c, .inr (0, [.ref h_cw, .ref h_cl, .ref h_cp, .ref h_ce, .int v_cs])), (h_cw, .inl (cT 0, 40, .inl f_cw)), (h_cl, .inl (cT 0, 40, .inl f_cl)), (h_cp, .inl (cT 0, 1640, .inl f_cp)), (h_ce, .inl (cT 2, 40, .inl f_ce))] → va_S A s.heap H locs → decode cX0_isStuck pc = .ok (.ireturn, 1) → W p l e ({ frames := 1, cells := 0, slots := 0, locals := 22 } : Room) s m args below meth c H locs 0 0 Q (F0 m pc ls [.int r]))  : ∀ (n : Nat) (x1 : Int32) (f_ce : Nat → Int32) (H : Heap) (locs : List Loc) (ls : Array Slot), va_P D vwCl [(h_c, .inr (0, [.ref h_cw, .ref h_cl, .ref h_cp, .ref h_ce, .int v_cs])), (h_cw, .inl (cT 0, 40, .inl f_cw)), (h_cl, .inl (cT 0, 40, .inl f_cl)), (h_cp, .inl (cT 0, 1640, .inl f_cp)), (h_ce, .inl (cT 2, 40, .inl f_ce))] H → va_D A [(h_c, .inr (0, [.ref h_cw, .ref h_cl, .ref h_cp, .ref h_ce, .int v_cs])), (h_cw, .inl (cT 0, 40, .inl f_cw)), (h_cl, .inl (cT 0, 40, .inl f_cl)), (h_cp, .inl (cT 0, 1640, .inl f_cp)), (h_ce, .inl (cT 2, 40, .inl f_ce))] → va_S A s.heap H locs → lv_has ls 4 [(0, .ref h_c), (1, .int x1)] → wp_Chain_isStuck_2 post v_cs f_cw f_cl f_cp n x1 f_ce → W p l e ({ frames := 1, cells := 0, slots := 0, locals := 22 } : Room) s m args below meth c H locs 0 0 Q (F0 m 2 ls []) := by
  obtain ⟨⟨hx, hb, hml, hown, hts⟩, hK, hN⟩ := id C0
  intro n
  induction n with
  | zero => intro x1 f_ce H locs ls hP hD hS hl hw; exact hw.elim
  | succ n ih =>
    intro x1 f_ce H locs ls hP hD hS hl hw
    unfold wp_Chain_isStuck_2 at hw
    refine lv_iload_n hx hb dX0_isStuck_2 rfl (lv_at hl 1 rfl) ?_
    refine lv_aload_n hx hb dX0_isStuck_3 rfl (lv_at hl 0 rfl) ?_
    refine va_get (D := D) (ci := 0) (v := .int v_cs) (C := RX0) (T := TX0) (N := 5) hx hb hts inX0 hown hK hP 0 rfl rfl 4 (by decide) (hts _ q_37) (fun _ h9 => h9) rfl dX0_isStuck_4 ?_
    refine lv_icmp_ge (tgt := 23) hx hb dX0_isStuck_7 (by decide) (fun c_1 => ?_) (fun c_1 => ?_)
    · have hw := hw.1 c_1
      refine lv_iconst (v := 0) hx hb dX0_isStuck_23 (by decide) ?_
      refine lv_istore_n (lv' := [(1, .int 0), (0, .ref h_c)]) hx hb dX0_isStuck_24 rfl hl (by decide) rfl (fun ls hl => ?_)
      refine lv_iconst (v := 0) hx hb dX0_isStuck_25 (by decide) ?_
      refine lv_istore_n (lv' := [(2, .int 0), (1, .int 0), (0, .ref h_c)]) hx hb dX0_isStuck_26 rfl hl (by decide) rfl (fun ls hl => ?_)
      obtain ⟨n9, hw⟩ := hw
      exact tw_Chain_isStuck_27 C0 hA hret  n9 _ _ _ _ _ _ hP hD hS (lv_sub hl [2, 1, 0] rfl) hw
    · have hw := hw.2 c_1
      refine lv_aload_n hx hb dX0_isStuck_10 rfl (lv_at hl 0 rfl) ?_
      refine va_get (D := D) (ci := 0) (v := .ref h_ce) (C := RX0) (T := TX0) (N := 5) hx hb hts inX0 hown hK hP 0 rfl rfl 3 (by decide) (hts _ q_36) (fun _ h9 => h9) rfl dX0_isStuck_11 ?_
      refine lv_iload_n hx hb dX0_isStuck_14 rfl (lv_at hl 1 rfl) ?_
      refine lv_iconst (v := 0) hx hb dX0_isStuck_15 (by decide) ?_
      obtain ⟨h_14, hw⟩ := hw
      refine va_zast hx hb hK hP hD hS 4 2 rfl rfl h_14 dX0_isStuck_16 (fun H locs hP hD hS => ?_)
      have hP : va_P D vwCl [(h_c, .inr (0, [.ref h_cw, .ref h_cl, .ref h_cp, .ref h_ce, .int v_cs])), (h_cw, .inl (cT 0, 40, .inl f_cw)), (h_cl, .inl (cT 0, 40, .inl f_cl)), (h_cp, .inl (cT 0, 1640, .inl f_cp)), (h_ce, .inl (cT 2, 40, .inl (upd f_ce x1.toNatClampNeg (vp_nar .boolean 0))))] H := hP
      have hD : va_D A [(h_c, .inr (0, [.ref h_cw, .ref h_cl, .ref h_cp, .ref h_ce, .int v_cs])), (h_cw, .inl (cT 0, 40, .inl f_cw)), (h_cl, .inl (cT 0, 40, .inl f_cl)), (h_cp, .inl (cT 0, 1640, .inl f_cp)), (h_ce, .inl (cT 2, 40, .inl (upd f_ce x1.toNatClampNeg (vp_nar .boolean 0))))] := hD
      obtain ⟨x1_15, ex1_15⟩ : ∃ y : Int32, y = x1 + 1 := ⟨_, rfl⟩
      refine lv_iinc (v := x1_15) (lv' := [(1, .int x1_15), (0, .ref h_c)]) hx hb dX0_isStuck_17 hl (k := 1) rfl (by rw [ex1_15]; rfl) (by decide) rfl (fun ls hl => ?_)
      have hw := hw x1_15 ex1_15
      refine lv_goto (tgt := 2) hx hb dX0_isStuck_20 (by decide) ?_
      exact ih _ _ _ _ _ hP hD hS (lv_sub hl [1, 0] rfl) hw
set_option maxHeartbeats 4000000 in
set_option maxRecDepth 100000 in
theorem tw_Chain_isStuck {post : Int32 → (Nat → Int32) → Prop} {h_c h_cw h_cl h_cp h_ce : Nat} {v_cs : Int32} {f_cw : Nat → Int32} {f_cl : Nat → Int32} {f_cp : Nat → Int32}  (C0 : cx RX0 cX0_isStuck 4 D cT p s m c args) (hA : ∀ q, s.heap.size ≤ q → A q) (hret : ∀ (r : Int32) (f_ce : Nat → Int32) (H : Heap) (locs : List Loc) (pc : Nat) (ls : Array Slot), narrow .boolean (.int r) = .int r → post r f_ce → va_P D vwCl [(h_c, .inr (0, [.ref h_cw, .ref h_cl, .ref h_cp, .ref h_ce, .int v_cs])), (h_cw, .inl (cT 0, 40, .inl f_cw)), (h_cl, .inl (cT 0, 40, .inl f_cl)), (h_cp, .inl (cT 0, 1640, .inl f_cp)), (h_ce, .inl (cT 2, 40, .inl f_ce))] H → va_D A [(h_c, .inr (0, [.ref h_cw, .ref h_cl, .ref h_cp, .ref h_ce, .int v_cs])), (h_cw, .inl (cT 0, 40, .inl f_cw)), (h_cl, .inl (cT 0, 40, .inl f_cl)), (h_cp, .inl (cT 0, 1640, .inl f_cp)), (h_ce, .inl (cT 2, 40, .inl f_ce))] → va_S A s.heap H locs → decode cX0_isStuck pc = .ok (.ireturn, 1) → W p l e ({ frames := 1, cells := 0, slots := 0, locals := 22 } : Room) s m args below meth c H locs 0 0 Q (F0 m pc ls [.int r]))  : ∀ (f_ce : Nat → Int32) (H : Heap) (locs : List Loc) (ls : Array Slot), va_P D vwCl [(h_c, .inr (0, [.ref h_cw, .ref h_cl, .ref h_cp, .ref h_ce, .int v_cs])), (h_cw, .inl (cT 0, 40, .inl f_cw)), (h_cl, .inl (cT 0, 40, .inl f_cl)), (h_cp, .inl (cT 0, 1640, .inl f_cp)), (h_ce, .inl (cT 2, 40, .inl f_ce))] H → va_D A [(h_c, .inr (0, [.ref h_cw, .ref h_cl, .ref h_cp, .ref h_ce, .int v_cs])), (h_cw, .inl (cT 0, 40, .inl f_cw)), (h_cl, .inl (cT 0, 40, .inl f_cl)), (h_cp, .inl (cT 0, 1640, .inl f_cp)), (h_ce, .inl (cT 2, 40, .inl f_ce))] → va_S A s.heap H locs → lv_has ls 4 [(0, .ref h_c)] → wp_Chain_isStuck post v_cs f_cw f_cl f_cp f_ce → W p l e ({ frames := 1, cells := 0, slots := 0, locals := 22 } : Room) s m args below meth c H locs 0 0 Q (F0 m 0 ls []) := by
  obtain ⟨⟨hx, hb, hml, hown, hts⟩, hK, hN⟩ := id C0
  intro f_ce H locs ls hP hD hS hl hw
  unfold wp_Chain_isStuck at hw
  refine lv_iconst (v := 0) hx hb dX0_isStuck_0 (by decide) ?_
  refine lv_istore_n (lv' := [(1, .int 0), (0, .ref h_c)]) hx hb dX0_isStuck_1 rfl hl (by decide) rfl (fun ls hl => ?_)
  obtain ⟨n9, hw⟩ := hw
  exact tw_Chain_isStuck_2 C0 hA hret  n9 _ _ _ _ _ hP hD hS (lv_sub hl [1, 0] rfl) hw
set_option maxHeartbeats 4000000 in
set_option maxRecDepth 100000 in
theorem cn_Chain_isStuck (l : Launch) (D : va_G) (cT : Nat → ClassId) (h_c h_cw h_cl h_cp h_ce : Nat) (sz : Nat) (v_cs : Int32) (f_cw : Nat → Int32) (f_cl : Nat → Int32) (f_cp : Nat → Int32) (f_ce : Nat → Int32)  (post : Int32 → (Nat → Int32) → Prop) (hw : wp_Chain_isStuck post v_cs f_cw f_cl f_cp f_ce) : Met l yX0_isStuck wX0_isStuck ({ frames := 1, cells := 0, slots := 0, locals := 22 } : Room) (va_Pc [.ref h_c] (pre_ D cT [(h_c, .inr (0, [.ref h_cw, .ref h_cl, .ref h_cp, .ref h_ce, .int v_cs])), (h_cw, .inl (cT 0, 40, .inl f_cw)), (h_cl, .inl (cT 0, 40, .inl f_cl)), (h_cp, .inl (cT 0, 1640, .inl f_cp)), (h_ce, .inl (cT 2, 40, .inl f_ce))] sz)) (va_Qi (fun (r : Int32) (u : (Nat → Int32)) => post r u) (fun u t => va_P D vwCl [(h_c, .inr (0, [.ref h_cw, .ref h_cl, .ref h_cp, .ref h_ce, .int v_cs])), (h_cw, .inl (cT 0, 40, .inl f_cw)), (h_cl, .inl (cT 0, 40, .inl f_cl)), (h_cp, .inl (cT 0, 1640, .inl f_cp)), (h_ce, .inl (cT 2, 40, .inl u))] t.heap ∧ va_D (va_A [(h_c, .inr (0, [.ref h_cw, .ref h_cl, .ref h_cp, .ref h_ce, .int v_cs])), (h_cw, .inl (cT 0, 40, .inl f_cw)), (h_cl, .inl (cT 0, 40, .inl f_cl)), (h_cp, .inl (cT 0, 1640, .inl f_cp)), (h_ce, .inl (cT 2, 40, .inl f_ce))] sz) [(h_c, .inr (0, [.ref h_cw, .ref h_cl, .ref h_cp, .ref h_ce, .int v_cs])), (h_cw, .inl (cT 0, 40, .inl f_cw)), (h_cl, .inl (cT 0, 40, .inl f_cl)), (h_cp, .inl (cT 0, 1640, .inl f_cp)), (h_ce, .inl (cT 2, 40, .inl u))]) (va_A [(h_c, .inr (0, [.ref h_cw, .ref h_cl, .ref h_cp, .ref h_ce, .int v_cs])), (h_cw, .inl (cT 0, 40, .inl f_cw)), (h_cl, .inl (cT 0, 40, .inl f_cl)), (h_cp, .inl (cT 0, 1640, .inl f_cp)), (h_ce, .inl (cT 2, 40, .inl f_ce))] sz)) 0 0 (va_A [(h_c, .inr (0, [.ref h_cw, .ref h_cl, .ref h_cp, .ref h_ce, .int v_cs])), (h_cw, .inl (cT 0, 40, .inl f_cw)), (h_cl, .inl (cT 0, 40, .inl f_cl)), (h_cp, .inl (cT 0, 1640, .inl f_cp)), (h_ce, .inl (cT 2, 40, .inl f_ce))] sz) := by
  refine Met.ofW (cc := cX0_isStuck) (maxL := 4) (ret := (some .boolean)) (by decide) rfl ?_
  intro p e s m args below meth c s₁ B hml hv
  obtain ⟨rfl, hsz, hP, hK, hD0, hN⟩ := hv
  have hx := B.exec
  have hb := B.bytes
  have hr := B.returns
  have hts : ∀ w ∈ WG, w.before _ s = true := fun w h => atoms_spec (ws := wX0_isStuck) B.pre w (List.mem_cons_of_mem _ h)
  have hown : s.vm.findClass RX0 = some m.cls := findClass_of_methodNamed B.named
  have hlocks := B.notSynchronized
  subst hsz
  have hD := hD0.self (sz := s.heap.size)
  generalize hAe : va_A [(h_c, .inr (0, [.ref h_cw, .ref h_cl, .ref h_cp, .ref h_ce, .int v_cs])), (h_cw, .inl (cT 0, 40, .inl f_cw)), (h_cl, .inl (cT 0, 40, .inl f_cl)), (h_cp, .inl (cT 0, 1640, .inl f_cp)), (h_ce, .inl (cT 2, 40, .inl f_ce))] s.heap.size = A at hD ⊢
  have hA : ∀ q : Nat, s.heap.size ≤ q → A q := fun q h => by rw [← hAe]; exact Or.inr h
  have hS : va_S A s.heap s.heap [] := va_S.rf
  have hl := lv_entry ([.ref h_c]) (n := 4) (Nat.le_of_ble_eq_true rfl)
  rw [lg_entry_eq]
  generalize (lg_sl ([.ref h_c]) ++ List.replicate (4 - (lg_sl ([.ref h_c])).length) Slot.unset).toArray = ls at hl ⊢
  refine tw_Chain_isStuck (Q := MQ below _ _ s 0 0 A) ⟨⟨hx, hb, hml, hown, hts⟩, hK, hN⟩ hA (fun r f_ce H locs pc ls hn9 hp hP hD hS hd => W.zret (v := r) hx hb hr hn9 (fun t ht hW => ⟨⟨r, (f_ce), rfl, hp, by rw [ht]; exact hP, hD⟩, hS.F ht⟩) hS.2.2 hd) _ _ _ _ hP hD hS hl hw
end
