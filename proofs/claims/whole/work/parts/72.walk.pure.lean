def wp_ChainP_hasState_17 (post : Int32 → Prop) (v_cs : Int32) (f_cw : Nat → Int32) (f_cl : Nat → Int32) (f_cp : Nat → Int32) (f_ce : Nat → Int32)  (y0 : Int32) : Prop := (narrow .boolean (.int y0) = .int y0 ∧ post y0)
def wp_ChainP_hasState_16 (post : Int32 → Prop) (v_cs : Int32) (f_cw : Nat → Int32) (f_cl : Nat → Int32) (f_cp : Nat → Int32) (f_ce : Nat → Int32)   : Prop := wp_ChainP_hasState_17 post v_cs f_cw f_cl f_cp f_ce 0
def wp_ChainP_hasState (post : Int32 → Prop) (v_cs : Int32) (f_cw : Nat → Int32) (f_cl : Nat → Int32) (f_cp : Nat → Int32) (f_ce : Nat → Int32)  (x1 : Int32) : Prop := ((x1 < 0 → (wp_ChainP_hasState_16 post v_cs f_cw f_cl f_cp f_ce)) ∧ (¬ x1 < 0 → (((v_cs ≤ x1 → (wp_ChainP_hasState_16 post v_cs f_cw f_cl f_cp f_ce)) ∧ (¬ v_cs ≤ x1 → (wp_ChainP_hasState_17 post v_cs f_cw f_cl f_cp f_ce 1))))))
section
variable {p : Program} {l : Launch} {e : Env} {s : State} {m : MethodId} {args : Array Value} {below : List Frame} {meth : Method} {c : Code} {Q : State → Prop} {A : Nat → Prop} {D : va_G} {cT : Nat → ClassId}
set_option maxHeartbeats 4000000 in
set_option maxRecDepth 100000 in
theorem tw_ChainP_hasState_17 {post : Int32 → Prop} {h_c h_cw h_cl h_cp h_ce : Nat} {v_cs : Int32} {f_cw : Nat → Int32} {f_cl : Nat → Int32} {f_cp : Nat → Int32} {f_ce : Nat → Int32}  (C0 : cx RX0 cX0_hasState 2 D cT p s m c args) (hA : ∀ q, s.heap.size ≤ q → A q) (hret : ∀ (r : Int32)  (H : Heap) (locs : List Loc) (pc : Nat) (ls : Array Slot), narrow .boolean (.int r) = .int r → post r → va_P D vwCl [(h_c, .inr (0, [.ref h_cw, .ref h_cl, .ref h_cp, .ref h_ce, .int v_cs])), (h_cw, .inl (cT 0, 40, .inl f_cw)), (h_cl, .inl (cT 0, 40, .inl f_cl)), (h_cp, .inl (cT 0, 1640, .inl f_cp)), (h_ce, .inl (cT 2, 40, .inl f_ce))] H → True → va_S A s.heap H locs → decode cX0_hasState pc = .ok (.ireturn, 1) → W p l e ({ frames := 0, cells := 0, slots := 0, locals := 0 } : Room) s m args below meth c H locs 0 0 Q (F0 m pc ls [.int r]))  : ∀ (y0 : Int32) (H : Heap) (locs : List Loc) (ls : Array Slot), va_P D vwCl [(h_c, .inr (0, [.ref h_cw, .ref h_cl, .ref h_cp, .ref h_ce, .int v_cs])), (h_cw, .inl (cT 0, 40, .inl f_cw)), (h_cl, .inl (cT 0, 40, .inl f_cl)), (h_cp, .inl (cT 0, 1640, .inl f_cp)), (h_ce, .inl (cT 2, 40, .inl f_ce))] H → True → va_S A s.heap H locs → lv_has ls 2 [] → wp_ChainP_hasState_17 post v_cs f_cw f_cl f_cp f_ce y0 → W p l e ({ frames := 0, cells := 0, slots := 0, locals := 0 } : Room) s m args below meth c H locs 0 0 Q (F0 m 17 ls [.int y0]) := by
  obtain ⟨⟨hx, hb, hml, hown, hts⟩, hK, hN⟩ := id C0
  intro y0 H locs ls hP hD hS hl hw
  unfold wp_ChainP_hasState_17 at hw
  exact hret _  _ _ _ _ hw.1 hw.2 hP hD hS dX0_hasState_17
set_option maxHeartbeats 4000000 in
set_option maxRecDepth 100000 in
theorem tw_ChainP_hasState_16 {post : Int32 → Prop} {h_c h_cw h_cl h_cp h_ce : Nat} {v_cs : Int32} {f_cw : Nat → Int32} {f_cl : Nat → Int32} {f_cp : Nat → Int32} {f_ce : Nat → Int32}  (C0 : cx RX0 cX0_hasState 2 D cT p s m c args) (hA : ∀ q, s.heap.size ≤ q → A q) (hret : ∀ (r : Int32)  (H : Heap) (locs : List Loc) (pc : Nat) (ls : Array Slot), narrow .boolean (.int r) = .int r → post r → va_P D vwCl [(h_c, .inr (0, [.ref h_cw, .ref h_cl, .ref h_cp, .ref h_ce, .int v_cs])), (h_cw, .inl (cT 0, 40, .inl f_cw)), (h_cl, .inl (cT 0, 40, .inl f_cl)), (h_cp, .inl (cT 0, 1640, .inl f_cp)), (h_ce, .inl (cT 2, 40, .inl f_ce))] H → True → va_S A s.heap H locs → decode cX0_hasState pc = .ok (.ireturn, 1) → W p l e ({ frames := 0, cells := 0, slots := 0, locals := 0 } : Room) s m args below meth c H locs 0 0 Q (F0 m pc ls [.int r]))  : ∀  (H : Heap) (locs : List Loc) (ls : Array Slot), va_P D vwCl [(h_c, .inr (0, [.ref h_cw, .ref h_cl, .ref h_cp, .ref h_ce, .int v_cs])), (h_cw, .inl (cT 0, 40, .inl f_cw)), (h_cl, .inl (cT 0, 40, .inl f_cl)), (h_cp, .inl (cT 0, 1640, .inl f_cp)), (h_ce, .inl (cT 2, 40, .inl f_ce))] H → True → va_S A s.heap H locs → lv_has ls 2 [] → wp_ChainP_hasState_16 post v_cs f_cw f_cl f_cp f_ce  → W p l e ({ frames := 0, cells := 0, slots := 0, locals := 0 } : Room) s m args below meth c H locs 0 0 Q (F0 m 16 ls []) := by
  obtain ⟨⟨hx, hb, hml, hown, hts⟩, hK, hN⟩ := id C0
  intro H locs ls hP hD hS hl hw
  unfold wp_ChainP_hasState_16 at hw
  refine lv_iconst (v := 0) hx hb dX0_hasState_16 (by decide) ?_
  exact tw_ChainP_hasState_17 C0 hA hret  _ _ _ _ hP hD hS (lv_sub hl [] rfl) hw
set_option maxHeartbeats 4000000 in
set_option maxRecDepth 100000 in
theorem tw_ChainP_hasState {post : Int32 → Prop} {h_c h_cw h_cl h_cp h_ce : Nat} {v_cs : Int32} {f_cw : Nat → Int32} {f_cl : Nat → Int32} {f_cp : Nat → Int32} {f_ce : Nat → Int32}  (C0 : cx RX0 cX0_hasState 2 D cT p s m c args) (hA : ∀ q, s.heap.size ≤ q → A q) (hret : ∀ (r : Int32)  (H : Heap) (locs : List Loc) (pc : Nat) (ls : Array Slot), narrow .boolean (.int r) = .int r → post r → va_P D vwCl [(h_c, .inr (0, [.ref h_cw, .ref h_cl, .ref h_cp, .ref h_ce, .int v_cs])), (h_cw, .inl (cT 0, 40, .inl f_cw)), (h_cl, .inl (cT 0, 40, .inl f_cl)), (h_cp, .inl (cT 0, 1640, .inl f_cp)), (h_ce, .inl (cT 2, 40, .inl f_ce))] H → True → va_S A s.heap H locs → decode cX0_hasState pc = .ok (.ireturn, 1) → W p l e ({ frames := 0, cells := 0, slots := 0, locals := 0 } : Room) s m args below meth c H locs 0 0 Q (F0 m pc ls [.int r]))  : ∀ (x1 : Int32) (H : Heap) (locs : List Loc) (ls : Array Slot), va_P D vwCl [(h_c, .inr (0, [.ref h_cw, .ref h_cl, .ref h_cp, .ref h_ce, .int v_cs])), (h_cw, .inl (cT 0, 40, .inl f_cw)), (h_cl, .inl (cT 0, 40, .inl f_cl)), (h_cp, .inl (cT 0, 1640, .inl f_cp)), (h_ce, .inl (cT 2, 40, .inl f_ce))] H → True → va_S A s.heap H locs → lv_has ls 2 [(0, .ref h_c), (1, .int x1)] → wp_ChainP_hasState post v_cs f_cw f_cl f_cp f_ce x1 → W p l e ({ frames := 0, cells := 0, slots := 0, locals := 0 } : Room) s m args below meth c H locs 0 0 Q (F0 m 0 ls []) := by
  obtain ⟨⟨hx, hb, hml, hown, hts⟩, hK, hN⟩ := id C0
  intro x1 H locs ls hP hD hS hl hw
  unfold wp_ChainP_hasState at hw
  refine lv_iload_n hx hb dX0_hasState_0 rfl (lv_at hl 1 rfl) ?_
  refine lv_if_lt (tgt := 16) hx hb dX0_hasState_1 (by decide) (fun c_1 => ?_) (fun c_1 => ?_)
  · have hw := hw.1 c_1
    exact tw_ChainP_hasState_16 C0 hA hret   _ _ _ hP hD hS (lv_sub hl [] rfl) hw
  · have hw := hw.2 c_1
    refine lv_iload_n hx hb dX0_hasState_4 rfl (lv_at hl 1 rfl) ?_
    refine lv_aload_n hx hb dX0_hasState_5 rfl (lv_at hl 0 rfl) ?_
    refine va_get (D := D) (ci := 0) (v := .int v_cs) (C := RX0) (T := TX0) (N := 5) hx hb hts inX0 hown hK hP 0 rfl rfl 4 (by decide) (hts _ q_37) (fun _ h9 => h9) rfl dX0_hasState_6 ?_
    refine lv_icmp_ge (tgt := 16) hx hb dX0_hasState_9 (by decide) (fun c_2 => ?_) (fun c_2 => ?_)
    · have hw := hw.1 c_2
      exact tw_ChainP_hasState_16 C0 hA hret   _ _ _ hP hD hS (lv_sub hl [] rfl) hw
    · have hw := hw.2 c_2
      refine lv_iconst (v := 1) hx hb dX0_hasState_12 (by decide) ?_
      refine lv_goto (tgt := 17) hx hb dX0_hasState_13 (by decide) ?_
      exact tw_ChainP_hasState_17 C0 hA hret  _ _ _ _ hP hD hS (lv_sub hl [] rfl) hw
set_option maxHeartbeats 4000000 in
set_option maxRecDepth 100000 in
theorem cp_ChainP_hasState (l : Launch) (D : va_G) (cT : Nat → ClassId) (h_c h_cw h_cl h_cp h_ce : Nat) (sz : Nat) (v_cs : Int32) (f_cw : Nat → Int32) (f_cl : Nat → Int32) (f_cp : Nat → Int32) (f_ce : Nat → Int32) (x1 : Int32) (post : Int32 → Prop) (hw : wp_ChainP_hasState post v_cs f_cw f_cl f_cp f_ce x1) : Met l yX0_hasState wX0_hasState ({ frames := 0, cells := 0, slots := 0, locals := 0 } : Room) (va_Pc [.ref h_c, .int x1] (prp_ D cT [(h_c, .inr (0, [.ref h_cw, .ref h_cl, .ref h_cp, .ref h_ce, .int v_cs])), (h_cw, .inl (cT 0, 40, .inl f_cw)), (h_cl, .inl (cT 0, 40, .inl f_cl)), (h_cp, .inl (cT 0, 1640, .inl f_cp)), (h_ce, .inl (cT 2, 40, .inl f_ce))] sz)) (va_Qi (fun (r : Int32) (_ : Unit) => post r) (fun _ _ => True) (fun q => sz ≤ q)) 0 0 (fun q => sz ≤ q) := by
  refine Met.ofW (cc := cX0_hasState) (maxL := 2) (ret := (some .boolean)) (by decide) rfl ?_
  intro p e s m args below meth c s₁ B hml hv
  obtain ⟨rfl, hsz, hP, hK, hN⟩ := hv
  have hx := B.exec
  have hb := B.bytes
  have hr := B.returns
  have hts : ∀ w ∈ WG, w.before _ s = true := fun w h => atoms_spec (ws := wX0_hasState) B.pre w (List.mem_cons_of_mem _ h)
  have hown : s.vm.findClass RX0 = some m.cls := findClass_of_methodNamed B.named
  have hlocks := B.notSynchronized
  subst hsz
  have hA : ∀ q : Nat, s.heap.size ≤ q → (fun q => s.heap.size ≤ q) q := fun q h => h
  have hS : va_S (fun q => s.heap.size ≤ q) s.heap s.heap [] := va_S.rf
  have hl := lv_entry ([.ref h_c, .int x1]) (n := 2) (Nat.le_of_ble_eq_true rfl)
  rw [lg_entry_eq]
  generalize (lg_sl ([.ref h_c, .int x1]) ++ List.replicate (2 - (lg_sl ([.ref h_c, .int x1])).length) Slot.unset).toArray = ls at hl ⊢
  exact tw_ChainP_hasState (Q := MQ below _ _ s 0 0 (fun q => s.heap.size ≤ q)) ⟨⟨hx, hb, hml, hown, hts⟩, hK, hN⟩ hA (fun r H locs pc ls hn9 hp hP _ hS hd => W.zret (v := r) hx hb hr hn9 (fun t ht hW => ⟨⟨r, (), rfl, hp, trivial⟩, hS.F ht⟩) hS.2.2 hd) _ _ _ _ hP trivial hS hl hw
end
def wp_ChainP_hasTarget_17 (post : Int32 → Prop) (v_cs : Int32) (f_cw : Nat → Int32) (f_cl : Nat → Int32) (f_cp : Nat → Int32) (f_ce : Nat → Int32)  (y0 : Int32) : Prop := (narrow .boolean (.int y0) = .int y0 ∧ post y0)
def wp_ChainP_hasTarget_16 (post : Int32 → Prop) (v_cs : Int32) (f_cw : Nat → Int32) (f_cl : Nat → Int32) (f_cp : Nat → Int32) (f_ce : Nat → Int32)   : Prop := wp_ChainP_hasTarget_17 post v_cs f_cw f_cl f_cp f_ce 0
def wp_ChainP_hasTarget (post : Int32 → Prop) (v_cs : Int32) (f_cw : Nat → Int32) (f_cl : Nat → Int32) (f_cp : Nat → Int32) (f_ce : Nat → Int32)  (x1 : Int32) : Prop := ((x1 < 0 → (wp_ChainP_hasTarget_16 post v_cs f_cw f_cl f_cp f_ce)) ∧ (¬ x1 < 0 → (((v_cs < x1 → (wp_ChainP_hasTarget_16 post v_cs f_cw f_cl f_cp f_ce)) ∧ (¬ v_cs < x1 → (wp_ChainP_hasTarget_17 post v_cs f_cw f_cl f_cp f_ce 1))))))
section
variable {p : Program} {l : Launch} {e : Env} {s : State} {m : MethodId} {args : Array Value} {below : List Frame} {meth : Method} {c : Code} {Q : State → Prop} {A : Nat → Prop} {D : va_G} {cT : Nat → ClassId}
set_option maxHeartbeats 4000000 in
set_option maxRecDepth 100000 in
theorem tw_ChainP_hasTarget_17 {post : Int32 → Prop} {h_c h_cw h_cl h_cp h_ce : Nat} {v_cs : Int32} {f_cw : Nat → Int32} {f_cl : Nat → Int32} {f_cp : Nat → Int32} {f_ce : Nat → Int32}  (C0 : cx RX0 cX0_hasTarget 2 D cT p s m c args) (hA : ∀ q, s.heap.size ≤ q → A q) (hret : ∀ (r : Int32)  (H : Heap) (locs : List Loc) (pc : Nat) (ls : Array Slot), narrow .boolean (.int r) = .int r → post r → va_P D vwCl [(h_c, .inr (0, [.ref h_cw, .ref h_cl, .ref h_cp, .ref h_ce, .int v_cs])), (h_cw, .inl (cT 0, 40, .inl f_cw)), (h_cl, .inl (cT 0, 40, .inl f_cl)), (h_cp, .inl (cT 0, 1640, .inl f_cp)), (h_ce, .inl (cT 2, 40, .inl f_ce))] H → True → va_S A s.heap H locs → decode cX0_hasTarget pc = .ok (.ireturn, 1) → W p l e ({ frames := 0, cells := 0, slots := 0, locals := 0 } : Room) s m args below meth c H locs 0 0 Q (F0 m pc ls [.int r]))  : ∀ (y0 : Int32) (H : Heap) (locs : List Loc) (ls : Array Slot), va_P D vwCl [(h_c, .inr (0, [.ref h_cw, .ref h_cl, .ref h_cp, .ref h_ce, .int v_cs])), (h_cw, .inl (cT 0, 40, .inl f_cw)), (h_cl, .inl (cT 0, 40, .inl f_cl)), (h_cp, .inl (cT 0, 1640, .inl f_cp)), (h_ce, .inl (cT 2, 40, .inl f_ce))] H → True → va_S A s.heap H locs → lv_has ls 2 [] → wp_ChainP_hasTarget_17 post v_cs f_cw f_cl f_cp f_ce y0 → W p l e ({ frames := 0, cells := 0, slots := 0, locals := 0 } : Room) s m args below meth c H locs 0 0 Q (F0 m 17 ls [.int y0]) := by
  obtain ⟨⟨hx, hb, hml, hown, hts⟩, hK, hN⟩ := id C0
  intro y0 H locs ls hP hD hS hl hw
  unfold wp_ChainP_hasTarget_17 at hw
  exact hret _  _ _ _ _ hw.1 hw.2 hP hD hS dX0_hasTarget_17
set_option maxHeartbeats 4000000 in
set_option maxRecDepth 100000 in
theorem tw_ChainP_hasTarget_16 {post : Int32 → Prop} {h_c h_cw h_cl h_cp h_ce : Nat} {v_cs : Int32} {f_cw : Nat → Int32} {f_cl : Nat → Int32} {f_cp : Nat → Int32} {f_ce : Nat → Int32}  (C0 : cx RX0 cX0_hasTarget 2 D cT p s m c args) (hA : ∀ q, s.heap.size ≤ q → A q) (hret : ∀ (r : Int32)  (H : Heap) (locs : List Loc) (pc : Nat) (ls : Array Slot), narrow .boolean (.int r) = .int r → post r → va_P D vwCl [(h_c, .inr (0, [.ref h_cw, .ref h_cl, .ref h_cp, .ref h_ce, .int v_cs])), (h_cw, .inl (cT 0, 40, .inl f_cw)), (h_cl, .inl (cT 0, 40, .inl f_cl)), (h_cp, .inl (cT 0, 1640, .inl f_cp)), (h_ce, .inl (cT 2, 40, .inl f_ce))] H → True → va_S A s.heap H locs → decode cX0_hasTarget pc = .ok (.ireturn, 1) → W p l e ({ frames := 0, cells := 0, slots := 0, locals := 0 } : Room) s m args below meth c H locs 0 0 Q (F0 m pc ls [.int r]))  : ∀  (H : Heap) (locs : List Loc) (ls : Array Slot), va_P D vwCl [(h_c, .inr (0, [.ref h_cw, .ref h_cl, .ref h_cp, .ref h_ce, .int v_cs])), (h_cw, .inl (cT 0, 40, .inl f_cw)), (h_cl, .inl (cT 0, 40, .inl f_cl)), (h_cp, .inl (cT 0, 1640, .inl f_cp)), (h_ce, .inl (cT 2, 40, .inl f_ce))] H → True → va_S A s.heap H locs → lv_has ls 2 [] → wp_ChainP_hasTarget_16 post v_cs f_cw f_cl f_cp f_ce  → W p l e ({ frames := 0, cells := 0, slots := 0, locals := 0 } : Room) s m args below meth c H locs 0 0 Q (F0 m 16 ls []) := by
  obtain ⟨⟨hx, hb, hml, hown, hts⟩, hK, hN⟩ := id C0
  intro H locs ls hP hD hS hl hw
  unfold wp_ChainP_hasTarget_16 at hw
  refine lv_iconst (v := 0) hx hb dX0_hasTarget_16 (by decide) ?_
  exact tw_ChainP_hasTarget_17 C0 hA hret  _ _ _ _ hP hD hS (lv_sub hl [] rfl) hw
set_option maxHeartbeats 4000000 in
set_option maxRecDepth 100000 in
theorem tw_ChainP_hasTarget {post : Int32 → Prop} {h_c h_cw h_cl h_cp h_ce : Nat} {v_cs : Int32} {f_cw : Nat → Int32} {f_cl : Nat → Int32} {f_cp : Nat → Int32} {f_ce : Nat → Int32}  (C0 : cx RX0 cX0_hasTarget 2 D cT p s m c args) (hA : ∀ q, s.heap.size ≤ q → A q) (hret : ∀ (r : Int32)  (H : Heap) (locs : List Loc) (pc : Nat) (ls : Array Slot), narrow .boolean (.int r) = .int r → post r → va_P D vwCl [(h_c, .inr (0, [.ref h_cw, .ref h_cl, .ref h_cp, .ref h_ce, .int v_cs])), (h_cw, .inl (cT 0, 40, .inl f_cw)), (h_cl, .inl (cT 0, 40, .inl f_cl)), (h_cp, .inl (cT 0, 1640, .inl f_cp)), (h_ce, .inl (cT 2, 40, .inl f_ce))] H → True → va_S A s.heap H locs → decode cX0_hasTarget pc = .ok (.ireturn, 1) → W p l e ({ frames := 0, cells := 0, slots := 0, locals := 0 } : Room) s m args below meth c H locs 0 0 Q (F0 m pc ls [.int r]))  : ∀ (x1 : Int32) (H : Heap) (locs : List Loc) (ls : Array Slot), va_P D vwCl [(h_c, .inr (0, [.ref h_cw, .ref h_cl, .ref h_cp, .ref h_ce, .int v_cs])), (h_cw, .inl (cT 0, 40, .inl f_cw)), (h_cl, .inl (cT 0, 40, .inl f_cl)), (h_cp, .inl (cT 0, 1640, .inl f_cp)), (h_ce, .inl (cT 2, 40, .inl f_ce))] H → True → va_S A s.heap H locs → lv_has ls 2 [(0, .ref h_c), (1, .int x1)] → wp_ChainP_hasTarget post v_cs f_cw f_cl f_cp f_ce x1 → W p l e ({ frames := 0, cells := 0, slots := 0, locals := 0 } : Room) s m args below meth c H locs 0 0 Q (F0 m 0 ls []) := by
  obtain ⟨⟨hx, hb, hml, hown, hts⟩, hK, hN⟩ := id C0
  intro x1 H locs ls hP hD hS hl hw
  unfold wp_ChainP_hasTarget at hw
  refine lv_iload_n hx hb dX0_hasTarget_0 rfl (lv_at hl 1 rfl) ?_
  refine lv_if_lt (tgt := 16) hx hb dX0_hasTarget_1 (by decide) (fun c_1 => ?_) (fun c_1 => ?_)
  · have hw := hw.1 c_1
    exact tw_ChainP_hasTarget_16 C0 hA hret   _ _ _ hP hD hS (lv_sub hl [] rfl) hw
  · have hw := hw.2 c_1
    refine lv_iload_n hx hb dX0_hasTarget_4 rfl (lv_at hl 1 rfl) ?_
    refine lv_aload_n hx hb dX0_hasTarget_5 rfl (lv_at hl 0 rfl) ?_
    refine va_get (D := D) (ci := 0) (v := .int v_cs) (C := RX0) (T := TX0) (N := 5) hx hb hts inX0 hown hK hP 0 rfl rfl 4 (by decide) (hts _ q_37) (fun _ h9 => h9) rfl dX0_hasTarget_6 ?_
    refine lv_icmp_gt (tgt := 16) hx hb dX0_hasTarget_9 (by decide) (fun c_2 => ?_) (fun c_2 => ?_)
    · have hw := hw.1 c_2
      exact tw_ChainP_hasTarget_16 C0 hA hret   _ _ _ hP hD hS (lv_sub hl [] rfl) hw
    · have hw := hw.2 c_2
      refine lv_iconst (v := 1) hx hb dX0_hasTarget_12 (by decide) ?_
      refine lv_goto (tgt := 17) hx hb dX0_hasTarget_13 (by decide) ?_
      exact tw_ChainP_hasTarget_17 C0 hA hret  _ _ _ _ hP hD hS (lv_sub hl [] rfl) hw
set_option maxHeartbeats 4000000 in
set_option maxRecDepth 100000 in
theorem cp_ChainP_hasTarget (l : Launch) (D : va_G) (cT : Nat → ClassId) (h_c h_cw h_cl h_cp h_ce : Nat) (sz : Nat) (v_cs : Int32) (f_cw : Nat → Int32) (f_cl : Nat → Int32) (f_cp : Nat → Int32) (f_ce : Nat → Int32) (x1 : Int32) (post : Int32 → Prop) (hw : wp_ChainP_hasTarget post v_cs f_cw f_cl f_cp f_ce x1) : Met l yX0_hasTarget wX0_hasTarget ({ frames := 0, cells := 0, slots := 0, locals := 0 } : Room) (va_Pc [.ref h_c, .int x1] (prp_ D cT [(h_c, .inr (0, [.ref h_cw, .ref h_cl, .ref h_cp, .ref h_ce, .int v_cs])), (h_cw, .inl (cT 0, 40, .inl f_cw)), (h_cl, .inl (cT 0, 40, .inl f_cl)), (h_cp, .inl (cT 0, 1640, .inl f_cp)), (h_ce, .inl (cT 2, 40, .inl f_ce))] sz)) (va_Qi (fun (r : Int32) (_ : Unit) => post r) (fun _ _ => True) (fun q => sz ≤ q)) 0 0 (fun q => sz ≤ q) := by
  refine Met.ofW (cc := cX0_hasTarget) (maxL := 2) (ret := (some .boolean)) (by decide) rfl ?_
  intro p e s m args below meth c s₁ B hml hv
  obtain ⟨rfl, hsz, hP, hK, hN⟩ := hv
  have hx := B.exec
  have hb := B.bytes
  have hr := B.returns
  have hts : ∀ w ∈ WG, w.before _ s = true := fun w h => atoms_spec (ws := wX0_hasTarget) B.pre w (List.mem_cons_of_mem _ h)
  have hown : s.vm.findClass RX0 = some m.cls := findClass_of_methodNamed B.named
  have hlocks := B.notSynchronized
  subst hsz
  have hA : ∀ q : Nat, s.heap.size ≤ q → (fun q => s.heap.size ≤ q) q := fun q h => h
  have hS : va_S (fun q => s.heap.size ≤ q) s.heap s.heap [] := va_S.rf
  have hl := lv_entry ([.ref h_c, .int x1]) (n := 2) (Nat.le_of_ble_eq_true rfl)
  rw [lg_entry_eq]
  generalize (lg_sl ([.ref h_c, .int x1]) ++ List.replicate (2 - (lg_sl ([.ref h_c, .int x1])).length) Slot.unset).toArray = ls at hl ⊢
  exact tw_ChainP_hasTarget (Q := MQ below _ _ s 0 0 (fun q => s.heap.size ≤ q)) ⟨⟨hx, hb, hml, hown, hts⟩, hK, hN⟩ hA (fun r H locs pc ls hn9 hp hP _ hS hd => W.zret (v := r) hx hb hr hn9 (fun t ht hW => ⟨⟨r, (), rfl, hp, trivial⟩, hS.F ht⟩) hS.2.2 hd) _ _ _ _ hP trivial hS hl hw
end
def wp_ChainP_leftWith (post : Int32 → Prop) (v_cs : Int32) (f_cw : Nat → Int32) (f_cl : Nat → Int32) (f_cp : Nat → Int32) (f_ce : Nat → Int32)  (x1 : Int32) (x2 : Int32) (x3 : Int32) : Prop := (vp_in x1 40 ∧ ((vp_in ((x1 * 41) + x2) 1640 ∧ (post (((f_cl x1.toNatClampNeg) + (f_cp ((x1 * 41) + x2).toNatClampNeg)) - x3)))))
section
variable {p : Program} {l : Launch} {e : Env} {s : State} {m : MethodId} {args : Array Value} {below : List Frame} {meth : Method} {c : Code} {Q : State → Prop} {A : Nat → Prop} {D : va_G} {cT : Nat → ClassId}
set_option maxHeartbeats 4000000 in
set_option maxRecDepth 100000 in
theorem tw_ChainP_leftWith {post : Int32 → Prop} {h_c h_cw h_cl h_cp h_ce : Nat} {v_cs : Int32} {f_cw : Nat → Int32} {f_cl : Nat → Int32} {f_cp : Nat → Int32} {f_ce : Nat → Int32}  (C0 : cx RX0 cX0_leftWith 4 D cT p s m c args) (hA : ∀ q, s.heap.size ≤ q → A q) (hret : ∀ (r : Int32)  (H : Heap) (locs : List Loc) (pc : Nat) (ls : Array Slot), post r → va_P D vwCl [(h_c, .inr (0, [.ref h_cw, .ref h_cl, .ref h_cp, .ref h_ce, .int v_cs])), (h_cw, .inl (cT 0, 40, .inl f_cw)), (h_cl, .inl (cT 0, 40, .inl f_cl)), (h_cp, .inl (cT 0, 1640, .inl f_cp)), (h_ce, .inl (cT 2, 40, .inl f_ce))] H → True → va_S A s.heap H locs → decode cX0_leftWith pc = .ok (.ireturn, 1) → W p l e ({ frames := 0, cells := 0, slots := 0, locals := 0 } : Room) s m args below meth c H locs 0 0 Q (F0 m pc ls [.int r]))  : ∀ (x1 : Int32) (x2 : Int32) (x3 : Int32) (H : Heap) (locs : List Loc) (ls : Array Slot), va_P D vwCl [(h_c, .inr (0, [.ref h_cw, .ref h_cl, .ref h_cp, .ref h_ce, .int v_cs])), (h_cw, .inl (cT 0, 40, .inl f_cw)), (h_cl, .inl (cT 0, 40, .inl f_cl)), (h_cp, .inl (cT 0, 1640, .inl f_cp)), (h_ce, .inl (cT 2, 40, .inl f_ce))] H → True → va_S A s.heap H locs → lv_has ls 4 [(0, .ref h_c), (1, .int x1), (2, .int x2), (3, .int x3)] → wp_ChainP_leftWith post v_cs f_cw f_cl f_cp f_ce x1 x2 x3 → W p l e ({ frames := 0, cells := 0, slots := 0, locals := 0 } : Room) s m args below meth c H locs 0 0 Q (F0 m 0 ls []) := by
  obtain ⟨⟨hx, hb, hml, hown, hts⟩, hK, hN⟩ := id C0
  intro x1 x2 x3 H locs ls hP hD hS hl hw
  unfold wp_ChainP_leftWith at hw
  refine lv_aload_n hx hb dX0_leftWith_0 rfl (lv_at hl 0 rfl) ?_
  refine va_get (D := D) (ci := 0) (v := .ref h_cl) (C := RX0) (T := TX0) (N := 5) hx hb hts inX0 hown hK hP 0 rfl rfl 1 (by decide) (hts _ q_33) (fun _ h9 => h9) rfl dX0_leftWith_1 ?_
  refine lv_iload_n hx hb dX0_leftWith_4 rfl (lv_at hl 1 rfl) ?_
  obtain ⟨h_1, hw⟩ := hw
  refine va_iald hx hb hK hP 2 0 rfl rfl h_1 dX0_leftWith_5 ?_
  refine lv_aload_n hx hb dX0_leftWith_6 rfl (lv_at hl 0 rfl) ?_
  refine va_get (D := D) (ci := 0) (v := .ref h_cp) (C := RX0) (T := TX0) (N := 5) hx hb hts inX0 hown hK hP 0 rfl rfl 2 (by decide) (hts _ q_34) (fun _ h9 => h9) rfl dX0_leftWith_7 ?_
  refine lv_iload_n hx hb dX0_leftWith_10 rfl (lv_at hl 1 rfl) ?_
  refine lv_bipush (v := 41) hx hb dX0_leftWith_11 (by decide) ?_
  refine lv_imul hx hb dX0_leftWith_13 ?_
  refine lv_iload_n hx hb dX0_leftWith_14 rfl (lv_at hl 2 rfl) ?_
  refine lv_iadd hx hb dX0_leftWith_15 ?_
  obtain ⟨h_2, hw⟩ := hw
  refine va_iald hx hb hK hP 3 0 rfl rfl h_2 dX0_leftWith_16 ?_
  refine lv_iadd hx hb dX0_leftWith_17 ?_
  refine lv_iload_n hx hb dX0_leftWith_18 rfl (lv_at hl 3 rfl) ?_
  refine lv_isub hx hb dX0_leftWith_19 ?_
  exact hret _  _ _ _ _ hw hP hD hS dX0_leftWith_20
set_option maxHeartbeats 4000000 in
set_option maxRecDepth 100000 in
theorem cp_ChainP_leftWith (l : Launch) (D : va_G) (cT : Nat → ClassId) (h_c h_cw h_cl h_cp h_ce : Nat) (sz : Nat) (v_cs : Int32) (f_cw : Nat → Int32) (f_cl : Nat → Int32) (f_cp : Nat → Int32) (f_ce : Nat → Int32) (x1 : Int32) (x2 : Int32) (x3 : Int32) (post : Int32 → Prop) (hw : wp_ChainP_leftWith post v_cs f_cw f_cl f_cp f_ce x1 x2 x3) : Met l yX0_leftWith wX0_leftWith ({ frames := 0, cells := 0, slots := 0, locals := 0 } : Room) (va_Pc [.ref h_c, .int x1, .int x2, .int x3] (prp_ D cT [(h_c, .inr (0, [.ref h_cw, .ref h_cl, .ref h_cp, .ref h_ce, .int v_cs])), (h_cw, .inl (cT 0, 40, .inl f_cw)), (h_cl, .inl (cT 0, 40, .inl f_cl)), (h_cp, .inl (cT 0, 1640, .inl f_cp)), (h_ce, .inl (cT 2, 40, .inl f_ce))] sz)) (va_Qi (fun (r : Int32) (_ : Unit) => post r) (fun _ _ => True) (fun q => sz ≤ q)) 0 0 (fun q => sz ≤ q) := by
  refine Met.ofW (cc := cX0_leftWith) (maxL := 4) (ret := (some .int)) (by decide) rfl ?_
  intro p e s m args below meth c s₁ B hml hv
  obtain ⟨rfl, hsz, hP, hK, hN⟩ := hv
  have hx := B.exec
  have hb := B.bytes
  have hr := B.returns
  have hts : ∀ w ∈ WG, w.before _ s = true := fun w h => atoms_spec (ws := wX0_leftWith) B.pre w (List.mem_cons_of_mem _ h)
  have hown : s.vm.findClass RX0 = some m.cls := findClass_of_methodNamed B.named
  have hlocks := B.notSynchronized
  subst hsz
  have hA : ∀ q : Nat, s.heap.size ≤ q → (fun q => s.heap.size ≤ q) q := fun q h => h
  have hS : va_S (fun q => s.heap.size ≤ q) s.heap s.heap [] := va_S.rf
  have hl := lv_entry ([.ref h_c, .int x1, .int x2, .int x3]) (n := 4) (Nat.le_of_ble_eq_true rfl)
  rw [lg_entry_eq]
  generalize (lg_sl ([.ref h_c, .int x1, .int x2, .int x3]) ++ List.replicate (4 - (lg_sl ([.ref h_c, .int x1, .int x2, .int x3])).length) Slot.unset).toArray = ls at hl ⊢
  exact tw_ChainP_leftWith (Q := MQ below _ _ s 0 0 (fun q => s.heap.size ≤ q)) ⟨⟨hx, hb, hml, hown, hts⟩, hK, hN⟩ hA (fun r H locs pc ls hp hP _ hS hd => W.iret (v := r) hx hb hr (fun t ht hW => ⟨⟨r, (), rfl, hp, trivial⟩, hS.F ht⟩) hS.2.2 hd) _ _ _ _ _ _ hP trivial hS hl hw
end
