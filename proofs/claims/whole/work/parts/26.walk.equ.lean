def wp_Equations_pivotRow_2 (post : Int32 → Prop) (v_es : Int32) (v_ed : Int64) (v_rp : Int64) (f_ec : Nat → Int32) (f_ea : Nat → Int64)  : Nat → Int32 → Int32 → Prop
  | 0 => fun _ _ => False
  | n + 1 => fun x1 x2 => ((v_es ≤ x2 → (post (-1))) ∧ (¬ v_es ≤ x2 → ((vp_in ((x2 * 41) + x1) 1640 ∧ ((((f_ec ((x2 * 41) + x1).toNatClampNeg) = 0 → (∀ x2_4 : Int32, x2_4 = x2 + 1 → wp_Equations_pivotRow_2 post v_es v_ed v_rp f_ec f_ea n x1 x2_4)) ∧ (¬ (f_ec ((x2 * 41) + x1).toNatClampNeg) = 0 → (post x2))))))))
def wp_Equations_pivotRow (post : Int32 → Prop) (v_es : Int32) (v_ed : Int64) (v_rp : Int64) (f_ec : Nat → Int32) (f_ea : Nat → Int64)  (x1 : Int32) : Prop := ∃ k9, wp_Equations_pivotRow_2 post v_es v_ed v_rp f_ec f_ea k9 x1 x1
section
variable {p : Program} {l : Launch} {e : Env} {s : State} {m : MethodId} {args : Array Value} {below : List Frame} {meth : Method} {c : Code} {Q : State → Prop} {A : Nat → Prop} {D : va_G} {cT : Nat → ClassId}
set_option maxHeartbeats 4000000 in
set_option maxRecDepth 100000 in
theorem tw_Equations_pivotRow_2 {post : Int32 → Prop} {h_e h_r h_ec h_ea : Nat} {v_es : Int32} {v_ed : Int64} {v_rp : Int64} {f_ec : Nat → Int32} {f_ea : Nat → Int64}  (C0 : cx RX1 cX1_pivotRow 3 D cT p s m c args) (hA : ∀ q, s.heap.size ≤ q → A q) (hret : ∀ (r : Int32)  (H : Heap) (locs : List Loc) (pc : Nat) (ls : Array Slot), post r → va_P D vwCl [(h_e, .inr (1, [.ref h_r, .ref h_ec, .ref h_ea, .int v_es, .long v_ed])), (h_r, .inr (6, [.long v_rp])), (h_ec, .inl (cT 0, 1640, .inl f_ec)), (h_ea, .inl (cT 1, 40, .inr (.inl f_ea)))] H → va_D A [(h_e, .inr (1, [.ref h_r, .ref h_ec, .ref h_ea, .int v_es, .long v_ed])), (h_r, .inr (6, [.long v_rp])), (h_ec, .inl (cT 0, 1640, .inl f_ec)), (h_ea, .inl (cT 1, 40, .inr (.inl f_ea)))] → va_S A s.heap H locs → decode cX1_pivotRow pc = .ok (.ireturn, 1) → W p l e ({ frames := 0, cells := 0, slots := 0, locals := 0 } : Room) s m args below meth c H locs 0 0 Q (F0 m pc ls [.int r]))  : ∀ (n : Nat) (x1 : Int32) (x2 : Int32) (H : Heap) (locs : List Loc) (ls : Array Slot), va_P D vwCl [(h_e, .inr (1, [.ref h_r, .ref h_ec, .ref h_ea, .int v_es, .long v_ed])), (h_r, .inr (6, [.long v_rp])), (h_ec, .inl (cT 0, 1640, .inl f_ec)), (h_ea, .inl (cT 1, 40, .inr (.inl f_ea)))] H → va_D A [(h_e, .inr (1, [.ref h_r, .ref h_ec, .ref h_ea, .int v_es, .long v_ed])), (h_r, .inr (6, [.long v_rp])), (h_ec, .inl (cT 0, 1640, .inl f_ec)), (h_ea, .inl (cT 1, 40, .inr (.inl f_ea)))] → va_S A s.heap H locs → lv_has ls 3 [(0, .ref h_e), (1, .int x1), (2, .int x2)] → wp_Equations_pivotRow_2 post v_es v_ed v_rp f_ec f_ea n x1 x2 → W p l e ({ frames := 0, cells := 0, slots := 0, locals := 0 } : Room) s m args below meth c H locs 0 0 Q (F0 m 2 ls []) := by
  obtain ⟨⟨hx, hb, hml, hown, hts⟩, hK, hN⟩ := id C0
  intro n
  induction n with
  | zero => intro x1 x2 H locs ls hP hD hS hl hw; exact hw.elim
  | succ n ih =>
    intro x1 x2 H locs ls hP hD hS hl hw
    unfold wp_Equations_pivotRow_2 at hw
    refine lv_iload_n hx hb dX1_pivotRow_2 rfl (lv_at hl 2 rfl) ?_
    refine lv_aload_n hx hb dX1_pivotRow_3 rfl (lv_at hl 0 rfl) ?_
    refine va_get (D := D) (ci := 1) (v := .int v_es) (C := RX1) (T := TX1) (N := 5) hx hb hts inX1 hown hK hP 0 rfl rfl 3 (by decide) (hts _ q_83) (fun _ h9 => h9) rfl dX1_pivotRow_4 ?_
    refine lv_icmp_ge (tgt := 32) hx hb dX1_pivotRow_7 (by decide) (fun c_1 => ?_) (fun c_1 => ?_)
    · have hw := hw.1 c_1
      refine lv_iconst (v := (-1)) hx hb dX1_pivotRow_32 (by decide) ?_
      exact hret _  _ _ _ _ hw hP hD hS dX1_pivotRow_33
    · have hw := hw.2 c_1
      refine lv_aload_n hx hb dX1_pivotRow_10 rfl (lv_at hl 0 rfl) ?_
      refine va_get (D := D) (ci := 1) (v := .ref h_ec) (C := RX1) (T := TX1) (N := 5) hx hb hts inX1 hown hK hP 0 rfl rfl 1 (by decide) (hts _ q_80) (fun _ h9 => h9) rfl dX1_pivotRow_11 ?_
      refine lv_iload_n hx hb dX1_pivotRow_14 rfl (lv_at hl 2 rfl) ?_
      refine lv_bipush (v := 41) hx hb dX1_pivotRow_15 (by decide) ?_
      refine lv_imul hx hb dX1_pivotRow_17 ?_
      refine lv_iload_n hx hb dX1_pivotRow_18 rfl (lv_at hl 1 rfl) ?_
      refine lv_iadd hx hb dX1_pivotRow_19 ?_
      obtain ⟨h_2, hw⟩ := hw
      refine va_iald hx hb hK hP 2 0 rfl rfl h_2 dX1_pivotRow_20 ?_
      refine lv_if_eq (tgt := 26) hx hb dX1_pivotRow_21 (by decide) (fun c_3 => ?_) (fun c_3 => ?_)
      · have hw := hw.1 c_3
        obtain ⟨x2_4, ex2_4⟩ : ∃ y : Int32, y = x2 + 1 := ⟨_, rfl⟩
        refine lv_iinc (v := x2_4) (lv' := [(2, .int x2_4), (0, .ref h_e), (1, .int x1)]) hx hb dX1_pivotRow_26 hl (k := 2) rfl (by rw [ex2_4]; rfl) (by decide) rfl (fun ls hl => ?_)
        have hw := hw x2_4 ex2_4
        refine lv_goto (tgt := 2) hx hb dX1_pivotRow_29 (by decide) ?_
        exact ih _ _ _ _ _ hP hD hS (lv_sub hl [1, 2, 0] rfl) hw
      · have hw := hw.2 c_3
        refine lv_iload_n hx hb dX1_pivotRow_24 rfl (lv_at hl 2 rfl) ?_
        exact hret _  _ _ _ _ hw hP hD hS dX1_pivotRow_25
set_option maxHeartbeats 4000000 in
set_option maxRecDepth 100000 in
theorem tw_Equations_pivotRow {post : Int32 → Prop} {h_e h_r h_ec h_ea : Nat} {v_es : Int32} {v_ed : Int64} {v_rp : Int64} {f_ec : Nat → Int32} {f_ea : Nat → Int64}  (C0 : cx RX1 cX1_pivotRow 3 D cT p s m c args) (hA : ∀ q, s.heap.size ≤ q → A q) (hret : ∀ (r : Int32)  (H : Heap) (locs : List Loc) (pc : Nat) (ls : Array Slot), post r → va_P D vwCl [(h_e, .inr (1, [.ref h_r, .ref h_ec, .ref h_ea, .int v_es, .long v_ed])), (h_r, .inr (6, [.long v_rp])), (h_ec, .inl (cT 0, 1640, .inl f_ec)), (h_ea, .inl (cT 1, 40, .inr (.inl f_ea)))] H → va_D A [(h_e, .inr (1, [.ref h_r, .ref h_ec, .ref h_ea, .int v_es, .long v_ed])), (h_r, .inr (6, [.long v_rp])), (h_ec, .inl (cT 0, 1640, .inl f_ec)), (h_ea, .inl (cT 1, 40, .inr (.inl f_ea)))] → va_S A s.heap H locs → decode cX1_pivotRow pc = .ok (.ireturn, 1) → W p l e ({ frames := 0, cells := 0, slots := 0, locals := 0 } : Room) s m args below meth c H locs 0 0 Q (F0 m pc ls [.int r]))  : ∀ (x1 : Int32) (H : Heap) (locs : List Loc) (ls : Array Slot), va_P D vwCl [(h_e, .inr (1, [.ref h_r, .ref h_ec, .ref h_ea, .int v_es, .long v_ed])), (h_r, .inr (6, [.long v_rp])), (h_ec, .inl (cT 0, 1640, .inl f_ec)), (h_ea, .inl (cT 1, 40, .inr (.inl f_ea)))] H → va_D A [(h_e, .inr (1, [.ref h_r, .ref h_ec, .ref h_ea, .int v_es, .long v_ed])), (h_r, .inr (6, [.long v_rp])), (h_ec, .inl (cT 0, 1640, .inl f_ec)), (h_ea, .inl (cT 1, 40, .inr (.inl f_ea)))] → va_S A s.heap H locs → lv_has ls 3 [(0, .ref h_e), (1, .int x1)] → wp_Equations_pivotRow post v_es v_ed v_rp f_ec f_ea x1 → W p l e ({ frames := 0, cells := 0, slots := 0, locals := 0 } : Room) s m args below meth c H locs 0 0 Q (F0 m 0 ls []) := by
  obtain ⟨⟨hx, hb, hml, hown, hts⟩, hK, hN⟩ := id C0
  intro x1 H locs ls hP hD hS hl hw
  unfold wp_Equations_pivotRow at hw
  refine lv_iload_n hx hb dX1_pivotRow_0 rfl (lv_at hl 1 rfl) ?_
  refine lv_istore_n (lv' := [(2, .int x1), (0, .ref h_e), (1, .int x1)]) hx hb dX1_pivotRow_1 rfl hl (by decide) rfl (fun ls hl => ?_)
  obtain ⟨n9, hw⟩ := hw
  exact tw_Equations_pivotRow_2 C0 hA hret  n9 _ _ _ _ _ hP hD hS (lv_sub hl [1, 2, 0] rfl) hw
set_option maxHeartbeats 4000000 in
set_option maxRecDepth 100000 in
theorem cn_Equations_pivotRow (l : Launch) (D : va_G) (cT : Nat → ClassId) (h_e h_r h_ec h_ea : Nat) (sz : Nat) (v_es : Int32) (v_ed : Int64) (v_rp : Int64) (f_ec : Nat → Int32) (f_ea : Nat → Int64) (x1 : Int32) (post : Int32 → Prop) (hw : wp_Equations_pivotRow post v_es v_ed v_rp f_ec f_ea x1) : Met l yX1_pivotRow wX1_pivotRow ({ frames := 0, cells := 0, slots := 0, locals := 0 } : Room) (va_Pc [.ref h_e, .int x1] (pre_ D cT [(h_e, .inr (1, [.ref h_r, .ref h_ec, .ref h_ea, .int v_es, .long v_ed])), (h_r, .inr (6, [.long v_rp])), (h_ec, .inl (cT 0, 1640, .inl f_ec)), (h_ea, .inl (cT 1, 40, .inr (.inl f_ea)))] sz)) (va_Qi (fun (r : Int32) (u : Unit) => post r) (fun u t => va_P D vwCl [(h_e, .inr (1, [.ref h_r, .ref h_ec, .ref h_ea, .int v_es, .long v_ed])), (h_r, .inr (6, [.long v_rp])), (h_ec, .inl (cT 0, 1640, .inl f_ec)), (h_ea, .inl (cT 1, 40, .inr (.inl f_ea)))] t.heap ∧ va_D (va_A [(h_e, .inr (1, [.ref h_r, .ref h_ec, .ref h_ea, .int v_es, .long v_ed])), (h_r, .inr (6, [.long v_rp])), (h_ec, .inl (cT 0, 1640, .inl f_ec)), (h_ea, .inl (cT 1, 40, .inr (.inl f_ea)))] sz) [(h_e, .inr (1, [.ref h_r, .ref h_ec, .ref h_ea, .int v_es, .long v_ed])), (h_r, .inr (6, [.long v_rp])), (h_ec, .inl (cT 0, 1640, .inl f_ec)), (h_ea, .inl (cT 1, 40, .inr (.inl f_ea)))]) (va_A [(h_e, .inr (1, [.ref h_r, .ref h_ec, .ref h_ea, .int v_es, .long v_ed])), (h_r, .inr (6, [.long v_rp])), (h_ec, .inl (cT 0, 1640, .inl f_ec)), (h_ea, .inl (cT 1, 40, .inr (.inl f_ea)))] sz)) 0 0 (va_A [(h_e, .inr (1, [.ref h_r, .ref h_ec, .ref h_ea, .int v_es, .long v_ed])), (h_r, .inr (6, [.long v_rp])), (h_ec, .inl (cT 0, 1640, .inl f_ec)), (h_ea, .inl (cT 1, 40, .inr (.inl f_ea)))] sz) := by
  refine Met.ofW (cc := cX1_pivotRow) (maxL := 3) (ret := (some .int)) (by decide) rfl ?_
  intro p e s m args below meth c s₁ B hml hv
  obtain ⟨rfl, hsz, hP, hK, hD0, hN⟩ := hv
  have hx := B.exec
  have hb := B.bytes
  have hr := B.returns
  have hts : ∀ w ∈ WG, w.before _ s = true := fun w h => atoms_spec (ws := wX1_pivotRow) B.pre w (List.mem_cons_of_mem _ h)
  have hown : s.vm.findClass RX1 = some m.cls := findClass_of_methodNamed B.named
  have hlocks := B.notSynchronized
  subst hsz
  have hD := hD0.self (sz := s.heap.size)
  generalize hAe : va_A [(h_e, .inr (1, [.ref h_r, .ref h_ec, .ref h_ea, .int v_es, .long v_ed])), (h_r, .inr (6, [.long v_rp])), (h_ec, .inl (cT 0, 1640, .inl f_ec)), (h_ea, .inl (cT 1, 40, .inr (.inl f_ea)))] s.heap.size = A at hD ⊢
  have hA : ∀ q : Nat, s.heap.size ≤ q → A q := fun q h => by rw [← hAe]; exact Or.inr h
  have hS : va_S A s.heap s.heap [] := va_S.rf
  have hl := lv_entry ([.ref h_e, .int x1]) (n := 3) (Nat.le_of_ble_eq_true rfl)
  rw [lg_entry_eq]
  generalize (lg_sl ([.ref h_e, .int x1]) ++ List.replicate (3 - (lg_sl ([.ref h_e, .int x1])).length) Slot.unset).toArray = ls at hl ⊢
  refine tw_Equations_pivotRow (Q := MQ below _ _ s 0 0 A) ⟨⟨hx, hb, hml, hown, hts⟩, hK, hN⟩ hA (fun r  H locs pc ls hp hP hD hS hd => W.iret (v := r) hx hb hr (fun t ht hW => ⟨⟨r, (), rfl, hp, by rw [ht]; exact hP, hD⟩, hS.F ht⟩) hS.2.2 hd) _ _ _ _ hP hD hS hl hw
end
def wp_Equations_swapRows_2 (post : (Nat → Int32) → Prop) (v_es : Int32) (v_ed : Int64) (v_rp : Int64) (f_ea : Nat → Int64)  : Nat → Int32 → Int32 → Int32 → (Nat → Int32) → Prop
  | 0 => fun _ _ _ _ => False
  | n + 1 => fun x1 x2 x3 f_ec => ((v_es < x3 → (post f_ec)) ∧ (¬ v_es < x3 → ((vp_in ((x1 * 41) + x3) 1640 ∧ (∀ x4_3 : Int32, x4_3 = f_ec ((x1 * 41) + x3).toNatClampNeg → (vp_in ((x2 * 41) + x3) 1640 ∧ ((vp_in ((x1 * 41) + x3) 1640 ∧ ((vp_in ((x2 * 41) + x3) 1640 ∧ (∀ x3_7 : Int32, x3_7 = x3 + 1 → wp_Equations_swapRows_2 post v_es v_ed v_rp f_ea n x1 x2 x3_7 (upd (upd f_ec ((x1 * 41) + x3).toNatClampNeg (f_ec ((x2 * 41) + x3).toNatClampNeg)) ((x2 * 41) + x3).toNatClampNeg x4_3))))))))))))
def wp_Equations_swapRows (post : (Nat → Int32) → Prop) (v_es : Int32) (v_ed : Int64) (v_rp : Int64) (f_ea : Nat → Int64)  (x1 : Int32) (x2 : Int32) (f_ec : Nat → Int32) : Prop := ∃ k9, wp_Equations_swapRows_2 post v_es v_ed v_rp f_ea k9 x1 x2 0 f_ec
section
variable {p : Program} {l : Launch} {e : Env} {s : State} {m : MethodId} {args : Array Value} {below : List Frame} {meth : Method} {c : Code} {Q : State → Prop} {A : Nat → Prop} {D : va_G} {cT : Nat → ClassId}
set_option maxHeartbeats 4000000 in
set_option maxRecDepth 100000 in
theorem tw_Equations_swapRows_2 {post : (Nat → Int32) → Prop} {h_e h_r h_ec h_ea : Nat} {v_es : Int32} {v_ed : Int64} {v_rp : Int64} {f_ea : Nat → Int64}  (C0 : cx RX1 cX1_swapRows 5 D cT p s m c args) (hA : ∀ q, s.heap.size ≤ q → A q) (hret : ∀ (f_ec : Nat → Int32) (H : Heap) (locs : List Loc) (pc : Nat) (ls : Array Slot), post f_ec → va_P D vwCl [(h_e, .inr (1, [.ref h_r, .ref h_ec, .ref h_ea, .int v_es, .long v_ed])), (h_r, .inr (6, [.long v_rp])), (h_ec, .inl (cT 0, 1640, .inl f_ec)), (h_ea, .inl (cT 1, 40, .inr (.inl f_ea)))] H → va_D A [(h_e, .inr (1, [.ref h_r, .ref h_ec, .ref h_ea, .int v_es, .long v_ed])), (h_r, .inr (6, [.long v_rp])), (h_ec, .inl (cT 0, 1640, .inl f_ec)), (h_ea, .inl (cT 1, 40, .inr (.inl f_ea)))] → va_S A s.heap H locs → decode cX1_swapRows pc = .ok (.return_, 1) → W p l e ({ frames := 0, cells := 0, slots := 0, locals := 0 } : Room) s m args below meth c H locs 0 0 Q (F0 m pc ls []))  : ∀ (n : Nat) (x1 : Int32) (x2 : Int32) (x3 : Int32) (f_ec : Nat → Int32) (H : Heap) (locs : List Loc) (ls : Array Slot), va_P D vwCl [(h_e, .inr (1, [.ref h_r, .ref h_ec, .ref h_ea, .int v_es, .long v_ed])), (h_r, .inr (6, [.long v_rp])), (h_ec, .inl (cT 0, 1640, .inl f_ec)), (h_ea, .inl (cT 1, 40, .inr (.inl f_ea)))] H → va_D A [(h_e, .inr (1, [.ref h_r, .ref h_ec, .ref h_ea, .int v_es, .long v_ed])), (h_r, .inr (6, [.long v_rp])), (h_ec, .inl (cT 0, 1640, .inl f_ec)), (h_ea, .inl (cT 1, 40, .inr (.inl f_ea)))] → va_S A s.heap H locs → lv_has ls 5 [(0, .ref h_e), (1, .int x1), (2, .int x2), (3, .int x3)] → wp_Equations_swapRows_2 post v_es v_ed v_rp f_ea n x1 x2 x3 f_ec → W p l e ({ frames := 0, cells := 0, slots := 0, locals := 0 } : Room) s m args below meth c H locs 0 0 Q (F0 m 2 ls []) := by
  obtain ⟨⟨hx, hb, hml, hown, hts⟩, hK, hN⟩ := id C0
  intro n
  induction n with
  | zero => intro x1 x2 x3 f_ec H locs ls hP hD hS hl hw; exact hw.elim
  | succ n ih =>
    intro x1 x2 x3 f_ec H locs ls hP hD hS hl hw
    unfold wp_Equations_swapRows_2 at hw
    refine lv_iload_n hx hb dX1_swapRows_2 rfl (lv_at hl 3 rfl) ?_
    refine lv_aload_n hx hb dX1_swapRows_3 rfl (lv_at hl 0 rfl) ?_
    refine va_get (D := D) (ci := 1) (v := .int v_es) (C := RX1) (T := TX1) (N := 5) hx hb hts inX1 hown hK hP 0 rfl rfl 3 (by decide) (hts _ q_83) (fun _ h9 => h9) rfl dX1_swapRows_4 ?_
    refine lv_icmp_gt (tgt := 64) hx hb dX1_swapRows_7 (by decide) (fun c_1 => ?_) (fun c_1 => ?_)
    · have hw := hw.1 c_1
      exact hret _ _ _ _ _ hw hP hD hS dX1_swapRows_64
    · have hw := hw.2 c_1
      refine lv_aload_n hx hb dX1_swapRows_10 rfl (lv_at hl 0 rfl) ?_
      refine va_get (D := D) (ci := 1) (v := .ref h_ec) (C := RX1) (T := TX1) (N := 5) hx hb hts inX1 hown hK hP 0 rfl rfl 1 (by decide) (hts _ q_80) (fun _ h9 => h9) rfl dX1_swapRows_11 ?_
      refine lv_iload_n hx hb dX1_swapRows_14 rfl (lv_at hl 1 rfl) ?_
      refine lv_bipush (v := 41) hx hb dX1_swapRows_15 (by decide) ?_
      refine lv_imul hx hb dX1_swapRows_17 ?_
      refine lv_iload_n hx hb dX1_swapRows_18 rfl (lv_at hl 3 rfl) ?_
      refine lv_iadd hx hb dX1_swapRows_19 ?_
      obtain ⟨h_2, hw⟩ := hw
      refine va_iald hx hb hK hP 2 0 rfl rfl h_2 dX1_swapRows_20 ?_
      refine lv_topi (fun x4_3 ex4_3 => ?_)
      have hw := hw x4_3 ex4_3
      refine lv_istore (lv' := [(4, .int x4_3), (0, .ref h_e), (1, .int x1), (2, .int x2), (3, .int x3)]) hx hb dX1_swapRows_21 hl (by decide) rfl (fun ls hl => ?_)
      refine lv_aload_n hx hb dX1_swapRows_23 rfl (lv_at hl 1 rfl) ?_
      refine va_get (D := D) (ci := 1) (v := .ref h_ec) (C := RX1) (T := TX1) (N := 5) hx hb hts inX1 hown hK hP 0 rfl rfl 1 (by decide) (hts _ q_80) (fun _ h9 => h9) rfl dX1_swapRows_24 ?_
      refine lv_iload_n hx hb dX1_swapRows_27 rfl (lv_at hl 2 rfl) ?_
      refine lv_bipush (v := 41) hx hb dX1_swapRows_28 (by decide) ?_
      refine lv_imul hx hb dX1_swapRows_30 ?_
      refine lv_iload_n hx hb dX1_swapRows_31 rfl (lv_at hl 4 rfl) ?_
      refine lv_iadd hx hb dX1_swapRows_32 ?_
      refine lv_aload_n hx hb dX1_swapRows_33 rfl (lv_at hl 1 rfl) ?_
      refine va_get (D := D) (ci := 1) (v := .ref h_ec) (C := RX1) (T := TX1) (N := 5) hx hb hts inX1 hown hK hP 0 rfl rfl 1 (by decide) (hts _ q_80) (fun _ h9 => h9) rfl dX1_swapRows_34 ?_
      refine lv_iload_n hx hb dX1_swapRows_37 rfl (lv_at hl 3 rfl) ?_
      refine lv_bipush (v := 41) hx hb dX1_swapRows_38 (by decide) ?_
      refine lv_imul hx hb dX1_swapRows_40 ?_
      refine lv_iload_n hx hb dX1_swapRows_41 rfl (lv_at hl 4 rfl) ?_
      refine lv_iadd hx hb dX1_swapRows_42 ?_
      obtain ⟨h_4, hw⟩ := hw
      refine va_iald hx hb hK hP 2 0 rfl rfl h_4 dX1_swapRows_43 ?_
      obtain ⟨h_5, hw⟩ := hw
      refine va_iast hx hb hK hP hD hS 2 0 rfl rfl h_5 dX1_swapRows_44 (fun H locs hP hD hS => ?_)
      have hP : va_P D vwCl [(h_e, .inr (1, [.ref h_r, .ref h_ec, .ref h_ea, .int v_es, .long v_ed])), (h_r, .inr (6, [.long v_rp])), (h_ec, .inl (cT 0, 1640, .inl (upd f_ec ((x1 * 41) + x3).toNatClampNeg (f_ec ((x2 * 41) + x3).toNatClampNeg)))), (h_ea, .inl (cT 1, 40, .inr (.inl f_ea)))] H := hP
      have hD : va_D A [(h_e, .inr (1, [.ref h_r, .ref h_ec, .ref h_ea, .int v_es, .long v_ed])), (h_r, .inr (6, [.long v_rp])), (h_ec, .inl (cT 0, 1640, .inl (upd f_ec ((x1 * 41) + x3).toNatClampNeg (f_ec ((x2 * 41) + x3).toNatClampNeg)))), (h_ea, .inl (cT 1, 40, .inr (.inl f_ea)))] := hD
      refine lv_aload_n hx hb dX1_swapRows_45 rfl (lv_at hl 1 rfl) ?_
      refine va_get (D := D) (ci := 1) (v := .ref h_ec) (C := RX1) (T := TX1) (N := 5) hx hb hts inX1 hown hK hP 0 rfl rfl 1 (by decide) (hts _ q_80) (fun _ h9 => h9) rfl dX1_swapRows_46 ?_
      refine lv_iload_n hx hb dX1_swapRows_49 rfl (lv_at hl 3 rfl) ?_
      refine lv_bipush (v := 41) hx hb dX1_swapRows_50 (by decide) ?_
      refine lv_imul hx hb dX1_swapRows_52 ?_
      refine lv_iload_n hx hb dX1_swapRows_53 rfl (lv_at hl 4 rfl) ?_
      refine lv_iadd hx hb dX1_swapRows_54 ?_
      refine lv_iload hx hb dX1_swapRows_55 (lv_at hl 0 rfl) ?_
      obtain ⟨h_6, hw⟩ := hw
      refine va_iast hx hb hK hP hD hS 2 0 rfl rfl h_6 dX1_swapRows_57 (fun H locs hP hD hS => ?_)
      have hP : va_P D vwCl [(h_e, .inr (1, [.ref h_r, .ref h_ec, .ref h_ea, .int v_es, .long v_ed])), (h_r, .inr (6, [.long v_rp])), (h_ec, .inl (cT 0, 1640, .inl (upd (upd f_ec ((x1 * 41) + x3).toNatClampNeg (f_ec ((x2 * 41) + x3).toNatClampNeg)) ((x2 * 41) + x3).toNatClampNeg x4_3))), (h_ea, .inl (cT 1, 40, .inr (.inl f_ea)))] H := hP
      have hD : va_D A [(h_e, .inr (1, [.ref h_r, .ref h_ec, .ref h_ea, .int v_es, .long v_ed])), (h_r, .inr (6, [.long v_rp])), (h_ec, .inl (cT 0, 1640, .inl (upd (upd f_ec ((x1 * 41) + x3).toNatClampNeg (f_ec ((x2 * 41) + x3).toNatClampNeg)) ((x2 * 41) + x3).toNatClampNeg x4_3))), (h_ea, .inl (cT 1, 40, .inr (.inl f_ea)))] := hD
      obtain ⟨x3_7, ex3_7⟩ : ∃ y : Int32, y = x3 + 1 := ⟨_, rfl⟩
      refine lv_iinc (v := x3_7) (lv' := [(3, .int x3_7), (4, .int x4_3), (0, .ref h_e), (1, .int x1), (2, .int x2)]) hx hb dX1_swapRows_58 hl (k := 4) rfl (by rw [ex3_7]; rfl) (by decide) rfl (fun ls hl => ?_)
      have hw := hw x3_7 ex3_7
      refine lv_goto (tgt := 2) hx hb dX1_swapRows_61 (by decide) ?_
      exact ih _ _ _ _ _ _ _ hP hD hS (lv_sub hl [2, 3, 4, 0] rfl) hw
set_option maxHeartbeats 4000000 in
set_option maxRecDepth 100000 in
theorem tw_Equations_swapRows {post : (Nat → Int32) → Prop} {h_e h_r h_ec h_ea : Nat} {v_es : Int32} {v_ed : Int64} {v_rp : Int64} {f_ea : Nat → Int64}  (C0 : cx RX1 cX1_swapRows 5 D cT p s m c args) (hA : ∀ q, s.heap.size ≤ q → A q) (hret : ∀ (f_ec : Nat → Int32) (H : Heap) (locs : List Loc) (pc : Nat) (ls : Array Slot), post f_ec → va_P D vwCl [(h_e, .inr (1, [.ref h_r, .ref h_ec, .ref h_ea, .int v_es, .long v_ed])), (h_r, .inr (6, [.long v_rp])), (h_ec, .inl (cT 0, 1640, .inl f_ec)), (h_ea, .inl (cT 1, 40, .inr (.inl f_ea)))] H → va_D A [(h_e, .inr (1, [.ref h_r, .ref h_ec, .ref h_ea, .int v_es, .long v_ed])), (h_r, .inr (6, [.long v_rp])), (h_ec, .inl (cT 0, 1640, .inl f_ec)), (h_ea, .inl (cT 1, 40, .inr (.inl f_ea)))] → va_S A s.heap H locs → decode cX1_swapRows pc = .ok (.return_, 1) → W p l e ({ frames := 0, cells := 0, slots := 0, locals := 0 } : Room) s m args below meth c H locs 0 0 Q (F0 m pc ls []))  : ∀ (x1 : Int32) (x2 : Int32) (f_ec : Nat → Int32) (H : Heap) (locs : List Loc) (ls : Array Slot), va_P D vwCl [(h_e, .inr (1, [.ref h_r, .ref h_ec, .ref h_ea, .int v_es, .long v_ed])), (h_r, .inr (6, [.long v_rp])), (h_ec, .inl (cT 0, 1640, .inl f_ec)), (h_ea, .inl (cT 1, 40, .inr (.inl f_ea)))] H → va_D A [(h_e, .inr (1, [.ref h_r, .ref h_ec, .ref h_ea, .int v_es, .long v_ed])), (h_r, .inr (6, [.long v_rp])), (h_ec, .inl (cT 0, 1640, .inl f_ec)), (h_ea, .inl (cT 1, 40, .inr (.inl f_ea)))] → va_S A s.heap H locs → lv_has ls 5 [(0, .ref h_e), (1, .int x1), (2, .int x2)] → wp_Equations_swapRows post v_es v_ed v_rp f_ea x1 x2 f_ec → W p l e ({ frames := 0, cells := 0, slots := 0, locals := 0 } : Room) s m args below meth c H locs 0 0 Q (F0 m 0 ls []) := by
  obtain ⟨⟨hx, hb, hml, hown, hts⟩, hK, hN⟩ := id C0
  intro x1 x2 f_ec H locs ls hP hD hS hl hw
  unfold wp_Equations_swapRows at hw
  refine lv_iconst (v := 0) hx hb dX1_swapRows_0 (by decide) ?_
  refine lv_istore_n (lv' := [(3, .int 0), (0, .ref h_e), (1, .int x1), (2, .int x2)]) hx hb dX1_swapRows_1 rfl hl (by decide) rfl (fun ls hl => ?_)
  obtain ⟨n9, hw⟩ := hw
  exact tw_Equations_swapRows_2 C0 hA hret  n9 _ _ _ _ _ _ _ hP hD hS (lv_sub hl [1, 2, 3, 0] rfl) hw
set_option maxHeartbeats 4000000 in
set_option maxRecDepth 100000 in
theorem cn_Equations_swapRows (l : Launch) (D : va_G) (cT : Nat → ClassId) (h_e h_r h_ec h_ea : Nat) (sz : Nat) (v_es : Int32) (v_ed : Int64) (v_rp : Int64) (f_ec : Nat → Int32) (f_ea : Nat → Int64) (x1 : Int32) (x2 : Int32) (post : (Nat → Int32) → Prop) (hw : wp_Equations_swapRows post v_es v_ed v_rp f_ea x1 x2 f_ec) : Met l yX1_swapRows wX1_swapRows ({ frames := 0, cells := 0, slots := 0, locals := 0 } : Room) (va_Pc [.ref h_e, .int x1, .int x2] (pre_ D cT [(h_e, .inr (1, [.ref h_r, .ref h_ec, .ref h_ea, .int v_es, .long v_ed])), (h_r, .inr (6, [.long v_rp])), (h_ec, .inl (cT 0, 1640, .inl f_ec)), (h_ea, .inl (cT 1, 40, .inr (.inl f_ea)))] sz)) (va_Qv (fun (u : (Nat → Int32)) => post u) (fun u t => va_P D vwCl [(h_e, .inr (1, [.ref h_r, .ref h_ec, .ref h_ea, .int v_es, .long v_ed])), (h_r, .inr (6, [.long v_rp])), (h_ec, .inl (cT 0, 1640, .inl u)), (h_ea, .inl (cT 1, 40, .inr (.inl f_ea)))] t.heap ∧ va_D (va_A [(h_e, .inr (1, [.ref h_r, .ref h_ec, .ref h_ea, .int v_es, .long v_ed])), (h_r, .inr (6, [.long v_rp])), (h_ec, .inl (cT 0, 1640, .inl f_ec)), (h_ea, .inl (cT 1, 40, .inr (.inl f_ea)))] sz) [(h_e, .inr (1, [.ref h_r, .ref h_ec, .ref h_ea, .int v_es, .long v_ed])), (h_r, .inr (6, [.long v_rp])), (h_ec, .inl (cT 0, 1640, .inl u)), (h_ea, .inl (cT 1, 40, .inr (.inl f_ea)))]) (va_A [(h_e, .inr (1, [.ref h_r, .ref h_ec, .ref h_ea, .int v_es, .long v_ed])), (h_r, .inr (6, [.long v_rp])), (h_ec, .inl (cT 0, 1640, .inl f_ec)), (h_ea, .inl (cT 1, 40, .inr (.inl f_ea)))] sz)) 0 0 (va_A [(h_e, .inr (1, [.ref h_r, .ref h_ec, .ref h_ea, .int v_es, .long v_ed])), (h_r, .inr (6, [.long v_rp])), (h_ec, .inl (cT 0, 1640, .inl f_ec)), (h_ea, .inl (cT 1, 40, .inr (.inl f_ea)))] sz) := by
  refine Met.ofW (cc := cX1_swapRows) (maxL := 5) (ret := none) (by decide) rfl ?_
  intro p e s m args below meth c s₁ B hml hv
  obtain ⟨rfl, hsz, hP, hK, hD0, hN⟩ := hv
  have hx := B.exec
  have hb := B.bytes
  have hr := B.returns
  have hts : ∀ w ∈ WG, w.before _ s = true := fun w h => atoms_spec (ws := wX1_swapRows) B.pre w (List.mem_cons_of_mem _ h)
  have hown : s.vm.findClass RX1 = some m.cls := findClass_of_methodNamed B.named
  have hlocks := B.notSynchronized
  subst hsz
  have hD := hD0.self (sz := s.heap.size)
  generalize hAe : va_A [(h_e, .inr (1, [.ref h_r, .ref h_ec, .ref h_ea, .int v_es, .long v_ed])), (h_r, .inr (6, [.long v_rp])), (h_ec, .inl (cT 0, 1640, .inl f_ec)), (h_ea, .inl (cT 1, 40, .inr (.inl f_ea)))] s.heap.size = A at hD ⊢
  have hA : ∀ q : Nat, s.heap.size ≤ q → A q := fun q h => by rw [← hAe]; exact Or.inr h
  have hS : va_S A s.heap s.heap [] := va_S.rf
  have hl := lv_entry ([.ref h_e, .int x1, .int x2]) (n := 5) (Nat.le_of_ble_eq_true rfl)
  rw [lg_entry_eq]
  generalize (lg_sl ([.ref h_e, .int x1, .int x2]) ++ List.replicate (5 - (lg_sl ([.ref h_e, .int x1, .int x2])).length) Slot.unset).toArray = ls at hl ⊢
  refine tw_Equations_swapRows (Q := MQ below _ _ s 0 0 A) ⟨⟨hx, hb, hml, hown, hts⟩, hK, hN⟩ hA (fun f_ec H locs pc ls hp hP hD hS hd => W.vret hx hb hr (fun t ht hW => ⟨⟨(f_ec), rfl, hp, by rw [ht]; exact hP, hD⟩, hS.F ht⟩) hS.2.2 hd) _ _ _ _ _ _ hP hD hS hl hw
end
def wp_Equations_scaleRow_3 (post : (Nat → Int32) → Prop) (v_es : Int32) (v_ed : Int64) (v_rp : Int64) (f_ea : Nat → Int64)  : Nat → Int32 → Int64 → Int32 → (Nat → Int32) → Prop
  | 0 => fun _ _ _ _ => False
  | n + 1 => fun x1 x2 x4 f_ec => ((v_es < x4 → (post f_ec)) ∧ (¬ v_es < x4 → ((vp_in ((x1 * 41) + x4) 1640 ∧ (wp_Remainders_times (fun r_3 => (vp_in ((x1 * 41) + x4) 1640 ∧ (∀ x4_5 : Int32, x4_5 = x4 + 1 → wp_Equations_scaleRow_3 post v_es v_ed v_rp f_ea n x1 x2 x4_5 (upd f_ec ((x1 * 41) + x4).toNatClampNeg r_3.toInt32)))) v_rp ((f_ec ((x1 * 41) + x4).toNatClampNeg).toInt64) x2)))))
def wp_Equations_scaleRow (post : (Nat → Int32) → Prop) (v_es : Int32) (v_ed : Int64) (v_rp : Int64) (f_ea : Nat → Int64)  (x1 : Int32) (x2 : Int64) (f_ec : Nat → Int32) : Prop := ∃ k9, wp_Equations_scaleRow_3 post v_es v_ed v_rp f_ea k9 x1 x2 x1 f_ec
section
variable {p : Program} {l : Launch} {e : Env} {s : State} {m : MethodId} {args : Array Value} {below : List Frame} {meth : Method} {c : Code} {Q : State → Prop} {A : Nat → Prop} {D : va_G} {cT : Nat → ClassId}
set_option maxHeartbeats 4000000 in
set_option maxRecDepth 100000 in
theorem tw_Equations_scaleRow_3 {post : (Nat → Int32) → Prop} {h_e h_r h_ec h_ea : Nat} {v_es : Int32} {v_ed : Int64} {v_rp : Int64} {f_ea : Nat → Int64}  (C0 : cx RX1 cX1_scaleRow 5 D cT p s m c args) (hA : ∀ q, s.heap.size ≤ q → A q) (hret : ∀ (f_ec : Nat → Int32) (H : Heap) (locs : List Loc) (pc : Nat) (ls : Array Slot), post f_ec → va_P D vwCl [(h_e, .inr (1, [.ref h_r, .ref h_ec, .ref h_ea, .int v_es, .long v_ed])), (h_r, .inr (6, [.long v_rp])), (h_ec, .inl (cT 0, 1640, .inl f_ec)), (h_ea, .inl (cT 1, 40, .inr (.inl f_ea)))] H → va_D A [(h_e, .inr (1, [.ref h_r, .ref h_ec, .ref h_ea, .int v_es, .long v_ed])), (h_r, .inr (6, [.long v_rp])), (h_ec, .inl (cT 0, 1640, .inl f_ec)), (h_ea, .inl (cT 1, 40, .inr (.inl f_ea)))] → va_S A s.heap H locs → decode cX1_scaleRow pc = .ok (.return_, 1) → W p l e ({ frames := 2, cells := 0, slots := 0, locals := 50 } : Room) s m args below meth c H locs 0 0 Q (F0 m pc ls []))  : ∀ (n : Nat) (x1 : Int32) (x2 : Int64) (x4 : Int32) (f_ec : Nat → Int32) (H : Heap) (locs : List Loc) (ls : Array Slot), va_P D vwCl [(h_e, .inr (1, [.ref h_r, .ref h_ec, .ref h_ea, .int v_es, .long v_ed])), (h_r, .inr (6, [.long v_rp])), (h_ec, .inl (cT 0, 1640, .inl f_ec)), (h_ea, .inl (cT 1, 40, .inr (.inl f_ea)))] H → va_D A [(h_e, .inr (1, [.ref h_r, .ref h_ec, .ref h_ea, .int v_es, .long v_ed])), (h_r, .inr (6, [.long v_rp])), (h_ec, .inl (cT 0, 1640, .inl f_ec)), (h_ea, .inl (cT 1, 40, .inr (.inl f_ea)))] → va_S A s.heap H locs → lv_has ls 5 [(0, .ref h_e), (1, .int x1), (2, .long x2), (4, .int x4)] → wp_Equations_scaleRow_3 post v_es v_ed v_rp f_ea n x1 x2 x4 f_ec → W p l e ({ frames := 2, cells := 0, slots := 0, locals := 50 } : Room) s m args below meth c H locs 0 0 Q (F0 m 3 ls []) := by
  obtain ⟨⟨hx, hb, hml, hown, hts⟩, hK, hN⟩ := id C0
  intro n
  induction n with
  | zero => intro x1 x2 x4 f_ec H locs ls hP hD hS hl hw; exact hw.elim
  | succ n ih =>
    intro x1 x2 x4 f_ec H locs ls hP hD hS hl hw
    unfold wp_Equations_scaleRow_3 at hw
    refine lv_iload hx hb dX1_scaleRow_3 (lv_at hl 3 rfl) ?_
    refine lv_aload_n hx hb dX1_scaleRow_5 rfl (lv_at hl 0 rfl) ?_
    refine va_get (D := D) (ci := 1) (v := .int v_es) (C := RX1) (T := TX1) (N := 5) hx hb hts inX1 hown hK hP 0 rfl rfl 3 (by decide) (hts _ q_83) (fun _ h9 => h9) rfl dX1_scaleRow_6 ?_
    refine lv_icmp_gt (tgt := 52) hx hb dX1_scaleRow_9 (by decide) (fun c_1 => ?_) (fun c_1 => ?_)
    · have hw := hw.1 c_1
      exact hret _ _ _ _ _ hw hP hD hS dX1_scaleRow_52
    · have hw := hw.2 c_1
      refine lv_aload_n hx hb dX1_scaleRow_12 rfl (lv_at hl 0 rfl) ?_
      refine va_get (D := D) (ci := 1) (v := .ref h_ec) (C := RX1) (T := TX1) (N := 5) hx hb hts inX1 hown hK hP 0 rfl rfl 1 (by decide) (hts _ q_80) (fun _ h9 => h9) rfl dX1_scaleRow_13 ?_
      refine lv_iload_n hx hb dX1_scaleRow_16 rfl (lv_at hl 1 rfl) ?_
      refine lv_bipush (v := 41) hx hb dX1_scaleRow_17 (by decide) ?_
      refine lv_imul hx hb dX1_scaleRow_19 ?_
      refine lv_iload hx hb dX1_scaleRow_20 (lv_at hl 3 rfl) ?_
      refine lv_iadd hx hb dX1_scaleRow_22 ?_
      refine lv_aload_n hx hb dX1_scaleRow_23 rfl (lv_at hl 0 rfl) ?_
      refine va_get (D := D) (ci := 1) (v := .ref h_r) (C := RX1) (T := TX1) (N := 5) hx hb hts inX1 hown hK hP 0 rfl rfl 0 (by decide) (hts _ q_78) (fun _ h9 => h9) rfl dX1_scaleRow_24 ?_
      refine lv_aload_n hx hb dX1_scaleRow_27 rfl (lv_at hl 0 rfl) ?_
      refine va_get (D := D) (ci := 1) (v := .ref h_ec) (C := RX1) (T := TX1) (N := 5) hx hb hts inX1 hown hK hP 0 rfl rfl 1 (by decide) (hts _ q_80) (fun _ h9 => h9) rfl dX1_scaleRow_28 ?_
      refine lv_iload_n hx hb dX1_scaleRow_31 rfl (lv_at hl 1 rfl) ?_
      refine lv_bipush (v := 41) hx hb dX1_scaleRow_32 (by decide) ?_
      refine lv_imul hx hb dX1_scaleRow_34 ?_
      refine lv_iload hx hb dX1_scaleRow_35 (lv_at hl 3 rfl) ?_
      refine lv_iadd hx hb dX1_scaleRow_37 ?_
      obtain ⟨h_2, hw⟩ := hw
      refine va_iald hx hb hK hP 2 0 rfl rfl h_2 dX1_scaleRow_38 ?_
      refine lv_i2l hx hb dX1_scaleRow_39 rfl ?_
      refine lv_lload_n hx hb dX1_scaleRow_40 rfl (lv_at hl 2 rfl) ?_
      have hPc := hP.sub (ws' := [(h_r, .inr (6, [.long v_rp]))]) [1] rfl
      have hDc := hD.sub (ws' := [(h_r, .inr (6, [.long v_rp]))]) [1] (by decide) rfl
      have hFc := va_free (wc := [(h_r, .inr (6, [.long v_rp]))]) hD hS hA [1] rfl
      refine va_calll (va_runV (As := [.long ((f_ec ((x1 * 41) + x4).toNatClampNeg).toInt64), .long x2]) (rest := [.int ((x1 * 41) + x4), .ref h_ec]) ⟨hx, hb, hml, hown, hts⟩ (cn_Remainders_times l D cT h_r H.size v_rp ((f_ec ((x1 * 41) + x4).toNatClampNeg).toInt64) x2 _ hw) (gv_ 2 q_249 q_5 q_246 q_247 q_248 (by decide +kernel) ⟨Nat.le_of_ble_eq_true rfl, Nat.le_of_ble_eq_true rfl⟩ hts) ⟨pre_blind, va_recv hK hPc (ci := 6) (q0 := 0) rfl rfl, fun U hU hW => ⟨rfl, pre_mk hU hW hPc hK hDc hN⟩⟩ rfl rfl hl.1 rfl (lv_room (Nat.le_of_ble_eq_true rfl)) dX1_scaleRow_41 ⟨(Nat.zero_le _), (Nat.zero_le _)⟩) hS (fun q _ h => hFc q h) hFc (fun r_3 u9 t H locs ht hvm hw hB hz1 hk1 hS => ?_)
      obtain ⟨hP1, hD1⟩ := hB
      rw [ht] at hP1
      obtain ⟨hP, hD⟩ := va_join (wr := [(h_e, .inr (1, [.ref h_r, .ref h_ec, .ref h_ea, .int v_es, .long v_ed])), (h_ec, .inl (cT 0, 1640, .inl f_ec)), (h_ea, .inl (cT 1, 40, .inr (.inl f_ea)))]) (w1 := [(h_r, .inr (6, [.long v_rp]))]) hP hD [1] [0, 2, 3] rfl rfl (by decide) (by decide) hk1 hFc hP1 hD1
      have hP := hP.sub (ws' := [(h_e, .inr (1, [.ref h_r, .ref h_ec, .ref h_ea, .int v_es, .long v_ed])), (h_r, .inr (6, [.long v_rp])), (h_ec, .inl (cT 0, 1640, .inl f_ec)), (h_ea, .inl (cT 1, 40, .inr (.inl f_ea)))]) [0, 3, 1, 2] rfl
      have hD := hD.sub (ws' := [(h_e, .inr (1, [.ref h_r, .ref h_ec, .ref h_ea, .int v_es, .long v_ed])), (h_r, .inr (6, [.long v_rp])), (h_ec, .inl (cT 0, 1640, .inl f_ec)), (h_ea, .inl (cT 1, 40, .inr (.inl f_ea)))]) [0, 3, 1, 2] (by decide) rfl
      clear hP1 hD1 hPc hDc hFc hk1 hz1 hvm ht
      try dsimp only at hw
      refine lv_l2i hx hb dX1_scaleRow_44 rfl ?_
      obtain ⟨h_4, hw⟩ := hw
      refine va_iast hx hb hK hP hD hS 2 0 rfl rfl h_4 dX1_scaleRow_45 (fun H locs hP hD hS => ?_)
      have hP : va_P D vwCl [(h_e, .inr (1, [.ref h_r, .ref h_ec, .ref h_ea, .int v_es, .long v_ed])), (h_r, .inr (6, [.long v_rp])), (h_ec, .inl (cT 0, 1640, .inl (upd f_ec ((x1 * 41) + x4).toNatClampNeg r_3.toInt32))), (h_ea, .inl (cT 1, 40, .inr (.inl f_ea)))] H := hP
      have hD : va_D A [(h_e, .inr (1, [.ref h_r, .ref h_ec, .ref h_ea, .int v_es, .long v_ed])), (h_r, .inr (6, [.long v_rp])), (h_ec, .inl (cT 0, 1640, .inl (upd f_ec ((x1 * 41) + x4).toNatClampNeg r_3.toInt32))), (h_ea, .inl (cT 1, 40, .inr (.inl f_ea)))] := hD
      obtain ⟨x4_5, ex4_5⟩ : ∃ y : Int32, y = x4 + 1 := ⟨_, rfl⟩
      refine lv_iinc (v := x4_5) (lv' := [(4, .int x4_5), (0, .ref h_e), (1, .int x1), (2, .long x2)]) hx hb dX1_scaleRow_46 hl (k := 3) rfl (by rw [ex4_5]; rfl) (by decide) rfl (fun ls hl => ?_)
      have hw := hw x4_5 ex4_5
      refine lv_goto (tgt := 3) hx hb dX1_scaleRow_49 (by decide) ?_
      exact ih _ _ _ _ _ _ _ hP hD hS (lv_sub hl [1, 2, 3, 0] rfl) hw
set_option maxHeartbeats 4000000 in
set_option maxRecDepth 100000 in
theorem tw_Equations_scaleRow {post : (Nat → Int32) → Prop} {h_e h_r h_ec h_ea : Nat} {v_es : Int32} {v_ed : Int64} {v_rp : Int64} {f_ea : Nat → Int64}  (C0 : cx RX1 cX1_scaleRow 5 D cT p s m c args) (hA : ∀ q, s.heap.size ≤ q → A q) (hret : ∀ (f_ec : Nat → Int32) (H : Heap) (locs : List Loc) (pc : Nat) (ls : Array Slot), post f_ec → va_P D vwCl [(h_e, .inr (1, [.ref h_r, .ref h_ec, .ref h_ea, .int v_es, .long v_ed])), (h_r, .inr (6, [.long v_rp])), (h_ec, .inl (cT 0, 1640, .inl f_ec)), (h_ea, .inl (cT 1, 40, .inr (.inl f_ea)))] H → va_D A [(h_e, .inr (1, [.ref h_r, .ref h_ec, .ref h_ea, .int v_es, .long v_ed])), (h_r, .inr (6, [.long v_rp])), (h_ec, .inl (cT 0, 1640, .inl f_ec)), (h_ea, .inl (cT 1, 40, .inr (.inl f_ea)))] → va_S A s.heap H locs → decode cX1_scaleRow pc = .ok (.return_, 1) → W p l e ({ frames := 2, cells := 0, slots := 0, locals := 50 } : Room) s m args below meth c H locs 0 0 Q (F0 m pc ls []))  : ∀ (x1 : Int32) (x2 : Int64) (f_ec : Nat → Int32) (H : Heap) (locs : List Loc) (ls : Array Slot), va_P D vwCl [(h_e, .inr (1, [.ref h_r, .ref h_ec, .ref h_ea, .int v_es, .long v_ed])), (h_r, .inr (6, [.long v_rp])), (h_ec, .inl (cT 0, 1640, .inl f_ec)), (h_ea, .inl (cT 1, 40, .inr (.inl f_ea)))] H → va_D A [(h_e, .inr (1, [.ref h_r, .ref h_ec, .ref h_ea, .int v_es, .long v_ed])), (h_r, .inr (6, [.long v_rp])), (h_ec, .inl (cT 0, 1640, .inl f_ec)), (h_ea, .inl (cT 1, 40, .inr (.inl f_ea)))] → va_S A s.heap H locs → lv_has ls 5 [(0, .ref h_e), (1, .int x1), (2, .long x2)] → wp_Equations_scaleRow post v_es v_ed v_rp f_ea x1 x2 f_ec → W p l e ({ frames := 2, cells := 0, slots := 0, locals := 50 } : Room) s m args below meth c H locs 0 0 Q (F0 m 0 ls []) := by
  obtain ⟨⟨hx, hb, hml, hown, hts⟩, hK, hN⟩ := id C0
  intro x1 x2 f_ec H locs ls hP hD hS hl hw
  unfold wp_Equations_scaleRow at hw
  refine lv_iload_n hx hb dX1_scaleRow_0 rfl (lv_at hl 1 rfl) ?_
  refine lv_istore (lv' := [(4, .int x1), (0, .ref h_e), (1, .int x1), (2, .long x2)]) hx hb dX1_scaleRow_1 hl (by decide) rfl (fun ls hl => ?_)
  obtain ⟨n9, hw⟩ := hw
  exact tw_Equations_scaleRow_3 C0 hA hret  n9 _ _ _ _ _ _ _ hP hD hS (lv_sub hl [1, 2, 3, 0] rfl) hw
set_option maxHeartbeats 4000000 in
set_option maxRecDepth 100000 in
theorem cn_Equations_scaleRow (l : Launch) (D : va_G) (cT : Nat → ClassId) (h_e h_r h_ec h_ea : Nat) (sz : Nat) (v_es : Int32) (v_ed : Int64) (v_rp : Int64) (f_ec : Nat → Int32) (f_ea : Nat → Int64) (x1 : Int32) (x2 : Int64) (post : (Nat → Int32) → Prop) (hw : wp_Equations_scaleRow post v_es v_ed v_rp f_ea x1 x2 f_ec) : Met l yX1_scaleRow wX1_scaleRow ({ frames := 2, cells := 0, slots := 0, locals := 50 } : Room) (va_Pc [.ref h_e, .int x1, .long x2] (pre_ D cT [(h_e, .inr (1, [.ref h_r, .ref h_ec, .ref h_ea, .int v_es, .long v_ed])), (h_r, .inr (6, [.long v_rp])), (h_ec, .inl (cT 0, 1640, .inl f_ec)), (h_ea, .inl (cT 1, 40, .inr (.inl f_ea)))] sz)) (va_Qv (fun (u : (Nat → Int32)) => post u) (fun u t => va_P D vwCl [(h_e, .inr (1, [.ref h_r, .ref h_ec, .ref h_ea, .int v_es, .long v_ed])), (h_r, .inr (6, [.long v_rp])), (h_ec, .inl (cT 0, 1640, .inl u)), (h_ea, .inl (cT 1, 40, .inr (.inl f_ea)))] t.heap ∧ va_D (va_A [(h_e, .inr (1, [.ref h_r, .ref h_ec, .ref h_ea, .int v_es, .long v_ed])), (h_r, .inr (6, [.long v_rp])), (h_ec, .inl (cT 0, 1640, .inl f_ec)), (h_ea, .inl (cT 1, 40, .inr (.inl f_ea)))] sz) [(h_e, .inr (1, [.ref h_r, .ref h_ec, .ref h_ea, .int v_es, .long v_ed])), (h_r, .inr (6, [.long v_rp])), (h_ec, .inl (cT 0, 1640, .inl u)), (h_ea, .inl (cT 1, 40, .inr (.inl f_ea)))]) (va_A [(h_e, .inr (1, [.ref h_r, .ref h_ec, .ref h_ea, .int v_es, .long v_ed])), (h_r, .inr (6, [.long v_rp])), (h_ec, .inl (cT 0, 1640, .inl f_ec)), (h_ea, .inl (cT 1, 40, .inr (.inl f_ea)))] sz)) 0 0 (va_A [(h_e, .inr (1, [.ref h_r, .ref h_ec, .ref h_ea, .int v_es, .long v_ed])), (h_r, .inr (6, [.long v_rp])), (h_ec, .inl (cT 0, 1640, .inl f_ec)), (h_ea, .inl (cT 1, 40, .inr (.inl f_ea)))] sz) := by
  refine Met.ofW (cc := cX1_scaleRow) (maxL := 5) (ret := none) (by decide) rfl ?_
  intro p e s m args below meth c s₁ B hml hv
  obtain ⟨rfl, hsz, hP, hK, hD0, hN⟩ := hv
  have hx := B.exec
  have hb := B.bytes
  have hr := B.returns
  have hts : ∀ w ∈ WG, w.before _ s = true := fun w h => atoms_spec (ws := wX1_scaleRow) B.pre w (List.mem_cons_of_mem _ h)
  have hown : s.vm.findClass RX1 = some m.cls := findClass_of_methodNamed B.named
  have hlocks := B.notSynchronized
  subst hsz
  have hD := hD0.self (sz := s.heap.size)
  generalize hAe : va_A [(h_e, .inr (1, [.ref h_r, .ref h_ec, .ref h_ea, .int v_es, .long v_ed])), (h_r, .inr (6, [.long v_rp])), (h_ec, .inl (cT 0, 1640, .inl f_ec)), (h_ea, .inl (cT 1, 40, .inr (.inl f_ea)))] s.heap.size = A at hD ⊢
  have hA : ∀ q : Nat, s.heap.size ≤ q → A q := fun q h => by rw [← hAe]; exact Or.inr h
  have hS : va_S A s.heap s.heap [] := va_S.rf
  have hl := lv_entry ([.ref h_e, .int x1, .long x2]) (n := 5) (Nat.le_of_ble_eq_true rfl)
  rw [lg_entry_eq]
  generalize (lg_sl ([.ref h_e, .int x1, .long x2]) ++ List.replicate (5 - (lg_sl ([.ref h_e, .int x1, .long x2])).length) Slot.unset).toArray = ls at hl ⊢
  refine tw_Equations_scaleRow (Q := MQ below _ _ s 0 0 A) ⟨⟨hx, hb, hml, hown, hts⟩, hK, hN⟩ hA (fun f_ec H locs pc ls hp hP hD hS hd => W.vret hx hb hr (fun t ht hW => ⟨⟨(f_ec), rfl, hp, by rw [ht]; exact hP, hD⟩, hS.F ht⟩) hS.2.2 hd) _ _ _ _ _ _ hP hD hS hl hw
end
def wp_Equations_clearCell_56 (post : (Nat → Int32) → Prop) (v_es : Int32) (v_ed : Int64) (v_rp : Int64) (f_ea : Nat → Int64)  : Nat → Int64 → Int32 → Int32 → Int64 → Int32 → (Nat → Int32) → Prop
  | 0 => fun _ _ _ _ _ _ => False
  | n + 1 => fun x3 x5 x6 x7 x9 f_ec => ((v_es < x9 → (post f_ec)) ∧ (¬ v_es < x9 → ((vp_in (x5 + x9) 1640 ∧ ((vp_in (x6 + x9) 1640 ∧ ((¬ x3 = 0 ∧ ((vp_in (x5 + x9) 1640 ∧ (∀ x9_13 : Int32, x9_13 = x9 + 1 → wp_Equations_clearCell_56 post v_es v_ed v_rp f_ea n x3 x5 x6 x7 x9_13 (upd f_ec (x5 + x9).toNatClampNeg (((((f_ec (x5 + x9).toNatClampNeg).toInt64) + (x7 * ((f_ec (x6 + x9).toNatClampNeg).toInt64))) - (((f_ec (x5 + x9).toNatClampNeg).toInt64) + (x7 * ((f_ec (x6 + x9).toNatClampNeg).toInt64))) / x3 * x3).toInt32)))))))))))))
def wp_Equations_clearCell (post : (Nat → Int32) → Prop) (v_es : Int32) (v_ed : Int64) (v_rp : Int64) (f_ea : Nat → Int64)  (x1 : Int32) (x2 : Int32) (f_ec : Nat → Int32) : Prop := ((0 ≤ (lg_cmp v_rp 1) → (∀ x5_2 : Int32, x5_2 = x1 * 41 → ∀ x6_3 : Int32, x6_3 = x2 * 41 → (vp_in (x5_2 + x2) 1640 ∧ (∀ x7_5 : Int64, x7_5 = v_rp - ((f_ec (x5_2 + x2).toNatClampNeg).toInt64) → (vp_in (x5_2 + x2) 1640 ∧ (∀ x9_7 : Int32, x9_7 = x2 + 1 → ∃ k9, wp_Equations_clearCell_56 post v_es v_ed v_rp f_ea k9 v_rp x5_2 x6_3 x7_5 x9_7 (upd f_ec (x5_2 + x2).toNatClampNeg 0))))))) ∧ (¬ 0 ≤ (lg_cmp v_rp 1) → (post f_ec)))
section
variable {p : Program} {l : Launch} {e : Env} {s : State} {m : MethodId} {args : Array Value} {below : List Frame} {meth : Method} {c : Code} {Q : State → Prop} {A : Nat → Prop} {D : va_G} {cT : Nat → ClassId}
set_option maxHeartbeats 4000000 in
set_option maxRecDepth 100000 in
theorem tw_Equations_clearCell_56 {post : (Nat → Int32) → Prop} {h_e h_r h_ec h_ea : Nat} {v_es : Int32} {v_ed : Int64} {v_rp : Int64} {f_ea : Nat → Int64}  (C0 : cx RX1 cX1_clearCell 10 D cT p s m c args) (hA : ∀ q, s.heap.size ≤ q → A q) (hret : ∀ (f_ec : Nat → Int32) (H : Heap) (locs : List Loc) (pc : Nat) (ls : Array Slot), post f_ec → va_P D vwCl [(h_e, .inr (1, [.ref h_r, .ref h_ec, .ref h_ea, .int v_es, .long v_ed])), (h_r, .inr (6, [.long v_rp])), (h_ec, .inl (cT 0, 1640, .inl f_ec)), (h_ea, .inl (cT 1, 40, .inr (.inl f_ea)))] H → va_D A [(h_e, .inr (1, [.ref h_r, .ref h_ec, .ref h_ea, .int v_es, .long v_ed])), (h_r, .inr (6, [.long v_rp])), (h_ec, .inl (cT 0, 1640, .inl f_ec)), (h_ea, .inl (cT 1, 40, .inr (.inl f_ea)))] → va_S A s.heap H locs → decode cX1_clearCell pc = .ok (.return_, 1) → W p l e ({ frames := 0, cells := 0, slots := 0, locals := 0 } : Room) s m args below meth c H locs 0 0 Q (F0 m pc ls []))  : ∀ (n : Nat) (x3 : Int64) (x5 : Int32) (x6 : Int32) (x7 : Int64) (x9 : Int32) (f_ec : Nat → Int32) (H : Heap) (locs : List Loc) (ls : Array Slot), va_P D vwCl [(h_e, .inr (1, [.ref h_r, .ref h_ec, .ref h_ea, .int v_es, .long v_ed])), (h_r, .inr (6, [.long v_rp])), (h_ec, .inl (cT 0, 1640, .inl f_ec)), (h_ea, .inl (cT 1, 40, .inr (.inl f_ea)))] H → va_D A [(h_e, .inr (1, [.ref h_r, .ref h_ec, .ref h_ea, .int v_es, .long v_ed])), (h_r, .inr (6, [.long v_rp])), (h_ec, .inl (cT 0, 1640, .inl f_ec)), (h_ea, .inl (cT 1, 40, .inr (.inl f_ea)))] → va_S A s.heap H locs → lv_has ls 10 [(0, .ref h_e), (3, .long x3), (5, .int x5), (6, .int x6), (7, .long x7), (9, .int x9)] → wp_Equations_clearCell_56 post v_es v_ed v_rp f_ea n x3 x5 x6 x7 x9 f_ec → W p l e ({ frames := 0, cells := 0, slots := 0, locals := 0 } : Room) s m args below meth c H locs 0 0 Q (F0 m 56 ls []) := by
  obtain ⟨⟨hx, hb, hml, hown, hts⟩, hK, hN⟩ := id C0
  intro n
  induction n with
  | zero => intro x3 x5 x6 x7 x9 f_ec H locs ls hP hD hS hl hw; exact hw.elim
  | succ n ih =>
    intro x3 x5 x6 x7 x9 f_ec H locs ls hP hD hS hl hw
    unfold wp_Equations_clearCell_56 at hw
    refine lv_iload hx hb dX1_clearCell_56 (lv_at hl 5 rfl) ?_
    refine lv_aload_n hx hb dX1_clearCell_58 rfl (lv_at hl 0 rfl) ?_
    refine va_get (D := D) (ci := 1) (v := .int v_es) (C := RX1) (T := TX1) (N := 5) hx hb hts inX1 hown hK hP 0 rfl rfl 3 (by decide) (hts _ q_83) (fun _ h9 => h9) rfl dX1_clearCell_59 ?_
    refine lv_icmp_gt (tgt := 110) hx hb dX1_clearCell_62 (by decide) (fun c_8 => ?_) (fun c_8 => ?_)
    · have hw := hw.1 c_8
      exact hret _ _ _ _ _ hw hP hD hS dX1_clearCell_110
    · have hw := hw.2 c_8
      refine lv_aload_n hx hb dX1_clearCell_65 rfl (lv_at hl 0 rfl) ?_
      refine va_get (D := D) (ci := 1) (v := .ref h_ec) (C := RX1) (T := TX1) (N := 5) hx hb hts inX1 hown hK hP 0 rfl rfl 1 (by decide) (hts _ q_80) (fun _ h9 => h9) rfl dX1_clearCell_66 ?_
      refine lv_iload hx hb dX1_clearCell_69 (lv_at hl 2 rfl) ?_
      refine lv_iload hx hb dX1_clearCell_71 (lv_at hl 5 rfl) ?_
      refine lv_iadd hx hb dX1_clearCell_73 ?_
      refine lv_aload_n hx hb dX1_clearCell_74 rfl (lv_at hl 0 rfl) ?_
      refine va_get (D := D) (ci := 1) (v := .ref h_ec) (C := RX1) (T := TX1) (N := 5) hx hb hts inX1 hown hK hP 0 rfl rfl 1 (by decide) (hts _ q_80) (fun _ h9 => h9) rfl dX1_clearCell_75 ?_
      refine lv_iload hx hb dX1_clearCell_78 (lv_at hl 2 rfl) ?_
      refine lv_iload hx hb dX1_clearCell_80 (lv_at hl 5 rfl) ?_
      refine lv_iadd hx hb dX1_clearCell_82 ?_
      obtain ⟨h_9, hw⟩ := hw
      refine va_iald hx hb hK hP 2 0 rfl rfl h_9 dX1_clearCell_83 ?_
      refine lv_i2l hx hb dX1_clearCell_84 rfl ?_
      refine lv_lload hx hb dX1_clearCell_85 (lv_at hl 4 rfl) ?_
      refine lv_aload_n hx hb dX1_clearCell_87 rfl (lv_at hl 0 rfl) ?_
      refine va_get (D := D) (ci := 1) (v := .ref h_ec) (C := RX1) (T := TX1) (N := 5) hx hb hts inX1 hown hK hP 0 rfl rfl 1 (by decide) (hts _ q_80) (fun _ h9 => h9) rfl dX1_clearCell_88 ?_
      refine lv_iload hx hb dX1_clearCell_91 (lv_at hl 3 rfl) ?_
      refine lv_iload hx hb dX1_clearCell_93 (lv_at hl 5 rfl) ?_
      refine lv_iadd hx hb dX1_clearCell_95 ?_
      obtain ⟨h_10, hw⟩ := hw
      refine va_iald hx hb hK hP 2 0 rfl rfl h_10 dX1_clearCell_96 ?_
      refine lv_i2l hx hb dX1_clearCell_97 rfl ?_
      refine lv_lmul hx hb dX1_clearCell_98 ?_
      refine lv_ladd hx hb dX1_clearCell_99 ?_
      refine lv_lload_n hx hb dX1_clearCell_100 rfl (lv_at hl 1 rfl) ?_
      obtain ⟨h_11, hw⟩ := hw
      refine lv_lrem hx hb dX1_clearCell_101 h_11 ?_
      refine lv_l2i hx hb dX1_clearCell_102 rfl ?_
      obtain ⟨h_12, hw⟩ := hw
      refine va_iast hx hb hK hP hD hS 2 0 rfl rfl h_12 dX1_clearCell_103 (fun H locs hP hD hS => ?_)
      have hP : va_P D vwCl [(h_e, .inr (1, [.ref h_r, .ref h_ec, .ref h_ea, .int v_es, .long v_ed])), (h_r, .inr (6, [.long v_rp])), (h_ec, .inl (cT 0, 1640, .inl (upd f_ec (x5 + x9).toNatClampNeg (((((f_ec (x5 + x9).toNatClampNeg).toInt64) + (x7 * ((f_ec (x6 + x9).toNatClampNeg).toInt64))) - (((f_ec (x5 + x9).toNatClampNeg).toInt64) + (x7 * ((f_ec (x6 + x9).toNatClampNeg).toInt64))) / x3 * x3).toInt32)))), (h_ea, .inl (cT 1, 40, .inr (.inl f_ea)))] H := hP
      have hD : va_D A [(h_e, .inr (1, [.ref h_r, .ref h_ec, .ref h_ea, .int v_es, .long v_ed])), (h_r, .inr (6, [.long v_rp])), (h_ec, .inl (cT 0, 1640, .inl (upd f_ec (x5 + x9).toNatClampNeg (((((f_ec (x5 + x9).toNatClampNeg).toInt64) + (x7 * ((f_ec (x6 + x9).toNatClampNeg).toInt64))) - (((f_ec (x5 + x9).toNatClampNeg).toInt64) + (x7 * ((f_ec (x6 + x9).toNatClampNeg).toInt64))) / x3 * x3).toInt32)))), (h_ea, .inl (cT 1, 40, .inr (.inl f_ea)))] := hD
      obtain ⟨x9_13, ex9_13⟩ : ∃ y : Int32, y = x9 + 1 := ⟨_, rfl⟩
      refine lv_iinc (v := x9_13) (lv' := [(9, .int x9_13), (0, .ref h_e), (3, .long x3), (5, .int x5), (6, .int x6), (7, .long x7)]) hx hb dX1_clearCell_104 hl (k := 5) rfl (by rw [ex9_13]; rfl) (by decide) rfl (fun ls hl => ?_)
      have hw := hw x9_13 ex9_13
      refine lv_goto (tgt := 56) hx hb dX1_clearCell_107 (by decide) ?_
      exact ih _ _ _ _ _ _ _ _ _ hP hD hS (lv_sub hl [1, 2, 3, 4, 5, 0] rfl) hw
set_option maxHeartbeats 4000000 in
set_option maxRecDepth 100000 in
theorem tw_Equations_clearCell {post : (Nat → Int32) → Prop} {h_e h_r h_ec h_ea : Nat} {v_es : Int32} {v_ed : Int64} {v_rp : Int64} {f_ea : Nat → Int64}  (C0 : cx RX1 cX1_clearCell 10 D cT p s m c args) (hA : ∀ q, s.heap.size ≤ q → A q) (hret : ∀ (f_ec : Nat → Int32) (H : Heap) (locs : List Loc) (pc : Nat) (ls : Array Slot), post f_ec → va_P D vwCl [(h_e, .inr (1, [.ref h_r, .ref h_ec, .ref h_ea, .int v_es, .long v_ed])), (h_r, .inr (6, [.long v_rp])), (h_ec, .inl (cT 0, 1640, .inl f_ec)), (h_ea, .inl (cT 1, 40, .inr (.inl f_ea)))] H → va_D A [(h_e, .inr (1, [.ref h_r, .ref h_ec, .ref h_ea, .int v_es, .long v_ed])), (h_r, .inr (6, [.long v_rp])), (h_ec, .inl (cT 0, 1640, .inl f_ec)), (h_ea, .inl (cT 1, 40, .inr (.inl f_ea)))] → va_S A s.heap H locs → decode cX1_clearCell pc = .ok (.return_, 1) → W p l e ({ frames := 0, cells := 0, slots := 0, locals := 0 } : Room) s m args below meth c H locs 0 0 Q (F0 m pc ls []))  : ∀ (x1 : Int32) (x2 : Int32) (f_ec : Nat → Int32) (H : Heap) (locs : List Loc) (ls : Array Slot), va_P D vwCl [(h_e, .inr (1, [.ref h_r, .ref h_ec, .ref h_ea, .int v_es, .long v_ed])), (h_r, .inr (6, [.long v_rp])), (h_ec, .inl (cT 0, 1640, .inl f_ec)), (h_ea, .inl (cT 1, 40, .inr (.inl f_ea)))] H → va_D A [(h_e, .inr (1, [.ref h_r, .ref h_ec, .ref h_ea, .int v_es, .long v_ed])), (h_r, .inr (6, [.long v_rp])), (h_ec, .inl (cT 0, 1640, .inl f_ec)), (h_ea, .inl (cT 1, 40, .inr (.inl f_ea)))] → va_S A s.heap H locs → lv_has ls 10 [(0, .ref h_e), (1, .int x1), (2, .int x2)] → wp_Equations_clearCell post v_es v_ed v_rp f_ea x1 x2 f_ec → W p l e ({ frames := 0, cells := 0, slots := 0, locals := 0 } : Room) s m args below meth c H locs 0 0 Q (F0 m 0 ls []) := by
  obtain ⟨⟨hx, hb, hml, hown, hts⟩, hK, hN⟩ := id C0
  intro x1 x2 f_ec H locs ls hP hD hS hl hw
  unfold wp_Equations_clearCell at hw
  refine lv_aload_n hx hb dX1_clearCell_0 rfl (lv_at hl 0 rfl) ?_
  refine va_get (D := D) (ci := 1) (v := .ref h_r) (C := RX1) (T := TX1) (N := 5) hx hb hts inX1 hown hK hP 0 rfl rfl 0 (by decide) (hts _ q_78) (fun _ h9 => h9) rfl dX1_clearCell_1 ?_
  refine va_getN (D := D) (ci := 6) (v := .long v_rp) (C := RX6) (T := TX6) (N := 1) hx hb hts inX6 hown hK hP 1 rfl rfl 0 (by decide) (va_Nw.use rfl hN.2.2.2.2.2.2.1) (fun _ h9 => h9) rfl dX1_clearCell_4 ?_
  refine lv_lstore_n (lv' := [(3, .long v_rp), (0, .ref h_e), (1, .int x1), (2, .int x2)]) hx hb dX1_clearCell_7 rfl hl (by decide) rfl (fun ls hl => ?_)
  refine lv_lload_n hx hb dX1_clearCell_8 rfl (lv_at hl 0 rfl) ?_
  refine lv_lconst (v := 1) hx hb dX1_clearCell_9 (by decide) ?_
  refine W.lcmp hx hb dX1_clearCell_10 ?_
  refine lv_if_ge (tgt := 15) hx hb dX1_clearCell_11 (by decide) (fun c_1 => ?_) (fun c_1 => ?_)
  · have hw := hw.1 c_1
    refine lv_iload_n hx hb dX1_clearCell_15 rfl (lv_at hl 2 rfl) ?_
    refine lv_bipush (v := 41) hx hb dX1_clearCell_16 (by decide) ?_
    refine lv_imul hx hb dX1_clearCell_18 ?_
    refine lv_topi (fun x5_2 ex5_2 => ?_)
    have hw := hw x5_2 ex5_2
    refine lv_istore (lv' := [(5, .int x5_2), (3, .long v_rp), (0, .ref h_e), (1, .int x1), (2, .int x2)]) hx hb dX1_clearCell_19 hl (by decide) rfl (fun ls hl => ?_)
    refine lv_iload_n hx hb dX1_clearCell_21 rfl (lv_at hl 4 rfl) ?_
    refine lv_bipush (v := 41) hx hb dX1_clearCell_22 (by decide) ?_
    refine lv_imul hx hb dX1_clearCell_24 ?_
    refine lv_topi (fun x6_3 ex6_3 => ?_)
    have hw := hw x6_3 ex6_3
    refine lv_istore (lv' := [(6, .int x6_3), (5, .int x5_2), (3, .long v_rp), (0, .ref h_e), (1, .int x1), (2, .int x2)]) hx hb dX1_clearCell_25 hl (by decide) rfl (fun ls hl => ?_)
    refine lv_lload_n hx hb dX1_clearCell_27 rfl (lv_at hl 2 rfl) ?_
    refine lv_aload_n hx hb dX1_clearCell_28 rfl (lv_at hl 3 rfl) ?_
    refine va_get (D := D) (ci := 1) (v := .ref h_ec) (C := RX1) (T := TX1) (N := 5) hx hb hts inX1 hown hK hP 0 rfl rfl 1 (by decide) (hts _ q_80) (fun _ h9 => h9) rfl dX1_clearCell_29 ?_
    refine lv_iload hx hb dX1_clearCell_32 (lv_at hl 1 rfl) ?_
    refine lv_iload_n hx hb dX1_clearCell_34 rfl (lv_at hl 5 rfl) ?_
    refine lv_iadd hx hb dX1_clearCell_35 ?_
    obtain ⟨h_4, hw⟩ := hw
    refine va_iald hx hb hK hP 2 0 rfl rfl h_4 dX1_clearCell_36 ?_
    refine lv_i2l hx hb dX1_clearCell_37 rfl ?_
    refine lv_lsub hx hb dX1_clearCell_38 ?_
    refine lv_topl (fun x7_5 ex7_5 => ?_)
    have hw := hw x7_5 ex7_5
    refine lv_lstore (lv' := [(7, .long x7_5), (6, .int x6_3), (5, .int x5_2), (3, .long v_rp), (0, .ref h_e), (1, .int x1), (2, .int x2)]) hx hb dX1_clearCell_39 hl (by decide) rfl (fun ls hl => ?_)
    refine lv_aload_n hx hb dX1_clearCell_41 rfl (lv_at hl 4 rfl) ?_
    refine va_get (D := D) (ci := 1) (v := .ref h_ec) (C := RX1) (T := TX1) (N := 5) hx hb hts inX1 hown hK hP 0 rfl rfl 1 (by decide) (hts _ q_80) (fun _ h9 => h9) rfl dX1_clearCell_42 ?_
    refine lv_iload hx hb dX1_clearCell_45 (lv_at hl 2 rfl) ?_
    refine lv_iload_n hx hb dX1_clearCell_47 rfl (lv_at hl 6 rfl) ?_
    refine lv_iadd hx hb dX1_clearCell_48 ?_
    refine lv_iconst (v := 0) hx hb dX1_clearCell_49 (by decide) ?_
    obtain ⟨h_6, hw⟩ := hw
    refine va_iast hx hb hK hP hD hS 2 0 rfl rfl h_6 dX1_clearCell_50 (fun H locs hP hD hS => ?_)
    have hP : va_P D vwCl [(h_e, .inr (1, [.ref h_r, .ref h_ec, .ref h_ea, .int v_es, .long v_ed])), (h_r, .inr (6, [.long v_rp])), (h_ec, .inl (cT 0, 1640, .inl (upd f_ec (x5_2 + x2).toNatClampNeg 0))), (h_ea, .inl (cT 1, 40, .inr (.inl f_ea)))] H := hP
    have hD : va_D A [(h_e, .inr (1, [.ref h_r, .ref h_ec, .ref h_ea, .int v_es, .long v_ed])), (h_r, .inr (6, [.long v_rp])), (h_ec, .inl (cT 0, 1640, .inl (upd f_ec (x5_2 + x2).toNatClampNeg 0))), (h_ea, .inl (cT 1, 40, .inr (.inl f_ea)))] := hD
    refine lv_iload_n hx hb dX1_clearCell_51 rfl (lv_at hl 6 rfl) ?_
    refine lv_iconst (v := 1) hx hb dX1_clearCell_52 (by decide) ?_
    refine lv_iadd hx hb dX1_clearCell_53 ?_
    refine lv_topi (fun x9_7 ex9_7 => ?_)
    have hw := hw x9_7 ex9_7
    refine lv_istore (lv' := [(9, .int x9_7), (7, .long x7_5), (6, .int x6_3), (5, .int x5_2), (3, .long v_rp), (0, .ref h_e), (1, .int x1), (2, .int x2)]) hx hb dX1_clearCell_54 hl (by decide) rfl (fun ls hl => ?_)
    obtain ⟨n9, hw⟩ := hw
    exact tw_Equations_clearCell_56 C0 hA hret  n9 _ _ _ _ _ _ _ _ _ hP hD hS (lv_sub hl [5, 4, 3, 2, 1, 0] rfl) hw
  · have hw := hw.2 c_1
    exact hret _ _ _ _ _ hw hP hD hS dX1_clearCell_14
set_option maxHeartbeats 4000000 in
set_option maxRecDepth 100000 in
theorem cn_Equations_clearCell (l : Launch) (D : va_G) (cT : Nat → ClassId) (h_e h_r h_ec h_ea : Nat) (sz : Nat) (v_es : Int32) (v_ed : Int64) (v_rp : Int64) (f_ec : Nat → Int32) (f_ea : Nat → Int64) (x1 : Int32) (x2 : Int32) (post : (Nat → Int32) → Prop) (hw : wp_Equations_clearCell post v_es v_ed v_rp f_ea x1 x2 f_ec) : Met l yX1_clearCell wX1_clearCell ({ frames := 0, cells := 0, slots := 0, locals := 0 } : Room) (va_Pc [.ref h_e, .int x1, .int x2] (pre_ D cT [(h_e, .inr (1, [.ref h_r, .ref h_ec, .ref h_ea, .int v_es, .long v_ed])), (h_r, .inr (6, [.long v_rp])), (h_ec, .inl (cT 0, 1640, .inl f_ec)), (h_ea, .inl (cT 1, 40, .inr (.inl f_ea)))] sz)) (va_Qv (fun (u : (Nat → Int32)) => post u) (fun u t => va_P D vwCl [(h_e, .inr (1, [.ref h_r, .ref h_ec, .ref h_ea, .int v_es, .long v_ed])), (h_r, .inr (6, [.long v_rp])), (h_ec, .inl (cT 0, 1640, .inl u)), (h_ea, .inl (cT 1, 40, .inr (.inl f_ea)))] t.heap ∧ va_D (va_A [(h_e, .inr (1, [.ref h_r, .ref h_ec, .ref h_ea, .int v_es, .long v_ed])), (h_r, .inr (6, [.long v_rp])), (h_ec, .inl (cT 0, 1640, .inl f_ec)), (h_ea, .inl (cT 1, 40, .inr (.inl f_ea)))] sz) [(h_e, .inr (1, [.ref h_r, .ref h_ec, .ref h_ea, .int v_es, .long v_ed])), (h_r, .inr (6, [.long v_rp])), (h_ec, .inl (cT 0, 1640, .inl u)), (h_ea, .inl (cT 1, 40, .inr (.inl f_ea)))]) (va_A [(h_e, .inr (1, [.ref h_r, .ref h_ec, .ref h_ea, .int v_es, .long v_ed])), (h_r, .inr (6, [.long v_rp])), (h_ec, .inl (cT 0, 1640, .inl f_ec)), (h_ea, .inl (cT 1, 40, .inr (.inl f_ea)))] sz)) 0 0 (va_A [(h_e, .inr (1, [.ref h_r, .ref h_ec, .ref h_ea, .int v_es, .long v_ed])), (h_r, .inr (6, [.long v_rp])), (h_ec, .inl (cT 0, 1640, .inl f_ec)), (h_ea, .inl (cT 1, 40, .inr (.inl f_ea)))] sz) := by
  refine Met.ofW (cc := cX1_clearCell) (maxL := 10) (ret := none) (by decide) rfl ?_
  intro p e s m args below meth c s₁ B hml hv
  obtain ⟨rfl, hsz, hP, hK, hD0, hN⟩ := hv
  have hx := B.exec
  have hb := B.bytes
  have hr := B.returns
  have hts : ∀ w ∈ WG, w.before _ s = true := fun w h => atoms_spec (ws := wX1_clearCell) B.pre w (List.mem_cons_of_mem _ h)
  have hown : s.vm.findClass RX1 = some m.cls := findClass_of_methodNamed B.named
  have hlocks := B.notSynchronized
  subst hsz
  have hD := hD0.self (sz := s.heap.size)
  generalize hAe : va_A [(h_e, .inr (1, [.ref h_r, .ref h_ec, .ref h_ea, .int v_es, .long v_ed])), (h_r, .inr (6, [.long v_rp])), (h_ec, .inl (cT 0, 1640, .inl f_ec)), (h_ea, .inl (cT 1, 40, .inr (.inl f_ea)))] s.heap.size = A at hD ⊢
  have hA : ∀ q : Nat, s.heap.size ≤ q → A q := fun q h => by rw [← hAe]; exact Or.inr h
  have hS : va_S A s.heap s.heap [] := va_S.rf
  have hl := lv_entry ([.ref h_e, .int x1, .int x2]) (n := 10) (Nat.le_of_ble_eq_true rfl)
  rw [lg_entry_eq]
  generalize (lg_sl ([.ref h_e, .int x1, .int x2]) ++ List.replicate (10 - (lg_sl ([.ref h_e, .int x1, .int x2])).length) Slot.unset).toArray = ls at hl ⊢
  refine tw_Equations_clearCell (Q := MQ below _ _ s 0 0 A) ⟨⟨hx, hb, hml, hown, hts⟩, hK, hN⟩ hA (fun f_ec H locs pc ls hp hP hD hS hd => W.vret hx hb hr (fun t ht hW => ⟨⟨(f_ec), rfl, hp, by rw [ht]; exact hP, hD⟩, hS.F ht⟩) hS.2.2 hd) _ _ _ _ _ _ hP hD hS hl hw
end
def wp_Equations_answerOf_21 (post : Int64 → Prop) (v_es : Int32) (v_ed : Int64) (v_rp : Int64) (f_ec : Nat → Int32) (f_ea : Nat → Int64)  : Nat → Int32 → Int64 → Int32 → Prop
  | 0 => fun _ _ _ => False
  | n + 1 => fun x1 x2 x4 => ((v_es ≤ x4 → (post x2)) ∧ (¬ v_es ≤ x4 → ((vp_in ((x1 * 41) + x4) 1640 ∧ (wp_Remainders_minus (fun r_6 => (vp_in x4 40 ∧ (wp_Remainders_plusTimes (fun r_8 => ∀ x4_9 : Int32, x4_9 = x4 + 1 → wp_Equations_answerOf_21 post v_es v_ed v_rp f_ec f_ea n x1 r_8 x4_9) v_rp x2 r_6 (f_ea x4.toNatClampNeg)))) v_rp 0 ((f_ec ((x1 * 41) + x4).toNatClampNeg).toInt64))))))
def wp_Equations_answerOf (post : Int64 → Prop) (v_es : Int32) (v_ed : Int64) (v_rp : Int64) (f_ec : Nat → Int32) (f_ea : Nat → Int64)  (x1 : Int32) : Prop := (vp_in ((x1 * 41) + v_es) 1640 ∧ (∀ x2_2 : Int64, x2_2 = (f_ec ((x1 * 41) + v_es).toNatClampNeg).toInt64 → ∀ x4_3 : Int32, x4_3 = x1 + 1 → ∃ k9, wp_Equations_answerOf_21 post v_es v_ed v_rp f_ec f_ea k9 x1 x2_2 x4_3))
section
variable {p : Program} {l : Launch} {e : Env} {s : State} {m : MethodId} {args : Array Value} {below : List Frame} {meth : Method} {c : Code} {Q : State → Prop} {A : Nat → Prop} {D : va_G} {cT : Nat → ClassId}
set_option maxHeartbeats 4000000 in
set_option maxRecDepth 100000 in
theorem tw_Equations_answerOf_21 {post : Int64 → Prop} {h_e h_r h_ec h_ea : Nat} {v_es : Int32} {v_ed : Int64} {v_rp : Int64} {f_ec : Nat → Int32} {f_ea : Nat → Int64}  (C0 : cx RX1 cX1_answerOf 7 D cT p s m c args) (hA : ∀ q, s.heap.size ≤ q → A q) (hret : ∀ (r : Int64)  (H : Heap) (locs : List Loc) (pc : Nat) (ls : Array Slot), post r → va_P D vwCl [(h_e, .inr (1, [.ref h_r, .ref h_ec, .ref h_ea, .int v_es, .long v_ed])), (h_r, .inr (6, [.long v_rp])), (h_ec, .inl (cT 0, 1640, .inl f_ec)), (h_ea, .inl (cT 1, 40, .inr (.inl f_ea)))] H → va_D A [(h_e, .inr (1, [.ref h_r, .ref h_ec, .ref h_ea, .int v_es, .long v_ed])), (h_r, .inr (6, [.long v_rp])), (h_ec, .inl (cT 0, 1640, .inl f_ec)), (h_ea, .inl (cT 1, 40, .inr (.inl f_ea)))] → va_S A s.heap H locs → decode cX1_answerOf pc = .ok (.lreturn, 1) → W p l e ({ frames := 1, cells := 0, slots := 0, locals := 26 } : Room) s m args below meth c H locs 0 0 Q (F0 m pc ls [.long r]))  : ∀ (n : Nat) (x1 : Int32) (x2 : Int64) (x4 : Int32) (H : Heap) (locs : List Loc) (ls : Array Slot), va_P D vwCl [(h_e, .inr (1, [.ref h_r, .ref h_ec, .ref h_ea, .int v_es, .long v_ed])), (h_r, .inr (6, [.long v_rp])), (h_ec, .inl (cT 0, 1640, .inl f_ec)), (h_ea, .inl (cT 1, 40, .inr (.inl f_ea)))] H → va_D A [(h_e, .inr (1, [.ref h_r, .ref h_ec, .ref h_ea, .int v_es, .long v_ed])), (h_r, .inr (6, [.long v_rp])), (h_ec, .inl (cT 0, 1640, .inl f_ec)), (h_ea, .inl (cT 1, 40, .inr (.inl f_ea)))] → va_S A s.heap H locs → lv_has ls 7 [(0, .ref h_e), (1, .int x1), (2, .long x2), (4, .int x4)] → wp_Equations_answerOf_21 post v_es v_ed v_rp f_ec f_ea n x1 x2 x4 → W p l e ({ frames := 1, cells := 0, slots := 0, locals := 26 } : Room) s m args below meth c H locs 0 0 Q (F0 m 21 ls []) := by
  obtain ⟨⟨hx, hb, hml, hown, hts⟩, hK, hN⟩ := id C0
  intro n
  induction n with
  | zero => intro x1 x2 x4 H locs ls hP hD hS hl hw; exact hw.elim
  | succ n ih =>
    intro x1 x2 x4 H locs ls hP hD hS hl hw
    unfold wp_Equations_answerOf_21 at hw
    refine lv_iload hx hb dX1_answerOf_21 (lv_at hl 3 rfl) ?_
    refine lv_aload_n hx hb dX1_answerOf_23 rfl (lv_at hl 0 rfl) ?_
    refine va_get (D := D) (ci := 1) (v := .int v_es) (C := RX1) (T := TX1) (N := 5) hx hb hts inX1 hown hK hP 0 rfl rfl 3 (by decide) (hts _ q_83) (fun _ h9 => h9) rfl dX1_answerOf_24 ?_
    refine lv_icmp_ge (tgt := 77) hx hb dX1_answerOf_27 (by decide) (fun c_4 => ?_) (fun c_4 => ?_)
    · have hw := hw.1 c_4
      refine lv_lload_n hx hb dX1_answerOf_77 rfl (lv_at hl 2 rfl) ?_
      exact hret _  _ _ _ _ hw hP hD hS dX1_answerOf_78
    · have hw := hw.2 c_4
      refine lv_aload_n hx hb dX1_answerOf_30 rfl (lv_at hl 0 rfl) ?_
      refine va_get (D := D) (ci := 1) (v := .ref h_r) (C := RX1) (T := TX1) (N := 5) hx hb hts inX1 hown hK hP 0 rfl rfl 0 (by decide) (hts _ q_78) (fun _ h9 => h9) rfl dX1_answerOf_31 ?_
      refine lv_lconst (v := 0) hx hb dX1_answerOf_34 (by decide) ?_
      refine lv_aload_n hx hb dX1_answerOf_35 rfl (lv_at hl 0 rfl) ?_
      refine va_get (D := D) (ci := 1) (v := .ref h_ec) (C := RX1) (T := TX1) (N := 5) hx hb hts inX1 hown hK hP 0 rfl rfl 1 (by decide) (hts _ q_80) (fun _ h9 => h9) rfl dX1_answerOf_36 ?_
      refine lv_iload_n hx hb dX1_answerOf_39 rfl (lv_at hl 1 rfl) ?_
      refine lv_bipush (v := 41) hx hb dX1_answerOf_40 (by decide) ?_
      refine lv_imul hx hb dX1_answerOf_42 ?_
      refine lv_iload hx hb dX1_answerOf_43 (lv_at hl 3 rfl) ?_
      refine lv_iadd hx hb dX1_answerOf_45 ?_
      obtain ⟨h_5, hw⟩ := hw
      refine va_iald hx hb hK hP 2 0 rfl rfl h_5 dX1_answerOf_46 ?_
      refine lv_i2l hx hb dX1_answerOf_47 rfl ?_
      have hPc := hP.sub (ws' := [(h_r, .inr (6, [.long v_rp]))]) [1] rfl
      have hDc := hD.sub (ws' := [(h_r, .inr (6, [.long v_rp]))]) [1] (by decide) rfl
      have hFc := va_free (wc := [(h_r, .inr (6, [.long v_rp]))]) hD hS hA [1] rfl
      refine va_calll (va_runV (As := [.long 0, .long ((f_ec ((x1 * 41) + x4).toNatClampNeg).toInt64)]) (rest := []) ⟨hx, hb, hml, hown, hts⟩ (cn_Remainders_minus l D cT h_r H.size v_rp 0 ((f_ec ((x1 * 41) + x4).toNatClampNeg).toInt64) _ hw) (gv_ 2 q_233 q_5 q_230 q_231 q_232 (by decide +kernel) ⟨Nat.le_of_ble_eq_true rfl, Nat.le_of_ble_eq_true rfl⟩ hts) ⟨pre_blind, va_recv hK hPc (ci := 6) (q0 := 0) rfl rfl, fun U hU hW => ⟨rfl, pre_mk hU hW hPc hK hDc hN⟩⟩ rfl rfl hl.1 rfl (lv_room (Nat.le_of_ble_eq_true rfl)) dX1_answerOf_48 ⟨(Nat.zero_le _), (Nat.zero_le _)⟩) hS (fun q _ h => hFc q h) hFc (fun r_6 u9 t H locs ht hvm hw hB hz1 hk1 hS => ?_)
      obtain ⟨hP1, hD1⟩ := hB
      rw [ht] at hP1
      obtain ⟨hP, hD⟩ := va_join (wr := [(h_e, .inr (1, [.ref h_r, .ref h_ec, .ref h_ea, .int v_es, .long v_ed])), (h_ec, .inl (cT 0, 1640, .inl f_ec)), (h_ea, .inl (cT 1, 40, .inr (.inl f_ea)))]) (w1 := [(h_r, .inr (6, [.long v_rp]))]) hP hD [1] [0, 2, 3] rfl rfl (by decide) (by decide) hk1 hFc hP1 hD1
      have hP := hP.sub (ws' := [(h_e, .inr (1, [.ref h_r, .ref h_ec, .ref h_ea, .int v_es, .long v_ed])), (h_r, .inr (6, [.long v_rp])), (h_ec, .inl (cT 0, 1640, .inl f_ec)), (h_ea, .inl (cT 1, 40, .inr (.inl f_ea)))]) [0, 3, 1, 2] rfl
      have hD := hD.sub (ws' := [(h_e, .inr (1, [.ref h_r, .ref h_ec, .ref h_ea, .int v_es, .long v_ed])), (h_r, .inr (6, [.long v_rp])), (h_ec, .inl (cT 0, 1640, .inl f_ec)), (h_ea, .inl (cT 1, 40, .inr (.inl f_ea)))]) [0, 3, 1, 2] (by decide) rfl
      clear hP1 hD1 hPc hDc hFc hk1 hz1 hvm ht
      try dsimp only at hw
      refine lv_lstore (lv' := [(5, .long r_6), (0, .ref h_e), (1, .int x1), (2, .long x2), (4, .int x4)]) hx hb dX1_answerOf_51 hl (by decide) rfl (fun ls hl => ?_)
      refine lv_aload_n hx hb dX1_answerOf_53 rfl (lv_at hl 1 rfl) ?_
      refine va_get (D := D) (ci := 1) (v := .ref h_r) (C := RX1) (T := TX1) (N := 5) hx hb hts inX1 hown hK hP 0 rfl rfl 0 (by decide) (hts _ q_78) (fun _ h9 => h9) rfl dX1_answerOf_54 ?_
      refine lv_lload_n hx hb dX1_answerOf_57 rfl (lv_at hl 3 rfl) ?_
      refine lv_lload hx hb dX1_answerOf_58 (lv_at hl 0 rfl) ?_
      refine lv_aload_n hx hb dX1_answerOf_60 rfl (lv_at hl 1 rfl) ?_
      refine va_get (D := D) (ci := 1) (v := .ref h_ea) (C := RX1) (T := TX1) (N := 5) hx hb hts inX1 hown hK hP 0 rfl rfl 2 (by decide) (hts _ q_81) (fun _ h9 => h9) rfl dX1_answerOf_61 ?_
      refine lv_iload hx hb dX1_answerOf_64 (lv_at hl 4 rfl) ?_
      obtain ⟨h_7, hw⟩ := hw
      refine va_lald hx hb hK hP 3 1 rfl rfl h_7 dX1_answerOf_66 ?_
      have hPc := hP.sub (ws' := [(h_r, .inr (6, [.long v_rp]))]) [1] rfl
      have hDc := hD.sub (ws' := [(h_r, .inr (6, [.long v_rp]))]) [1] (by decide) rfl
      have hFc := va_free (wc := [(h_r, .inr (6, [.long v_rp]))]) hD hS hA [1] rfl
      refine va_calll (va_runV (As := [.long x2, .long r_6, .long (f_ea x4.toNatClampNeg)]) (rest := []) ⟨hx, hb, hml, hown, hts⟩ (cn_Remainders_plusTimes l D cT h_r H.size v_rp x2 r_6 (f_ea x4.toNatClampNeg) _ hw) (gv_ 3 q_253 q_5 q_271 q_251 q_252 (by decide +kernel) ⟨Nat.le_of_ble_eq_true rfl, Nat.le_of_ble_eq_true rfl⟩ hts) ⟨pre_blind, va_recv hK hPc (ci := 6) (q0 := 0) rfl rfl, fun U hU hW => ⟨rfl, pre_mk hU hW hPc hK hDc hN⟩⟩ rfl rfl hl.1 rfl (lv_room (Nat.le_of_ble_eq_true rfl)) dX1_answerOf_67 ⟨(Nat.zero_le _), (Nat.zero_le _)⟩) hS (fun q _ h => hFc q h) hFc (fun r_8 u9 t H locs ht hvm hw hB hz1 hk1 hS => ?_)
      obtain ⟨hP1, hD1⟩ := hB
      rw [ht] at hP1
      obtain ⟨hP, hD⟩ := va_join (wr := [(h_e, .inr (1, [.ref h_r, .ref h_ec, .ref h_ea, .int v_es, .long v_ed])), (h_ec, .inl (cT 0, 1640, .inl f_ec)), (h_ea, .inl (cT 1, 40, .inr (.inl f_ea)))]) (w1 := [(h_r, .inr (6, [.long v_rp]))]) hP hD [1] [0, 2, 3] rfl rfl (by decide) (by decide) hk1 hFc hP1 hD1
      have hP := hP.sub (ws' := [(h_e, .inr (1, [.ref h_r, .ref h_ec, .ref h_ea, .int v_es, .long v_ed])), (h_r, .inr (6, [.long v_rp])), (h_ec, .inl (cT 0, 1640, .inl f_ec)), (h_ea, .inl (cT 1, 40, .inr (.inl f_ea)))]) [0, 3, 1, 2] rfl
      have hD := hD.sub (ws' := [(h_e, .inr (1, [.ref h_r, .ref h_ec, .ref h_ea, .int v_es, .long v_ed])), (h_r, .inr (6, [.long v_rp])), (h_ec, .inl (cT 0, 1640, .inl f_ec)), (h_ea, .inl (cT 1, 40, .inr (.inl f_ea)))]) [0, 3, 1, 2] (by decide) rfl
      clear hP1 hD1 hPc hDc hFc hk1 hz1 hvm ht
      try dsimp only at hw
      refine lv_lstore_n (lv' := [(2, .long r_8), (5, .long r_6), (0, .ref h_e), (1, .int x1), (4, .int x4)]) hx hb dX1_answerOf_70 rfl hl (by decide) rfl (fun ls hl => ?_)
      obtain ⟨x4_9, ex4_9⟩ : ∃ y : Int32, y = x4 + 1 := ⟨_, rfl⟩
      refine lv_iinc (v := x4_9) (lv' := [(4, .int x4_9), (2, .long r_8), (5, .long r_6), (0, .ref h_e), (1, .int x1)]) hx hb dX1_answerOf_71 hl (k := 4) rfl (by rw [ex4_9]; rfl) (by decide) rfl (fun ls hl => ?_)
      have hw := hw x4_9 ex4_9
      refine lv_goto (tgt := 21) hx hb dX1_answerOf_74 (by decide) ?_
      exact ih _ _ _ _ _ _ hP hD hS (lv_sub hl [3, 4, 1, 0] rfl) hw
set_option maxHeartbeats 4000000 in
set_option maxRecDepth 100000 in
theorem tw_Equations_answerOf {post : Int64 → Prop} {h_e h_r h_ec h_ea : Nat} {v_es : Int32} {v_ed : Int64} {v_rp : Int64} {f_ec : Nat → Int32} {f_ea : Nat → Int64}  (C0 : cx RX1 cX1_answerOf 7 D cT p s m c args) (hA : ∀ q, s.heap.size ≤ q → A q) (hret : ∀ (r : Int64)  (H : Heap) (locs : List Loc) (pc : Nat) (ls : Array Slot), post r → va_P D vwCl [(h_e, .inr (1, [.ref h_r, .ref h_ec, .ref h_ea, .int v_es, .long v_ed])), (h_r, .inr (6, [.long v_rp])), (h_ec, .inl (cT 0, 1640, .inl f_ec)), (h_ea, .inl (cT 1, 40, .inr (.inl f_ea)))] H → va_D A [(h_e, .inr (1, [.ref h_r, .ref h_ec, .ref h_ea, .int v_es, .long v_ed])), (h_r, .inr (6, [.long v_rp])), (h_ec, .inl (cT 0, 1640, .inl f_ec)), (h_ea, .inl (cT 1, 40, .inr (.inl f_ea)))] → va_S A s.heap H locs → decode cX1_answerOf pc = .ok (.lreturn, 1) → W p l e ({ frames := 1, cells := 0, slots := 0, locals := 26 } : Room) s m args below meth c H locs 0 0 Q (F0 m pc ls [.long r]))  : ∀ (x1 : Int32) (H : Heap) (locs : List Loc) (ls : Array Slot), va_P D vwCl [(h_e, .inr (1, [.ref h_r, .ref h_ec, .ref h_ea, .int v_es, .long v_ed])), (h_r, .inr (6, [.long v_rp])), (h_ec, .inl (cT 0, 1640, .inl f_ec)), (h_ea, .inl (cT 1, 40, .inr (.inl f_ea)))] H → va_D A [(h_e, .inr (1, [.ref h_r, .ref h_ec, .ref h_ea, .int v_es, .long v_ed])), (h_r, .inr (6, [.long v_rp])), (h_ec, .inl (cT 0, 1640, .inl f_ec)), (h_ea, .inl (cT 1, 40, .inr (.inl f_ea)))] → va_S A s.heap H locs → lv_has ls 7 [(0, .ref h_e), (1, .int x1)] → wp_Equations_answerOf post v_es v_ed v_rp f_ec f_ea x1 → W p l e ({ frames := 1, cells := 0, slots := 0, locals := 26 } : Room) s m args below meth c H locs 0 0 Q (F0 m 0 ls []) := by
  obtain ⟨⟨hx, hb, hml, hown, hts⟩, hK, hN⟩ := id C0
  intro x1 H locs ls hP hD hS hl hw
  unfold wp_Equations_answerOf at hw
  refine lv_aload_n hx hb dX1_answerOf_0 rfl (lv_at hl 0 rfl) ?_
  refine va_get (D := D) (ci := 1) (v := .ref h_ec) (C := RX1) (T := TX1) (N := 5) hx hb hts inX1 hown hK hP 0 rfl rfl 1 (by decide) (hts _ q_80) (fun _ h9 => h9) rfl dX1_answerOf_1 ?_
  refine lv_iload_n hx hb dX1_answerOf_4 rfl (lv_at hl 1 rfl) ?_
  refine lv_bipush (v := 41) hx hb dX1_answerOf_5 (by decide) ?_
  refine lv_imul hx hb dX1_answerOf_7 ?_
  refine lv_aload_n hx hb dX1_answerOf_8 rfl (lv_at hl 0 rfl) ?_
  refine va_get (D := D) (ci := 1) (v := .int v_es) (C := RX1) (T := TX1) (N := 5) hx hb hts inX1 hown hK hP 0 rfl rfl 3 (by decide) (hts _ q_83) (fun _ h9 => h9) rfl dX1_answerOf_9 ?_
  refine lv_iadd hx hb dX1_answerOf_12 ?_
  obtain ⟨h_1, hw⟩ := hw
  refine va_iald hx hb hK hP 2 0 rfl rfl h_1 dX1_answerOf_13 ?_
  refine lv_i2l hx hb dX1_answerOf_14 rfl ?_
  refine lv_topl (fun x2_2 ex2_2 => ?_)
  have hw := hw x2_2 ex2_2
  refine lv_lstore_n (lv' := [(2, .long x2_2), (0, .ref h_e), (1, .int x1)]) hx hb dX1_answerOf_15 rfl hl (by decide) rfl (fun ls hl => ?_)
  refine lv_iload_n hx hb dX1_answerOf_16 rfl (lv_at hl 2 rfl) ?_
  refine lv_iconst (v := 1) hx hb dX1_answerOf_17 (by decide) ?_
  refine lv_iadd hx hb dX1_answerOf_18 ?_
  refine lv_topi (fun x4_3 ex4_3 => ?_)
  have hw := hw x4_3 ex4_3
  refine lv_istore (lv' := [(4, .int x4_3), (2, .long x2_2), (0, .ref h_e), (1, .int x1)]) hx hb dX1_answerOf_19 hl (by decide) rfl (fun ls hl => ?_)
  obtain ⟨n9, hw⟩ := hw
  exact tw_Equations_answerOf_21 C0 hA hret  n9 _ _ _ _ _ _ hP hD hS (lv_sub hl [2, 3, 1, 0] rfl) hw
set_option maxHeartbeats 4000000 in
set_option maxRecDepth 100000 in
theorem cn_Equations_answerOf (l : Launch) (D : va_G) (cT : Nat → ClassId) (h_e h_r h_ec h_ea : Nat) (sz : Nat) (v_es : Int32) (v_ed : Int64) (v_rp : Int64) (f_ec : Nat → Int32) (f_ea : Nat → Int64) (x1 : Int32) (post : Int64 → Prop) (hw : wp_Equations_answerOf post v_es v_ed v_rp f_ec f_ea x1) : Met l yX1_answerOf wX1_answerOf ({ frames := 1, cells := 0, slots := 0, locals := 26 } : Room) (va_Pc [.ref h_e, .int x1] (pre_ D cT [(h_e, .inr (1, [.ref h_r, .ref h_ec, .ref h_ea, .int v_es, .long v_ed])), (h_r, .inr (6, [.long v_rp])), (h_ec, .inl (cT 0, 1640, .inl f_ec)), (h_ea, .inl (cT 1, 40, .inr (.inl f_ea)))] sz)) (va_Ql (fun (r : Int64) (u : Unit) => post r) (fun u t => va_P D vwCl [(h_e, .inr (1, [.ref h_r, .ref h_ec, .ref h_ea, .int v_es, .long v_ed])), (h_r, .inr (6, [.long v_rp])), (h_ec, .inl (cT 0, 1640, .inl f_ec)), (h_ea, .inl (cT 1, 40, .inr (.inl f_ea)))] t.heap ∧ va_D (va_A [(h_e, .inr (1, [.ref h_r, .ref h_ec, .ref h_ea, .int v_es, .long v_ed])), (h_r, .inr (6, [.long v_rp])), (h_ec, .inl (cT 0, 1640, .inl f_ec)), (h_ea, .inl (cT 1, 40, .inr (.inl f_ea)))] sz) [(h_e, .inr (1, [.ref h_r, .ref h_ec, .ref h_ea, .int v_es, .long v_ed])), (h_r, .inr (6, [.long v_rp])), (h_ec, .inl (cT 0, 1640, .inl f_ec)), (h_ea, .inl (cT 1, 40, .inr (.inl f_ea)))]) (va_A [(h_e, .inr (1, [.ref h_r, .ref h_ec, .ref h_ea, .int v_es, .long v_ed])), (h_r, .inr (6, [.long v_rp])), (h_ec, .inl (cT 0, 1640, .inl f_ec)), (h_ea, .inl (cT 1, 40, .inr (.inl f_ea)))] sz)) 0 0 (va_A [(h_e, .inr (1, [.ref h_r, .ref h_ec, .ref h_ea, .int v_es, .long v_ed])), (h_r, .inr (6, [.long v_rp])), (h_ec, .inl (cT 0, 1640, .inl f_ec)), (h_ea, .inl (cT 1, 40, .inr (.inl f_ea)))] sz) := by
  refine Met.ofW (cc := cX1_answerOf) (maxL := 7) (ret := (some .long)) (by decide) rfl ?_
  intro p e s m args below meth c s₁ B hml hv
  obtain ⟨rfl, hsz, hP, hK, hD0, hN⟩ := hv
  have hx := B.exec
  have hb := B.bytes
  have hr := B.returns
  have hts : ∀ w ∈ WG, w.before _ s = true := fun w h => atoms_spec (ws := wX1_answerOf) B.pre w (List.mem_cons_of_mem _ h)
  have hown : s.vm.findClass RX1 = some m.cls := findClass_of_methodNamed B.named
  have hlocks := B.notSynchronized
  subst hsz
  have hD := hD0.self (sz := s.heap.size)
  generalize hAe : va_A [(h_e, .inr (1, [.ref h_r, .ref h_ec, .ref h_ea, .int v_es, .long v_ed])), (h_r, .inr (6, [.long v_rp])), (h_ec, .inl (cT 0, 1640, .inl f_ec)), (h_ea, .inl (cT 1, 40, .inr (.inl f_ea)))] s.heap.size = A at hD ⊢
  have hA : ∀ q : Nat, s.heap.size ≤ q → A q := fun q h => by rw [← hAe]; exact Or.inr h
  have hS : va_S A s.heap s.heap [] := va_S.rf
  have hl := lv_entry ([.ref h_e, .int x1]) (n := 7) (Nat.le_of_ble_eq_true rfl)
  rw [lg_entry_eq]
  generalize (lg_sl ([.ref h_e, .int x1]) ++ List.replicate (7 - (lg_sl ([.ref h_e, .int x1])).length) Slot.unset).toArray = ls at hl ⊢
  refine tw_Equations_answerOf (Q := MQ below _ _ s 0 0 A) ⟨⟨hx, hb, hml, hown, hts⟩, hK, hN⟩ hA (fun r  H locs pc ls hp hP hD hS hd => W.lret (v := r) hx hb hr (fun t ht hW => ⟨⟨r, (), rfl, hp, by rw [ht]; exact hP, hD⟩, hS.F ht⟩) hS.2.2 hd) _ _ _ _ hP hD hS hl hw
end
def wp_Equations_load_36 (post : (Nat → Int32) → Prop) (v_es : Int32) (v_ed : Int64) (v_rp : Int64) (f_ea : Nat → Int64) (v_cs : Int32) (f_cw : Nat → Int32) (f_cl : Nat → Int32) (f_cp : Nat → Int32) (f_ce : Nat → Int32) (K2 : Int32 → (Nat → Int32) → Prop) (K12 : Int32 → Int32 → (Nat → Int32) → Prop) (x2 : Int32) (x3 : Int32) (y0 : Int64) (f_ec : Nat → Int32) : Prop := (vp_in ((x2 * 41) + x3) 1640 ∧ (wp_Remainders_minus (fun r_8 => (vp_in ((x2 * 41) + x3) 1640 ∧ (∀ x3_10 : Int32, x3_10 = x3 + 1 → K12 x2 x3_10 (upd f_ec ((x2 * 41) + x3).toNatClampNeg r_8.toInt32)))) v_rp y0 ((f_cp ((x2 * 41) + x3).toNatClampNeg).toInt64)))
def wp_Equations_load_12 (post : (Nat → Int32) → Prop) (v_es : Int32) (v_ed : Int64) (v_rp : Int64) (f_ea : Nat → Int64) (v_cs : Int32) (f_cw : Nat → Int32) (f_cl : Nat → Int32) (f_cp : Nat → Int32) (f_ce : Nat → Int32) (K2 : Int32 → (Nat → Int32) → Prop) : Nat → Int32 → Int32 → (Nat → Int32) → Prop
  | 0 => fun _ _ _ => False
  | n + 1 => fun x2 x3 f_ec => ((v_es ≤ x3 → ((vp_in ((x2 * 41) + v_es) 1640 ∧ ((vp_in ((x2 * 41) + v_es) 1640 ∧ (∀ x2_5 : Int32, x2_5 = x2 + 1 → K2 x2_5 (upd f_ec ((x2 * 41) + v_es).toNatClampNeg (f_cp ((x2 * 41) + v_es).toNatClampNeg)))))))) ∧ (¬ v_es ≤ x3 → (((x2 = x3 → ((vp_in x2 40 ∧ (wp_Equations_load_36 post v_es v_ed v_rp f_ea v_cs f_cw f_cl f_cp f_ce K2 (wp_Equations_load_12 post v_es v_ed v_rp f_ea v_cs f_cw f_cl f_cp f_ce K2 n) x2 x3 ((f_cw x2.toNatClampNeg).toInt64) f_ec)))) ∧ (¬ x2 = x3 → (wp_Equations_load_36 post v_es v_ed v_rp f_ea v_cs f_cw f_cl f_cp f_ce K2 (wp_Equations_load_12 post v_es v_ed v_rp f_ea v_cs f_cw f_cl f_cp f_ce K2 n) x2 x3 0 f_ec))))))
def wp_Equations_load_2 (post : (Nat → Int32) → Prop) (v_es : Int32) (v_ed : Int64) (v_rp : Int64) (f_ea : Nat → Int64) (v_cs : Int32) (f_cw : Nat → Int32) (f_cl : Nat → Int32) (f_cp : Nat → Int32) (f_ce : Nat → Int32)  : Nat → Int32 → (Nat → Int32) → Prop
  | 0 => fun _ _ => False
  | n + 1 => fun x2 f_ec => ((v_es ≤ x2 → (post f_ec)) ∧ (¬ v_es ≤ x2 → (∃ k9, wp_Equations_load_12 post v_es v_ed v_rp f_ea v_cs f_cw f_cl f_cp f_ce (wp_Equations_load_2 post v_es v_ed v_rp f_ea v_cs f_cw f_cl f_cp f_ce n) k9 x2 0 f_ec)))
def wp_Equations_load (post : (Nat → Int32) → Prop) (v_es : Int32) (v_ed : Int64) (v_rp : Int64) (f_ea : Nat → Int64) (v_cs : Int32) (f_cw : Nat → Int32) (f_cl : Nat → Int32) (f_cp : Nat → Int32) (f_ce : Nat → Int32)  (f_ec : Nat → Int32) : Prop := ∃ k9, wp_Equations_load_2 post v_es v_ed v_rp f_ea v_cs f_cw f_cl f_cp f_ce k9 0 f_ec
section
variable {p : Program} {l : Launch} {e : Env} {s : State} {m : MethodId} {args : Array Value} {below : List Frame} {meth : Method} {c : Code} {Q : State → Prop} {A : Nat → Prop} {D : va_G} {cT : Nat → ClassId}
set_option maxHeartbeats 4000000 in
set_option maxRecDepth 100000 in
theorem tw_Equations_load_36 {post : (Nat → Int32) → Prop} {h_e h_r h_ec h_ea h_c h_cw h_cl h_cp h_ce : Nat} {v_es : Int32} {v_ed : Int64} {v_rp : Int64} {f_ea : Nat → Int64} {v_cs : Int32} {f_cw : Nat → Int32} {f_cl : Nat → Int32} {f_cp : Nat → Int32} {f_ce : Nat → Int32} {K2 : Int32 → (Nat → Int32) → Prop} {K12 : Int32 → Int32 → (Nat → Int32) → Prop} (C0 : cx RX1 cX1_load 6 D cT p s m c args) (hA : ∀ q, s.heap.size ≤ q → A q) (hret : ∀ (f_ec : Nat → Int32) (H : Heap) (locs : List Loc) (pc : Nat) (ls : Array Slot), post f_ec → va_P D vwCl [(h_e, .inr (1, [.ref h_r, .ref h_ec, .ref h_ea, .int v_es, .long v_ed])), (h_r, .inr (6, [.long v_rp])), (h_ec, .inl (cT 0, 1640, .inl f_ec)), (h_ea, .inl (cT 1, 40, .inr (.inl f_ea))), (h_c, .inr (0, [.ref h_cw, .ref h_cl, .ref h_cp, .ref h_ce, .int v_cs])), (h_cw, .inl (cT 0, 40, .inl f_cw)), (h_cl, .inl (cT 0, 40, .inl f_cl)), (h_cp, .inl (cT 0, 1640, .inl f_cp)), (h_ce, .inl (cT 2, 40, .inl f_ce))] H → va_D A [(h_e, .inr (1, [.ref h_r, .ref h_ec, .ref h_ea, .int v_es, .long v_ed])), (h_r, .inr (6, [.long v_rp])), (h_ec, .inl (cT 0, 1640, .inl f_ec)), (h_ea, .inl (cT 1, 40, .inr (.inl f_ea))), (h_c, .inr (0, [.ref h_cw, .ref h_cl, .ref h_cp, .ref h_ce, .int v_cs])), (h_cw, .inl (cT 0, 40, .inl f_cw)), (h_cl, .inl (cT 0, 40, .inl f_cl)), (h_cp, .inl (cT 0, 1640, .inl f_cp)), (h_ce, .inl (cT 2, 40, .inl f_ce))] → va_S A s.heap H locs → decode cX1_load pc = .ok (.return_, 1) → W p l e ({ frames := 1, cells := 0, slots := 0, locals := 24 } : Room) s m args below meth c H locs 0 0 Q (F0 m pc ls [])) (hK2 : ∀ (x2 : Int32) (f_ec : Nat → Int32) (H : Heap) (locs : List Loc) (ls : Array Slot), va_P D vwCl [(h_e, .inr (1, [.ref h_r, .ref h_ec, .ref h_ea, .int v_es, .long v_ed])), (h_r, .inr (6, [.long v_rp])), (h_ec, .inl (cT 0, 1640, .inl f_ec)), (h_ea, .inl (cT 1, 40, .inr (.inl f_ea))), (h_c, .inr (0, [.ref h_cw, .ref h_cl, .ref h_cp, .ref h_ce, .int v_cs])), (h_cw, .inl (cT 0, 40, .inl f_cw)), (h_cl, .inl (cT 0, 40, .inl f_cl)), (h_cp, .inl (cT 0, 1640, .inl f_cp)), (h_ce, .inl (cT 2, 40, .inl f_ce))] H → va_D A [(h_e, .inr (1, [.ref h_r, .ref h_ec, .ref h_ea, .int v_es, .long v_ed])), (h_r, .inr (6, [.long v_rp])), (h_ec, .inl (cT 0, 1640, .inl f_ec)), (h_ea, .inl (cT 1, 40, .inr (.inl f_ea))), (h_c, .inr (0, [.ref h_cw, .ref h_cl, .ref h_cp, .ref h_ce, .int v_cs])), (h_cw, .inl (cT 0, 40, .inl f_cw)), (h_cl, .inl (cT 0, 40, .inl f_cl)), (h_cp, .inl (cT 0, 1640, .inl f_cp)), (h_ce, .inl (cT 2, 40, .inl f_ce))] → va_S A s.heap H locs → lv_has ls 6 [(0, .ref h_e), (1, .ref h_c), (2, .int x2)] → K2 x2 f_ec → W p l e ({ frames := 1, cells := 0, slots := 0, locals := 24 } : Room) s m args below meth c H locs 0 0 Q (F0 m 2 ls [])) (hK12 : ∀ (x2 : Int32) (x3 : Int32) (f_ec : Nat → Int32) (H : Heap) (locs : List Loc) (ls : Array Slot), va_P D vwCl [(h_e, .inr (1, [.ref h_r, .ref h_ec, .ref h_ea, .int v_es, .long v_ed])), (h_r, .inr (6, [.long v_rp])), (h_ec, .inl (cT 0, 1640, .inl f_ec)), (h_ea, .inl (cT 1, 40, .inr (.inl f_ea))), (h_c, .inr (0, [.ref h_cw, .ref h_cl, .ref h_cp, .ref h_ce, .int v_cs])), (h_cw, .inl (cT 0, 40, .inl f_cw)), (h_cl, .inl (cT 0, 40, .inl f_cl)), (h_cp, .inl (cT 0, 1640, .inl f_cp)), (h_ce, .inl (cT 2, 40, .inl f_ce))] H → va_D A [(h_e, .inr (1, [.ref h_r, .ref h_ec, .ref h_ea, .int v_es, .long v_ed])), (h_r, .inr (6, [.long v_rp])), (h_ec, .inl (cT 0, 1640, .inl f_ec)), (h_ea, .inl (cT 1, 40, .inr (.inl f_ea))), (h_c, .inr (0, [.ref h_cw, .ref h_cl, .ref h_cp, .ref h_ce, .int v_cs])), (h_cw, .inl (cT 0, 40, .inl f_cw)), (h_cl, .inl (cT 0, 40, .inl f_cl)), (h_cp, .inl (cT 0, 1640, .inl f_cp)), (h_ce, .inl (cT 2, 40, .inl f_ce))] → va_S A s.heap H locs → lv_has ls 6 [(0, .ref h_e), (1, .ref h_c), (2, .int x2), (3, .int x3)] → K12 x2 x3 f_ec → W p l e ({ frames := 1, cells := 0, slots := 0, locals := 24 } : Room) s m args below meth c H locs 0 0 Q (F0 m 12 ls [])) : ∀ (x2 : Int32) (x3 : Int32) (y0 : Int64) (f_ec : Nat → Int32) (H : Heap) (locs : List Loc) (ls : Array Slot), va_P D vwCl [(h_e, .inr (1, [.ref h_r, .ref h_ec, .ref h_ea, .int v_es, .long v_ed])), (h_r, .inr (6, [.long v_rp])), (h_ec, .inl (cT 0, 1640, .inl f_ec)), (h_ea, .inl (cT 1, 40, .inr (.inl f_ea))), (h_c, .inr (0, [.ref h_cw, .ref h_cl, .ref h_cp, .ref h_ce, .int v_cs])), (h_cw, .inl (cT 0, 40, .inl f_cw)), (h_cl, .inl (cT 0, 40, .inl f_cl)), (h_cp, .inl (cT 0, 1640, .inl f_cp)), (h_ce, .inl (cT 2, 40, .inl f_ce))] H → va_D A [(h_e, .inr (1, [.ref h_r, .ref h_ec, .ref h_ea, .int v_es, .long v_ed])), (h_r, .inr (6, [.long v_rp])), (h_ec, .inl (cT 0, 1640, .inl f_ec)), (h_ea, .inl (cT 1, 40, .inr (.inl f_ea))), (h_c, .inr (0, [.ref h_cw, .ref h_cl, .ref h_cp, .ref h_ce, .int v_cs])), (h_cw, .inl (cT 0, 40, .inl f_cw)), (h_cl, .inl (cT 0, 40, .inl f_cl)), (h_cp, .inl (cT 0, 1640, .inl f_cp)), (h_ce, .inl (cT 2, 40, .inl f_ce))] → va_S A s.heap H locs → lv_has ls 6 [(0, .ref h_e), (1, .ref h_c), (2, .int x2), (3, .int x3)] → wp_Equations_load_36 post v_es v_ed v_rp f_ea v_cs f_cw f_cl f_cp f_ce K2 K12 x2 x3 y0 f_ec → W p l e ({ frames := 1, cells := 0, slots := 0, locals := 24 } : Room) s m args below meth c H locs 0 0 Q (F0 m 36 ls [.long y0]) := by
  obtain ⟨⟨hx, hb, hml, hown, hts⟩, hK, hN⟩ := id C0
  intro x2 x3 y0 f_ec H locs ls hP hD hS hl hw
  unfold wp_Equations_load_36 at hw
  refine lv_lstore (lv' := [(4, .long y0), (0, .ref h_e), (1, .ref h_c), (2, .int x2), (3, .int x3)]) hx hb dX1_load_36 hl (by decide) rfl (fun ls hl => ?_)
  refine lv_aload_n hx hb dX1_load_38 rfl (lv_at hl 1 rfl) ?_
  refine va_get (D := D) (ci := 1) (v := .ref h_ec) (C := RX1) (T := TX1) (N := 5) hx hb hts inX1 hown hK hP 0 rfl rfl 1 (by decide) (hts _ q_80) (fun _ h9 => h9) rfl dX1_load_39 ?_
  refine lv_iload_n hx hb dX1_load_42 rfl (lv_at hl 3 rfl) ?_
  refine lv_bipush (v := 41) hx hb dX1_load_43 (by decide) ?_
  refine lv_imul hx hb dX1_load_45 ?_
  refine lv_iload_n hx hb dX1_load_46 rfl (lv_at hl 4 rfl) ?_
  refine lv_iadd hx hb dX1_load_47 ?_
  refine lv_aload_n hx hb dX1_load_48 rfl (lv_at hl 1 rfl) ?_
  refine va_get (D := D) (ci := 1) (v := .ref h_r) (C := RX1) (T := TX1) (N := 5) hx hb hts inX1 hown hK hP 0 rfl rfl 0 (by decide) (hts _ q_78) (fun _ h9 => h9) rfl dX1_load_49 ?_
  refine lv_lload hx hb dX1_load_52 (lv_at hl 0 rfl) ?_
  refine lv_aload_n hx hb dX1_load_54 rfl (lv_at hl 2 rfl) ?_
  refine va_getN (D := D) (ci := 0) (v := .ref h_cp) (C := RX0) (T := TX0) (N := 5) hx hb hts inX0 hown hK hP 4 rfl rfl 2 (by decide) (va_Nw.use rfl hN.2.1) (fun _ h9 => h9) rfl dX1_load_55 ?_
  refine lv_iload_n hx hb dX1_load_58 rfl (lv_at hl 3 rfl) ?_
  refine lv_bipush (v := 41) hx hb dX1_load_59 (by decide) ?_
  refine lv_imul hx hb dX1_load_61 ?_
  refine lv_iload_n hx hb dX1_load_62 rfl (lv_at hl 4 rfl) ?_
  refine lv_iadd hx hb dX1_load_63 ?_
  obtain ⟨h_7, hw⟩ := hw
  refine va_iald hx hb hK hP 7 0 rfl rfl h_7 dX1_load_64 ?_
  refine lv_i2l hx hb dX1_load_65 rfl ?_
  have hPc := hP.sub (ws' := [(h_r, .inr (6, [.long v_rp]))]) [1] rfl
  have hDc := hD.sub (ws' := [(h_r, .inr (6, [.long v_rp]))]) [1] (by decide) rfl
  have hFc := va_free (wc := [(h_r, .inr (6, [.long v_rp]))]) hD hS hA [1] rfl
  refine va_calll (va_runV (As := [.long y0, .long ((f_cp ((x2 * 41) + x3).toNatClampNeg).toInt64)]) (rest := [.int ((x2 * 41) + x3), .ref h_ec]) ⟨hx, hb, hml, hown, hts⟩ (cn_Remainders_minus l D cT h_r H.size v_rp y0 ((f_cp ((x2 * 41) + x3).toNatClampNeg).toInt64) _ hw) (gv_ 2 q_233 q_5 q_230 q_231 q_232 (by decide +kernel) ⟨Nat.le_of_ble_eq_true rfl, Nat.le_of_ble_eq_true rfl⟩ hts) ⟨pre_blind, va_recv hK hPc (ci := 6) (q0 := 0) rfl rfl, fun U hU hW => ⟨rfl, pre_mk hU hW hPc hK hDc hN⟩⟩ rfl rfl hl.1 rfl (lv_room (Nat.le_of_ble_eq_true rfl)) dX1_load_66 ⟨(Nat.zero_le _), (Nat.zero_le _)⟩) hS (fun q _ h => hFc q h) hFc (fun r_8 u9 t H locs ht hvm hw hB hz1 hk1 hS => ?_)
  obtain ⟨hP1, hD1⟩ := hB
  rw [ht] at hP1
  obtain ⟨hP, hD⟩ := va_join (wr := [(h_e, .inr (1, [.ref h_r, .ref h_ec, .ref h_ea, .int v_es, .long v_ed])), (h_ec, .inl (cT 0, 1640, .inl f_ec)), (h_ea, .inl (cT 1, 40, .inr (.inl f_ea))), (h_c, .inr (0, [.ref h_cw, .ref h_cl, .ref h_cp, .ref h_ce, .int v_cs])), (h_cw, .inl (cT 0, 40, .inl f_cw)), (h_cl, .inl (cT 0, 40, .inl f_cl)), (h_cp, .inl (cT 0, 1640, .inl f_cp)), (h_ce, .inl (cT 2, 40, .inl f_ce))]) (w1 := [(h_r, .inr (6, [.long v_rp]))]) hP hD [1] [0, 2, 3, 4, 5, 6, 7, 8] rfl rfl (by decide) (by decide) hk1 hFc hP1 hD1
  have hP := hP.sub (ws' := [(h_e, .inr (1, [.ref h_r, .ref h_ec, .ref h_ea, .int v_es, .long v_ed])), (h_r, .inr (6, [.long v_rp])), (h_ec, .inl (cT 0, 1640, .inl f_ec)), (h_ea, .inl (cT 1, 40, .inr (.inl f_ea))), (h_c, .inr (0, [.ref h_cw, .ref h_cl, .ref h_cp, .ref h_ce, .int v_cs])), (h_cw, .inl (cT 0, 40, .inl f_cw)), (h_cl, .inl (cT 0, 40, .inl f_cl)), (h_cp, .inl (cT 0, 1640, .inl f_cp)), (h_ce, .inl (cT 2, 40, .inl f_ce))]) [0, 8, 1, 2, 3, 4, 5, 6, 7] rfl
  have hD := hD.sub (ws' := [(h_e, .inr (1, [.ref h_r, .ref h_ec, .ref h_ea, .int v_es, .long v_ed])), (h_r, .inr (6, [.long v_rp])), (h_ec, .inl (cT 0, 1640, .inl f_ec)), (h_ea, .inl (cT 1, 40, .inr (.inl f_ea))), (h_c, .inr (0, [.ref h_cw, .ref h_cl, .ref h_cp, .ref h_ce, .int v_cs])), (h_cw, .inl (cT 0, 40, .inl f_cw)), (h_cl, .inl (cT 0, 40, .inl f_cl)), (h_cp, .inl (cT 0, 1640, .inl f_cp)), (h_ce, .inl (cT 2, 40, .inl f_ce))]) [0, 8, 1, 2, 3, 4, 5, 6, 7] (by decide) rfl
  clear hP1 hD1 hPc hDc hFc hk1 hz1 hvm ht
  try dsimp only at hw
  refine lv_l2i hx hb dX1_load_69 rfl ?_
  obtain ⟨h_9, hw⟩ := hw
  refine va_iast hx hb hK hP hD hS 2 0 rfl rfl h_9 dX1_load_70 (fun H locs hP hD hS => ?_)
  have hP : va_P D vwCl [(h_e, .inr (1, [.ref h_r, .ref h_ec, .ref h_ea, .int v_es, .long v_ed])), (h_r, .inr (6, [.long v_rp])), (h_ec, .inl (cT 0, 1640, .inl (upd f_ec ((x2 * 41) + x3).toNatClampNeg r_8.toInt32))), (h_ea, .inl (cT 1, 40, .inr (.inl f_ea))), (h_c, .inr (0, [.ref h_cw, .ref h_cl, .ref h_cp, .ref h_ce, .int v_cs])), (h_cw, .inl (cT 0, 40, .inl f_cw)), (h_cl, .inl (cT 0, 40, .inl f_cl)), (h_cp, .inl (cT 0, 1640, .inl f_cp)), (h_ce, .inl (cT 2, 40, .inl f_ce))] H := hP
  have hD : va_D A [(h_e, .inr (1, [.ref h_r, .ref h_ec, .ref h_ea, .int v_es, .long v_ed])), (h_r, .inr (6, [.long v_rp])), (h_ec, .inl (cT 0, 1640, .inl (upd f_ec ((x2 * 41) + x3).toNatClampNeg r_8.toInt32))), (h_ea, .inl (cT 1, 40, .inr (.inl f_ea))), (h_c, .inr (0, [.ref h_cw, .ref h_cl, .ref h_cp, .ref h_ce, .int v_cs])), (h_cw, .inl (cT 0, 40, .inl f_cw)), (h_cl, .inl (cT 0, 40, .inl f_cl)), (h_cp, .inl (cT 0, 1640, .inl f_cp)), (h_ce, .inl (cT 2, 40, .inl f_ce))] := hD
  obtain ⟨x3_10, ex3_10⟩ : ∃ y : Int32, y = x3 + 1 := ⟨_, rfl⟩
  refine lv_iinc (v := x3_10) (lv' := [(3, .int x3_10), (4, .long y0), (0, .ref h_e), (1, .ref h_c), (2, .int x2)]) hx hb dX1_load_71 hl (k := 4) rfl (by rw [ex3_10]; rfl) (by decide) rfl (fun ls hl => ?_)
  have hw := hw x3_10 ex3_10
  refine lv_goto (tgt := 12) hx hb dX1_load_74 (by decide) ?_
  exact hK12 _ _ _ _ _ _ hP hD hS (lv_sub hl [2, 3, 4, 0] rfl) hw
set_option maxHeartbeats 4000000 in
set_option maxRecDepth 100000 in
theorem tw_Equations_load_12 {post : (Nat → Int32) → Prop} {h_e h_r h_ec h_ea h_c h_cw h_cl h_cp h_ce : Nat} {v_es : Int32} {v_ed : Int64} {v_rp : Int64} {f_ea : Nat → Int64} {v_cs : Int32} {f_cw : Nat → Int32} {f_cl : Nat → Int32} {f_cp : Nat → Int32} {f_ce : Nat → Int32} {K2 : Int32 → (Nat → Int32) → Prop} (C0 : cx RX1 cX1_load 6 D cT p s m c args) (hA : ∀ q, s.heap.size ≤ q → A q) (hret : ∀ (f_ec : Nat → Int32) (H : Heap) (locs : List Loc) (pc : Nat) (ls : Array Slot), post f_ec → va_P D vwCl [(h_e, .inr (1, [.ref h_r, .ref h_ec, .ref h_ea, .int v_es, .long v_ed])), (h_r, .inr (6, [.long v_rp])), (h_ec, .inl (cT 0, 1640, .inl f_ec)), (h_ea, .inl (cT 1, 40, .inr (.inl f_ea))), (h_c, .inr (0, [.ref h_cw, .ref h_cl, .ref h_cp, .ref h_ce, .int v_cs])), (h_cw, .inl (cT 0, 40, .inl f_cw)), (h_cl, .inl (cT 0, 40, .inl f_cl)), (h_cp, .inl (cT 0, 1640, .inl f_cp)), (h_ce, .inl (cT 2, 40, .inl f_ce))] H → va_D A [(h_e, .inr (1, [.ref h_r, .ref h_ec, .ref h_ea, .int v_es, .long v_ed])), (h_r, .inr (6, [.long v_rp])), (h_ec, .inl (cT 0, 1640, .inl f_ec)), (h_ea, .inl (cT 1, 40, .inr (.inl f_ea))), (h_c, .inr (0, [.ref h_cw, .ref h_cl, .ref h_cp, .ref h_ce, .int v_cs])), (h_cw, .inl (cT 0, 40, .inl f_cw)), (h_cl, .inl (cT 0, 40, .inl f_cl)), (h_cp, .inl (cT 0, 1640, .inl f_cp)), (h_ce, .inl (cT 2, 40, .inl f_ce))] → va_S A s.heap H locs → decode cX1_load pc = .ok (.return_, 1) → W p l e ({ frames := 1, cells := 0, slots := 0, locals := 24 } : Room) s m args below meth c H locs 0 0 Q (F0 m pc ls [])) (hK2 : ∀ (x2 : Int32) (f_ec : Nat → Int32) (H : Heap) (locs : List Loc) (ls : Array Slot), va_P D vwCl [(h_e, .inr (1, [.ref h_r, .ref h_ec, .ref h_ea, .int v_es, .long v_ed])), (h_r, .inr (6, [.long v_rp])), (h_ec, .inl (cT 0, 1640, .inl f_ec)), (h_ea, .inl (cT 1, 40, .inr (.inl f_ea))), (h_c, .inr (0, [.ref h_cw, .ref h_cl, .ref h_cp, .ref h_ce, .int v_cs])), (h_cw, .inl (cT 0, 40, .inl f_cw)), (h_cl, .inl (cT 0, 40, .inl f_cl)), (h_cp, .inl (cT 0, 1640, .inl f_cp)), (h_ce, .inl (cT 2, 40, .inl f_ce))] H → va_D A [(h_e, .inr (1, [.ref h_r, .ref h_ec, .ref h_ea, .int v_es, .long v_ed])), (h_r, .inr (6, [.long v_rp])), (h_ec, .inl (cT 0, 1640, .inl f_ec)), (h_ea, .inl (cT 1, 40, .inr (.inl f_ea))), (h_c, .inr (0, [.ref h_cw, .ref h_cl, .ref h_cp, .ref h_ce, .int v_cs])), (h_cw, .inl (cT 0, 40, .inl f_cw)), (h_cl, .inl (cT 0, 40, .inl f_cl)), (h_cp, .inl (cT 0, 1640, .inl f_cp)), (h_ce, .inl (cT 2, 40, .inl f_ce))] → va_S A s.heap H locs → lv_has ls 6 [(0, .ref h_e), (1, .ref h_c), (2, .int x2)] → K2 x2 f_ec → W p l e ({ frames := 1, cells := 0, slots := 0, locals := 24 } : Room) s m args below meth c H locs 0 0 Q (F0 m 2 ls [])) : ∀ (n : Nat) (x2 : Int32) (x3 : Int32) (f_ec : Nat → Int32) (H : Heap) (locs : List Loc) (ls : Array Slot), va_P D vwCl [(h_e, .inr (1, [.ref h_r, .ref h_ec, .ref h_ea, .int v_es, .long v_ed])), (h_r, .inr (6, [.long v_rp])), (h_ec, .inl (cT 0, 1640, .inl f_ec)), (h_ea, .inl (cT 1, 40, .inr (.inl f_ea))), (h_c, .inr (0, [.ref h_cw, .ref h_cl, .ref h_cp, .ref h_ce, .int v_cs])), (h_cw, .inl (cT 0, 40, .inl f_cw)), (h_cl, .inl (cT 0, 40, .inl f_cl)), (h_cp, .inl (cT 0, 1640, .inl f_cp)), (h_ce, .inl (cT 2, 40, .inl f_ce))] H → va_D A [(h_e, .inr (1, [.ref h_r, .ref h_ec, .ref h_ea, .int v_es, .long v_ed])), (h_r, .inr (6, [.long v_rp])), (h_ec, .inl (cT 0, 1640, .inl f_ec)), (h_ea, .inl (cT 1, 40, .inr (.inl f_ea))), (h_c, .inr (0, [.ref h_cw, .ref h_cl, .ref h_cp, .ref h_ce, .int v_cs])), (h_cw, .inl (cT 0, 40, .inl f_cw)), (h_cl, .inl (cT 0, 40, .inl f_cl)), (h_cp, .inl (cT 0, 1640, .inl f_cp)), (h_ce, .inl (cT 2, 40, .inl f_ce))] → va_S A s.heap H locs → lv_has ls 6 [(0, .ref h_e), (1, .ref h_c), (2, .int x2), (3, .int x3)] → wp_Equations_load_12 post v_es v_ed v_rp f_ea v_cs f_cw f_cl f_cp f_ce K2 n x2 x3 f_ec → W p l e ({ frames := 1, cells := 0, slots := 0, locals := 24 } : Room) s m args below meth c H locs 0 0 Q (F0 m 12 ls []) := by
  obtain ⟨⟨hx, hb, hml, hown, hts⟩, hK, hN⟩ := id C0
  intro n
  induction n with
  | zero => intro x2 x3 f_ec H locs ls hP hD hS hl hw; exact hw.elim
  | succ n ih =>
    intro x2 x3 f_ec H locs ls hP hD hS hl hw
    unfold wp_Equations_load_12 at hw
    refine lv_iload_n hx hb dX1_load_12 rfl (lv_at hl 3 rfl) ?_
    refine lv_aload_n hx hb dX1_load_13 rfl (lv_at hl 0 rfl) ?_
    refine va_get (D := D) (ci := 1) (v := .int v_es) (C := RX1) (T := TX1) (N := 5) hx hb hts inX1 hown hK hP 0 rfl rfl 3 (by decide) (hts _ q_83) (fun _ h9 => h9) rfl dX1_load_14 ?_
    refine lv_icmp_ge (tgt := 77) hx hb dX1_load_17 (by decide) (fun c_2 => ?_) (fun c_2 => ?_)
    · have hw := hw.1 c_2
      refine lv_aload_n hx hb dX1_load_77 rfl (lv_at hl 0 rfl) ?_
      refine va_get (D := D) (ci := 1) (v := .ref h_ec) (C := RX1) (T := TX1) (N := 5) hx hb hts inX1 hown hK hP 0 rfl rfl 1 (by decide) (hts _ q_80) (fun _ h9 => h9) rfl dX1_load_78 ?_
      refine lv_iload_n hx hb dX1_load_81 rfl (lv_at hl 2 rfl) ?_
      refine lv_bipush (v := 41) hx hb dX1_load_82 (by decide) ?_
      refine lv_imul hx hb dX1_load_84 ?_
      refine lv_aload_n hx hb dX1_load_85 rfl (lv_at hl 0 rfl) ?_
      refine va_get (D := D) (ci := 1) (v := .int v_es) (C := RX1) (T := TX1) (N := 5) hx hb hts inX1 hown hK hP 0 rfl rfl 3 (by decide) (hts _ q_83) (fun _ h9 => h9) rfl dX1_load_86 ?_
      refine lv_iadd hx hb dX1_load_89 ?_
      refine lv_aload_n hx hb dX1_load_90 rfl (lv_at hl 1 rfl) ?_
      refine va_getN (D := D) (ci := 0) (v := .ref h_cp) (C := RX0) (T := TX0) (N := 5) hx hb hts inX0 hown hK hP 4 rfl rfl 2 (by decide) (va_Nw.use rfl hN.2.1) (fun _ h9 => h9) rfl dX1_load_91 ?_
      refine lv_iload_n hx hb dX1_load_94 rfl (lv_at hl 2 rfl) ?_
      refine lv_bipush (v := 41) hx hb dX1_load_95 (by decide) ?_
      refine lv_imul hx hb dX1_load_97 ?_
      refine lv_aload_n hx hb dX1_load_98 rfl (lv_at hl 0 rfl) ?_
      refine va_get (D := D) (ci := 1) (v := .int v_es) (C := RX1) (T := TX1) (N := 5) hx hb hts inX1 hown hK hP 0 rfl rfl 3 (by decide) (hts _ q_83) (fun _ h9 => h9) rfl dX1_load_99 ?_
      refine lv_iadd hx hb dX1_load_102 ?_
      obtain ⟨h_3, hw⟩ := hw
      refine va_iald hx hb hK hP 7 0 rfl rfl h_3 dX1_load_103 ?_
      obtain ⟨h_4, hw⟩ := hw
      refine va_iast hx hb hK hP hD hS 2 0 rfl rfl h_4 dX1_load_104 (fun H locs hP hD hS => ?_)
      have hP : va_P D vwCl [(h_e, .inr (1, [.ref h_r, .ref h_ec, .ref h_ea, .int v_es, .long v_ed])), (h_r, .inr (6, [.long v_rp])), (h_ec, .inl (cT 0, 1640, .inl (upd f_ec ((x2 * 41) + v_es).toNatClampNeg (f_cp ((x2 * 41) + v_es).toNatClampNeg)))), (h_ea, .inl (cT 1, 40, .inr (.inl f_ea))), (h_c, .inr (0, [.ref h_cw, .ref h_cl, .ref h_cp, .ref h_ce, .int v_cs])), (h_cw, .inl (cT 0, 40, .inl f_cw)), (h_cl, .inl (cT 0, 40, .inl f_cl)), (h_cp, .inl (cT 0, 1640, .inl f_cp)), (h_ce, .inl (cT 2, 40, .inl f_ce))] H := hP
      have hD : va_D A [(h_e, .inr (1, [.ref h_r, .ref h_ec, .ref h_ea, .int v_es, .long v_ed])), (h_r, .inr (6, [.long v_rp])), (h_ec, .inl (cT 0, 1640, .inl (upd f_ec ((x2 * 41) + v_es).toNatClampNeg (f_cp ((x2 * 41) + v_es).toNatClampNeg)))), (h_ea, .inl (cT 1, 40, .inr (.inl f_ea))), (h_c, .inr (0, [.ref h_cw, .ref h_cl, .ref h_cp, .ref h_ce, .int v_cs])), (h_cw, .inl (cT 0, 40, .inl f_cw)), (h_cl, .inl (cT 0, 40, .inl f_cl)), (h_cp, .inl (cT 0, 1640, .inl f_cp)), (h_ce, .inl (cT 2, 40, .inl f_ce))] := hD
      obtain ⟨x2_5, ex2_5⟩ : ∃ y : Int32, y = x2 + 1 := ⟨_, rfl⟩
      refine lv_iinc (v := x2_5) (lv' := [(2, .int x2_5), (0, .ref h_e), (1, .ref h_c), (3, .int x3)]) hx hb dX1_load_105 hl (k := 2) rfl (by rw [ex2_5]; rfl) (by decide) rfl (fun ls hl => ?_)
      have hw := hw x2_5 ex2_5
      refine lv_goto (tgt := 2) hx hb dX1_load_108 (by decide) ?_
      exact hK2 _ _ _ _ _ hP hD hS (lv_sub hl [1, 2, 0] rfl) hw
    · have hw := hw.2 c_2
      refine lv_iload_n hx hb dX1_load_20 rfl (lv_at hl 2 rfl) ?_
      refine lv_iload_n hx hb dX1_load_21 rfl (lv_at hl 3 rfl) ?_
      refine lv_icmp_ne (tgt := 35) hx hb dX1_load_22 (by decide) (fun c_6 => ?_) (fun c_6 => ?_)
      · have hw := hw.2 c_6
        refine lv_lconst (v := 0) hx hb dX1_load_35 (by decide) ?_
        exact tw_Equations_load_36 C0 hA hret hK2 ih _ _ _ _ _ _ _ hP hD hS (lv_sub hl [0, 1, 2, 3] rfl) hw
      · have hw := hw.1 c_6
        refine lv_aload_n hx hb dX1_load_25 rfl (lv_at hl 1 rfl) ?_
        refine va_getN (D := D) (ci := 0) (v := .ref h_cw) (C := RX0) (T := TX0) (N := 5) hx hb hts inX0 hown hK hP 4 rfl rfl 0 (by decide) (va_Nw.use rfl hN.1) (fun _ h9 => h9) rfl dX1_load_26 ?_
        refine lv_iload_n hx hb dX1_load_29 rfl (lv_at hl 2 rfl) ?_
        obtain ⟨h_11, hw⟩ := hw
        refine va_iald hx hb hK hP 5 0 rfl rfl h_11 dX1_load_30 ?_
        refine lv_i2l hx hb dX1_load_31 rfl ?_
        refine lv_goto (tgt := 36) hx hb dX1_load_32 (by decide) ?_
        exact tw_Equations_load_36 C0 hA hret hK2 ih _ _ _ _ _ _ _ hP hD hS (lv_sub hl [0, 1, 2, 3] rfl) hw
set_option maxHeartbeats 4000000 in
set_option maxRecDepth 100000 in
theorem tw_Equations_load_2 {post : (Nat → Int32) → Prop} {h_e h_r h_ec h_ea h_c h_cw h_cl h_cp h_ce : Nat} {v_es : Int32} {v_ed : Int64} {v_rp : Int64} {f_ea : Nat → Int64} {v_cs : Int32} {f_cw : Nat → Int32} {f_cl : Nat → Int32} {f_cp : Nat → Int32} {f_ce : Nat → Int32}  (C0 : cx RX1 cX1_load 6 D cT p s m c args) (hA : ∀ q, s.heap.size ≤ q → A q) (hret : ∀ (f_ec : Nat → Int32) (H : Heap) (locs : List Loc) (pc : Nat) (ls : Array Slot), post f_ec → va_P D vwCl [(h_e, .inr (1, [.ref h_r, .ref h_ec, .ref h_ea, .int v_es, .long v_ed])), (h_r, .inr (6, [.long v_rp])), (h_ec, .inl (cT 0, 1640, .inl f_ec)), (h_ea, .inl (cT 1, 40, .inr (.inl f_ea))), (h_c, .inr (0, [.ref h_cw, .ref h_cl, .ref h_cp, .ref h_ce, .int v_cs])), (h_cw, .inl (cT 0, 40, .inl f_cw)), (h_cl, .inl (cT 0, 40, .inl f_cl)), (h_cp, .inl (cT 0, 1640, .inl f_cp)), (h_ce, .inl (cT 2, 40, .inl f_ce))] H → va_D A [(h_e, .inr (1, [.ref h_r, .ref h_ec, .ref h_ea, .int v_es, .long v_ed])), (h_r, .inr (6, [.long v_rp])), (h_ec, .inl (cT 0, 1640, .inl f_ec)), (h_ea, .inl (cT 1, 40, .inr (.inl f_ea))), (h_c, .inr (0, [.ref h_cw, .ref h_cl, .ref h_cp, .ref h_ce, .int v_cs])), (h_cw, .inl (cT 0, 40, .inl f_cw)), (h_cl, .inl (cT 0, 40, .inl f_cl)), (h_cp, .inl (cT 0, 1640, .inl f_cp)), (h_ce, .inl (cT 2, 40, .inl f_ce))] → va_S A s.heap H locs → decode cX1_load pc = .ok (.return_, 1) → W p l e ({ frames := 1, cells := 0, slots := 0, locals := 24 } : Room) s m args below meth c H locs 0 0 Q (F0 m pc ls []))  : ∀ (n : Nat) (x2 : Int32) (f_ec : Nat → Int32) (H : Heap) (locs : List Loc) (ls : Array Slot), va_P D vwCl [(h_e, .inr (1, [.ref h_r, .ref h_ec, .ref h_ea, .int v_es, .long v_ed])), (h_r, .inr (6, [.long v_rp])), (h_ec, .inl (cT 0, 1640, .inl f_ec)), (h_ea, .inl (cT 1, 40, .inr (.inl f_ea))), (h_c, .inr (0, [.ref h_cw, .ref h_cl, .ref h_cp, .ref h_ce, .int v_cs])), (h_cw, .inl (cT 0, 40, .inl f_cw)), (h_cl, .inl (cT 0, 40, .inl f_cl)), (h_cp, .inl (cT 0, 1640, .inl f_cp)), (h_ce, .inl (cT 2, 40, .inl f_ce))] H → va_D A [(h_e, .inr (1, [.ref h_r, .ref h_ec, .ref h_ea, .int v_es, .long v_ed])), (h_r, .inr (6, [.long v_rp])), (h_ec, .inl (cT 0, 1640, .inl f_ec)), (h_ea, .inl (cT 1, 40, .inr (.inl f_ea))), (h_c, .inr (0, [.ref h_cw, .ref h_cl, .ref h_cp, .ref h_ce, .int v_cs])), (h_cw, .inl (cT 0, 40, .inl f_cw)), (h_cl, .inl (cT 0, 40, .inl f_cl)), (h_cp, .inl (cT 0, 1640, .inl f_cp)), (h_ce, .inl (cT 2, 40, .inl f_ce))] → va_S A s.heap H locs → lv_has ls 6 [(0, .ref h_e), (1, .ref h_c), (2, .int x2)] → wp_Equations_load_2 post v_es v_ed v_rp f_ea v_cs f_cw f_cl f_cp f_ce n x2 f_ec → W p l e ({ frames := 1, cells := 0, slots := 0, locals := 24 } : Room) s m args below meth c H locs 0 0 Q (F0 m 2 ls []) := by
  obtain ⟨⟨hx, hb, hml, hown, hts⟩, hK, hN⟩ := id C0
  intro n
  induction n with
  | zero => intro x2 f_ec H locs ls hP hD hS hl hw; exact hw.elim
  | succ n ih =>
    intro x2 f_ec H locs ls hP hD hS hl hw
    unfold wp_Equations_load_2 at hw
    refine lv_iload_n hx hb dX1_load_2 rfl (lv_at hl 2 rfl) ?_
    refine lv_aload_n hx hb dX1_load_3 rfl (lv_at hl 0 rfl) ?_
    refine va_get (D := D) (ci := 1) (v := .int v_es) (C := RX1) (T := TX1) (N := 5) hx hb hts inX1 hown hK hP 0 rfl rfl 3 (by decide) (hts _ q_83) (fun _ h9 => h9) rfl dX1_load_4 ?_
    refine lv_icmp_ge (tgt := 111) hx hb dX1_load_7 (by decide) (fun c_1 => ?_) (fun c_1 => ?_)
    · have hw := hw.1 c_1
      exact hret _ _ _ _ _ hw hP hD hS dX1_load_111
    · have hw := hw.2 c_1
      refine lv_iconst (v := 0) hx hb dX1_load_10 (by decide) ?_
      refine lv_istore_n (lv' := [(3, .int 0), (0, .ref h_e), (1, .ref h_c), (2, .int x2)]) hx hb dX1_load_11 rfl hl (by decide) rfl (fun ls hl => ?_)
      obtain ⟨n9, hw⟩ := hw
      exact tw_Equations_load_12 C0 hA hret ih n9 _ _ _ _ _ _ hP hD hS (lv_sub hl [1, 2, 3, 0] rfl) hw
set_option maxHeartbeats 4000000 in
set_option maxRecDepth 100000 in
theorem tw_Equations_load {post : (Nat → Int32) → Prop} {h_e h_r h_ec h_ea h_c h_cw h_cl h_cp h_ce : Nat} {v_es : Int32} {v_ed : Int64} {v_rp : Int64} {f_ea : Nat → Int64} {v_cs : Int32} {f_cw : Nat → Int32} {f_cl : Nat → Int32} {f_cp : Nat → Int32} {f_ce : Nat → Int32}  (C0 : cx RX1 cX1_load 6 D cT p s m c args) (hA : ∀ q, s.heap.size ≤ q → A q) (hret : ∀ (f_ec : Nat → Int32) (H : Heap) (locs : List Loc) (pc : Nat) (ls : Array Slot), post f_ec → va_P D vwCl [(h_e, .inr (1, [.ref h_r, .ref h_ec, .ref h_ea, .int v_es, .long v_ed])), (h_r, .inr (6, [.long v_rp])), (h_ec, .inl (cT 0, 1640, .inl f_ec)), (h_ea, .inl (cT 1, 40, .inr (.inl f_ea))), (h_c, .inr (0, [.ref h_cw, .ref h_cl, .ref h_cp, .ref h_ce, .int v_cs])), (h_cw, .inl (cT 0, 40, .inl f_cw)), (h_cl, .inl (cT 0, 40, .inl f_cl)), (h_cp, .inl (cT 0, 1640, .inl f_cp)), (h_ce, .inl (cT 2, 40, .inl f_ce))] H → va_D A [(h_e, .inr (1, [.ref h_r, .ref h_ec, .ref h_ea, .int v_es, .long v_ed])), (h_r, .inr (6, [.long v_rp])), (h_ec, .inl (cT 0, 1640, .inl f_ec)), (h_ea, .inl (cT 1, 40, .inr (.inl f_ea))), (h_c, .inr (0, [.ref h_cw, .ref h_cl, .ref h_cp, .ref h_ce, .int v_cs])), (h_cw, .inl (cT 0, 40, .inl f_cw)), (h_cl, .inl (cT 0, 40, .inl f_cl)), (h_cp, .inl (cT 0, 1640, .inl f_cp)), (h_ce, .inl (cT 2, 40, .inl f_ce))] → va_S A s.heap H locs → decode cX1_load pc = .ok (.return_, 1) → W p l e ({ frames := 1, cells := 0, slots := 0, locals := 24 } : Room) s m args below meth c H locs 0 0 Q (F0 m pc ls []))  : ∀ (f_ec : Nat → Int32) (H : Heap) (locs : List Loc) (ls : Array Slot), va_P D vwCl [(h_e, .inr (1, [.ref h_r, .ref h_ec, .ref h_ea, .int v_es, .long v_ed])), (h_r, .inr (6, [.long v_rp])), (h_ec, .inl (cT 0, 1640, .inl f_ec)), (h_ea, .inl (cT 1, 40, .inr (.inl f_ea))), (h_c, .inr (0, [.ref h_cw, .ref h_cl, .ref h_cp, .ref h_ce, .int v_cs])), (h_cw, .inl (cT 0, 40, .inl f_cw)), (h_cl, .inl (cT 0, 40, .inl f_cl)), (h_cp, .inl (cT 0, 1640, .inl f_cp)), (h_ce, .inl (cT 2, 40, .inl f_ce))] H → va_D A [(h_e, .inr (1, [.ref h_r, .ref h_ec, .ref h_ea, .int v_es, .long v_ed])), (h_r, .inr (6, [.long v_rp])), (h_ec, .inl (cT 0, 1640, .inl f_ec)), (h_ea, .inl (cT 1, 40, .inr (.inl f_ea))), (h_c, .inr (0, [.ref h_cw, .ref h_cl, .ref h_cp, .ref h_ce, .int v_cs])), (h_cw, .inl (cT 0, 40, .inl f_cw)), (h_cl, .inl (cT 0, 40, .inl f_cl)), (h_cp, .inl (cT 0, 1640, .inl f_cp)), (h_ce, .inl (cT 2, 40, .inl f_ce))] → va_S A s.heap H locs → lv_has ls 6 [(0, .ref h_e), (1, .ref h_c)] → wp_Equations_load post v_es v_ed v_rp f_ea v_cs f_cw f_cl f_cp f_ce f_ec → W p l e ({ frames := 1, cells := 0, slots := 0, locals := 24 } : Room) s m args below meth c H locs 0 0 Q (F0 m 0 ls []) := by
  obtain ⟨⟨hx, hb, hml, hown, hts⟩, hK, hN⟩ := id C0
  intro f_ec H locs ls hP hD hS hl hw
  unfold wp_Equations_load at hw
  refine lv_iconst (v := 0) hx hb dX1_load_0 (by decide) ?_
  refine lv_istore_n (lv' := [(2, .int 0), (0, .ref h_e), (1, .ref h_c)]) hx hb dX1_load_1 rfl hl (by decide) rfl (fun ls hl => ?_)
  obtain ⟨n9, hw⟩ := hw
  exact tw_Equations_load_2 C0 hA hret  n9 _ _ _ _ _ hP hD hS (lv_sub hl [1, 2, 0] rfl) hw
set_option maxHeartbeats 4000000 in
set_option maxRecDepth 100000 in
theorem cn_Equations_load (l : Launch) (D : va_G) (cT : Nat → ClassId) (h_e h_r h_ec h_ea h_c h_cw h_cl h_cp h_ce : Nat) (sz : Nat) (v_es : Int32) (v_ed : Int64) (v_rp : Int64) (f_ec : Nat → Int32) (f_ea : Nat → Int64) (v_cs : Int32) (f_cw : Nat → Int32) (f_cl : Nat → Int32) (f_cp : Nat → Int32) (f_ce : Nat → Int32)  (post : (Nat → Int32) → Prop) (hw : wp_Equations_load post v_es v_ed v_rp f_ea v_cs f_cw f_cl f_cp f_ce f_ec) : Met l yX1_load wX1_load ({ frames := 1, cells := 0, slots := 0, locals := 24 } : Room) (va_Pc [.ref h_e, .ref h_c] (pre_ D cT [(h_e, .inr (1, [.ref h_r, .ref h_ec, .ref h_ea, .int v_es, .long v_ed])), (h_r, .inr (6, [.long v_rp])), (h_ec, .inl (cT 0, 1640, .inl f_ec)), (h_ea, .inl (cT 1, 40, .inr (.inl f_ea))), (h_c, .inr (0, [.ref h_cw, .ref h_cl, .ref h_cp, .ref h_ce, .int v_cs])), (h_cw, .inl (cT 0, 40, .inl f_cw)), (h_cl, .inl (cT 0, 40, .inl f_cl)), (h_cp, .inl (cT 0, 1640, .inl f_cp)), (h_ce, .inl (cT 2, 40, .inl f_ce))] sz)) (va_Qv (fun (u : (Nat → Int32)) => post u) (fun u t => va_P D vwCl [(h_e, .inr (1, [.ref h_r, .ref h_ec, .ref h_ea, .int v_es, .long v_ed])), (h_r, .inr (6, [.long v_rp])), (h_ec, .inl (cT 0, 1640, .inl u)), (h_ea, .inl (cT 1, 40, .inr (.inl f_ea))), (h_c, .inr (0, [.ref h_cw, .ref h_cl, .ref h_cp, .ref h_ce, .int v_cs])), (h_cw, .inl (cT 0, 40, .inl f_cw)), (h_cl, .inl (cT 0, 40, .inl f_cl)), (h_cp, .inl (cT 0, 1640, .inl f_cp)), (h_ce, .inl (cT 2, 40, .inl f_ce))] t.heap ∧ va_D (va_A [(h_e, .inr (1, [.ref h_r, .ref h_ec, .ref h_ea, .int v_es, .long v_ed])), (h_r, .inr (6, [.long v_rp])), (h_ec, .inl (cT 0, 1640, .inl f_ec)), (h_ea, .inl (cT 1, 40, .inr (.inl f_ea))), (h_c, .inr (0, [.ref h_cw, .ref h_cl, .ref h_cp, .ref h_ce, .int v_cs])), (h_cw, .inl (cT 0, 40, .inl f_cw)), (h_cl, .inl (cT 0, 40, .inl f_cl)), (h_cp, .inl (cT 0, 1640, .inl f_cp)), (h_ce, .inl (cT 2, 40, .inl f_ce))] sz) [(h_e, .inr (1, [.ref h_r, .ref h_ec, .ref h_ea, .int v_es, .long v_ed])), (h_r, .inr (6, [.long v_rp])), (h_ec, .inl (cT 0, 1640, .inl u)), (h_ea, .inl (cT 1, 40, .inr (.inl f_ea))), (h_c, .inr (0, [.ref h_cw, .ref h_cl, .ref h_cp, .ref h_ce, .int v_cs])), (h_cw, .inl (cT 0, 40, .inl f_cw)), (h_cl, .inl (cT 0, 40, .inl f_cl)), (h_cp, .inl (cT 0, 1640, .inl f_cp)), (h_ce, .inl (cT 2, 40, .inl f_ce))]) (va_A [(h_e, .inr (1, [.ref h_r, .ref h_ec, .ref h_ea, .int v_es, .long v_ed])), (h_r, .inr (6, [.long v_rp])), (h_ec, .inl (cT 0, 1640, .inl f_ec)), (h_ea, .inl (cT 1, 40, .inr (.inl f_ea))), (h_c, .inr (0, [.ref h_cw, .ref h_cl, .ref h_cp, .ref h_ce, .int v_cs])), (h_cw, .inl (cT 0, 40, .inl f_cw)), (h_cl, .inl (cT 0, 40, .inl f_cl)), (h_cp, .inl (cT 0, 1640, .inl f_cp)), (h_ce, .inl (cT 2, 40, .inl f_ce))] sz)) 0 0 (va_A [(h_e, .inr (1, [.ref h_r, .ref h_ec, .ref h_ea, .int v_es, .long v_ed])), (h_r, .inr (6, [.long v_rp])), (h_ec, .inl (cT 0, 1640, .inl f_ec)), (h_ea, .inl (cT 1, 40, .inr (.inl f_ea))), (h_c, .inr (0, [.ref h_cw, .ref h_cl, .ref h_cp, .ref h_ce, .int v_cs])), (h_cw, .inl (cT 0, 40, .inl f_cw)), (h_cl, .inl (cT 0, 40, .inl f_cl)), (h_cp, .inl (cT 0, 1640, .inl f_cp)), (h_ce, .inl (cT 2, 40, .inl f_ce))] sz) := by
  refine Met.ofW (cc := cX1_load) (maxL := 6) (ret := none) (by decide) rfl ?_
  intro p e s m args below meth c s₁ B hml hv
  obtain ⟨rfl, hsz, hP, hK, hD0, hN⟩ := hv
  have hx := B.exec
  have hb := B.bytes
  have hr := B.returns
  have hts : ∀ w ∈ WG, w.before _ s = true := fun w h => atoms_spec (ws := wX1_load) B.pre w (List.mem_cons_of_mem _ h)
  have hown : s.vm.findClass RX1 = some m.cls := findClass_of_methodNamed B.named
  have hlocks := B.notSynchronized
  subst hsz
  have hD := hD0.self (sz := s.heap.size)
  generalize hAe : va_A [(h_e, .inr (1, [.ref h_r, .ref h_ec, .ref h_ea, .int v_es, .long v_ed])), (h_r, .inr (6, [.long v_rp])), (h_ec, .inl (cT 0, 1640, .inl f_ec)), (h_ea, .inl (cT 1, 40, .inr (.inl f_ea))), (h_c, .inr (0, [.ref h_cw, .ref h_cl, .ref h_cp, .ref h_ce, .int v_cs])), (h_cw, .inl (cT 0, 40, .inl f_cw)), (h_cl, .inl (cT 0, 40, .inl f_cl)), (h_cp, .inl (cT 0, 1640, .inl f_cp)), (h_ce, .inl (cT 2, 40, .inl f_ce))] s.heap.size = A at hD ⊢
  have hA : ∀ q : Nat, s.heap.size ≤ q → A q := fun q h => by rw [← hAe]; exact Or.inr h
  have hS : va_S A s.heap s.heap [] := va_S.rf
  have hl := lv_entry ([.ref h_e, .ref h_c]) (n := 6) (Nat.le_of_ble_eq_true rfl)
  rw [lg_entry_eq]
  generalize (lg_sl ([.ref h_e, .ref h_c]) ++ List.replicate (6 - (lg_sl ([.ref h_e, .ref h_c])).length) Slot.unset).toArray = ls at hl ⊢
  refine tw_Equations_load (Q := MQ below _ _ s 0 0 A) ⟨⟨hx, hb, hml, hown, hts⟩, hK, hN⟩ hA (fun f_ec H locs pc ls hp hP hD hS hd => W.vret hx hb hr (fun t ht hW => ⟨⟨(f_ec), rfl, hp, by rw [ht]; exact hP, hD⟩, hS.F ht⟩) hS.2.2 hd) _ _ _ _ hP hD hS hl hw
end
def wp_Equations_eliminate_117 (post : Int32 → Int64 → (Nat → Int32) → Prop) (v_es : Int32) (v_rp : Int64) (f_ea : Nat → Int64) (K86 : Int32 → Int32 → Int64 → (Nat → Int32) → Prop) (x1 : Int32) (x5 : Int32) (v_ed : Int64) (f_ec : Nat → Int32) : Prop := ∀ x5_13 : Int32, x5_13 = x5 + 1 → K86 x1 x5_13 v_ed f_ec
def wp_Equations_eliminate_86 (post : Int32 → Int64 → (Nat → Int32) → Prop) (v_es : Int32) (v_rp : Int64) (f_ea : Nat → Int64)  : Nat → Int32 → Int32 → Int64 → (Nat → Int32) → Prop
  | 0 => fun _ _ _ _ => False
  | n + 1 => fun x1 x5 v_ed f_ec => ((v_es ≤ x5 → (post 1 v_ed f_ec)) ∧ (¬ v_es ≤ x5 → ((vp_in ((x5 * 41) + x1) 1640 ∧ ((((f_ec ((x5 * 41) + x1).toNatClampNeg) = 0 → (wp_Equations_eliminate_117 post v_es v_rp f_ea (wp_Equations_eliminate_86 post v_es v_rp f_ea n) x1 x5 v_ed f_ec)) ∧ (¬ (f_ec ((x5 * 41) + x1).toNatClampNeg) = 0 → (wp_Equations_clearCell (fun u_14 => wp_Equations_eliminate_117 post v_es v_rp f_ea (wp_Equations_eliminate_86 post v_es v_rp f_ea n) x1 x5 v_ed u_14) v_es v_ed v_rp f_ea x5 x1 f_ec))))))))
def wp_Equations_eliminate_39 (post : Int32 → Int64 → (Nat → Int32) → Prop) (v_es : Int32) (v_rp : Int64) (f_ea : Nat → Int64)  (x1 : Int32) (v_ed : Int64) (f_ec : Nat → Int32) : Prop := (vp_in ((x1 * 41) + x1) 1640 ∧ (∀ x3_5 : Int64, x3_5 = (f_ec ((x1 * 41) + x1).toNatClampNeg).toInt64 → wp_Remainders_times (fun r_6 => wp_Remainders_inverse (fun r_7 => wp_Equations_scaleRow (fun u_8 => ∀ x5_9 : Int32, x5_9 = x1 + 1 → ∃ k9, wp_Equations_eliminate_86 post v_es v_rp f_ea k9 x1 x5_9 r_6 u_8) v_es r_6 v_rp f_ea x1 r_7 f_ec) v_rp x3_5) v_rp v_ed x3_5))
def wp_Equations_eliminate (post : Int32 → Int64 → (Nat → Int32) → Prop) (v_es : Int32) (v_rp : Int64) (f_ea : Nat → Int64)  (x1 : Int32) (v_ed : Int64) (f_ec : Nat → Int32) : Prop := wp_Equations_pivotRow (fun r_1 => ((0 ≤ r_1 → (((r_1 = x1 → (wp_Equations_eliminate_39 post v_es v_rp f_ea x1 v_ed f_ec)) ∧ (¬ r_1 = x1 → (wp_Equations_swapRows (fun u_15 => wp_Remainders_minus (fun r_16 => wp_Equations_eliminate_39 post v_es v_rp f_ea x1 r_16 u_15) v_rp 0 v_ed) v_es v_ed v_rp f_ea r_1 x1 f_ec))))) ∧ (¬ 0 ≤ r_1 → (post 0 v_ed f_ec)))) v_es v_ed v_rp f_ec f_ea x1
section
variable {p : Program} {l : Launch} {e : Env} {s : State} {m : MethodId} {args : Array Value} {below : List Frame} {meth : Method} {c : Code} {Q : State → Prop} {A : Nat → Prop} {D : va_G} {cT : Nat → ClassId}
set_option maxHeartbeats 4000000 in
set_option maxRecDepth 100000 in
theorem tw_Equations_eliminate_117 {post : Int32 → Int64 → (Nat → Int32) → Prop} {h_e h_r h_ec h_ea : Nat} {v_es : Int32} {v_rp : Int64} {f_ea : Nat → Int64} {K86 : Int32 → Int32 → Int64 → (Nat → Int32) → Prop} (C0 : cx RX1 cX1_eliminate 6 D cT p s m c args) (hA : ∀ q, s.heap.size ≤ q → A q) (hret : ∀ (r : Int32) (v_ed : Int64) (f_ec : Nat → Int32) (H : Heap) (locs : List Loc) (pc : Nat) (ls : Array Slot), narrow .boolean (.int r) = .int r → post r v_ed f_ec → va_P D vwCl [(h_e, .inr (1, [.ref h_r, .ref h_ec, .ref h_ea, .int v_es, .long v_ed])), (h_r, .inr (6, [.long v_rp])), (h_ec, .inl (cT 0, 1640, .inl f_ec)), (h_ea, .inl (cT 1, 40, .inr (.inl f_ea)))] H → va_D A [(h_e, .inr (1, [.ref h_r, .ref h_ec, .ref h_ea, .int v_es, .long v_ed])), (h_r, .inr (6, [.long v_rp])), (h_ec, .inl (cT 0, 1640, .inl f_ec)), (h_ea, .inl (cT 1, 40, .inr (.inl f_ea)))] → va_S A s.heap H locs → decode cX1_eliminate pc = .ok (.ireturn, 1) → W p l e ({ frames := 3, cells := 0, slots := 0, locals := 78 } : Room) s m args below meth c H locs 0 0 Q (F0 m pc ls [.int r])) (hK86 : ∀ (x1 : Int32) (x5 : Int32) (v_ed : Int64) (f_ec : Nat → Int32) (H : Heap) (locs : List Loc) (ls : Array Slot), va_P D vwCl [(h_e, .inr (1, [.ref h_r, .ref h_ec, .ref h_ea, .int v_es, .long v_ed])), (h_r, .inr (6, [.long v_rp])), (h_ec, .inl (cT 0, 1640, .inl f_ec)), (h_ea, .inl (cT 1, 40, .inr (.inl f_ea)))] H → va_D A [(h_e, .inr (1, [.ref h_r, .ref h_ec, .ref h_ea, .int v_es, .long v_ed])), (h_r, .inr (6, [.long v_rp])), (h_ec, .inl (cT 0, 1640, .inl f_ec)), (h_ea, .inl (cT 1, 40, .inr (.inl f_ea)))] → va_S A s.heap H locs → lv_has ls 6 [(0, .ref h_e), (1, .int x1), (5, .int x5)] → K86 x1 x5 v_ed f_ec → W p l e ({ frames := 3, cells := 0, slots := 0, locals := 78 } : Room) s m args below meth c H locs 0 0 Q (F0 m 86 ls [])) : ∀ (x1 : Int32) (x5 : Int32) (v_ed : Int64) (f_ec : Nat → Int32) (H : Heap) (locs : List Loc) (ls : Array Slot), va_P D vwCl [(h_e, .inr (1, [.ref h_r, .ref h_ec, .ref h_ea, .int v_es, .long v_ed])), (h_r, .inr (6, [.long v_rp])), (h_ec, .inl (cT 0, 1640, .inl f_ec)), (h_ea, .inl (cT 1, 40, .inr (.inl f_ea)))] H → va_D A [(h_e, .inr (1, [.ref h_r, .ref h_ec, .ref h_ea, .int v_es, .long v_ed])), (h_r, .inr (6, [.long v_rp])), (h_ec, .inl (cT 0, 1640, .inl f_ec)), (h_ea, .inl (cT 1, 40, .inr (.inl f_ea)))] → va_S A s.heap H locs → lv_has ls 6 [(0, .ref h_e), (1, .int x1), (5, .int x5)] → wp_Equations_eliminate_117 post v_es v_rp f_ea K86 x1 x5 v_ed f_ec → W p l e ({ frames := 3, cells := 0, slots := 0, locals := 78 } : Room) s m args below meth c H locs 0 0 Q (F0 m 117 ls []) := by
  obtain ⟨⟨hx, hb, hml, hown, hts⟩, hK, hN⟩ := id C0
  intro x1 x5 v_ed f_ec H locs ls hP hD hS hl hw
  unfold wp_Equations_eliminate_117 at hw
  obtain ⟨x5_13, ex5_13⟩ : ∃ y : Int32, y = x5 + 1 := ⟨_, rfl⟩
  refine lv_iinc (v := x5_13) (lv' := [(5, .int x5_13), (0, .ref h_e), (1, .int x1)]) hx hb dX1_eliminate_117 hl (k := 2) rfl (by rw [ex5_13]; rfl) (by decide) rfl (fun ls hl => ?_)
  have hw := hw x5_13 ex5_13
  refine lv_goto (tgt := 86) hx hb dX1_eliminate_120 (by decide) ?_
  exact hK86 _ _ _ _ _ _ _ hP hD hS (lv_sub hl [1, 2, 0] rfl) hw
set_option maxHeartbeats 4000000 in
set_option maxRecDepth 100000 in
theorem tw_Equations_eliminate_86 {post : Int32 → Int64 → (Nat → Int32) → Prop} {h_e h_r h_ec h_ea : Nat} {v_es : Int32} {v_rp : Int64} {f_ea : Nat → Int64}  (C0 : cx RX1 cX1_eliminate 6 D cT p s m c args) (hA : ∀ q, s.heap.size ≤ q → A q) (hret : ∀ (r : Int32) (v_ed : Int64) (f_ec : Nat → Int32) (H : Heap) (locs : List Loc) (pc : Nat) (ls : Array Slot), narrow .boolean (.int r) = .int r → post r v_ed f_ec → va_P D vwCl [(h_e, .inr (1, [.ref h_r, .ref h_ec, .ref h_ea, .int v_es, .long v_ed])), (h_r, .inr (6, [.long v_rp])), (h_ec, .inl (cT 0, 1640, .inl f_ec)), (h_ea, .inl (cT 1, 40, .inr (.inl f_ea)))] H → va_D A [(h_e, .inr (1, [.ref h_r, .ref h_ec, .ref h_ea, .int v_es, .long v_ed])), (h_r, .inr (6, [.long v_rp])), (h_ec, .inl (cT 0, 1640, .inl f_ec)), (h_ea, .inl (cT 1, 40, .inr (.inl f_ea)))] → va_S A s.heap H locs → decode cX1_eliminate pc = .ok (.ireturn, 1) → W p l e ({ frames := 3, cells := 0, slots := 0, locals := 78 } : Room) s m args below meth c H locs 0 0 Q (F0 m pc ls [.int r]))  : ∀ (n : Nat) (x1 : Int32) (x5 : Int32) (v_ed : Int64) (f_ec : Nat → Int32) (H : Heap) (locs : List Loc) (ls : Array Slot), va_P D vwCl [(h_e, .inr (1, [.ref h_r, .ref h_ec, .ref h_ea, .int v_es, .long v_ed])), (h_r, .inr (6, [.long v_rp])), (h_ec, .inl (cT 0, 1640, .inl f_ec)), (h_ea, .inl (cT 1, 40, .inr (.inl f_ea)))] H → va_D A [(h_e, .inr (1, [.ref h_r, .ref h_ec, .ref h_ea, .int v_es, .long v_ed])), (h_r, .inr (6, [.long v_rp])), (h_ec, .inl (cT 0, 1640, .inl f_ec)), (h_ea, .inl (cT 1, 40, .inr (.inl f_ea)))] → va_S A s.heap H locs → lv_has ls 6 [(0, .ref h_e), (1, .int x1), (5, .int x5)] → wp_Equations_eliminate_86 post v_es v_rp f_ea n x1 x5 v_ed f_ec → W p l e ({ frames := 3, cells := 0, slots := 0, locals := 78 } : Room) s m args below meth c H locs 0 0 Q (F0 m 86 ls []) := by
  obtain ⟨⟨hx, hb, hml, hown, hts⟩, hK, hN⟩ := id C0
  intro n
  induction n with
  | zero => intro x1 x5 v_ed f_ec H locs ls hP hD hS hl hw; exact hw.elim
  | succ n ih =>
    intro x1 x5 v_ed f_ec H locs ls hP hD hS hl hw
    unfold wp_Equations_eliminate_86 at hw
    refine lv_iload hx hb dX1_eliminate_86 (lv_at hl 2 rfl) ?_
    refine lv_aload_n hx hb dX1_eliminate_88 rfl (lv_at hl 0 rfl) ?_
    refine va_get (D := D) (ci := 1) (v := .int v_es) (C := RX1) (T := TX1) (N := 5) hx hb hts inX1 hown hK hP 0 rfl rfl 3 (by decide) (hts _ q_83) (fun _ h9 => h9) rfl dX1_eliminate_89 ?_
    refine lv_icmp_ge (tgt := 123) hx hb dX1_eliminate_92 (by decide) (fun c_10 => ?_) (fun c_10 => ?_)
    · have hw := hw.1 c_10
      refine lv_iconst (v := 1) hx hb dX1_eliminate_123 (by decide) ?_
      exact hret _ _ _ _ _ _ _ rfl hw hP hD hS dX1_eliminate_124
    · have hw := hw.2 c_10
      refine lv_aload_n hx hb dX1_eliminate_95 rfl (lv_at hl 0 rfl) ?_
      refine va_get (D := D) (ci := 1) (v := .ref h_ec) (C := RX1) (T := TX1) (N := 5) hx hb hts inX1 hown hK hP 0 rfl rfl 1 (by decide) (hts _ q_80) (fun _ h9 => h9) rfl dX1_eliminate_96 ?_
      refine lv_iload hx hb dX1_eliminate_99 (lv_at hl 2 rfl) ?_
      refine lv_bipush (v := 41) hx hb dX1_eliminate_101 (by decide) ?_
      refine lv_imul hx hb dX1_eliminate_103 ?_
      refine lv_iload_n hx hb dX1_eliminate_104 rfl (lv_at hl 1 rfl) ?_
      refine lv_iadd hx hb dX1_eliminate_105 ?_
      obtain ⟨h_11, hw⟩ := hw
      refine va_iald hx hb hK hP 2 0 rfl rfl h_11 dX1_eliminate_106 ?_
      refine lv_if_eq (tgt := 117) hx hb dX1_eliminate_107 (by decide) (fun c_12 => ?_) (fun c_12 => ?_)
      · have hw := hw.1 c_12
        exact tw_Equations_eliminate_117 C0 hA hret ih _ _ _ _ _ _ _ hP hD hS (lv_sub hl [0, 1, 2] rfl) hw
      · have hw := hw.2 c_12
        refine lv_aload_n hx hb dX1_eliminate_110 rfl (lv_at hl 0 rfl) ?_
        refine lv_iload hx hb dX1_eliminate_111 (lv_at hl 2 rfl) ?_
        refine lv_iload_n hx hb dX1_eliminate_113 rfl (lv_at hl 1 rfl) ?_
        have hPc := hP.sub (ws' := [(h_e, .inr (1, [.ref h_r, .ref h_ec, .ref h_ea, .int v_es, .long v_ed])), (h_r, .inr (6, [.long v_rp])), (h_ec, .inl (cT 0, 1640, .inl f_ec)), (h_ea, .inl (cT 1, 40, .inr (.inl f_ea)))]) [0, 1, 2, 3] rfl
        have hDc := hD.sub (ws' := [(h_e, .inr (1, [.ref h_r, .ref h_ec, .ref h_ea, .int v_es, .long v_ed])), (h_r, .inr (6, [.long v_rp])), (h_ec, .inl (cT 0, 1640, .inl f_ec)), (h_ea, .inl (cT 1, 40, .inr (.inl f_ea)))]) [0, 1, 2, 3] (by decide) rfl
        have hFc := va_free (wc := [(h_e, .inr (1, [.ref h_r, .ref h_ec, .ref h_ea, .int v_es, .long v_ed])), (h_r, .inr (6, [.long v_rp])), (h_ec, .inl (cT 0, 1640, .inl f_ec)), (h_ea, .inl (cT 1, 40, .inr (.inl f_ea)))]) hD hS hA [0, 1, 2, 3] rfl
        refine va_callv (va_runV (As := [.int x5, .int x1]) (rest := []) ⟨hx, hb, hml, hown, hts⟩ (cn_Equations_clearCell l D cT h_e h_r h_ec h_ea H.size v_es v_ed v_rp f_ec f_ea x5 x1 _ hw) (gv_ 2 q_266 q_4 q_263 q_265 qs_7 (by decide +kernel) ⟨Nat.le_of_ble_eq_true rfl, Nat.le_of_ble_eq_true rfl⟩ hts) ⟨pre_blind, va_recv hK hPc (ci := 1) (q0 := 0) rfl rfl, fun U hU hW => ⟨rfl, pre_mk hU hW hPc hK hDc hN⟩⟩ rfl rfl hl.1 rfl (lv_room (Nat.le_of_ble_eq_true rfl)) dX1_eliminate_114 ⟨(Nat.zero_le _), (Nat.zero_le _)⟩) hS (fun q _ h => hFc q h) hFc (fun u9 t H locs ht hvm hw hB hz1 hk1 hS => ?_)
        obtain ⟨u_14, rfl⟩ : ∃ z, z = u9 := ⟨_, rfl⟩
        obtain ⟨hP1, hD1⟩ := hB
        rw [ht] at hP1
        obtain ⟨hP, hD⟩ := va_join (wr := []) (w1 := [(h_e, .inr (1, [.ref h_r, .ref h_ec, .ref h_ea, .int v_es, .long v_ed])), (h_r, .inr (6, [.long v_rp])), (h_ec, .inl (cT 0, 1640, .inl u_14)), (h_ea, .inl (cT 1, 40, .inr (.inl f_ea)))]) hP hD [0, 1, 2, 3] [] rfl rfl (by decide) (by decide) hk1 hFc hP1 hD1
        have hP := hP.sub (ws' := [(h_e, .inr (1, [.ref h_r, .ref h_ec, .ref h_ea, .int v_es, .long v_ed])), (h_r, .inr (6, [.long v_rp])), (h_ec, .inl (cT 0, 1640, .inl u_14)), (h_ea, .inl (cT 1, 40, .inr (.inl f_ea)))]) [0, 1, 2, 3] rfl
        have hD := hD.sub (ws' := [(h_e, .inr (1, [.ref h_r, .ref h_ec, .ref h_ea, .int v_es, .long v_ed])), (h_r, .inr (6, [.long v_rp])), (h_ec, .inl (cT 0, 1640, .inl u_14)), (h_ea, .inl (cT 1, 40, .inr (.inl f_ea)))]) [0, 1, 2, 3] (by decide) rfl
        clear hP1 hD1 hPc hDc hFc hk1 hz1 hvm ht
        try dsimp only at hw
        exact tw_Equations_eliminate_117 C0 hA hret ih _ _ _ _ _ _ _ hP hD hS (lv_sub hl [0, 1, 2] rfl) hw
set_option maxHeartbeats 4000000 in
set_option maxRecDepth 100000 in
theorem tw_Equations_eliminate_39 {post : Int32 → Int64 → (Nat → Int32) → Prop} {h_e h_r h_ec h_ea : Nat} {v_es : Int32} {v_rp : Int64} {f_ea : Nat → Int64}  (C0 : cx RX1 cX1_eliminate 6 D cT p s m c args) (hA : ∀ q, s.heap.size ≤ q → A q) (hret : ∀ (r : Int32) (v_ed : Int64) (f_ec : Nat → Int32) (H : Heap) (locs : List Loc) (pc : Nat) (ls : Array Slot), narrow .boolean (.int r) = .int r → post r v_ed f_ec → va_P D vwCl [(h_e, .inr (1, [.ref h_r, .ref h_ec, .ref h_ea, .int v_es, .long v_ed])), (h_r, .inr (6, [.long v_rp])), (h_ec, .inl (cT 0, 1640, .inl f_ec)), (h_ea, .inl (cT 1, 40, .inr (.inl f_ea)))] H → va_D A [(h_e, .inr (1, [.ref h_r, .ref h_ec, .ref h_ea, .int v_es, .long v_ed])), (h_r, .inr (6, [.long v_rp])), (h_ec, .inl (cT 0, 1640, .inl f_ec)), (h_ea, .inl (cT 1, 40, .inr (.inl f_ea)))] → va_S A s.heap H locs → decode cX1_eliminate pc = .ok (.ireturn, 1) → W p l e ({ frames := 3, cells := 0, slots := 0, locals := 78 } : Room) s m args below meth c H locs 0 0 Q (F0 m pc ls [.int r]))  : ∀ (x1 : Int32) (v_ed : Int64) (f_ec : Nat → Int32) (H : Heap) (locs : List Loc) (ls : Array Slot), va_P D vwCl [(h_e, .inr (1, [.ref h_r, .ref h_ec, .ref h_ea, .int v_es, .long v_ed])), (h_r, .inr (6, [.long v_rp])), (h_ec, .inl (cT 0, 1640, .inl f_ec)), (h_ea, .inl (cT 1, 40, .inr (.inl f_ea)))] H → va_D A [(h_e, .inr (1, [.ref h_r, .ref h_ec, .ref h_ea, .int v_es, .long v_ed])), (h_r, .inr (6, [.long v_rp])), (h_ec, .inl (cT 0, 1640, .inl f_ec)), (h_ea, .inl (cT 1, 40, .inr (.inl f_ea)))] → va_S A s.heap H locs → lv_has ls 6 [(0, .ref h_e), (1, .int x1)] → wp_Equations_eliminate_39 post v_es v_rp f_ea x1 v_ed f_ec → W p l e ({ frames := 3, cells := 0, slots := 0, locals := 78 } : Room) s m args below meth c H locs 0 0 Q (F0 m 39 ls []) := by
  obtain ⟨⟨hx, hb, hml, hown, hts⟩, hK, hN⟩ := id C0
  intro x1 v_ed f_ec H locs ls hP hD hS hl hw
  unfold wp_Equations_eliminate_39 at hw
  refine lv_aload_n hx hb dX1_eliminate_39 rfl (lv_at hl 0 rfl) ?_
  refine va_get (D := D) (ci := 1) (v := .ref h_ec) (C := RX1) (T := TX1) (N := 5) hx hb hts inX1 hown hK hP 0 rfl rfl 1 (by decide) (hts _ q_80) (fun _ h9 => h9) rfl dX1_eliminate_40 ?_
  refine lv_iload_n hx hb dX1_eliminate_43 rfl (lv_at hl 1 rfl) ?_
  refine lv_bipush (v := 41) hx hb dX1_eliminate_44 (by decide) ?_
  refine lv_imul hx hb dX1_eliminate_46 ?_
  refine lv_iload_n hx hb dX1_eliminate_47 rfl (lv_at hl 1 rfl) ?_
  refine lv_iadd hx hb dX1_eliminate_48 ?_
  obtain ⟨h_4, hw⟩ := hw
  refine va_iald hx hb hK hP 2 0 rfl rfl h_4 dX1_eliminate_49 ?_
  refine lv_i2l hx hb dX1_eliminate_50 rfl ?_
  refine lv_topl (fun x3_5 ex3_5 => ?_)
  have hw := hw x3_5 ex3_5
  refine lv_lstore_n (lv' := [(3, .long x3_5), (0, .ref h_e), (1, .int x1)]) hx hb dX1_eliminate_51 rfl hl (by decide) rfl (fun ls hl => ?_)
  refine lv_aload_n hx hb dX1_eliminate_52 rfl (lv_at hl 1 rfl) ?_
  refine lv_aload_n hx hb dX1_eliminate_53 rfl (lv_at hl 1 rfl) ?_
  refine va_get (D := D) (ci := 1) (v := .ref h_r) (C := RX1) (T := TX1) (N := 5) hx hb hts inX1 hown hK hP 0 rfl rfl 0 (by decide) (hts _ q_78) (fun _ h9 => h9) rfl dX1_eliminate_54 ?_
  refine lv_aload_n hx hb dX1_eliminate_57 rfl (lv_at hl 1 rfl) ?_
  refine va_get (D := D) (ci := 1) (v := .long v_ed) (C := RX1) (T := TX1) (N := 5) hx hb hts inX1 hown hK hP 0 rfl rfl 4 (by decide) (hts _ q_84) (fun _ h9 => h9) rfl dX1_eliminate_58 ?_
  refine lv_lload_n hx hb dX1_eliminate_61 rfl (lv_at hl 0 rfl) ?_
  have hPc := hP.sub (ws' := [(h_r, .inr (6, [.long v_rp]))]) [1] rfl
  have hDc := hD.sub (ws' := [(h_r, .inr (6, [.long v_rp]))]) [1] (by decide) rfl
  have hFc := va_free (wc := [(h_r, .inr (6, [.long v_rp]))]) hD hS hA [1] rfl
  refine va_calll (va_runV (As := [.long v_ed, .long x3_5]) (rest := [.ref h_e]) ⟨hx, hb, hml, hown, hts⟩ (cn_Remainders_times l D cT h_r H.size v_rp v_ed x3_5 _ hw) (gv_ 2 q_249 q_5 q_246 q_247 q_248 (by decide +kernel) ⟨Nat.le_of_ble_eq_true rfl, Nat.le_of_ble_eq_true rfl⟩ hts) ⟨pre_blind, va_recv hK hPc (ci := 6) (q0 := 0) rfl rfl, fun U hU hW => ⟨rfl, pre_mk hU hW hPc hK hDc hN⟩⟩ rfl rfl hl.1 rfl (lv_room (Nat.le_of_ble_eq_true rfl)) dX1_eliminate_62 ⟨(Nat.zero_le _), (Nat.zero_le _)⟩) hS (fun q _ h => hFc q h) hFc (fun r_6 u9 t H locs ht hvm hw hB hz1 hk1 hS => ?_)
  obtain ⟨hP1, hD1⟩ := hB
  rw [ht] at hP1
  obtain ⟨hP, hD⟩ := va_join (wr := [(h_e, .inr (1, [.ref h_r, .ref h_ec, .ref h_ea, .int v_es, .long v_ed])), (h_ec, .inl (cT 0, 1640, .inl f_ec)), (h_ea, .inl (cT 1, 40, .inr (.inl f_ea)))]) (w1 := [(h_r, .inr (6, [.long v_rp]))]) hP hD [1] [0, 2, 3] rfl rfl (by decide) (by decide) hk1 hFc hP1 hD1
  have hP := hP.sub (ws' := [(h_e, .inr (1, [.ref h_r, .ref h_ec, .ref h_ea, .int v_es, .long v_ed])), (h_r, .inr (6, [.long v_rp])), (h_ec, .inl (cT 0, 1640, .inl f_ec)), (h_ea, .inl (cT 1, 40, .inr (.inl f_ea)))]) [0, 3, 1, 2] rfl
  have hD := hD.sub (ws' := [(h_e, .inr (1, [.ref h_r, .ref h_ec, .ref h_ea, .int v_es, .long v_ed])), (h_r, .inr (6, [.long v_rp])), (h_ec, .inl (cT 0, 1640, .inl f_ec)), (h_ea, .inl (cT 1, 40, .inr (.inl f_ea)))]) [0, 3, 1, 2] (by decide) rfl
  clear hP1 hD1 hPc hDc hFc hk1 hz1 hvm ht
  try dsimp only at hw
  refine va_put (D := D) (ci := 1) (v := .long r_6) (ty := .long) (C := RX1) (T := TX1) (N := 5) hx hb hts inX1 tyX1 tyX1_ok nmX1 hown hK hP hD hS 0 rfl rfl 4 (by decide) (hts _ q_84) (fun _ h9 => h9) rfl (by decide +kernel) rfl rfl (Nat.le_of_ble_eq_true rfl) dX1_eliminate_65 (fun H locs hP hD hS => ?_)
  have hP : va_P D vwCl [(h_e, .inr (1, [.ref h_r, .ref h_ec, .ref h_ea, .int v_es, .long r_6])), (h_r, .inr (6, [.long v_rp])), (h_ec, .inl (cT 0, 1640, .inl f_ec)), (h_ea, .inl (cT 1, 40, .inr (.inl f_ea)))] H := hP
  have hD : va_D A [(h_e, .inr (1, [.ref h_r, .ref h_ec, .ref h_ea, .int v_es, .long r_6])), (h_r, .inr (6, [.long v_rp])), (h_ec, .inl (cT 0, 1640, .inl f_ec)), (h_ea, .inl (cT 1, 40, .inr (.inl f_ea)))] := hD
  refine lv_aload_n hx hb dX1_eliminate_68 rfl (lv_at hl 1 rfl) ?_
  refine lv_iload_n hx hb dX1_eliminate_69 rfl (lv_at hl 2 rfl) ?_
  refine lv_aload_n hx hb dX1_eliminate_70 rfl (lv_at hl 1 rfl) ?_
  refine va_get (D := D) (ci := 1) (v := .ref h_r) (C := RX1) (T := TX1) (N := 5) hx hb hts inX1 hown hK hP 0 rfl rfl 0 (by decide) (hts _ q_78) (fun _ h9 => h9) rfl dX1_eliminate_71 ?_
  refine lv_lload_n hx hb dX1_eliminate_74 rfl (lv_at hl 0 rfl) ?_
  have hPc := hP.sub (ws' := [(h_r, .inr (6, [.long v_rp]))]) [1] rfl
  have hDc := hD.sub (ws' := [(h_r, .inr (6, [.long v_rp]))]) [1] (by decide) rfl
  have hFc := va_free (wc := [(h_r, .inr (6, [.long v_rp]))]) hD hS hA [1] rfl
  refine va_calll (va_runV (As := [.long x3_5]) (rest := [.int x1, .ref h_e]) ⟨hx, hb, hml, hown, hts⟩ (cn_Remainders_inverse l D cT h_r H.size v_rp x3_5 _ hw) (gv_ 1 q_257 q_5 q_254 q_255 q_256 (by decide +kernel) ⟨Nat.le_of_ble_eq_true rfl, Nat.le_of_ble_eq_true rfl⟩ hts) ⟨pre_blind, va_recv hK hPc (ci := 6) (q0 := 0) rfl rfl, fun U hU hW => ⟨rfl, pre_mk hU hW hPc hK hDc hN⟩⟩ rfl rfl hl.1 rfl (lv_room (Nat.le_of_ble_eq_true rfl)) dX1_eliminate_75 ⟨(Nat.zero_le _), (Nat.zero_le _)⟩) hS (fun q _ h => hFc q h) hFc (fun r_7 u9 t H locs ht hvm hw hB hz1 hk1 hS => ?_)
  obtain ⟨hP1, hD1⟩ := hB
  rw [ht] at hP1
  obtain ⟨hP, hD⟩ := va_join (wr := [(h_e, .inr (1, [.ref h_r, .ref h_ec, .ref h_ea, .int v_es, .long r_6])), (h_ec, .inl (cT 0, 1640, .inl f_ec)), (h_ea, .inl (cT 1, 40, .inr (.inl f_ea)))]) (w1 := [(h_r, .inr (6, [.long v_rp]))]) hP hD [1] [0, 2, 3] rfl rfl (by decide) (by decide) hk1 hFc hP1 hD1
  have hP := hP.sub (ws' := [(h_e, .inr (1, [.ref h_r, .ref h_ec, .ref h_ea, .int v_es, .long r_6])), (h_r, .inr (6, [.long v_rp])), (h_ec, .inl (cT 0, 1640, .inl f_ec)), (h_ea, .inl (cT 1, 40, .inr (.inl f_ea)))]) [0, 3, 1, 2] rfl
  have hD := hD.sub (ws' := [(h_e, .inr (1, [.ref h_r, .ref h_ec, .ref h_ea, .int v_es, .long r_6])), (h_r, .inr (6, [.long v_rp])), (h_ec, .inl (cT 0, 1640, .inl f_ec)), (h_ea, .inl (cT 1, 40, .inr (.inl f_ea)))]) [0, 3, 1, 2] (by decide) rfl
  clear hP1 hD1 hPc hDc hFc hk1 hz1 hvm ht
  try dsimp only at hw
  have hPc := hP.sub (ws' := [(h_e, .inr (1, [.ref h_r, .ref h_ec, .ref h_ea, .int v_es, .long r_6])), (h_r, .inr (6, [.long v_rp])), (h_ec, .inl (cT 0, 1640, .inl f_ec)), (h_ea, .inl (cT 1, 40, .inr (.inl f_ea)))]) [0, 1, 2, 3] rfl
  have hDc := hD.sub (ws' := [(h_e, .inr (1, [.ref h_r, .ref h_ec, .ref h_ea, .int v_es, .long r_6])), (h_r, .inr (6, [.long v_rp])), (h_ec, .inl (cT 0, 1640, .inl f_ec)), (h_ea, .inl (cT 1, 40, .inr (.inl f_ea)))]) [0, 1, 2, 3] (by decide) rfl
  have hFc := va_free (wc := [(h_e, .inr (1, [.ref h_r, .ref h_ec, .ref h_ea, .int v_es, .long r_6])), (h_r, .inr (6, [.long v_rp])), (h_ec, .inl (cT 0, 1640, .inl f_ec)), (h_ea, .inl (cT 1, 40, .inr (.inl f_ea)))]) hD hS hA [0, 1, 2, 3] rfl
  refine va_callv (va_runV (As := [.int x1, .long r_7]) (rest := []) ⟨hx, hb, hml, hown, hts⟩ (cn_Equations_scaleRow l D cT h_e h_r h_ec h_ea H.size v_es r_6 v_rp f_ec f_ea x1 r_7 _ hw) (gv_ 2 q_262 q_4 q_259 q_261 qs_6 (by decide +kernel) ⟨Nat.le_of_ble_eq_true rfl, Nat.le_of_ble_eq_true rfl⟩ hts) ⟨pre_blind, va_recv hK hPc (ci := 1) (q0 := 0) rfl rfl, fun U hU hW => ⟨rfl, pre_mk hU hW hPc hK hDc hN⟩⟩ rfl rfl hl.1 rfl (lv_room (Nat.le_of_ble_eq_true rfl)) dX1_eliminate_78 ⟨(Nat.zero_le _), (Nat.zero_le _)⟩) hS (fun q _ h => hFc q h) hFc (fun u9 t H locs ht hvm hw hB hz1 hk1 hS => ?_)
  obtain ⟨u_8, rfl⟩ : ∃ z, z = u9 := ⟨_, rfl⟩
  obtain ⟨hP1, hD1⟩ := hB
  rw [ht] at hP1
  obtain ⟨hP, hD⟩ := va_join (wr := []) (w1 := [(h_e, .inr (1, [.ref h_r, .ref h_ec, .ref h_ea, .int v_es, .long r_6])), (h_r, .inr (6, [.long v_rp])), (h_ec, .inl (cT 0, 1640, .inl u_8)), (h_ea, .inl (cT 1, 40, .inr (.inl f_ea)))]) hP hD [0, 1, 2, 3] [] rfl rfl (by decide) (by decide) hk1 hFc hP1 hD1
  have hP := hP.sub (ws' := [(h_e, .inr (1, [.ref h_r, .ref h_ec, .ref h_ea, .int v_es, .long r_6])), (h_r, .inr (6, [.long v_rp])), (h_ec, .inl (cT 0, 1640, .inl u_8)), (h_ea, .inl (cT 1, 40, .inr (.inl f_ea)))]) [0, 1, 2, 3] rfl
  have hD := hD.sub (ws' := [(h_e, .inr (1, [.ref h_r, .ref h_ec, .ref h_ea, .int v_es, .long r_6])), (h_r, .inr (6, [.long v_rp])), (h_ec, .inl (cT 0, 1640, .inl u_8)), (h_ea, .inl (cT 1, 40, .inr (.inl f_ea)))]) [0, 1, 2, 3] (by decide) rfl
  clear hP1 hD1 hPc hDc hFc hk1 hz1 hvm ht
  try dsimp only at hw
  refine lv_iload_n hx hb dX1_eliminate_81 rfl (lv_at hl 2 rfl) ?_
  refine lv_iconst (v := 1) hx hb dX1_eliminate_82 (by decide) ?_
  refine lv_iadd hx hb dX1_eliminate_83 ?_
  refine lv_topi (fun x5_9 ex5_9 => ?_)
  have hw := hw x5_9 ex5_9
  refine lv_istore (lv' := [(5, .int x5_9), (3, .long x3_5), (0, .ref h_e), (1, .int x1)]) hx hb dX1_eliminate_84 hl (by decide) rfl (fun ls hl => ?_)
  obtain ⟨n9, hw⟩ := hw
  exact tw_Equations_eliminate_86 C0 hA hret  n9 _ _ _ _ _ _ _ hP hD hS (lv_sub hl [2, 3, 0] rfl) hw
set_option maxHeartbeats 4000000 in
set_option maxRecDepth 100000 in
theorem tw_Equations_eliminate {post : Int32 → Int64 → (Nat → Int32) → Prop} {h_e h_r h_ec h_ea : Nat} {v_es : Int32} {v_rp : Int64} {f_ea : Nat → Int64}  (C0 : cx RX1 cX1_eliminate 6 D cT p s m c args) (hA : ∀ q, s.heap.size ≤ q → A q) (hret : ∀ (r : Int32) (v_ed : Int64) (f_ec : Nat → Int32) (H : Heap) (locs : List Loc) (pc : Nat) (ls : Array Slot), narrow .boolean (.int r) = .int r → post r v_ed f_ec → va_P D vwCl [(h_e, .inr (1, [.ref h_r, .ref h_ec, .ref h_ea, .int v_es, .long v_ed])), (h_r, .inr (6, [.long v_rp])), (h_ec, .inl (cT 0, 1640, .inl f_ec)), (h_ea, .inl (cT 1, 40, .inr (.inl f_ea)))] H → va_D A [(h_e, .inr (1, [.ref h_r, .ref h_ec, .ref h_ea, .int v_es, .long v_ed])), (h_r, .inr (6, [.long v_rp])), (h_ec, .inl (cT 0, 1640, .inl f_ec)), (h_ea, .inl (cT 1, 40, .inr (.inl f_ea)))] → va_S A s.heap H locs → decode cX1_eliminate pc = .ok (.ireturn, 1) → W p l e ({ frames := 3, cells := 0, slots := 0, locals := 78 } : Room) s m args below meth c H locs 0 0 Q (F0 m pc ls [.int r]))  : ∀ (x1 : Int32) (v_ed : Int64) (f_ec : Nat → Int32) (H : Heap) (locs : List Loc) (ls : Array Slot), va_P D vwCl [(h_e, .inr (1, [.ref h_r, .ref h_ec, .ref h_ea, .int v_es, .long v_ed])), (h_r, .inr (6, [.long v_rp])), (h_ec, .inl (cT 0, 1640, .inl f_ec)), (h_ea, .inl (cT 1, 40, .inr (.inl f_ea)))] H → va_D A [(h_e, .inr (1, [.ref h_r, .ref h_ec, .ref h_ea, .int v_es, .long v_ed])), (h_r, .inr (6, [.long v_rp])), (h_ec, .inl (cT 0, 1640, .inl f_ec)), (h_ea, .inl (cT 1, 40, .inr (.inl f_ea)))] → va_S A s.heap H locs → lv_has ls 6 [(0, .ref h_e), (1, .int x1)] → wp_Equations_eliminate post v_es v_rp f_ea x1 v_ed f_ec → W p l e ({ frames := 3, cells := 0, slots := 0, locals := 78 } : Room) s m args below meth c H locs 0 0 Q (F0 m 0 ls []) := by
  obtain ⟨⟨hx, hb, hml, hown, hts⟩, hK, hN⟩ := id C0
  intro x1 v_ed f_ec H locs ls hP hD hS hl hw
  unfold wp_Equations_eliminate at hw
  refine lv_aload_n hx hb dX1_eliminate_0 rfl (lv_at hl 0 rfl) ?_
  refine lv_iload_n hx hb dX1_eliminate_1 rfl (lv_at hl 1 rfl) ?_
  have hPc := hP.sub (ws' := [(h_e, .inr (1, [.ref h_r, .ref h_ec, .ref h_ea, .int v_es, .long v_ed])), (h_r, .inr (6, [.long v_rp])), (h_ec, .inl (cT 0, 1640, .inl f_ec)), (h_ea, .inl (cT 1, 40, .inr (.inl f_ea)))]) [0, 1, 2, 3] rfl
  have hDc := hD.sub (ws' := [(h_e, .inr (1, [.ref h_r, .ref h_ec, .ref h_ea, .int v_es, .long v_ed])), (h_r, .inr (6, [.long v_rp])), (h_ec, .inl (cT 0, 1640, .inl f_ec)), (h_ea, .inl (cT 1, 40, .inr (.inl f_ea)))]) [0, 1, 2, 3] (by decide) rfl
  have hFc := va_free (wc := [(h_e, .inr (1, [.ref h_r, .ref h_ec, .ref h_ea, .int v_es, .long v_ed])), (h_r, .inr (6, [.long v_rp])), (h_ec, .inl (cT 0, 1640, .inl f_ec)), (h_ea, .inl (cT 1, 40, .inr (.inl f_ea)))]) hD hS hA [0, 1, 2, 3] rfl
  refine va_calli (va_runV (As := [.int x1]) (rest := []) ⟨hx, hb, hml, hown, hts⟩ (cn_Equations_pivotRow l D cT h_e h_r h_ec h_ea H.size v_es v_ed v_rp f_ec f_ea x1 _ hw) (gv_ 1 q_241 q_4 q_238 q_240 qs_4 (by decide +kernel) ⟨Nat.le_of_ble_eq_true rfl, Nat.le_of_ble_eq_true rfl⟩ hts) ⟨pre_blind, va_recv hK hPc (ci := 1) (q0 := 0) rfl rfl, fun U hU hW => ⟨rfl, pre_mk hU hW hPc hK hDc hN⟩⟩ rfl rfl hl.1 rfl (lv_room (Nat.le_of_ble_eq_true rfl)) dX1_eliminate_2 ⟨(Nat.zero_le _), (Nat.zero_le _)⟩) hS (fun q _ h => hFc q h) hFc (fun r_1 u9 t H locs ht hvm hw hB hz1 hk1 hS => ?_)
  obtain ⟨hP1, hD1⟩ := hB
  rw [ht] at hP1
  obtain ⟨hP, hD⟩ := va_join (wr := []) (w1 := [(h_e, .inr (1, [.ref h_r, .ref h_ec, .ref h_ea, .int v_es, .long v_ed])), (h_r, .inr (6, [.long v_rp])), (h_ec, .inl (cT 0, 1640, .inl f_ec)), (h_ea, .inl (cT 1, 40, .inr (.inl f_ea)))]) hP hD [0, 1, 2, 3] [] rfl rfl (by decide) (by decide) hk1 hFc hP1 hD1
  have hP := hP.sub (ws' := [(h_e, .inr (1, [.ref h_r, .ref h_ec, .ref h_ea, .int v_es, .long v_ed])), (h_r, .inr (6, [.long v_rp])), (h_ec, .inl (cT 0, 1640, .inl f_ec)), (h_ea, .inl (cT 1, 40, .inr (.inl f_ea)))]) [0, 1, 2, 3] rfl
  have hD := hD.sub (ws' := [(h_e, .inr (1, [.ref h_r, .ref h_ec, .ref h_ea, .int v_es, .long v_ed])), (h_r, .inr (6, [.long v_rp])), (h_ec, .inl (cT 0, 1640, .inl f_ec)), (h_ea, .inl (cT 1, 40, .inr (.inl f_ea)))]) [0, 1, 2, 3] (by decide) rfl
  clear hP1 hD1 hPc hDc hFc hk1 hz1 hvm ht
  try dsimp only at hw
  refine lv_istore_n (lv' := [(2, .int r_1), (0, .ref h_e), (1, .int x1)]) hx hb dX1_eliminate_5 rfl hl (by decide) rfl (fun ls hl => ?_)
  refine lv_iload_n hx hb dX1_eliminate_6 rfl (lv_at hl 0 rfl) ?_
  refine lv_if_ge (tgt := 12) hx hb dX1_eliminate_7 (by decide) (fun c_2 => ?_) (fun c_2 => ?_)
  · have hw := hw.1 c_2
    refine lv_iload_n hx hb dX1_eliminate_12 rfl (lv_at hl 0 rfl) ?_
    refine lv_iload_n hx hb dX1_eliminate_13 rfl (lv_at hl 2 rfl) ?_
    refine lv_icmp_eq (tgt := 39) hx hb dX1_eliminate_14 (by decide) (fun c_3 => ?_) (fun c_3 => ?_)
    · have hw := hw.1 c_3
      exact tw_Equations_eliminate_39 C0 hA hret  _ _ _ _ _ _ hP hD hS (lv_sub hl [1, 2] rfl) hw
    · have hw := hw.2 c_3
      refine lv_aload_n hx hb dX1_eliminate_17 rfl (lv_at hl 1 rfl) ?_
      refine lv_iload_n hx hb dX1_eliminate_18 rfl (lv_at hl 0 rfl) ?_
      refine lv_iload_n hx hb dX1_eliminate_19 rfl (lv_at hl 2 rfl) ?_
      have hPc := hP.sub (ws' := [(h_e, .inr (1, [.ref h_r, .ref h_ec, .ref h_ea, .int v_es, .long v_ed])), (h_r, .inr (6, [.long v_rp])), (h_ec, .inl (cT 0, 1640, .inl f_ec)), (h_ea, .inl (cT 1, 40, .inr (.inl f_ea)))]) [0, 1, 2, 3] rfl
      have hDc := hD.sub (ws' := [(h_e, .inr (1, [.ref h_r, .ref h_ec, .ref h_ea, .int v_es, .long v_ed])), (h_r, .inr (6, [.long v_rp])), (h_ec, .inl (cT 0, 1640, .inl f_ec)), (h_ea, .inl (cT 1, 40, .inr (.inl f_ea)))]) [0, 1, 2, 3] (by decide) rfl
      have hFc := va_free (wc := [(h_e, .inr (1, [.ref h_r, .ref h_ec, .ref h_ea, .int v_es, .long v_ed])), (h_r, .inr (6, [.long v_rp])), (h_ec, .inl (cT 0, 1640, .inl f_ec)), (h_ea, .inl (cT 1, 40, .inr (.inl f_ea)))]) hD hS hA [0, 1, 2, 3] rfl
      refine va_callv (va_runV (As := [.int r_1, .int x1]) (rest := []) ⟨hx, hb, hml, hown, hts⟩ (cn_Equations_swapRows l D cT h_e h_r h_ec h_ea H.size v_es v_ed v_rp f_ec f_ea r_1 x1 _ hw) (gv_ 2 q_245 q_4 q_242 q_244 qs_5 (by decide +kernel) ⟨Nat.le_of_ble_eq_true rfl, Nat.le_of_ble_eq_true rfl⟩ hts) ⟨pre_blind, va_recv hK hPc (ci := 1) (q0 := 0) rfl rfl, fun U hU hW => ⟨rfl, pre_mk hU hW hPc hK hDc hN⟩⟩ rfl rfl hl.1 rfl (lv_room (Nat.le_of_ble_eq_true rfl)) dX1_eliminate_20 ⟨(Nat.zero_le _), (Nat.zero_le _)⟩) hS (fun q _ h => hFc q h) hFc (fun u9 t H locs ht hvm hw hB hz1 hk1 hS => ?_)
      obtain ⟨u_15, rfl⟩ : ∃ z, z = u9 := ⟨_, rfl⟩
      obtain ⟨hP1, hD1⟩ := hB
      rw [ht] at hP1
      obtain ⟨hP, hD⟩ := va_join (wr := []) (w1 := [(h_e, .inr (1, [.ref h_r, .ref h_ec, .ref h_ea, .int v_es, .long v_ed])), (h_r, .inr (6, [.long v_rp])), (h_ec, .inl (cT 0, 1640, .inl u_15)), (h_ea, .inl (cT 1, 40, .inr (.inl f_ea)))]) hP hD [0, 1, 2, 3] [] rfl rfl (by decide) (by decide) hk1 hFc hP1 hD1
      have hP := hP.sub (ws' := [(h_e, .inr (1, [.ref h_r, .ref h_ec, .ref h_ea, .int v_es, .long v_ed])), (h_r, .inr (6, [.long v_rp])), (h_ec, .inl (cT 0, 1640, .inl u_15)), (h_ea, .inl (cT 1, 40, .inr (.inl f_ea)))]) [0, 1, 2, 3] rfl
      have hD := hD.sub (ws' := [(h_e, .inr (1, [.ref h_r, .ref h_ec, .ref h_ea, .int v_es, .long v_ed])), (h_r, .inr (6, [.long v_rp])), (h_ec, .inl (cT 0, 1640, .inl u_15)), (h_ea, .inl (cT 1, 40, .inr (.inl f_ea)))]) [0, 1, 2, 3] (by decide) rfl
      clear hP1 hD1 hPc hDc hFc hk1 hz1 hvm ht
      try dsimp only at hw
      refine lv_aload_n hx hb dX1_eliminate_23 rfl (lv_at hl 1 rfl) ?_
      refine lv_aload_n hx hb dX1_eliminate_24 rfl (lv_at hl 1 rfl) ?_
      refine va_get (D := D) (ci := 1) (v := .ref h_r) (C := RX1) (T := TX1) (N := 5) hx hb hts inX1 hown hK hP 0 rfl rfl 0 (by decide) (hts _ q_78) (fun _ h9 => h9) rfl dX1_eliminate_25 ?_
      refine lv_lconst (v := 0) hx hb dX1_eliminate_28 (by decide) ?_
      refine lv_aload_n hx hb dX1_eliminate_29 rfl (lv_at hl 1 rfl) ?_
      refine va_get (D := D) (ci := 1) (v := .long v_ed) (C := RX1) (T := TX1) (N := 5) hx hb hts inX1 hown hK hP 0 rfl rfl 4 (by decide) (hts _ q_84) (fun _ h9 => h9) rfl dX1_eliminate_30 ?_
      have hPc := hP.sub (ws' := [(h_r, .inr (6, [.long v_rp]))]) [1] rfl
      have hDc := hD.sub (ws' := [(h_r, .inr (6, [.long v_rp]))]) [1] (by decide) rfl
      have hFc := va_free (wc := [(h_r, .inr (6, [.long v_rp]))]) hD hS hA [1] rfl
      refine va_calll (va_runV (As := [.long 0, .long v_ed]) (rest := [.ref h_e]) ⟨hx, hb, hml, hown, hts⟩ (cn_Remainders_minus l D cT h_r H.size v_rp 0 v_ed _ hw) (gv_ 2 q_233 q_5 q_230 q_231 q_232 (by decide +kernel) ⟨Nat.le_of_ble_eq_true rfl, Nat.le_of_ble_eq_true rfl⟩ hts) ⟨pre_blind, va_recv hK hPc (ci := 6) (q0 := 0) rfl rfl, fun U hU hW => ⟨rfl, pre_mk hU hW hPc hK hDc hN⟩⟩ rfl rfl hl.1 rfl (lv_room (Nat.le_of_ble_eq_true rfl)) dX1_eliminate_33 ⟨(Nat.zero_le _), (Nat.zero_le _)⟩) hS (fun q _ h => hFc q h) hFc (fun r_16 u9 t H locs ht hvm hw hB hz1 hk1 hS => ?_)
      obtain ⟨hP1, hD1⟩ := hB
      rw [ht] at hP1
      obtain ⟨hP, hD⟩ := va_join (wr := [(h_e, .inr (1, [.ref h_r, .ref h_ec, .ref h_ea, .int v_es, .long v_ed])), (h_ec, .inl (cT 0, 1640, .inl u_15)), (h_ea, .inl (cT 1, 40, .inr (.inl f_ea)))]) (w1 := [(h_r, .inr (6, [.long v_rp]))]) hP hD [1] [0, 2, 3] rfl rfl (by decide) (by decide) hk1 hFc hP1 hD1
      have hP := hP.sub (ws' := [(h_e, .inr (1, [.ref h_r, .ref h_ec, .ref h_ea, .int v_es, .long v_ed])), (h_r, .inr (6, [.long v_rp])), (h_ec, .inl (cT 0, 1640, .inl u_15)), (h_ea, .inl (cT 1, 40, .inr (.inl f_ea)))]) [0, 3, 1, 2] rfl
      have hD := hD.sub (ws' := [(h_e, .inr (1, [.ref h_r, .ref h_ec, .ref h_ea, .int v_es, .long v_ed])), (h_r, .inr (6, [.long v_rp])), (h_ec, .inl (cT 0, 1640, .inl u_15)), (h_ea, .inl (cT 1, 40, .inr (.inl f_ea)))]) [0, 3, 1, 2] (by decide) rfl
      clear hP1 hD1 hPc hDc hFc hk1 hz1 hvm ht
      try dsimp only at hw
      refine va_put (D := D) (ci := 1) (v := .long r_16) (ty := .long) (C := RX1) (T := TX1) (N := 5) hx hb hts inX1 tyX1 tyX1_ok nmX1 hown hK hP hD hS 0 rfl rfl 4 (by decide) (hts _ q_84) (fun _ h9 => h9) rfl (by decide +kernel) rfl rfl (Nat.le_of_ble_eq_true rfl) dX1_eliminate_36 (fun H locs hP hD hS => ?_)
      have hP : va_P D vwCl [(h_e, .inr (1, [.ref h_r, .ref h_ec, .ref h_ea, .int v_es, .long r_16])), (h_r, .inr (6, [.long v_rp])), (h_ec, .inl (cT 0, 1640, .inl u_15)), (h_ea, .inl (cT 1, 40, .inr (.inl f_ea)))] H := hP
      have hD : va_D A [(h_e, .inr (1, [.ref h_r, .ref h_ec, .ref h_ea, .int v_es, .long r_16])), (h_r, .inr (6, [.long v_rp])), (h_ec, .inl (cT 0, 1640, .inl u_15)), (h_ea, .inl (cT 1, 40, .inr (.inl f_ea)))] := hD
      exact tw_Equations_eliminate_39 C0 hA hret  _ _ _ _ _ _ hP hD hS (lv_sub hl [1, 2] rfl) hw
  · have hw := hw.2 c_2
    refine lv_iconst (v := 0) hx hb dX1_eliminate_10 (by decide) ?_
    exact hret _ _ _ _ _ _ _ rfl hw hP hD hS dX1_eliminate_11
set_option maxHeartbeats 4000000 in
set_option maxRecDepth 100000 in
theorem cn_Equations_eliminate (l : Launch) (D : va_G) (cT : Nat → ClassId) (h_e h_r h_ec h_ea : Nat) (sz : Nat) (v_es : Int32) (v_ed : Int64) (v_rp : Int64) (f_ec : Nat → Int32) (f_ea : Nat → Int64) (x1 : Int32) (post : Int32 → Int64 → (Nat → Int32) → Prop) (hw : wp_Equations_eliminate post v_es v_rp f_ea x1 v_ed f_ec) : Met l yX1_eliminate wX1_eliminate ({ frames := 3, cells := 0, slots := 0, locals := 78 } : Room) (va_Pc [.ref h_e, .int x1] (pre_ D cT [(h_e, .inr (1, [.ref h_r, .ref h_ec, .ref h_ea, .int v_es, .long v_ed])), (h_r, .inr (6, [.long v_rp])), (h_ec, .inl (cT 0, 1640, .inl f_ec)), (h_ea, .inl (cT 1, 40, .inr (.inl f_ea)))] sz)) (va_Qi (fun (r : Int32) (u : Int64 × (Nat → Int32)) => post r u.1 u.2) (fun u t => va_P D vwCl [(h_e, .inr (1, [.ref h_r, .ref h_ec, .ref h_ea, .int v_es, .long u.1])), (h_r, .inr (6, [.long v_rp])), (h_ec, .inl (cT 0, 1640, .inl u.2)), (h_ea, .inl (cT 1, 40, .inr (.inl f_ea)))] t.heap ∧ va_D (va_A [(h_e, .inr (1, [.ref h_r, .ref h_ec, .ref h_ea, .int v_es, .long v_ed])), (h_r, .inr (6, [.long v_rp])), (h_ec, .inl (cT 0, 1640, .inl f_ec)), (h_ea, .inl (cT 1, 40, .inr (.inl f_ea)))] sz) [(h_e, .inr (1, [.ref h_r, .ref h_ec, .ref h_ea, .int v_es, .long u.1])), (h_r, .inr (6, [.long v_rp])), (h_ec, .inl (cT 0, 1640, .inl u.2)), (h_ea, .inl (cT 1, 40, .inr (.inl f_ea)))]) (va_A [(h_e, .inr (1, [.ref h_r, .ref h_ec, .ref h_ea, .int v_es, .long v_ed])), (h_r, .inr (6, [.long v_rp])), (h_ec, .inl (cT 0, 1640, .inl f_ec)), (h_ea, .inl (cT 1, 40, .inr (.inl f_ea)))] sz)) 0 0 (va_A [(h_e, .inr (1, [.ref h_r, .ref h_ec, .ref h_ea, .int v_es, .long v_ed])), (h_r, .inr (6, [.long v_rp])), (h_ec, .inl (cT 0, 1640, .inl f_ec)), (h_ea, .inl (cT 1, 40, .inr (.inl f_ea)))] sz) := by
  refine Met.ofW (cc := cX1_eliminate) (maxL := 6) (ret := (some .boolean)) (by decide) rfl ?_
  intro p e s m args below meth c s₁ B hml hv
  obtain ⟨rfl, hsz, hP, hK, hD0, hN⟩ := hv
  have hx := B.exec
  have hb := B.bytes
  have hr := B.returns
  have hts : ∀ w ∈ WG, w.before _ s = true := fun w h => atoms_spec (ws := wX1_eliminate) B.pre w (List.mem_cons_of_mem _ h)
  have hown : s.vm.findClass RX1 = some m.cls := findClass_of_methodNamed B.named
  have hlocks := B.notSynchronized
  subst hsz
  have hD := hD0.self (sz := s.heap.size)
  generalize hAe : va_A [(h_e, .inr (1, [.ref h_r, .ref h_ec, .ref h_ea, .int v_es, .long v_ed])), (h_r, .inr (6, [.long v_rp])), (h_ec, .inl (cT 0, 1640, .inl f_ec)), (h_ea, .inl (cT 1, 40, .inr (.inl f_ea)))] s.heap.size = A at hD ⊢
  have hA : ∀ q : Nat, s.heap.size ≤ q → A q := fun q h => by rw [← hAe]; exact Or.inr h
  have hS : va_S A s.heap s.heap [] := va_S.rf
  have hl := lv_entry ([.ref h_e, .int x1]) (n := 6) (Nat.le_of_ble_eq_true rfl)
  rw [lg_entry_eq]
  generalize (lg_sl ([.ref h_e, .int x1]) ++ List.replicate (6 - (lg_sl ([.ref h_e, .int x1])).length) Slot.unset).toArray = ls at hl ⊢
  refine tw_Equations_eliminate (Q := MQ below _ _ s 0 0 A) ⟨⟨hx, hb, hml, hown, hts⟩, hK, hN⟩ hA (fun r v_ed f_ec H locs pc ls hn9 hp hP hD hS hd => W.zret (v := r) hx hb hr hn9 (fun t ht hW => ⟨⟨r, (v_ed, f_ec), rfl, hp, by rw [ht]; exact hP, hD⟩, hS.F ht⟩) hS.2.2 hd) _ _ _ _ _ _ hP hD hS hl hw
end
def wp_Equations_answerBy_60 (post : Int32 → Int32 → Int64 → Int64 → (Nat → Int32) → (Nat → Int64) → Prop) (v_cs : Int32) (f_cw : Nat → Int32) (f_cl : Nat → Int32) (f_cp : Nat → Int32) (f_ce : Nat → Int32)  : Nat → Int32 → Int32 → Int64 → Int64 → (Nat → Int32) → (Nat → Int64) → Prop
  | 0 => fun _ _ _ _ _ _ => False
  | n + 1 => fun x3 v_es v_ed v_rp f_ec f_ea => ((x3 < 0 → (post 1 v_es v_ed v_rp f_ec f_ea)) ∧ (¬ x3 < 0 → (wp_Equations_answerOf (fun r_5 => (vp_in x3 40 ∧ (∀ x3_7 : Int32, x3_7 = x3 + (-1) → wp_Equations_answerBy_60 post v_cs f_cw f_cl f_cp f_ce n x3_7 v_es v_ed v_rp f_ec (vp_updL f_ea x3.toNatClampNeg r_5)))) v_es v_ed v_rp f_ec f_ea x3)))
def wp_Equations_answerBy_29 (post : Int32 → Int32 → Int64 → Int64 → (Nat → Int32) → (Nat → Int64) → Prop) (v_cs : Int32) (f_cw : Nat → Int32) (f_cl : Nat → Int32) (f_cp : Nat → Int32) (f_ce : Nat → Int32)  : Nat → Int32 → Int32 → Int64 → Int64 → (Nat → Int32) → (Nat → Int64) → Prop
  | 0 => fun _ _ _ _ _ _ => False
  | n + 1 => fun x3 v_es v_ed v_rp f_ec f_ea => ((v_es ≤ x3 → (∀ x3_3 : Int32, x3_3 = v_es - 1 → ∃ k9, wp_Equations_answerBy_60 post v_cs f_cw f_cl f_cp f_ce k9 x3_3 v_es v_ed v_rp f_ec f_ea)) ∧ (¬ v_es ≤ x3 → (wp_Equations_eliminate (fun r_10 u_8 u_9 => ((r_10 = 0 → (post 0 v_es u_8 v_rp u_9 f_ea)) ∧ (¬ r_10 = 0 → (∀ x3_12 : Int32, x3_12 = x3 + 1 → wp_Equations_answerBy_29 post v_cs f_cw f_cl f_cp f_ce n x3_12 v_es u_8 v_rp u_9 f_ea)))) v_es v_rp f_ea x3 v_ed f_ec)))
def wp_Equations_answerBy (post : Int32 → Int32 → Int64 → Int64 → (Nat → Int32) → (Nat → Int64) → Prop) (v_cs : Int32) (f_cw : Nat → Int32) (f_cl : Nat → Int32) (f_cp : Nat → Int32) (f_ce : Nat → Int32)  (x1 : Int32) (v_es : Int32) (v_ed : Int64) (v_rp : Int64) (f_ec : Nat → Int32) (f_ea : Nat → Int64) : Prop := wp_Equations_load (fun u_1 => ∃ k9, wp_Equations_answerBy_29 post v_cs f_cw f_cl f_cp f_ce k9 0 v_cs 1 x1.toInt64 u_1 f_ea) v_cs v_ed x1.toInt64 f_ea v_cs f_cw f_cl f_cp f_ce f_ec
section
variable {p : Program} {l : Launch} {e : Env} {s : State} {m : MethodId} {args : Array Value} {below : List Frame} {meth : Method} {c : Code} {Q : State → Prop} {A : Nat → Prop} {D : va_G} {cT : Nat → ClassId}
set_option maxHeartbeats 4000000 in
set_option maxRecDepth 100000 in
theorem tw_Equations_answerBy_60 {post : Int32 → Int32 → Int64 → Int64 → (Nat → Int32) → (Nat → Int64) → Prop} {h_e h_r h_ec h_ea h_c h_cw h_cl h_cp h_ce : Nat} {v_cs : Int32} {f_cw : Nat → Int32} {f_cl : Nat → Int32} {f_cp : Nat → Int32} {f_ce : Nat → Int32}  (C0 : cx RX1 cX1_answerBy 4 D cT p s m c args) (hA : ∀ q, s.heap.size ≤ q → A q) (hret : ∀ (r : Int32) (v_es : Int32) (v_ed : Int64) (v_rp : Int64) (f_ec : Nat → Int32) (f_ea : Nat → Int64) (H : Heap) (locs : List Loc) (pc : Nat) (ls : Array Slot), narrow .boolean (.int r) = .int r → post r v_es v_ed v_rp f_ec f_ea → va_P D vwCl [(h_e, .inr (1, [.ref h_r, .ref h_ec, .ref h_ea, .int v_es, .long v_ed])), (h_r, .inr (6, [.long v_rp])), (h_ec, .inl (cT 0, 1640, .inl f_ec)), (h_ea, .inl (cT 1, 40, .inr (.inl f_ea))), (h_c, .inr (0, [.ref h_cw, .ref h_cl, .ref h_cp, .ref h_ce, .int v_cs])), (h_cw, .inl (cT 0, 40, .inl f_cw)), (h_cl, .inl (cT 0, 40, .inl f_cl)), (h_cp, .inl (cT 0, 1640, .inl f_cp)), (h_ce, .inl (cT 2, 40, .inl f_ce))] H → va_D A [(h_e, .inr (1, [.ref h_r, .ref h_ec, .ref h_ea, .int v_es, .long v_ed])), (h_r, .inr (6, [.long v_rp])), (h_ec, .inl (cT 0, 1640, .inl f_ec)), (h_ea, .inl (cT 1, 40, .inr (.inl f_ea))), (h_c, .inr (0, [.ref h_cw, .ref h_cl, .ref h_cp, .ref h_ce, .int v_cs])), (h_cw, .inl (cT 0, 40, .inl f_cw)), (h_cl, .inl (cT 0, 40, .inl f_cl)), (h_cp, .inl (cT 0, 1640, .inl f_cp)), (h_ce, .inl (cT 2, 40, .inl f_ce))] → va_S A s.heap H locs → decode cX1_answerBy pc = .ok (.ireturn, 1) → W p l e ({ frames := 4, cells := 0, slots := 0, locals := 103 } : Room) s m args below meth c H locs 0 0 Q (F0 m pc ls [.int r]))  : ∀ (n : Nat) (x3 : Int32) (v_es : Int32) (v_ed : Int64) (v_rp : Int64) (f_ec : Nat → Int32) (f_ea : Nat → Int64) (H : Heap) (locs : List Loc) (ls : Array Slot), va_P D vwCl [(h_e, .inr (1, [.ref h_r, .ref h_ec, .ref h_ea, .int v_es, .long v_ed])), (h_r, .inr (6, [.long v_rp])), (h_ec, .inl (cT 0, 1640, .inl f_ec)), (h_ea, .inl (cT 1, 40, .inr (.inl f_ea))), (h_c, .inr (0, [.ref h_cw, .ref h_cl, .ref h_cp, .ref h_ce, .int v_cs])), (h_cw, .inl (cT 0, 40, .inl f_cw)), (h_cl, .inl (cT 0, 40, .inl f_cl)), (h_cp, .inl (cT 0, 1640, .inl f_cp)), (h_ce, .inl (cT 2, 40, .inl f_ce))] H → va_D A [(h_e, .inr (1, [.ref h_r, .ref h_ec, .ref h_ea, .int v_es, .long v_ed])), (h_r, .inr (6, [.long v_rp])), (h_ec, .inl (cT 0, 1640, .inl f_ec)), (h_ea, .inl (cT 1, 40, .inr (.inl f_ea))), (h_c, .inr (0, [.ref h_cw, .ref h_cl, .ref h_cp, .ref h_ce, .int v_cs])), (h_cw, .inl (cT 0, 40, .inl f_cw)), (h_cl, .inl (cT 0, 40, .inl f_cl)), (h_cp, .inl (cT 0, 1640, .inl f_cp)), (h_ce, .inl (cT 2, 40, .inl f_ce))] → va_S A s.heap H locs → lv_has ls 4 [(0, .ref h_e), (3, .int x3)] → wp_Equations_answerBy_60 post v_cs f_cw f_cl f_cp f_ce n x3 v_es v_ed v_rp f_ec f_ea → W p l e ({ frames := 4, cells := 0, slots := 0, locals := 103 } : Room) s m args below meth c H locs 0 0 Q (F0 m 60 ls []) := by
  obtain ⟨⟨hx, hb, hml, hown, hts⟩, hK, hN⟩ := id C0
  intro n
  induction n with
  | zero => intro x3 v_es v_ed v_rp f_ec f_ea H locs ls hP hD hS hl hw; exact hw.elim
  | succ n ih =>
    intro x3 v_es v_ed v_rp f_ec f_ea H locs ls hP hD hS hl hw
    unfold wp_Equations_answerBy_60 at hw
    refine lv_iload_n hx hb dX1_answerBy_60 rfl (lv_at hl 1 rfl) ?_
    refine lv_if_lt (tgt := 81) hx hb dX1_answerBy_61 (by decide) (fun c_4 => ?_) (fun c_4 => ?_)
    · have hw := hw.1 c_4
      refine lv_iconst (v := 1) hx hb dX1_answerBy_81 (by decide) ?_
      exact hret _ _ _ _ _ _ _ _ _ _ rfl hw hP hD hS dX1_answerBy_82
    · have hw := hw.2 c_4
      refine lv_aload_n hx hb dX1_answerBy_64 rfl (lv_at hl 0 rfl) ?_
      refine va_get (D := D) (ci := 1) (v := .ref h_ea) (C := RX1) (T := TX1) (N := 5) hx hb hts inX1 hown hK hP 0 rfl rfl 2 (by decide) (hts _ q_81) (fun _ h9 => h9) rfl dX1_answerBy_65 ?_
      refine lv_iload_n hx hb dX1_answerBy_68 rfl (lv_at hl 1 rfl) ?_
      refine lv_aload_n hx hb dX1_answerBy_69 rfl (lv_at hl 0 rfl) ?_
      refine lv_iload_n hx hb dX1_answerBy_70 rfl (lv_at hl 1 rfl) ?_
      have hPc := hP.sub (ws' := [(h_e, .inr (1, [.ref h_r, .ref h_ec, .ref h_ea, .int v_es, .long v_ed])), (h_r, .inr (6, [.long v_rp])), (h_ec, .inl (cT 0, 1640, .inl f_ec)), (h_ea, .inl (cT 1, 40, .inr (.inl f_ea)))]) [0, 1, 2, 3] rfl
      have hDc := hD.sub (ws' := [(h_e, .inr (1, [.ref h_r, .ref h_ec, .ref h_ea, .int v_es, .long v_ed])), (h_r, .inr (6, [.long v_rp])), (h_ec, .inl (cT 0, 1640, .inl f_ec)), (h_ea, .inl (cT 1, 40, .inr (.inl f_ea)))]) [0, 1, 2, 3] (by decide) rfl
      have hFc := va_free (wc := [(h_e, .inr (1, [.ref h_r, .ref h_ec, .ref h_ea, .int v_es, .long v_ed])), (h_r, .inr (6, [.long v_rp])), (h_ec, .inl (cT 0, 1640, .inl f_ec)), (h_ea, .inl (cT 1, 40, .inr (.inl f_ea)))]) hD hS hA [0, 1, 2, 3] rfl
      refine va_calll (va_runV (As := [.int x3]) (rest := [.int x3, .ref h_ea]) ⟨hx, hb, hml, hown, hts⟩ (cn_Equations_answerOf l D cT h_e h_r h_ec h_ea H.size v_es v_ed v_rp f_ec f_ea x3 _ hw) (gv_ 1 q_270 q_4 q_267 q_269 qs_8 (by decide +kernel) ⟨Nat.le_of_ble_eq_true rfl, Nat.le_of_ble_eq_true rfl⟩ hts) ⟨pre_blind, va_recv hK hPc (ci := 1) (q0 := 0) rfl rfl, fun U hU hW => ⟨rfl, pre_mk hU hW hPc hK hDc hN⟩⟩ rfl rfl hl.1 rfl (lv_room (Nat.le_of_ble_eq_true rfl)) dX1_answerBy_71 ⟨(Nat.zero_le _), (Nat.zero_le _)⟩) hS (fun q _ h => hFc q h) hFc (fun r_5 u9 t H locs ht hvm hw hB hz1 hk1 hS => ?_)
      obtain ⟨hP1, hD1⟩ := hB
      rw [ht] at hP1
      obtain ⟨hP, hD⟩ := va_join (wr := [(h_c, .inr (0, [.ref h_cw, .ref h_cl, .ref h_cp, .ref h_ce, .int v_cs])), (h_cw, .inl (cT 0, 40, .inl f_cw)), (h_cl, .inl (cT 0, 40, .inl f_cl)), (h_cp, .inl (cT 0, 1640, .inl f_cp)), (h_ce, .inl (cT 2, 40, .inl f_ce))]) (w1 := [(h_e, .inr (1, [.ref h_r, .ref h_ec, .ref h_ea, .int v_es, .long v_ed])), (h_r, .inr (6, [.long v_rp])), (h_ec, .inl (cT 0, 1640, .inl f_ec)), (h_ea, .inl (cT 1, 40, .inr (.inl f_ea)))]) hP hD [0, 1, 2, 3] [4, 5, 6, 7, 8] rfl rfl (by decide) (by decide) hk1 hFc hP1 hD1
      have hP := hP.sub (ws' := [(h_e, .inr (1, [.ref h_r, .ref h_ec, .ref h_ea, .int v_es, .long v_ed])), (h_r, .inr (6, [.long v_rp])), (h_ec, .inl (cT 0, 1640, .inl f_ec)), (h_ea, .inl (cT 1, 40, .inr (.inl f_ea))), (h_c, .inr (0, [.ref h_cw, .ref h_cl, .ref h_cp, .ref h_ce, .int v_cs])), (h_cw, .inl (cT 0, 40, .inl f_cw)), (h_cl, .inl (cT 0, 40, .inl f_cl)), (h_cp, .inl (cT 0, 1640, .inl f_cp)), (h_ce, .inl (cT 2, 40, .inl f_ce))]) [5, 6, 7, 8, 0, 1, 2, 3, 4] rfl
      have hD := hD.sub (ws' := [(h_e, .inr (1, [.ref h_r, .ref h_ec, .ref h_ea, .int v_es, .long v_ed])), (h_r, .inr (6, [.long v_rp])), (h_ec, .inl (cT 0, 1640, .inl f_ec)), (h_ea, .inl (cT 1, 40, .inr (.inl f_ea))), (h_c, .inr (0, [.ref h_cw, .ref h_cl, .ref h_cp, .ref h_ce, .int v_cs])), (h_cw, .inl (cT 0, 40, .inl f_cw)), (h_cl, .inl (cT 0, 40, .inl f_cl)), (h_cp, .inl (cT 0, 1640, .inl f_cp)), (h_ce, .inl (cT 2, 40, .inl f_ce))]) [5, 6, 7, 8, 0, 1, 2, 3, 4] (by decide) rfl
      clear hP1 hD1 hPc hDc hFc hk1 hz1 hvm ht
      try dsimp only at hw
      obtain ⟨h_6, hw⟩ := hw
      refine va_last hx hb hK hP hD hS 3 1 rfl rfl h_6 dX1_answerBy_74 (fun H locs hP hD hS => ?_)
      have hP : va_P D vwCl [(h_e, .inr (1, [.ref h_r, .ref h_ec, .ref h_ea, .int v_es, .long v_ed])), (h_r, .inr (6, [.long v_rp])), (h_ec, .inl (cT 0, 1640, .inl f_ec)), (h_ea, .inl (cT 1, 40, .inr (.inl (vp_updL f_ea x3.toNatClampNeg r_5)))), (h_c, .inr (0, [.ref h_cw, .ref h_cl, .ref h_cp, .ref h_ce, .int v_cs])), (h_cw, .inl (cT 0, 40, .inl f_cw)), (h_cl, .inl (cT 0, 40, .inl f_cl)), (h_cp, .inl (cT 0, 1640, .inl f_cp)), (h_ce, .inl (cT 2, 40, .inl f_ce))] H := hP
      have hD : va_D A [(h_e, .inr (1, [.ref h_r, .ref h_ec, .ref h_ea, .int v_es, .long v_ed])), (h_r, .inr (6, [.long v_rp])), (h_ec, .inl (cT 0, 1640, .inl f_ec)), (h_ea, .inl (cT 1, 40, .inr (.inl (vp_updL f_ea x3.toNatClampNeg r_5)))), (h_c, .inr (0, [.ref h_cw, .ref h_cl, .ref h_cp, .ref h_ce, .int v_cs])), (h_cw, .inl (cT 0, 40, .inl f_cw)), (h_cl, .inl (cT 0, 40, .inl f_cl)), (h_cp, .inl (cT 0, 1640, .inl f_cp)), (h_ce, .inl (cT 2, 40, .inl f_ce))] := hD
      obtain ⟨x3_7, ex3_7⟩ : ∃ y : Int32, y = x3 + (-1) := ⟨_, rfl⟩
      refine lv_iinc (v := x3_7) (lv' := [(3, .int x3_7), (0, .ref h_e)]) hx hb dX1_answerBy_75 hl (k := 1) rfl (by rw [ex3_7]; rfl) (by decide) rfl (fun ls hl => ?_)
      have hw := hw x3_7 ex3_7
      refine lv_goto (tgt := 60) hx hb dX1_answerBy_78 (by decide) ?_
      exact ih _ _ _ _ _ _ _ _ _ hP hD hS (lv_sub hl [1, 0] rfl) hw
set_option maxHeartbeats 4000000 in
set_option maxRecDepth 100000 in
theorem tw_Equations_answerBy_29 {post : Int32 → Int32 → Int64 → Int64 → (Nat → Int32) → (Nat → Int64) → Prop} {h_e h_r h_ec h_ea h_c h_cw h_cl h_cp h_ce : Nat} {v_cs : Int32} {f_cw : Nat → Int32} {f_cl : Nat → Int32} {f_cp : Nat → Int32} {f_ce : Nat → Int32}  (C0 : cx RX1 cX1_answerBy 4 D cT p s m c args) (hA : ∀ q, s.heap.size ≤ q → A q) (hret : ∀ (r : Int32) (v_es : Int32) (v_ed : Int64) (v_rp : Int64) (f_ec : Nat → Int32) (f_ea : Nat → Int64) (H : Heap) (locs : List Loc) (pc : Nat) (ls : Array Slot), narrow .boolean (.int r) = .int r → post r v_es v_ed v_rp f_ec f_ea → va_P D vwCl [(h_e, .inr (1, [.ref h_r, .ref h_ec, .ref h_ea, .int v_es, .long v_ed])), (h_r, .inr (6, [.long v_rp])), (h_ec, .inl (cT 0, 1640, .inl f_ec)), (h_ea, .inl (cT 1, 40, .inr (.inl f_ea))), (h_c, .inr (0, [.ref h_cw, .ref h_cl, .ref h_cp, .ref h_ce, .int v_cs])), (h_cw, .inl (cT 0, 40, .inl f_cw)), (h_cl, .inl (cT 0, 40, .inl f_cl)), (h_cp, .inl (cT 0, 1640, .inl f_cp)), (h_ce, .inl (cT 2, 40, .inl f_ce))] H → va_D A [(h_e, .inr (1, [.ref h_r, .ref h_ec, .ref h_ea, .int v_es, .long v_ed])), (h_r, .inr (6, [.long v_rp])), (h_ec, .inl (cT 0, 1640, .inl f_ec)), (h_ea, .inl (cT 1, 40, .inr (.inl f_ea))), (h_c, .inr (0, [.ref h_cw, .ref h_cl, .ref h_cp, .ref h_ce, .int v_cs])), (h_cw, .inl (cT 0, 40, .inl f_cw)), (h_cl, .inl (cT 0, 40, .inl f_cl)), (h_cp, .inl (cT 0, 1640, .inl f_cp)), (h_ce, .inl (cT 2, 40, .inl f_ce))] → va_S A s.heap H locs → decode cX1_answerBy pc = .ok (.ireturn, 1) → W p l e ({ frames := 4, cells := 0, slots := 0, locals := 103 } : Room) s m args below meth c H locs 0 0 Q (F0 m pc ls [.int r]))  : ∀ (n : Nat) (x3 : Int32) (v_es : Int32) (v_ed : Int64) (v_rp : Int64) (f_ec : Nat → Int32) (f_ea : Nat → Int64) (H : Heap) (locs : List Loc) (ls : Array Slot), va_P D vwCl [(h_e, .inr (1, [.ref h_r, .ref h_ec, .ref h_ea, .int v_es, .long v_ed])), (h_r, .inr (6, [.long v_rp])), (h_ec, .inl (cT 0, 1640, .inl f_ec)), (h_ea, .inl (cT 1, 40, .inr (.inl f_ea))), (h_c, .inr (0, [.ref h_cw, .ref h_cl, .ref h_cp, .ref h_ce, .int v_cs])), (h_cw, .inl (cT 0, 40, .inl f_cw)), (h_cl, .inl (cT 0, 40, .inl f_cl)), (h_cp, .inl (cT 0, 1640, .inl f_cp)), (h_ce, .inl (cT 2, 40, .inl f_ce))] H → va_D A [(h_e, .inr (1, [.ref h_r, .ref h_ec, .ref h_ea, .int v_es, .long v_ed])), (h_r, .inr (6, [.long v_rp])), (h_ec, .inl (cT 0, 1640, .inl f_ec)), (h_ea, .inl (cT 1, 40, .inr (.inl f_ea))), (h_c, .inr (0, [.ref h_cw, .ref h_cl, .ref h_cp, .ref h_ce, .int v_cs])), (h_cw, .inl (cT 0, 40, .inl f_cw)), (h_cl, .inl (cT 0, 40, .inl f_cl)), (h_cp, .inl (cT 0, 1640, .inl f_cp)), (h_ce, .inl (cT 2, 40, .inl f_ce))] → va_S A s.heap H locs → lv_has ls 4 [(0, .ref h_e), (3, .int x3)] → wp_Equations_answerBy_29 post v_cs f_cw f_cl f_cp f_ce n x3 v_es v_ed v_rp f_ec f_ea → W p l e ({ frames := 4, cells := 0, slots := 0, locals := 103 } : Room) s m args below meth c H locs 0 0 Q (F0 m 29 ls []) := by
  obtain ⟨⟨hx, hb, hml, hown, hts⟩, hK, hN⟩ := id C0
  intro n
  induction n with
  | zero => intro x3 v_es v_ed v_rp f_ec f_ea H locs ls hP hD hS hl hw; exact hw.elim
  | succ n ih =>
    intro x3 v_es v_ed v_rp f_ec f_ea H locs ls hP hD hS hl hw
    unfold wp_Equations_answerBy_29 at hw
    refine lv_iload_n hx hb dX1_answerBy_29 rfl (lv_at hl 1 rfl) ?_
    refine lv_aload_n hx hb dX1_answerBy_30 rfl (lv_at hl 0 rfl) ?_
    refine va_get (D := D) (ci := 1) (v := .int v_es) (C := RX1) (T := TX1) (N := 5) hx hb hts inX1 hown hK hP 0 rfl rfl 3 (by decide) (hts _ q_83) (fun _ h9 => h9) rfl dX1_answerBy_31 ?_
    refine lv_icmp_ge (tgt := 53) hx hb dX1_answerBy_34 (by decide) (fun c_2 => ?_) (fun c_2 => ?_)
    · have hw := hw.1 c_2
      refine lv_aload_n hx hb dX1_answerBy_53 rfl (lv_at hl 0 rfl) ?_
      refine va_get (D := D) (ci := 1) (v := .int v_es) (C := RX1) (T := TX1) (N := 5) hx hb hts inX1 hown hK hP 0 rfl rfl 3 (by decide) (hts _ q_83) (fun _ h9 => h9) rfl dX1_answerBy_54 ?_
      refine lv_iconst (v := 1) hx hb dX1_answerBy_57 (by decide) ?_
      refine lv_isub hx hb dX1_answerBy_58 ?_
      refine lv_topi (fun x3_3 ex3_3 => ?_)
      have hw := hw x3_3 ex3_3
      refine lv_istore_n (lv' := [(3, .int x3_3), (0, .ref h_e)]) hx hb dX1_answerBy_59 rfl hl (by decide) rfl (fun ls hl => ?_)
      obtain ⟨n9, hw⟩ := hw
      exact tw_Equations_answerBy_60 C0 hA hret  n9 _ _ _ _ _ _ _ _ _ hP hD hS (lv_sub hl [1, 0] rfl) hw
    · have hw := hw.2 c_2
      refine lv_aload_n hx hb dX1_answerBy_37 rfl (lv_at hl 0 rfl) ?_
      refine lv_iload_n hx hb dX1_answerBy_38 rfl (lv_at hl 1 rfl) ?_
      have hPc := hP.sub (ws' := [(h_e, .inr (1, [.ref h_r, .ref h_ec, .ref h_ea, .int v_es, .long v_ed])), (h_r, .inr (6, [.long v_rp])), (h_ec, .inl (cT 0, 1640, .inl f_ec)), (h_ea, .inl (cT 1, 40, .inr (.inl f_ea)))]) [0, 1, 2, 3] rfl
      have hDc := hD.sub (ws' := [(h_e, .inr (1, [.ref h_r, .ref h_ec, .ref h_ea, .int v_es, .long v_ed])), (h_r, .inr (6, [.long v_rp])), (h_ec, .inl (cT 0, 1640, .inl f_ec)), (h_ea, .inl (cT 1, 40, .inr (.inl f_ea)))]) [0, 1, 2, 3] (by decide) rfl
      have hFc := va_free (wc := [(h_e, .inr (1, [.ref h_r, .ref h_ec, .ref h_ea, .int v_es, .long v_ed])), (h_r, .inr (6, [.long v_rp])), (h_ec, .inl (cT 0, 1640, .inl f_ec)), (h_ea, .inl (cT 1, 40, .inr (.inl f_ea)))]) hD hS hA [0, 1, 2, 3] rfl
      refine va_calli (va_runV (As := [.int x3]) (rest := []) ⟨hx, hb, hml, hown, hts⟩ (cn_Equations_eliminate l D cT h_e h_r h_ec h_ea H.size v_es v_ed v_rp f_ec f_ea x3 _ hw) (gv_ 1 q_237 q_4 q_234 q_236 qs_3 (by decide +kernel) ⟨Nat.le_of_ble_eq_true rfl, Nat.le_of_ble_eq_true rfl⟩ hts) ⟨pre_blind, va_recv hK hPc (ci := 1) (q0 := 0) rfl rfl, fun U hU hW => ⟨rfl, pre_mk hU hW hPc hK hDc hN⟩⟩ rfl rfl hl.1 rfl (lv_room (Nat.le_of_ble_eq_true rfl)) dX1_answerBy_39 ⟨(Nat.zero_le _), (Nat.zero_le _)⟩) hS (fun q _ h => hFc q h) hFc (fun r_10 u9 t H locs ht hvm hw hB hz1 hk1 hS => ?_)
      obtain ⟨u_8, u_9⟩ := u9
      obtain ⟨hP1, hD1⟩ := hB
      rw [ht] at hP1
      obtain ⟨hP, hD⟩ := va_join (wr := [(h_c, .inr (0, [.ref h_cw, .ref h_cl, .ref h_cp, .ref h_ce, .int v_cs])), (h_cw, .inl (cT 0, 40, .inl f_cw)), (h_cl, .inl (cT 0, 40, .inl f_cl)), (h_cp, .inl (cT 0, 1640, .inl f_cp)), (h_ce, .inl (cT 2, 40, .inl f_ce))]) (w1 := [(h_e, .inr (1, [.ref h_r, .ref h_ec, .ref h_ea, .int v_es, .long u_8])), (h_r, .inr (6, [.long v_rp])), (h_ec, .inl (cT 0, 1640, .inl u_9)), (h_ea, .inl (cT 1, 40, .inr (.inl f_ea)))]) hP hD [0, 1, 2, 3] [4, 5, 6, 7, 8] rfl rfl (by decide) (by decide) hk1 hFc hP1 hD1
      have hP := hP.sub (ws' := [(h_e, .inr (1, [.ref h_r, .ref h_ec, .ref h_ea, .int v_es, .long u_8])), (h_r, .inr (6, [.long v_rp])), (h_ec, .inl (cT 0, 1640, .inl u_9)), (h_ea, .inl (cT 1, 40, .inr (.inl f_ea))), (h_c, .inr (0, [.ref h_cw, .ref h_cl, .ref h_cp, .ref h_ce, .int v_cs])), (h_cw, .inl (cT 0, 40, .inl f_cw)), (h_cl, .inl (cT 0, 40, .inl f_cl)), (h_cp, .inl (cT 0, 1640, .inl f_cp)), (h_ce, .inl (cT 2, 40, .inl f_ce))]) [5, 6, 7, 8, 0, 1, 2, 3, 4] rfl
      have hD := hD.sub (ws' := [(h_e, .inr (1, [.ref h_r, .ref h_ec, .ref h_ea, .int v_es, .long u_8])), (h_r, .inr (6, [.long v_rp])), (h_ec, .inl (cT 0, 1640, .inl u_9)), (h_ea, .inl (cT 1, 40, .inr (.inl f_ea))), (h_c, .inr (0, [.ref h_cw, .ref h_cl, .ref h_cp, .ref h_ce, .int v_cs])), (h_cw, .inl (cT 0, 40, .inl f_cw)), (h_cl, .inl (cT 0, 40, .inl f_cl)), (h_cp, .inl (cT 0, 1640, .inl f_cp)), (h_ce, .inl (cT 2, 40, .inl f_ce))]) [5, 6, 7, 8, 0, 1, 2, 3, 4] (by decide) rfl
      clear hP1 hD1 hPc hDc hFc hk1 hz1 hvm ht
      try dsimp only at hw
      refine lv_if_ne (tgt := 47) hx hb dX1_answerBy_42 (by decide) (fun c_11 => ?_) (fun c_11 => ?_)
      · have hw := hw.2 c_11
        obtain ⟨x3_12, ex3_12⟩ : ∃ y : Int32, y = x3 + 1 := ⟨_, rfl⟩
        refine lv_iinc (v := x3_12) (lv' := [(3, .int x3_12), (0, .ref h_e)]) hx hb dX1_answerBy_47 hl (k := 1) rfl (by rw [ex3_12]; rfl) (by decide) rfl (fun ls hl => ?_)
        have hw := hw x3_12 ex3_12
        refine lv_goto (tgt := 29) hx hb dX1_answerBy_50 (by decide) ?_
        exact ih _ _ _ _ _ _ _ _ _ hP hD hS (lv_sub hl [1, 0] rfl) hw
      · have hw := hw.1 c_11
        refine lv_iconst (v := 0) hx hb dX1_answerBy_45 (by decide) ?_
        exact hret _ _ _ _ _ _ _ _ _ _ rfl hw hP hD hS dX1_answerBy_46
set_option maxHeartbeats 4000000 in
set_option maxRecDepth 100000 in
theorem tw_Equations_answerBy {post : Int32 → Int32 → Int64 → Int64 → (Nat → Int32) → (Nat → Int64) → Prop} {h_e h_r h_ec h_ea h_c h_cw h_cl h_cp h_ce : Nat} {v_cs : Int32} {f_cw : Nat → Int32} {f_cl : Nat → Int32} {f_cp : Nat → Int32} {f_ce : Nat → Int32}  (C0 : cx RX1 cX1_answerBy 4 D cT p s m c args) (hA : ∀ q, s.heap.size ≤ q → A q) (hret : ∀ (r : Int32) (v_es : Int32) (v_ed : Int64) (v_rp : Int64) (f_ec : Nat → Int32) (f_ea : Nat → Int64) (H : Heap) (locs : List Loc) (pc : Nat) (ls : Array Slot), narrow .boolean (.int r) = .int r → post r v_es v_ed v_rp f_ec f_ea → va_P D vwCl [(h_e, .inr (1, [.ref h_r, .ref h_ec, .ref h_ea, .int v_es, .long v_ed])), (h_r, .inr (6, [.long v_rp])), (h_ec, .inl (cT 0, 1640, .inl f_ec)), (h_ea, .inl (cT 1, 40, .inr (.inl f_ea))), (h_c, .inr (0, [.ref h_cw, .ref h_cl, .ref h_cp, .ref h_ce, .int v_cs])), (h_cw, .inl (cT 0, 40, .inl f_cw)), (h_cl, .inl (cT 0, 40, .inl f_cl)), (h_cp, .inl (cT 0, 1640, .inl f_cp)), (h_ce, .inl (cT 2, 40, .inl f_ce))] H → va_D A [(h_e, .inr (1, [.ref h_r, .ref h_ec, .ref h_ea, .int v_es, .long v_ed])), (h_r, .inr (6, [.long v_rp])), (h_ec, .inl (cT 0, 1640, .inl f_ec)), (h_ea, .inl (cT 1, 40, .inr (.inl f_ea))), (h_c, .inr (0, [.ref h_cw, .ref h_cl, .ref h_cp, .ref h_ce, .int v_cs])), (h_cw, .inl (cT 0, 40, .inl f_cw)), (h_cl, .inl (cT 0, 40, .inl f_cl)), (h_cp, .inl (cT 0, 1640, .inl f_cp)), (h_ce, .inl (cT 2, 40, .inl f_ce))] → va_S A s.heap H locs → decode cX1_answerBy pc = .ok (.ireturn, 1) → W p l e ({ frames := 4, cells := 0, slots := 0, locals := 103 } : Room) s m args below meth c H locs 0 0 Q (F0 m pc ls [.int r]))  : ∀ (x1 : Int32) (v_es : Int32) (v_ed : Int64) (v_rp : Int64) (f_ec : Nat → Int32) (f_ea : Nat → Int64) (H : Heap) (locs : List Loc) (ls : Array Slot), va_P D vwCl [(h_e, .inr (1, [.ref h_r, .ref h_ec, .ref h_ea, .int v_es, .long v_ed])), (h_r, .inr (6, [.long v_rp])), (h_ec, .inl (cT 0, 1640, .inl f_ec)), (h_ea, .inl (cT 1, 40, .inr (.inl f_ea))), (h_c, .inr (0, [.ref h_cw, .ref h_cl, .ref h_cp, .ref h_ce, .int v_cs])), (h_cw, .inl (cT 0, 40, .inl f_cw)), (h_cl, .inl (cT 0, 40, .inl f_cl)), (h_cp, .inl (cT 0, 1640, .inl f_cp)), (h_ce, .inl (cT 2, 40, .inl f_ce))] H → va_D A [(h_e, .inr (1, [.ref h_r, .ref h_ec, .ref h_ea, .int v_es, .long v_ed])), (h_r, .inr (6, [.long v_rp])), (h_ec, .inl (cT 0, 1640, .inl f_ec)), (h_ea, .inl (cT 1, 40, .inr (.inl f_ea))), (h_c, .inr (0, [.ref h_cw, .ref h_cl, .ref h_cp, .ref h_ce, .int v_cs])), (h_cw, .inl (cT 0, 40, .inl f_cw)), (h_cl, .inl (cT 0, 40, .inl f_cl)), (h_cp, .inl (cT 0, 1640, .inl f_cp)), (h_ce, .inl (cT 2, 40, .inl f_ce))] → va_S A s.heap H locs → lv_has ls 4 [(0, .ref h_e), (1, .int x1), (2, .ref h_c)] → wp_Equations_answerBy post v_cs f_cw f_cl f_cp f_ce x1 v_es v_ed v_rp f_ec f_ea → W p l e ({ frames := 4, cells := 0, slots := 0, locals := 103 } : Room) s m args below meth c H locs 0 0 Q (F0 m 0 ls []) := by
  obtain ⟨⟨hx, hb, hml, hown, hts⟩, hK, hN⟩ := id C0
  intro x1 v_es v_ed v_rp f_ec f_ea H locs ls hP hD hS hl hw
  unfold wp_Equations_answerBy at hw
  refine lv_aload_n hx hb dX1_answerBy_0 rfl (lv_at hl 0 rfl) ?_
  refine va_get (D := D) (ci := 1) (v := .ref h_r) (C := RX1) (T := TX1) (N := 5) hx hb hts inX1 hown hK hP 0 rfl rfl 0 (by decide) (hts _ q_78) (fun _ h9 => h9) rfl dX1_answerBy_1 ?_
  refine lv_iload_n hx hb dX1_answerBy_4 rfl (lv_at hl 1 rfl) ?_
  refine lv_i2l hx hb dX1_answerBy_5 rfl ?_
  refine va_putN (D := D) (ci := 6) (v := .long x1.toInt64) (ty := .long) (C := RX6) (T := TX6) (N := 1) hx hb hts inX6 tyX6 tyX6_ok nmX6 hown hK hP hD hS 1 rfl rfl 0 (by decide) (va_Nw.use rfl hN.2.2.2.2.2.2.1) (fun _ h9 => h9) rfl (by decide +kernel) rfl rfl (Nat.le_of_ble_eq_true rfl) dX1_answerBy_6 (fun H locs hP hD hS => ?_)
  have hP : va_P D vwCl [(h_e, .inr (1, [.ref h_r, .ref h_ec, .ref h_ea, .int v_es, .long v_ed])), (h_r, .inr (6, [.long x1.toInt64])), (h_ec, .inl (cT 0, 1640, .inl f_ec)), (h_ea, .inl (cT 1, 40, .inr (.inl f_ea))), (h_c, .inr (0, [.ref h_cw, .ref h_cl, .ref h_cp, .ref h_ce, .int v_cs])), (h_cw, .inl (cT 0, 40, .inl f_cw)), (h_cl, .inl (cT 0, 40, .inl f_cl)), (h_cp, .inl (cT 0, 1640, .inl f_cp)), (h_ce, .inl (cT 2, 40, .inl f_ce))] H := hP
  have hD : va_D A [(h_e, .inr (1, [.ref h_r, .ref h_ec, .ref h_ea, .int v_es, .long v_ed])), (h_r, .inr (6, [.long x1.toInt64])), (h_ec, .inl (cT 0, 1640, .inl f_ec)), (h_ea, .inl (cT 1, 40, .inr (.inl f_ea))), (h_c, .inr (0, [.ref h_cw, .ref h_cl, .ref h_cp, .ref h_ce, .int v_cs])), (h_cw, .inl (cT 0, 40, .inl f_cw)), (h_cl, .inl (cT 0, 40, .inl f_cl)), (h_cp, .inl (cT 0, 1640, .inl f_cp)), (h_ce, .inl (cT 2, 40, .inl f_ce))] := hD
  refine lv_aload_n hx hb dX1_answerBy_9 rfl (lv_at hl 0 rfl) ?_
  refine lv_aload_n hx hb dX1_answerBy_10 rfl (lv_at hl 2 rfl) ?_
  refine va_getN (D := D) (ci := 0) (v := .int v_cs) (C := RX0) (T := TX0) (N := 5) hx hb hts inX0 hown hK hP 4 rfl rfl 4 (by decide) (va_Nw.use rfl hN.2.2.2.1) (fun _ h9 => h9) rfl dX1_answerBy_11 ?_
  refine va_put (D := D) (ci := 1) (v := .int v_cs) (ty := .int) (C := RX1) (T := TX1) (N := 5) hx hb hts inX1 tyX1 tyX1_ok nmX1 hown hK hP hD hS 0 rfl rfl 3 (by decide) (hts _ q_83) (fun _ h9 => h9) rfl (by decide +kernel) rfl rfl (Nat.le_of_ble_eq_true rfl) dX1_answerBy_14 (fun H locs hP hD hS => ?_)
  have hP : va_P D vwCl [(h_e, .inr (1, [.ref h_r, .ref h_ec, .ref h_ea, .int v_cs, .long v_ed])), (h_r, .inr (6, [.long x1.toInt64])), (h_ec, .inl (cT 0, 1640, .inl f_ec)), (h_ea, .inl (cT 1, 40, .inr (.inl f_ea))), (h_c, .inr (0, [.ref h_cw, .ref h_cl, .ref h_cp, .ref h_ce, .int v_cs])), (h_cw, .inl (cT 0, 40, .inl f_cw)), (h_cl, .inl (cT 0, 40, .inl f_cl)), (h_cp, .inl (cT 0, 1640, .inl f_cp)), (h_ce, .inl (cT 2, 40, .inl f_ce))] H := hP
  have hD : va_D A [(h_e, .inr (1, [.ref h_r, .ref h_ec, .ref h_ea, .int v_cs, .long v_ed])), (h_r, .inr (6, [.long x1.toInt64])), (h_ec, .inl (cT 0, 1640, .inl f_ec)), (h_ea, .inl (cT 1, 40, .inr (.inl f_ea))), (h_c, .inr (0, [.ref h_cw, .ref h_cl, .ref h_cp, .ref h_ce, .int v_cs])), (h_cw, .inl (cT 0, 40, .inl f_cw)), (h_cl, .inl (cT 0, 40, .inl f_cl)), (h_cp, .inl (cT 0, 1640, .inl f_cp)), (h_ce, .inl (cT 2, 40, .inl f_ce))] := hD
  refine lv_aload_n hx hb dX1_answerBy_17 rfl (lv_at hl 0 rfl) ?_
  refine lv_aload_n hx hb dX1_answerBy_18 rfl (lv_at hl 2 rfl) ?_
  have hPc := hP.sub (ws' := [(h_e, .inr (1, [.ref h_r, .ref h_ec, .ref h_ea, .int v_cs, .long v_ed])), (h_r, .inr (6, [.long x1.toInt64])), (h_ec, .inl (cT 0, 1640, .inl f_ec)), (h_ea, .inl (cT 1, 40, .inr (.inl f_ea))), (h_c, .inr (0, [.ref h_cw, .ref h_cl, .ref h_cp, .ref h_ce, .int v_cs])), (h_cw, .inl (cT 0, 40, .inl f_cw)), (h_cl, .inl (cT 0, 40, .inl f_cl)), (h_cp, .inl (cT 0, 1640, .inl f_cp)), (h_ce, .inl (cT 2, 40, .inl f_ce))]) [0, 1, 2, 3, 4, 5, 6, 7, 8] rfl
  have hDc := hD.sub (ws' := [(h_e, .inr (1, [.ref h_r, .ref h_ec, .ref h_ea, .int v_cs, .long v_ed])), (h_r, .inr (6, [.long x1.toInt64])), (h_ec, .inl (cT 0, 1640, .inl f_ec)), (h_ea, .inl (cT 1, 40, .inr (.inl f_ea))), (h_c, .inr (0, [.ref h_cw, .ref h_cl, .ref h_cp, .ref h_ce, .int v_cs])), (h_cw, .inl (cT 0, 40, .inl f_cw)), (h_cl, .inl (cT 0, 40, .inl f_cl)), (h_cp, .inl (cT 0, 1640, .inl f_cp)), (h_ce, .inl (cT 2, 40, .inl f_ce))]) [0, 1, 2, 3, 4, 5, 6, 7, 8] (by decide) rfl
  have hFc := va_free (wc := [(h_e, .inr (1, [.ref h_r, .ref h_ec, .ref h_ea, .int v_cs, .long v_ed])), (h_r, .inr (6, [.long x1.toInt64])), (h_ec, .inl (cT 0, 1640, .inl f_ec)), (h_ea, .inl (cT 1, 40, .inr (.inl f_ea))), (h_c, .inr (0, [.ref h_cw, .ref h_cl, .ref h_cp, .ref h_ce, .int v_cs])), (h_cw, .inl (cT 0, 40, .inl f_cw)), (h_cl, .inl (cT 0, 40, .inl f_cl)), (h_cp, .inl (cT 0, 1640, .inl f_cp)), (h_ce, .inl (cT 2, 40, .inl f_ce))]) hD hS hA [0, 1, 2, 3, 4, 5, 6, 7, 8] rfl
  refine va_callv (va_runV (As := [.ref h_c]) (rest := []) ⟨hx, hb, hml, hown, hts⟩ (cn_Equations_load l D cT h_e h_r h_ec h_ea h_c h_cw h_cl h_cp h_ce H.size v_cs v_ed x1.toInt64 f_ec f_ea v_cs f_cw f_cl f_cp f_ce _ hw) (gv_ 1 q_229 q_4 q_226 q_228 qs_2 (by decide +kernel) ⟨Nat.le_of_ble_eq_true rfl, Nat.le_of_ble_eq_true rfl⟩ hts) ⟨pre_blind, va_recv hK hPc (ci := 1) (q0 := 0) rfl rfl, fun U hU hW => ⟨rfl, pre_mk hU hW hPc hK hDc hN⟩⟩ rfl rfl hl.1 rfl (lv_room (Nat.le_of_ble_eq_true rfl)) dX1_answerBy_19 ⟨(Nat.zero_le _), (Nat.zero_le _)⟩) hS (fun q _ h => hFc q h) hFc (fun u9 t H locs ht hvm hw hB hz1 hk1 hS => ?_)
  obtain ⟨u_1, rfl⟩ : ∃ z, z = u9 := ⟨_, rfl⟩
  obtain ⟨hP1, hD1⟩ := hB
  rw [ht] at hP1
  obtain ⟨hP, hD⟩ := va_join (wr := []) (w1 := [(h_e, .inr (1, [.ref h_r, .ref h_ec, .ref h_ea, .int v_cs, .long v_ed])), (h_r, .inr (6, [.long x1.toInt64])), (h_ec, .inl (cT 0, 1640, .inl u_1)), (h_ea, .inl (cT 1, 40, .inr (.inl f_ea))), (h_c, .inr (0, [.ref h_cw, .ref h_cl, .ref h_cp, .ref h_ce, .int v_cs])), (h_cw, .inl (cT 0, 40, .inl f_cw)), (h_cl, .inl (cT 0, 40, .inl f_cl)), (h_cp, .inl (cT 0, 1640, .inl f_cp)), (h_ce, .inl (cT 2, 40, .inl f_ce))]) hP hD [0, 1, 2, 3, 4, 5, 6, 7, 8] [] rfl rfl (by decide) (by decide) hk1 hFc hP1 hD1
  have hP := hP.sub (ws' := [(h_e, .inr (1, [.ref h_r, .ref h_ec, .ref h_ea, .int v_cs, .long v_ed])), (h_r, .inr (6, [.long x1.toInt64])), (h_ec, .inl (cT 0, 1640, .inl u_1)), (h_ea, .inl (cT 1, 40, .inr (.inl f_ea))), (h_c, .inr (0, [.ref h_cw, .ref h_cl, .ref h_cp, .ref h_ce, .int v_cs])), (h_cw, .inl (cT 0, 40, .inl f_cw)), (h_cl, .inl (cT 0, 40, .inl f_cl)), (h_cp, .inl (cT 0, 1640, .inl f_cp)), (h_ce, .inl (cT 2, 40, .inl f_ce))]) [0, 1, 2, 3, 4, 5, 6, 7, 8] rfl
  have hD := hD.sub (ws' := [(h_e, .inr (1, [.ref h_r, .ref h_ec, .ref h_ea, .int v_cs, .long v_ed])), (h_r, .inr (6, [.long x1.toInt64])), (h_ec, .inl (cT 0, 1640, .inl u_1)), (h_ea, .inl (cT 1, 40, .inr (.inl f_ea))), (h_c, .inr (0, [.ref h_cw, .ref h_cl, .ref h_cp, .ref h_ce, .int v_cs])), (h_cw, .inl (cT 0, 40, .inl f_cw)), (h_cl, .inl (cT 0, 40, .inl f_cl)), (h_cp, .inl (cT 0, 1640, .inl f_cp)), (h_ce, .inl (cT 2, 40, .inl f_ce))]) [0, 1, 2, 3, 4, 5, 6, 7, 8] (by decide) rfl
  clear hP1 hD1 hPc hDc hFc hk1 hz1 hvm ht
  try dsimp only at hw
  refine lv_aload_n hx hb dX1_answerBy_22 rfl (lv_at hl 0 rfl) ?_
  refine lv_lconst (v := 1) hx hb dX1_answerBy_23 (by decide) ?_
  refine va_put (D := D) (ci := 1) (v := .long 1) (ty := .long) (C := RX1) (T := TX1) (N := 5) hx hb hts inX1 tyX1 tyX1_ok nmX1 hown hK hP hD hS 0 rfl rfl 4 (by decide) (hts _ q_84) (fun _ h9 => h9) rfl (by decide +kernel) rfl rfl (Nat.le_of_ble_eq_true rfl) dX1_answerBy_24 (fun H locs hP hD hS => ?_)
  have hP : va_P D vwCl [(h_e, .inr (1, [.ref h_r, .ref h_ec, .ref h_ea, .int v_cs, .long 1])), (h_r, .inr (6, [.long x1.toInt64])), (h_ec, .inl (cT 0, 1640, .inl u_1)), (h_ea, .inl (cT 1, 40, .inr (.inl f_ea))), (h_c, .inr (0, [.ref h_cw, .ref h_cl, .ref h_cp, .ref h_ce, .int v_cs])), (h_cw, .inl (cT 0, 40, .inl f_cw)), (h_cl, .inl (cT 0, 40, .inl f_cl)), (h_cp, .inl (cT 0, 1640, .inl f_cp)), (h_ce, .inl (cT 2, 40, .inl f_ce))] H := hP
  have hD : va_D A [(h_e, .inr (1, [.ref h_r, .ref h_ec, .ref h_ea, .int v_cs, .long 1])), (h_r, .inr (6, [.long x1.toInt64])), (h_ec, .inl (cT 0, 1640, .inl u_1)), (h_ea, .inl (cT 1, 40, .inr (.inl f_ea))), (h_c, .inr (0, [.ref h_cw, .ref h_cl, .ref h_cp, .ref h_ce, .int v_cs])), (h_cw, .inl (cT 0, 40, .inl f_cw)), (h_cl, .inl (cT 0, 40, .inl f_cl)), (h_cp, .inl (cT 0, 1640, .inl f_cp)), (h_ce, .inl (cT 2, 40, .inl f_ce))] := hD
  refine lv_iconst (v := 0) hx hb dX1_answerBy_27 (by decide) ?_
  refine lv_istore_n (lv' := [(3, .int 0), (0, .ref h_e), (1, .int x1), (2, .ref h_c)]) hx hb dX1_answerBy_28 rfl hl (by decide) rfl (fun ls hl => ?_)
  obtain ⟨n9, hw⟩ := hw
  exact tw_Equations_answerBy_29 C0 hA hret  n9 _ _ _ _ _ _ _ _ _ hP hD hS (lv_sub hl [1, 0] rfl) hw
set_option maxHeartbeats 4000000 in
set_option maxRecDepth 100000 in
theorem cn_Equations_answerBy (l : Launch) (D : va_G) (cT : Nat → ClassId) (h_e h_r h_ec h_ea h_c h_cw h_cl h_cp h_ce : Nat) (sz : Nat) (v_es : Int32) (v_ed : Int64) (v_rp : Int64) (f_ec : Nat → Int32) (f_ea : Nat → Int64) (v_cs : Int32) (f_cw : Nat → Int32) (f_cl : Nat → Int32) (f_cp : Nat → Int32) (f_ce : Nat → Int32) (x1 : Int32) (post : Int32 → Int32 → Int64 → Int64 → (Nat → Int32) → (Nat → Int64) → Prop) (hw : wp_Equations_answerBy post v_cs f_cw f_cl f_cp f_ce x1 v_es v_ed v_rp f_ec f_ea) : Met l yX1_answerBy wX1_answerBy ({ frames := 4, cells := 0, slots := 0, locals := 103 } : Room) (va_Pc [.ref h_e, .int x1, .ref h_c] (pre_ D cT [(h_e, .inr (1, [.ref h_r, .ref h_ec, .ref h_ea, .int v_es, .long v_ed])), (h_r, .inr (6, [.long v_rp])), (h_ec, .inl (cT 0, 1640, .inl f_ec)), (h_ea, .inl (cT 1, 40, .inr (.inl f_ea))), (h_c, .inr (0, [.ref h_cw, .ref h_cl, .ref h_cp, .ref h_ce, .int v_cs])), (h_cw, .inl (cT 0, 40, .inl f_cw)), (h_cl, .inl (cT 0, 40, .inl f_cl)), (h_cp, .inl (cT 0, 1640, .inl f_cp)), (h_ce, .inl (cT 2, 40, .inl f_ce))] sz)) (va_Qi (fun (r : Int32) (u : Int32 × Int64 × Int64 × (Nat → Int32) × (Nat → Int64)) => post r u.1 u.2.1 u.2.2.1 u.2.2.2.1 u.2.2.2.2) (fun u t => va_P D vwCl [(h_e, .inr (1, [.ref h_r, .ref h_ec, .ref h_ea, .int u.1, .long u.2.1])), (h_r, .inr (6, [.long u.2.2.1])), (h_ec, .inl (cT 0, 1640, .inl u.2.2.2.1)), (h_ea, .inl (cT 1, 40, .inr (.inl u.2.2.2.2))), (h_c, .inr (0, [.ref h_cw, .ref h_cl, .ref h_cp, .ref h_ce, .int v_cs])), (h_cw, .inl (cT 0, 40, .inl f_cw)), (h_cl, .inl (cT 0, 40, .inl f_cl)), (h_cp, .inl (cT 0, 1640, .inl f_cp)), (h_ce, .inl (cT 2, 40, .inl f_ce))] t.heap ∧ va_D (va_A [(h_e, .inr (1, [.ref h_r, .ref h_ec, .ref h_ea, .int v_es, .long v_ed])), (h_r, .inr (6, [.long v_rp])), (h_ec, .inl (cT 0, 1640, .inl f_ec)), (h_ea, .inl (cT 1, 40, .inr (.inl f_ea))), (h_c, .inr (0, [.ref h_cw, .ref h_cl, .ref h_cp, .ref h_ce, .int v_cs])), (h_cw, .inl (cT 0, 40, .inl f_cw)), (h_cl, .inl (cT 0, 40, .inl f_cl)), (h_cp, .inl (cT 0, 1640, .inl f_cp)), (h_ce, .inl (cT 2, 40, .inl f_ce))] sz) [(h_e, .inr (1, [.ref h_r, .ref h_ec, .ref h_ea, .int u.1, .long u.2.1])), (h_r, .inr (6, [.long u.2.2.1])), (h_ec, .inl (cT 0, 1640, .inl u.2.2.2.1)), (h_ea, .inl (cT 1, 40, .inr (.inl u.2.2.2.2))), (h_c, .inr (0, [.ref h_cw, .ref h_cl, .ref h_cp, .ref h_ce, .int v_cs])), (h_cw, .inl (cT 0, 40, .inl f_cw)), (h_cl, .inl (cT 0, 40, .inl f_cl)), (h_cp, .inl (cT 0, 1640, .inl f_cp)), (h_ce, .inl (cT 2, 40, .inl f_ce))]) (va_A [(h_e, .inr (1, [.ref h_r, .ref h_ec, .ref h_ea, .int v_es, .long v_ed])), (h_r, .inr (6, [.long v_rp])), (h_ec, .inl (cT 0, 1640, .inl f_ec)), (h_ea, .inl (cT 1, 40, .inr (.inl f_ea))), (h_c, .inr (0, [.ref h_cw, .ref h_cl, .ref h_cp, .ref h_ce, .int v_cs])), (h_cw, .inl (cT 0, 40, .inl f_cw)), (h_cl, .inl (cT 0, 40, .inl f_cl)), (h_cp, .inl (cT 0, 1640, .inl f_cp)), (h_ce, .inl (cT 2, 40, .inl f_ce))] sz)) 0 0 (va_A [(h_e, .inr (1, [.ref h_r, .ref h_ec, .ref h_ea, .int v_es, .long v_ed])), (h_r, .inr (6, [.long v_rp])), (h_ec, .inl (cT 0, 1640, .inl f_ec)), (h_ea, .inl (cT 1, 40, .inr (.inl f_ea))), (h_c, .inr (0, [.ref h_cw, .ref h_cl, .ref h_cp, .ref h_ce, .int v_cs])), (h_cw, .inl (cT 0, 40, .inl f_cw)), (h_cl, .inl (cT 0, 40, .inl f_cl)), (h_cp, .inl (cT 0, 1640, .inl f_cp)), (h_ce, .inl (cT 2, 40, .inl f_ce))] sz) := by
  refine Met.ofW (cc := cX1_answerBy) (maxL := 4) (ret := (some .boolean)) (by decide) rfl ?_
  intro p e s m args below meth c s₁ B hml hv
  obtain ⟨rfl, hsz, hP, hK, hD0, hN⟩ := hv
  have hx := B.exec
  have hb := B.bytes
  have hr := B.returns
  have hts : ∀ w ∈ WG, w.before _ s = true := fun w h => atoms_spec (ws := wX1_answerBy) B.pre w (List.mem_cons_of_mem _ h)
  have hown : s.vm.findClass RX1 = some m.cls := findClass_of_methodNamed B.named
  have hlocks := B.notSynchronized
  subst hsz
  have hD := hD0.self (sz := s.heap.size)
  generalize hAe : va_A [(h_e, .inr (1, [.ref h_r, .ref h_ec, .ref h_ea, .int v_es, .long v_ed])), (h_r, .inr (6, [.long v_rp])), (h_ec, .inl (cT 0, 1640, .inl f_ec)), (h_ea, .inl (cT 1, 40, .inr (.inl f_ea))), (h_c, .inr (0, [.ref h_cw, .ref h_cl, .ref h_cp, .ref h_ce, .int v_cs])), (h_cw, .inl (cT 0, 40, .inl f_cw)), (h_cl, .inl (cT 0, 40, .inl f_cl)), (h_cp, .inl (cT 0, 1640, .inl f_cp)), (h_ce, .inl (cT 2, 40, .inl f_ce))] s.heap.size = A at hD ⊢
  have hA : ∀ q : Nat, s.heap.size ≤ q → A q := fun q h => by rw [← hAe]; exact Or.inr h
  have hS : va_S A s.heap s.heap [] := va_S.rf
  have hl := lv_entry ([.ref h_e, .int x1, .ref h_c]) (n := 4) (Nat.le_of_ble_eq_true rfl)
  rw [lg_entry_eq]
  generalize (lg_sl ([.ref h_e, .int x1, .ref h_c]) ++ List.replicate (4 - (lg_sl ([.ref h_e, .int x1, .ref h_c])).length) Slot.unset).toArray = ls at hl ⊢
  refine tw_Equations_answerBy (Q := MQ below _ _ s 0 0 A) ⟨⟨hx, hb, hml, hown, hts⟩, hK, hN⟩ hA (fun r v_es v_ed v_rp f_ec f_ea H locs pc ls hn9 hp hP hD hS hd => W.zret (v := r) hx hb hr hn9 (fun t ht hW => ⟨⟨r, (v_es, v_ed, v_rp, f_ec, f_ea), rfl, hp, by rw [ht]; exact hP, hD⟩, hS.F ht⟩) hS.2.2 hd) _ _ _ _ _ _ _ _ _ hP hD hS hl hw
end
