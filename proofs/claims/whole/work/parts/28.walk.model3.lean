def wp_Model_isZero_37 (post : Int32 → Prop) (v_thrown : Int32) (v_n : Int32) (v_has : Int32) (v_known : Int32) (v_many : Int32) (v_printed : Int32) (f_z : Nat → Int32)  (x2 : Int32) : Prop := (narrow .boolean (.int x2) = .int x2 ∧ post x2)
def wp_Model_isZero_30 (post : Int32 → Prop) (v_thrown : Int32) (v_n : Int32) (v_has : Int32) (v_known : Int32) (v_many : Int32) (v_printed : Int32) (f_z : Nat → Int32) (K4 : Int32 → Int32 → Int32 → Prop) (x1 : Int32) (x3 : Int32) (y0 : Int32) : Prop := ∀ x3_5 : Int32, x3_5 = x3 + 1 → K4 x1 y0 x3_5
def wp_Model_isZero_4 (post : Int32 → Prop) (v_thrown : Int32) (v_n : Int32) (v_has : Int32) (v_known : Int32) (v_many : Int32) (v_printed : Int32) (f_z : Nat → Int32)  : Nat → Int32 → Int32 → Int32 → Prop
  | 0 => fun _ _ _ => False
  | n + 1 => fun x1 x2 x3 => ((22 ≤ x3 → (wp_Model_isZero_37 post v_thrown v_n v_has v_known v_many v_printed f_z x2)) ∧ (¬ 22 ≤ x3 → (((x2 = 0 → (wp_Model_isZero_37 post v_thrown v_n v_has v_known v_many v_printed f_z x2)) ∧ (¬ x2 = 0 → ((vp_in (x1 + x3) 1100 ∧ ((((f_z (x1 + x3).toNatClampNeg) = 0 → (wp_Model_isZero_30 post v_thrown v_n v_has v_known v_many v_printed f_z (wp_Model_isZero_4 post v_thrown v_n v_has v_known v_many v_printed f_z n) x1 x3 1)) ∧ (¬ (f_z (x1 + x3).toNatClampNeg) = 0 → (wp_Model_isZero_30 post v_thrown v_n v_has v_known v_many v_printed f_z (wp_Model_isZero_4 post v_thrown v_n v_has v_known v_many v_printed f_z n) x1 x3 0)))))))))))
def wp_Model_isZero (post : Int32 → Prop) (v_thrown : Int32) (v_n : Int32) (v_has : Int32) (v_known : Int32) (v_many : Int32) (v_printed : Int32) (f_z : Nat → Int32)  (x1 : Int32) : Prop := ∃ k9, wp_Model_isZero_4 post v_thrown v_n v_has v_known v_many v_printed f_z k9 x1 1 0
section
variable {p : Program} {l : Launch} {e : Env} {s : State} {m : MethodId} {args : Array Value} {below : List Frame} {meth : Method} {c : Code} {Q : State → Prop} {A : Nat → Prop} {D : va_G} {cT : Nat → ClassId}
set_option maxHeartbeats 4000000 in
set_option maxRecDepth 100000 in
theorem tw_Model_isZero_37 {post : Int32 → Prop} {h_m h_mz h_mwholes h_mparts h_mknown31 h_mprimes h_mrests h_mrows h_mdigits h_mout h_mopen : Nat} {v_thrown : Int32} {v_n : Int32} {v_has : Int32} {v_known : Int32} {v_many : Int32} {v_printed : Int32} {f_z : Nat → Int32}  (C0 : cx RX8 cX8_isZero 4 D cT p s m c args) (hA : ∀ q, s.heap.size ≤ q → A q) (hret : ∀ (r : Int32)  (H : Heap) (locs : List Loc) (pc : Nat) (ls : Array Slot), narrow .boolean (.int r) = .int r → post r → va_P D vwCl [(h_m, .inr (8, [.int v_thrown, .int v_n, .ref h_mwholes, .ref h_mparts, .int v_has, .int v_known, .ref h_mknown31, .int v_many, .ref h_mprimes, .ref h_mrests, .ref h_mrows, .ref h_mdigits, .ref h_mz, .ref h_mout, .int v_printed, .ref h_mopen])), (h_mz, .inl (cT 0, 1100, .inl f_z))] H → va_D A [(h_m, .inr (8, [.int v_thrown, .int v_n, .ref h_mwholes, .ref h_mparts, .int v_has, .int v_known, .ref h_mknown31, .int v_many, .ref h_mprimes, .ref h_mrests, .ref h_mrows, .ref h_mdigits, .ref h_mz, .ref h_mout, .int v_printed, .ref h_mopen])), (h_mz, .inl (cT 0, 1100, .inl f_z))] → va_S A s.heap H locs → decode cX8_isZero pc = .ok (.ireturn, 1) → W p l e ({ frames := 0, cells := 0, slots := 0, locals := 0 } : Room) s m args below meth c H locs 0 0 Q (F0 m pc ls [.int r]))  : ∀ (x2 : Int32) (H : Heap) (locs : List Loc) (ls : Array Slot), va_P D vwCl [(h_m, .inr (8, [.int v_thrown, .int v_n, .ref h_mwholes, .ref h_mparts, .int v_has, .int v_known, .ref h_mknown31, .int v_many, .ref h_mprimes, .ref h_mrests, .ref h_mrows, .ref h_mdigits, .ref h_mz, .ref h_mout, .int v_printed, .ref h_mopen])), (h_mz, .inl (cT 0, 1100, .inl f_z))] H → va_D A [(h_m, .inr (8, [.int v_thrown, .int v_n, .ref h_mwholes, .ref h_mparts, .int v_has, .int v_known, .ref h_mknown31, .int v_many, .ref h_mprimes, .ref h_mrests, .ref h_mrows, .ref h_mdigits, .ref h_mz, .ref h_mout, .int v_printed, .ref h_mopen])), (h_mz, .inl (cT 0, 1100, .inl f_z))] → va_S A s.heap H locs → lv_has ls 4 [(2, .int x2)] → wp_Model_isZero_37 post v_thrown v_n v_has v_known v_many v_printed f_z x2 → W p l e ({ frames := 0, cells := 0, slots := 0, locals := 0 } : Room) s m args below meth c H locs 0 0 Q (F0 m 37 ls []) := by
  obtain ⟨⟨hx, hb, hml, hown, hts⟩, hK, hN⟩ := id C0
  intro x2 H locs ls hP hD hS hl hw
  unfold wp_Model_isZero_37 at hw
  refine lv_iload_n hx hb dX8_isZero_37 rfl (lv_at hl 0 rfl) ?_
  exact hret _  _ _ _ _ hw.1 hw.2 hP hD hS dX8_isZero_38
set_option maxHeartbeats 4000000 in
set_option maxRecDepth 100000 in
theorem tw_Model_isZero_30 {post : Int32 → Prop} {h_m h_mz h_mwholes h_mparts h_mknown31 h_mprimes h_mrests h_mrows h_mdigits h_mout h_mopen : Nat} {v_thrown : Int32} {v_n : Int32} {v_has : Int32} {v_known : Int32} {v_many : Int32} {v_printed : Int32} {f_z : Nat → Int32} {K4 : Int32 → Int32 → Int32 → Prop} (C0 : cx RX8 cX8_isZero 4 D cT p s m c args) (hA : ∀ q, s.heap.size ≤ q → A q) (hret : ∀ (r : Int32)  (H : Heap) (locs : List Loc) (pc : Nat) (ls : Array Slot), narrow .boolean (.int r) = .int r → post r → va_P D vwCl [(h_m, .inr (8, [.int v_thrown, .int v_n, .ref h_mwholes, .ref h_mparts, .int v_has, .int v_known, .ref h_mknown31, .int v_many, .ref h_mprimes, .ref h_mrests, .ref h_mrows, .ref h_mdigits, .ref h_mz, .ref h_mout, .int v_printed, .ref h_mopen])), (h_mz, .inl (cT 0, 1100, .inl f_z))] H → va_D A [(h_m, .inr (8, [.int v_thrown, .int v_n, .ref h_mwholes, .ref h_mparts, .int v_has, .int v_known, .ref h_mknown31, .int v_many, .ref h_mprimes, .ref h_mrests, .ref h_mrows, .ref h_mdigits, .ref h_mz, .ref h_mout, .int v_printed, .ref h_mopen])), (h_mz, .inl (cT 0, 1100, .inl f_z))] → va_S A s.heap H locs → decode cX8_isZero pc = .ok (.ireturn, 1) → W p l e ({ frames := 0, cells := 0, slots := 0, locals := 0 } : Room) s m args below meth c H locs 0 0 Q (F0 m pc ls [.int r])) (hK4 : ∀ (x1 : Int32) (x2 : Int32) (x3 : Int32) (H : Heap) (locs : List Loc) (ls : Array Slot), va_P D vwCl [(h_m, .inr (8, [.int v_thrown, .int v_n, .ref h_mwholes, .ref h_mparts, .int v_has, .int v_known, .ref h_mknown31, .int v_many, .ref h_mprimes, .ref h_mrests, .ref h_mrows, .ref h_mdigits, .ref h_mz, .ref h_mout, .int v_printed, .ref h_mopen])), (h_mz, .inl (cT 0, 1100, .inl f_z))] H → va_D A [(h_m, .inr (8, [.int v_thrown, .int v_n, .ref h_mwholes, .ref h_mparts, .int v_has, .int v_known, .ref h_mknown31, .int v_many, .ref h_mprimes, .ref h_mrests, .ref h_mrows, .ref h_mdigits, .ref h_mz, .ref h_mout, .int v_printed, .ref h_mopen])), (h_mz, .inl (cT 0, 1100, .inl f_z))] → va_S A s.heap H locs → lv_has ls 4 [(0, .ref h_m), (1, .int x1), (2, .int x2), (3, .int x3)] → K4 x1 x2 x3 → W p l e ({ frames := 0, cells := 0, slots := 0, locals := 0 } : Room) s m args below meth c H locs 0 0 Q (F0 m 4 ls [])) : ∀ (x1 : Int32) (x3 : Int32) (y0 : Int32) (H : Heap) (locs : List Loc) (ls : Array Slot), va_P D vwCl [(h_m, .inr (8, [.int v_thrown, .int v_n, .ref h_mwholes, .ref h_mparts, .int v_has, .int v_known, .ref h_mknown31, .int v_many, .ref h_mprimes, .ref h_mrests, .ref h_mrows, .ref h_mdigits, .ref h_mz, .ref h_mout, .int v_printed, .ref h_mopen])), (h_mz, .inl (cT 0, 1100, .inl f_z))] H → va_D A [(h_m, .inr (8, [.int v_thrown, .int v_n, .ref h_mwholes, .ref h_mparts, .int v_has, .int v_known, .ref h_mknown31, .int v_many, .ref h_mprimes, .ref h_mrests, .ref h_mrows, .ref h_mdigits, .ref h_mz, .ref h_mout, .int v_printed, .ref h_mopen])), (h_mz, .inl (cT 0, 1100, .inl f_z))] → va_S A s.heap H locs → lv_has ls 4 [(0, .ref h_m), (1, .int x1), (3, .int x3)] → wp_Model_isZero_30 post v_thrown v_n v_has v_known v_many v_printed f_z K4 x1 x3 y0 → W p l e ({ frames := 0, cells := 0, slots := 0, locals := 0 } : Room) s m args below meth c H locs 0 0 Q (F0 m 30 ls [.int y0]) := by
  obtain ⟨⟨hx, hb, hml, hown, hts⟩, hK, hN⟩ := id C0
  intro x1 x3 y0 H locs ls hP hD hS hl hw
  unfold wp_Model_isZero_30 at hw
  refine lv_istore_n (lv' := [(2, .int y0), (0, .ref h_m), (1, .int x1), (3, .int x3)]) hx hb dX8_isZero_30 rfl hl (by decide) rfl (fun ls hl => ?_)
  obtain ⟨x3_5, ex3_5⟩ : ∃ y : Int32, y = x3 + 1 := ⟨_, rfl⟩
  refine lv_iinc (v := x3_5) (lv' := [(3, .int x3_5), (2, .int y0), (0, .ref h_m), (1, .int x1)]) hx hb dX8_isZero_31 hl (k := 3) rfl (by rw [ex3_5]; rfl) (by decide) rfl (fun ls hl => ?_)
  have hw := hw x3_5 ex3_5
  refine lv_goto (tgt := 4) hx hb dX8_isZero_34 (by decide) ?_
  exact hK4 _ _ _ _ _ _ hP hD hS (lv_sub hl [2, 3, 1, 0] rfl) hw
set_option maxHeartbeats 4000000 in
set_option maxRecDepth 100000 in
theorem tw_Model_isZero_4 {post : Int32 → Prop} {h_m h_mz h_mwholes h_mparts h_mknown31 h_mprimes h_mrests h_mrows h_mdigits h_mout h_mopen : Nat} {v_thrown : Int32} {v_n : Int32} {v_has : Int32} {v_known : Int32} {v_many : Int32} {v_printed : Int32} {f_z : Nat → Int32}  (C0 : cx RX8 cX8_isZero 4 D cT p s m c args) (hA : ∀ q, s.heap.size ≤ q → A q) (hret : ∀ (r : Int32)  (H : Heap) (locs : List Loc) (pc : Nat) (ls : Array Slot), narrow .boolean (.int r) = .int r → post r → va_P D vwCl [(h_m, .inr (8, [.int v_thrown, .int v_n, .ref h_mwholes, .ref h_mparts, .int v_has, .int v_known, .ref h_mknown31, .int v_many, .ref h_mprimes, .ref h_mrests, .ref h_mrows, .ref h_mdigits, .ref h_mz, .ref h_mout, .int v_printed, .ref h_mopen])), (h_mz, .inl (cT 0, 1100, .inl f_z))] H → va_D A [(h_m, .inr (8, [.int v_thrown, .int v_n, .ref h_mwholes, .ref h_mparts, .int v_has, .int v_known, .ref h_mknown31, .int v_many, .ref h_mprimes, .ref h_mrests, .ref h_mrows, .ref h_mdigits, .ref h_mz, .ref h_mout, .int v_printed, .ref h_mopen])), (h_mz, .inl (cT 0, 1100, .inl f_z))] → va_S A s.heap H locs → decode cX8_isZero pc = .ok (.ireturn, 1) → W p l e ({ frames := 0, cells := 0, slots := 0, locals := 0 } : Room) s m args below meth c H locs 0 0 Q (F0 m pc ls [.int r]))  : ∀ (n : Nat) (x1 : Int32) (x2 : Int32) (x3 : Int32) (H : Heap) (locs : List Loc) (ls : Array Slot), va_P D vwCl [(h_m, .inr (8, [.int v_thrown, .int v_n, .ref h_mwholes, .ref h_mparts, .int v_has, .int v_known, .ref h_mknown31, .int v_many, .ref h_mprimes, .ref h_mrests, .ref h_mrows, .ref h_mdigits, .ref h_mz, .ref h_mout, .int v_printed, .ref h_mopen])), (h_mz, .inl (cT 0, 1100, .inl f_z))] H → va_D A [(h_m, .inr (8, [.int v_thrown, .int v_n, .ref h_mwholes, .ref h_mparts, .int v_has, .int v_known, .ref h_mknown31, .int v_many, .ref h_mprimes, .ref h_mrests, .ref h_mrows, .ref h_mdigits, .ref h_mz, .ref h_mout, .int v_printed, .ref h_mopen])), (h_mz, .inl (cT 0, 1100, .inl f_z))] → va_S A s.heap H locs → lv_has ls 4 [(0, .ref h_m), (1, .int x1), (2, .int x2), (3, .int x3)] → wp_Model_isZero_4 post v_thrown v_n v_has v_known v_many v_printed f_z n x1 x2 x3 → W p l e ({ frames := 0, cells := 0, slots := 0, locals := 0 } : Room) s m args below meth c H locs 0 0 Q (F0 m 4 ls []) := by
  obtain ⟨⟨hx, hb, hml, hown, hts⟩, hK, hN⟩ := id C0
  intro n
  induction n with
  | zero => intro x1 x2 x3 H locs ls hP hD hS hl hw; exact hw.elim
  | succ n ih =>
    intro x1 x2 x3 H locs ls hP hD hS hl hw
    unfold wp_Model_isZero_4 at hw
    refine lv_iload_n hx hb dX8_isZero_4 rfl (lv_at hl 3 rfl) ?_
    refine lv_bipush (v := 22) hx hb dX8_isZero_5 (by decide) ?_
    refine lv_icmp_ge (tgt := 37) hx hb dX8_isZero_7 (by decide) (fun c_1 => ?_) (fun c_1 => ?_)
    · have hw := hw.1 c_1
      exact tw_Model_isZero_37 C0 hA hret  _ _ _ _ hP hD hS (lv_sub hl [2] rfl) hw
    · have hw := hw.2 c_1
      refine lv_iload_n hx hb dX8_isZero_10 rfl (lv_at hl 2 rfl) ?_
      refine lv_if_eq (tgt := 37) hx hb dX8_isZero_11 (by decide) (fun c_2 => ?_) (fun c_2 => ?_)
      · have hw := hw.1 c_2
        exact tw_Model_isZero_37 C0 hA hret  _ _ _ _ hP hD hS (lv_sub hl [2] rfl) hw
      · have hw := hw.2 c_2
        refine lv_aload_n hx hb dX8_isZero_14 rfl (lv_at hl 0 rfl) ?_
        refine va_get (D := D) (ci := 8) (v := .ref h_mz) (C := RX8) (T := TX8) (N := 16) hx hb hts inX8 hown hK hP 0 rfl rfl 12 (by decide) (hts _ q_595) (fun _ h9 => h9) rfl dX8_isZero_15 ?_
        refine lv_iload_n hx hb dX8_isZero_18 rfl (lv_at hl 1 rfl) ?_
        refine lv_iload_n hx hb dX8_isZero_19 rfl (lv_at hl 3 rfl) ?_
        refine lv_iadd hx hb dX8_isZero_20 ?_
        obtain ⟨h_3, hw⟩ := hw
        refine va_iald hx hb hK hP 1 0 rfl rfl h_3 dX8_isZero_21 ?_
        refine lv_if_ne (tgt := 29) hx hb dX8_isZero_22 (by decide) (fun c_4 => ?_) (fun c_4 => ?_)
        · have hw := hw.2 c_4
          refine lv_iconst (v := 0) hx hb dX8_isZero_29 (by decide) ?_
          exact tw_Model_isZero_30 C0 hA hret ih _ _ _ _ _ _ hP hD hS (lv_sub hl [0, 1, 3] rfl) hw
        · have hw := hw.1 c_4
          refine lv_iconst (v := 1) hx hb dX8_isZero_25 (by decide) ?_
          refine lv_goto (tgt := 30) hx hb dX8_isZero_26 (by decide) ?_
          exact tw_Model_isZero_30 C0 hA hret ih _ _ _ _ _ _ hP hD hS (lv_sub hl [0, 1, 3] rfl) hw
set_option maxHeartbeats 4000000 in
set_option maxRecDepth 100000 in
theorem tw_Model_isZero {post : Int32 → Prop} {h_m h_mz h_mwholes h_mparts h_mknown31 h_mprimes h_mrests h_mrows h_mdigits h_mout h_mopen : Nat} {v_thrown : Int32} {v_n : Int32} {v_has : Int32} {v_known : Int32} {v_many : Int32} {v_printed : Int32} {f_z : Nat → Int32}  (C0 : cx RX8 cX8_isZero 4 D cT p s m c args) (hA : ∀ q, s.heap.size ≤ q → A q) (hret : ∀ (r : Int32)  (H : Heap) (locs : List Loc) (pc : Nat) (ls : Array Slot), narrow .boolean (.int r) = .int r → post r → va_P D vwCl [(h_m, .inr (8, [.int v_thrown, .int v_n, .ref h_mwholes, .ref h_mparts, .int v_has, .int v_known, .ref h_mknown31, .int v_many, .ref h_mprimes, .ref h_mrests, .ref h_mrows, .ref h_mdigits, .ref h_mz, .ref h_mout, .int v_printed, .ref h_mopen])), (h_mz, .inl (cT 0, 1100, .inl f_z))] H → va_D A [(h_m, .inr (8, [.int v_thrown, .int v_n, .ref h_mwholes, .ref h_mparts, .int v_has, .int v_known, .ref h_mknown31, .int v_many, .ref h_mprimes, .ref h_mrests, .ref h_mrows, .ref h_mdigits, .ref h_mz, .ref h_mout, .int v_printed, .ref h_mopen])), (h_mz, .inl (cT 0, 1100, .inl f_z))] → va_S A s.heap H locs → decode cX8_isZero pc = .ok (.ireturn, 1) → W p l e ({ frames := 0, cells := 0, slots := 0, locals := 0 } : Room) s m args below meth c H locs 0 0 Q (F0 m pc ls [.int r]))  : ∀ (x1 : Int32) (H : Heap) (locs : List Loc) (ls : Array Slot), va_P D vwCl [(h_m, .inr (8, [.int v_thrown, .int v_n, .ref h_mwholes, .ref h_mparts, .int v_has, .int v_known, .ref h_mknown31, .int v_many, .ref h_mprimes, .ref h_mrests, .ref h_mrows, .ref h_mdigits, .ref h_mz, .ref h_mout, .int v_printed, .ref h_mopen])), (h_mz, .inl (cT 0, 1100, .inl f_z))] H → va_D A [(h_m, .inr (8, [.int v_thrown, .int v_n, .ref h_mwholes, .ref h_mparts, .int v_has, .int v_known, .ref h_mknown31, .int v_many, .ref h_mprimes, .ref h_mrests, .ref h_mrows, .ref h_mdigits, .ref h_mz, .ref h_mout, .int v_printed, .ref h_mopen])), (h_mz, .inl (cT 0, 1100, .inl f_z))] → va_S A s.heap H locs → lv_has ls 4 [(0, .ref h_m), (1, .int x1)] → wp_Model_isZero post v_thrown v_n v_has v_known v_many v_printed f_z x1 → W p l e ({ frames := 0, cells := 0, slots := 0, locals := 0 } : Room) s m args below meth c H locs 0 0 Q (F0 m 0 ls []) := by
  obtain ⟨⟨hx, hb, hml, hown, hts⟩, hK, hN⟩ := id C0
  intro x1 H locs ls hP hD hS hl hw
  unfold wp_Model_isZero at hw
  refine lv_iconst (v := 1) hx hb dX8_isZero_0 (by decide) ?_
  refine lv_istore_n (lv' := [(2, .int 1), (0, .ref h_m), (1, .int x1)]) hx hb dX8_isZero_1 rfl hl (by decide) rfl (fun ls hl => ?_)
  refine lv_iconst (v := 0) hx hb dX8_isZero_2 (by decide) ?_
  refine lv_istore_n (lv' := [(3, .int 0), (2, .int 1), (0, .ref h_m), (1, .int x1)]) hx hb dX8_isZero_3 rfl hl (by decide) rfl (fun ls hl => ?_)
  obtain ⟨n9, hw⟩ := hw
  exact tw_Model_isZero_4 C0 hA hret  n9 _ _ _ _ _ _ hP hD hS (lv_sub hl [2, 3, 1, 0] rfl) hw
set_option maxHeartbeats 4000000 in
set_option maxRecDepth 100000 in
theorem cn_Model_isZero (l : Launch) (D : va_G) (cT : Nat → ClassId) (h_m h_mz h_mwholes h_mparts h_mknown31 h_mprimes h_mrests h_mrows h_mdigits h_mout h_mopen : Nat) (sz : Nat) (v_thrown : Int32) (v_n : Int32) (v_has : Int32) (v_known : Int32) (v_many : Int32) (v_printed : Int32) (f_z : Nat → Int32) (x1 : Int32) (post : Int32 → Prop) (hw : wp_Model_isZero post v_thrown v_n v_has v_known v_many v_printed f_z x1) : Met l yX8_isZero wX8_isZero ({ frames := 0, cells := 0, slots := 0, locals := 0 } : Room) (va_Pc [.ref h_m, .int x1] (pre_ D cT [(h_m, .inr (8, [.int v_thrown, .int v_n, .ref h_mwholes, .ref h_mparts, .int v_has, .int v_known, .ref h_mknown31, .int v_many, .ref h_mprimes, .ref h_mrests, .ref h_mrows, .ref h_mdigits, .ref h_mz, .ref h_mout, .int v_printed, .ref h_mopen])), (h_mz, .inl (cT 0, 1100, .inl f_z))] sz)) (va_Qi (fun (r : Int32) (u : Unit) => post r) (fun u t => va_P D vwCl [(h_m, .inr (8, [.int v_thrown, .int v_n, .ref h_mwholes, .ref h_mparts, .int v_has, .int v_known, .ref h_mknown31, .int v_many, .ref h_mprimes, .ref h_mrests, .ref h_mrows, .ref h_mdigits, .ref h_mz, .ref h_mout, .int v_printed, .ref h_mopen])), (h_mz, .inl (cT 0, 1100, .inl f_z))] t.heap ∧ va_D (va_A [(h_m, .inr (8, [.int v_thrown, .int v_n, .ref h_mwholes, .ref h_mparts, .int v_has, .int v_known, .ref h_mknown31, .int v_many, .ref h_mprimes, .ref h_mrests, .ref h_mrows, .ref h_mdigits, .ref h_mz, .ref h_mout, .int v_printed, .ref h_mopen])), (h_mz, .inl (cT 0, 1100, .inl f_z))] sz) [(h_m, .inr (8, [.int v_thrown, .int v_n, .ref h_mwholes, .ref h_mparts, .int v_has, .int v_known, .ref h_mknown31, .int v_many, .ref h_mprimes, .ref h_mrests, .ref h_mrows, .ref h_mdigits, .ref h_mz, .ref h_mout, .int v_printed, .ref h_mopen])), (h_mz, .inl (cT 0, 1100, .inl f_z))]) (va_A [(h_m, .inr (8, [.int v_thrown, .int v_n, .ref h_mwholes, .ref h_mparts, .int v_has, .int v_known, .ref h_mknown31, .int v_many, .ref h_mprimes, .ref h_mrests, .ref h_mrows, .ref h_mdigits, .ref h_mz, .ref h_mout, .int v_printed, .ref h_mopen])), (h_mz, .inl (cT 0, 1100, .inl f_z))] sz)) 0 0 (va_A [(h_m, .inr (8, [.int v_thrown, .int v_n, .ref h_mwholes, .ref h_mparts, .int v_has, .int v_known, .ref h_mknown31, .int v_many, .ref h_mprimes, .ref h_mrests, .ref h_mrows, .ref h_mdigits, .ref h_mz, .ref h_mout, .int v_printed, .ref h_mopen])), (h_mz, .inl (cT 0, 1100, .inl f_z))] sz) := by
  refine Met.ofW (cc := cX8_isZero) (maxL := 4) (ret := (some .boolean)) (by decide) rfl ?_
  intro p e s m args below meth c s₁ B hml hv
  obtain ⟨rfl, hsz, hP, hK, hD0, hN⟩ := hv
  have hx := B.exec
  have hb := B.bytes
  have hr := B.returns
  have hts : ∀ w ∈ WG, w.before _ s = true := fun w h => atoms_spec (ws := wX8_isZero) B.pre w (List.mem_cons_of_mem _ h)
  have hown : s.vm.findClass RX8 = some m.cls := findClass_of_methodNamed B.named
  have hlocks := B.notSynchronized
  subst hsz
  have hD := hD0.self (sz := s.heap.size)
  generalize hAe : va_A [(h_m, .inr (8, [.int v_thrown, .int v_n, .ref h_mwholes, .ref h_mparts, .int v_has, .int v_known, .ref h_mknown31, .int v_many, .ref h_mprimes, .ref h_mrests, .ref h_mrows, .ref h_mdigits, .ref h_mz, .ref h_mout, .int v_printed, .ref h_mopen])), (h_mz, .inl (cT 0, 1100, .inl f_z))] s.heap.size = A at hD ⊢
  have hA : ∀ q : Nat, s.heap.size ≤ q → A q := fun q h => by rw [← hAe]; exact Or.inr h
  have hS : va_S A s.heap s.heap [] := va_S.rf
  have hl := lv_entry ([.ref h_m, .int x1]) (n := 4) (Nat.le_of_ble_eq_true rfl)
  rw [lg_entry_eq]
  generalize (lg_sl ([.ref h_m, .int x1]) ++ List.replicate (4 - (lg_sl ([.ref h_m, .int x1])).length) Slot.unset).toArray = ls at hl ⊢
  refine tw_Model_isZero (Q := MQ below _ _ s 0 0 A) ⟨⟨hx, hb, hml, hown, hts⟩, hK, hN⟩ hA (fun r  H locs pc ls hn9 hp hP hD hS hd => W.zret (v := r) hx hb hr hn9 (fun t ht hW => ⟨⟨r, (), rfl, hp, by rw [ht]; exact hP, hD⟩, hS.F ht⟩) hS.2.2 hd) _ _ _ _ hP hD hS hl hw
end
def wp_Model_order_79 (post : Int32 → Prop) (v_thrown : Int32) (v_n : Int32) (v_has : Int32) (v_known : Int32) (v_many : Int32) (v_printed : Int32) (f_z : Nat → Int32)  (y0 : Int32) : Prop := post y0
def wp_Model_order_32 (post : Int32 → Prop) (v_thrown : Int32) (v_n : Int32) (v_has : Int32) (v_known : Int32) (v_many : Int32) (v_printed : Int32) (f_z : Nat → Int32)  (x1 : Int32) (x2 : Int32) (x3 : Int32) : Prop := (vp_in (x1 + x3) 1100 ∧ ((vp_in (x2 + x3) 1100 ∧ ((((f_z (x1 + x3).toNatClampNeg) ≤ (f_z (x2 + x3).toNatClampNeg) → ((vp_in (x1 + x3) 1100 ∧ ((vp_in (x2 + x3) 1100 ∧ ((((f_z (x2 + x3).toNatClampNeg) ≤ (f_z (x1 + x3).toNatClampNeg) → (wp_Model_order_79 post v_thrown v_n v_has v_known v_many v_printed f_z 0)) ∧ (¬ (f_z (x2 + x3).toNatClampNeg) ≤ (f_z (x1 + x3).toNatClampNeg) → (wp_Model_order_79 post v_thrown v_n v_has v_known v_many v_printed f_z (-1)))))))))) ∧ (¬ (f_z (x1 + x3).toNatClampNeg) ≤ (f_z (x2 + x3).toNatClampNeg) → (wp_Model_order_79 post v_thrown v_n v_has v_known v_many v_printed f_z 1)))))))
def wp_Model_order_3 (post : Int32 → Prop) (v_thrown : Int32) (v_n : Int32) (v_has : Int32) (v_known : Int32) (v_many : Int32) (v_printed : Int32) (f_z : Nat → Int32)  : Nat → Int32 → Int32 → Int32 → Prop
  | 0 => fun _ _ _ => False
  | n + 1 => fun x1 x2 x3 => ((x3 ≤ 0 → (wp_Model_order_32 post v_thrown v_n v_has v_known v_many v_printed f_z x1 x2 x3)) ∧ (¬ x3 ≤ 0 → ((vp_in (x1 + x3) 1100 ∧ ((vp_in (x2 + x3) 1100 ∧ ((((f_z (x1 + x3).toNatClampNeg) = (f_z (x2 + x3).toNatClampNeg) → (∀ x3_11 : Int32, x3_11 = x3 + (-1) → wp_Model_order_3 post v_thrown v_n v_has v_known v_many v_printed f_z n x1 x2 x3_11)) ∧ (¬ (f_z (x1 + x3).toNatClampNeg) = (f_z (x2 + x3).toNatClampNeg) → (wp_Model_order_32 post v_thrown v_n v_has v_known v_many v_printed f_z x1 x2 x3))))))))))
def wp_Model_order (post : Int32 → Prop) (v_thrown : Int32) (v_n : Int32) (v_has : Int32) (v_known : Int32) (v_many : Int32) (v_printed : Int32) (f_z : Nat → Int32)  (x1 : Int32) (x2 : Int32) : Prop := ∃ k9, wp_Model_order_3 post v_thrown v_n v_has v_known v_many v_printed f_z k9 x1 x2 21
section
variable {p : Program} {l : Launch} {e : Env} {s : State} {m : MethodId} {args : Array Value} {below : List Frame} {meth : Method} {c : Code} {Q : State → Prop} {A : Nat → Prop} {D : va_G} {cT : Nat → ClassId}
set_option maxHeartbeats 4000000 in
set_option maxRecDepth 100000 in
theorem tw_Model_order_79 {post : Int32 → Prop} {h_m h_mz h_mwholes h_mparts h_mknown31 h_mprimes h_mrests h_mrows h_mdigits h_mout h_mopen : Nat} {v_thrown : Int32} {v_n : Int32} {v_has : Int32} {v_known : Int32} {v_many : Int32} {v_printed : Int32} {f_z : Nat → Int32}  (C0 : cx RX8 cX8_order 4 D cT p s m c args) (hA : ∀ q, s.heap.size ≤ q → A q) (hret : ∀ (r : Int32)  (H : Heap) (locs : List Loc) (pc : Nat) (ls : Array Slot), post r → va_P D vwCl [(h_m, .inr (8, [.int v_thrown, .int v_n, .ref h_mwholes, .ref h_mparts, .int v_has, .int v_known, .ref h_mknown31, .int v_many, .ref h_mprimes, .ref h_mrests, .ref h_mrows, .ref h_mdigits, .ref h_mz, .ref h_mout, .int v_printed, .ref h_mopen])), (h_mz, .inl (cT 0, 1100, .inl f_z))] H → va_D A [(h_m, .inr (8, [.int v_thrown, .int v_n, .ref h_mwholes, .ref h_mparts, .int v_has, .int v_known, .ref h_mknown31, .int v_many, .ref h_mprimes, .ref h_mrests, .ref h_mrows, .ref h_mdigits, .ref h_mz, .ref h_mout, .int v_printed, .ref h_mopen])), (h_mz, .inl (cT 0, 1100, .inl f_z))] → va_S A s.heap H locs → decode cX8_order pc = .ok (.ireturn, 1) → W p l e ({ frames := 0, cells := 0, slots := 0, locals := 0 } : Room) s m args below meth c H locs 0 0 Q (F0 m pc ls [.int r]))  : ∀ (y0 : Int32) (H : Heap) (locs : List Loc) (ls : Array Slot), va_P D vwCl [(h_m, .inr (8, [.int v_thrown, .int v_n, .ref h_mwholes, .ref h_mparts, .int v_has, .int v_known, .ref h_mknown31, .int v_many, .ref h_mprimes, .ref h_mrests, .ref h_mrows, .ref h_mdigits, .ref h_mz, .ref h_mout, .int v_printed, .ref h_mopen])), (h_mz, .inl (cT 0, 1100, .inl f_z))] H → va_D A [(h_m, .inr (8, [.int v_thrown, .int v_n, .ref h_mwholes, .ref h_mparts, .int v_has, .int v_known, .ref h_mknown31, .int v_many, .ref h_mprimes, .ref h_mrests, .ref h_mrows, .ref h_mdigits, .ref h_mz, .ref h_mout, .int v_printed, .ref h_mopen])), (h_mz, .inl (cT 0, 1100, .inl f_z))] → va_S A s.heap H locs → lv_has ls 4 [] → wp_Model_order_79 post v_thrown v_n v_has v_known v_many v_printed f_z y0 → W p l e ({ frames := 0, cells := 0, slots := 0, locals := 0 } : Room) s m args below meth c H locs 0 0 Q (F0 m 79 ls [.int y0]) := by
  obtain ⟨⟨hx, hb, hml, hown, hts⟩, hK, hN⟩ := id C0
  intro y0 H locs ls hP hD hS hl hw
  unfold wp_Model_order_79 at hw
  exact hret _  _ _ _ _ hw hP hD hS dX8_order_79
set_option maxHeartbeats 4000000 in
set_option maxRecDepth 100000 in
theorem tw_Model_order_32 {post : Int32 → Prop} {h_m h_mz h_mwholes h_mparts h_mknown31 h_mprimes h_mrests h_mrows h_mdigits h_mout h_mopen : Nat} {v_thrown : Int32} {v_n : Int32} {v_has : Int32} {v_known : Int32} {v_many : Int32} {v_printed : Int32} {f_z : Nat → Int32}  (C0 : cx RX8 cX8_order 4 D cT p s m c args) (hA : ∀ q, s.heap.size ≤ q → A q) (hret : ∀ (r : Int32)  (H : Heap) (locs : List Loc) (pc : Nat) (ls : Array Slot), post r → va_P D vwCl [(h_m, .inr (8, [.int v_thrown, .int v_n, .ref h_mwholes, .ref h_mparts, .int v_has, .int v_known, .ref h_mknown31, .int v_many, .ref h_mprimes, .ref h_mrests, .ref h_mrows, .ref h_mdigits, .ref h_mz, .ref h_mout, .int v_printed, .ref h_mopen])), (h_mz, .inl (cT 0, 1100, .inl f_z))] H → va_D A [(h_m, .inr (8, [.int v_thrown, .int v_n, .ref h_mwholes, .ref h_mparts, .int v_has, .int v_known, .ref h_mknown31, .int v_many, .ref h_mprimes, .ref h_mrests, .ref h_mrows, .ref h_mdigits, .ref h_mz, .ref h_mout, .int v_printed, .ref h_mopen])), (h_mz, .inl (cT 0, 1100, .inl f_z))] → va_S A s.heap H locs → decode cX8_order pc = .ok (.ireturn, 1) → W p l e ({ frames := 0, cells := 0, slots := 0, locals := 0 } : Room) s m args below meth c H locs 0 0 Q (F0 m pc ls [.int r]))  : ∀ (x1 : Int32) (x2 : Int32) (x3 : Int32) (H : Heap) (locs : List Loc) (ls : Array Slot), va_P D vwCl [(h_m, .inr (8, [.int v_thrown, .int v_n, .ref h_mwholes, .ref h_mparts, .int v_has, .int v_known, .ref h_mknown31, .int v_many, .ref h_mprimes, .ref h_mrests, .ref h_mrows, .ref h_mdigits, .ref h_mz, .ref h_mout, .int v_printed, .ref h_mopen])), (h_mz, .inl (cT 0, 1100, .inl f_z))] H → va_D A [(h_m, .inr (8, [.int v_thrown, .int v_n, .ref h_mwholes, .ref h_mparts, .int v_has, .int v_known, .ref h_mknown31, .int v_many, .ref h_mprimes, .ref h_mrests, .ref h_mrows, .ref h_mdigits, .ref h_mz, .ref h_mout, .int v_printed, .ref h_mopen])), (h_mz, .inl (cT 0, 1100, .inl f_z))] → va_S A s.heap H locs → lv_has ls 4 [(0, .ref h_m), (1, .int x1), (2, .int x2), (3, .int x3)] → wp_Model_order_32 post v_thrown v_n v_has v_known v_many v_printed f_z x1 x2 x3 → W p l e ({ frames := 0, cells := 0, slots := 0, locals := 0 } : Room) s m args below meth c H locs 0 0 Q (F0 m 32 ls []) := by
  obtain ⟨⟨hx, hb, hml, hown, hts⟩, hK, hN⟩ := id C0
  intro x1 x2 x3 H locs ls hP hD hS hl hw
  unfold wp_Model_order_32 at hw
  refine lv_aload_n hx hb dX8_order_32 rfl (lv_at hl 0 rfl) ?_
  refine va_get (D := D) (ci := 8) (v := .ref h_mz) (C := RX8) (T := TX8) (N := 16) hx hb hts inX8 hown hK hP 0 rfl rfl 12 (by decide) (hts _ q_595) (fun _ h9 => h9) rfl dX8_order_33 ?_
  refine lv_iload_n hx hb dX8_order_36 rfl (lv_at hl 1 rfl) ?_
  refine lv_iload_n hx hb dX8_order_37 rfl (lv_at hl 3 rfl) ?_
  refine lv_iadd hx hb dX8_order_38 ?_
  obtain ⟨h_2, hw⟩ := hw
  refine va_iald hx hb hK hP 1 0 rfl rfl h_2 dX8_order_39 ?_
  refine lv_aload_n hx hb dX8_order_40 rfl (lv_at hl 0 rfl) ?_
  refine va_get (D := D) (ci := 8) (v := .ref h_mz) (C := RX8) (T := TX8) (N := 16) hx hb hts inX8 hown hK hP 0 rfl rfl 12 (by decide) (hts _ q_595) (fun _ h9 => h9) rfl dX8_order_41 ?_
  refine lv_iload_n hx hb dX8_order_44 rfl (lv_at hl 2 rfl) ?_
  refine lv_iload_n hx hb dX8_order_45 rfl (lv_at hl 3 rfl) ?_
  refine lv_iadd hx hb dX8_order_46 ?_
  obtain ⟨h_3, hw⟩ := hw
  refine va_iald hx hb hK hP 1 0 rfl rfl h_3 dX8_order_47 ?_
  refine lv_icmp_le (tgt := 55) hx hb dX8_order_48 (by decide) (fun c_4 => ?_) (fun c_4 => ?_)
  · have hw := hw.1 c_4
    refine lv_aload_n hx hb dX8_order_55 rfl (lv_at hl 0 rfl) ?_
    refine va_get (D := D) (ci := 8) (v := .ref h_mz) (C := RX8) (T := TX8) (N := 16) hx hb hts inX8 hown hK hP 0 rfl rfl 12 (by decide) (hts _ q_595) (fun _ h9 => h9) rfl dX8_order_56 ?_
    refine lv_iload_n hx hb dX8_order_59 rfl (lv_at hl 1 rfl) ?_
    refine lv_iload_n hx hb dX8_order_60 rfl (lv_at hl 3 rfl) ?_
    refine lv_iadd hx hb dX8_order_61 ?_
    obtain ⟨h_5, hw⟩ := hw
    refine va_iald hx hb hK hP 1 0 rfl rfl h_5 dX8_order_62 ?_
    refine lv_aload_n hx hb dX8_order_63 rfl (lv_at hl 0 rfl) ?_
    refine va_get (D := D) (ci := 8) (v := .ref h_mz) (C := RX8) (T := TX8) (N := 16) hx hb hts inX8 hown hK hP 0 rfl rfl 12 (by decide) (hts _ q_595) (fun _ h9 => h9) rfl dX8_order_64 ?_
    refine lv_iload_n hx hb dX8_order_67 rfl (lv_at hl 2 rfl) ?_
    refine lv_iload_n hx hb dX8_order_68 rfl (lv_at hl 3 rfl) ?_
    refine lv_iadd hx hb dX8_order_69 ?_
    obtain ⟨h_6, hw⟩ := hw
    refine va_iald hx hb hK hP 1 0 rfl rfl h_6 dX8_order_70 ?_
    refine lv_icmp_ge (tgt := 78) hx hb dX8_order_71 (by decide) (fun c_7 => ?_) (fun c_7 => ?_)
    · have hw := hw.1 c_7
      refine lv_iconst (v := 0) hx hb dX8_order_78 (by decide) ?_
      exact tw_Model_order_79 C0 hA hret  _ _ _ _ hP hD hS (lv_sub hl [] rfl) hw
    · have hw := hw.2 c_7
      refine lv_iconst (v := (-1)) hx hb dX8_order_74 (by decide) ?_
      refine lv_goto (tgt := 79) hx hb dX8_order_75 (by decide) ?_
      exact tw_Model_order_79 C0 hA hret  _ _ _ _ hP hD hS (lv_sub hl [] rfl) hw
  · have hw := hw.2 c_4
    refine lv_iconst (v := 1) hx hb dX8_order_51 (by decide) ?_
    refine lv_goto (tgt := 79) hx hb dX8_order_52 (by decide) ?_
    exact tw_Model_order_79 C0 hA hret  _ _ _ _ hP hD hS (lv_sub hl [] rfl) hw
set_option maxHeartbeats 4000000 in
set_option maxRecDepth 100000 in
theorem tw_Model_order_3 {post : Int32 → Prop} {h_m h_mz h_mwholes h_mparts h_mknown31 h_mprimes h_mrests h_mrows h_mdigits h_mout h_mopen : Nat} {v_thrown : Int32} {v_n : Int32} {v_has : Int32} {v_known : Int32} {v_many : Int32} {v_printed : Int32} {f_z : Nat → Int32}  (C0 : cx RX8 cX8_order 4 D cT p s m c args) (hA : ∀ q, s.heap.size ≤ q → A q) (hret : ∀ (r : Int32)  (H : Heap) (locs : List Loc) (pc : Nat) (ls : Array Slot), post r → va_P D vwCl [(h_m, .inr (8, [.int v_thrown, .int v_n, .ref h_mwholes, .ref h_mparts, .int v_has, .int v_known, .ref h_mknown31, .int v_many, .ref h_mprimes, .ref h_mrests, .ref h_mrows, .ref h_mdigits, .ref h_mz, .ref h_mout, .int v_printed, .ref h_mopen])), (h_mz, .inl (cT 0, 1100, .inl f_z))] H → va_D A [(h_m, .inr (8, [.int v_thrown, .int v_n, .ref h_mwholes, .ref h_mparts, .int v_has, .int v_known, .ref h_mknown31, .int v_many, .ref h_mprimes, .ref h_mrests, .ref h_mrows, .ref h_mdigits, .ref h_mz, .ref h_mout, .int v_printed, .ref h_mopen])), (h_mz, .inl (cT 0, 1100, .inl f_z))] → va_S A s.heap H locs → decode cX8_order pc = .ok (.ireturn, 1) → W p l e ({ frames := 0, cells := 0, slots := 0, locals := 0 } : Room) s m args below meth c H locs 0 0 Q (F0 m pc ls [.int r]))  : ∀ (n : Nat) (x1 : Int32) (x2 : Int32) (x3 : Int32) (H : Heap) (locs : List Loc) (ls : Array Slot), va_P D vwCl [(h_m, .inr (8, [.int v_thrown, .int v_n, .ref h_mwholes, .ref h_mparts, .int v_has, .int v_known, .ref h_mknown31, .int v_many, .ref h_mprimes, .ref h_mrests, .ref h_mrows, .ref h_mdigits, .ref h_mz, .ref h_mout, .int v_printed, .ref h_mopen])), (h_mz, .inl (cT 0, 1100, .inl f_z))] H → va_D A [(h_m, .inr (8, [.int v_thrown, .int v_n, .ref h_mwholes, .ref h_mparts, .int v_has, .int v_known, .ref h_mknown31, .int v_many, .ref h_mprimes, .ref h_mrests, .ref h_mrows, .ref h_mdigits, .ref h_mz, .ref h_mout, .int v_printed, .ref h_mopen])), (h_mz, .inl (cT 0, 1100, .inl f_z))] → va_S A s.heap H locs → lv_has ls 4 [(0, .ref h_m), (1, .int x1), (2, .int x2), (3, .int x3)] → wp_Model_order_3 post v_thrown v_n v_has v_known v_many v_printed f_z n x1 x2 x3 → W p l e ({ frames := 0, cells := 0, slots := 0, locals := 0 } : Room) s m args below meth c H locs 0 0 Q (F0 m 3 ls []) := by
  obtain ⟨⟨hx, hb, hml, hown, hts⟩, hK, hN⟩ := id C0
  intro n
  induction n with
  | zero => intro x1 x2 x3 H locs ls hP hD hS hl hw; exact hw.elim
  | succ n ih =>
    intro x1 x2 x3 H locs ls hP hD hS hl hw
    unfold wp_Model_order_3 at hw
    refine lv_iload_n hx hb dX8_order_3 rfl (lv_at hl 3 rfl) ?_
    refine lv_if_le (tgt := 32) hx hb dX8_order_4 (by decide) (fun c_1 => ?_) (fun c_1 => ?_)
    · have hw := hw.1 c_1
      exact tw_Model_order_32 C0 hA hret  _ _ _ _ _ _ hP hD hS (lv_sub hl [0, 1, 2, 3] rfl) hw
    · have hw := hw.2 c_1
      refine lv_aload_n hx hb dX8_order_7 rfl (lv_at hl 0 rfl) ?_
      refine va_get (D := D) (ci := 8) (v := .ref h_mz) (C := RX8) (T := TX8) (N := 16) hx hb hts inX8 hown hK hP 0 rfl rfl 12 (by decide) (hts _ q_595) (fun _ h9 => h9) rfl dX8_order_8 ?_
      refine lv_iload_n hx hb dX8_order_11 rfl (lv_at hl 1 rfl) ?_
      refine lv_iload_n hx hb dX8_order_12 rfl (lv_at hl 3 rfl) ?_
      refine lv_iadd hx hb dX8_order_13 ?_
      obtain ⟨h_8, hw⟩ := hw
      refine va_iald hx hb hK hP 1 0 rfl rfl h_8 dX8_order_14 ?_
      refine lv_aload_n hx hb dX8_order_15 rfl (lv_at hl 0 rfl) ?_
      refine va_get (D := D) (ci := 8) (v := .ref h_mz) (C := RX8) (T := TX8) (N := 16) hx hb hts inX8 hown hK hP 0 rfl rfl 12 (by decide) (hts _ q_595) (fun _ h9 => h9) rfl dX8_order_16 ?_
      refine lv_iload_n hx hb dX8_order_19 rfl (lv_at hl 2 rfl) ?_
      refine lv_iload_n hx hb dX8_order_20 rfl (lv_at hl 3 rfl) ?_
      refine lv_iadd hx hb dX8_order_21 ?_
      obtain ⟨h_9, hw⟩ := hw
      refine va_iald hx hb hK hP 1 0 rfl rfl h_9 dX8_order_22 ?_
      refine lv_icmp_ne (tgt := 32) hx hb dX8_order_23 (by decide) (fun c_10 => ?_) (fun c_10 => ?_)
      · have hw := hw.2 c_10
        exact tw_Model_order_32 C0 hA hret  _ _ _ _ _ _ hP hD hS (lv_sub hl [0, 1, 2, 3] rfl) hw
      · have hw := hw.1 c_10
        obtain ⟨x3_11, ex3_11⟩ : ∃ y : Int32, y = x3 + (-1) := ⟨_, rfl⟩
        refine lv_iinc (v := x3_11) (lv' := [(3, .int x3_11), (0, .ref h_m), (1, .int x1), (2, .int x2)]) hx hb dX8_order_26 hl (k := 3) rfl (by rw [ex3_11]; rfl) (by decide) rfl (fun ls hl => ?_)
        have hw := hw x3_11 ex3_11
        refine lv_goto (tgt := 3) hx hb dX8_order_29 (by decide) ?_
        exact ih _ _ _ _ _ _ hP hD hS (lv_sub hl [1, 2, 3, 0] rfl) hw
set_option maxHeartbeats 4000000 in
set_option maxRecDepth 100000 in
theorem tw_Model_order {post : Int32 → Prop} {h_m h_mz h_mwholes h_mparts h_mknown31 h_mprimes h_mrests h_mrows h_mdigits h_mout h_mopen : Nat} {v_thrown : Int32} {v_n : Int32} {v_has : Int32} {v_known : Int32} {v_many : Int32} {v_printed : Int32} {f_z : Nat → Int32}  (C0 : cx RX8 cX8_order 4 D cT p s m c args) (hA : ∀ q, s.heap.size ≤ q → A q) (hret : ∀ (r : Int32)  (H : Heap) (locs : List Loc) (pc : Nat) (ls : Array Slot), post r → va_P D vwCl [(h_m, .inr (8, [.int v_thrown, .int v_n, .ref h_mwholes, .ref h_mparts, .int v_has, .int v_known, .ref h_mknown31, .int v_many, .ref h_mprimes, .ref h_mrests, .ref h_mrows, .ref h_mdigits, .ref h_mz, .ref h_mout, .int v_printed, .ref h_mopen])), (h_mz, .inl (cT 0, 1100, .inl f_z))] H → va_D A [(h_m, .inr (8, [.int v_thrown, .int v_n, .ref h_mwholes, .ref h_mparts, .int v_has, .int v_known, .ref h_mknown31, .int v_many, .ref h_mprimes, .ref h_mrests, .ref h_mrows, .ref h_mdigits, .ref h_mz, .ref h_mout, .int v_printed, .ref h_mopen])), (h_mz, .inl (cT 0, 1100, .inl f_z))] → va_S A s.heap H locs → decode cX8_order pc = .ok (.ireturn, 1) → W p l e ({ frames := 0, cells := 0, slots := 0, locals := 0 } : Room) s m args below meth c H locs 0 0 Q (F0 m pc ls [.int r]))  : ∀ (x1 : Int32) (x2 : Int32) (H : Heap) (locs : List Loc) (ls : Array Slot), va_P D vwCl [(h_m, .inr (8, [.int v_thrown, .int v_n, .ref h_mwholes, .ref h_mparts, .int v_has, .int v_known, .ref h_mknown31, .int v_many, .ref h_mprimes, .ref h_mrests, .ref h_mrows, .ref h_mdigits, .ref h_mz, .ref h_mout, .int v_printed, .ref h_mopen])), (h_mz, .inl (cT 0, 1100, .inl f_z))] H → va_D A [(h_m, .inr (8, [.int v_thrown, .int v_n, .ref h_mwholes, .ref h_mparts, .int v_has, .int v_known, .ref h_mknown31, .int v_many, .ref h_mprimes, .ref h_mrests, .ref h_mrows, .ref h_mdigits, .ref h_mz, .ref h_mout, .int v_printed, .ref h_mopen])), (h_mz, .inl (cT 0, 1100, .inl f_z))] → va_S A s.heap H locs → lv_has ls 4 [(0, .ref h_m), (1, .int x1), (2, .int x2)] → wp_Model_order post v_thrown v_n v_has v_known v_many v_printed f_z x1 x2 → W p l e ({ frames := 0, cells := 0, slots := 0, locals := 0 } : Room) s m args below meth c H locs 0 0 Q (F0 m 0 ls []) := by
  obtain ⟨⟨hx, hb, hml, hown, hts⟩, hK, hN⟩ := id C0
  intro x1 x2 H locs ls hP hD hS hl hw
  unfold wp_Model_order at hw
  refine lv_bipush (v := 21) hx hb dX8_order_0 (by decide) ?_
  refine lv_istore_n (lv' := [(3, .int 21), (0, .ref h_m), (1, .int x1), (2, .int x2)]) hx hb dX8_order_2 rfl hl (by decide) rfl (fun ls hl => ?_)
  obtain ⟨n9, hw⟩ := hw
  exact tw_Model_order_3 C0 hA hret  n9 _ _ _ _ _ _ hP hD hS (lv_sub hl [1, 2, 3, 0] rfl) hw
set_option maxHeartbeats 4000000 in
set_option maxRecDepth 100000 in
theorem cn_Model_order (l : Launch) (D : va_G) (cT : Nat → ClassId) (h_m h_mz h_mwholes h_mparts h_mknown31 h_mprimes h_mrests h_mrows h_mdigits h_mout h_mopen : Nat) (sz : Nat) (v_thrown : Int32) (v_n : Int32) (v_has : Int32) (v_known : Int32) (v_many : Int32) (v_printed : Int32) (f_z : Nat → Int32) (x1 : Int32) (x2 : Int32) (post : Int32 → Prop) (hw : wp_Model_order post v_thrown v_n v_has v_known v_many v_printed f_z x1 x2) : Met l yX8_order wX8_order ({ frames := 0, cells := 0, slots := 0, locals := 0 } : Room) (va_Pc [.ref h_m, .int x1, .int x2] (pre_ D cT [(h_m, .inr (8, [.int v_thrown, .int v_n, .ref h_mwholes, .ref h_mparts, .int v_has, .int v_known, .ref h_mknown31, .int v_many, .ref h_mprimes, .ref h_mrests, .ref h_mrows, .ref h_mdigits, .ref h_mz, .ref h_mout, .int v_printed, .ref h_mopen])), (h_mz, .inl (cT 0, 1100, .inl f_z))] sz)) (va_Qi (fun (r : Int32) (u : Unit) => post r) (fun u t => va_P D vwCl [(h_m, .inr (8, [.int v_thrown, .int v_n, .ref h_mwholes, .ref h_mparts, .int v_has, .int v_known, .ref h_mknown31, .int v_many, .ref h_mprimes, .ref h_mrests, .ref h_mrows, .ref h_mdigits, .ref h_mz, .ref h_mout, .int v_printed, .ref h_mopen])), (h_mz, .inl (cT 0, 1100, .inl f_z))] t.heap ∧ va_D (va_A [(h_m, .inr (8, [.int v_thrown, .int v_n, .ref h_mwholes, .ref h_mparts, .int v_has, .int v_known, .ref h_mknown31, .int v_many, .ref h_mprimes, .ref h_mrests, .ref h_mrows, .ref h_mdigits, .ref h_mz, .ref h_mout, .int v_printed, .ref h_mopen])), (h_mz, .inl (cT 0, 1100, .inl f_z))] sz) [(h_m, .inr (8, [.int v_thrown, .int v_n, .ref h_mwholes, .ref h_mparts, .int v_has, .int v_known, .ref h_mknown31, .int v_many, .ref h_mprimes, .ref h_mrests, .ref h_mrows, .ref h_mdigits, .ref h_mz, .ref h_mout, .int v_printed, .ref h_mopen])), (h_mz, .inl (cT 0, 1100, .inl f_z))]) (va_A [(h_m, .inr (8, [.int v_thrown, .int v_n, .ref h_mwholes, .ref h_mparts, .int v_has, .int v_known, .ref h_mknown31, .int v_many, .ref h_mprimes, .ref h_mrests, .ref h_mrows, .ref h_mdigits, .ref h_mz, .ref h_mout, .int v_printed, .ref h_mopen])), (h_mz, .inl (cT 0, 1100, .inl f_z))] sz)) 0 0 (va_A [(h_m, .inr (8, [.int v_thrown, .int v_n, .ref h_mwholes, .ref h_mparts, .int v_has, .int v_known, .ref h_mknown31, .int v_many, .ref h_mprimes, .ref h_mrests, .ref h_mrows, .ref h_mdigits, .ref h_mz, .ref h_mout, .int v_printed, .ref h_mopen])), (h_mz, .inl (cT 0, 1100, .inl f_z))] sz) := by
  refine Met.ofW (cc := cX8_order) (maxL := 4) (ret := (some .int)) (by decide) rfl ?_
  intro p e s m args below meth c s₁ B hml hv
  obtain ⟨rfl, hsz, hP, hK, hD0, hN⟩ := hv
  have hx := B.exec
  have hb := B.bytes
  have hr := B.returns
  have hts : ∀ w ∈ WG, w.before _ s = true := fun w h => atoms_spec (ws := wX8_order) B.pre w (List.mem_cons_of_mem _ h)
  have hown : s.vm.findClass RX8 = some m.cls := findClass_of_methodNamed B.named
  have hlocks := B.notSynchronized
  subst hsz
  have hD := hD0.self (sz := s.heap.size)
  generalize hAe : va_A [(h_m, .inr (8, [.int v_thrown, .int v_n, .ref h_mwholes, .ref h_mparts, .int v_has, .int v_known, .ref h_mknown31, .int v_many, .ref h_mprimes, .ref h_mrests, .ref h_mrows, .ref h_mdigits, .ref h_mz, .ref h_mout, .int v_printed, .ref h_mopen])), (h_mz, .inl (cT 0, 1100, .inl f_z))] s.heap.size = A at hD ⊢
  have hA : ∀ q : Nat, s.heap.size ≤ q → A q := fun q h => by rw [← hAe]; exact Or.inr h
  have hS : va_S A s.heap s.heap [] := va_S.rf
  have hl := lv_entry ([.ref h_m, .int x1, .int x2]) (n := 4) (Nat.le_of_ble_eq_true rfl)
  rw [lg_entry_eq]
  generalize (lg_sl ([.ref h_m, .int x1, .int x2]) ++ List.replicate (4 - (lg_sl ([.ref h_m, .int x1, .int x2])).length) Slot.unset).toArray = ls at hl ⊢
  refine tw_Model_order (Q := MQ below _ _ s 0 0 A) ⟨⟨hx, hb, hml, hown, hts⟩, hK, hN⟩ hA (fun r  H locs pc ls hp hP hD hS hd => W.iret (v := r) hx hb hr (fun t ht hW => ⟨⟨r, (), rfl, hp, by rw [ht]; exact hP, hD⟩, hS.F ht⟩) hS.2.2 hd) _ _ _ _ _ hP hD hS hl hw
end
def wp_Model_divide_202 (post : (Nat → Int32) → Prop) (v_thrown : Int32) (v_n : Int32) (v_has : Int32) (v_known : Int32) (v_many : Int32) (v_printed : Int32) (K20 : Int32 → Int32 → Int32 → (Nat → Int32) → Prop) (x1 : Int32) (x2 : Int32) (x3 : Int32) (f_z : Nat → Int32) : Prop := ∀ x3_9 : Int32, x3_9 = x3 + (-1) → K20 x1 x2 x3_9 f_z
def wp_Model_divide_118 (post : (Nat → Int32) → Prop) (v_thrown : Int32) (v_n : Int32) (v_has : Int32) (v_known : Int32) (v_many : Int32) (v_printed : Int32) (K20 : Int32 → Int32 → Int32 → (Nat → Int32) → Prop) : Nat → Int32 → Int32 → Int32 → Int32 → Int32 → (Nat → Int32) → Prop
  | 0 => fun _ _ _ _ _ _ => False
  | n + 1 => fun x1 x2 x3 x5 x6 f_z => ((22 ≤ x6 → ((vp_in (990 + (x3 / 24)) 1100 ∧ ((vp_in (990 + (x3 / 24)) 1100 ∧ (wp_Model_divide_202 post v_thrown v_n v_has v_known v_many v_printed K20 x1 x2 x3 (upd f_z (990 + (x3 / 24)).toNatClampNeg ((f_z (990 + (x3 / 24)).toNatClampNeg) ||| (1 <<< ((x3 - x3 / 24 * 24) &&& 31)))))))))) ∧ (¬ 22 ≤ x6 → ((vp_in (1012 + x6) 1100 ∧ ((vp_in (x2 + x6) 1100 ∧ (∀ x7_15 : Int32, x7_15 = ((f_z (1012 + x6).toNatClampNeg) - (f_z (x2 + x6).toNatClampNeg)) + x5 → (vp_in (1012 + x6) 1100 ∧ (∀ x5_17 : Int32, x5_17 = x7_15 >>> (24 &&& 31) → ∀ x6_18 : Int32, x6_18 = x6 + 1 → wp_Model_divide_118 post v_thrown v_n v_has v_known v_many v_printed K20 n x1 x2 x3 x5_17 x6_18 (upd f_z (1012 + x6).toNatClampNeg (x7_15 &&& 16777215)))))))))))
def wp_Model_divide_47 (post : (Nat → Int32) → Prop) (v_thrown : Int32) (v_n : Int32) (v_has : Int32) (v_known : Int32) (v_many : Int32) (v_printed : Int32) (K20 : Int32 → Int32 → Int32 → (Nat → Int32) → Prop) : Nat → Int32 → Int32 → Int32 → Int32 → Int32 → (Nat → Int32) → Prop
  | 0 => fun _ _ _ _ _ _ => False
  | n + 1 => fun x1 x2 x3 x4 x5 f_z => ((22 ≤ x5 → (wp_Model_order (fun r_7 => ((r_7 < 0 → (wp_Model_divide_202 post v_thrown v_n v_has v_known v_many v_printed K20 x1 x2 x3 f_z)) ∧ (¬ r_7 < 0 → (∃ k9, wp_Model_divide_118 post v_thrown v_n v_has v_known v_many v_printed K20 k9 x1 x2 x3 0 0 f_z)))) v_thrown v_n v_has v_known v_many v_printed f_z 1012 x2)) ∧ (¬ 22 ≤ x5 → ((vp_in (1012 + x5) 1100 ∧ (∀ x6_20 : Int32, x6_20 = ((f_z (1012 + x5).toNatClampNeg) <<< (1 &&& 31)) ||| x4 → (vp_in (1012 + x5) 1100 ∧ (∀ x4_22 : Int32, x4_22 = x6_20 >>> (24 &&& 31) → ∀ x5_23 : Int32, x5_23 = x5 + 1 → wp_Model_divide_47 post v_thrown v_n v_has v_known v_many v_printed K20 n x1 x2 x3 x4_22 x5_23 (upd f_z (1012 + x5).toNatClampNeg (x6_20 &&& 16777215)))))))))
def wp_Model_divide_20 (post : (Nat → Int32) → Prop) (v_thrown : Int32) (v_n : Int32) (v_has : Int32) (v_known : Int32) (v_many : Int32) (v_printed : Int32)  : Nat → Int32 → Int32 → Int32 → (Nat → Int32) → Prop
  | 0 => fun _ _ _ _ => False
  | n + 1 => fun x1 x2 x3 f_z => ((x3 < 0 → (post f_z)) ∧ (¬ x3 < 0 → ((vp_in (x1 + (x3 / 24)) 1100 ∧ (∀ x4_5 : Int32, x4_5 = ((f_z (x1 + (x3 / 24)).toNatClampNeg) >>> ((x3 - x3 / 24 * 24) &&& 31)) &&& 1 → ∃ k9, wp_Model_divide_47 post v_thrown v_n v_has v_known v_many v_printed (wp_Model_divide_20 post v_thrown v_n v_has v_known v_many v_printed n) k9 x1 x2 x3 x4_5 0 f_z)))))
def wp_Model_divide (post : (Nat → Int32) → Prop) (v_thrown : Int32) (v_n : Int32) (v_has : Int32) (v_known : Int32) (v_many : Int32) (v_printed : Int32)  (x1 : Int32) (x2 : Int32) (f_z : Nat → Int32) : Prop := wp_Model_put (fun u_1 => wp_Model_put (fun u_2 => ∃ k9, wp_Model_divide_20 post v_thrown v_n v_has v_known v_many v_printed k9 x1 x2 527 u_2) v_thrown v_n v_has v_known v_many v_printed 1012 0 u_1) v_thrown v_n v_has v_known v_many v_printed 990 0 f_z
section
variable {p : Program} {l : Launch} {e : Env} {s : State} {m : MethodId} {args : Array Value} {below : List Frame} {meth : Method} {c : Code} {Q : State → Prop} {A : Nat → Prop} {D : va_G} {cT : Nat → ClassId}
set_option maxHeartbeats 4000000 in
set_option maxRecDepth 100000 in
theorem tw_Model_divide_202 {post : (Nat → Int32) → Prop} {h_m h_mz h_mwholes h_mparts h_mknown31 h_mprimes h_mrests h_mrows h_mdigits h_mout h_mopen : Nat} {v_thrown : Int32} {v_n : Int32} {v_has : Int32} {v_known : Int32} {v_many : Int32} {v_printed : Int32} {K20 : Int32 → Int32 → Int32 → (Nat → Int32) → Prop} (C0 : cx RX8 cX8_divide 8 D cT p s m c args) (hA : ∀ q, s.heap.size ≤ q → A q) (hret : ∀ (f_z : Nat → Int32) (H : Heap) (locs : List Loc) (pc : Nat) (ls : Array Slot), post f_z → va_P D vwCl [(h_m, .inr (8, [.int v_thrown, .int v_n, .ref h_mwholes, .ref h_mparts, .int v_has, .int v_known, .ref h_mknown31, .int v_many, .ref h_mprimes, .ref h_mrests, .ref h_mrows, .ref h_mdigits, .ref h_mz, .ref h_mout, .int v_printed, .ref h_mopen])), (h_mz, .inl (cT 0, 1100, .inl f_z))] H → va_D A [(h_m, .inr (8, [.int v_thrown, .int v_n, .ref h_mwholes, .ref h_mparts, .int v_has, .int v_known, .ref h_mknown31, .int v_many, .ref h_mprimes, .ref h_mrests, .ref h_mrows, .ref h_mdigits, .ref h_mz, .ref h_mout, .int v_printed, .ref h_mopen])), (h_mz, .inl (cT 0, 1100, .inl f_z))] → va_S A s.heap H locs → decode cX8_divide pc = .ok (.return_, 1) → W p l e ({ frames := 1, cells := 0, slots := 0, locals := 24 } : Room) s m args below meth c H locs 0 0 Q (F0 m pc ls [])) (hK20 : ∀ (x1 : Int32) (x2 : Int32) (x3 : Int32) (f_z : Nat → Int32) (H : Heap) (locs : List Loc) (ls : Array Slot), va_P D vwCl [(h_m, .inr (8, [.int v_thrown, .int v_n, .ref h_mwholes, .ref h_mparts, .int v_has, .int v_known, .ref h_mknown31, .int v_many, .ref h_mprimes, .ref h_mrests, .ref h_mrows, .ref h_mdigits, .ref h_mz, .ref h_mout, .int v_printed, .ref h_mopen])), (h_mz, .inl (cT 0, 1100, .inl f_z))] H → va_D A [(h_m, .inr (8, [.int v_thrown, .int v_n, .ref h_mwholes, .ref h_mparts, .int v_has, .int v_known, .ref h_mknown31, .int v_many, .ref h_mprimes, .ref h_mrests, .ref h_mrows, .ref h_mdigits, .ref h_mz, .ref h_mout, .int v_printed, .ref h_mopen])), (h_mz, .inl (cT 0, 1100, .inl f_z))] → va_S A s.heap H locs → lv_has ls 8 [(0, .ref h_m), (1, .int x1), (2, .int x2), (3, .int x3)] → K20 x1 x2 x3 f_z → W p l e ({ frames := 1, cells := 0, slots := 0, locals := 24 } : Room) s m args below meth c H locs 0 0 Q (F0 m 20 ls [])) : ∀ (x1 : Int32) (x2 : Int32) (x3 : Int32) (f_z : Nat → Int32) (H : Heap) (locs : List Loc) (ls : Array Slot), va_P D vwCl [(h_m, .inr (8, [.int v_thrown, .int v_n, .ref h_mwholes, .ref h_mparts, .int v_has, .int v_known, .ref h_mknown31, .int v_many, .ref h_mprimes, .ref h_mrests, .ref h_mrows, .ref h_mdigits, .ref h_mz, .ref h_mout, .int v_printed, .ref h_mopen])), (h_mz, .inl (cT 0, 1100, .inl f_z))] H → va_D A [(h_m, .inr (8, [.int v_thrown, .int v_n, .ref h_mwholes, .ref h_mparts, .int v_has, .int v_known, .ref h_mknown31, .int v_many, .ref h_mprimes, .ref h_mrests, .ref h_mrows, .ref h_mdigits, .ref h_mz, .ref h_mout, .int v_printed, .ref h_mopen])), (h_mz, .inl (cT 0, 1100, .inl f_z))] → va_S A s.heap H locs → lv_has ls 8 [(0, .ref h_m), (1, .int x1), (2, .int x2), (3, .int x3)] → wp_Model_divide_202 post v_thrown v_n v_has v_known v_many v_printed K20 x1 x2 x3 f_z → W p l e ({ frames := 1, cells := 0, slots := 0, locals := 24 } : Room) s m args below meth c H locs 0 0 Q (F0 m 202 ls []) := by
  obtain ⟨⟨hx, hb, hml, hown, hts⟩, hK, hN⟩ := id C0
  intro x1 x2 x3 f_z H locs ls hP hD hS hl hw
  unfold wp_Model_divide_202 at hw
  obtain ⟨x3_9, ex3_9⟩ : ∃ y : Int32, y = x3 + (-1) := ⟨_, rfl⟩
  refine lv_iinc (v := x3_9) (lv' := [(3, .int x3_9), (0, .ref h_m), (1, .int x1), (2, .int x2)]) hx hb dX8_divide_202 hl (k := 3) rfl (by rw [ex3_9]; rfl) (by decide) rfl (fun ls hl => ?_)
  have hw := hw x3_9 ex3_9
  refine lv_goto (tgt := 20) hx hb dX8_divide_205 (by decide) ?_
  exact hK20 _ _ _ _ _ _ _ hP hD hS (lv_sub hl [1, 2, 3, 0] rfl) hw
set_option maxHeartbeats 4000000 in
set_option maxRecDepth 100000 in
theorem tw_Model_divide_118 {post : (Nat → Int32) → Prop} {h_m h_mz h_mwholes h_mparts h_mknown31 h_mprimes h_mrests h_mrows h_mdigits h_mout h_mopen : Nat} {v_thrown : Int32} {v_n : Int32} {v_has : Int32} {v_known : Int32} {v_many : Int32} {v_printed : Int32} {K20 : Int32 → Int32 → Int32 → (Nat → Int32) → Prop} (C0 : cx RX8 cX8_divide 8 D cT p s m c args) (hA : ∀ q, s.heap.size ≤ q → A q) (hret : ∀ (f_z : Nat → Int32) (H : Heap) (locs : List Loc) (pc : Nat) (ls : Array Slot), post f_z → va_P D vwCl [(h_m, .inr (8, [.int v_thrown, .int v_n, .ref h_mwholes, .ref h_mparts, .int v_has, .int v_known, .ref h_mknown31, .int v_many, .ref h_mprimes, .ref h_mrests, .ref h_mrows, .ref h_mdigits, .ref h_mz, .ref h_mout, .int v_printed, .ref h_mopen])), (h_mz, .inl (cT 0, 1100, .inl f_z))] H → va_D A [(h_m, .inr (8, [.int v_thrown, .int v_n, .ref h_mwholes, .ref h_mparts, .int v_has, .int v_known, .ref h_mknown31, .int v_many, .ref h_mprimes, .ref h_mrests, .ref h_mrows, .ref h_mdigits, .ref h_mz, .ref h_mout, .int v_printed, .ref h_mopen])), (h_mz, .inl (cT 0, 1100, .inl f_z))] → va_S A s.heap H locs → decode cX8_divide pc = .ok (.return_, 1) → W p l e ({ frames := 1, cells := 0, slots := 0, locals := 24 } : Room) s m args below meth c H locs 0 0 Q (F0 m pc ls [])) (hK20 : ∀ (x1 : Int32) (x2 : Int32) (x3 : Int32) (f_z : Nat → Int32) (H : Heap) (locs : List Loc) (ls : Array Slot), va_P D vwCl [(h_m, .inr (8, [.int v_thrown, .int v_n, .ref h_mwholes, .ref h_mparts, .int v_has, .int v_known, .ref h_mknown31, .int v_many, .ref h_mprimes, .ref h_mrests, .ref h_mrows, .ref h_mdigits, .ref h_mz, .ref h_mout, .int v_printed, .ref h_mopen])), (h_mz, .inl (cT 0, 1100, .inl f_z))] H → va_D A [(h_m, .inr (8, [.int v_thrown, .int v_n, .ref h_mwholes, .ref h_mparts, .int v_has, .int v_known, .ref h_mknown31, .int v_many, .ref h_mprimes, .ref h_mrests, .ref h_mrows, .ref h_mdigits, .ref h_mz, .ref h_mout, .int v_printed, .ref h_mopen])), (h_mz, .inl (cT 0, 1100, .inl f_z))] → va_S A s.heap H locs → lv_has ls 8 [(0, .ref h_m), (1, .int x1), (2, .int x2), (3, .int x3)] → K20 x1 x2 x3 f_z → W p l e ({ frames := 1, cells := 0, slots := 0, locals := 24 } : Room) s m args below meth c H locs 0 0 Q (F0 m 20 ls [])) : ∀ (n : Nat) (x1 : Int32) (x2 : Int32) (x3 : Int32) (x5 : Int32) (x6 : Int32) (f_z : Nat → Int32) (H : Heap) (locs : List Loc) (ls : Array Slot), va_P D vwCl [(h_m, .inr (8, [.int v_thrown, .int v_n, .ref h_mwholes, .ref h_mparts, .int v_has, .int v_known, .ref h_mknown31, .int v_many, .ref h_mprimes, .ref h_mrests, .ref h_mrows, .ref h_mdigits, .ref h_mz, .ref h_mout, .int v_printed, .ref h_mopen])), (h_mz, .inl (cT 0, 1100, .inl f_z))] H → va_D A [(h_m, .inr (8, [.int v_thrown, .int v_n, .ref h_mwholes, .ref h_mparts, .int v_has, .int v_known, .ref h_mknown31, .int v_many, .ref h_mprimes, .ref h_mrests, .ref h_mrows, .ref h_mdigits, .ref h_mz, .ref h_mout, .int v_printed, .ref h_mopen])), (h_mz, .inl (cT 0, 1100, .inl f_z))] → va_S A s.heap H locs → lv_has ls 8 [(0, .ref h_m), (1, .int x1), (2, .int x2), (3, .int x3), (5, .int x5), (6, .int x6)] → wp_Model_divide_118 post v_thrown v_n v_has v_known v_many v_printed K20 n x1 x2 x3 x5 x6 f_z → W p l e ({ frames := 1, cells := 0, slots := 0, locals := 24 } : Room) s m args below meth c H locs 0 0 Q (F0 m 118 ls []) := by
  obtain ⟨⟨hx, hb, hml, hown, hts⟩, hK, hN⟩ := id C0
  intro n
  induction n with
  | zero => intro x1 x2 x3 x5 x6 f_z H locs ls hP hD hS hl hw; exact hw.elim
  | succ n ih =>
    intro x1 x2 x3 x5 x6 f_z H locs ls hP hD hS hl hw
    unfold wp_Model_divide_118 at hw
    refine lv_iload hx hb dX8_divide_118 (lv_at hl 5 rfl) ?_
    refine lv_bipush (v := 22) hx hb dX8_divide_120 (by decide) ?_
    refine lv_icmp_ge (tgt := 180) hx hb dX8_divide_122 (by decide) (fun c_10 => ?_) (fun c_10 => ?_)
    · have hw := hw.1 c_10
      refine lv_aload_n hx hb dX8_divide_180 rfl (lv_at hl 0 rfl) ?_
      refine va_get (D := D) (ci := 8) (v := .ref h_mz) (C := RX8) (T := TX8) (N := 16) hx hb hts inX8 hown hK hP 0 rfl rfl 12 (by decide) (hts _ q_595) (fun _ h9 => h9) rfl dX8_divide_181 ?_
      refine lv_sipush (v := 990) hx hb dX8_divide_184 (by decide) ?_
      refine lv_iload_n hx hb dX8_divide_187 rfl (lv_at hl 3 rfl) ?_
      refine lv_bipush (v := 24) hx hb dX8_divide_188 (by decide) ?_
      refine lv_idiv hx hb dX8_divide_190 (by decide) ?_
      refine lv_iadd hx hb dX8_divide_191 ?_
      refine lv_dup2_11 hx hb dX8_divide_192 rfl rfl ?_
      obtain ⟨h_11, hw⟩ := hw
      refine va_iald hx hb hK hP 1 0 rfl rfl h_11 dX8_divide_193 ?_
      refine lv_iconst (v := 1) hx hb dX8_divide_194 (by decide) ?_
      refine lv_iload_n hx hb dX8_divide_195 rfl (lv_at hl 3 rfl) ?_
      refine lv_bipush (v := 24) hx hb dX8_divide_196 (by decide) ?_
      refine lv_irem hx hb dX8_divide_198 (by decide) ?_
      refine lv_ishl hx hb dX8_divide_199 ?_
      refine lv_ior hx hb dX8_divide_200 ?_
      obtain ⟨h_12, hw⟩ := hw
      refine va_iast hx hb hK hP hD hS 1 0 rfl rfl h_12 dX8_divide_201 (fun H locs hP hD hS => ?_)
      have hP : va_P D vwCl [(h_m, .inr (8, [.int v_thrown, .int v_n, .ref h_mwholes, .ref h_mparts, .int v_has, .int v_known, .ref h_mknown31, .int v_many, .ref h_mprimes, .ref h_mrests, .ref h_mrows, .ref h_mdigits, .ref h_mz, .ref h_mout, .int v_printed, .ref h_mopen])), (h_mz, .inl (cT 0, 1100, .inl (upd f_z (990 + (x3 / 24)).toNatClampNeg ((f_z (990 + (x3 / 24)).toNatClampNeg) ||| (1 <<< ((x3 - x3 / 24 * 24) &&& 31))))))] H := hP
      have hD : va_D A [(h_m, .inr (8, [.int v_thrown, .int v_n, .ref h_mwholes, .ref h_mparts, .int v_has, .int v_known, .ref h_mknown31, .int v_many, .ref h_mprimes, .ref h_mrests, .ref h_mrows, .ref h_mdigits, .ref h_mz, .ref h_mout, .int v_printed, .ref h_mopen])), (h_mz, .inl (cT 0, 1100, .inl (upd f_z (990 + (x3 / 24)).toNatClampNeg ((f_z (990 + (x3 / 24)).toNatClampNeg) ||| (1 <<< ((x3 - x3 / 24 * 24) &&& 31))))))] := hD
      exact tw_Model_divide_202 C0 hA hret hK20 _ _ _ _ _ _ _ hP hD hS (lv_sub hl [0, 1, 2, 3] rfl) hw
    · have hw := hw.2 c_10
      refine lv_aload_n hx hb dX8_divide_125 rfl (lv_at hl 0 rfl) ?_
      refine va_get (D := D) (ci := 8) (v := .ref h_mz) (C := RX8) (T := TX8) (N := 16) hx hb hts inX8 hown hK hP 0 rfl rfl 12 (by decide) (hts _ q_595) (fun _ h9 => h9) rfl dX8_divide_126 ?_
      refine lv_sipush (v := 1012) hx hb dX8_divide_129 (by decide) ?_
      refine lv_iload hx hb dX8_divide_132 (lv_at hl 5 rfl) ?_
      refine lv_iadd hx hb dX8_divide_134 ?_
      obtain ⟨h_13, hw⟩ := hw
      refine va_iald hx hb hK hP 1 0 rfl rfl h_13 dX8_divide_135 ?_
      refine lv_aload_n hx hb dX8_divide_136 rfl (lv_at hl 0 rfl) ?_
      refine va_get (D := D) (ci := 8) (v := .ref h_mz) (C := RX8) (T := TX8) (N := 16) hx hb hts inX8 hown hK hP 0 rfl rfl 12 (by decide) (hts _ q_595) (fun _ h9 => h9) rfl dX8_divide_137 ?_
      refine lv_iload_n hx hb dX8_divide_140 rfl (lv_at hl 2 rfl) ?_
      refine lv_iload hx hb dX8_divide_141 (lv_at hl 5 rfl) ?_
      refine lv_iadd hx hb dX8_divide_143 ?_
      obtain ⟨h_14, hw⟩ := hw
      refine va_iald hx hb hK hP 1 0 rfl rfl h_14 dX8_divide_144 ?_
      refine lv_isub hx hb dX8_divide_145 ?_
      refine lv_iload hx hb dX8_divide_146 (lv_at hl 4 rfl) ?_
      refine lv_iadd hx hb dX8_divide_148 ?_
      refine lv_topi (fun x7_15 ex7_15 => ?_)
      have hw := hw x7_15 ex7_15
      refine lv_istore (lv' := [(7, .int x7_15), (0, .ref h_m), (1, .int x1), (2, .int x2), (3, .int x3), (5, .int x5), (6, .int x6)]) hx hb dX8_divide_149 hl (by decide) rfl (fun ls hl => ?_)
      refine lv_aload_n hx hb dX8_divide_151 rfl (lv_at hl 1 rfl) ?_
      refine va_get (D := D) (ci := 8) (v := .ref h_mz) (C := RX8) (T := TX8) (N := 16) hx hb hts inX8 hown hK hP 0 rfl rfl 12 (by decide) (hts _ q_595) (fun _ h9 => h9) rfl dX8_divide_152 ?_
      refine lv_sipush (v := 1012) hx hb dX8_divide_155 (by decide) ?_
      refine lv_iload hx hb dX8_divide_158 (lv_at hl 6 rfl) ?_
      refine lv_iadd hx hb dX8_divide_160 ?_
      refine lv_iload hx hb dX8_divide_161 (lv_at hl 0 rfl) ?_
      refine lv_ldc (v := 16777215) hx hb hown (hts _ q_723) dX8_divide_163 ?_
      refine lv_iand hx hb dX8_divide_165 ?_
      obtain ⟨h_16, hw⟩ := hw
      refine va_iast hx hb hK hP hD hS 1 0 rfl rfl h_16 dX8_divide_166 (fun H locs hP hD hS => ?_)
      have hP : va_P D vwCl [(h_m, .inr (8, [.int v_thrown, .int v_n, .ref h_mwholes, .ref h_mparts, .int v_has, .int v_known, .ref h_mknown31, .int v_many, .ref h_mprimes, .ref h_mrests, .ref h_mrows, .ref h_mdigits, .ref h_mz, .ref h_mout, .int v_printed, .ref h_mopen])), (h_mz, .inl (cT 0, 1100, .inl (upd f_z (1012 + x6).toNatClampNeg (x7_15 &&& 16777215))))] H := hP
      have hD : va_D A [(h_m, .inr (8, [.int v_thrown, .int v_n, .ref h_mwholes, .ref h_mparts, .int v_has, .int v_known, .ref h_mknown31, .int v_many, .ref h_mprimes, .ref h_mrests, .ref h_mrows, .ref h_mdigits, .ref h_mz, .ref h_mout, .int v_printed, .ref h_mopen])), (h_mz, .inl (cT 0, 1100, .inl (upd f_z (1012 + x6).toNatClampNeg (x7_15 &&& 16777215))))] := hD
      refine lv_iload hx hb dX8_divide_167 (lv_at hl 0 rfl) ?_
      refine lv_bipush (v := 24) hx hb dX8_divide_169 (by decide) ?_
      refine lv_ishr hx hb dX8_divide_171 ?_
      refine lv_topi (fun x5_17 ex5_17 => ?_)
      have hw := hw x5_17 ex5_17
      refine lv_istore (lv' := [(5, .int x5_17), (7, .int x7_15), (0, .ref h_m), (1, .int x1), (2, .int x2), (3, .int x3), (6, .int x6)]) hx hb dX8_divide_172 hl (by decide) rfl (fun ls hl => ?_)
      obtain ⟨x6_18, ex6_18⟩ : ∃ y : Int32, y = x6 + 1 := ⟨_, rfl⟩
      refine lv_iinc (v := x6_18) (lv' := [(6, .int x6_18), (5, .int x5_17), (7, .int x7_15), (0, .ref h_m), (1, .int x1), (2, .int x2), (3, .int x3)]) hx hb dX8_divide_174 hl (k := 6) rfl (by rw [ex6_18]; rfl) (by decide) rfl (fun ls hl => ?_)
      have hw := hw x6_18 ex6_18
      refine lv_goto (tgt := 118) hx hb dX8_divide_177 (by decide) ?_
      exact ih _ _ _ _ _ _ _ _ _ hP hD hS (lv_sub hl [3, 4, 5, 6, 1, 0] rfl) hw
set_option maxHeartbeats 4000000 in
set_option maxRecDepth 100000 in
theorem tw_Model_divide_47 {post : (Nat → Int32) → Prop} {h_m h_mz h_mwholes h_mparts h_mknown31 h_mprimes h_mrests h_mrows h_mdigits h_mout h_mopen : Nat} {v_thrown : Int32} {v_n : Int32} {v_has : Int32} {v_known : Int32} {v_many : Int32} {v_printed : Int32} {K20 : Int32 → Int32 → Int32 → (Nat → Int32) → Prop} (C0 : cx RX8 cX8_divide 8 D cT p s m c args) (hA : ∀ q, s.heap.size ≤ q → A q) (hret : ∀ (f_z : Nat → Int32) (H : Heap) (locs : List Loc) (pc : Nat) (ls : Array Slot), post f_z → va_P D vwCl [(h_m, .inr (8, [.int v_thrown, .int v_n, .ref h_mwholes, .ref h_mparts, .int v_has, .int v_known, .ref h_mknown31, .int v_many, .ref h_mprimes, .ref h_mrests, .ref h_mrows, .ref h_mdigits, .ref h_mz, .ref h_mout, .int v_printed, .ref h_mopen])), (h_mz, .inl (cT 0, 1100, .inl f_z))] H → va_D A [(h_m, .inr (8, [.int v_thrown, .int v_n, .ref h_mwholes, .ref h_mparts, .int v_has, .int v_known, .ref h_mknown31, .int v_many, .ref h_mprimes, .ref h_mrests, .ref h_mrows, .ref h_mdigits, .ref h_mz, .ref h_mout, .int v_printed, .ref h_mopen])), (h_mz, .inl (cT 0, 1100, .inl f_z))] → va_S A s.heap H locs → decode cX8_divide pc = .ok (.return_, 1) → W p l e ({ frames := 1, cells := 0, slots := 0, locals := 24 } : Room) s m args below meth c H locs 0 0 Q (F0 m pc ls [])) (hK20 : ∀ (x1 : Int32) (x2 : Int32) (x3 : Int32) (f_z : Nat → Int32) (H : Heap) (locs : List Loc) (ls : Array Slot), va_P D vwCl [(h_m, .inr (8, [.int v_thrown, .int v_n, .ref h_mwholes, .ref h_mparts, .int v_has, .int v_known, .ref h_mknown31, .int v_many, .ref h_mprimes, .ref h_mrests, .ref h_mrows, .ref h_mdigits, .ref h_mz, .ref h_mout, .int v_printed, .ref h_mopen])), (h_mz, .inl (cT 0, 1100, .inl f_z))] H → va_D A [(h_m, .inr (8, [.int v_thrown, .int v_n, .ref h_mwholes, .ref h_mparts, .int v_has, .int v_known, .ref h_mknown31, .int v_many, .ref h_mprimes, .ref h_mrests, .ref h_mrows, .ref h_mdigits, .ref h_mz, .ref h_mout, .int v_printed, .ref h_mopen])), (h_mz, .inl (cT 0, 1100, .inl f_z))] → va_S A s.heap H locs → lv_has ls 8 [(0, .ref h_m), (1, .int x1), (2, .int x2), (3, .int x3)] → K20 x1 x2 x3 f_z → W p l e ({ frames := 1, cells := 0, slots := 0, locals := 24 } : Room) s m args below meth c H locs 0 0 Q (F0 m 20 ls [])) : ∀ (n : Nat) (x1 : Int32) (x2 : Int32) (x3 : Int32) (x4 : Int32) (x5 : Int32) (f_z : Nat → Int32) (H : Heap) (locs : List Loc) (ls : Array Slot), va_P D vwCl [(h_m, .inr (8, [.int v_thrown, .int v_n, .ref h_mwholes, .ref h_mparts, .int v_has, .int v_known, .ref h_mknown31, .int v_many, .ref h_mprimes, .ref h_mrests, .ref h_mrows, .ref h_mdigits, .ref h_mz, .ref h_mout, .int v_printed, .ref h_mopen])), (h_mz, .inl (cT 0, 1100, .inl f_z))] H → va_D A [(h_m, .inr (8, [.int v_thrown, .int v_n, .ref h_mwholes, .ref h_mparts, .int v_has, .int v_known, .ref h_mknown31, .int v_many, .ref h_mprimes, .ref h_mrests, .ref h_mrows, .ref h_mdigits, .ref h_mz, .ref h_mout, .int v_printed, .ref h_mopen])), (h_mz, .inl (cT 0, 1100, .inl f_z))] → va_S A s.heap H locs → lv_has ls 8 [(0, .ref h_m), (1, .int x1), (2, .int x2), (3, .int x3), (4, .int x4), (5, .int x5)] → wp_Model_divide_47 post v_thrown v_n v_has v_known v_many v_printed K20 n x1 x2 x3 x4 x5 f_z → W p l e ({ frames := 1, cells := 0, slots := 0, locals := 24 } : Room) s m args below meth c H locs 0 0 Q (F0 m 47 ls []) := by
  obtain ⟨⟨hx, hb, hml, hown, hts⟩, hK, hN⟩ := id C0
  intro n
  induction n with
  | zero => intro x1 x2 x3 x4 x5 f_z H locs ls hP hD hS hl hw; exact hw.elim
  | succ n ih =>
    intro x1 x2 x3 x4 x5 f_z H locs ls hP hD hS hl hw
    unfold wp_Model_divide_47 at hw
    refine lv_iload hx hb dX8_divide_47 (lv_at hl 5 rfl) ?_
    refine lv_bipush (v := 22) hx hb dX8_divide_49 (by decide) ?_
    refine lv_icmp_ge (tgt := 101) hx hb dX8_divide_51 (by decide) (fun c_6 => ?_) (fun c_6 => ?_)
    · have hw := hw.1 c_6
      refine lv_aload_n hx hb dX8_divide_101 rfl (lv_at hl 0 rfl) ?_
      refine lv_sipush (v := 1012) hx hb dX8_divide_102 (by decide) ?_
      refine lv_iload_n hx hb dX8_divide_105 rfl (lv_at hl 2 rfl) ?_
      have hPc := hP.sub (ws' := [(h_m, .inr (8, [.int v_thrown, .int v_n, .ref h_mwholes, .ref h_mparts, .int v_has, .int v_known, .ref h_mknown31, .int v_many, .ref h_mprimes, .ref h_mrests, .ref h_mrows, .ref h_mdigits, .ref h_mz, .ref h_mout, .int v_printed, .ref h_mopen])), (h_mz, .inl (cT 0, 1100, .inl f_z))]) [0, 1] rfl
      have hDc := hD.sub (ws' := [(h_m, .inr (8, [.int v_thrown, .int v_n, .ref h_mwholes, .ref h_mparts, .int v_has, .int v_known, .ref h_mknown31, .int v_many, .ref h_mprimes, .ref h_mrests, .ref h_mrows, .ref h_mdigits, .ref h_mz, .ref h_mout, .int v_printed, .ref h_mopen])), (h_mz, .inl (cT 0, 1100, .inl f_z))]) [0, 1] (by decide) rfl
      have hFc := va_free (wc := [(h_m, .inr (8, [.int v_thrown, .int v_n, .ref h_mwholes, .ref h_mparts, .int v_has, .int v_known, .ref h_mknown31, .int v_many, .ref h_mprimes, .ref h_mrests, .ref h_mrows, .ref h_mdigits, .ref h_mz, .ref h_mout, .int v_printed, .ref h_mopen])), (h_mz, .inl (cT 0, 1100, .inl f_z))]) hD hS hA [0, 1] rfl
      refine va_calli (va_runV (As := [.int 1012, .int x2]) (rest := []) ⟨hx, hb, hml, hown, hts⟩ (cn_Model_order l D cT h_m h_mz h_mwholes h_mparts h_mknown31 h_mprimes h_mrests h_mrows h_mdigits h_mout h_mopen H.size v_thrown v_n v_has v_known v_many v_printed f_z 1012 x2 _ hw) (gv_ 2 q_727 q_9 q_724 q_726 qs_34 (by decide +kernel) ⟨Nat.le_of_ble_eq_true rfl, Nat.le_of_ble_eq_true rfl⟩ hts) ⟨pre_blind, va_recv hK hPc (ci := 8) (q0 := 0) rfl rfl, fun U hU hW => ⟨rfl, pre_mk hU hW hPc hK hDc hN⟩⟩ rfl rfl hl.1 rfl (lv_room (Nat.le_of_ble_eq_true rfl)) dX8_divide_106 ⟨(Nat.zero_le _), (Nat.zero_le _)⟩) hS (fun q _ h => hFc q h) hFc (fun r_7 u9 t H locs ht hvm hw hB hz1 hk1 hS => ?_)
      obtain ⟨hP1, hD1⟩ := hB
      rw [ht] at hP1
      obtain ⟨hP, hD⟩ := va_join (wr := []) (w1 := [(h_m, .inr (8, [.int v_thrown, .int v_n, .ref h_mwholes, .ref h_mparts, .int v_has, .int v_known, .ref h_mknown31, .int v_many, .ref h_mprimes, .ref h_mrests, .ref h_mrows, .ref h_mdigits, .ref h_mz, .ref h_mout, .int v_printed, .ref h_mopen])), (h_mz, .inl (cT 0, 1100, .inl f_z))]) hP hD [0, 1] [] rfl rfl (by decide) (by decide) hk1 hFc hP1 hD1
      have hP := hP.sub (ws' := [(h_m, .inr (8, [.int v_thrown, .int v_n, .ref h_mwholes, .ref h_mparts, .int v_has, .int v_known, .ref h_mknown31, .int v_many, .ref h_mprimes, .ref h_mrests, .ref h_mrows, .ref h_mdigits, .ref h_mz, .ref h_mout, .int v_printed, .ref h_mopen])), (h_mz, .inl (cT 0, 1100, .inl f_z))]) [0, 1] rfl
      have hD := hD.sub (ws' := [(h_m, .inr (8, [.int v_thrown, .int v_n, .ref h_mwholes, .ref h_mparts, .int v_has, .int v_known, .ref h_mknown31, .int v_many, .ref h_mprimes, .ref h_mrests, .ref h_mrows, .ref h_mdigits, .ref h_mz, .ref h_mout, .int v_printed, .ref h_mopen])), (h_mz, .inl (cT 0, 1100, .inl f_z))]) [0, 1] (by decide) rfl
      clear hP1 hD1 hPc hDc hFc hk1 hz1 hvm ht
      try dsimp only at hw
      refine lv_if_lt (tgt := 202) hx hb dX8_divide_109 (by decide) (fun c_8 => ?_) (fun c_8 => ?_)
      · have hw := hw.1 c_8
        exact tw_Model_divide_202 C0 hA hret hK20 _ _ _ _ _ _ _ hP hD hS (lv_sub hl [0, 1, 2, 3] rfl) hw
      · have hw := hw.2 c_8
        refine lv_iconst (v := 0) hx hb dX8_divide_112 (by decide) ?_
        refine lv_istore (lv' := [(5, .int 0), (0, .ref h_m), (1, .int x1), (2, .int x2), (3, .int x3), (4, .int x4)]) hx hb dX8_divide_113 hl (by decide) rfl (fun ls hl => ?_)
        refine lv_iconst (v := 0) hx hb dX8_divide_115 (by decide) ?_
        refine lv_istore (lv' := [(6, .int 0), (5, .int 0), (0, .ref h_m), (1, .int x1), (2, .int x2), (3, .int x3), (4, .int x4)]) hx hb dX8_divide_116 hl (by decide) rfl (fun ls hl => ?_)
        obtain ⟨n9, hw⟩ := hw
        exact tw_Model_divide_118 C0 hA hret hK20 n9 _ _ _ _ _ _ _ _ _ hP hD hS (lv_sub hl [2, 3, 4, 5, 1, 0] rfl) hw
    · have hw := hw.2 c_6
      refine lv_aload_n hx hb dX8_divide_54 rfl (lv_at hl 0 rfl) ?_
      refine va_get (D := D) (ci := 8) (v := .ref h_mz) (C := RX8) (T := TX8) (N := 16) hx hb hts inX8 hown hK hP 0 rfl rfl 12 (by decide) (hts _ q_595) (fun _ h9 => h9) rfl dX8_divide_55 ?_
      refine lv_sipush (v := 1012) hx hb dX8_divide_58 (by decide) ?_
      refine lv_iload hx hb dX8_divide_61 (lv_at hl 5 rfl) ?_
      refine lv_iadd hx hb dX8_divide_63 ?_
      obtain ⟨h_19, hw⟩ := hw
      refine va_iald hx hb hK hP 1 0 rfl rfl h_19 dX8_divide_64 ?_
      refine lv_iconst (v := 1) hx hb dX8_divide_65 (by decide) ?_
      refine lv_ishl hx hb dX8_divide_66 ?_
      refine lv_iload hx hb dX8_divide_67 (lv_at hl 4 rfl) ?_
      refine lv_ior hx hb dX8_divide_69 ?_
      refine lv_topi (fun x6_20 ex6_20 => ?_)
      have hw := hw x6_20 ex6_20
      refine lv_istore (lv' := [(6, .int x6_20), (0, .ref h_m), (1, .int x1), (2, .int x2), (3, .int x3), (4, .int x4), (5, .int x5)]) hx hb dX8_divide_70 hl (by decide) rfl (fun ls hl => ?_)
      refine lv_aload_n hx hb dX8_divide_72 rfl (lv_at hl 1 rfl) ?_
      refine va_get (D := D) (ci := 8) (v := .ref h_mz) (C := RX8) (T := TX8) (N := 16) hx hb hts inX8 hown hK hP 0 rfl rfl 12 (by decide) (hts _ q_595) (fun _ h9 => h9) rfl dX8_divide_73 ?_
      refine lv_sipush (v := 1012) hx hb dX8_divide_76 (by decide) ?_
      refine lv_iload hx hb dX8_divide_79 (lv_at hl 6 rfl) ?_
      refine lv_iadd hx hb dX8_divide_81 ?_
      refine lv_iload hx hb dX8_divide_82 (lv_at hl 0 rfl) ?_
      refine lv_ldc (v := 16777215) hx hb hown (hts _ q_723) dX8_divide_84 ?_
      refine lv_iand hx hb dX8_divide_86 ?_
      obtain ⟨h_21, hw⟩ := hw
      refine va_iast hx hb hK hP hD hS 1 0 rfl rfl h_21 dX8_divide_87 (fun H locs hP hD hS => ?_)
      have hP : va_P D vwCl [(h_m, .inr (8, [.int v_thrown, .int v_n, .ref h_mwholes, .ref h_mparts, .int v_has, .int v_known, .ref h_mknown31, .int v_many, .ref h_mprimes, .ref h_mrests, .ref h_mrows, .ref h_mdigits, .ref h_mz, .ref h_mout, .int v_printed, .ref h_mopen])), (h_mz, .inl (cT 0, 1100, .inl (upd f_z (1012 + x5).toNatClampNeg (x6_20 &&& 16777215))))] H := hP
      have hD : va_D A [(h_m, .inr (8, [.int v_thrown, .int v_n, .ref h_mwholes, .ref h_mparts, .int v_has, .int v_known, .ref h_mknown31, .int v_many, .ref h_mprimes, .ref h_mrests, .ref h_mrows, .ref h_mdigits, .ref h_mz, .ref h_mout, .int v_printed, .ref h_mopen])), (h_mz, .inl (cT 0, 1100, .inl (upd f_z (1012 + x5).toNatClampNeg (x6_20 &&& 16777215))))] := hD
      refine lv_iload hx hb dX8_divide_88 (lv_at hl 0 rfl) ?_
      refine lv_bipush (v := 24) hx hb dX8_divide_90 (by decide) ?_
      refine lv_ishr hx hb dX8_divide_92 ?_
      refine lv_topi (fun x4_22 ex4_22 => ?_)
      have hw := hw x4_22 ex4_22
      refine lv_istore (lv' := [(4, .int x4_22), (6, .int x6_20), (0, .ref h_m), (1, .int x1), (2, .int x2), (3, .int x3), (5, .int x5)]) hx hb dX8_divide_93 hl (by decide) rfl (fun ls hl => ?_)
      obtain ⟨x5_23, ex5_23⟩ : ∃ y : Int32, y = x5 + 1 := ⟨_, rfl⟩
      refine lv_iinc (v := x5_23) (lv' := [(5, .int x5_23), (4, .int x4_22), (6, .int x6_20), (0, .ref h_m), (1, .int x1), (2, .int x2), (3, .int x3)]) hx hb dX8_divide_95 hl (k := 6) rfl (by rw [ex5_23]; rfl) (by decide) rfl (fun ls hl => ?_)
      have hw := hw x5_23 ex5_23
      refine lv_goto (tgt := 47) hx hb dX8_divide_98 (by decide) ?_
      exact ih _ _ _ _ _ _ _ _ _ hP hD hS (lv_sub hl [3, 4, 5, 6, 1, 0] rfl) hw
set_option maxHeartbeats 4000000 in
set_option maxRecDepth 100000 in
theorem tw_Model_divide_20 {post : (Nat → Int32) → Prop} {h_m h_mz h_mwholes h_mparts h_mknown31 h_mprimes h_mrests h_mrows h_mdigits h_mout h_mopen : Nat} {v_thrown : Int32} {v_n : Int32} {v_has : Int32} {v_known : Int32} {v_many : Int32} {v_printed : Int32}  (C0 : cx RX8 cX8_divide 8 D cT p s m c args) (hA : ∀ q, s.heap.size ≤ q → A q) (hret : ∀ (f_z : Nat → Int32) (H : Heap) (locs : List Loc) (pc : Nat) (ls : Array Slot), post f_z → va_P D vwCl [(h_m, .inr (8, [.int v_thrown, .int v_n, .ref h_mwholes, .ref h_mparts, .int v_has, .int v_known, .ref h_mknown31, .int v_many, .ref h_mprimes, .ref h_mrests, .ref h_mrows, .ref h_mdigits, .ref h_mz, .ref h_mout, .int v_printed, .ref h_mopen])), (h_mz, .inl (cT 0, 1100, .inl f_z))] H → va_D A [(h_m, .inr (8, [.int v_thrown, .int v_n, .ref h_mwholes, .ref h_mparts, .int v_has, .int v_known, .ref h_mknown31, .int v_many, .ref h_mprimes, .ref h_mrests, .ref h_mrows, .ref h_mdigits, .ref h_mz, .ref h_mout, .int v_printed, .ref h_mopen])), (h_mz, .inl (cT 0, 1100, .inl f_z))] → va_S A s.heap H locs → decode cX8_divide pc = .ok (.return_, 1) → W p l e ({ frames := 1, cells := 0, slots := 0, locals := 24 } : Room) s m args below meth c H locs 0 0 Q (F0 m pc ls []))  : ∀ (n : Nat) (x1 : Int32) (x2 : Int32) (x3 : Int32) (f_z : Nat → Int32) (H : Heap) (locs : List Loc) (ls : Array Slot), va_P D vwCl [(h_m, .inr (8, [.int v_thrown, .int v_n, .ref h_mwholes, .ref h_mparts, .int v_has, .int v_known, .ref h_mknown31, .int v_many, .ref h_mprimes, .ref h_mrests, .ref h_mrows, .ref h_mdigits, .ref h_mz, .ref h_mout, .int v_printed, .ref h_mopen])), (h_mz, .inl (cT 0, 1100, .inl f_z))] H → va_D A [(h_m, .inr (8, [.int v_thrown, .int v_n, .ref h_mwholes, .ref h_mparts, .int v_has, .int v_known, .ref h_mknown31, .int v_many, .ref h_mprimes, .ref h_mrests, .ref h_mrows, .ref h_mdigits, .ref h_mz, .ref h_mout, .int v_printed, .ref h_mopen])), (h_mz, .inl (cT 0, 1100, .inl f_z))] → va_S A s.heap H locs → lv_has ls 8 [(0, .ref h_m), (1, .int x1), (2, .int x2), (3, .int x3)] → wp_Model_divide_20 post v_thrown v_n v_has v_known v_many v_printed n x1 x2 x3 f_z → W p l e ({ frames := 1, cells := 0, slots := 0, locals := 24 } : Room) s m args below meth c H locs 0 0 Q (F0 m 20 ls []) := by
  obtain ⟨⟨hx, hb, hml, hown, hts⟩, hK, hN⟩ := id C0
  intro n
  induction n with
  | zero => intro x1 x2 x3 f_z H locs ls hP hD hS hl hw; exact hw.elim
  | succ n ih =>
    intro x1 x2 x3 f_z H locs ls hP hD hS hl hw
    unfold wp_Model_divide_20 at hw
    refine lv_iload_n hx hb dX8_divide_20 rfl (lv_at hl 3 rfl) ?_
    refine lv_if_lt (tgt := 208) hx hb dX8_divide_21 (by decide) (fun c_3 => ?_) (fun c_3 => ?_)
    · have hw := hw.1 c_3
      exact hret _ _ _ _ _ hw hP hD hS dX8_divide_208
    · have hw := hw.2 c_3
      refine lv_aload_n hx hb dX8_divide_24 rfl (lv_at hl 0 rfl) ?_
      refine va_get (D := D) (ci := 8) (v := .ref h_mz) (C := RX8) (T := TX8) (N := 16) hx hb hts inX8 hown hK hP 0 rfl rfl 12 (by decide) (hts _ q_595) (fun _ h9 => h9) rfl dX8_divide_25 ?_
      refine lv_iload_n hx hb dX8_divide_28 rfl (lv_at hl 1 rfl) ?_
      refine lv_iload_n hx hb dX8_divide_29 rfl (lv_at hl 3 rfl) ?_
      refine lv_bipush (v := 24) hx hb dX8_divide_30 (by decide) ?_
      refine lv_idiv hx hb dX8_divide_32 (by decide) ?_
      refine lv_iadd hx hb dX8_divide_33 ?_
      obtain ⟨h_4, hw⟩ := hw
      refine va_iald hx hb hK hP 1 0 rfl rfl h_4 dX8_divide_34 ?_
      refine lv_iload_n hx hb dX8_divide_35 rfl (lv_at hl 3 rfl) ?_
      refine lv_bipush (v := 24) hx hb dX8_divide_36 (by decide) ?_
      refine lv_irem hx hb dX8_divide_38 (by decide) ?_
      refine lv_ishr hx hb dX8_divide_39 ?_
      refine lv_iconst (v := 1) hx hb dX8_divide_40 (by decide) ?_
      refine lv_iand hx hb dX8_divide_41 ?_
      refine lv_topi (fun x4_5 ex4_5 => ?_)
      have hw := hw x4_5 ex4_5
      refine lv_istore (lv' := [(4, .int x4_5), (0, .ref h_m), (1, .int x1), (2, .int x2), (3, .int x3)]) hx hb dX8_divide_42 hl (by decide) rfl (fun ls hl => ?_)
      refine lv_iconst (v := 0) hx hb dX8_divide_44 (by decide) ?_
      refine lv_istore (lv' := [(5, .int 0), (4, .int x4_5), (0, .ref h_m), (1, .int x1), (2, .int x2), (3, .int x3)]) hx hb dX8_divide_45 hl (by decide) rfl (fun ls hl => ?_)
      obtain ⟨n9, hw⟩ := hw
      exact tw_Model_divide_47 C0 hA hret ih n9 _ _ _ _ _ _ _ _ _ hP hD hS (lv_sub hl [2, 3, 4, 5, 1, 0] rfl) hw
set_option maxHeartbeats 4000000 in
set_option maxRecDepth 100000 in
theorem tw_Model_divide {post : (Nat → Int32) → Prop} {h_m h_mz h_mwholes h_mparts h_mknown31 h_mprimes h_mrests h_mrows h_mdigits h_mout h_mopen : Nat} {v_thrown : Int32} {v_n : Int32} {v_has : Int32} {v_known : Int32} {v_many : Int32} {v_printed : Int32}  (C0 : cx RX8 cX8_divide 8 D cT p s m c args) (hA : ∀ q, s.heap.size ≤ q → A q) (hret : ∀ (f_z : Nat → Int32) (H : Heap) (locs : List Loc) (pc : Nat) (ls : Array Slot), post f_z → va_P D vwCl [(h_m, .inr (8, [.int v_thrown, .int v_n, .ref h_mwholes, .ref h_mparts, .int v_has, .int v_known, .ref h_mknown31, .int v_many, .ref h_mprimes, .ref h_mrests, .ref h_mrows, .ref h_mdigits, .ref h_mz, .ref h_mout, .int v_printed, .ref h_mopen])), (h_mz, .inl (cT 0, 1100, .inl f_z))] H → va_D A [(h_m, .inr (8, [.int v_thrown, .int v_n, .ref h_mwholes, .ref h_mparts, .int v_has, .int v_known, .ref h_mknown31, .int v_many, .ref h_mprimes, .ref h_mrests, .ref h_mrows, .ref h_mdigits, .ref h_mz, .ref h_mout, .int v_printed, .ref h_mopen])), (h_mz, .inl (cT 0, 1100, .inl f_z))] → va_S A s.heap H locs → decode cX8_divide pc = .ok (.return_, 1) → W p l e ({ frames := 1, cells := 0, slots := 0, locals := 24 } : Room) s m args below meth c H locs 0 0 Q (F0 m pc ls []))  : ∀ (x1 : Int32) (x2 : Int32) (f_z : Nat → Int32) (H : Heap) (locs : List Loc) (ls : Array Slot), va_P D vwCl [(h_m, .inr (8, [.int v_thrown, .int v_n, .ref h_mwholes, .ref h_mparts, .int v_has, .int v_known, .ref h_mknown31, .int v_many, .ref h_mprimes, .ref h_mrests, .ref h_mrows, .ref h_mdigits, .ref h_mz, .ref h_mout, .int v_printed, .ref h_mopen])), (h_mz, .inl (cT 0, 1100, .inl f_z))] H → va_D A [(h_m, .inr (8, [.int v_thrown, .int v_n, .ref h_mwholes, .ref h_mparts, .int v_has, .int v_known, .ref h_mknown31, .int v_many, .ref h_mprimes, .ref h_mrests, .ref h_mrows, .ref h_mdigits, .ref h_mz, .ref h_mout, .int v_printed, .ref h_mopen])), (h_mz, .inl (cT 0, 1100, .inl f_z))] → va_S A s.heap H locs → lv_has ls 8 [(0, .ref h_m), (1, .int x1), (2, .int x2)] → wp_Model_divide post v_thrown v_n v_has v_known v_many v_printed x1 x2 f_z → W p l e ({ frames := 1, cells := 0, slots := 0, locals := 24 } : Room) s m args below meth c H locs 0 0 Q (F0 m 0 ls []) := by
  obtain ⟨⟨hx, hb, hml, hown, hts⟩, hK, hN⟩ := id C0
  intro x1 x2 f_z H locs ls hP hD hS hl hw
  unfold wp_Model_divide at hw
  refine lv_aload_n hx hb dX8_divide_0 rfl (lv_at hl 0 rfl) ?_
  refine lv_sipush (v := 990) hx hb dX8_divide_1 (by decide) ?_
  refine lv_lconst (v := 0) hx hb dX8_divide_4 (by decide) ?_
  have hPc := hP.sub (ws' := [(h_m, .inr (8, [.int v_thrown, .int v_n, .ref h_mwholes, .ref h_mparts, .int v_has, .int v_known, .ref h_mknown31, .int v_many, .ref h_mprimes, .ref h_mrests, .ref h_mrows, .ref h_mdigits, .ref h_mz, .ref h_mout, .int v_printed, .ref h_mopen])), (h_mz, .inl (cT 0, 1100, .inl f_z))]) [0, 1] rfl
  have hDc := hD.sub (ws' := [(h_m, .inr (8, [.int v_thrown, .int v_n, .ref h_mwholes, .ref h_mparts, .int v_has, .int v_known, .ref h_mknown31, .int v_many, .ref h_mprimes, .ref h_mrests, .ref h_mrows, .ref h_mdigits, .ref h_mz, .ref h_mout, .int v_printed, .ref h_mopen])), (h_mz, .inl (cT 0, 1100, .inl f_z))]) [0, 1] (by decide) rfl
  have hFc := va_free (wc := [(h_m, .inr (8, [.int v_thrown, .int v_n, .ref h_mwholes, .ref h_mparts, .int v_has, .int v_known, .ref h_mknown31, .int v_many, .ref h_mprimes, .ref h_mrests, .ref h_mrows, .ref h_mdigits, .ref h_mz, .ref h_mout, .int v_printed, .ref h_mopen])), (h_mz, .inl (cT 0, 1100, .inl f_z))]) hD hS hA [0, 1] rfl
  refine va_callv (va_runV (As := [.int 990, .long 0]) (rest := []) ⟨hx, hb, hml, hown, hts⟩ (cn_Model_put l D cT h_m h_mz h_mwholes h_mparts h_mknown31 h_mprimes h_mrests h_mrows h_mdigits h_mout h_mopen H.size v_thrown v_n v_has v_known v_many v_printed f_z 990 0 _ hw) (gv_ 2 q_697 q_9 q_694 q_696 qs_28 (by decide +kernel) ⟨Nat.le_of_ble_eq_true rfl, Nat.le_of_ble_eq_true rfl⟩ hts) ⟨pre_blind, va_recv hK hPc (ci := 8) (q0 := 0) rfl rfl, fun U hU hW => ⟨rfl, pre_mk hU hW hPc hK hDc hN⟩⟩ rfl rfl hl.1 rfl (lv_room (Nat.le_of_ble_eq_true rfl)) dX8_divide_5 ⟨(Nat.zero_le _), (Nat.zero_le _)⟩) hS (fun q _ h => hFc q h) hFc (fun u9 t H locs ht hvm hw hB hz1 hk1 hS => ?_)
  obtain ⟨u_1, rfl⟩ : ∃ z, z = u9 := ⟨_, rfl⟩
  obtain ⟨hP1, hD1⟩ := hB
  rw [ht] at hP1
  obtain ⟨hP, hD⟩ := va_join (wr := []) (w1 := [(h_m, .inr (8, [.int v_thrown, .int v_n, .ref h_mwholes, .ref h_mparts, .int v_has, .int v_known, .ref h_mknown31, .int v_many, .ref h_mprimes, .ref h_mrests, .ref h_mrows, .ref h_mdigits, .ref h_mz, .ref h_mout, .int v_printed, .ref h_mopen])), (h_mz, .inl (cT 0, 1100, .inl u_1))]) hP hD [0, 1] [] rfl rfl (by decide) (by decide) hk1 hFc hP1 hD1
  have hP := hP.sub (ws' := [(h_m, .inr (8, [.int v_thrown, .int v_n, .ref h_mwholes, .ref h_mparts, .int v_has, .int v_known, .ref h_mknown31, .int v_many, .ref h_mprimes, .ref h_mrests, .ref h_mrows, .ref h_mdigits, .ref h_mz, .ref h_mout, .int v_printed, .ref h_mopen])), (h_mz, .inl (cT 0, 1100, .inl u_1))]) [0, 1] rfl
  have hD := hD.sub (ws' := [(h_m, .inr (8, [.int v_thrown, .int v_n, .ref h_mwholes, .ref h_mparts, .int v_has, .int v_known, .ref h_mknown31, .int v_many, .ref h_mprimes, .ref h_mrests, .ref h_mrows, .ref h_mdigits, .ref h_mz, .ref h_mout, .int v_printed, .ref h_mopen])), (h_mz, .inl (cT 0, 1100, .inl u_1))]) [0, 1] (by decide) rfl
  clear hP1 hD1 hPc hDc hFc hk1 hz1 hvm ht
  try dsimp only at hw
  refine lv_aload_n hx hb dX8_divide_8 rfl (lv_at hl 0 rfl) ?_
  refine lv_sipush (v := 1012) hx hb dX8_divide_9 (by decide) ?_
  refine lv_lconst (v := 0) hx hb dX8_divide_12 (by decide) ?_
  have hPc := hP.sub (ws' := [(h_m, .inr (8, [.int v_thrown, .int v_n, .ref h_mwholes, .ref h_mparts, .int v_has, .int v_known, .ref h_mknown31, .int v_many, .ref h_mprimes, .ref h_mrests, .ref h_mrows, .ref h_mdigits, .ref h_mz, .ref h_mout, .int v_printed, .ref h_mopen])), (h_mz, .inl (cT 0, 1100, .inl u_1))]) [0, 1] rfl
  have hDc := hD.sub (ws' := [(h_m, .inr (8, [.int v_thrown, .int v_n, .ref h_mwholes, .ref h_mparts, .int v_has, .int v_known, .ref h_mknown31, .int v_many, .ref h_mprimes, .ref h_mrests, .ref h_mrows, .ref h_mdigits, .ref h_mz, .ref h_mout, .int v_printed, .ref h_mopen])), (h_mz, .inl (cT 0, 1100, .inl u_1))]) [0, 1] (by decide) rfl
  have hFc := va_free (wc := [(h_m, .inr (8, [.int v_thrown, .int v_n, .ref h_mwholes, .ref h_mparts, .int v_has, .int v_known, .ref h_mknown31, .int v_many, .ref h_mprimes, .ref h_mrests, .ref h_mrows, .ref h_mdigits, .ref h_mz, .ref h_mout, .int v_printed, .ref h_mopen])), (h_mz, .inl (cT 0, 1100, .inl u_1))]) hD hS hA [0, 1] rfl
  refine va_callv (va_runV (As := [.int 1012, .long 0]) (rest := []) ⟨hx, hb, hml, hown, hts⟩ (cn_Model_put l D cT h_m h_mz h_mwholes h_mparts h_mknown31 h_mprimes h_mrests h_mrows h_mdigits h_mout h_mopen H.size v_thrown v_n v_has v_known v_many v_printed u_1 1012 0 _ hw) (gv_ 2 q_697 q_9 q_694 q_696 qs_28 (by decide +kernel) ⟨Nat.le_of_ble_eq_true rfl, Nat.le_of_ble_eq_true rfl⟩ hts) ⟨pre_blind, va_recv hK hPc (ci := 8) (q0 := 0) rfl rfl, fun U hU hW => ⟨rfl, pre_mk hU hW hPc hK hDc hN⟩⟩ rfl rfl hl.1 rfl (lv_room (Nat.le_of_ble_eq_true rfl)) dX8_divide_13 ⟨(Nat.zero_le _), (Nat.zero_le _)⟩) hS (fun q _ h => hFc q h) hFc (fun u9 t H locs ht hvm hw hB hz1 hk1 hS => ?_)
  obtain ⟨u_2, rfl⟩ : ∃ z, z = u9 := ⟨_, rfl⟩
  obtain ⟨hP1, hD1⟩ := hB
  rw [ht] at hP1
  obtain ⟨hP, hD⟩ := va_join (wr := []) (w1 := [(h_m, .inr (8, [.int v_thrown, .int v_n, .ref h_mwholes, .ref h_mparts, .int v_has, .int v_known, .ref h_mknown31, .int v_many, .ref h_mprimes, .ref h_mrests, .ref h_mrows, .ref h_mdigits, .ref h_mz, .ref h_mout, .int v_printed, .ref h_mopen])), (h_mz, .inl (cT 0, 1100, .inl u_2))]) hP hD [0, 1] [] rfl rfl (by decide) (by decide) hk1 hFc hP1 hD1
  have hP := hP.sub (ws' := [(h_m, .inr (8, [.int v_thrown, .int v_n, .ref h_mwholes, .ref h_mparts, .int v_has, .int v_known, .ref h_mknown31, .int v_many, .ref h_mprimes, .ref h_mrests, .ref h_mrows, .ref h_mdigits, .ref h_mz, .ref h_mout, .int v_printed, .ref h_mopen])), (h_mz, .inl (cT 0, 1100, .inl u_2))]) [0, 1] rfl
  have hD := hD.sub (ws' := [(h_m, .inr (8, [.int v_thrown, .int v_n, .ref h_mwholes, .ref h_mparts, .int v_has, .int v_known, .ref h_mknown31, .int v_many, .ref h_mprimes, .ref h_mrests, .ref h_mrows, .ref h_mdigits, .ref h_mz, .ref h_mout, .int v_printed, .ref h_mopen])), (h_mz, .inl (cT 0, 1100, .inl u_2))]) [0, 1] (by decide) rfl
  clear hP1 hD1 hPc hDc hFc hk1 hz1 hvm ht
  try dsimp only at hw
  refine lv_sipush (v := 527) hx hb dX8_divide_16 (by decide) ?_
  refine lv_istore_n (lv' := [(3, .int 527), (0, .ref h_m), (1, .int x1), (2, .int x2)]) hx hb dX8_divide_19 rfl hl (by decide) rfl (fun ls hl => ?_)
  obtain ⟨n9, hw⟩ := hw
  exact tw_Model_divide_20 C0 hA hret  n9 _ _ _ _ _ _ _ hP hD hS (lv_sub hl [1, 2, 3, 0] rfl) hw
set_option maxHeartbeats 4000000 in
set_option maxRecDepth 100000 in
theorem cn_Model_divide (l : Launch) (D : va_G) (cT : Nat → ClassId) (h_m h_mz h_mwholes h_mparts h_mknown31 h_mprimes h_mrests h_mrows h_mdigits h_mout h_mopen : Nat) (sz : Nat) (v_thrown : Int32) (v_n : Int32) (v_has : Int32) (v_known : Int32) (v_many : Int32) (v_printed : Int32) (f_z : Nat → Int32) (x1 : Int32) (x2 : Int32) (post : (Nat → Int32) → Prop) (hw : wp_Model_divide post v_thrown v_n v_has v_known v_many v_printed x1 x2 f_z) : Met l yX8_divide wX8_divide ({ frames := 1, cells := 0, slots := 0, locals := 24 } : Room) (va_Pc [.ref h_m, .int x1, .int x2] (pre_ D cT [(h_m, .inr (8, [.int v_thrown, .int v_n, .ref h_mwholes, .ref h_mparts, .int v_has, .int v_known, .ref h_mknown31, .int v_many, .ref h_mprimes, .ref h_mrests, .ref h_mrows, .ref h_mdigits, .ref h_mz, .ref h_mout, .int v_printed, .ref h_mopen])), (h_mz, .inl (cT 0, 1100, .inl f_z))] sz)) (va_Qv (fun (u : (Nat → Int32)) => post u) (fun u t => va_P D vwCl [(h_m, .inr (8, [.int v_thrown, .int v_n, .ref h_mwholes, .ref h_mparts, .int v_has, .int v_known, .ref h_mknown31, .int v_many, .ref h_mprimes, .ref h_mrests, .ref h_mrows, .ref h_mdigits, .ref h_mz, .ref h_mout, .int v_printed, .ref h_mopen])), (h_mz, .inl (cT 0, 1100, .inl u))] t.heap ∧ va_D (va_A [(h_m, .inr (8, [.int v_thrown, .int v_n, .ref h_mwholes, .ref h_mparts, .int v_has, .int v_known, .ref h_mknown31, .int v_many, .ref h_mprimes, .ref h_mrests, .ref h_mrows, .ref h_mdigits, .ref h_mz, .ref h_mout, .int v_printed, .ref h_mopen])), (h_mz, .inl (cT 0, 1100, .inl f_z))] sz) [(h_m, .inr (8, [.int v_thrown, .int v_n, .ref h_mwholes, .ref h_mparts, .int v_has, .int v_known, .ref h_mknown31, .int v_many, .ref h_mprimes, .ref h_mrests, .ref h_mrows, .ref h_mdigits, .ref h_mz, .ref h_mout, .int v_printed, .ref h_mopen])), (h_mz, .inl (cT 0, 1100, .inl u))]) (va_A [(h_m, .inr (8, [.int v_thrown, .int v_n, .ref h_mwholes, .ref h_mparts, .int v_has, .int v_known, .ref h_mknown31, .int v_many, .ref h_mprimes, .ref h_mrests, .ref h_mrows, .ref h_mdigits, .ref h_mz, .ref h_mout, .int v_printed, .ref h_mopen])), (h_mz, .inl (cT 0, 1100, .inl f_z))] sz)) 0 0 (va_A [(h_m, .inr (8, [.int v_thrown, .int v_n, .ref h_mwholes, .ref h_mparts, .int v_has, .int v_known, .ref h_mknown31, .int v_many, .ref h_mprimes, .ref h_mrests, .ref h_mrows, .ref h_mdigits, .ref h_mz, .ref h_mout, .int v_printed, .ref h_mopen])), (h_mz, .inl (cT 0, 1100, .inl f_z))] sz) := by
  refine Met.ofW (cc := cX8_divide) (maxL := 8) (ret := none) (by decide) rfl ?_
  intro p e s m args below meth c s₁ B hml hv
  obtain ⟨rfl, hsz, hP, hK, hD0, hN⟩ := hv
  have hx := B.exec
  have hb := B.bytes
  have hr := B.returns
  have hts : ∀ w ∈ WG, w.before _ s = true := fun w h => atoms_spec (ws := wX8_divide) B.pre w (List.mem_cons_of_mem _ h)
  have hown : s.vm.findClass RX8 = some m.cls := findClass_of_methodNamed B.named
  have hlocks := B.notSynchronized
  subst hsz
  have hD := hD0.self (sz := s.heap.size)
  generalize hAe : va_A [(h_m, .inr (8, [.int v_thrown, .int v_n, .ref h_mwholes, .ref h_mparts, .int v_has, .int v_known, .ref h_mknown31, .int v_many, .ref h_mprimes, .ref h_mrests, .ref h_mrows, .ref h_mdigits, .ref h_mz, .ref h_mout, .int v_printed, .ref h_mopen])), (h_mz, .inl (cT 0, 1100, .inl f_z))] s.heap.size = A at hD ⊢
  have hA : ∀ q : Nat, s.heap.size ≤ q → A q := fun q h => by rw [← hAe]; exact Or.inr h
  have hS : va_S A s.heap s.heap [] := va_S.rf
  have hl := lv_entry ([.ref h_m, .int x1, .int x2]) (n := 8) (Nat.le_of_ble_eq_true rfl)
  rw [lg_entry_eq]
  generalize (lg_sl ([.ref h_m, .int x1, .int x2]) ++ List.replicate (8 - (lg_sl ([.ref h_m, .int x1, .int x2])).length) Slot.unset).toArray = ls at hl ⊢
  refine tw_Model_divide (Q := MQ below _ _ s 0 0 A) ⟨⟨hx, hb, hml, hown, hts⟩, hK, hN⟩ hA (fun f_z H locs pc ls hp hP hD hS hd => W.vret hx hb hr (fun t ht hW => ⟨⟨(f_z), rfl, hp, by rw [ht]; exact hP, hD⟩, hS.F ht⟩) hS.2.2 hd) _ _ _ _ _ _ hP hD hS hl hw
end
def wp_Model_reduce_21 (post : (Nat → Int32) → Prop) (v_thrown : Int32) (v_n : Int32) (v_has : Int32) (v_known : Int32) (v_many : Int32) (v_printed : Int32)  : Nat → Int32 → (Nat → Int32) → Prop
  | 0 => fun _ _ => False
  | n + 1 => fun x1 f_z => wp_Model_isZero (fun r_3 => ((r_3 = 0 → (wp_Model_divide (fun u_9 => wp_Model_copy (fun u_10 => wp_Model_copy (fun u_11 => wp_Model_reduce_21 post v_thrown v_n v_has v_known v_many v_printed n x1 u_11) v_thrown v_n v_has v_known v_many v_printed 946 1012 u_10) v_thrown v_n v_has v_known v_many v_printed 968 946 u_9) v_thrown v_n v_has v_known v_many v_printed 968 946 f_z)) ∧ (¬ r_3 = 0 → (wp_Model_divide (fun u_5 => wp_Model_copy (fun u_6 => wp_Model_divide (fun u_7 => wp_Model_copy (fun u_8 => post u_8) v_thrown v_n v_has v_known v_many v_printed 924 990 u_7) v_thrown v_n v_has v_known v_many v_printed 880 968 u_6) v_thrown v_n v_has v_known v_many v_printed 902 990 u_5) v_thrown v_n v_has v_known v_many v_printed (22 * x1) 968 f_z)))) v_thrown v_n v_has v_known v_many v_printed f_z 946
def wp_Model_reduce (post : (Nat → Int32) → Prop) (v_thrown : Int32) (v_n : Int32) (v_has : Int32) (v_known : Int32) (v_many : Int32) (v_printed : Int32)  (x1 : Int32) (f_z : Nat → Int32) : Prop := wp_Model_copy (fun u_1 => wp_Model_copy (fun u_2 => ∃ k9, wp_Model_reduce_21 post v_thrown v_n v_has v_known v_many v_printed k9 x1 u_2) v_thrown v_n v_has v_known v_many v_printed 968 880 u_1) v_thrown v_n v_has v_known v_many v_printed 946 (22 * x1) f_z
section
variable {p : Program} {l : Launch} {e : Env} {s : State} {m : MethodId} {args : Array Value} {below : List Frame} {meth : Method} {c : Code} {Q : State → Prop} {A : Nat → Prop} {D : va_G} {cT : Nat → ClassId}
set_option maxHeartbeats 4000000 in
set_option maxRecDepth 100000 in
theorem tw_Model_reduce_21 {post : (Nat → Int32) → Prop} {h_m h_mz h_mwholes h_mparts h_mknown31 h_mprimes h_mrests h_mrows h_mdigits h_mout h_mopen : Nat} {v_thrown : Int32} {v_n : Int32} {v_has : Int32} {v_known : Int32} {v_many : Int32} {v_printed : Int32}  (C0 : cx RX8 cX8_reduce 2 D cT p s m c args) (hA : ∀ q, s.heap.size ≤ q → A q) (hret : ∀ (f_z : Nat → Int32) (H : Heap) (locs : List Loc) (pc : Nat) (ls : Array Slot), post f_z → va_P D vwCl [(h_m, .inr (8, [.int v_thrown, .int v_n, .ref h_mwholes, .ref h_mparts, .int v_has, .int v_known, .ref h_mknown31, .int v_many, .ref h_mprimes, .ref h_mrests, .ref h_mrows, .ref h_mdigits, .ref h_mz, .ref h_mout, .int v_printed, .ref h_mopen])), (h_mz, .inl (cT 0, 1100, .inl f_z))] H → va_D A [(h_m, .inr (8, [.int v_thrown, .int v_n, .ref h_mwholes, .ref h_mparts, .int v_has, .int v_known, .ref h_mknown31, .int v_many, .ref h_mprimes, .ref h_mrests, .ref h_mrows, .ref h_mdigits, .ref h_mz, .ref h_mout, .int v_printed, .ref h_mopen])), (h_mz, .inl (cT 0, 1100, .inl f_z))] → va_S A s.heap H locs → decode cX8_reduce pc = .ok (.return_, 1) → W p l e ({ frames := 2, cells := 0, slots := 0, locals := 51 } : Room) s m args below meth c H locs 0 0 Q (F0 m pc ls []))  : ∀ (n : Nat) (x1 : Int32) (f_z : Nat → Int32) (H : Heap) (locs : List Loc) (ls : Array Slot), va_P D vwCl [(h_m, .inr (8, [.int v_thrown, .int v_n, .ref h_mwholes, .ref h_mparts, .int v_has, .int v_known, .ref h_mknown31, .int v_many, .ref h_mprimes, .ref h_mrests, .ref h_mrows, .ref h_mdigits, .ref h_mz, .ref h_mout, .int v_printed, .ref h_mopen])), (h_mz, .inl (cT 0, 1100, .inl f_z))] H → va_D A [(h_m, .inr (8, [.int v_thrown, .int v_n, .ref h_mwholes, .ref h_mparts, .int v_has, .int v_known, .ref h_mknown31, .int v_many, .ref h_mprimes, .ref h_mrests, .ref h_mrows, .ref h_mdigits, .ref h_mz, .ref h_mout, .int v_printed, .ref h_mopen])), (h_mz, .inl (cT 0, 1100, .inl f_z))] → va_S A s.heap H locs → lv_has ls 2 [(0, .ref h_m), (1, .int x1)] → wp_Model_reduce_21 post v_thrown v_n v_has v_known v_many v_printed n x1 f_z → W p l e ({ frames := 2, cells := 0, slots := 0, locals := 51 } : Room) s m args below meth c H locs 0 0 Q (F0 m 21 ls []) := by
  obtain ⟨⟨hx, hb, hml, hown, hts⟩, hK, hN⟩ := id C0
  intro n
  induction n with
  | zero => intro x1 f_z H locs ls hP hD hS hl hw; exact hw.elim
  | succ n ih =>
    intro x1 f_z H locs ls hP hD hS hl hw
    unfold wp_Model_reduce_21 at hw
    refine lv_aload_n hx hb dX8_reduce_21 rfl (lv_at hl 0 rfl) ?_
    refine lv_sipush (v := 946) hx hb dX8_reduce_22 (by decide) ?_
    have hPc := hP.sub (ws' := [(h_m, .inr (8, [.int v_thrown, .int v_n, .ref h_mwholes, .ref h_mparts, .int v_has, .int v_known, .ref h_mknown31, .int v_many, .ref h_mprimes, .ref h_mrests, .ref h_mrows, .ref h_mdigits, .ref h_mz, .ref h_mout, .int v_printed, .ref h_mopen])), (h_mz, .inl (cT 0, 1100, .inl f_z))]) [0, 1] rfl
    have hDc := hD.sub (ws' := [(h_m, .inr (8, [.int v_thrown, .int v_n, .ref h_mwholes, .ref h_mparts, .int v_has, .int v_known, .ref h_mknown31, .int v_many, .ref h_mprimes, .ref h_mrests, .ref h_mrows, .ref h_mdigits, .ref h_mz, .ref h_mout, .int v_printed, .ref h_mopen])), (h_mz, .inl (cT 0, 1100, .inl f_z))]) [0, 1] (by decide) rfl
    have hFc := va_free (wc := [(h_m, .inr (8, [.int v_thrown, .int v_n, .ref h_mwholes, .ref h_mparts, .int v_has, .int v_known, .ref h_mknown31, .int v_many, .ref h_mprimes, .ref h_mrests, .ref h_mrows, .ref h_mdigits, .ref h_mz, .ref h_mout, .int v_printed, .ref h_mopen])), (h_mz, .inl (cT 0, 1100, .inl f_z))]) hD hS hA [0, 1] rfl
    refine va_calli (va_runV (As := [.int 946]) (rest := []) ⟨hx, hb, hml, hown, hts⟩ (cn_Model_isZero l D cT h_m h_mz h_mwholes h_mparts h_mknown31 h_mprimes h_mrests h_mrows h_mdigits h_mout h_mopen H.size v_thrown v_n v_has v_known v_many v_printed f_z 946 _ hw) (gv_ 1 q_718 q_9 q_715 q_717 qs_32 (by decide +kernel) ⟨Nat.le_of_ble_eq_true rfl, Nat.le_of_ble_eq_true rfl⟩ hts) ⟨pre_blind, va_recv hK hPc (ci := 8) (q0 := 0) rfl rfl, fun U hU hW => ⟨rfl, pre_mk hU hW hPc hK hDc hN⟩⟩ rfl rfl hl.1 rfl (lv_room (Nat.le_of_ble_eq_true rfl)) dX8_reduce_25 ⟨(Nat.zero_le _), (Nat.zero_le _)⟩) hS (fun q _ h => hFc q h) hFc (fun r_3 u9 t H locs ht hvm hw hB hz1 hk1 hS => ?_)
    obtain ⟨hP1, hD1⟩ := hB
    rw [ht] at hP1
    obtain ⟨hP, hD⟩ := va_join (wr := []) (w1 := [(h_m, .inr (8, [.int v_thrown, .int v_n, .ref h_mwholes, .ref h_mparts, .int v_has, .int v_known, .ref h_mknown31, .int v_many, .ref h_mprimes, .ref h_mrests, .ref h_mrows, .ref h_mdigits, .ref h_mz, .ref h_mout, .int v_printed, .ref h_mopen])), (h_mz, .inl (cT 0, 1100, .inl f_z))]) hP hD [0, 1] [] rfl rfl (by decide) (by decide) hk1 hFc hP1 hD1
    have hP := hP.sub (ws' := [(h_m, .inr (8, [.int v_thrown, .int v_n, .ref h_mwholes, .ref h_mparts, .int v_has, .int v_known, .ref h_mknown31, .int v_many, .ref h_mprimes, .ref h_mrests, .ref h_mrows, .ref h_mdigits, .ref h_mz, .ref h_mout, .int v_printed, .ref h_mopen])), (h_mz, .inl (cT 0, 1100, .inl f_z))]) [0, 1] rfl
    have hD := hD.sub (ws' := [(h_m, .inr (8, [.int v_thrown, .int v_n, .ref h_mwholes, .ref h_mparts, .int v_has, .int v_known, .ref h_mknown31, .int v_many, .ref h_mprimes, .ref h_mrests, .ref h_mrows, .ref h_mdigits, .ref h_mz, .ref h_mout, .int v_printed, .ref h_mopen])), (h_mz, .inl (cT 0, 1100, .inl f_z))]) [0, 1] (by decide) rfl
    clear hP1 hD1 hPc hDc hFc hk1 hz1 hvm ht
    try dsimp only at hw
    refine lv_if_ne (tgt := 64) hx hb dX8_reduce_28 (by decide) (fun c_4 => ?_) (fun c_4 => ?_)
    · have hw := hw.2 c_4
      refine lv_aload_n hx hb dX8_reduce_64 rfl (lv_at hl 0 rfl) ?_
      refine lv_bipush (v := 22) hx hb dX8_reduce_65 (by decide) ?_
      refine lv_iload_n hx hb dX8_reduce_67 rfl (lv_at hl 1 rfl) ?_
      refine lv_imul hx hb dX8_reduce_68 ?_
      refine lv_sipush (v := 968) hx hb dX8_reduce_69 (by decide) ?_
      have hPc := hP.sub (ws' := [(h_m, .inr (8, [.int v_thrown, .int v_n, .ref h_mwholes, .ref h_mparts, .int v_has, .int v_known, .ref h_mknown31, .int v_many, .ref h_mprimes, .ref h_mrests, .ref h_mrows, .ref h_mdigits, .ref h_mz, .ref h_mout, .int v_printed, .ref h_mopen])), (h_mz, .inl (cT 0, 1100, .inl f_z))]) [0, 1] rfl
      have hDc := hD.sub (ws' := [(h_m, .inr (8, [.int v_thrown, .int v_n, .ref h_mwholes, .ref h_mparts, .int v_has, .int v_known, .ref h_mknown31, .int v_many, .ref h_mprimes, .ref h_mrests, .ref h_mrows, .ref h_mdigits, .ref h_mz, .ref h_mout, .int v_printed, .ref h_mopen])), (h_mz, .inl (cT 0, 1100, .inl f_z))]) [0, 1] (by decide) rfl
      have hFc := va_free (wc := [(h_m, .inr (8, [.int v_thrown, .int v_n, .ref h_mwholes, .ref h_mparts, .int v_has, .int v_known, .ref h_mknown31, .int v_many, .ref h_mprimes, .ref h_mrests, .ref h_mrows, .ref h_mdigits, .ref h_mz, .ref h_mout, .int v_printed, .ref h_mopen])), (h_mz, .inl (cT 0, 1100, .inl f_z))]) hD hS hA [0, 1] rfl
      refine va_callv (va_runV (As := [.int (22 * x1), .int 968]) (rest := []) ⟨hx, hb, hml, hown, hts⟩ (cn_Model_divide l D cT h_m h_mz h_mwholes h_mparts h_mknown31 h_mprimes h_mrests h_mrows h_mdigits h_mout h_mopen H.size v_thrown v_n v_has v_known v_many v_printed f_z (22 * x1) 968 _ hw) (gv_ 2 q_722 q_9 q_719 q_721 qs_33 (by decide +kernel) ⟨Nat.le_of_ble_eq_true rfl, Nat.le_of_ble_eq_true rfl⟩ hts) ⟨pre_blind, va_recv hK hPc (ci := 8) (q0 := 0) rfl rfl, fun U hU hW => ⟨rfl, pre_mk hU hW hPc hK hDc hN⟩⟩ rfl rfl hl.1 rfl (lv_room (Nat.le_of_ble_eq_true rfl)) dX8_reduce_72 ⟨(Nat.zero_le _), (Nat.zero_le _)⟩) hS (fun q _ h => hFc q h) hFc (fun u9 t H locs ht hvm hw hB hz1 hk1 hS => ?_)
      obtain ⟨u_5, rfl⟩ : ∃ z, z = u9 := ⟨_, rfl⟩
      obtain ⟨hP1, hD1⟩ := hB
      rw [ht] at hP1
      obtain ⟨hP, hD⟩ := va_join (wr := []) (w1 := [(h_m, .inr (8, [.int v_thrown, .int v_n, .ref h_mwholes, .ref h_mparts, .int v_has, .int v_known, .ref h_mknown31, .int v_many, .ref h_mprimes, .ref h_mrests, .ref h_mrows, .ref h_mdigits, .ref h_mz, .ref h_mout, .int v_printed, .ref h_mopen])), (h_mz, .inl (cT 0, 1100, .inl u_5))]) hP hD [0, 1] [] rfl rfl (by decide) (by decide) hk1 hFc hP1 hD1
      have hP := hP.sub (ws' := [(h_m, .inr (8, [.int v_thrown, .int v_n, .ref h_mwholes, .ref h_mparts, .int v_has, .int v_known, .ref h_mknown31, .int v_many, .ref h_mprimes, .ref h_mrests, .ref h_mrows, .ref h_mdigits, .ref h_mz, .ref h_mout, .int v_printed, .ref h_mopen])), (h_mz, .inl (cT 0, 1100, .inl u_5))]) [0, 1] rfl
      have hD := hD.sub (ws' := [(h_m, .inr (8, [.int v_thrown, .int v_n, .ref h_mwholes, .ref h_mparts, .int v_has, .int v_known, .ref h_mknown31, .int v_many, .ref h_mprimes, .ref h_mrests, .ref h_mrows, .ref h_mdigits, .ref h_mz, .ref h_mout, .int v_printed, .ref h_mopen])), (h_mz, .inl (cT 0, 1100, .inl u_5))]) [0, 1] (by decide) rfl
      clear hP1 hD1 hPc hDc hFc hk1 hz1 hvm ht
      try dsimp only at hw
      refine lv_aload_n hx hb dX8_reduce_75 rfl (lv_at hl 0 rfl) ?_
      refine lv_sipush (v := 902) hx hb dX8_reduce_76 (by decide) ?_
      refine lv_sipush (v := 990) hx hb dX8_reduce_79 (by decide) ?_
      have hPc := hP.sub (ws' := [(h_m, .inr (8, [.int v_thrown, .int v_n, .ref h_mwholes, .ref h_mparts, .int v_has, .int v_known, .ref h_mknown31, .int v_many, .ref h_mprimes, .ref h_mrests, .ref h_mrows, .ref h_mdigits, .ref h_mz, .ref h_mout, .int v_printed, .ref h_mopen])), (h_mz, .inl (cT 0, 1100, .inl u_5))]) [0, 1] rfl
      have hDc := hD.sub (ws' := [(h_m, .inr (8, [.int v_thrown, .int v_n, .ref h_mwholes, .ref h_mparts, .int v_has, .int v_known, .ref h_mknown31, .int v_many, .ref h_mprimes, .ref h_mrests, .ref h_mrows, .ref h_mdigits, .ref h_mz, .ref h_mout, .int v_printed, .ref h_mopen])), (h_mz, .inl (cT 0, 1100, .inl u_5))]) [0, 1] (by decide) rfl
      have hFc := va_free (wc := [(h_m, .inr (8, [.int v_thrown, .int v_n, .ref h_mwholes, .ref h_mparts, .int v_has, .int v_known, .ref h_mknown31, .int v_many, .ref h_mprimes, .ref h_mrests, .ref h_mrows, .ref h_mdigits, .ref h_mz, .ref h_mout, .int v_printed, .ref h_mopen])), (h_mz, .inl (cT 0, 1100, .inl u_5))]) hD hS hA [0, 1] rfl
      refine va_callv (va_runV (As := [.int 902, .int 990]) (rest := []) ⟨hx, hb, hml, hown, hts⟩ (cn_Model_copy l D cT h_m h_mz h_mwholes h_mparts h_mknown31 h_mprimes h_mrests h_mrows h_mdigits h_mout h_mopen H.size v_thrown v_n v_has v_known v_many v_printed u_5 902 990 _ hw) (gv_ 2 q_714 q_9 q_711 q_713 qs_31 (by decide +kernel) ⟨Nat.le_of_ble_eq_true rfl, Nat.le_of_ble_eq_true rfl⟩ hts) ⟨pre_blind, va_recv hK hPc (ci := 8) (q0 := 0) rfl rfl, fun U hU hW => ⟨rfl, pre_mk hU hW hPc hK hDc hN⟩⟩ rfl rfl hl.1 rfl (lv_room (Nat.le_of_ble_eq_true rfl)) dX8_reduce_82 ⟨(Nat.zero_le _), (Nat.zero_le _)⟩) hS (fun q _ h => hFc q h) hFc (fun u9 t H locs ht hvm hw hB hz1 hk1 hS => ?_)
      obtain ⟨u_6, rfl⟩ : ∃ z, z = u9 := ⟨_, rfl⟩
      obtain ⟨hP1, hD1⟩ := hB
      rw [ht] at hP1
      obtain ⟨hP, hD⟩ := va_join (wr := []) (w1 := [(h_m, .inr (8, [.int v_thrown, .int v_n, .ref h_mwholes, .ref h_mparts, .int v_has, .int v_known, .ref h_mknown31, .int v_many, .ref h_mprimes, .ref h_mrests, .ref h_mrows, .ref h_mdigits, .ref h_mz, .ref h_mout, .int v_printed, .ref h_mopen])), (h_mz, .inl (cT 0, 1100, .inl u_6))]) hP hD [0, 1] [] rfl rfl (by decide) (by decide) hk1 hFc hP1 hD1
      have hP := hP.sub (ws' := [(h_m, .inr (8, [.int v_thrown, .int v_n, .ref h_mwholes, .ref h_mparts, .int v_has, .int v_known, .ref h_mknown31, .int v_many, .ref h_mprimes, .ref h_mrests, .ref h_mrows, .ref h_mdigits, .ref h_mz, .ref h_mout, .int v_printed, .ref h_mopen])), (h_mz, .inl (cT 0, 1100, .inl u_6))]) [0, 1] rfl
      have hD := hD.sub (ws' := [(h_m, .inr (8, [.int v_thrown, .int v_n, .ref h_mwholes, .ref h_mparts, .int v_has, .int v_known, .ref h_mknown31, .int v_many, .ref h_mprimes, .ref h_mrests, .ref h_mrows, .ref h_mdigits, .ref h_mz, .ref h_mout, .int v_printed, .ref h_mopen])), (h_mz, .inl (cT 0, 1100, .inl u_6))]) [0, 1] (by decide) rfl
      clear hP1 hD1 hPc hDc hFc hk1 hz1 hvm ht
      try dsimp only at hw
      refine lv_aload_n hx hb dX8_reduce_85 rfl (lv_at hl 0 rfl) ?_
      refine lv_sipush (v := 880) hx hb dX8_reduce_86 (by decide) ?_
      refine lv_sipush (v := 968) hx hb dX8_reduce_89 (by decide) ?_
      have hPc := hP.sub (ws' := [(h_m, .inr (8, [.int v_thrown, .int v_n, .ref h_mwholes, .ref h_mparts, .int v_has, .int v_known, .ref h_mknown31, .int v_many, .ref h_mprimes, .ref h_mrests, .ref h_mrows, .ref h_mdigits, .ref h_mz, .ref h_mout, .int v_printed, .ref h_mopen])), (h_mz, .inl (cT 0, 1100, .inl u_6))]) [0, 1] rfl
      have hDc := hD.sub (ws' := [(h_m, .inr (8, [.int v_thrown, .int v_n, .ref h_mwholes, .ref h_mparts, .int v_has, .int v_known, .ref h_mknown31, .int v_many, .ref h_mprimes, .ref h_mrests, .ref h_mrows, .ref h_mdigits, .ref h_mz, .ref h_mout, .int v_printed, .ref h_mopen])), (h_mz, .inl (cT 0, 1100, .inl u_6))]) [0, 1] (by decide) rfl
      have hFc := va_free (wc := [(h_m, .inr (8, [.int v_thrown, .int v_n, .ref h_mwholes, .ref h_mparts, .int v_has, .int v_known, .ref h_mknown31, .int v_many, .ref h_mprimes, .ref h_mrests, .ref h_mrows, .ref h_mdigits, .ref h_mz, .ref h_mout, .int v_printed, .ref h_mopen])), (h_mz, .inl (cT 0, 1100, .inl u_6))]) hD hS hA [0, 1] rfl
      refine va_callv (va_runV (As := [.int 880, .int 968]) (rest := []) ⟨hx, hb, hml, hown, hts⟩ (cn_Model_divide l D cT h_m h_mz h_mwholes h_mparts h_mknown31 h_mprimes h_mrests h_mrows h_mdigits h_mout h_mopen H.size v_thrown v_n v_has v_known v_many v_printed u_6 880 968 _ hw) (gv_ 2 q_722 q_9 q_719 q_721 qs_33 (by decide +kernel) ⟨Nat.le_of_ble_eq_true rfl, Nat.le_of_ble_eq_true rfl⟩ hts) ⟨pre_blind, va_recv hK hPc (ci := 8) (q0 := 0) rfl rfl, fun U hU hW => ⟨rfl, pre_mk hU hW hPc hK hDc hN⟩⟩ rfl rfl hl.1 rfl (lv_room (Nat.le_of_ble_eq_true rfl)) dX8_reduce_92 ⟨(Nat.zero_le _), (Nat.zero_le _)⟩) hS (fun q _ h => hFc q h) hFc (fun u9 t H locs ht hvm hw hB hz1 hk1 hS => ?_)
      obtain ⟨u_7, rfl⟩ : ∃ z, z = u9 := ⟨_, rfl⟩
      obtain ⟨hP1, hD1⟩ := hB
      rw [ht] at hP1
      obtain ⟨hP, hD⟩ := va_join (wr := []) (w1 := [(h_m, .inr (8, [.int v_thrown, .int v_n, .ref h_mwholes, .ref h_mparts, .int v_has, .int v_known, .ref h_mknown31, .int v_many, .ref h_mprimes, .ref h_mrests, .ref h_mrows, .ref h_mdigits, .ref h_mz, .ref h_mout, .int v_printed, .ref h_mopen])), (h_mz, .inl (cT 0, 1100, .inl u_7))]) hP hD [0, 1] [] rfl rfl (by decide) (by decide) hk1 hFc hP1 hD1
      have hP := hP.sub (ws' := [(h_m, .inr (8, [.int v_thrown, .int v_n, .ref h_mwholes, .ref h_mparts, .int v_has, .int v_known, .ref h_mknown31, .int v_many, .ref h_mprimes, .ref h_mrests, .ref h_mrows, .ref h_mdigits, .ref h_mz, .ref h_mout, .int v_printed, .ref h_mopen])), (h_mz, .inl (cT 0, 1100, .inl u_7))]) [0, 1] rfl
      have hD := hD.sub (ws' := [(h_m, .inr (8, [.int v_thrown, .int v_n, .ref h_mwholes, .ref h_mparts, .int v_has, .int v_known, .ref h_mknown31, .int v_many, .ref h_mprimes, .ref h_mrests, .ref h_mrows, .ref h_mdigits, .ref h_mz, .ref h_mout, .int v_printed, .ref h_mopen])), (h_mz, .inl (cT 0, 1100, .inl u_7))]) [0, 1] (by decide) rfl
      clear hP1 hD1 hPc hDc hFc hk1 hz1 hvm ht
      try dsimp only at hw
      refine lv_aload_n hx hb dX8_reduce_95 rfl (lv_at hl 0 rfl) ?_
      refine lv_sipush (v := 924) hx hb dX8_reduce_96 (by decide) ?_
      refine lv_sipush (v := 990) hx hb dX8_reduce_99 (by decide) ?_
      have hPc := hP.sub (ws' := [(h_m, .inr (8, [.int v_thrown, .int v_n, .ref h_mwholes, .ref h_mparts, .int v_has, .int v_known, .ref h_mknown31, .int v_many, .ref h_mprimes, .ref h_mrests, .ref h_mrows, .ref h_mdigits, .ref h_mz, .ref h_mout, .int v_printed, .ref h_mopen])), (h_mz, .inl (cT 0, 1100, .inl u_7))]) [0, 1] rfl
      have hDc := hD.sub (ws' := [(h_m, .inr (8, [.int v_thrown, .int v_n, .ref h_mwholes, .ref h_mparts, .int v_has, .int v_known, .ref h_mknown31, .int v_many, .ref h_mprimes, .ref h_mrests, .ref h_mrows, .ref h_mdigits, .ref h_mz, .ref h_mout, .int v_printed, .ref h_mopen])), (h_mz, .inl (cT 0, 1100, .inl u_7))]) [0, 1] (by decide) rfl
      have hFc := va_free (wc := [(h_m, .inr (8, [.int v_thrown, .int v_n, .ref h_mwholes, .ref h_mparts, .int v_has, .int v_known, .ref h_mknown31, .int v_many, .ref h_mprimes, .ref h_mrests, .ref h_mrows, .ref h_mdigits, .ref h_mz, .ref h_mout, .int v_printed, .ref h_mopen])), (h_mz, .inl (cT 0, 1100, .inl u_7))]) hD hS hA [0, 1] rfl
      refine va_callv (va_runV (As := [.int 924, .int 990]) (rest := []) ⟨hx, hb, hml, hown, hts⟩ (cn_Model_copy l D cT h_m h_mz h_mwholes h_mparts h_mknown31 h_mprimes h_mrests h_mrows h_mdigits h_mout h_mopen H.size v_thrown v_n v_has v_known v_many v_printed u_7 924 990 _ hw) (gv_ 2 q_714 q_9 q_711 q_713 qs_31 (by decide +kernel) ⟨Nat.le_of_ble_eq_true rfl, Nat.le_of_ble_eq_true rfl⟩ hts) ⟨pre_blind, va_recv hK hPc (ci := 8) (q0 := 0) rfl rfl, fun U hU hW => ⟨rfl, pre_mk hU hW hPc hK hDc hN⟩⟩ rfl rfl hl.1 rfl (lv_room (Nat.le_of_ble_eq_true rfl)) dX8_reduce_102 ⟨(Nat.zero_le _), (Nat.zero_le _)⟩) hS (fun q _ h => hFc q h) hFc (fun u9 t H locs ht hvm hw hB hz1 hk1 hS => ?_)
      obtain ⟨u_8, rfl⟩ : ∃ z, z = u9 := ⟨_, rfl⟩
      obtain ⟨hP1, hD1⟩ := hB
      rw [ht] at hP1
      obtain ⟨hP, hD⟩ := va_join (wr := []) (w1 := [(h_m, .inr (8, [.int v_thrown, .int v_n, .ref h_mwholes, .ref h_mparts, .int v_has, .int v_known, .ref h_mknown31, .int v_many, .ref h_mprimes, .ref h_mrests, .ref h_mrows, .ref h_mdigits, .ref h_mz, .ref h_mout, .int v_printed, .ref h_mopen])), (h_mz, .inl (cT 0, 1100, .inl u_8))]) hP hD [0, 1] [] rfl rfl (by decide) (by decide) hk1 hFc hP1 hD1
      have hP := hP.sub (ws' := [(h_m, .inr (8, [.int v_thrown, .int v_n, .ref h_mwholes, .ref h_mparts, .int v_has, .int v_known, .ref h_mknown31, .int v_many, .ref h_mprimes, .ref h_mrests, .ref h_mrows, .ref h_mdigits, .ref h_mz, .ref h_mout, .int v_printed, .ref h_mopen])), (h_mz, .inl (cT 0, 1100, .inl u_8))]) [0, 1] rfl
      have hD := hD.sub (ws' := [(h_m, .inr (8, [.int v_thrown, .int v_n, .ref h_mwholes, .ref h_mparts, .int v_has, .int v_known, .ref h_mknown31, .int v_many, .ref h_mprimes, .ref h_mrests, .ref h_mrows, .ref h_mdigits, .ref h_mz, .ref h_mout, .int v_printed, .ref h_mopen])), (h_mz, .inl (cT 0, 1100, .inl u_8))]) [0, 1] (by decide) rfl
      clear hP1 hD1 hPc hDc hFc hk1 hz1 hvm ht
      try dsimp only at hw
      exact hret _ _ _ _ _ hw hP hD hS dX8_reduce_105
    · have hw := hw.1 c_4
      refine lv_aload_n hx hb dX8_reduce_31 rfl (lv_at hl 0 rfl) ?_
      refine lv_sipush (v := 968) hx hb dX8_reduce_32 (by decide) ?_
      refine lv_sipush (v := 946) hx hb dX8_reduce_35 (by decide) ?_
      have hPc := hP.sub (ws' := [(h_m, .inr (8, [.int v_thrown, .int v_n, .ref h_mwholes, .ref h_mparts, .int v_has, .int v_known, .ref h_mknown31, .int v_many, .ref h_mprimes, .ref h_mrests, .ref h_mrows, .ref h_mdigits, .ref h_mz, .ref h_mout, .int v_printed, .ref h_mopen])), (h_mz, .inl (cT 0, 1100, .inl f_z))]) [0, 1] rfl
      have hDc := hD.sub (ws' := [(h_m, .inr (8, [.int v_thrown, .int v_n, .ref h_mwholes, .ref h_mparts, .int v_has, .int v_known, .ref h_mknown31, .int v_many, .ref h_mprimes, .ref h_mrests, .ref h_mrows, .ref h_mdigits, .ref h_mz, .ref h_mout, .int v_printed, .ref h_mopen])), (h_mz, .inl (cT 0, 1100, .inl f_z))]) [0, 1] (by decide) rfl
      have hFc := va_free (wc := [(h_m, .inr (8, [.int v_thrown, .int v_n, .ref h_mwholes, .ref h_mparts, .int v_has, .int v_known, .ref h_mknown31, .int v_many, .ref h_mprimes, .ref h_mrests, .ref h_mrows, .ref h_mdigits, .ref h_mz, .ref h_mout, .int v_printed, .ref h_mopen])), (h_mz, .inl (cT 0, 1100, .inl f_z))]) hD hS hA [0, 1] rfl
      refine va_callv (va_runV (As := [.int 968, .int 946]) (rest := []) ⟨hx, hb, hml, hown, hts⟩ (cn_Model_divide l D cT h_m h_mz h_mwholes h_mparts h_mknown31 h_mprimes h_mrests h_mrows h_mdigits h_mout h_mopen H.size v_thrown v_n v_has v_known v_many v_printed f_z 968 946 _ hw) (gv_ 2 q_722 q_9 q_719 q_721 qs_33 (by decide +kernel) ⟨Nat.le_of_ble_eq_true rfl, Nat.le_of_ble_eq_true rfl⟩ hts) ⟨pre_blind, va_recv hK hPc (ci := 8) (q0 := 0) rfl rfl, fun U hU hW => ⟨rfl, pre_mk hU hW hPc hK hDc hN⟩⟩ rfl rfl hl.1 rfl (lv_room (Nat.le_of_ble_eq_true rfl)) dX8_reduce_38 ⟨(Nat.zero_le _), (Nat.zero_le _)⟩) hS (fun q _ h => hFc q h) hFc (fun u9 t H locs ht hvm hw hB hz1 hk1 hS => ?_)
      obtain ⟨u_9, rfl⟩ : ∃ z, z = u9 := ⟨_, rfl⟩
      obtain ⟨hP1, hD1⟩ := hB
      rw [ht] at hP1
      obtain ⟨hP, hD⟩ := va_join (wr := []) (w1 := [(h_m, .inr (8, [.int v_thrown, .int v_n, .ref h_mwholes, .ref h_mparts, .int v_has, .int v_known, .ref h_mknown31, .int v_many, .ref h_mprimes, .ref h_mrests, .ref h_mrows, .ref h_mdigits, .ref h_mz, .ref h_mout, .int v_printed, .ref h_mopen])), (h_mz, .inl (cT 0, 1100, .inl u_9))]) hP hD [0, 1] [] rfl rfl (by decide) (by decide) hk1 hFc hP1 hD1
      have hP := hP.sub (ws' := [(h_m, .inr (8, [.int v_thrown, .int v_n, .ref h_mwholes, .ref h_mparts, .int v_has, .int v_known, .ref h_mknown31, .int v_many, .ref h_mprimes, .ref h_mrests, .ref h_mrows, .ref h_mdigits, .ref h_mz, .ref h_mout, .int v_printed, .ref h_mopen])), (h_mz, .inl (cT 0, 1100, .inl u_9))]) [0, 1] rfl
      have hD := hD.sub (ws' := [(h_m, .inr (8, [.int v_thrown, .int v_n, .ref h_mwholes, .ref h_mparts, .int v_has, .int v_known, .ref h_mknown31, .int v_many, .ref h_mprimes, .ref h_mrests, .ref h_mrows, .ref h_mdigits, .ref h_mz, .ref h_mout, .int v_printed, .ref h_mopen])), (h_mz, .inl (cT 0, 1100, .inl u_9))]) [0, 1] (by decide) rfl
      clear hP1 hD1 hPc hDc hFc hk1 hz1 hvm ht
      try dsimp only at hw
      refine lv_aload_n hx hb dX8_reduce_41 rfl (lv_at hl 0 rfl) ?_
      refine lv_sipush (v := 968) hx hb dX8_reduce_42 (by decide) ?_
      refine lv_sipush (v := 946) hx hb dX8_reduce_45 (by decide) ?_
      have hPc := hP.sub (ws' := [(h_m, .inr (8, [.int v_thrown, .int v_n, .ref h_mwholes, .ref h_mparts, .int v_has, .int v_known, .ref h_mknown31, .int v_many, .ref h_mprimes, .ref h_mrests, .ref h_mrows, .ref h_mdigits, .ref h_mz, .ref h_mout, .int v_printed, .ref h_mopen])), (h_mz, .inl (cT 0, 1100, .inl u_9))]) [0, 1] rfl
      have hDc := hD.sub (ws' := [(h_m, .inr (8, [.int v_thrown, .int v_n, .ref h_mwholes, .ref h_mparts, .int v_has, .int v_known, .ref h_mknown31, .int v_many, .ref h_mprimes, .ref h_mrests, .ref h_mrows, .ref h_mdigits, .ref h_mz, .ref h_mout, .int v_printed, .ref h_mopen])), (h_mz, .inl (cT 0, 1100, .inl u_9))]) [0, 1] (by decide) rfl
      have hFc := va_free (wc := [(h_m, .inr (8, [.int v_thrown, .int v_n, .ref h_mwholes, .ref h_mparts, .int v_has, .int v_known, .ref h_mknown31, .int v_many, .ref h_mprimes, .ref h_mrests, .ref h_mrows, .ref h_mdigits, .ref h_mz, .ref h_mout, .int v_printed, .ref h_mopen])), (h_mz, .inl (cT 0, 1100, .inl u_9))]) hD hS hA [0, 1] rfl
      refine va_callv (va_runV (As := [.int 968, .int 946]) (rest := []) ⟨hx, hb, hml, hown, hts⟩ (cn_Model_copy l D cT h_m h_mz h_mwholes h_mparts h_mknown31 h_mprimes h_mrests h_mrows h_mdigits h_mout h_mopen H.size v_thrown v_n v_has v_known v_many v_printed u_9 968 946 _ hw) (gv_ 2 q_714 q_9 q_711 q_713 qs_31 (by decide +kernel) ⟨Nat.le_of_ble_eq_true rfl, Nat.le_of_ble_eq_true rfl⟩ hts) ⟨pre_blind, va_recv hK hPc (ci := 8) (q0 := 0) rfl rfl, fun U hU hW => ⟨rfl, pre_mk hU hW hPc hK hDc hN⟩⟩ rfl rfl hl.1 rfl (lv_room (Nat.le_of_ble_eq_true rfl)) dX8_reduce_48 ⟨(Nat.zero_le _), (Nat.zero_le _)⟩) hS (fun q _ h => hFc q h) hFc (fun u9 t H locs ht hvm hw hB hz1 hk1 hS => ?_)
      obtain ⟨u_10, rfl⟩ : ∃ z, z = u9 := ⟨_, rfl⟩
      obtain ⟨hP1, hD1⟩ := hB
      rw [ht] at hP1
      obtain ⟨hP, hD⟩ := va_join (wr := []) (w1 := [(h_m, .inr (8, [.int v_thrown, .int v_n, .ref h_mwholes, .ref h_mparts, .int v_has, .int v_known, .ref h_mknown31, .int v_many, .ref h_mprimes, .ref h_mrests, .ref h_mrows, .ref h_mdigits, .ref h_mz, .ref h_mout, .int v_printed, .ref h_mopen])), (h_mz, .inl (cT 0, 1100, .inl u_10))]) hP hD [0, 1] [] rfl rfl (by decide) (by decide) hk1 hFc hP1 hD1
      have hP := hP.sub (ws' := [(h_m, .inr (8, [.int v_thrown, .int v_n, .ref h_mwholes, .ref h_mparts, .int v_has, .int v_known, .ref h_mknown31, .int v_many, .ref h_mprimes, .ref h_mrests, .ref h_mrows, .ref h_mdigits, .ref h_mz, .ref h_mout, .int v_printed, .ref h_mopen])), (h_mz, .inl (cT 0, 1100, .inl u_10))]) [0, 1] rfl
      have hD := hD.sub (ws' := [(h_m, .inr (8, [.int v_thrown, .int v_n, .ref h_mwholes, .ref h_mparts, .int v_has, .int v_known, .ref h_mknown31, .int v_many, .ref h_mprimes, .ref h_mrests, .ref h_mrows, .ref h_mdigits, .ref h_mz, .ref h_mout, .int v_printed, .ref h_mopen])), (h_mz, .inl (cT 0, 1100, .inl u_10))]) [0, 1] (by decide) rfl
      clear hP1 hD1 hPc hDc hFc hk1 hz1 hvm ht
      try dsimp only at hw
      refine lv_aload_n hx hb dX8_reduce_51 rfl (lv_at hl 0 rfl) ?_
      refine lv_sipush (v := 946) hx hb dX8_reduce_52 (by decide) ?_
      refine lv_sipush (v := 1012) hx hb dX8_reduce_55 (by decide) ?_
      have hPc := hP.sub (ws' := [(h_m, .inr (8, [.int v_thrown, .int v_n, .ref h_mwholes, .ref h_mparts, .int v_has, .int v_known, .ref h_mknown31, .int v_many, .ref h_mprimes, .ref h_mrests, .ref h_mrows, .ref h_mdigits, .ref h_mz, .ref h_mout, .int v_printed, .ref h_mopen])), (h_mz, .inl (cT 0, 1100, .inl u_10))]) [0, 1] rfl
      have hDc := hD.sub (ws' := [(h_m, .inr (8, [.int v_thrown, .int v_n, .ref h_mwholes, .ref h_mparts, .int v_has, .int v_known, .ref h_mknown31, .int v_many, .ref h_mprimes, .ref h_mrests, .ref h_mrows, .ref h_mdigits, .ref h_mz, .ref h_mout, .int v_printed, .ref h_mopen])), (h_mz, .inl (cT 0, 1100, .inl u_10))]) [0, 1] (by decide) rfl
      have hFc := va_free (wc := [(h_m, .inr (8, [.int v_thrown, .int v_n, .ref h_mwholes, .ref h_mparts, .int v_has, .int v_known, .ref h_mknown31, .int v_many, .ref h_mprimes, .ref h_mrests, .ref h_mrows, .ref h_mdigits, .ref h_mz, .ref h_mout, .int v_printed, .ref h_mopen])), (h_mz, .inl (cT 0, 1100, .inl u_10))]) hD hS hA [0, 1] rfl
      refine va_callv (va_runV (As := [.int 946, .int 1012]) (rest := []) ⟨hx, hb, hml, hown, hts⟩ (cn_Model_copy l D cT h_m h_mz h_mwholes h_mparts h_mknown31 h_mprimes h_mrests h_mrows h_mdigits h_mout h_mopen H.size v_thrown v_n v_has v_known v_many v_printed u_10 946 1012 _ hw) (gv_ 2 q_714 q_9 q_711 q_713 qs_31 (by decide +kernel) ⟨Nat.le_of_ble_eq_true rfl, Nat.le_of_ble_eq_true rfl⟩ hts) ⟨pre_blind, va_recv hK hPc (ci := 8) (q0 := 0) rfl rfl, fun U hU hW => ⟨rfl, pre_mk hU hW hPc hK hDc hN⟩⟩ rfl rfl hl.1 rfl (lv_room (Nat.le_of_ble_eq_true rfl)) dX8_reduce_58 ⟨(Nat.zero_le _), (Nat.zero_le _)⟩) hS (fun q _ h => hFc q h) hFc (fun u9 t H locs ht hvm hw hB hz1 hk1 hS => ?_)
      obtain ⟨u_11, rfl⟩ : ∃ z, z = u9 := ⟨_, rfl⟩
      obtain ⟨hP1, hD1⟩ := hB
      rw [ht] at hP1
      obtain ⟨hP, hD⟩ := va_join (wr := []) (w1 := [(h_m, .inr (8, [.int v_thrown, .int v_n, .ref h_mwholes, .ref h_mparts, .int v_has, .int v_known, .ref h_mknown31, .int v_many, .ref h_mprimes, .ref h_mrests, .ref h_mrows, .ref h_mdigits, .ref h_mz, .ref h_mout, .int v_printed, .ref h_mopen])), (h_mz, .inl (cT 0, 1100, .inl u_11))]) hP hD [0, 1] [] rfl rfl (by decide) (by decide) hk1 hFc hP1 hD1
      have hP := hP.sub (ws' := [(h_m, .inr (8, [.int v_thrown, .int v_n, .ref h_mwholes, .ref h_mparts, .int v_has, .int v_known, .ref h_mknown31, .int v_many, .ref h_mprimes, .ref h_mrests, .ref h_mrows, .ref h_mdigits, .ref h_mz, .ref h_mout, .int v_printed, .ref h_mopen])), (h_mz, .inl (cT 0, 1100, .inl u_11))]) [0, 1] rfl
      have hD := hD.sub (ws' := [(h_m, .inr (8, [.int v_thrown, .int v_n, .ref h_mwholes, .ref h_mparts, .int v_has, .int v_known, .ref h_mknown31, .int v_many, .ref h_mprimes, .ref h_mrests, .ref h_mrows, .ref h_mdigits, .ref h_mz, .ref h_mout, .int v_printed, .ref h_mopen])), (h_mz, .inl (cT 0, 1100, .inl u_11))]) [0, 1] (by decide) rfl
      clear hP1 hD1 hPc hDc hFc hk1 hz1 hvm ht
      try dsimp only at hw
      refine lv_goto (tgt := 21) hx hb dX8_reduce_61 (by decide) ?_
      exact ih _ _ _ _ _ hP hD hS (lv_sub hl [0, 1] rfl) hw
set_option maxHeartbeats 4000000 in
set_option maxRecDepth 100000 in
theorem tw_Model_reduce {post : (Nat → Int32) → Prop} {h_m h_mz h_mwholes h_mparts h_mknown31 h_mprimes h_mrests h_mrows h_mdigits h_mout h_mopen : Nat} {v_thrown : Int32} {v_n : Int32} {v_has : Int32} {v_known : Int32} {v_many : Int32} {v_printed : Int32}  (C0 : cx RX8 cX8_reduce 2 D cT p s m c args) (hA : ∀ q, s.heap.size ≤ q → A q) (hret : ∀ (f_z : Nat → Int32) (H : Heap) (locs : List Loc) (pc : Nat) (ls : Array Slot), post f_z → va_P D vwCl [(h_m, .inr (8, [.int v_thrown, .int v_n, .ref h_mwholes, .ref h_mparts, .int v_has, .int v_known, .ref h_mknown31, .int v_many, .ref h_mprimes, .ref h_mrests, .ref h_mrows, .ref h_mdigits, .ref h_mz, .ref h_mout, .int v_printed, .ref h_mopen])), (h_mz, .inl (cT 0, 1100, .inl f_z))] H → va_D A [(h_m, .inr (8, [.int v_thrown, .int v_n, .ref h_mwholes, .ref h_mparts, .int v_has, .int v_known, .ref h_mknown31, .int v_many, .ref h_mprimes, .ref h_mrests, .ref h_mrows, .ref h_mdigits, .ref h_mz, .ref h_mout, .int v_printed, .ref h_mopen])), (h_mz, .inl (cT 0, 1100, .inl f_z))] → va_S A s.heap H locs → decode cX8_reduce pc = .ok (.return_, 1) → W p l e ({ frames := 2, cells := 0, slots := 0, locals := 51 } : Room) s m args below meth c H locs 0 0 Q (F0 m pc ls []))  : ∀ (x1 : Int32) (f_z : Nat → Int32) (H : Heap) (locs : List Loc) (ls : Array Slot), va_P D vwCl [(h_m, .inr (8, [.int v_thrown, .int v_n, .ref h_mwholes, .ref h_mparts, .int v_has, .int v_known, .ref h_mknown31, .int v_many, .ref h_mprimes, .ref h_mrests, .ref h_mrows, .ref h_mdigits, .ref h_mz, .ref h_mout, .int v_printed, .ref h_mopen])), (h_mz, .inl (cT 0, 1100, .inl f_z))] H → va_D A [(h_m, .inr (8, [.int v_thrown, .int v_n, .ref h_mwholes, .ref h_mparts, .int v_has, .int v_known, .ref h_mknown31, .int v_many, .ref h_mprimes, .ref h_mrests, .ref h_mrows, .ref h_mdigits, .ref h_mz, .ref h_mout, .int v_printed, .ref h_mopen])), (h_mz, .inl (cT 0, 1100, .inl f_z))] → va_S A s.heap H locs → lv_has ls 2 [(0, .ref h_m), (1, .int x1)] → wp_Model_reduce post v_thrown v_n v_has v_known v_many v_printed x1 f_z → W p l e ({ frames := 2, cells := 0, slots := 0, locals := 51 } : Room) s m args below meth c H locs 0 0 Q (F0 m 0 ls []) := by
  obtain ⟨⟨hx, hb, hml, hown, hts⟩, hK, hN⟩ := id C0
  intro x1 f_z H locs ls hP hD hS hl hw
  unfold wp_Model_reduce at hw
  refine lv_aload_n hx hb dX8_reduce_0 rfl (lv_at hl 0 rfl) ?_
  refine lv_sipush (v := 946) hx hb dX8_reduce_1 (by decide) ?_
  refine lv_bipush (v := 22) hx hb dX8_reduce_4 (by decide) ?_
  refine lv_iload_n hx hb dX8_reduce_6 rfl (lv_at hl 1 rfl) ?_
  refine lv_imul hx hb dX8_reduce_7 ?_
  have hPc := hP.sub (ws' := [(h_m, .inr (8, [.int v_thrown, .int v_n, .ref h_mwholes, .ref h_mparts, .int v_has, .int v_known, .ref h_mknown31, .int v_many, .ref h_mprimes, .ref h_mrests, .ref h_mrows, .ref h_mdigits, .ref h_mz, .ref h_mout, .int v_printed, .ref h_mopen])), (h_mz, .inl (cT 0, 1100, .inl f_z))]) [0, 1] rfl
  have hDc := hD.sub (ws' := [(h_m, .inr (8, [.int v_thrown, .int v_n, .ref h_mwholes, .ref h_mparts, .int v_has, .int v_known, .ref h_mknown31, .int v_many, .ref h_mprimes, .ref h_mrests, .ref h_mrows, .ref h_mdigits, .ref h_mz, .ref h_mout, .int v_printed, .ref h_mopen])), (h_mz, .inl (cT 0, 1100, .inl f_z))]) [0, 1] (by decide) rfl
  have hFc := va_free (wc := [(h_m, .inr (8, [.int v_thrown, .int v_n, .ref h_mwholes, .ref h_mparts, .int v_has, .int v_known, .ref h_mknown31, .int v_many, .ref h_mprimes, .ref h_mrests, .ref h_mrows, .ref h_mdigits, .ref h_mz, .ref h_mout, .int v_printed, .ref h_mopen])), (h_mz, .inl (cT 0, 1100, .inl f_z))]) hD hS hA [0, 1] rfl
  refine va_callv (va_runV (As := [.int 946, .int (22 * x1)]) (rest := []) ⟨hx, hb, hml, hown, hts⟩ (cn_Model_copy l D cT h_m h_mz h_mwholes h_mparts h_mknown31 h_mprimes h_mrests h_mrows h_mdigits h_mout h_mopen H.size v_thrown v_n v_has v_known v_many v_printed f_z 946 (22 * x1) _ hw) (gv_ 2 q_714 q_9 q_711 q_713 qs_31 (by decide +kernel) ⟨Nat.le_of_ble_eq_true rfl, Nat.le_of_ble_eq_true rfl⟩ hts) ⟨pre_blind, va_recv hK hPc (ci := 8) (q0 := 0) rfl rfl, fun U hU hW => ⟨rfl, pre_mk hU hW hPc hK hDc hN⟩⟩ rfl rfl hl.1 rfl (lv_room (Nat.le_of_ble_eq_true rfl)) dX8_reduce_8 ⟨(Nat.zero_le _), (Nat.zero_le _)⟩) hS (fun q _ h => hFc q h) hFc (fun u9 t H locs ht hvm hw hB hz1 hk1 hS => ?_)
  obtain ⟨u_1, rfl⟩ : ∃ z, z = u9 := ⟨_, rfl⟩
  obtain ⟨hP1, hD1⟩ := hB
  rw [ht] at hP1
  obtain ⟨hP, hD⟩ := va_join (wr := []) (w1 := [(h_m, .inr (8, [.int v_thrown, .int v_n, .ref h_mwholes, .ref h_mparts, .int v_has, .int v_known, .ref h_mknown31, .int v_many, .ref h_mprimes, .ref h_mrests, .ref h_mrows, .ref h_mdigits, .ref h_mz, .ref h_mout, .int v_printed, .ref h_mopen])), (h_mz, .inl (cT 0, 1100, .inl u_1))]) hP hD [0, 1] [] rfl rfl (by decide) (by decide) hk1 hFc hP1 hD1
  have hP := hP.sub (ws' := [(h_m, .inr (8, [.int v_thrown, .int v_n, .ref h_mwholes, .ref h_mparts, .int v_has, .int v_known, .ref h_mknown31, .int v_many, .ref h_mprimes, .ref h_mrests, .ref h_mrows, .ref h_mdigits, .ref h_mz, .ref h_mout, .int v_printed, .ref h_mopen])), (h_mz, .inl (cT 0, 1100, .inl u_1))]) [0, 1] rfl
  have hD := hD.sub (ws' := [(h_m, .inr (8, [.int v_thrown, .int v_n, .ref h_mwholes, .ref h_mparts, .int v_has, .int v_known, .ref h_mknown31, .int v_many, .ref h_mprimes, .ref h_mrests, .ref h_mrows, .ref h_mdigits, .ref h_mz, .ref h_mout, .int v_printed, .ref h_mopen])), (h_mz, .inl (cT 0, 1100, .inl u_1))]) [0, 1] (by decide) rfl
  clear hP1 hD1 hPc hDc hFc hk1 hz1 hvm ht
  try dsimp only at hw
  refine lv_aload_n hx hb dX8_reduce_11 rfl (lv_at hl 0 rfl) ?_
  refine lv_sipush (v := 968) hx hb dX8_reduce_12 (by decide) ?_
  refine lv_sipush (v := 880) hx hb dX8_reduce_15 (by decide) ?_
  have hPc := hP.sub (ws' := [(h_m, .inr (8, [.int v_thrown, .int v_n, .ref h_mwholes, .ref h_mparts, .int v_has, .int v_known, .ref h_mknown31, .int v_many, .ref h_mprimes, .ref h_mrests, .ref h_mrows, .ref h_mdigits, .ref h_mz, .ref h_mout, .int v_printed, .ref h_mopen])), (h_mz, .inl (cT 0, 1100, .inl u_1))]) [0, 1] rfl
  have hDc := hD.sub (ws' := [(h_m, .inr (8, [.int v_thrown, .int v_n, .ref h_mwholes, .ref h_mparts, .int v_has, .int v_known, .ref h_mknown31, .int v_many, .ref h_mprimes, .ref h_mrests, .ref h_mrows, .ref h_mdigits, .ref h_mz, .ref h_mout, .int v_printed, .ref h_mopen])), (h_mz, .inl (cT 0, 1100, .inl u_1))]) [0, 1] (by decide) rfl
  have hFc := va_free (wc := [(h_m, .inr (8, [.int v_thrown, .int v_n, .ref h_mwholes, .ref h_mparts, .int v_has, .int v_known, .ref h_mknown31, .int v_many, .ref h_mprimes, .ref h_mrests, .ref h_mrows, .ref h_mdigits, .ref h_mz, .ref h_mout, .int v_printed, .ref h_mopen])), (h_mz, .inl (cT 0, 1100, .inl u_1))]) hD hS hA [0, 1] rfl
  refine va_callv (va_runV (As := [.int 968, .int 880]) (rest := []) ⟨hx, hb, hml, hown, hts⟩ (cn_Model_copy l D cT h_m h_mz h_mwholes h_mparts h_mknown31 h_mprimes h_mrests h_mrows h_mdigits h_mout h_mopen H.size v_thrown v_n v_has v_known v_many v_printed u_1 968 880 _ hw) (gv_ 2 q_714 q_9 q_711 q_713 qs_31 (by decide +kernel) ⟨Nat.le_of_ble_eq_true rfl, Nat.le_of_ble_eq_true rfl⟩ hts) ⟨pre_blind, va_recv hK hPc (ci := 8) (q0 := 0) rfl rfl, fun U hU hW => ⟨rfl, pre_mk hU hW hPc hK hDc hN⟩⟩ rfl rfl hl.1 rfl (lv_room (Nat.le_of_ble_eq_true rfl)) dX8_reduce_18 ⟨(Nat.zero_le _), (Nat.zero_le _)⟩) hS (fun q _ h => hFc q h) hFc (fun u9 t H locs ht hvm hw hB hz1 hk1 hS => ?_)
  obtain ⟨u_2, rfl⟩ : ∃ z, z = u9 := ⟨_, rfl⟩
  obtain ⟨hP1, hD1⟩ := hB
  rw [ht] at hP1
  obtain ⟨hP, hD⟩ := va_join (wr := []) (w1 := [(h_m, .inr (8, [.int v_thrown, .int v_n, .ref h_mwholes, .ref h_mparts, .int v_has, .int v_known, .ref h_mknown31, .int v_many, .ref h_mprimes, .ref h_mrests, .ref h_mrows, .ref h_mdigits, .ref h_mz, .ref h_mout, .int v_printed, .ref h_mopen])), (h_mz, .inl (cT 0, 1100, .inl u_2))]) hP hD [0, 1] [] rfl rfl (by decide) (by decide) hk1 hFc hP1 hD1
  have hP := hP.sub (ws' := [(h_m, .inr (8, [.int v_thrown, .int v_n, .ref h_mwholes, .ref h_mparts, .int v_has, .int v_known, .ref h_mknown31, .int v_many, .ref h_mprimes, .ref h_mrests, .ref h_mrows, .ref h_mdigits, .ref h_mz, .ref h_mout, .int v_printed, .ref h_mopen])), (h_mz, .inl (cT 0, 1100, .inl u_2))]) [0, 1] rfl
  have hD := hD.sub (ws' := [(h_m, .inr (8, [.int v_thrown, .int v_n, .ref h_mwholes, .ref h_mparts, .int v_has, .int v_known, .ref h_mknown31, .int v_many, .ref h_mprimes, .ref h_mrests, .ref h_mrows, .ref h_mdigits, .ref h_mz, .ref h_mout, .int v_printed, .ref h_mopen])), (h_mz, .inl (cT 0, 1100, .inl u_2))]) [0, 1] (by decide) rfl
  clear hP1 hD1 hPc hDc hFc hk1 hz1 hvm ht
  try dsimp only at hw
  obtain ⟨n9, hw⟩ := hw
  exact tw_Model_reduce_21 C0 hA hret  n9 _ _ _ _ _ hP hD hS (lv_sub hl [0, 1] rfl) hw
set_option maxHeartbeats 4000000 in
set_option maxRecDepth 100000 in
theorem cn_Model_reduce (l : Launch) (D : va_G) (cT : Nat → ClassId) (h_m h_mz h_mwholes h_mparts h_mknown31 h_mprimes h_mrests h_mrows h_mdigits h_mout h_mopen : Nat) (sz : Nat) (v_thrown : Int32) (v_n : Int32) (v_has : Int32) (v_known : Int32) (v_many : Int32) (v_printed : Int32) (f_z : Nat → Int32) (x1 : Int32) (post : (Nat → Int32) → Prop) (hw : wp_Model_reduce post v_thrown v_n v_has v_known v_many v_printed x1 f_z) : Met l yX8_reduce wX8_reduce ({ frames := 2, cells := 0, slots := 0, locals := 51 } : Room) (va_Pc [.ref h_m, .int x1] (pre_ D cT [(h_m, .inr (8, [.int v_thrown, .int v_n, .ref h_mwholes, .ref h_mparts, .int v_has, .int v_known, .ref h_mknown31, .int v_many, .ref h_mprimes, .ref h_mrests, .ref h_mrows, .ref h_mdigits, .ref h_mz, .ref h_mout, .int v_printed, .ref h_mopen])), (h_mz, .inl (cT 0, 1100, .inl f_z))] sz)) (va_Qv (fun (u : (Nat → Int32)) => post u) (fun u t => va_P D vwCl [(h_m, .inr (8, [.int v_thrown, .int v_n, .ref h_mwholes, .ref h_mparts, .int v_has, .int v_known, .ref h_mknown31, .int v_many, .ref h_mprimes, .ref h_mrests, .ref h_mrows, .ref h_mdigits, .ref h_mz, .ref h_mout, .int v_printed, .ref h_mopen])), (h_mz, .inl (cT 0, 1100, .inl u))] t.heap ∧ va_D (va_A [(h_m, .inr (8, [.int v_thrown, .int v_n, .ref h_mwholes, .ref h_mparts, .int v_has, .int v_known, .ref h_mknown31, .int v_many, .ref h_mprimes, .ref h_mrests, .ref h_mrows, .ref h_mdigits, .ref h_mz, .ref h_mout, .int v_printed, .ref h_mopen])), (h_mz, .inl (cT 0, 1100, .inl f_z))] sz) [(h_m, .inr (8, [.int v_thrown, .int v_n, .ref h_mwholes, .ref h_mparts, .int v_has, .int v_known, .ref h_mknown31, .int v_many, .ref h_mprimes, .ref h_mrests, .ref h_mrows, .ref h_mdigits, .ref h_mz, .ref h_mout, .int v_printed, .ref h_mopen])), (h_mz, .inl (cT 0, 1100, .inl u))]) (va_A [(h_m, .inr (8, [.int v_thrown, .int v_n, .ref h_mwholes, .ref h_mparts, .int v_has, .int v_known, .ref h_mknown31, .int v_many, .ref h_mprimes, .ref h_mrests, .ref h_mrows, .ref h_mdigits, .ref h_mz, .ref h_mout, .int v_printed, .ref h_mopen])), (h_mz, .inl (cT 0, 1100, .inl f_z))] sz)) 0 0 (va_A [(h_m, .inr (8, [.int v_thrown, .int v_n, .ref h_mwholes, .ref h_mparts, .int v_has, .int v_known, .ref h_mknown31, .int v_many, .ref h_mprimes, .ref h_mrests, .ref h_mrows, .ref h_mdigits, .ref h_mz, .ref h_mout, .int v_printed, .ref h_mopen])), (h_mz, .inl (cT 0, 1100, .inl f_z))] sz) := by
  refine Met.ofW (cc := cX8_reduce) (maxL := 2) (ret := none) (by decide) rfl ?_
  intro p e s m args below meth c s₁ B hml hv
  obtain ⟨rfl, hsz, hP, hK, hD0, hN⟩ := hv
  have hx := B.exec
  have hb := B.bytes
  have hr := B.returns
  have hts : ∀ w ∈ WG, w.before _ s = true := fun w h => atoms_spec (ws := wX8_reduce) B.pre w (List.mem_cons_of_mem _ h)
  have hown : s.vm.findClass RX8 = some m.cls := findClass_of_methodNamed B.named
  have hlocks := B.notSynchronized
  subst hsz
  have hD := hD0.self (sz := s.heap.size)
  generalize hAe : va_A [(h_m, .inr (8, [.int v_thrown, .int v_n, .ref h_mwholes, .ref h_mparts, .int v_has, .int v_known, .ref h_mknown31, .int v_many, .ref h_mprimes, .ref h_mrests, .ref h_mrows, .ref h_mdigits, .ref h_mz, .ref h_mout, .int v_printed, .ref h_mopen])), (h_mz, .inl (cT 0, 1100, .inl f_z))] s.heap.size = A at hD ⊢
  have hA : ∀ q : Nat, s.heap.size ≤ q → A q := fun q h => by rw [← hAe]; exact Or.inr h
  have hS : va_S A s.heap s.heap [] := va_S.rf
  have hl := lv_entry ([.ref h_m, .int x1]) (n := 2) (Nat.le_of_ble_eq_true rfl)
  rw [lg_entry_eq]
  generalize (lg_sl ([.ref h_m, .int x1]) ++ List.replicate (2 - (lg_sl ([.ref h_m, .int x1])).length) Slot.unset).toArray = ls at hl ⊢
  refine tw_Model_reduce (Q := MQ below _ _ s 0 0 A) ⟨⟨hx, hb, hml, hown, hts⟩, hK, hN⟩ hA (fun f_z H locs pc ls hp hP hD hS hd => W.vret hx hb hr (fun t ht hW => ⟨⟨(f_z), rfl, hp, by rw [ht]; exact hP, hD⟩, hS.F ht⟩) hS.2.2 hd) _ _ _ _ _ hP hD hS hl hw
end
def wp_Model_figures_122 (post : Int32 → (Nat → Int32) → (Nat → Int32) → Prop) (v_thrown : Int32) (v_n : Int32) (v_has : Int32) (v_known : Int32) (v_many : Int32) (v_printed : Int32)  : Nat → Int32 → Int32 → Int32 → (Nat → Int32) → (Nat → Int32) → Prop
  | 0 => fun _ _ _ _ _ => False
  | n + 1 => fun x2 x3 x5 f_z f_out => (((x3 - 1) ≤ (2 * x5) → (post (x2 + x3) f_z f_out)) ∧ (¬ (x3 - 1) ≤ (2 * x5) → ((vp_in (x2 + x5) 320 ∧ (∀ x6_5 : Int32, x6_5 = f_out (x2 + x5).toNatClampNeg → (vp_in (((x2 + x3) - 1) - x5) 320 ∧ ((vp_in (x2 + x5) 320 ∧ ((vp_in (((x2 + x3) - 1) - x5) 320 ∧ (∀ x5_9 : Int32, x5_9 = x5 + 1 → wp_Model_figures_122 post v_thrown v_n v_has v_known v_many v_printed n x2 x3 x5_9 f_z (upd (upd f_out (x2 + x5).toNatClampNeg (f_out (((x2 + x3) - 1) - x5).toNatClampNeg)) (((x2 + x3) - 1) - x5).toNatClampNeg x6_5))))))))))))
def wp_Model_figures_114 (post : Int32 → (Nat → Int32) → (Nat → Int32) → Prop) (v_thrown : Int32) (v_n : Int32) (v_has : Int32) (v_known : Int32) (v_many : Int32) (v_printed : Int32) (K13 : Int32 → Int32 → Int32 → (Nat → Int32) → (Nat → Int32) → Prop) (x2 : Int32) (x3 : Int32) (y0 : Int32) (f_z : Nat → Int32) (f_out : Nat → Int32) : Prop := K13 x2 x3 y0 f_z f_out
def wp_Model_figures_25 (post : Int32 → (Nat → Int32) → (Nat → Int32) → Prop) (v_thrown : Int32) (v_n : Int32) (v_has : Int32) (v_known : Int32) (v_many : Int32) (v_printed : Int32) (K13 : Int32 → Int32 → Int32 → (Nat → Int32) → (Nat → Int32) → Prop) : Nat → Int32 → Int32 → Int64 → Int32 → (Nat → Int32) → (Nat → Int32) → Prop
  | 0 => fun _ _ _ _ _ _ => False
  | n + 1 => fun x2 x3 x5 x7 f_z f_out => ((x7 < 0 → ((vp_in (x2 + x3) 320 ∧ (∀ x3_12 : Int32, x3_12 = x3 + 1 → wp_Model_isZero (fun r_13 => ((r_13 = 0 → (wp_Model_figures_114 post v_thrown v_n v_has v_known v_many v_printed K13 x2 x3_12 1 f_z (upd f_out (x2 + x3).toNatClampNeg (48 + x5.toInt32)))) ∧ (¬ r_13 = 0 → (wp_Model_figures_114 post v_thrown v_n v_has v_known v_many v_printed K13 x2 x3_12 0 f_z (upd f_out (x2 + x3).toNatClampNeg (48 + x5.toInt32)))))) v_thrown v_n v_has v_known v_many v_printed f_z 946)))) ∧ (¬ x7 < 0 → ((vp_in (946 + x7) 1100 ∧ (∀ x5_16 : Int64, x5_16 = (x5 <<< ((24 : Int32).toInt64 &&& 63)) ||| ((f_z (946 + x7).toNatClampNeg).toInt64) → (vp_in (946 + x7) 1100 ∧ (∀ x5_18 : Int64, x5_18 = x5_16 - x5_16 / 10 * 10 → ∀ x7_19 : Int32, x7_19 = x7 + (-1) → wp_Model_figures_25 post v_thrown v_n v_has v_known v_many v_printed K13 n x2 x3 x5_18 x7_19 (upd f_z (946 + x7).toNatClampNeg ((x5_16 / 10).toInt32)) f_out)))))))
def wp_Model_figures_13 (post : Int32 → (Nat → Int32) → (Nat → Int32) → Prop) (v_thrown : Int32) (v_n : Int32) (v_has : Int32) (v_known : Int32) (v_many : Int32) (v_printed : Int32)  : Nat → Int32 → Int32 → Int32 → (Nat → Int32) → (Nat → Int32) → Prop
  | 0 => fun _ _ _ _ _ => False
  | n + 1 => fun x2 x3 x4 f_z f_out => ((x4 = 0 → (∃ k9, wp_Model_figures_122 post v_thrown v_n v_has v_known v_many v_printed k9 x2 x3 0 f_z f_out)) ∧ (¬ x4 = 0 → (∃ k9, wp_Model_figures_25 post v_thrown v_n v_has v_known v_many v_printed (wp_Model_figures_13 post v_thrown v_n v_has v_known v_many v_printed n) k9 x2 x3 0 21 f_z f_out)))
def wp_Model_figures (post : Int32 → (Nat → Int32) → (Nat → Int32) → Prop) (v_thrown : Int32) (v_n : Int32) (v_has : Int32) (v_known : Int32) (v_many : Int32) (v_printed : Int32)  (x1 : Int32) (x2 : Int32) (f_z : Nat → Int32) (f_out : Nat → Int32) : Prop := wp_Model_copy (fun u_1 => ∃ k9, wp_Model_figures_13 post v_thrown v_n v_has v_known v_many v_printed k9 x2 0 1 u_1 f_out) v_thrown v_n v_has v_known v_many v_printed 946 x1 f_z
section
variable {p : Program} {l : Launch} {e : Env} {s : State} {m : MethodId} {args : Array Value} {below : List Frame} {meth : Method} {c : Code} {Q : State → Prop} {A : Nat → Prop} {D : va_G} {cT : Nat → ClassId}
set_option maxHeartbeats 4000000 in
set_option maxRecDepth 100000 in
theorem tw_Model_figures_122 {post : Int32 → (Nat → Int32) → (Nat → Int32) → Prop} {h_m h_mz h_mout h_mwholes h_mparts h_mknown31 h_mprimes h_mrests h_mrows h_mdigits h_mopen : Nat} {v_thrown : Int32} {v_n : Int32} {v_has : Int32} {v_known : Int32} {v_many : Int32} {v_printed : Int32}  (C0 : cx RX8 cX8_figures 8 D cT p s m c args) (hA : ∀ q, s.heap.size ≤ q → A q) (hret : ∀ (r : Int32) (f_z : Nat → Int32) (f_out : Nat → Int32) (H : Heap) (locs : List Loc) (pc : Nat) (ls : Array Slot), post r f_z f_out → va_P D vwCl [(h_m, .inr (8, [.int v_thrown, .int v_n, .ref h_mwholes, .ref h_mparts, .int v_has, .int v_known, .ref h_mknown31, .int v_many, .ref h_mprimes, .ref h_mrests, .ref h_mrows, .ref h_mdigits, .ref h_mz, .ref h_mout, .int v_printed, .ref h_mopen])), (h_mz, .inl (cT 0, 1100, .inl f_z)), (h_mout, .inl (cT 0, 320, .inl f_out))] H → va_D A [(h_m, .inr (8, [.int v_thrown, .int v_n, .ref h_mwholes, .ref h_mparts, .int v_has, .int v_known, .ref h_mknown31, .int v_many, .ref h_mprimes, .ref h_mrests, .ref h_mrows, .ref h_mdigits, .ref h_mz, .ref h_mout, .int v_printed, .ref h_mopen])), (h_mz, .inl (cT 0, 1100, .inl f_z)), (h_mout, .inl (cT 0, 320, .inl f_out))] → va_S A s.heap H locs → decode cX8_figures pc = .ok (.ireturn, 1) → W p l e ({ frames := 1, cells := 0, slots := 0, locals := 23 } : Room) s m args below meth c H locs 0 0 Q (F0 m pc ls [.int r]))  : ∀ (n : Nat) (x2 : Int32) (x3 : Int32) (x5 : Int32) (f_z : Nat → Int32) (f_out : Nat → Int32) (H : Heap) (locs : List Loc) (ls : Array Slot), va_P D vwCl [(h_m, .inr (8, [.int v_thrown, .int v_n, .ref h_mwholes, .ref h_mparts, .int v_has, .int v_known, .ref h_mknown31, .int v_many, .ref h_mprimes, .ref h_mrests, .ref h_mrows, .ref h_mdigits, .ref h_mz, .ref h_mout, .int v_printed, .ref h_mopen])), (h_mz, .inl (cT 0, 1100, .inl f_z)), (h_mout, .inl (cT 0, 320, .inl f_out))] H → va_D A [(h_m, .inr (8, [.int v_thrown, .int v_n, .ref h_mwholes, .ref h_mparts, .int v_has, .int v_known, .ref h_mknown31, .int v_many, .ref h_mprimes, .ref h_mrests, .ref h_mrows, .ref h_mdigits, .ref h_mz, .ref h_mout, .int v_printed, .ref h_mopen])), (h_mz, .inl (cT 0, 1100, .inl f_z)), (h_mout, .inl (cT 0, 320, .inl f_out))] → va_S A s.heap H locs → lv_has ls 8 [(0, .ref h_m), (2, .int x2), (3, .int x3), (5, .int x5)] → wp_Model_figures_122 post v_thrown v_n v_has v_known v_many v_printed n x2 x3 x5 f_z f_out → W p l e ({ frames := 1, cells := 0, slots := 0, locals := 23 } : Room) s m args below meth c H locs 0 0 Q (F0 m 122 ls []) := by
  obtain ⟨⟨hx, hb, hml, hown, hts⟩, hK, hN⟩ := id C0
  intro n
  induction n with
  | zero => intro x2 x3 x5 f_z f_out H locs ls hP hD hS hl hw; exact hw.elim
  | succ n ih =>
    intro x2 x3 x5 f_z f_out H locs ls hP hD hS hl hw
    unfold wp_Model_figures_122 at hw
    refine lv_iconst (v := 2) hx hb dX8_figures_122 (by decide) ?_
    refine lv_iload hx hb dX8_figures_123 (lv_at hl 3 rfl) ?_
    refine lv_imul hx hb dX8_figures_125 ?_
    refine lv_iload_n hx hb dX8_figures_126 rfl (lv_at hl 2 rfl) ?_
    refine lv_iconst (v := 1) hx hb dX8_figures_127 (by decide) ?_
    refine lv_isub hx hb dX8_figures_128 ?_
    refine lv_icmp_ge (tgt := 186) hx hb dX8_figures_129 (by decide) (fun c_3 => ?_) (fun c_3 => ?_)
    · have hw := hw.1 c_3
      refine lv_iload_n hx hb dX8_figures_186 rfl (lv_at hl 1 rfl) ?_
      refine lv_iload_n hx hb dX8_figures_187 rfl (lv_at hl 2 rfl) ?_
      refine lv_iadd hx hb dX8_figures_188 ?_
      exact hret _ _ _ _ _ _ _ hw hP hD hS dX8_figures_189
    · have hw := hw.2 c_3
      refine lv_aload_n hx hb dX8_figures_132 rfl (lv_at hl 0 rfl) ?_
      refine va_get (D := D) (ci := 8) (v := .ref h_mout) (C := RX8) (T := TX8) (N := 16) hx hb hts inX8 hown hK hP 0 rfl rfl 13 (by decide) (hts _ q_596) (fun _ h9 => h9) rfl dX8_figures_133 ?_
      refine lv_iload_n hx hb dX8_figures_136 rfl (lv_at hl 1 rfl) ?_
      refine lv_iload hx hb dX8_figures_137 (lv_at hl 3 rfl) ?_
      refine lv_iadd hx hb dX8_figures_139 ?_
      obtain ⟨h_4, hw⟩ := hw
      refine va_iald hx hb hK hP 2 0 rfl rfl h_4 dX8_figures_140 ?_
      refine lv_topi (fun x6_5 ex6_5 => ?_)
      have hw := hw x6_5 ex6_5
      refine lv_istore (lv' := [(6, .int x6_5), (0, .ref h_m), (2, .int x2), (3, .int x3), (5, .int x5)]) hx hb dX8_figures_141 hl (by decide) rfl (fun ls hl => ?_)
      refine lv_aload_n hx hb dX8_figures_143 rfl (lv_at hl 1 rfl) ?_
      refine va_get (D := D) (ci := 8) (v := .ref h_mout) (C := RX8) (T := TX8) (N := 16) hx hb hts inX8 hown hK hP 0 rfl rfl 13 (by decide) (hts _ q_596) (fun _ h9 => h9) rfl dX8_figures_144 ?_
      refine lv_iload_n hx hb dX8_figures_147 rfl (lv_at hl 2 rfl) ?_
      refine lv_iload hx hb dX8_figures_148 (lv_at hl 4 rfl) ?_
      refine lv_iadd hx hb dX8_figures_150 ?_
      refine lv_aload_n hx hb dX8_figures_151 rfl (lv_at hl 1 rfl) ?_
      refine va_get (D := D) (ci := 8) (v := .ref h_mout) (C := RX8) (T := TX8) (N := 16) hx hb hts inX8 hown hK hP 0 rfl rfl 13 (by decide) (hts _ q_596) (fun _ h9 => h9) rfl dX8_figures_152 ?_
      refine lv_iload_n hx hb dX8_figures_155 rfl (lv_at hl 2 rfl) ?_
      refine lv_iload_n hx hb dX8_figures_156 rfl (lv_at hl 3 rfl) ?_
      refine lv_iadd hx hb dX8_figures_157 ?_
      refine lv_iconst (v := 1) hx hb dX8_figures_158 (by decide) ?_
      refine lv_isub hx hb dX8_figures_159 ?_
      refine lv_iload hx hb dX8_figures_160 (lv_at hl 4 rfl) ?_
      refine lv_isub hx hb dX8_figures_162 ?_
      obtain ⟨h_6, hw⟩ := hw
      refine va_iald hx hb hK hP 2 0 rfl rfl h_6 dX8_figures_163 ?_
      obtain ⟨h_7, hw⟩ := hw
      refine va_iast hx hb hK hP hD hS 2 0 rfl rfl h_7 dX8_figures_164 (fun H locs hP hD hS => ?_)
      have hP : va_P D vwCl [(h_m, .inr (8, [.int v_thrown, .int v_n, .ref h_mwholes, .ref h_mparts, .int v_has, .int v_known, .ref h_mknown31, .int v_many, .ref h_mprimes, .ref h_mrests, .ref h_mrows, .ref h_mdigits, .ref h_mz, .ref h_mout, .int v_printed, .ref h_mopen])), (h_mz, .inl (cT 0, 1100, .inl f_z)), (h_mout, .inl (cT 0, 320, .inl (upd f_out (x2 + x5).toNatClampNeg (f_out (((x2 + x3) - 1) - x5).toNatClampNeg))))] H := hP
      have hD : va_D A [(h_m, .inr (8, [.int v_thrown, .int v_n, .ref h_mwholes, .ref h_mparts, .int v_has, .int v_known, .ref h_mknown31, .int v_many, .ref h_mprimes, .ref h_mrests, .ref h_mrows, .ref h_mdigits, .ref h_mz, .ref h_mout, .int v_printed, .ref h_mopen])), (h_mz, .inl (cT 0, 1100, .inl f_z)), (h_mout, .inl (cT 0, 320, .inl (upd f_out (x2 + x5).toNatClampNeg (f_out (((x2 + x3) - 1) - x5).toNatClampNeg))))] := hD
      refine lv_aload_n hx hb dX8_figures_165 rfl (lv_at hl 1 rfl) ?_
      refine va_get (D := D) (ci := 8) (v := .ref h_mout) (C := RX8) (T := TX8) (N := 16) hx hb hts inX8 hown hK hP 0 rfl rfl 13 (by decide) (hts _ q_596) (fun _ h9 => h9) rfl dX8_figures_166 ?_
      refine lv_iload_n hx hb dX8_figures_169 rfl (lv_at hl 2 rfl) ?_
      refine lv_iload_n hx hb dX8_figures_170 rfl (lv_at hl 3 rfl) ?_
      refine lv_iadd hx hb dX8_figures_171 ?_
      refine lv_iconst (v := 1) hx hb dX8_figures_172 (by decide) ?_
      refine lv_isub hx hb dX8_figures_173 ?_
      refine lv_iload hx hb dX8_figures_174 (lv_at hl 4 rfl) ?_
      refine lv_isub hx hb dX8_figures_176 ?_
      refine lv_iload hx hb dX8_figures_177 (lv_at hl 0 rfl) ?_
      obtain ⟨h_8, hw⟩ := hw
      refine va_iast hx hb hK hP hD hS 2 0 rfl rfl h_8 dX8_figures_179 (fun H locs hP hD hS => ?_)
      have hP : va_P D vwCl [(h_m, .inr (8, [.int v_thrown, .int v_n, .ref h_mwholes, .ref h_mparts, .int v_has, .int v_known, .ref h_mknown31, .int v_many, .ref h_mprimes, .ref h_mrests, .ref h_mrows, .ref h_mdigits, .ref h_mz, .ref h_mout, .int v_printed, .ref h_mopen])), (h_mz, .inl (cT 0, 1100, .inl f_z)), (h_mout, .inl (cT 0, 320, .inl (upd (upd f_out (x2 + x5).toNatClampNeg (f_out (((x2 + x3) - 1) - x5).toNatClampNeg)) (((x2 + x3) - 1) - x5).toNatClampNeg x6_5)))] H := hP
      have hD : va_D A [(h_m, .inr (8, [.int v_thrown, .int v_n, .ref h_mwholes, .ref h_mparts, .int v_has, .int v_known, .ref h_mknown31, .int v_many, .ref h_mprimes, .ref h_mrests, .ref h_mrows, .ref h_mdigits, .ref h_mz, .ref h_mout, .int v_printed, .ref h_mopen])), (h_mz, .inl (cT 0, 1100, .inl f_z)), (h_mout, .inl (cT 0, 320, .inl (upd (upd f_out (x2 + x5).toNatClampNeg (f_out (((x2 + x3) - 1) - x5).toNatClampNeg)) (((x2 + x3) - 1) - x5).toNatClampNeg x6_5)))] := hD
      obtain ⟨x5_9, ex5_9⟩ : ∃ y : Int32, y = x5 + 1 := ⟨_, rfl⟩
      refine lv_iinc (v := x5_9) (lv' := [(5, .int x5_9), (6, .int x6_5), (0, .ref h_m), (2, .int x2), (3, .int x3)]) hx hb dX8_figures_180 hl (k := 4) rfl (by rw [ex5_9]; rfl) (by decide) rfl (fun ls hl => ?_)
      have hw := hw x5_9 ex5_9
      refine lv_goto (tgt := 122) hx hb dX8_figures_183 (by decide) ?_
      exact ih _ _ _ _ _ _ _ _ hP hD hS (lv_sub hl [2, 3, 4, 0] rfl) hw
set_option maxHeartbeats 4000000 in
set_option maxRecDepth 100000 in
theorem tw_Model_figures_114 {post : Int32 → (Nat → Int32) → (Nat → Int32) → Prop} {h_m h_mz h_mout h_mwholes h_mparts h_mknown31 h_mprimes h_mrests h_mrows h_mdigits h_mopen : Nat} {v_thrown : Int32} {v_n : Int32} {v_has : Int32} {v_known : Int32} {v_many : Int32} {v_printed : Int32} {K13 : Int32 → Int32 → Int32 → (Nat → Int32) → (Nat → Int32) → Prop} (C0 : cx RX8 cX8_figures 8 D cT p s m c args) (hA : ∀ q, s.heap.size ≤ q → A q) (hret : ∀ (r : Int32) (f_z : Nat → Int32) (f_out : Nat → Int32) (H : Heap) (locs : List Loc) (pc : Nat) (ls : Array Slot), post r f_z f_out → va_P D vwCl [(h_m, .inr (8, [.int v_thrown, .int v_n, .ref h_mwholes, .ref h_mparts, .int v_has, .int v_known, .ref h_mknown31, .int v_many, .ref h_mprimes, .ref h_mrests, .ref h_mrows, .ref h_mdigits, .ref h_mz, .ref h_mout, .int v_printed, .ref h_mopen])), (h_mz, .inl (cT 0, 1100, .inl f_z)), (h_mout, .inl (cT 0, 320, .inl f_out))] H → va_D A [(h_m, .inr (8, [.int v_thrown, .int v_n, .ref h_mwholes, .ref h_mparts, .int v_has, .int v_known, .ref h_mknown31, .int v_many, .ref h_mprimes, .ref h_mrests, .ref h_mrows, .ref h_mdigits, .ref h_mz, .ref h_mout, .int v_printed, .ref h_mopen])), (h_mz, .inl (cT 0, 1100, .inl f_z)), (h_mout, .inl (cT 0, 320, .inl f_out))] → va_S A s.heap H locs → decode cX8_figures pc = .ok (.ireturn, 1) → W p l e ({ frames := 1, cells := 0, slots := 0, locals := 23 } : Room) s m args below meth c H locs 0 0 Q (F0 m pc ls [.int r])) (hK13 : ∀ (x2 : Int32) (x3 : Int32) (x4 : Int32) (f_z : Nat → Int32) (f_out : Nat → Int32) (H : Heap) (locs : List Loc) (ls : Array Slot), va_P D vwCl [(h_m, .inr (8, [.int v_thrown, .int v_n, .ref h_mwholes, .ref h_mparts, .int v_has, .int v_known, .ref h_mknown31, .int v_many, .ref h_mprimes, .ref h_mrests, .ref h_mrows, .ref h_mdigits, .ref h_mz, .ref h_mout, .int v_printed, .ref h_mopen])), (h_mz, .inl (cT 0, 1100, .inl f_z)), (h_mout, .inl (cT 0, 320, .inl f_out))] H → va_D A [(h_m, .inr (8, [.int v_thrown, .int v_n, .ref h_mwholes, .ref h_mparts, .int v_has, .int v_known, .ref h_mknown31, .int v_many, .ref h_mprimes, .ref h_mrests, .ref h_mrows, .ref h_mdigits, .ref h_mz, .ref h_mout, .int v_printed, .ref h_mopen])), (h_mz, .inl (cT 0, 1100, .inl f_z)), (h_mout, .inl (cT 0, 320, .inl f_out))] → va_S A s.heap H locs → lv_has ls 8 [(0, .ref h_m), (2, .int x2), (3, .int x3), (4, .int x4)] → K13 x2 x3 x4 f_z f_out → W p l e ({ frames := 1, cells := 0, slots := 0, locals := 23 } : Room) s m args below meth c H locs 0 0 Q (F0 m 13 ls [])) : ∀ (x2 : Int32) (x3 : Int32) (y0 : Int32) (f_z : Nat → Int32) (f_out : Nat → Int32) (H : Heap) (locs : List Loc) (ls : Array Slot), va_P D vwCl [(h_m, .inr (8, [.int v_thrown, .int v_n, .ref h_mwholes, .ref h_mparts, .int v_has, .int v_known, .ref h_mknown31, .int v_many, .ref h_mprimes, .ref h_mrests, .ref h_mrows, .ref h_mdigits, .ref h_mz, .ref h_mout, .int v_printed, .ref h_mopen])), (h_mz, .inl (cT 0, 1100, .inl f_z)), (h_mout, .inl (cT 0, 320, .inl f_out))] H → va_D A [(h_m, .inr (8, [.int v_thrown, .int v_n, .ref h_mwholes, .ref h_mparts, .int v_has, .int v_known, .ref h_mknown31, .int v_many, .ref h_mprimes, .ref h_mrests, .ref h_mrows, .ref h_mdigits, .ref h_mz, .ref h_mout, .int v_printed, .ref h_mopen])), (h_mz, .inl (cT 0, 1100, .inl f_z)), (h_mout, .inl (cT 0, 320, .inl f_out))] → va_S A s.heap H locs → lv_has ls 8 [(0, .ref h_m), (2, .int x2), (3, .int x3)] → wp_Model_figures_114 post v_thrown v_n v_has v_known v_many v_printed K13 x2 x3 y0 f_z f_out → W p l e ({ frames := 1, cells := 0, slots := 0, locals := 23 } : Room) s m args below meth c H locs 0 0 Q (F0 m 114 ls [.int y0]) := by
  obtain ⟨⟨hx, hb, hml, hown, hts⟩, hK, hN⟩ := id C0
  intro x2 x3 y0 f_z f_out H locs ls hP hD hS hl hw
  unfold wp_Model_figures_114 at hw
  refine lv_istore (lv' := [(4, .int y0), (0, .ref h_m), (2, .int x2), (3, .int x3)]) hx hb dX8_figures_114 hl (by decide) rfl (fun ls hl => ?_)
  refine lv_goto (tgt := 13) hx hb dX8_figures_116 (by decide) ?_
  exact hK13 _ _ _ _ _ _ _ _ hP hD hS (lv_sub hl [1, 2, 3, 0] rfl) hw
set_option maxHeartbeats 4000000 in
set_option maxRecDepth 100000 in
theorem tw_Model_figures_25 {post : Int32 → (Nat → Int32) → (Nat → Int32) → Prop} {h_m h_mz h_mout h_mwholes h_mparts h_mknown31 h_mprimes h_mrests h_mrows h_mdigits h_mopen : Nat} {v_thrown : Int32} {v_n : Int32} {v_has : Int32} {v_known : Int32} {v_many : Int32} {v_printed : Int32} {K13 : Int32 → Int32 → Int32 → (Nat → Int32) → (Nat → Int32) → Prop} (C0 : cx RX8 cX8_figures 8 D cT p s m c args) (hA : ∀ q, s.heap.size ≤ q → A q) (hret : ∀ (r : Int32) (f_z : Nat → Int32) (f_out : Nat → Int32) (H : Heap) (locs : List Loc) (pc : Nat) (ls : Array Slot), post r f_z f_out → va_P D vwCl [(h_m, .inr (8, [.int v_thrown, .int v_n, .ref h_mwholes, .ref h_mparts, .int v_has, .int v_known, .ref h_mknown31, .int v_many, .ref h_mprimes, .ref h_mrests, .ref h_mrows, .ref h_mdigits, .ref h_mz, .ref h_mout, .int v_printed, .ref h_mopen])), (h_mz, .inl (cT 0, 1100, .inl f_z)), (h_mout, .inl (cT 0, 320, .inl f_out))] H → va_D A [(h_m, .inr (8, [.int v_thrown, .int v_n, .ref h_mwholes, .ref h_mparts, .int v_has, .int v_known, .ref h_mknown31, .int v_many, .ref h_mprimes, .ref h_mrests, .ref h_mrows, .ref h_mdigits, .ref h_mz, .ref h_mout, .int v_printed, .ref h_mopen])), (h_mz, .inl (cT 0, 1100, .inl f_z)), (h_mout, .inl (cT 0, 320, .inl f_out))] → va_S A s.heap H locs → decode cX8_figures pc = .ok (.ireturn, 1) → W p l e ({ frames := 1, cells := 0, slots := 0, locals := 23 } : Room) s m args below meth c H locs 0 0 Q (F0 m pc ls [.int r])) (hK13 : ∀ (x2 : Int32) (x3 : Int32) (x4 : Int32) (f_z : Nat → Int32) (f_out : Nat → Int32) (H : Heap) (locs : List Loc) (ls : Array Slot), va_P D vwCl [(h_m, .inr (8, [.int v_thrown, .int v_n, .ref h_mwholes, .ref h_mparts, .int v_has, .int v_known, .ref h_mknown31, .int v_many, .ref h_mprimes, .ref h_mrests, .ref h_mrows, .ref h_mdigits, .ref h_mz, .ref h_mout, .int v_printed, .ref h_mopen])), (h_mz, .inl (cT 0, 1100, .inl f_z)), (h_mout, .inl (cT 0, 320, .inl f_out))] H → va_D A [(h_m, .inr (8, [.int v_thrown, .int v_n, .ref h_mwholes, .ref h_mparts, .int v_has, .int v_known, .ref h_mknown31, .int v_many, .ref h_mprimes, .ref h_mrests, .ref h_mrows, .ref h_mdigits, .ref h_mz, .ref h_mout, .int v_printed, .ref h_mopen])), (h_mz, .inl (cT 0, 1100, .inl f_z)), (h_mout, .inl (cT 0, 320, .inl f_out))] → va_S A s.heap H locs → lv_has ls 8 [(0, .ref h_m), (2, .int x2), (3, .int x3), (4, .int x4)] → K13 x2 x3 x4 f_z f_out → W p l e ({ frames := 1, cells := 0, slots := 0, locals := 23 } : Room) s m args below meth c H locs 0 0 Q (F0 m 13 ls [])) : ∀ (n : Nat) (x2 : Int32) (x3 : Int32) (x5 : Int64) (x7 : Int32) (f_z : Nat → Int32) (f_out : Nat → Int32) (H : Heap) (locs : List Loc) (ls : Array Slot), va_P D vwCl [(h_m, .inr (8, [.int v_thrown, .int v_n, .ref h_mwholes, .ref h_mparts, .int v_has, .int v_known, .ref h_mknown31, .int v_many, .ref h_mprimes, .ref h_mrests, .ref h_mrows, .ref h_mdigits, .ref h_mz, .ref h_mout, .int v_printed, .ref h_mopen])), (h_mz, .inl (cT 0, 1100, .inl f_z)), (h_mout, .inl (cT 0, 320, .inl f_out))] H → va_D A [(h_m, .inr (8, [.int v_thrown, .int v_n, .ref h_mwholes, .ref h_mparts, .int v_has, .int v_known, .ref h_mknown31, .int v_many, .ref h_mprimes, .ref h_mrests, .ref h_mrows, .ref h_mdigits, .ref h_mz, .ref h_mout, .int v_printed, .ref h_mopen])), (h_mz, .inl (cT 0, 1100, .inl f_z)), (h_mout, .inl (cT 0, 320, .inl f_out))] → va_S A s.heap H locs → lv_has ls 8 [(0, .ref h_m), (2, .int x2), (3, .int x3), (5, .long x5), (7, .int x7)] → wp_Model_figures_25 post v_thrown v_n v_has v_known v_many v_printed K13 n x2 x3 x5 x7 f_z f_out → W p l e ({ frames := 1, cells := 0, slots := 0, locals := 23 } : Room) s m args below meth c H locs 0 0 Q (F0 m 25 ls []) := by
  obtain ⟨⟨hx, hb, hml, hown, hts⟩, hK, hN⟩ := id C0
  intro n
  induction n with
  | zero => intro x2 x3 x5 x7 f_z f_out H locs ls hP hD hS hl hw; exact hw.elim
  | succ n ih =>
    intro x2 x3 x5 x7 f_z f_out H locs ls hP hD hS hl hw
    unfold wp_Model_figures_25 at hw
    refine lv_iload hx hb dX8_figures_25 (lv_at hl 4 rfl) ?_
    refine lv_if_lt (tgt := 82) hx hb dX8_figures_27 (by decide) (fun c_10 => ?_) (fun c_10 => ?_)
    · have hw := hw.1 c_10
      refine lv_aload_n hx hb dX8_figures_82 rfl (lv_at hl 0 rfl) ?_
      refine va_get (D := D) (ci := 8) (v := .ref h_mout) (C := RX8) (T := TX8) (N := 16) hx hb hts inX8 hown hK hP 0 rfl rfl 13 (by decide) (hts _ q_596) (fun _ h9 => h9) rfl dX8_figures_83 ?_
      refine lv_iload_n hx hb dX8_figures_86 rfl (lv_at hl 1 rfl) ?_
      refine lv_iload_n hx hb dX8_figures_87 rfl (lv_at hl 2 rfl) ?_
      refine lv_iadd hx hb dX8_figures_88 ?_
      refine lv_bipush (v := 48) hx hb dX8_figures_89 (by decide) ?_
      refine lv_lload hx hb dX8_figures_91 (lv_at hl 3 rfl) ?_
      refine lv_l2i hx hb dX8_figures_93 rfl ?_
      refine lv_iadd hx hb dX8_figures_94 ?_
      obtain ⟨h_11, hw⟩ := hw
      refine va_iast hx hb hK hP hD hS 2 0 rfl rfl h_11 dX8_figures_95 (fun H locs hP hD hS => ?_)
      have hP : va_P D vwCl [(h_m, .inr (8, [.int v_thrown, .int v_n, .ref h_mwholes, .ref h_mparts, .int v_has, .int v_known, .ref h_mknown31, .int v_many, .ref h_mprimes, .ref h_mrests, .ref h_mrows, .ref h_mdigits, .ref h_mz, .ref h_mout, .int v_printed, .ref h_mopen])), (h_mz, .inl (cT 0, 1100, .inl f_z)), (h_mout, .inl (cT 0, 320, .inl (upd f_out (x2 + x3).toNatClampNeg (48 + x5.toInt32))))] H := hP
      have hD : va_D A [(h_m, .inr (8, [.int v_thrown, .int v_n, .ref h_mwholes, .ref h_mparts, .int v_has, .int v_known, .ref h_mknown31, .int v_many, .ref h_mprimes, .ref h_mrests, .ref h_mrows, .ref h_mdigits, .ref h_mz, .ref h_mout, .int v_printed, .ref h_mopen])), (h_mz, .inl (cT 0, 1100, .inl f_z)), (h_mout, .inl (cT 0, 320, .inl (upd f_out (x2 + x3).toNatClampNeg (48 + x5.toInt32))))] := hD
      obtain ⟨x3_12, ex3_12⟩ : ∃ y : Int32, y = x3 + 1 := ⟨_, rfl⟩
      refine lv_iinc (v := x3_12) (lv' := [(3, .int x3_12), (0, .ref h_m), (2, .int x2), (5, .long x5), (7, .int x7)]) hx hb dX8_figures_96 hl (k := 2) rfl (by rw [ex3_12]; rfl) (by decide) rfl (fun ls hl => ?_)
      have hw := hw x3_12 ex3_12
      refine lv_aload_n hx hb dX8_figures_99 rfl (lv_at hl 1 rfl) ?_
      refine lv_sipush (v := 946) hx hb dX8_figures_100 (by decide) ?_
      have hPc := hP.sub (ws' := [(h_m, .inr (8, [.int v_thrown, .int v_n, .ref h_mwholes, .ref h_mparts, .int v_has, .int v_known, .ref h_mknown31, .int v_many, .ref h_mprimes, .ref h_mrests, .ref h_mrows, .ref h_mdigits, .ref h_mz, .ref h_mout, .int v_printed, .ref h_mopen])), (h_mz, .inl (cT 0, 1100, .inl f_z))]) [0, 1] rfl
      have hDc := hD.sub (ws' := [(h_m, .inr (8, [.int v_thrown, .int v_n, .ref h_mwholes, .ref h_mparts, .int v_has, .int v_known, .ref h_mknown31, .int v_many, .ref h_mprimes, .ref h_mrests, .ref h_mrows, .ref h_mdigits, .ref h_mz, .ref h_mout, .int v_printed, .ref h_mopen])), (h_mz, .inl (cT 0, 1100, .inl f_z))]) [0, 1] (by decide) rfl
      have hFc := va_free (wc := [(h_m, .inr (8, [.int v_thrown, .int v_n, .ref h_mwholes, .ref h_mparts, .int v_has, .int v_known, .ref h_mknown31, .int v_many, .ref h_mprimes, .ref h_mrests, .ref h_mrows, .ref h_mdigits, .ref h_mz, .ref h_mout, .int v_printed, .ref h_mopen])), (h_mz, .inl (cT 0, 1100, .inl f_z))]) hD hS hA [0, 1] rfl
      refine va_calli (va_runV (As := [.int 946]) (rest := []) ⟨hx, hb, hml, hown, hts⟩ (cn_Model_isZero l D cT h_m h_mz h_mwholes h_mparts h_mknown31 h_mprimes h_mrests h_mrows h_mdigits h_mout h_mopen H.size v_thrown v_n v_has v_known v_many v_printed f_z 946 _ hw) (gv_ 1 q_718 q_9 q_715 q_717 qs_32 (by decide +kernel) ⟨Nat.le_of_ble_eq_true rfl, Nat.le_of_ble_eq_true rfl⟩ hts) ⟨pre_blind, va_recv hK hPc (ci := 8) (q0 := 0) rfl rfl, fun U hU hW => ⟨rfl, pre_mk hU hW hPc hK hDc hN⟩⟩ rfl rfl hl.1 rfl (lv_room (Nat.le_of_ble_eq_true rfl)) dX8_figures_103 ⟨(Nat.zero_le _), (Nat.zero_le _)⟩) hS (fun q _ h => hFc q h) hFc (fun r_13 u9 t H locs ht hvm hw hB hz1 hk1 hS => ?_)
      obtain ⟨hP1, hD1⟩ := hB
      rw [ht] at hP1
      obtain ⟨hP, hD⟩ := va_join (wr := [(h_mout, .inl (cT 0, 320, .inl (upd f_out (x2 + x3).toNatClampNeg (48 + x5.toInt32))))]) (w1 := [(h_m, .inr (8, [.int v_thrown, .int v_n, .ref h_mwholes, .ref h_mparts, .int v_has, .int v_known, .ref h_mknown31, .int v_many, .ref h_mprimes, .ref h_mrests, .ref h_mrows, .ref h_mdigits, .ref h_mz, .ref h_mout, .int v_printed, .ref h_mopen])), (h_mz, .inl (cT 0, 1100, .inl f_z))]) hP hD [0, 1] [2] rfl rfl (by decide) (by decide) hk1 hFc hP1 hD1
      have hP := hP.sub (ws' := [(h_m, .inr (8, [.int v_thrown, .int v_n, .ref h_mwholes, .ref h_mparts, .int v_has, .int v_known, .ref h_mknown31, .int v_many, .ref h_mprimes, .ref h_mrests, .ref h_mrows, .ref h_mdigits, .ref h_mz, .ref h_mout, .int v_printed, .ref h_mopen])), (h_mz, .inl (cT 0, 1100, .inl f_z)), (h_mout, .inl (cT 0, 320, .inl (upd f_out (x2 + x3).toNatClampNeg (48 + x5.toInt32))))]) [1, 2, 0] rfl
      have hD := hD.sub (ws' := [(h_m, .inr (8, [.int v_thrown, .int v_n, .ref h_mwholes, .ref h_mparts, .int v_has, .int v_known, .ref h_mknown31, .int v_many, .ref h_mprimes, .ref h_mrests, .ref h_mrows, .ref h_mdigits, .ref h_mz, .ref h_mout, .int v_printed, .ref h_mopen])), (h_mz, .inl (cT 0, 1100, .inl f_z)), (h_mout, .inl (cT 0, 320, .inl (upd f_out (x2 + x3).toNatClampNeg (48 + x5.toInt32))))]) [1, 2, 0] (by decide) rfl
      clear hP1 hD1 hPc hDc hFc hk1 hz1 hvm ht
      try dsimp only at hw
      refine lv_if_ne (tgt := 113) hx hb dX8_figures_106 (by decide) (fun c_14 => ?_) (fun c_14 => ?_)
      · have hw := hw.2 c_14
        refine lv_iconst (v := 0) hx hb dX8_figures_113 (by decide) ?_
        exact tw_Model_figures_114 C0 hA hret hK13 _ _ _ _ _ _ _ _ hP hD hS (lv_sub hl [1, 2, 0] rfl) hw
      · have hw := hw.1 c_14
        refine lv_iconst (v := 1) hx hb dX8_figures_109 (by decide) ?_
        refine lv_goto (tgt := 114) hx hb dX8_figures_110 (by decide) ?_
        exact tw_Model_figures_114 C0 hA hret hK13 _ _ _ _ _ _ _ _ hP hD hS (lv_sub hl [1, 2, 0] rfl) hw
    · have hw := hw.2 c_10
      refine lv_lload hx hb dX8_figures_30 (lv_at hl 3 rfl) ?_
      refine lv_bipush (v := 24) hx hb dX8_figures_32 (by decide) ?_
      refine lv_lshl hx hb dX8_figures_34 rfl ?_
      refine lv_aload_n hx hb dX8_figures_35 rfl (lv_at hl 0 rfl) ?_
      refine va_get (D := D) (ci := 8) (v := .ref h_mz) (C := RX8) (T := TX8) (N := 16) hx hb hts inX8 hown hK hP 0 rfl rfl 12 (by decide) (hts _ q_595) (fun _ h9 => h9) rfl dX8_figures_36 ?_
      refine lv_sipush (v := 946) hx hb dX8_figures_39 (by decide) ?_
      refine lv_iload hx hb dX8_figures_42 (lv_at hl 4 rfl) ?_
      refine lv_iadd hx hb dX8_figures_44 ?_
      obtain ⟨h_15, hw⟩ := hw
      refine va_iald hx hb hK hP 1 0 rfl rfl h_15 dX8_figures_45 ?_
      refine lv_i2l hx hb dX8_figures_46 rfl ?_
      refine lv_lor hx hb dX8_figures_47 ?_
      refine lv_topl (fun x5_16 ex5_16 => ?_)
      have hw := hw x5_16 ex5_16
      refine lv_lstore (lv' := [(5, .long x5_16), (0, .ref h_m), (2, .int x2), (3, .int x3), (7, .int x7)]) hx hb dX8_figures_48 hl (by decide) rfl (fun ls hl => ?_)
      refine lv_aload_n hx hb dX8_figures_50 rfl (lv_at hl 1 rfl) ?_
      refine va_get (D := D) (ci := 8) (v := .ref h_mz) (C := RX8) (T := TX8) (N := 16) hx hb hts inX8 hown hK hP 0 rfl rfl 12 (by decide) (hts _ q_595) (fun _ h9 => h9) rfl dX8_figures_51 ?_
      refine lv_sipush (v := 946) hx hb dX8_figures_54 (by decide) ?_
      refine lv_iload hx hb dX8_figures_57 (lv_at hl 4 rfl) ?_
      refine lv_iadd hx hb dX8_figures_59 ?_
      refine lv_lload hx hb dX8_figures_60 (lv_at hl 0 rfl) ?_
      refine lv_ldc2 (v := 10) hx hb hown (hts _ q_732) dX8_figures_62 ?_
      refine lv_ldiv hx hb dX8_figures_65 (by decide) ?_
      refine lv_l2i hx hb dX8_figures_66 rfl ?_
      obtain ⟨h_17, hw⟩ := hw
      refine va_iast hx hb hK hP hD hS 1 0 rfl rfl h_17 dX8_figures_67 (fun H locs hP hD hS => ?_)
      have hP : va_P D vwCl [(h_m, .inr (8, [.int v_thrown, .int v_n, .ref h_mwholes, .ref h_mparts, .int v_has, .int v_known, .ref h_mknown31, .int v_many, .ref h_mprimes, .ref h_mrests, .ref h_mrows, .ref h_mdigits, .ref h_mz, .ref h_mout, .int v_printed, .ref h_mopen])), (h_mz, .inl (cT 0, 1100, .inl (upd f_z (946 + x7).toNatClampNeg ((x5_16 / 10).toInt32)))), (h_mout, .inl (cT 0, 320, .inl f_out))] H := hP
      have hD : va_D A [(h_m, .inr (8, [.int v_thrown, .int v_n, .ref h_mwholes, .ref h_mparts, .int v_has, .int v_known, .ref h_mknown31, .int v_many, .ref h_mprimes, .ref h_mrests, .ref h_mrows, .ref h_mdigits, .ref h_mz, .ref h_mout, .int v_printed, .ref h_mopen])), (h_mz, .inl (cT 0, 1100, .inl (upd f_z (946 + x7).toNatClampNeg ((x5_16 / 10).toInt32)))), (h_mout, .inl (cT 0, 320, .inl f_out))] := hD
      refine lv_lload hx hb dX8_figures_68 (lv_at hl 0 rfl) ?_
      refine lv_ldc2 (v := 10) hx hb hown (hts _ q_732) dX8_figures_70 ?_
      refine lv_lrem hx hb dX8_figures_73 (by decide) ?_
      refine lv_topl (fun x5_18 ex5_18 => ?_)
      have hw := hw x5_18 ex5_18
      refine lv_lstore (lv' := [(5, .long x5_18), (0, .ref h_m), (2, .int x2), (3, .int x3), (7, .int x7)]) hx hb dX8_figures_74 hl (by decide) rfl (fun ls hl => ?_)
      obtain ⟨x7_19, ex7_19⟩ : ∃ y : Int32, y = x7 + (-1) := ⟨_, rfl⟩
      refine lv_iinc (v := x7_19) (lv' := [(7, .int x7_19), (5, .long x5_18), (0, .ref h_m), (2, .int x2), (3, .int x3)]) hx hb dX8_figures_76 hl (k := 4) rfl (by rw [ex7_19]; rfl) (by decide) rfl (fun ls hl => ?_)
      have hw := hw x7_19 ex7_19
      refine lv_goto (tgt := 25) hx hb dX8_figures_79 (by decide) ?_
      exact ih _ _ _ _ _ _ _ _ _ hP hD hS (lv_sub hl [2, 3, 4, 1, 0] rfl) hw
set_option maxHeartbeats 4000000 in
set_option maxRecDepth 100000 in
theorem tw_Model_figures_13 {post : Int32 → (Nat → Int32) → (Nat → Int32) → Prop} {h_m h_mz h_mout h_mwholes h_mparts h_mknown31 h_mprimes h_mrests h_mrows h_mdigits h_mopen : Nat} {v_thrown : Int32} {v_n : Int32} {v_has : Int32} {v_known : Int32} {v_many : Int32} {v_printed : Int32}  (C0 : cx RX8 cX8_figures 8 D cT p s m c args) (hA : ∀ q, s.heap.size ≤ q → A q) (hret : ∀ (r : Int32) (f_z : Nat → Int32) (f_out : Nat → Int32) (H : Heap) (locs : List Loc) (pc : Nat) (ls : Array Slot), post r f_z f_out → va_P D vwCl [(h_m, .inr (8, [.int v_thrown, .int v_n, .ref h_mwholes, .ref h_mparts, .int v_has, .int v_known, .ref h_mknown31, .int v_many, .ref h_mprimes, .ref h_mrests, .ref h_mrows, .ref h_mdigits, .ref h_mz, .ref h_mout, .int v_printed, .ref h_mopen])), (h_mz, .inl (cT 0, 1100, .inl f_z)), (h_mout, .inl (cT 0, 320, .inl f_out))] H → va_D A [(h_m, .inr (8, [.int v_thrown, .int v_n, .ref h_mwholes, .ref h_mparts, .int v_has, .int v_known, .ref h_mknown31, .int v_many, .ref h_mprimes, .ref h_mrests, .ref h_mrows, .ref h_mdigits, .ref h_mz, .ref h_mout, .int v_printed, .ref h_mopen])), (h_mz, .inl (cT 0, 1100, .inl f_z)), (h_mout, .inl (cT 0, 320, .inl f_out))] → va_S A s.heap H locs → decode cX8_figures pc = .ok (.ireturn, 1) → W p l e ({ frames := 1, cells := 0, slots := 0, locals := 23 } : Room) s m args below meth c H locs 0 0 Q (F0 m pc ls [.int r]))  : ∀ (n : Nat) (x2 : Int32) (x3 : Int32) (x4 : Int32) (f_z : Nat → Int32) (f_out : Nat → Int32) (H : Heap) (locs : List Loc) (ls : Array Slot), va_P D vwCl [(h_m, .inr (8, [.int v_thrown, .int v_n, .ref h_mwholes, .ref h_mparts, .int v_has, .int v_known, .ref h_mknown31, .int v_many, .ref h_mprimes, .ref h_mrests, .ref h_mrows, .ref h_mdigits, .ref h_mz, .ref h_mout, .int v_printed, .ref h_mopen])), (h_mz, .inl (cT 0, 1100, .inl f_z)), (h_mout, .inl (cT 0, 320, .inl f_out))] H → va_D A [(h_m, .inr (8, [.int v_thrown, .int v_n, .ref h_mwholes, .ref h_mparts, .int v_has, .int v_known, .ref h_mknown31, .int v_many, .ref h_mprimes, .ref h_mrests, .ref h_mrows, .ref h_mdigits, .ref h_mz, .ref h_mout, .int v_printed, .ref h_mopen])), (h_mz, .inl (cT 0, 1100, .inl f_z)), (h_mout, .inl (cT 0, 320, .inl f_out))] → va_S A s.heap H locs → lv_has ls 8 [(0, .ref h_m), (2, .int x2), (3, .int x3), (4, .int x4)] → wp_Model_figures_13 post v_thrown v_n v_has v_known v_many v_printed n x2 x3 x4 f_z f_out → W p l e ({ frames := 1, cells := 0, slots := 0, locals := 23 } : Room) s m args below meth c H locs 0 0 Q (F0 m 13 ls []) := by
  obtain ⟨⟨hx, hb, hml, hown, hts⟩, hK, hN⟩ := id C0
  intro n
  induction n with
  | zero => intro x2 x3 x4 f_z f_out H locs ls hP hD hS hl hw; exact hw.elim
  | succ n ih =>
    intro x2 x3 x4 f_z f_out H locs ls hP hD hS hl hw
    unfold wp_Model_figures_13 at hw
    refine lv_iload hx hb dX8_figures_13 (lv_at hl 3 rfl) ?_
    refine lv_if_eq (tgt := 119) hx hb dX8_figures_15 (by decide) (fun c_2 => ?_) (fun c_2 => ?_)
    · have hw := hw.1 c_2
      refine lv_iconst (v := 0) hx hb dX8_figures_119 (by decide) ?_
      refine lv_istore (lv' := [(5, .int 0), (0, .ref h_m), (2, .int x2), (3, .int x3), (4, .int x4)]) hx hb dX8_figures_120 hl (by decide) rfl (fun ls hl => ?_)
      obtain ⟨n9, hw⟩ := hw
      exact tw_Model_figures_122 C0 hA hret  n9 _ _ _ _ _ _ _ _ hP hD hS (lv_sub hl [1, 2, 3, 0] rfl) hw
    · have hw := hw.2 c_2
      refine lv_lconst (v := 0) hx hb dX8_figures_18 (by decide) ?_
      refine lv_lstore (lv' := [(5, .long 0), (0, .ref h_m), (2, .int x2), (3, .int x3), (4, .int x4)]) hx hb dX8_figures_19 hl (by decide) rfl (fun ls hl => ?_)
      refine lv_bipush (v := 21) hx hb dX8_figures_21 (by decide) ?_
      refine lv_istore (lv' := [(7, .int 21), (5, .long 0), (0, .ref h_m), (2, .int x2), (3, .int x3), (4, .int x4)]) hx hb dX8_figures_23 hl (by decide) rfl (fun ls hl => ?_)
      obtain ⟨n9, hw⟩ := hw
      exact tw_Model_figures_25 C0 hA hret ih n9 _ _ _ _ _ _ _ _ _ hP hD hS (lv_sub hl [2, 3, 4, 1, 0] rfl) hw
set_option maxHeartbeats 4000000 in
set_option maxRecDepth 100000 in
theorem tw_Model_figures {post : Int32 → (Nat → Int32) → (Nat → Int32) → Prop} {h_m h_mz h_mout h_mwholes h_mparts h_mknown31 h_mprimes h_mrests h_mrows h_mdigits h_mopen : Nat} {v_thrown : Int32} {v_n : Int32} {v_has : Int32} {v_known : Int32} {v_many : Int32} {v_printed : Int32}  (C0 : cx RX8 cX8_figures 8 D cT p s m c args) (hA : ∀ q, s.heap.size ≤ q → A q) (hret : ∀ (r : Int32) (f_z : Nat → Int32) (f_out : Nat → Int32) (H : Heap) (locs : List Loc) (pc : Nat) (ls : Array Slot), post r f_z f_out → va_P D vwCl [(h_m, .inr (8, [.int v_thrown, .int v_n, .ref h_mwholes, .ref h_mparts, .int v_has, .int v_known, .ref h_mknown31, .int v_many, .ref h_mprimes, .ref h_mrests, .ref h_mrows, .ref h_mdigits, .ref h_mz, .ref h_mout, .int v_printed, .ref h_mopen])), (h_mz, .inl (cT 0, 1100, .inl f_z)), (h_mout, .inl (cT 0, 320, .inl f_out))] H → va_D A [(h_m, .inr (8, [.int v_thrown, .int v_n, .ref h_mwholes, .ref h_mparts, .int v_has, .int v_known, .ref h_mknown31, .int v_many, .ref h_mprimes, .ref h_mrests, .ref h_mrows, .ref h_mdigits, .ref h_mz, .ref h_mout, .int v_printed, .ref h_mopen])), (h_mz, .inl (cT 0, 1100, .inl f_z)), (h_mout, .inl (cT 0, 320, .inl f_out))] → va_S A s.heap H locs → decode cX8_figures pc = .ok (.ireturn, 1) → W p l e ({ frames := 1, cells := 0, slots := 0, locals := 23 } : Room) s m args below meth c H locs 0 0 Q (F0 m pc ls [.int r]))  : ∀ (x1 : Int32) (x2 : Int32) (f_z : Nat → Int32) (f_out : Nat → Int32) (H : Heap) (locs : List Loc) (ls : Array Slot), va_P D vwCl [(h_m, .inr (8, [.int v_thrown, .int v_n, .ref h_mwholes, .ref h_mparts, .int v_has, .int v_known, .ref h_mknown31, .int v_many, .ref h_mprimes, .ref h_mrests, .ref h_mrows, .ref h_mdigits, .ref h_mz, .ref h_mout, .int v_printed, .ref h_mopen])), (h_mz, .inl (cT 0, 1100, .inl f_z)), (h_mout, .inl (cT 0, 320, .inl f_out))] H → va_D A [(h_m, .inr (8, [.int v_thrown, .int v_n, .ref h_mwholes, .ref h_mparts, .int v_has, .int v_known, .ref h_mknown31, .int v_many, .ref h_mprimes, .ref h_mrests, .ref h_mrows, .ref h_mdigits, .ref h_mz, .ref h_mout, .int v_printed, .ref h_mopen])), (h_mz, .inl (cT 0, 1100, .inl f_z)), (h_mout, .inl (cT 0, 320, .inl f_out))] → va_S A s.heap H locs → lv_has ls 8 [(0, .ref h_m), (1, .int x1), (2, .int x2)] → wp_Model_figures post v_thrown v_n v_has v_known v_many v_printed x1 x2 f_z f_out → W p l e ({ frames := 1, cells := 0, slots := 0, locals := 23 } : Room) s m args below meth c H locs 0 0 Q (F0 m 0 ls []) := by
  obtain ⟨⟨hx, hb, hml, hown, hts⟩, hK, hN⟩ := id C0
  intro x1 x2 f_z f_out H locs ls hP hD hS hl hw
  unfold wp_Model_figures at hw
  refine lv_aload_n hx hb dX8_figures_0 rfl (lv_at hl 0 rfl) ?_
  refine lv_sipush (v := 946) hx hb dX8_figures_1 (by decide) ?_
  refine lv_iload_n hx hb dX8_figures_4 rfl (lv_at hl 1 rfl) ?_
  have hPc := hP.sub (ws' := [(h_m, .inr (8, [.int v_thrown, .int v_n, .ref h_mwholes, .ref h_mparts, .int v_has, .int v_known, .ref h_mknown31, .int v_many, .ref h_mprimes, .ref h_mrests, .ref h_mrows, .ref h_mdigits, .ref h_mz, .ref h_mout, .int v_printed, .ref h_mopen])), (h_mz, .inl (cT 0, 1100, .inl f_z))]) [0, 1] rfl
  have hDc := hD.sub (ws' := [(h_m, .inr (8, [.int v_thrown, .int v_n, .ref h_mwholes, .ref h_mparts, .int v_has, .int v_known, .ref h_mknown31, .int v_many, .ref h_mprimes, .ref h_mrests, .ref h_mrows, .ref h_mdigits, .ref h_mz, .ref h_mout, .int v_printed, .ref h_mopen])), (h_mz, .inl (cT 0, 1100, .inl f_z))]) [0, 1] (by decide) rfl
  have hFc := va_free (wc := [(h_m, .inr (8, [.int v_thrown, .int v_n, .ref h_mwholes, .ref h_mparts, .int v_has, .int v_known, .ref h_mknown31, .int v_many, .ref h_mprimes, .ref h_mrests, .ref h_mrows, .ref h_mdigits, .ref h_mz, .ref h_mout, .int v_printed, .ref h_mopen])), (h_mz, .inl (cT 0, 1100, .inl f_z))]) hD hS hA [0, 1] rfl
  refine va_callv (va_runV (As := [.int 946, .int x1]) (rest := []) ⟨hx, hb, hml, hown, hts⟩ (cn_Model_copy l D cT h_m h_mz h_mwholes h_mparts h_mknown31 h_mprimes h_mrests h_mrows h_mdigits h_mout h_mopen H.size v_thrown v_n v_has v_known v_many v_printed f_z 946 x1 _ hw) (gv_ 2 q_714 q_9 q_711 q_713 qs_31 (by decide +kernel) ⟨Nat.le_of_ble_eq_true rfl, Nat.le_of_ble_eq_true rfl⟩ hts) ⟨pre_blind, va_recv hK hPc (ci := 8) (q0 := 0) rfl rfl, fun U hU hW => ⟨rfl, pre_mk hU hW hPc hK hDc hN⟩⟩ rfl rfl hl.1 rfl (lv_room (Nat.le_of_ble_eq_true rfl)) dX8_figures_5 ⟨(Nat.zero_le _), (Nat.zero_le _)⟩) hS (fun q _ h => hFc q h) hFc (fun u9 t H locs ht hvm hw hB hz1 hk1 hS => ?_)
  obtain ⟨u_1, rfl⟩ : ∃ z, z = u9 := ⟨_, rfl⟩
  obtain ⟨hP1, hD1⟩ := hB
  rw [ht] at hP1
  obtain ⟨hP, hD⟩ := va_join (wr := [(h_mout, .inl (cT 0, 320, .inl f_out))]) (w1 := [(h_m, .inr (8, [.int v_thrown, .int v_n, .ref h_mwholes, .ref h_mparts, .int v_has, .int v_known, .ref h_mknown31, .int v_many, .ref h_mprimes, .ref h_mrests, .ref h_mrows, .ref h_mdigits, .ref h_mz, .ref h_mout, .int v_printed, .ref h_mopen])), (h_mz, .inl (cT 0, 1100, .inl u_1))]) hP hD [0, 1] [2] rfl rfl (by decide) (by decide) hk1 hFc hP1 hD1
  have hP := hP.sub (ws' := [(h_m, .inr (8, [.int v_thrown, .int v_n, .ref h_mwholes, .ref h_mparts, .int v_has, .int v_known, .ref h_mknown31, .int v_many, .ref h_mprimes, .ref h_mrests, .ref h_mrows, .ref h_mdigits, .ref h_mz, .ref h_mout, .int v_printed, .ref h_mopen])), (h_mz, .inl (cT 0, 1100, .inl u_1)), (h_mout, .inl (cT 0, 320, .inl f_out))]) [1, 2, 0] rfl
  have hD := hD.sub (ws' := [(h_m, .inr (8, [.int v_thrown, .int v_n, .ref h_mwholes, .ref h_mparts, .int v_has, .int v_known, .ref h_mknown31, .int v_many, .ref h_mprimes, .ref h_mrests, .ref h_mrows, .ref h_mdigits, .ref h_mz, .ref h_mout, .int v_printed, .ref h_mopen])), (h_mz, .inl (cT 0, 1100, .inl u_1)), (h_mout, .inl (cT 0, 320, .inl f_out))]) [1, 2, 0] (by decide) rfl
  clear hP1 hD1 hPc hDc hFc hk1 hz1 hvm ht
  try dsimp only at hw
  refine lv_iconst (v := 0) hx hb dX8_figures_8 (by decide) ?_
  refine lv_istore_n (lv' := [(3, .int 0), (0, .ref h_m), (1, .int x1), (2, .int x2)]) hx hb dX8_figures_9 rfl hl (by decide) rfl (fun ls hl => ?_)
  refine lv_iconst (v := 1) hx hb dX8_figures_10 (by decide) ?_
  refine lv_istore (lv' := [(4, .int 1), (3, .int 0), (0, .ref h_m), (1, .int x1), (2, .int x2)]) hx hb dX8_figures_11 hl (by decide) rfl (fun ls hl => ?_)
  obtain ⟨n9, hw⟩ := hw
  exact tw_Model_figures_13 C0 hA hret  n9 _ _ _ _ _ _ _ _ hP hD hS (lv_sub hl [2, 4, 1, 0] rfl) hw
set_option maxHeartbeats 4000000 in
set_option maxRecDepth 100000 in
theorem cn_Model_figures (l : Launch) (D : va_G) (cT : Nat → ClassId) (h_m h_mz h_mout h_mwholes h_mparts h_mknown31 h_mprimes h_mrests h_mrows h_mdigits h_mopen : Nat) (sz : Nat) (v_thrown : Int32) (v_n : Int32) (v_has : Int32) (v_known : Int32) (v_many : Int32) (v_printed : Int32) (f_z : Nat → Int32) (f_out : Nat → Int32) (x1 : Int32) (x2 : Int32) (post : Int32 → (Nat → Int32) → (Nat → Int32) → Prop) (hw : wp_Model_figures post v_thrown v_n v_has v_known v_many v_printed x1 x2 f_z f_out) : Met l yX8_figures wX8_figures ({ frames := 1, cells := 0, slots := 0, locals := 23 } : Room) (va_Pc [.ref h_m, .int x1, .int x2] (pre_ D cT [(h_m, .inr (8, [.int v_thrown, .int v_n, .ref h_mwholes, .ref h_mparts, .int v_has, .int v_known, .ref h_mknown31, .int v_many, .ref h_mprimes, .ref h_mrests, .ref h_mrows, .ref h_mdigits, .ref h_mz, .ref h_mout, .int v_printed, .ref h_mopen])), (h_mz, .inl (cT 0, 1100, .inl f_z)), (h_mout, .inl (cT 0, 320, .inl f_out))] sz)) (va_Qi (fun (r : Int32) (u : (Nat → Int32) × (Nat → Int32)) => post r u.1 u.2) (fun u t => va_P D vwCl [(h_m, .inr (8, [.int v_thrown, .int v_n, .ref h_mwholes, .ref h_mparts, .int v_has, .int v_known, .ref h_mknown31, .int v_many, .ref h_mprimes, .ref h_mrests, .ref h_mrows, .ref h_mdigits, .ref h_mz, .ref h_mout, .int v_printed, .ref h_mopen])), (h_mz, .inl (cT 0, 1100, .inl u.1)), (h_mout, .inl (cT 0, 320, .inl u.2))] t.heap ∧ va_D (va_A [(h_m, .inr (8, [.int v_thrown, .int v_n, .ref h_mwholes, .ref h_mparts, .int v_has, .int v_known, .ref h_mknown31, .int v_many, .ref h_mprimes, .ref h_mrests, .ref h_mrows, .ref h_mdigits, .ref h_mz, .ref h_mout, .int v_printed, .ref h_mopen])), (h_mz, .inl (cT 0, 1100, .inl f_z)), (h_mout, .inl (cT 0, 320, .inl f_out))] sz) [(h_m, .inr (8, [.int v_thrown, .int v_n, .ref h_mwholes, .ref h_mparts, .int v_has, .int v_known, .ref h_mknown31, .int v_many, .ref h_mprimes, .ref h_mrests, .ref h_mrows, .ref h_mdigits, .ref h_mz, .ref h_mout, .int v_printed, .ref h_mopen])), (h_mz, .inl (cT 0, 1100, .inl u.1)), (h_mout, .inl (cT 0, 320, .inl u.2))]) (va_A [(h_m, .inr (8, [.int v_thrown, .int v_n, .ref h_mwholes, .ref h_mparts, .int v_has, .int v_known, .ref h_mknown31, .int v_many, .ref h_mprimes, .ref h_mrests, .ref h_mrows, .ref h_mdigits, .ref h_mz, .ref h_mout, .int v_printed, .ref h_mopen])), (h_mz, .inl (cT 0, 1100, .inl f_z)), (h_mout, .inl (cT 0, 320, .inl f_out))] sz)) 0 0 (va_A [(h_m, .inr (8, [.int v_thrown, .int v_n, .ref h_mwholes, .ref h_mparts, .int v_has, .int v_known, .ref h_mknown31, .int v_many, .ref h_mprimes, .ref h_mrests, .ref h_mrows, .ref h_mdigits, .ref h_mz, .ref h_mout, .int v_printed, .ref h_mopen])), (h_mz, .inl (cT 0, 1100, .inl f_z)), (h_mout, .inl (cT 0, 320, .inl f_out))] sz) := by
  refine Met.ofW (cc := cX8_figures) (maxL := 8) (ret := (some .int)) (by decide) rfl ?_
  intro p e s m args below meth c s₁ B hml hv
  obtain ⟨rfl, hsz, hP, hK, hD0, hN⟩ := hv
  have hx := B.exec
  have hb := B.bytes
  have hr := B.returns
  have hts : ∀ w ∈ WG, w.before _ s = true := fun w h => atoms_spec (ws := wX8_figures) B.pre w (List.mem_cons_of_mem _ h)
  have hown : s.vm.findClass RX8 = some m.cls := findClass_of_methodNamed B.named
  have hlocks := B.notSynchronized
  subst hsz
  have hD := hD0.self (sz := s.heap.size)
  generalize hAe : va_A [(h_m, .inr (8, [.int v_thrown, .int v_n, .ref h_mwholes, .ref h_mparts, .int v_has, .int v_known, .ref h_mknown31, .int v_many, .ref h_mprimes, .ref h_mrests, .ref h_mrows, .ref h_mdigits, .ref h_mz, .ref h_mout, .int v_printed, .ref h_mopen])), (h_mz, .inl (cT 0, 1100, .inl f_z)), (h_mout, .inl (cT 0, 320, .inl f_out))] s.heap.size = A at hD ⊢
  have hA : ∀ q : Nat, s.heap.size ≤ q → A q := fun q h => by rw [← hAe]; exact Or.inr h
  have hS : va_S A s.heap s.heap [] := va_S.rf
  have hl := lv_entry ([.ref h_m, .int x1, .int x2]) (n := 8) (Nat.le_of_ble_eq_true rfl)
  rw [lg_entry_eq]
  generalize (lg_sl ([.ref h_m, .int x1, .int x2]) ++ List.replicate (8 - (lg_sl ([.ref h_m, .int x1, .int x2])).length) Slot.unset).toArray = ls at hl ⊢
  refine tw_Model_figures (Q := MQ below _ _ s 0 0 A) ⟨⟨hx, hb, hml, hown, hts⟩, hK, hN⟩ hA (fun r f_z f_out H locs pc ls hp hP hD hS hd => W.iret (v := r) hx hb hr (fun t ht hW => ⟨⟨r, (f_z, f_out), rfl, hp, by rw [ht]; exact hP, hD⟩, hS.F ht⟩) hS.2.2 hd) _ _ _ _ _ _ _ hP hD hS hl hw
end
def wp_Model_noLikelihood_25 (post : Int32 → Int32 → Prop) (v_n : Int32) (v_has : Int32) (v_known : Int32) (v_many : Int32) (v_printed : Int32)  (y0 : Int32) (v_thrown : Int32) : Prop := (narrow .boolean (.int y0) = .int y0 ∧ post y0 v_thrown)
def wp_Model_noLikelihood_20 (post : Int32 → Int32 → Prop) (v_n : Int32) (v_has : Int32) (v_known : Int32) (v_many : Int32) (v_printed : Int32)  (v_thrown : Int32) : Prop := wp_Model_noLikelihood_25 post v_n v_has v_known v_many v_printed 1 v_thrown
def wp_Model_noLikelihood (post : Int32 → Int32 → Prop) (v_n : Int32) (v_has : Int32) (v_known : Int32) (v_many : Int32) (v_printed : Int32)  (x1 : Int32) (v_thrown : Int32) : Prop := ((v_has = 0 → (wp_Model_noLikelihood_20 post v_n v_has v_known v_many v_printed 0)) ∧ (¬ v_has = 0 → (wp_Model_noState (fun r_2 => ((r_2 = 0 → (wp_Model_noLikelihood_25 post v_n v_has v_known v_many v_printed 0 0)) ∧ (¬ r_2 = 0 → (wp_Model_noLikelihood_20 post v_n v_has v_known v_many v_printed 0)))) 0 v_n v_has v_known v_many v_printed x1)))
section
variable {p : Program} {l : Launch} {e : Env} {s : State} {m : MethodId} {args : Array Value} {below : List Frame} {meth : Method} {c : Code} {Q : State → Prop} {A : Nat → Prop} {D : va_G} {cT : Nat → ClassId}
set_option maxHeartbeats 4000000 in
set_option maxRecDepth 100000 in
theorem tw_Model_noLikelihood_25 {post : Int32 → Int32 → Prop} {h_m h_mwholes h_mparts h_mknown31 h_mprimes h_mrests h_mrows h_mdigits h_mz h_mout h_mopen : Nat} {v_n : Int32} {v_has : Int32} {v_known : Int32} {v_many : Int32} {v_printed : Int32}  (C0 : cx RX8 cX8_noLikelihood 2 D cT p s m c args) (hA : ∀ q, s.heap.size ≤ q → A q) (hret : ∀ (r : Int32) (v_thrown : Int32) (H : Heap) (locs : List Loc) (pc : Nat) (ls : Array Slot), narrow .boolean (.int r) = .int r → post r v_thrown → va_P D vwCl [(h_m, .inr (8, [.int v_thrown, .int v_n, .ref h_mwholes, .ref h_mparts, .int v_has, .int v_known, .ref h_mknown31, .int v_many, .ref h_mprimes, .ref h_mrests, .ref h_mrows, .ref h_mdigits, .ref h_mz, .ref h_mout, .int v_printed, .ref h_mopen]))] H → va_D A [(h_m, .inr (8, [.int v_thrown, .int v_n, .ref h_mwholes, .ref h_mparts, .int v_has, .int v_known, .ref h_mknown31, .int v_many, .ref h_mprimes, .ref h_mrests, .ref h_mrows, .ref h_mdigits, .ref h_mz, .ref h_mout, .int v_printed, .ref h_mopen]))] → va_S A s.heap H locs → decode cX8_noLikelihood pc = .ok (.ireturn, 1) → W p l e ({ frames := 1, cells := 0, slots := 0, locals := 21 } : Room) s m args below meth c H locs 0 0 Q (F0 m pc ls [.int r]))  : ∀ (y0 : Int32) (v_thrown : Int32) (H : Heap) (locs : List Loc) (ls : Array Slot), va_P D vwCl [(h_m, .inr (8, [.int v_thrown, .int v_n, .ref h_mwholes, .ref h_mparts, .int v_has, .int v_known, .ref h_mknown31, .int v_many, .ref h_mprimes, .ref h_mrests, .ref h_mrows, .ref h_mdigits, .ref h_mz, .ref h_mout, .int v_printed, .ref h_mopen]))] H → va_D A [(h_m, .inr (8, [.int v_thrown, .int v_n, .ref h_mwholes, .ref h_mparts, .int v_has, .int v_known, .ref h_mknown31, .int v_many, .ref h_mprimes, .ref h_mrests, .ref h_mrows, .ref h_mdigits, .ref h_mz, .ref h_mout, .int v_printed, .ref h_mopen]))] → va_S A s.heap H locs → lv_has ls 2 [] → wp_Model_noLikelihood_25 post v_n v_has v_known v_many v_printed y0 v_thrown → W p l e ({ frames := 1, cells := 0, slots := 0, locals := 21 } : Room) s m args below meth c H locs 0 0 Q (F0 m 25 ls [.int y0]) := by
  obtain ⟨⟨hx, hb, hml, hown, hts⟩, hK, hN⟩ := id C0
  intro y0 v_thrown H locs ls hP hD hS hl hw
  unfold wp_Model_noLikelihood_25 at hw
  exact hret _ _ _ _ _ _ hw.1 hw.2 hP hD hS dX8_noLikelihood_25
set_option maxHeartbeats 4000000 in
set_option maxRecDepth 100000 in
theorem tw_Model_noLikelihood_20 {post : Int32 → Int32 → Prop} {h_m h_mwholes h_mparts h_mknown31 h_mprimes h_mrests h_mrows h_mdigits h_mz h_mout h_mopen : Nat} {v_n : Int32} {v_has : Int32} {v_known : Int32} {v_many : Int32} {v_printed : Int32}  (C0 : cx RX8 cX8_noLikelihood 2 D cT p s m c args) (hA : ∀ q, s.heap.size ≤ q → A q) (hret : ∀ (r : Int32) (v_thrown : Int32) (H : Heap) (locs : List Loc) (pc : Nat) (ls : Array Slot), narrow .boolean (.int r) = .int r → post r v_thrown → va_P D vwCl [(h_m, .inr (8, [.int v_thrown, .int v_n, .ref h_mwholes, .ref h_mparts, .int v_has, .int v_known, .ref h_mknown31, .int v_many, .ref h_mprimes, .ref h_mrests, .ref h_mrows, .ref h_mdigits, .ref h_mz, .ref h_mout, .int v_printed, .ref h_mopen]))] H → va_D A [(h_m, .inr (8, [.int v_thrown, .int v_n, .ref h_mwholes, .ref h_mparts, .int v_has, .int v_known, .ref h_mknown31, .int v_many, .ref h_mprimes, .ref h_mrests, .ref h_mrows, .ref h_mdigits, .ref h_mz, .ref h_mout, .int v_printed, .ref h_mopen]))] → va_S A s.heap H locs → decode cX8_noLikelihood pc = .ok (.ireturn, 1) → W p l e ({ frames := 1, cells := 0, slots := 0, locals := 21 } : Room) s m args below meth c H locs 0 0 Q (F0 m pc ls [.int r]))  : ∀ (v_thrown : Int32) (H : Heap) (locs : List Loc) (ls : Array Slot), va_P D vwCl [(h_m, .inr (8, [.int v_thrown, .int v_n, .ref h_mwholes, .ref h_mparts, .int v_has, .int v_known, .ref h_mknown31, .int v_many, .ref h_mprimes, .ref h_mrests, .ref h_mrows, .ref h_mdigits, .ref h_mz, .ref h_mout, .int v_printed, .ref h_mopen]))] H → va_D A [(h_m, .inr (8, [.int v_thrown, .int v_n, .ref h_mwholes, .ref h_mparts, .int v_has, .int v_known, .ref h_mknown31, .int v_many, .ref h_mprimes, .ref h_mrests, .ref h_mrows, .ref h_mdigits, .ref h_mz, .ref h_mout, .int v_printed, .ref h_mopen]))] → va_S A s.heap H locs → lv_has ls 2 [] → wp_Model_noLikelihood_20 post v_n v_has v_known v_many v_printed v_thrown → W p l e ({ frames := 1, cells := 0, slots := 0, locals := 21 } : Room) s m args below meth c H locs 0 0 Q (F0 m 20 ls []) := by
  obtain ⟨⟨hx, hb, hml, hown, hts⟩, hK, hN⟩ := id C0
  intro v_thrown H locs ls hP hD hS hl hw
  unfold wp_Model_noLikelihood_20 at hw
  refine lv_iconst (v := 1) hx hb dX8_noLikelihood_20 (by decide) ?_
  refine lv_goto (tgt := 25) hx hb dX8_noLikelihood_21 (by decide) ?_
  exact tw_Model_noLikelihood_25 C0 hA hret  _ _ _ _ _ hP hD hS (lv_sub hl [] rfl) hw
set_option maxHeartbeats 4000000 in
set_option maxRecDepth 100000 in
theorem tw_Model_noLikelihood {post : Int32 → Int32 → Prop} {h_m h_mwholes h_mparts h_mknown31 h_mprimes h_mrests h_mrows h_mdigits h_mz h_mout h_mopen : Nat} {v_n : Int32} {v_has : Int32} {v_known : Int32} {v_many : Int32} {v_printed : Int32}  (C0 : cx RX8 cX8_noLikelihood 2 D cT p s m c args) (hA : ∀ q, s.heap.size ≤ q → A q) (hret : ∀ (r : Int32) (v_thrown : Int32) (H : Heap) (locs : List Loc) (pc : Nat) (ls : Array Slot), narrow .boolean (.int r) = .int r → post r v_thrown → va_P D vwCl [(h_m, .inr (8, [.int v_thrown, .int v_n, .ref h_mwholes, .ref h_mparts, .int v_has, .int v_known, .ref h_mknown31, .int v_many, .ref h_mprimes, .ref h_mrests, .ref h_mrows, .ref h_mdigits, .ref h_mz, .ref h_mout, .int v_printed, .ref h_mopen]))] H → va_D A [(h_m, .inr (8, [.int v_thrown, .int v_n, .ref h_mwholes, .ref h_mparts, .int v_has, .int v_known, .ref h_mknown31, .int v_many, .ref h_mprimes, .ref h_mrests, .ref h_mrows, .ref h_mdigits, .ref h_mz, .ref h_mout, .int v_printed, .ref h_mopen]))] → va_S A s.heap H locs → decode cX8_noLikelihood pc = .ok (.ireturn, 1) → W p l e ({ frames := 1, cells := 0, slots := 0, locals := 21 } : Room) s m args below meth c H locs 0 0 Q (F0 m pc ls [.int r]))  : ∀ (x1 : Int32) (v_thrown : Int32) (H : Heap) (locs : List Loc) (ls : Array Slot), va_P D vwCl [(h_m, .inr (8, [.int v_thrown, .int v_n, .ref h_mwholes, .ref h_mparts, .int v_has, .int v_known, .ref h_mknown31, .int v_many, .ref h_mprimes, .ref h_mrests, .ref h_mrows, .ref h_mdigits, .ref h_mz, .ref h_mout, .int v_printed, .ref h_mopen]))] H → va_D A [(h_m, .inr (8, [.int v_thrown, .int v_n, .ref h_mwholes, .ref h_mparts, .int v_has, .int v_known, .ref h_mknown31, .int v_many, .ref h_mprimes, .ref h_mrests, .ref h_mrows, .ref h_mdigits, .ref h_mz, .ref h_mout, .int v_printed, .ref h_mopen]))] → va_S A s.heap H locs → lv_has ls 2 [(0, .ref h_m), (1, .int x1)] → wp_Model_noLikelihood post v_n v_has v_known v_many v_printed x1 v_thrown → W p l e ({ frames := 1, cells := 0, slots := 0, locals := 21 } : Room) s m args below meth c H locs 0 0 Q (F0 m 0 ls []) := by
  obtain ⟨⟨hx, hb, hml, hown, hts⟩, hK, hN⟩ := id C0
  intro x1 v_thrown H locs ls hP hD hS hl hw
  unfold wp_Model_noLikelihood at hw
  refine lv_aload_n hx hb dX8_noLikelihood_0 rfl (lv_at hl 0 rfl) ?_
  refine lv_iconst (v := 0) hx hb dX8_noLikelihood_1 (by decide) ?_
  refine va_put (D := D) (ci := 8) (v := .int 0) (ty := .int) (C := RX8) (T := TX8) (N := 16) hx hb hts inX8 tyX8 tyX8_ok nmX8 hown hK hP hD hS 0 rfl rfl 0 (by decide) (hts _ q_583) (fun _ h9 => h9) rfl (by decide +kernel) rfl rfl (Nat.le_of_ble_eq_true rfl) dX8_noLikelihood_2 (fun H locs hP hD hS => ?_)
  have hP : va_P D vwCl [(h_m, .inr (8, [.int 0, .int v_n, .ref h_mwholes, .ref h_mparts, .int v_has, .int v_known, .ref h_mknown31, .int v_many, .ref h_mprimes, .ref h_mrests, .ref h_mrows, .ref h_mdigits, .ref h_mz, .ref h_mout, .int v_printed, .ref h_mopen]))] H := hP
  have hD : va_D A [(h_m, .inr (8, [.int 0, .int v_n, .ref h_mwholes, .ref h_mparts, .int v_has, .int v_known, .ref h_mknown31, .int v_many, .ref h_mprimes, .ref h_mrests, .ref h_mrows, .ref h_mdigits, .ref h_mz, .ref h_mout, .int v_printed, .ref h_mopen]))] := hD
  refine lv_aload_n hx hb dX8_noLikelihood_5 rfl (lv_at hl 0 rfl) ?_
  refine va_get (D := D) (ci := 8) (v := .int v_has) (C := RX8) (T := TX8) (N := 16) hx hb hts inX8 hown hK hP 0 rfl rfl 4 (by decide) (hts _ q_587) (fun _ h9 => h9) rfl dX8_noLikelihood_6 ?_
  refine lv_if_eq (tgt := 20) hx hb dX8_noLikelihood_9 (by decide) (fun c_1 => ?_) (fun c_1 => ?_)
  · have hw := hw.1 c_1
    exact tw_Model_noLikelihood_20 C0 hA hret  _ _ _ _ hP hD hS (lv_sub hl [] rfl) hw
  · have hw := hw.2 c_1
    refine lv_aload_n hx hb dX8_noLikelihood_12 rfl (lv_at hl 0 rfl) ?_
    refine lv_iload_n hx hb dX8_noLikelihood_13 rfl (lv_at hl 1 rfl) ?_
    have hPc := hP.sub (ws' := [(h_m, .inr (8, [.int 0, .int v_n, .ref h_mwholes, .ref h_mparts, .int v_has, .int v_known, .ref h_mknown31, .int v_many, .ref h_mprimes, .ref h_mrests, .ref h_mrows, .ref h_mdigits, .ref h_mz, .ref h_mout, .int v_printed, .ref h_mopen]))]) [0] rfl
    have hDc := hD.sub (ws' := [(h_m, .inr (8, [.int 0, .int v_n, .ref h_mwholes, .ref h_mparts, .int v_has, .int v_known, .ref h_mknown31, .int v_many, .ref h_mprimes, .ref h_mrests, .ref h_mrows, .ref h_mdigits, .ref h_mz, .ref h_mout, .int v_printed, .ref h_mopen]))]) [0] (by decide) rfl
    have hFc := va_free (wc := [(h_m, .inr (8, [.int 0, .int v_n, .ref h_mwholes, .ref h_mparts, .int v_has, .int v_known, .ref h_mknown31, .int v_many, .ref h_mprimes, .ref h_mrests, .ref h_mrows, .ref h_mdigits, .ref h_mz, .ref h_mout, .int v_printed, .ref h_mopen]))]) hD hS hA [0] rfl
    refine va_calli (va_runV (As := [.int x1]) (rest := []) ⟨hx, hb, hml, hown, hts⟩ (cn_Model_noState l D cT h_m h_mwholes h_mparts h_mknown31 h_mprimes h_mrests h_mrows h_mdigits h_mz h_mout h_mopen H.size 0 v_n v_has v_known v_many v_printed x1 _ hw) (gv_ 1 q_647 q_9 q_644 q_646 qs_20 (by decide +kernel) ⟨Nat.le_of_ble_eq_true rfl, Nat.le_of_ble_eq_true rfl⟩ hts) ⟨pre_blind, va_recv hK hPc (ci := 8) (q0 := 0) rfl rfl, fun U hU hW => ⟨rfl, pre_mk hU hW hPc hK hDc hN⟩⟩ rfl rfl hl.1 rfl (lv_room (Nat.le_of_ble_eq_true rfl)) dX8_noLikelihood_14 ⟨(Nat.zero_le _), (Nat.zero_le _)⟩) hS (fun q _ h => hFc q h) hFc (fun r_2 u9 t H locs ht hvm hw hB hz1 hk1 hS => ?_)
    obtain ⟨hP1, hD1⟩ := hB
    rw [ht] at hP1
    obtain ⟨hP, hD⟩ := va_join (wr := []) (w1 := [(h_m, .inr (8, [.int 0, .int v_n, .ref h_mwholes, .ref h_mparts, .int v_has, .int v_known, .ref h_mknown31, .int v_many, .ref h_mprimes, .ref h_mrests, .ref h_mrows, .ref h_mdigits, .ref h_mz, .ref h_mout, .int v_printed, .ref h_mopen]))]) hP hD [0] [] rfl rfl (by decide) (by decide) hk1 hFc hP1 hD1
    have hP := hP.sub (ws' := [(h_m, .inr (8, [.int 0, .int v_n, .ref h_mwholes, .ref h_mparts, .int v_has, .int v_known, .ref h_mknown31, .int v_many, .ref h_mprimes, .ref h_mrests, .ref h_mrows, .ref h_mdigits, .ref h_mz, .ref h_mout, .int v_printed, .ref h_mopen]))]) [0] rfl
    have hD := hD.sub (ws' := [(h_m, .inr (8, [.int 0, .int v_n, .ref h_mwholes, .ref h_mparts, .int v_has, .int v_known, .ref h_mknown31, .int v_many, .ref h_mprimes, .ref h_mrests, .ref h_mrows, .ref h_mdigits, .ref h_mz, .ref h_mout, .int v_printed, .ref h_mopen]))]) [0] (by decide) rfl
    clear hP1 hD1 hPc hDc hFc hk1 hz1 hvm ht
    try dsimp only at hw
    refine lv_if_eq (tgt := 24) hx hb dX8_noLikelihood_17 (by decide) (fun c_3 => ?_) (fun c_3 => ?_)
    · have hw := hw.1 c_3
      refine lv_iconst (v := 0) hx hb dX8_noLikelihood_24 (by decide) ?_
      exact tw_Model_noLikelihood_25 C0 hA hret  _ _ _ _ _ hP hD hS (lv_sub hl [] rfl) hw
    · have hw := hw.2 c_3
      exact tw_Model_noLikelihood_20 C0 hA hret  _ _ _ _ hP hD hS (lv_sub hl [] rfl) hw
set_option maxHeartbeats 4000000 in
set_option maxRecDepth 100000 in
theorem cn_Model_noLikelihood (l : Launch) (D : va_G) (cT : Nat → ClassId) (h_m h_mwholes h_mparts h_mknown31 h_mprimes h_mrests h_mrows h_mdigits h_mz h_mout h_mopen : Nat) (sz : Nat) (v_thrown : Int32) (v_n : Int32) (v_has : Int32) (v_known : Int32) (v_many : Int32) (v_printed : Int32) (x1 : Int32) (post : Int32 → Int32 → Prop) (hw : wp_Model_noLikelihood post v_n v_has v_known v_many v_printed x1 v_thrown) : Met l yX8_noLikelihood wX8_noLikelihood ({ frames := 1, cells := 0, slots := 0, locals := 21 } : Room) (va_Pc [.ref h_m, .int x1] (pre_ D cT [(h_m, .inr (8, [.int v_thrown, .int v_n, .ref h_mwholes, .ref h_mparts, .int v_has, .int v_known, .ref h_mknown31, .int v_many, .ref h_mprimes, .ref h_mrests, .ref h_mrows, .ref h_mdigits, .ref h_mz, .ref h_mout, .int v_printed, .ref h_mopen]))] sz)) (va_Qi (fun (r : Int32) (u : Int32) => post r u) (fun u t => va_P D vwCl [(h_m, .inr (8, [.int u, .int v_n, .ref h_mwholes, .ref h_mparts, .int v_has, .int v_known, .ref h_mknown31, .int v_many, .ref h_mprimes, .ref h_mrests, .ref h_mrows, .ref h_mdigits, .ref h_mz, .ref h_mout, .int v_printed, .ref h_mopen]))] t.heap ∧ va_D (va_A [(h_m, .inr (8, [.int v_thrown, .int v_n, .ref h_mwholes, .ref h_mparts, .int v_has, .int v_known, .ref h_mknown31, .int v_many, .ref h_mprimes, .ref h_mrests, .ref h_mrows, .ref h_mdigits, .ref h_mz, .ref h_mout, .int v_printed, .ref h_mopen]))] sz) [(h_m, .inr (8, [.int u, .int v_n, .ref h_mwholes, .ref h_mparts, .int v_has, .int v_known, .ref h_mknown31, .int v_many, .ref h_mprimes, .ref h_mrests, .ref h_mrows, .ref h_mdigits, .ref h_mz, .ref h_mout, .int v_printed, .ref h_mopen]))]) (va_A [(h_m, .inr (8, [.int v_thrown, .int v_n, .ref h_mwholes, .ref h_mparts, .int v_has, .int v_known, .ref h_mknown31, .int v_many, .ref h_mprimes, .ref h_mrests, .ref h_mrows, .ref h_mdigits, .ref h_mz, .ref h_mout, .int v_printed, .ref h_mopen]))] sz)) 0 0 (va_A [(h_m, .inr (8, [.int v_thrown, .int v_n, .ref h_mwholes, .ref h_mparts, .int v_has, .int v_known, .ref h_mknown31, .int v_many, .ref h_mprimes, .ref h_mrests, .ref h_mrows, .ref h_mdigits, .ref h_mz, .ref h_mout, .int v_printed, .ref h_mopen]))] sz) := by
  refine Met.ofW (cc := cX8_noLikelihood) (maxL := 2) (ret := (some .boolean)) (by decide) rfl ?_
  intro p e s m args below meth c s₁ B hml hv
  obtain ⟨rfl, hsz, hP, hK, hD0, hN⟩ := hv
  have hx := B.exec
  have hb := B.bytes
  have hr := B.returns
  have hts : ∀ w ∈ WG, w.before _ s = true := fun w h => atoms_spec (ws := wX8_noLikelihood) B.pre w (List.mem_cons_of_mem _ h)
  have hown : s.vm.findClass RX8 = some m.cls := findClass_of_methodNamed B.named
  have hlocks := B.notSynchronized
  subst hsz
  have hD := hD0.self (sz := s.heap.size)
  generalize hAe : va_A [(h_m, .inr (8, [.int v_thrown, .int v_n, .ref h_mwholes, .ref h_mparts, .int v_has, .int v_known, .ref h_mknown31, .int v_many, .ref h_mprimes, .ref h_mrests, .ref h_mrows, .ref h_mdigits, .ref h_mz, .ref h_mout, .int v_printed, .ref h_mopen]))] s.heap.size = A at hD ⊢
  have hA : ∀ q : Nat, s.heap.size ≤ q → A q := fun q h => by rw [← hAe]; exact Or.inr h
  have hS : va_S A s.heap s.heap [] := va_S.rf
  have hl := lv_entry ([.ref h_m, .int x1]) (n := 2) (Nat.le_of_ble_eq_true rfl)
  rw [lg_entry_eq]
  generalize (lg_sl ([.ref h_m, .int x1]) ++ List.replicate (2 - (lg_sl ([.ref h_m, .int x1])).length) Slot.unset).toArray = ls at hl ⊢
  refine tw_Model_noLikelihood (Q := MQ below _ _ s 0 0 A) ⟨⟨hx, hb, hml, hown, hts⟩, hK, hN⟩ hA (fun r v_thrown H locs pc ls hn9 hp hP hD hS hd => W.zret (v := r) hx hb hr hn9 (fun t ht hW => ⟨⟨r, (v_thrown), rfl, hp, by rw [ht]; exact hP, hD⟩, hS.F ht⟩) hS.2.2 hd) _ _ _ _ _ hP hD hS hl hw
end
