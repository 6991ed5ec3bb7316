def wp_Natural_set_2 (post : (Nat → Int32) → Prop)   : Nat → Int32 → Int32 → (Nat → Int32) → Prop
  | 0 => fun _ _ _ => False
  | n + 1 => fun x1 x2 f_t => ((16 ≤ x2 → ((vp_in 0 16 ∧ (post (upd f_t (0 : Int32).toNatClampNeg x1))))) ∧ (¬ 16 ≤ x2 → ((vp_in x2 16 ∧ (∀ x2_4 : Int32, x2_4 = x2 + 1 → wp_Natural_set_2 post n x1 x2_4 (upd f_t x2.toNatClampNeg 0))))))
def wp_Natural_set (post : (Nat → Int32) → Prop)   (x1 : Int32) (f_t : Nat → Int32) : Prop := ∃ k9, wp_Natural_set_2 post k9 x1 1 f_t
section
variable {p : Program} {l : Launch} {e : Env} {s : State} {m : MethodId} {args : Array Value} {below : List Frame} {meth : Method} {c : Code} {Q : State → Prop} {A : Nat → Prop} {D : va_G} {cT : Nat → ClassId}
set_option maxHeartbeats 4000000 in
set_option maxRecDepth 100000 in
theorem tw_Natural_set_2 {post : (Nat → Int32) → Prop} {h_t h_tl : Nat}   (C0 : cx RX4 cX4_set 3 D cT p s m c args) (hA : ∀ q, s.heap.size ≤ q → A q) (hret : ∀ (f_t : Nat → Int32) (H : Heap) (locs : List Loc) (pc : Nat) (ls : Array Slot), post f_t → va_P D vwCl [(h_t, .inr (4, [.ref h_tl])), (h_tl, .inl (cT 0, 16, .inl f_t))] H → va_D A [(h_t, .inr (4, [.ref h_tl])), (h_tl, .inl (cT 0, 16, .inl f_t))] → va_S A s.heap H locs → decode cX4_set pc = .ok (.return_, 1) → W p l e ({ frames := 0, cells := 0, slots := 0, locals := 0 } : Room) s m args below meth c H locs 0 0 Q (F0 m pc ls []))  : ∀ (n : Nat) (x1 : Int32) (x2 : Int32) (f_t : Nat → Int32) (H : Heap) (locs : List Loc) (ls : Array Slot), va_P D vwCl [(h_t, .inr (4, [.ref h_tl])), (h_tl, .inl (cT 0, 16, .inl f_t))] H → va_D A [(h_t, .inr (4, [.ref h_tl])), (h_tl, .inl (cT 0, 16, .inl f_t))] → va_S A s.heap H locs → lv_has ls 3 [(0, .ref h_t), (1, .int x1), (2, .int x2)] → wp_Natural_set_2 post n x1 x2 f_t → W p l e ({ frames := 0, cells := 0, slots := 0, locals := 0 } : Room) s m args below meth c H locs 0 0 Q (F0 m 2 ls []) := by
  obtain ⟨⟨hx, hb, hml, hown, hts⟩, hK, hN⟩ := id C0
  intro n
  induction n with
  | zero => intro x1 x2 f_t H locs ls hP hD hS hl hw; exact hw.elim
  | succ n ih =>
    intro x1 x2 f_t H locs ls hP hD hS hl hw
    unfold wp_Natural_set_2 at hw
    refine lv_iload_n hx hb dX4_set_2 rfl (lv_at hl 2 rfl) ?_
    refine lv_bipush (v := 16) hx hb dX4_set_3 (by decide) ?_
    refine lv_icmp_ge (tgt := 21) hx hb dX4_set_5 (by decide) (fun c_1 => ?_) (fun c_1 => ?_)
    · have hw := hw.1 c_1
      refine lv_aload_n hx hb dX4_set_21 rfl (lv_at hl 0 rfl) ?_
      refine va_get (D := D) (ci := 4) (v := .ref h_tl) (C := RX4) (T := TX4) (N := 1) hx hb hts inX4 hown hK hP 0 rfl rfl 0 (by decide) (hts _ q_105) (fun _ h9 => h9) rfl dX4_set_22 ?_
      refine lv_iconst (v := 0) hx hb dX4_set_25 (by decide) ?_
      refine lv_iload_n hx hb dX4_set_26 rfl (lv_at hl 1 rfl) ?_
      obtain ⟨h_2, hw⟩ := hw
      refine va_iast hx hb hK hP hD hS 1 0 rfl rfl h_2 dX4_set_27 (fun H locs hP hD hS => ?_)
      have hP : va_P D vwCl [(h_t, .inr (4, [.ref h_tl])), (h_tl, .inl (cT 0, 16, .inl (upd f_t (0 : Int32).toNatClampNeg x1)))] H := hP
      have hD : va_D A [(h_t, .inr (4, [.ref h_tl])), (h_tl, .inl (cT 0, 16, .inl (upd f_t (0 : Int32).toNatClampNeg x1)))] := hD
      exact hret _ _ _ _ _ hw hP hD hS dX4_set_28
    · have hw := hw.2 c_1
      refine lv_aload_n hx hb dX4_set_8 rfl (lv_at hl 0 rfl) ?_
      refine va_get (D := D) (ci := 4) (v := .ref h_tl) (C := RX4) (T := TX4) (N := 1) hx hb hts inX4 hown hK hP 0 rfl rfl 0 (by decide) (hts _ q_105) (fun _ h9 => h9) rfl dX4_set_9 ?_
      refine lv_iload_n hx hb dX4_set_12 rfl (lv_at hl 2 rfl) ?_
      refine lv_iconst (v := 0) hx hb dX4_set_13 (by decide) ?_
      obtain ⟨h_3, hw⟩ := hw
      refine va_iast hx hb hK hP hD hS 1 0 rfl rfl h_3 dX4_set_14 (fun H locs hP hD hS => ?_)
      have hP : va_P D vwCl [(h_t, .inr (4, [.ref h_tl])), (h_tl, .inl (cT 0, 16, .inl (upd f_t x2.toNatClampNeg 0)))] H := hP
      have hD : va_D A [(h_t, .inr (4, [.ref h_tl])), (h_tl, .inl (cT 0, 16, .inl (upd f_t x2.toNatClampNeg 0)))] := hD
      obtain ⟨x2_4, ex2_4⟩ : ∃ y : Int32, y = x2 + 1 := ⟨_, rfl⟩
      refine lv_iinc (v := x2_4) (lv' := [(2, .int x2_4), (0, .ref h_t), (1, .int x1)]) hx hb dX4_set_15 hl (k := 2) rfl (by rw [ex2_4]; rfl) (by decide) rfl (fun ls hl => ?_)
      have hw := hw x2_4 ex2_4
      refine lv_goto (tgt := 2) hx hb dX4_set_18 (by decide) ?_
      exact ih _ _ _ _ _ _ hP hD hS (lv_sub hl [1, 2, 0] rfl) hw
set_option maxHeartbeats 4000000 in
set_option maxRecDepth 100000 in
theorem tw_Natural_set {post : (Nat → Int32) → Prop} {h_t h_tl : Nat}   (C0 : cx RX4 cX4_set 3 D cT p s m c args) (hA : ∀ q, s.heap.size ≤ q → A q) (hret : ∀ (f_t : Nat → Int32) (H : Heap) (locs : List Loc) (pc : Nat) (ls : Array Slot), post f_t → va_P D vwCl [(h_t, .inr (4, [.ref h_tl])), (h_tl, .inl (cT 0, 16, .inl f_t))] H → va_D A [(h_t, .inr (4, [.ref h_tl])), (h_tl, .inl (cT 0, 16, .inl f_t))] → va_S A s.heap H locs → decode cX4_set pc = .ok (.return_, 1) → W p l e ({ frames := 0, cells := 0, slots := 0, locals := 0 } : Room) s m args below meth c H locs 0 0 Q (F0 m pc ls []))  : ∀ (x1 : Int32) (f_t : Nat → Int32) (H : Heap) (locs : List Loc) (ls : Array Slot), va_P D vwCl [(h_t, .inr (4, [.ref h_tl])), (h_tl, .inl (cT 0, 16, .inl f_t))] H → va_D A [(h_t, .inr (4, [.ref h_tl])), (h_tl, .inl (cT 0, 16, .inl f_t))] → va_S A s.heap H locs → lv_has ls 3 [(0, .ref h_t), (1, .int x1)] → wp_Natural_set post x1 f_t → W p l e ({ frames := 0, cells := 0, slots := 0, locals := 0 } : Room) s m args below meth c H locs 0 0 Q (F0 m 0 ls []) := by
  obtain ⟨⟨hx, hb, hml, hown, hts⟩, hK, hN⟩ := id C0
  intro x1 f_t H locs ls hP hD hS hl hw
  unfold wp_Natural_set at hw
  refine lv_iconst (v := 1) hx hb dX4_set_0 (by decide) ?_
  refine lv_istore_n (lv' := [(2, .int 1), (0, .ref h_t), (1, .int x1)]) hx hb dX4_set_1 rfl hl (by decide) rfl (fun ls hl => ?_)
  obtain ⟨n9, hw⟩ := hw
  exact tw_Natural_set_2 C0 hA hret  n9 _ _ _ _ _ _ hP hD hS (lv_sub hl [1, 2, 0] rfl) hw
set_option maxHeartbeats 4000000 in
set_option maxRecDepth 100000 in
theorem cn_Natural_set (l : Launch) (D : va_G) (cT : Nat → ClassId) (h_t h_tl : Nat) (sz : Nat) (f_t : Nat → Int32) (x1 : Int32) (post : (Nat → Int32) → Prop) (hw : wp_Natural_set post x1 f_t) : Met l yX4_set wX4_set ({ frames := 0, cells := 0, slots := 0, locals := 0 } : Room) (va_Pc [.ref h_t, .int x1] (pre_ D cT [(h_t, .inr (4, [.ref h_tl])), (h_tl, .inl (cT 0, 16, .inl f_t))] sz)) (va_Qv (fun (u : (Nat → Int32)) => post u) (fun u t => va_P D vwCl [(h_t, .inr (4, [.ref h_tl])), (h_tl, .inl (cT 0, 16, .inl u))] t.heap ∧ va_D (va_A [(h_t, .inr (4, [.ref h_tl])), (h_tl, .inl (cT 0, 16, .inl f_t))] sz) [(h_t, .inr (4, [.ref h_tl])), (h_tl, .inl (cT 0, 16, .inl u))]) (va_A [(h_t, .inr (4, [.ref h_tl])), (h_tl, .inl (cT 0, 16, .inl f_t))] sz)) 0 0 (va_A [(h_t, .inr (4, [.ref h_tl])), (h_tl, .inl (cT 0, 16, .inl f_t))] sz) := by
  refine Met.ofW (cc := cX4_set) (maxL := 3) (ret := none) (by decide) rfl ?_
  intro p e s m args below meth c s₁ B hml hv
  obtain ⟨rfl, hsz, hP, hK, hD0, hN⟩ := hv
  have hx := B.exec
  have hb := B.bytes
  have hr := B.returns
  have hts : ∀ w ∈ WG, w.before _ s = true := fun w h => atoms_spec (ws := wX4_set) B.pre w (List.mem_cons_of_mem _ h)
  have hown : s.vm.findClass RX4 = some m.cls := findClass_of_methodNamed B.named
  have hlocks := B.notSynchronized
  subst hsz
  have hD := hD0.self (sz := s.heap.size)
  generalize hAe : va_A [(h_t, .inr (4, [.ref h_tl])), (h_tl, .inl (cT 0, 16, .inl f_t))] s.heap.size = A at hD ⊢
  have hA : ∀ q : Nat, s.heap.size ≤ q → A q := fun q h => by rw [← hAe]; exact Or.inr h
  have hS : va_S A s.heap s.heap [] := va_S.rf
  have hl := lv_entry ([.ref h_t, .int x1]) (n := 3) (Nat.le_of_ble_eq_true rfl)
  rw [lg_entry_eq]
  generalize (lg_sl ([.ref h_t, .int x1]) ++ List.replicate (3 - (lg_sl ([.ref h_t, .int x1])).length) Slot.unset).toArray = ls at hl ⊢
  refine tw_Natural_set (Q := MQ below _ _ s 0 0 A) ⟨⟨hx, hb, hml, hown, hts⟩, hK, hN⟩ hA (fun f_t H locs pc ls hp hP hD hS hd => W.vret hx hb hr (fun t ht hW => ⟨⟨(f_t), rfl, hp, by rw [ht]; exact hP, hD⟩, hS.F ht⟩) hS.2.2 hd) _ _ _ _ _ hP hD hS hl hw
end
def wp_Natural_copy_2 (post : (Nat → Int32) → Prop) (f_u : Nat → Int32)  : Nat → Int32 → (Nat → Int32) → Prop
  | 0 => fun _ _ => False
  | n + 1 => fun x2 f_t => ((16 ≤ x2 → (post f_t)) ∧ (¬ 16 ≤ x2 → ((vp_in x2 16 ∧ ((vp_in x2 16 ∧ (∀ x2_4 : Int32, x2_4 = x2 + 1 → wp_Natural_copy_2 post f_u n x2_4 (upd f_t x2.toNatClampNeg (f_u x2.toNatClampNeg)))))))))
def wp_Natural_copy (post : (Nat → Int32) → Prop) (f_u : Nat → Int32)  (f_t : Nat → Int32) : Prop := ∃ k9, wp_Natural_copy_2 post f_u k9 0 f_t
section
variable {p : Program} {l : Launch} {e : Env} {s : State} {m : MethodId} {args : Array Value} {below : List Frame} {meth : Method} {c : Code} {Q : State → Prop} {A : Nat → Prop} {D : va_G} {cT : Nat → ClassId}
set_option maxHeartbeats 4000000 in
set_option maxRecDepth 100000 in
theorem tw_Natural_copy_2 {post : (Nat → Int32) → Prop} {h_t h_tl h_u h_ul : Nat} {f_u : Nat → Int32}  (C0 : cx RX4 cX4_copy 3 D cT p s m c args) (hA : ∀ q, s.heap.size ≤ q → A q) (hret : ∀ (f_t : Nat → Int32) (H : Heap) (locs : List Loc) (pc : Nat) (ls : Array Slot), post f_t → va_P D vwCl [(h_t, .inr (4, [.ref h_tl])), (h_tl, .inl (cT 0, 16, .inl f_t)), (h_u, .inr (4, [.ref h_ul])), (h_ul, .inl (cT 0, 16, .inl f_u))] H → va_D A [(h_t, .inr (4, [.ref h_tl])), (h_tl, .inl (cT 0, 16, .inl f_t)), (h_u, .inr (4, [.ref h_ul])), (h_ul, .inl (cT 0, 16, .inl f_u))] → va_S A s.heap H locs → decode cX4_copy pc = .ok (.return_, 1) → W p l e ({ frames := 0, cells := 0, slots := 0, locals := 0 } : Room) s m args below meth c H locs 0 0 Q (F0 m pc ls []))  : ∀ (n : Nat) (x2 : Int32) (f_t : Nat → Int32) (H : Heap) (locs : List Loc) (ls : Array Slot), va_P D vwCl [(h_t, .inr (4, [.ref h_tl])), (h_tl, .inl (cT 0, 16, .inl f_t)), (h_u, .inr (4, [.ref h_ul])), (h_ul, .inl (cT 0, 16, .inl f_u))] H → va_D A [(h_t, .inr (4, [.ref h_tl])), (h_tl, .inl (cT 0, 16, .inl f_t)), (h_u, .inr (4, [.ref h_ul])), (h_ul, .inl (cT 0, 16, .inl f_u))] → va_S A s.heap H locs → lv_has ls 3 [(0, .ref h_t), (1, .ref h_u), (2, .int x2)] → wp_Natural_copy_2 post f_u n x2 f_t → W p l e ({ frames := 0, cells := 0, slots := 0, locals := 0 } : Room) s m args below meth c H locs 0 0 Q (F0 m 2 ls []) := by
  obtain ⟨⟨hx, hb, hml, hown, hts⟩, hK, hN⟩ := id C0
  intro n
  induction n with
  | zero => intro x2 f_t H locs ls hP hD hS hl hw; exact hw.elim
  | succ n ih =>
    intro x2 f_t H locs ls hP hD hS hl hw
    unfold wp_Natural_copy_2 at hw
    refine lv_iload_n hx hb dX4_copy_2 rfl (lv_at hl 2 rfl) ?_
    refine lv_bipush (v := 16) hx hb dX4_copy_3 (by decide) ?_
    refine lv_icmp_ge (tgt := 26) hx hb dX4_copy_5 (by decide) (fun c_1 => ?_) (fun c_1 => ?_)
    · have hw := hw.1 c_1
      exact hret _ _ _ _ _ hw hP hD hS dX4_copy_26
    · have hw := hw.2 c_1
      refine lv_aload_n hx hb dX4_copy_8 rfl (lv_at hl 0 rfl) ?_
      refine va_get (D := D) (ci := 4) (v := .ref h_tl) (C := RX4) (T := TX4) (N := 1) hx hb hts inX4 hown hK hP 0 rfl rfl 0 (by decide) (hts _ q_105) (fun _ h9 => h9) rfl dX4_copy_9 ?_
      refine lv_iload_n hx hb dX4_copy_12 rfl (lv_at hl 2 rfl) ?_
      refine lv_aload_n hx hb dX4_copy_13 rfl (lv_at hl 1 rfl) ?_
      refine va_get (D := D) (ci := 4) (v := .ref h_ul) (C := RX4) (T := TX4) (N := 1) hx hb hts inX4 hown hK hP 2 rfl rfl 0 (by decide) (hts _ q_105) (fun _ h9 => h9) rfl dX4_copy_14 ?_
      refine lv_iload_n hx hb dX4_copy_17 rfl (lv_at hl 2 rfl) ?_
      obtain ⟨h_2, hw⟩ := hw
      refine va_iald hx hb hK hP 3 0 rfl rfl h_2 dX4_copy_18 ?_
      obtain ⟨h_3, hw⟩ := hw
      refine va_iast hx hb hK hP hD hS 1 0 rfl rfl h_3 dX4_copy_19 (fun H locs hP hD hS => ?_)
      have hP : va_P D vwCl [(h_t, .inr (4, [.ref h_tl])), (h_tl, .inl (cT 0, 16, .inl (upd f_t x2.toNatClampNeg (f_u x2.toNatClampNeg)))), (h_u, .inr (4, [.ref h_ul])), (h_ul, .inl (cT 0, 16, .inl f_u))] H := hP
      have hD : va_D A [(h_t, .inr (4, [.ref h_tl])), (h_tl, .inl (cT 0, 16, .inl (upd f_t x2.toNatClampNeg (f_u x2.toNatClampNeg)))), (h_u, .inr (4, [.ref h_ul])), (h_ul, .inl (cT 0, 16, .inl f_u))] := hD
      obtain ⟨x2_4, ex2_4⟩ : ∃ y : Int32, y = x2 + 1 := ⟨_, rfl⟩
      refine lv_iinc (v := x2_4) (lv' := [(2, .int x2_4), (0, .ref h_t), (1, .ref h_u)]) hx hb dX4_copy_20 hl (k := 2) rfl (by rw [ex2_4]; rfl) (by decide) rfl (fun ls hl => ?_)
      have hw := hw x2_4 ex2_4
      refine lv_goto (tgt := 2) hx hb dX4_copy_23 (by decide) ?_
      exact ih _ _ _ _ _ hP hD hS (lv_sub hl [1, 2, 0] rfl) hw
set_option maxHeartbeats 4000000 in
set_option maxRecDepth 100000 in
theorem tw_Natural_copy {post : (Nat → Int32) → Prop} {h_t h_tl h_u h_ul : Nat} {f_u : Nat → Int32}  (C0 : cx RX4 cX4_copy 3 D cT p s m c args) (hA : ∀ q, s.heap.size ≤ q → A q) (hret : ∀ (f_t : Nat → Int32) (H : Heap) (locs : List Loc) (pc : Nat) (ls : Array Slot), post f_t → va_P D vwCl [(h_t, .inr (4, [.ref h_tl])), (h_tl, .inl (cT 0, 16, .inl f_t)), (h_u, .inr (4, [.ref h_ul])), (h_ul, .inl (cT 0, 16, .inl f_u))] H → va_D A [(h_t, .inr (4, [.ref h_tl])), (h_tl, .inl (cT 0, 16, .inl f_t)), (h_u, .inr (4, [.ref h_ul])), (h_ul, .inl (cT 0, 16, .inl f_u))] → va_S A s.heap H locs → decode cX4_copy pc = .ok (.return_, 1) → W p l e ({ frames := 0, cells := 0, slots := 0, locals := 0 } : Room) s m args below meth c H locs 0 0 Q (F0 m pc ls []))  : ∀ (f_t : Nat → Int32) (H : Heap) (locs : List Loc) (ls : Array Slot), va_P D vwCl [(h_t, .inr (4, [.ref h_tl])), (h_tl, .inl (cT 0, 16, .inl f_t)), (h_u, .inr (4, [.ref h_ul])), (h_ul, .inl (cT 0, 16, .inl f_u))] H → va_D A [(h_t, .inr (4, [.ref h_tl])), (h_tl, .inl (cT 0, 16, .inl f_t)), (h_u, .inr (4, [.ref h_ul])), (h_ul, .inl (cT 0, 16, .inl f_u))] → va_S A s.heap H locs → lv_has ls 3 [(0, .ref h_t), (1, .ref h_u)] → wp_Natural_copy post f_u f_t → W p l e ({ frames := 0, cells := 0, slots := 0, locals := 0 } : Room) s m args below meth c H locs 0 0 Q (F0 m 0 ls []) := by
  obtain ⟨⟨hx, hb, hml, hown, hts⟩, hK, hN⟩ := id C0
  intro f_t H locs ls hP hD hS hl hw
  unfold wp_Natural_copy at hw
  refine lv_iconst (v := 0) hx hb dX4_copy_0 (by decide) ?_
  refine lv_istore_n (lv' := [(2, .int 0), (0, .ref h_t), (1, .ref h_u)]) hx hb dX4_copy_1 rfl hl (by decide) rfl (fun ls hl => ?_)
  obtain ⟨n9, hw⟩ := hw
  exact tw_Natural_copy_2 C0 hA hret  n9 _ _ _ _ _ hP hD hS (lv_sub hl [1, 2, 0] rfl) hw
set_option maxHeartbeats 4000000 in
set_option maxRecDepth 100000 in
theorem cn_Natural_copy (l : Launch) (D : va_G) (cT : Nat → ClassId) (h_t h_tl h_u h_ul : Nat) (sz : Nat) (f_t : Nat → Int32) (f_u : Nat → Int32)  (post : (Nat → Int32) → Prop) (hw : wp_Natural_copy post f_u f_t) : Met l yX4_copy wX4_copy ({ frames := 0, cells := 0, slots := 0, locals := 0 } : Room) (va_Pc [.ref h_t, .ref h_u] (pre_ D cT [(h_t, .inr (4, [.ref h_tl])), (h_tl, .inl (cT 0, 16, .inl f_t)), (h_u, .inr (4, [.ref h_ul])), (h_ul, .inl (cT 0, 16, .inl f_u))] sz)) (va_Qv (fun (u : (Nat → Int32)) => post u) (fun u t => va_P D vwCl [(h_t, .inr (4, [.ref h_tl])), (h_tl, .inl (cT 0, 16, .inl u)), (h_u, .inr (4, [.ref h_ul])), (h_ul, .inl (cT 0, 16, .inl f_u))] t.heap ∧ va_D (va_A [(h_t, .inr (4, [.ref h_tl])), (h_tl, .inl (cT 0, 16, .inl f_t)), (h_u, .inr (4, [.ref h_ul])), (h_ul, .inl (cT 0, 16, .inl f_u))] sz) [(h_t, .inr (4, [.ref h_tl])), (h_tl, .inl (cT 0, 16, .inl u)), (h_u, .inr (4, [.ref h_ul])), (h_ul, .inl (cT 0, 16, .inl f_u))]) (va_A [(h_t, .inr (4, [.ref h_tl])), (h_tl, .inl (cT 0, 16, .inl f_t)), (h_u, .inr (4, [.ref h_ul])), (h_ul, .inl (cT 0, 16, .inl f_u))] sz)) 0 0 (va_A [(h_t, .inr (4, [.ref h_tl])), (h_tl, .inl (cT 0, 16, .inl f_t)), (h_u, .inr (4, [.ref h_ul])), (h_ul, .inl (cT 0, 16, .inl f_u))] sz) := by
  refine Met.ofW (cc := cX4_copy) (maxL := 3) (ret := none) (by decide) rfl ?_
  intro p e s m args below meth c s₁ B hml hv
  obtain ⟨rfl, hsz, hP, hK, hD0, hN⟩ := hv
  have hx := B.exec
  have hb := B.bytes
  have hr := B.returns
  have hts : ∀ w ∈ WG, w.before _ s = true := fun w h => atoms_spec (ws := wX4_copy) B.pre w (List.mem_cons_of_mem _ h)
  have hown : s.vm.findClass RX4 = some m.cls := findClass_of_methodNamed B.named
  have hlocks := B.notSynchronized
  subst hsz
  have hD := hD0.self (sz := s.heap.size)
  generalize hAe : va_A [(h_t, .inr (4, [.ref h_tl])), (h_tl, .inl (cT 0, 16, .inl f_t)), (h_u, .inr (4, [.ref h_ul])), (h_ul, .inl (cT 0, 16, .inl f_u))] s.heap.size = A at hD ⊢
  have hA : ∀ q : Nat, s.heap.size ≤ q → A q := fun q h => by rw [← hAe]; exact Or.inr h
  have hS : va_S A s.heap s.heap [] := va_S.rf
  have hl := lv_entry ([.ref h_t, .ref h_u]) (n := 3) (Nat.le_of_ble_eq_true rfl)
  rw [lg_entry_eq]
  generalize (lg_sl ([.ref h_t, .ref h_u]) ++ List.replicate (3 - (lg_sl ([.ref h_t, .ref h_u])).length) Slot.unset).toArray = ls at hl ⊢
  refine tw_Natural_copy (Q := MQ below _ _ s 0 0 A) ⟨⟨hx, hb, hml, hown, hts⟩, hK, hN⟩ hA (fun f_t H locs pc ls hp hP hD hS hd => W.vret hx hb hr (fun t ht hW => ⟨⟨(f_t), rfl, hp, by rw [ht]; exact hP, hD⟩, hS.F ht⟩) hS.2.2 hd) _ _ _ _ hP hD hS hl hw
end
def wp_Natural_upperIsZero_2 (post : Int32 → Prop) (f_t : Nat → Int32)  : Nat → Int32 → Prop
  | 0 => fun _ => False
  | n + 1 => fun x1 => ((16 ≤ x1 → (post 1)) ∧ (¬ 16 ≤ x1 → ((vp_in x1 16 ∧ ((((f_t x1.toNatClampNeg) = 0 → (∀ x1_4 : Int32, x1_4 = x1 + 1 → wp_Natural_upperIsZero_2 post f_t n x1_4)) ∧ (¬ (f_t x1.toNatClampNeg) = 0 → (post 0))))))))
def wp_Natural_upperIsZero (post : Int32 → Prop) (f_t : Nat → Int32)   : Prop := ∃ k9, wp_Natural_upperIsZero_2 post f_t k9 1
section
variable {p : Program} {l : Launch} {e : Env} {s : State} {m : MethodId} {args : Array Value} {below : List Frame} {meth : Method} {c : Code} {Q : State → Prop} {A : Nat → Prop} {D : va_G} {cT : Nat → ClassId}
set_option maxHeartbeats 4000000 in
set_option maxRecDepth 100000 in
theorem tw_Natural_upperIsZero_2 {post : Int32 → Prop} {h_t h_tl : Nat} {f_t : Nat → Int32}  (C0 : cx RX4 cX4_upperIsZero 2 D cT p s m c args) (hA : ∀ q, s.heap.size ≤ q → A q) (hret : ∀ (r : Int32)  (H : Heap) (locs : List Loc) (pc : Nat) (ls : Array Slot), narrow .boolean (.int r) = .int r → post r → va_P D vwCl [(h_t, .inr (4, [.ref h_tl])), (h_tl, .inl (cT 0, 16, .inl f_t))] H → va_D A [(h_t, .inr (4, [.ref h_tl])), (h_tl, .inl (cT 0, 16, .inl f_t))] → va_S A s.heap H locs → decode cX4_upperIsZero pc = .ok (.ireturn, 1) → W p l e ({ frames := 0, cells := 0, slots := 0, locals := 0 } : Room) s m args below meth c H locs 0 0 Q (F0 m pc ls [.int r]))  : ∀ (n : Nat) (x1 : Int32) (H : Heap) (locs : List Loc) (ls : Array Slot), va_P D vwCl [(h_t, .inr (4, [.ref h_tl])), (h_tl, .inl (cT 0, 16, .inl f_t))] H → va_D A [(h_t, .inr (4, [.ref h_tl])), (h_tl, .inl (cT 0, 16, .inl f_t))] → va_S A s.heap H locs → lv_has ls 2 [(0, .ref h_t), (1, .int x1)] → wp_Natural_upperIsZero_2 post f_t n x1 → W p l e ({ frames := 0, cells := 0, slots := 0, locals := 0 } : Room) s m args below meth c H locs 0 0 Q (F0 m 2 ls []) := by
  obtain ⟨⟨hx, hb, hml, hown, hts⟩, hK, hN⟩ := id C0
  intro n
  induction n with
  | zero => intro x1 H locs ls hP hD hS hl hw; exact hw.elim
  | succ n ih =>
    intro x1 H locs ls hP hD hS hl hw
    unfold wp_Natural_upperIsZero_2 at hw
    refine lv_iload_n hx hb dX4_upperIsZero_2 rfl (lv_at hl 1 rfl) ?_
    refine lv_bipush (v := 16) hx hb dX4_upperIsZero_3 (by decide) ?_
    refine lv_icmp_ge (tgt := 25) hx hb dX4_upperIsZero_5 (by decide) (fun c_1 => ?_) (fun c_1 => ?_)
    · have hw := hw.1 c_1
      refine lv_iconst (v := 1) hx hb dX4_upperIsZero_25 (by decide) ?_
      exact hret _  _ _ _ _ rfl hw hP hD hS dX4_upperIsZero_26
    · have hw := hw.2 c_1
      refine lv_aload_n hx hb dX4_upperIsZero_8 rfl (lv_at hl 0 rfl) ?_
      refine va_get (D := D) (ci := 4) (v := .ref h_tl) (C := RX4) (T := TX4) (N := 1) hx hb hts inX4 hown hK hP 0 rfl rfl 0 (by decide) (hts _ q_105) (fun _ h9 => h9) rfl dX4_upperIsZero_9 ?_
      refine lv_iload_n hx hb dX4_upperIsZero_12 rfl (lv_at hl 1 rfl) ?_
      obtain ⟨h_2, hw⟩ := hw
      refine va_iald hx hb hK hP 1 0 rfl rfl h_2 dX4_upperIsZero_13 ?_
      refine lv_if_eq (tgt := 19) hx hb dX4_upperIsZero_14 (by decide) (fun c_3 => ?_) (fun c_3 => ?_)
      · have hw := hw.1 c_3
        obtain ⟨x1_4, ex1_4⟩ : ∃ y : Int32, y = x1 + 1 := ⟨_, rfl⟩
        refine lv_iinc (v := x1_4) (lv' := [(1, .int x1_4), (0, .ref h_t)]) hx hb dX4_upperIsZero_19 hl (k := 1) rfl (by rw [ex1_4]; rfl) (by decide) rfl (fun ls hl => ?_)
        have hw := hw x1_4 ex1_4
        refine lv_goto (tgt := 2) hx hb dX4_upperIsZero_22 (by decide) ?_
        exact ih _ _ _ _ hP hD hS (lv_sub hl [1, 0] rfl) hw
      · have hw := hw.2 c_3
        refine lv_iconst (v := 0) hx hb dX4_upperIsZero_17 (by decide) ?_
        exact hret _  _ _ _ _ rfl hw hP hD hS dX4_upperIsZero_18
set_option maxHeartbeats 4000000 in
set_option maxRecDepth 100000 in
theorem tw_Natural_upperIsZero {post : Int32 → Prop} {h_t h_tl : Nat} {f_t : Nat → Int32}  (C0 : cx RX4 cX4_upperIsZero 2 D cT p s m c args) (hA : ∀ q, s.heap.size ≤ q → A q) (hret : ∀ (r : Int32)  (H : Heap) (locs : List Loc) (pc : Nat) (ls : Array Slot), narrow .boolean (.int r) = .int r → post r → va_P D vwCl [(h_t, .inr (4, [.ref h_tl])), (h_tl, .inl (cT 0, 16, .inl f_t))] H → va_D A [(h_t, .inr (4, [.ref h_tl])), (h_tl, .inl (cT 0, 16, .inl f_t))] → va_S A s.heap H locs → decode cX4_upperIsZero pc = .ok (.ireturn, 1) → W p l e ({ frames := 0, cells := 0, slots := 0, locals := 0 } : Room) s m args below meth c H locs 0 0 Q (F0 m pc ls [.int r]))  : ∀  (H : Heap) (locs : List Loc) (ls : Array Slot), va_P D vwCl [(h_t, .inr (4, [.ref h_tl])), (h_tl, .inl (cT 0, 16, .inl f_t))] H → va_D A [(h_t, .inr (4, [.ref h_tl])), (h_tl, .inl (cT 0, 16, .inl f_t))] → va_S A s.heap H locs → lv_has ls 2 [(0, .ref h_t)] → wp_Natural_upperIsZero post f_t  → W p l e ({ frames := 0, cells := 0, slots := 0, locals := 0 } : Room) s m args below meth c H locs 0 0 Q (F0 m 0 ls []) := by
  obtain ⟨⟨hx, hb, hml, hown, hts⟩, hK, hN⟩ := id C0
  intro H locs ls hP hD hS hl hw
  unfold wp_Natural_upperIsZero at hw
  refine lv_iconst (v := 1) hx hb dX4_upperIsZero_0 (by decide) ?_
  refine lv_istore_n (lv' := [(1, .int 1), (0, .ref h_t)]) hx hb dX4_upperIsZero_1 rfl hl (by decide) rfl (fun ls hl => ?_)
  obtain ⟨n9, hw⟩ := hw
  exact tw_Natural_upperIsZero_2 C0 hA hret  n9 _ _ _ _ hP hD hS (lv_sub hl [1, 0] rfl) hw
set_option maxHeartbeats 4000000 in
set_option maxRecDepth 100000 in
theorem cn_Natural_upperIsZero (l : Launch) (D : va_G) (cT : Nat → ClassId) (h_t h_tl : Nat) (sz : Nat) (f_t : Nat → Int32)  (post : Int32 → Prop) (hw : wp_Natural_upperIsZero post f_t ) : Met l yX4_upperIsZero wX4_upperIsZero ({ frames := 0, cells := 0, slots := 0, locals := 0 } : Room) (va_Pc [.ref h_t] (pre_ D cT [(h_t, .inr (4, [.ref h_tl])), (h_tl, .inl (cT 0, 16, .inl f_t))] sz)) (va_Qi (fun (r : Int32) (u : Unit) => post r) (fun u t => va_P D vwCl [(h_t, .inr (4, [.ref h_tl])), (h_tl, .inl (cT 0, 16, .inl f_t))] t.heap ∧ va_D (va_A [(h_t, .inr (4, [.ref h_tl])), (h_tl, .inl (cT 0, 16, .inl f_t))] sz) [(h_t, .inr (4, [.ref h_tl])), (h_tl, .inl (cT 0, 16, .inl f_t))]) (va_A [(h_t, .inr (4, [.ref h_tl])), (h_tl, .inl (cT 0, 16, .inl f_t))] sz)) 0 0 (va_A [(h_t, .inr (4, [.ref h_tl])), (h_tl, .inl (cT 0, 16, .inl f_t))] sz) := by
  refine Met.ofW (cc := cX4_upperIsZero) (maxL := 2) (ret := (some .boolean)) (by decide) rfl ?_
  intro p e s m args below meth c s₁ B hml hv
  obtain ⟨rfl, hsz, hP, hK, hD0, hN⟩ := hv
  have hx := B.exec
  have hb := B.bytes
  have hr := B.returns
  have hts : ∀ w ∈ WG, w.before _ s = true := fun w h => atoms_spec (ws := wX4_upperIsZero) B.pre w (List.mem_cons_of_mem _ h)
  have hown : s.vm.findClass RX4 = some m.cls := findClass_of_methodNamed B.named
  have hlocks := B.notSynchronized
  subst hsz
  have hD := hD0.self (sz := s.heap.size)
  generalize hAe : va_A [(h_t, .inr (4, [.ref h_tl])), (h_tl, .inl (cT 0, 16, .inl f_t))] s.heap.size = A at hD ⊢
  have hA : ∀ q : Nat, s.heap.size ≤ q → A q := fun q h => by rw [← hAe]; exact Or.inr h
  have hS : va_S A s.heap s.heap [] := va_S.rf
  have hl := lv_entry ([.ref h_t]) (n := 2) (Nat.le_of_ble_eq_true rfl)
  rw [lg_entry_eq]
  generalize (lg_sl ([.ref h_t]) ++ List.replicate (2 - (lg_sl ([.ref h_t])).length) Slot.unset).toArray = ls at hl ⊢
  refine tw_Natural_upperIsZero (Q := MQ below _ _ s 0 0 A) ⟨⟨hx, hb, hml, hown, hts⟩, hK, hN⟩ hA (fun r  H locs pc ls hn9 hp hP hD hS hd => W.zret (v := r) hx hb hr hn9 (fun t ht hW => ⟨⟨r, (), rfl, hp, by rw [ht]; exact hP, hD⟩, hS.F ht⟩) hS.2.2 hd)  _ _ _ hP hD hS hl hw
end
def wp_Natural_isZero_21 (post : Int32 → Prop) (f_t : Nat → Int32)  (y0 : Int32) : Prop := (narrow .boolean (.int y0) = .int y0 ∧ post y0)
def wp_Natural_isZero_20 (post : Int32 → Prop) (f_t : Nat → Int32)   : Prop := wp_Natural_isZero_21 post f_t 0
def wp_Natural_isZero (post : Int32 → Prop) (f_t : Nat → Int32)   : Prop := (vp_in 0 16 ∧ ((((f_t (0 : Int32).toNatClampNeg) = 0 → (wp_Natural_upperIsZero (fun r_3 => ((r_3 = 0 → (wp_Natural_isZero_20 post f_t)) ∧ (¬ r_3 = 0 → (wp_Natural_isZero_21 post f_t 1)))) f_t)) ∧ (¬ (f_t (0 : Int32).toNatClampNeg) = 0 → (wp_Natural_isZero_20 post f_t)))))
section
variable {p : Program} {l : Launch} {e : Env} {s : State} {m : MethodId} {args : Array Value} {below : List Frame} {meth : Method} {c : Code} {Q : State → Prop} {A : Nat → Prop} {D : va_G} {cT : Nat → ClassId}
set_option maxHeartbeats 4000000 in
set_option maxRecDepth 100000 in
theorem tw_Natural_isZero_21 {post : Int32 → Prop} {h_t h_tl : Nat} {f_t : Nat → Int32}  (C0 : cx RX4 cX4_isZero 1 D cT p s m c args) (hA : ∀ q, s.heap.size ≤ q → A q) (hret : ∀ (r : Int32)  (H : Heap) (locs : List Loc) (pc : Nat) (ls : Array Slot), narrow .boolean (.int r) = .int r → post r → va_P D vwCl [(h_t, .inr (4, [.ref h_tl])), (h_tl, .inl (cT 0, 16, .inl f_t))] H → va_D A [(h_t, .inr (4, [.ref h_tl])), (h_tl, .inl (cT 0, 16, .inl f_t))] → va_S A s.heap H locs → decode cX4_isZero pc = .ok (.ireturn, 1) → W p l e ({ frames := 1, cells := 0, slots := 0, locals := 21 } : Room) s m args below meth c H locs 0 0 Q (F0 m pc ls [.int r]))  : ∀ (y0 : Int32) (H : Heap) (locs : List Loc) (ls : Array Slot), va_P D vwCl [(h_t, .inr (4, [.ref h_tl])), (h_tl, .inl (cT 0, 16, .inl f_t))] H → va_D A [(h_t, .inr (4, [.ref h_tl])), (h_tl, .inl (cT 0, 16, .inl f_t))] → va_S A s.heap H locs → lv_has ls 1 [] → wp_Natural_isZero_21 post f_t y0 → W p l e ({ frames := 1, cells := 0, slots := 0, locals := 21 } : Room) s m args below meth c H locs 0 0 Q (F0 m 21 ls [.int y0]) := by
  obtain ⟨⟨hx, hb, hml, hown, hts⟩, hK, hN⟩ := id C0
  intro y0 H locs ls hP hD hS hl hw
  unfold wp_Natural_isZero_21 at hw
  exact hret _  _ _ _ _ hw.1 hw.2 hP hD hS dX4_isZero_21
set_option maxHeartbeats 4000000 in
set_option maxRecDepth 100000 in
theorem tw_Natural_isZero_20 {post : Int32 → Prop} {h_t h_tl : Nat} {f_t : Nat → Int32}  (C0 : cx RX4 cX4_isZero 1 D cT p s m c args) (hA : ∀ q, s.heap.size ≤ q → A q) (hret : ∀ (r : Int32)  (H : Heap) (locs : List Loc) (pc : Nat) (ls : Array Slot), narrow .boolean (.int r) = .int r → post r → va_P D vwCl [(h_t, .inr (4, [.ref h_tl])), (h_tl, .inl (cT 0, 16, .inl f_t))] H → va_D A [(h_t, .inr (4, [.ref h_tl])), (h_tl, .inl (cT 0, 16, .inl f_t))] → va_S A s.heap H locs → decode cX4_isZero pc = .ok (.ireturn, 1) → W p l e ({ frames := 1, cells := 0, slots := 0, locals := 21 } : Room) s m args below meth c H locs 0 0 Q (F0 m pc ls [.int r]))  : ∀  (H : Heap) (locs : List Loc) (ls : Array Slot), va_P D vwCl [(h_t, .inr (4, [.ref h_tl])), (h_tl, .inl (cT 0, 16, .inl f_t))] H → va_D A [(h_t, .inr (4, [.ref h_tl])), (h_tl, .inl (cT 0, 16, .inl f_t))] → va_S A s.heap H locs → lv_has ls 1 [] → wp_Natural_isZero_20 post f_t  → W p l e ({ frames := 1, cells := 0, slots := 0, locals := 21 } : Room) s m args below meth c H locs 0 0 Q (F0 m 20 ls []) := by
  obtain ⟨⟨hx, hb, hml, hown, hts⟩, hK, hN⟩ := id C0
  intro H locs ls hP hD hS hl hw
  unfold wp_Natural_isZero_20 at hw
  refine lv_iconst (v := 0) hx hb dX4_isZero_20 (by decide) ?_
  exact tw_Natural_isZero_21 C0 hA hret  _ _ _ _ hP hD hS (lv_sub hl [] rfl) hw
set_option maxHeartbeats 4000000 in
set_option maxRecDepth 100000 in
theorem tw_Natural_isZero {post : Int32 → Prop} {h_t h_tl : Nat} {f_t : Nat → Int32}  (C0 : cx RX4 cX4_isZero 1 D cT p s m c args) (hA : ∀ q, s.heap.size ≤ q → A q) (hret : ∀ (r : Int32)  (H : Heap) (locs : List Loc) (pc : Nat) (ls : Array Slot), narrow .boolean (.int r) = .int r → post r → va_P D vwCl [(h_t, .inr (4, [.ref h_tl])), (h_tl, .inl (cT 0, 16, .inl f_t))] H → va_D A [(h_t, .inr (4, [.ref h_tl])), (h_tl, .inl (cT 0, 16, .inl f_t))] → va_S A s.heap H locs → decode cX4_isZero pc = .ok (.ireturn, 1) → W p l e ({ frames := 1, cells := 0, slots := 0, locals := 21 } : Room) s m args below meth c H locs 0 0 Q (F0 m pc ls [.int r]))  : ∀  (H : Heap) (locs : List Loc) (ls : Array Slot), va_P D vwCl [(h_t, .inr (4, [.ref h_tl])), (h_tl, .inl (cT 0, 16, .inl f_t))] H → va_D A [(h_t, .inr (4, [.ref h_tl])), (h_tl, .inl (cT 0, 16, .inl f_t))] → va_S A s.heap H locs → lv_has ls 1 [(0, .ref h_t)] → wp_Natural_isZero post f_t  → W p l e ({ frames := 1, cells := 0, slots := 0, locals := 21 } : Room) s m args below meth c H locs 0 0 Q (F0 m 0 ls []) := by
  obtain ⟨⟨hx, hb, hml, hown, hts⟩, hK, hN⟩ := id C0
  intro H locs ls hP hD hS hl hw
  unfold wp_Natural_isZero at hw
  refine lv_aload_n hx hb dX4_isZero_0 rfl (lv_at hl 0 rfl) ?_
  refine va_get (D := D) (ci := 4) (v := .ref h_tl) (C := RX4) (T := TX4) (N := 1) hx hb hts inX4 hown hK hP 0 rfl rfl 0 (by decide) (hts _ q_105) (fun _ h9 => h9) rfl dX4_isZero_1 ?_
  refine lv_iconst (v := 0) hx hb dX4_isZero_4 (by decide) ?_
  obtain ⟨h_1, hw⟩ := hw
  refine va_iald hx hb hK hP 1 0 rfl rfl h_1 dX4_isZero_5 ?_
  refine lv_if_ne (tgt := 20) hx hb dX4_isZero_6 (by decide) (fun c_2 => ?_) (fun c_2 => ?_)
  · have hw := hw.2 c_2
    exact tw_Natural_isZero_20 C0 hA hret   _ _ _ hP hD hS (lv_sub hl [] rfl) hw
  · have hw := hw.1 c_2
    refine lv_aload_n hx hb dX4_isZero_9 rfl (lv_at hl 0 rfl) ?_
    have hPc := hP.sub (ws' := [(h_t, .inr (4, [.ref h_tl])), (h_tl, .inl (cT 0, 16, .inl f_t))]) [0, 1] rfl
    have hDc := hD.sub (ws' := [(h_t, .inr (4, [.ref h_tl])), (h_tl, .inl (cT 0, 16, .inl f_t))]) [0, 1] (by decide) rfl
    have hFc := va_free (wc := [(h_t, .inr (4, [.ref h_tl])), (h_tl, .inl (cT 0, 16, .inl f_t))]) hD hS hA [0, 1] rfl
    refine va_calli (va_runV (As := []) (rest := []) ⟨hx, hb, hml, hown, hts⟩ (cn_Natural_upperIsZero l D cT h_t h_tl H.size f_t _ hw) (gv_ 0 q_327 q_6 q_324 q_326 qs_13 (by decide +kernel) ⟨Nat.le_of_ble_eq_true rfl, Nat.le_of_ble_eq_true rfl⟩ hts) ⟨pre_blind, va_recv hK hPc (ci := 4) (q0 := 0) rfl rfl, fun U hU hW => ⟨rfl, pre_mk hU hW hPc hK hDc hN⟩⟩ rfl rfl hl.1 rfl (lv_room (Nat.le_of_ble_eq_true rfl)) dX4_isZero_10 ⟨(Nat.zero_le _), (Nat.zero_le _)⟩) hS (fun q _ h => hFc q h) hFc (fun r_3 u9 t H locs ht hvm hw hB hz1 hk1 hS => ?_)
    obtain ⟨hP1, hD1⟩ := hB
    rw [ht] at hP1
    obtain ⟨hP, hD⟩ := va_join (wr := []) (w1 := [(h_t, .inr (4, [.ref h_tl])), (h_tl, .inl (cT 0, 16, .inl f_t))]) hP hD [0, 1] [] rfl rfl (by decide) (by decide) hk1 hFc hP1 hD1
    have hP := hP.sub (ws' := [(h_t, .inr (4, [.ref h_tl])), (h_tl, .inl (cT 0, 16, .inl f_t))]) [0, 1] rfl
    have hD := hD.sub (ws' := [(h_t, .inr (4, [.ref h_tl])), (h_tl, .inl (cT 0, 16, .inl f_t))]) [0, 1] (by decide) rfl
    clear hP1 hD1 hPc hDc hFc hk1 hz1 hvm ht
    try dsimp only at hw
    refine lv_if_eq (tgt := 20) hx hb dX4_isZero_13 (by decide) (fun c_4 => ?_) (fun c_4 => ?_)
    · have hw := hw.1 c_4
      exact tw_Natural_isZero_20 C0 hA hret   _ _ _ hP hD hS (lv_sub hl [] rfl) hw
    · have hw := hw.2 c_4
      refine lv_iconst (v := 1) hx hb dX4_isZero_16 (by decide) ?_
      refine lv_goto (tgt := 21) hx hb dX4_isZero_17 (by decide) ?_
      exact tw_Natural_isZero_21 C0 hA hret  _ _ _ _ hP hD hS (lv_sub hl [] rfl) hw
set_option maxHeartbeats 4000000 in
set_option maxRecDepth 100000 in
theorem cn_Natural_isZero (l : Launch) (D : va_G) (cT : Nat → ClassId) (h_t h_tl : Nat) (sz : Nat) (f_t : Nat → Int32)  (post : Int32 → Prop) (hw : wp_Natural_isZero post f_t ) : Met l yX4_isZero wX4_isZero ({ frames := 1, cells := 0, slots := 0, locals := 21 } : Room) (va_Pc [.ref h_t] (pre_ D cT [(h_t, .inr (4, [.ref h_tl])), (h_tl, .inl (cT 0, 16, .inl f_t))] sz)) (va_Qi (fun (r : Int32) (u : Unit) => post r) (fun u t => va_P D vwCl [(h_t, .inr (4, [.ref h_tl])), (h_tl, .inl (cT 0, 16, .inl f_t))] t.heap ∧ va_D (va_A [(h_t, .inr (4, [.ref h_tl])), (h_tl, .inl (cT 0, 16, .inl f_t))] sz) [(h_t, .inr (4, [.ref h_tl])), (h_tl, .inl (cT 0, 16, .inl f_t))]) (va_A [(h_t, .inr (4, [.ref h_tl])), (h_tl, .inl (cT 0, 16, .inl f_t))] sz)) 0 0 (va_A [(h_t, .inr (4, [.ref h_tl])), (h_tl, .inl (cT 0, 16, .inl f_t))] sz) := by
  refine Met.ofW (cc := cX4_isZero) (maxL := 1) (ret := (some .boolean)) (by decide) rfl ?_
  intro p e s m args below meth c s₁ B hml hv
  obtain ⟨rfl, hsz, hP, hK, hD0, hN⟩ := hv
  have hx := B.exec
  have hb := B.bytes
  have hr := B.returns
  have hts : ∀ w ∈ WG, w.before _ s = true := fun w h => atoms_spec (ws := wX4_isZero) B.pre w (List.mem_cons_of_mem _ h)
  have hown : s.vm.findClass RX4 = some m.cls := findClass_of_methodNamed B.named
  have hlocks := B.notSynchronized
  subst hsz
  have hD := hD0.self (sz := s.heap.size)
  generalize hAe : va_A [(h_t, .inr (4, [.ref h_tl])), (h_tl, .inl (cT 0, 16, .inl f_t))] s.heap.size = A at hD ⊢
  have hA : ∀ q : Nat, s.heap.size ≤ q → A q := fun q h => by rw [← hAe]; exact Or.inr h
  have hS : va_S A s.heap s.heap [] := va_S.rf
  have hl := lv_entry ([.ref h_t]) (n := 1) (Nat.le_of_ble_eq_true rfl)
  rw [lg_entry_eq]
  generalize (lg_sl ([.ref h_t]) ++ List.replicate (1 - (lg_sl ([.ref h_t])).length) Slot.unset).toArray = ls at hl ⊢
  refine tw_Natural_isZero (Q := MQ below _ _ s 0 0 A) ⟨⟨hx, hb, hml, hown, hts⟩, hK, hN⟩ hA (fun r  H locs pc ls hn9 hp hP hD hS hd => W.zret (v := r) hx hb hr hn9 (fun t ht hW => ⟨⟨r, (), rfl, hp, by rw [ht]; exact hP, hD⟩, hS.F ht⟩) hS.2.2 hd)  _ _ _ hP hD hS hl hw
end
def wp_Natural_isOne_22 (post : Int32 → Prop) (f_t : Nat → Int32)  (y0 : Int32) : Prop := (narrow .boolean (.int y0) = .int y0 ∧ post y0)
def wp_Natural_isOne_21 (post : Int32 → Prop) (f_t : Nat → Int32)   : Prop := wp_Natural_isOne_22 post f_t 0
def wp_Natural_isOne (post : Int32 → Prop) (f_t : Nat → Int32)   : Prop := (vp_in 0 16 ∧ ((((f_t (0 : Int32).toNatClampNeg) = 1 → (wp_Natural_upperIsZero (fun r_3 => ((r_3 = 0 → (wp_Natural_isOne_21 post f_t)) ∧ (¬ r_3 = 0 → (wp_Natural_isOne_22 post f_t 1)))) f_t)) ∧ (¬ (f_t (0 : Int32).toNatClampNeg) = 1 → (wp_Natural_isOne_21 post f_t)))))
section
variable {p : Program} {l : Launch} {e : Env} {s : State} {m : MethodId} {args : Array Value} {below : List Frame} {meth : Method} {c : Code} {Q : State → Prop} {A : Nat → Prop} {D : va_G} {cT : Nat → ClassId}
set_option maxHeartbeats 4000000 in
set_option maxRecDepth 100000 in
theorem tw_Natural_isOne_22 {post : Int32 → Prop} {h_t h_tl : Nat} {f_t : Nat → Int32}  (C0 : cx RX4 cX4_isOne 1 D cT p s m c args) (hA : ∀ q, s.heap.size ≤ q → A q) (hret : ∀ (r : Int32)  (H : Heap) (locs : List Loc) (pc : Nat) (ls : Array Slot), narrow .boolean (.int r) = .int r → post r → va_P D vwCl [(h_t, .inr (4, [.ref h_tl])), (h_tl, .inl (cT 0, 16, .inl f_t))] H → va_D A [(h_t, .inr (4, [.ref h_tl])), (h_tl, .inl (cT 0, 16, .inl f_t))] → va_S A s.heap H locs → decode cX4_isOne pc = .ok (.ireturn, 1) → W p l e ({ frames := 1, cells := 0, slots := 0, locals := 21 } : Room) s m args below meth c H locs 0 0 Q (F0 m pc ls [.int r]))  : ∀ (y0 : Int32) (H : Heap) (locs : List Loc) (ls : Array Slot), va_P D vwCl [(h_t, .inr (4, [.ref h_tl])), (h_tl, .inl (cT 0, 16, .inl f_t))] H → va_D A [(h_t, .inr (4, [.ref h_tl])), (h_tl, .inl (cT 0, 16, .inl f_t))] → va_S A s.heap H locs → lv_has ls 1 [] → wp_Natural_isOne_22 post f_t y0 → W p l e ({ frames := 1, cells := 0, slots := 0, locals := 21 } : Room) s m args below meth c H locs 0 0 Q (F0 m 22 ls [.int y0]) := by
  obtain ⟨⟨hx, hb, hml, hown, hts⟩, hK, hN⟩ := id C0
  intro y0 H locs ls hP hD hS hl hw
  unfold wp_Natural_isOne_22 at hw
  exact hret _  _ _ _ _ hw.1 hw.2 hP hD hS dX4_isOne_22
set_option maxHeartbeats 4000000 in
set_option maxRecDepth 100000 in
theorem tw_Natural_isOne_21 {post : Int32 → Prop} {h_t h_tl : Nat} {f_t : Nat → Int32}  (C0 : cx RX4 cX4_isOne 1 D cT p s m c args) (hA : ∀ q, s.heap.size ≤ q → A q) (hret : ∀ (r : Int32)  (H : Heap) (locs : List Loc) (pc : Nat) (ls : Array Slot), narrow .boolean (.int r) = .int r → post r → va_P D vwCl [(h_t, .inr (4, [.ref h_tl])), (h_tl, .inl (cT 0, 16, .inl f_t))] H → va_D A [(h_t, .inr (4, [.ref h_tl])), (h_tl, .inl (cT 0, 16, .inl f_t))] → va_S A s.heap H locs → decode cX4_isOne pc = .ok (.ireturn, 1) → W p l e ({ frames := 1, cells := 0, slots := 0, locals := 21 } : Room) s m args below meth c H locs 0 0 Q (F0 m pc ls [.int r]))  : ∀  (H : Heap) (locs : List Loc) (ls : Array Slot), va_P D vwCl [(h_t, .inr (4, [.ref h_tl])), (h_tl, .inl (cT 0, 16, .inl f_t))] H → va_D A [(h_t, .inr (4, [.ref h_tl])), (h_tl, .inl (cT 0, 16, .inl f_t))] → va_S A s.heap H locs → lv_has ls 1 [] → wp_Natural_isOne_21 post f_t  → W p l e ({ frames := 1, cells := 0, slots := 0, locals := 21 } : Room) s m args below meth c H locs 0 0 Q (F0 m 21 ls []) := by
  obtain ⟨⟨hx, hb, hml, hown, hts⟩, hK, hN⟩ := id C0
  intro H locs ls hP hD hS hl hw
  unfold wp_Natural_isOne_21 at hw
  refine lv_iconst (v := 0) hx hb dX4_isOne_21 (by decide) ?_
  exact tw_Natural_isOne_22 C0 hA hret  _ _ _ _ hP hD hS (lv_sub hl [] rfl) hw
set_option maxHeartbeats 4000000 in
set_option maxRecDepth 100000 in
theorem tw_Natural_isOne {post : Int32 → Prop} {h_t h_tl : Nat} {f_t : Nat → Int32}  (C0 : cx RX4 cX4_isOne 1 D cT p s m c args) (hA : ∀ q, s.heap.size ≤ q → A q) (hret : ∀ (r : Int32)  (H : Heap) (locs : List Loc) (pc : Nat) (ls : Array Slot), narrow .boolean (.int r) = .int r → post r → va_P D vwCl [(h_t, .inr (4, [.ref h_tl])), (h_tl, .inl (cT 0, 16, .inl f_t))] H → va_D A [(h_t, .inr (4, [.ref h_tl])), (h_tl, .inl (cT 0, 16, .inl f_t))] → va_S A s.heap H locs → decode cX4_isOne pc = .ok (.ireturn, 1) → W p l e ({ frames := 1, cells := 0, slots := 0, locals := 21 } : Room) s m args below meth c H locs 0 0 Q (F0 m pc ls [.int r]))  : ∀  (H : Heap) (locs : List Loc) (ls : Array Slot), va_P D vwCl [(h_t, .inr (4, [.ref h_tl])), (h_tl, .inl (cT 0, 16, .inl f_t))] H → va_D A [(h_t, .inr (4, [.ref h_tl])), (h_tl, .inl (cT 0, 16, .inl f_t))] → va_S A s.heap H locs → lv_has ls 1 [(0, .ref h_t)] → wp_Natural_isOne post f_t  → W p l e ({ frames := 1, cells := 0, slots := 0, locals := 21 } : Room) s m args below meth c H locs 0 0 Q (F0 m 0 ls []) := by
  obtain ⟨⟨hx, hb, hml, hown, hts⟩, hK, hN⟩ := id C0
  intro H locs ls hP hD hS hl hw
  unfold wp_Natural_isOne at hw
  refine lv_aload_n hx hb dX4_isOne_0 rfl (lv_at hl 0 rfl) ?_
  refine va_get (D := D) (ci := 4) (v := .ref h_tl) (C := RX4) (T := TX4) (N := 1) hx hb hts inX4 hown hK hP 0 rfl rfl 0 (by decide) (hts _ q_105) (fun _ h9 => h9) rfl dX4_isOne_1 ?_
  refine lv_iconst (v := 0) hx hb dX4_isOne_4 (by decide) ?_
  obtain ⟨h_1, hw⟩ := hw
  refine va_iald hx hb hK hP 1 0 rfl rfl h_1 dX4_isOne_5 ?_
  refine lv_iconst (v := 1) hx hb dX4_isOne_6 (by decide) ?_
  refine lv_icmp_ne (tgt := 21) hx hb dX4_isOne_7 (by decide) (fun c_2 => ?_) (fun c_2 => ?_)
  · have hw := hw.2 c_2
    exact tw_Natural_isOne_21 C0 hA hret   _ _ _ hP hD hS (lv_sub hl [] rfl) hw
  · have hw := hw.1 c_2
    refine lv_aload_n hx hb dX4_isOne_10 rfl (lv_at hl 0 rfl) ?_
    have hPc := hP.sub (ws' := [(h_t, .inr (4, [.ref h_tl])), (h_tl, .inl (cT 0, 16, .inl f_t))]) [0, 1] rfl
    have hDc := hD.sub (ws' := [(h_t, .inr (4, [.ref h_tl])), (h_tl, .inl (cT 0, 16, .inl f_t))]) [0, 1] (by decide) rfl
    have hFc := va_free (wc := [(h_t, .inr (4, [.ref h_tl])), (h_tl, .inl (cT 0, 16, .inl f_t))]) hD hS hA [0, 1] rfl
    refine va_calli (va_runV (As := []) (rest := []) ⟨hx, hb, hml, hown, hts⟩ (cn_Natural_upperIsZero l D cT h_t h_tl H.size f_t _ hw) (gv_ 0 q_327 q_6 q_324 q_326 qs_13 (by decide +kernel) ⟨Nat.le_of_ble_eq_true rfl, Nat.le_of_ble_eq_true rfl⟩ hts) ⟨pre_blind, va_recv hK hPc (ci := 4) (q0 := 0) rfl rfl, fun U hU hW => ⟨rfl, pre_mk hU hW hPc hK hDc hN⟩⟩ rfl rfl hl.1 rfl (lv_room (Nat.le_of_ble_eq_true rfl)) dX4_isOne_11 ⟨(Nat.zero_le _), (Nat.zero_le _)⟩) hS (fun q _ h => hFc q h) hFc (fun r_3 u9 t H locs ht hvm hw hB hz1 hk1 hS => ?_)
    obtain ⟨hP1, hD1⟩ := hB
    rw [ht] at hP1
    obtain ⟨hP, hD⟩ := va_join (wr := []) (w1 := [(h_t, .inr (4, [.ref h_tl])), (h_tl, .inl (cT 0, 16, .inl f_t))]) hP hD [0, 1] [] rfl rfl (by decide) (by decide) hk1 hFc hP1 hD1
    have hP := hP.sub (ws' := [(h_t, .inr (4, [.ref h_tl])), (h_tl, .inl (cT 0, 16, .inl f_t))]) [0, 1] rfl
    have hD := hD.sub (ws' := [(h_t, .inr (4, [.ref h_tl])), (h_tl, .inl (cT 0, 16, .inl f_t))]) [0, 1] (by decide) rfl
    clear hP1 hD1 hPc hDc hFc hk1 hz1 hvm ht
    try dsimp only at hw
    refine lv_if_eq (tgt := 21) hx hb dX4_isOne_14 (by decide) (fun c_4 => ?_) (fun c_4 => ?_)
    · have hw := hw.1 c_4
      exact tw_Natural_isOne_21 C0 hA hret   _ _ _ hP hD hS (lv_sub hl [] rfl) hw
    · have hw := hw.2 c_4
      refine lv_iconst (v := 1) hx hb dX4_isOne_17 (by decide) ?_
      refine lv_goto (tgt := 22) hx hb dX4_isOne_18 (by decide) ?_
      exact tw_Natural_isOne_22 C0 hA hret  _ _ _ _ hP hD hS (lv_sub hl [] rfl) hw
set_option maxHeartbeats 4000000 in
set_option maxRecDepth 100000 in
theorem cn_Natural_isOne (l : Launch) (D : va_G) (cT : Nat → ClassId) (h_t h_tl : Nat) (sz : Nat) (f_t : Nat → Int32)  (post : Int32 → Prop) (hw : wp_Natural_isOne post f_t ) : Met l yX4_isOne wX4_isOne ({ frames := 1, cells := 0, slots := 0, locals := 21 } : Room) (va_Pc [.ref h_t] (pre_ D cT [(h_t, .inr (4, [.ref h_tl])), (h_tl, .inl (cT 0, 16, .inl f_t))] sz)) (va_Qi (fun (r : Int32) (u : Unit) => post r) (fun u t => va_P D vwCl [(h_t, .inr (4, [.ref h_tl])), (h_tl, .inl (cT 0, 16, .inl f_t))] t.heap ∧ va_D (va_A [(h_t, .inr (4, [.ref h_tl])), (h_tl, .inl (cT 0, 16, .inl f_t))] sz) [(h_t, .inr (4, [.ref h_tl])), (h_tl, .inl (cT 0, 16, .inl f_t))]) (va_A [(h_t, .inr (4, [.ref h_tl])), (h_tl, .inl (cT 0, 16, .inl f_t))] sz)) 0 0 (va_A [(h_t, .inr (4, [.ref h_tl])), (h_tl, .inl (cT 0, 16, .inl f_t))] sz) := by
  refine Met.ofW (cc := cX4_isOne) (maxL := 1) (ret := (some .boolean)) (by decide) rfl ?_
  intro p e s m args below meth c s₁ B hml hv
  obtain ⟨rfl, hsz, hP, hK, hD0, hN⟩ := hv
  have hx := B.exec
  have hb := B.bytes
  have hr := B.returns
  have hts : ∀ w ∈ WG, w.before _ s = true := fun w h => atoms_spec (ws := wX4_isOne) B.pre w (List.mem_cons_of_mem _ h)
  have hown : s.vm.findClass RX4 = some m.cls := findClass_of_methodNamed B.named
  have hlocks := B.notSynchronized
  subst hsz
  have hD := hD0.self (sz := s.heap.size)
  generalize hAe : va_A [(h_t, .inr (4, [.ref h_tl])), (h_tl, .inl (cT 0, 16, .inl f_t))] s.heap.size = A at hD ⊢
  have hA : ∀ q : Nat, s.heap.size ≤ q → A q := fun q h => by rw [← hAe]; exact Or.inr h
  have hS : va_S A s.heap s.heap [] := va_S.rf
  have hl := lv_entry ([.ref h_t]) (n := 1) (Nat.le_of_ble_eq_true rfl)
  rw [lg_entry_eq]
  generalize (lg_sl ([.ref h_t]) ++ List.replicate (1 - (lg_sl ([.ref h_t])).length) Slot.unset).toArray = ls at hl ⊢
  refine tw_Natural_isOne (Q := MQ below _ _ s 0 0 A) ⟨⟨hx, hb, hml, hown, hts⟩, hK, hN⟩ hA (fun r  H locs pc ls hn9 hp hP hD hS hd => W.zret (v := r) hx hb hr hn9 (fun t ht hW => ⟨⟨r, (), rfl, hp, by rw [ht]; exact hP, hD⟩, hS.F ht⟩) hS.2.2 hd)  _ _ _ hP hD hS hl hw
end
def wp_Natural_isEven_16 (post : Int32 → Prop) (f_t : Nat → Int32)  (y0 : Int32) : Prop := (narrow .boolean (.int y0) = .int y0 ∧ post y0)
def wp_Natural_isEven (post : Int32 → Prop) (f_t : Nat → Int32)   : Prop := (vp_in 0 16 ∧ (((((f_t (0 : Int32).toNatClampNeg) &&& 1) = 0 → (wp_Natural_isEven_16 post f_t 1)) ∧ (¬ ((f_t (0 : Int32).toNatClampNeg) &&& 1) = 0 → (wp_Natural_isEven_16 post f_t 0)))))
section
variable {p : Program} {l : Launch} {e : Env} {s : State} {m : MethodId} {args : Array Value} {below : List Frame} {meth : Method} {c : Code} {Q : State → Prop} {A : Nat → Prop} {D : va_G} {cT : Nat → ClassId}
set_option maxHeartbeats 4000000 in
set_option maxRecDepth 100000 in
theorem tw_Natural_isEven_16 {post : Int32 → Prop} {h_t h_tl : Nat} {f_t : Nat → Int32}  (C0 : cx RX4 cX4_isEven 1 D cT p s m c args) (hA : ∀ q, s.heap.size ≤ q → A q) (hret : ∀ (r : Int32)  (H : Heap) (locs : List Loc) (pc : Nat) (ls : Array Slot), narrow .boolean (.int r) = .int r → post r → va_P D vwCl [(h_t, .inr (4, [.ref h_tl])), (h_tl, .inl (cT 0, 16, .inl f_t))] H → va_D A [(h_t, .inr (4, [.ref h_tl])), (h_tl, .inl (cT 0, 16, .inl f_t))] → va_S A s.heap H locs → decode cX4_isEven pc = .ok (.ireturn, 1) → W p l e ({ frames := 0, cells := 0, slots := 0, locals := 0 } : Room) s m args below meth c H locs 0 0 Q (F0 m pc ls [.int r]))  : ∀ (y0 : Int32) (H : Heap) (locs : List Loc) (ls : Array Slot), va_P D vwCl [(h_t, .inr (4, [.ref h_tl])), (h_tl, .inl (cT 0, 16, .inl f_t))] H → va_D A [(h_t, .inr (4, [.ref h_tl])), (h_tl, .inl (cT 0, 16, .inl f_t))] → va_S A s.heap H locs → lv_has ls 1 [] → wp_Natural_isEven_16 post f_t y0 → W p l e ({ frames := 0, cells := 0, slots := 0, locals := 0 } : Room) s m args below meth c H locs 0 0 Q (F0 m 16 ls [.int y0]) := by
  obtain ⟨⟨hx, hb, hml, hown, hts⟩, hK, hN⟩ := id C0
  intro y0 H locs ls hP hD hS hl hw
  unfold wp_Natural_isEven_16 at hw
  exact hret _  _ _ _ _ hw.1 hw.2 hP hD hS dX4_isEven_16
set_option maxHeartbeats 4000000 in
set_option maxRecDepth 100000 in
theorem tw_Natural_isEven {post : Int32 → Prop} {h_t h_tl : Nat} {f_t : Nat → Int32}  (C0 : cx RX4 cX4_isEven 1 D cT p s m c args) (hA : ∀ q, s.heap.size ≤ q → A q) (hret : ∀ (r : Int32)  (H : Heap) (locs : List Loc) (pc : Nat) (ls : Array Slot), narrow .boolean (.int r) = .int r → post r → va_P D vwCl [(h_t, .inr (4, [.ref h_tl])), (h_tl, .inl (cT 0, 16, .inl f_t))] H → va_D A [(h_t, .inr (4, [.ref h_tl])), (h_tl, .inl (cT 0, 16, .inl f_t))] → va_S A s.heap H locs → decode cX4_isEven pc = .ok (.ireturn, 1) → W p l e ({ frames := 0, cells := 0, slots := 0, locals := 0 } : Room) s m args below meth c H locs 0 0 Q (F0 m pc ls [.int r]))  : ∀  (H : Heap) (locs : List Loc) (ls : Array Slot), va_P D vwCl [(h_t, .inr (4, [.ref h_tl])), (h_tl, .inl (cT 0, 16, .inl f_t))] H → va_D A [(h_t, .inr (4, [.ref h_tl])), (h_tl, .inl (cT 0, 16, .inl f_t))] → va_S A s.heap H locs → lv_has ls 1 [(0, .ref h_t)] → wp_Natural_isEven post f_t  → W p l e ({ frames := 0, cells := 0, slots := 0, locals := 0 } : Room) s m args below meth c H locs 0 0 Q (F0 m 0 ls []) := by
  obtain ⟨⟨hx, hb, hml, hown, hts⟩, hK, hN⟩ := id C0
  intro H locs ls hP hD hS hl hw
  unfold wp_Natural_isEven at hw
  refine lv_aload_n hx hb dX4_isEven_0 rfl (lv_at hl 0 rfl) ?_
  refine va_get (D := D) (ci := 4) (v := .ref h_tl) (C := RX4) (T := TX4) (N := 1) hx hb hts inX4 hown hK hP 0 rfl rfl 0 (by decide) (hts _ q_105) (fun _ h9 => h9) rfl dX4_isEven_1 ?_
  refine lv_iconst (v := 0) hx hb dX4_isEven_4 (by decide) ?_
  obtain ⟨h_1, hw⟩ := hw
  refine va_iald hx hb hK hP 1 0 rfl rfl h_1 dX4_isEven_5 ?_
  refine lv_iconst (v := 1) hx hb dX4_isEven_6 (by decide) ?_
  refine lv_iand hx hb dX4_isEven_7 ?_
  refine lv_if_ne (tgt := 15) hx hb dX4_isEven_8 (by decide) (fun c_2 => ?_) (fun c_2 => ?_)
  · have hw := hw.2 c_2
    refine lv_iconst (v := 0) hx hb dX4_isEven_15 (by decide) ?_
    exact tw_Natural_isEven_16 C0 hA hret  _ _ _ _ hP hD hS (lv_sub hl [] rfl) hw
  · have hw := hw.1 c_2
    refine lv_iconst (v := 1) hx hb dX4_isEven_11 (by decide) ?_
    refine lv_goto (tgt := 16) hx hb dX4_isEven_12 (by decide) ?_
    exact tw_Natural_isEven_16 C0 hA hret  _ _ _ _ hP hD hS (lv_sub hl [] rfl) hw
set_option maxHeartbeats 4000000 in
set_option maxRecDepth 100000 in
theorem cn_Natural_isEven (l : Launch) (D : va_G) (cT : Nat → ClassId) (h_t h_tl : Nat) (sz : Nat) (f_t : Nat → Int32)  (post : Int32 → Prop) (hw : wp_Natural_isEven post f_t ) : Met l yX4_isEven wX4_isEven ({ frames := 0, cells := 0, slots := 0, locals := 0 } : Room) (va_Pc [.ref h_t] (pre_ D cT [(h_t, .inr (4, [.ref h_tl])), (h_tl, .inl (cT 0, 16, .inl f_t))] sz)) (va_Qi (fun (r : Int32) (u : Unit) => post r) (fun u t => va_P D vwCl [(h_t, .inr (4, [.ref h_tl])), (h_tl, .inl (cT 0, 16, .inl f_t))] t.heap ∧ va_D (va_A [(h_t, .inr (4, [.ref h_tl])), (h_tl, .inl (cT 0, 16, .inl f_t))] sz) [(h_t, .inr (4, [.ref h_tl])), (h_tl, .inl (cT 0, 16, .inl f_t))]) (va_A [(h_t, .inr (4, [.ref h_tl])), (h_tl, .inl (cT 0, 16, .inl f_t))] sz)) 0 0 (va_A [(h_t, .inr (4, [.ref h_tl])), (h_tl, .inl (cT 0, 16, .inl f_t))] sz) := by
  refine Met.ofW (cc := cX4_isEven) (maxL := 1) (ret := (some .boolean)) (by decide) rfl ?_
  intro p e s m args below meth c s₁ B hml hv
  obtain ⟨rfl, hsz, hP, hK, hD0, hN⟩ := hv
  have hx := B.exec
  have hb := B.bytes
  have hr := B.returns
  have hts : ∀ w ∈ WG, w.before _ s = true := fun w h => atoms_spec (ws := wX4_isEven) B.pre w (List.mem_cons_of_mem _ h)
  have hown : s.vm.findClass RX4 = some m.cls := findClass_of_methodNamed B.named
  have hlocks := B.notSynchronized
  subst hsz
  have hD := hD0.self (sz := s.heap.size)
  generalize hAe : va_A [(h_t, .inr (4, [.ref h_tl])), (h_tl, .inl (cT 0, 16, .inl f_t))] s.heap.size = A at hD ⊢
  have hA : ∀ q : Nat, s.heap.size ≤ q → A q := fun q h => by rw [← hAe]; exact Or.inr h
  have hS : va_S A s.heap s.heap [] := va_S.rf
  have hl := lv_entry ([.ref h_t]) (n := 1) (Nat.le_of_ble_eq_true rfl)
  rw [lg_entry_eq]
  generalize (lg_sl ([.ref h_t]) ++ List.replicate (1 - (lg_sl ([.ref h_t])).length) Slot.unset).toArray = ls at hl ⊢
  refine tw_Natural_isEven (Q := MQ below _ _ s 0 0 A) ⟨⟨hx, hb, hml, hown, hts⟩, hK, hN⟩ hA (fun r  H locs pc ls hn9 hp hP hD hS hd => W.zret (v := r) hx hb hr hn9 (fun t ht hW => ⟨⟨r, (), rfl, hp, by rw [ht]; exact hP, hD⟩, hS.F ht⟩) hS.2.2 hd)  _ _ _ hP hD hS hl hw
end
def wp_Natural_order_42 (post : Int32 → Prop) (f_t : Nat → Int32) (f_u : Nat → Int32)  (y0 : Int32) : Prop := post y0
def wp_Natural_order_3 (post : Int32 → Prop) (f_t : Nat → Int32) (f_u : Nat → Int32)  : Nat → Int32 → Prop
  | 0 => fun _ => False
  | n + 1 => fun x2 => ((x2 < 0 → (post 0)) ∧ (¬ x2 < 0 → ((vp_in x2 16 ∧ ((vp_in x2 16 ∧ ((((f_t x2.toNatClampNeg) = (f_u x2.toNatClampNeg) → (∀ x2_5 : Int32, x2_5 = x2 + (-1) → wp_Natural_order_3 post f_t f_u n x2_5)) ∧ (¬ (f_t x2.toNatClampNeg) = (f_u x2.toNatClampNeg) → ((vp_in x2 16 ∧ ((vp_in x2 16 ∧ ((((f_u x2.toNatClampNeg) ≤ (f_t x2.toNatClampNeg) → (wp_Natural_order_42 post f_t f_u 1)) ∧ (¬ (f_u x2.toNatClampNeg) ≤ (f_t x2.toNatClampNeg) → (wp_Natural_order_42 post f_t f_u (-1))))))))))))))))))
def wp_Natural_order (post : Int32 → Prop) (f_t : Nat → Int32) (f_u : Nat → Int32)   : Prop := ∃ k9, wp_Natural_order_3 post f_t f_u k9 15
section
variable {p : Program} {l : Launch} {e : Env} {s : State} {m : MethodId} {args : Array Value} {below : List Frame} {meth : Method} {c : Code} {Q : State → Prop} {A : Nat → Prop} {D : va_G} {cT : Nat → ClassId}
set_option maxHeartbeats 4000000 in
set_option maxRecDepth 100000 in
theorem tw_Natural_order_42 {post : Int32 → Prop} {h_t h_tl h_u h_ul : Nat} {f_t : Nat → Int32} {f_u : Nat → Int32}  (C0 : cx RX4 cX4_order 3 D cT p s m c args) (hA : ∀ q, s.heap.size ≤ q → A q) (hret : ∀ (r : Int32)  (H : Heap) (locs : List Loc) (pc : Nat) (ls : Array Slot), post r → va_P D vwCl [(h_t, .inr (4, [.ref h_tl])), (h_tl, .inl (cT 0, 16, .inl f_t)), (h_u, .inr (4, [.ref h_ul])), (h_ul, .inl (cT 0, 16, .inl f_u))] H → va_D A [(h_t, .inr (4, [.ref h_tl])), (h_tl, .inl (cT 0, 16, .inl f_t)), (h_u, .inr (4, [.ref h_ul])), (h_ul, .inl (cT 0, 16, .inl f_u))] → va_S A s.heap H locs → decode cX4_order pc = .ok (.ireturn, 1) → W p l e ({ frames := 0, cells := 0, slots := 0, locals := 0 } : Room) s m args below meth c H locs 0 0 Q (F0 m pc ls [.int r]))  : ∀ (y0 : Int32) (H : Heap) (locs : List Loc) (ls : Array Slot), va_P D vwCl [(h_t, .inr (4, [.ref h_tl])), (h_tl, .inl (cT 0, 16, .inl f_t)), (h_u, .inr (4, [.ref h_ul])), (h_ul, .inl (cT 0, 16, .inl f_u))] H → va_D A [(h_t, .inr (4, [.ref h_tl])), (h_tl, .inl (cT 0, 16, .inl f_t)), (h_u, .inr (4, [.ref h_ul])), (h_ul, .inl (cT 0, 16, .inl f_u))] → va_S A s.heap H locs → lv_has ls 3 [] → wp_Natural_order_42 post f_t f_u y0 → W p l e ({ frames := 0, cells := 0, slots := 0, locals := 0 } : Room) s m args below meth c H locs 0 0 Q (F0 m 42 ls [.int y0]) := by
  obtain ⟨⟨hx, hb, hml, hown, hts⟩, hK, hN⟩ := id C0
  intro y0 H locs ls hP hD hS hl hw
  unfold wp_Natural_order_42 at hw
  exact hret _  _ _ _ _ hw hP hD hS dX4_order_42
set_option maxHeartbeats 4000000 in
set_option maxRecDepth 100000 in
theorem tw_Natural_order_3 {post : Int32 → Prop} {h_t h_tl h_u h_ul : Nat} {f_t : Nat → Int32} {f_u : Nat → Int32}  (C0 : cx RX4 cX4_order 3 D cT p s m c args) (hA : ∀ q, s.heap.size ≤ q → A q) (hret : ∀ (r : Int32)  (H : Heap) (locs : List Loc) (pc : Nat) (ls : Array Slot), post r → va_P D vwCl [(h_t, .inr (4, [.ref h_tl])), (h_tl, .inl (cT 0, 16, .inl f_t)), (h_u, .inr (4, [.ref h_ul])), (h_ul, .inl (cT 0, 16, .inl f_u))] H → va_D A [(h_t, .inr (4, [.ref h_tl])), (h_tl, .inl (cT 0, 16, .inl f_t)), (h_u, .inr (4, [.ref h_ul])), (h_ul, .inl (cT 0, 16, .inl f_u))] → va_S A s.heap H locs → decode cX4_order pc = .ok (.ireturn, 1) → W p l e ({ frames := 0, cells := 0, slots := 0, locals := 0 } : Room) s m args below meth c H locs 0 0 Q (F0 m pc ls [.int r]))  : ∀ (n : Nat) (x2 : Int32) (H : Heap) (locs : List Loc) (ls : Array Slot), va_P D vwCl [(h_t, .inr (4, [.ref h_tl])), (h_tl, .inl (cT 0, 16, .inl f_t)), (h_u, .inr (4, [.ref h_ul])), (h_ul, .inl (cT 0, 16, .inl f_u))] H → va_D A [(h_t, .inr (4, [.ref h_tl])), (h_tl, .inl (cT 0, 16, .inl f_t)), (h_u, .inr (4, [.ref h_ul])), (h_ul, .inl (cT 0, 16, .inl f_u))] → va_S A s.heap H locs → lv_has ls 3 [(0, .ref h_t), (1, .ref h_u), (2, .int x2)] → wp_Natural_order_3 post f_t f_u n x2 → W p l e ({ frames := 0, cells := 0, slots := 0, locals := 0 } : Room) s m args below meth c H locs 0 0 Q (F0 m 3 ls []) := by
  obtain ⟨⟨hx, hb, hml, hown, hts⟩, hK, hN⟩ := id C0
  intro n
  induction n with
  | zero => intro x2 H locs ls hP hD hS hl hw; exact hw.elim
  | succ n ih =>
    intro x2 H locs ls hP hD hS hl hw
    unfold wp_Natural_order_3 at hw
    refine lv_iload_n hx hb dX4_order_3 rfl (lv_at hl 2 rfl) ?_
    refine lv_if_lt (tgt := 49) hx hb dX4_order_4 (by decide) (fun c_1 => ?_) (fun c_1 => ?_)
    · have hw := hw.1 c_1
      refine lv_iconst (v := 0) hx hb dX4_order_49 (by decide) ?_
      exact hret _  _ _ _ _ hw hP hD hS dX4_order_50
    · have hw := hw.2 c_1
      refine lv_aload_n hx hb dX4_order_7 rfl (lv_at hl 0 rfl) ?_
      refine va_get (D := D) (ci := 4) (v := .ref h_tl) (C := RX4) (T := TX4) (N := 1) hx hb hts inX4 hown hK hP 0 rfl rfl 0 (by decide) (hts _ q_105) (fun _ h9 => h9) rfl dX4_order_8 ?_
      refine lv_iload_n hx hb dX4_order_11 rfl (lv_at hl 2 rfl) ?_
      obtain ⟨h_2, hw⟩ := hw
      refine va_iald hx hb hK hP 1 0 rfl rfl h_2 dX4_order_12 ?_
      refine lv_aload_n hx hb dX4_order_13 rfl (lv_at hl 1 rfl) ?_
      refine va_get (D := D) (ci := 4) (v := .ref h_ul) (C := RX4) (T := TX4) (N := 1) hx hb hts inX4 hown hK hP 2 rfl rfl 0 (by decide) (hts _ q_105) (fun _ h9 => h9) rfl dX4_order_14 ?_
      refine lv_iload_n hx hb dX4_order_17 rfl (lv_at hl 2 rfl) ?_
      obtain ⟨h_3, hw⟩ := hw
      refine va_iald hx hb hK hP 3 0 rfl rfl h_3 dX4_order_18 ?_
      refine lv_icmp_eq (tgt := 43) hx hb dX4_order_19 (by decide) (fun c_4 => ?_) (fun c_4 => ?_)
      · have hw := hw.1 c_4
        obtain ⟨x2_5, ex2_5⟩ : ∃ y : Int32, y = x2 + (-1) := ⟨_, rfl⟩
        refine lv_iinc (v := x2_5) (lv' := [(2, .int x2_5), (0, .ref h_t), (1, .ref h_u)]) hx hb dX4_order_43 hl (k := 2) rfl (by rw [ex2_5]; rfl) (by decide) rfl (fun ls hl => ?_)
        have hw := hw x2_5 ex2_5
        refine lv_goto (tgt := 3) hx hb dX4_order_46 (by decide) ?_
        exact ih _ _ _ _ hP hD hS (lv_sub hl [1, 2, 0] rfl) hw
      · have hw := hw.2 c_4
        refine lv_aload_n hx hb dX4_order_22 rfl (lv_at hl 0 rfl) ?_
        refine va_get (D := D) (ci := 4) (v := .ref h_tl) (C := RX4) (T := TX4) (N := 1) hx hb hts inX4 hown hK hP 0 rfl rfl 0 (by decide) (hts _ q_105) (fun _ h9 => h9) rfl dX4_order_23 ?_
        refine lv_iload_n hx hb dX4_order_26 rfl (lv_at hl 2 rfl) ?_
        obtain ⟨h_6, hw⟩ := hw
        refine va_iald hx hb hK hP 1 0 rfl rfl h_6 dX4_order_27 ?_
        refine lv_aload_n hx hb dX4_order_28 rfl (lv_at hl 1 rfl) ?_
        refine va_get (D := D) (ci := 4) (v := .ref h_ul) (C := RX4) (T := TX4) (N := 1) hx hb hts inX4 hown hK hP 2 rfl rfl 0 (by decide) (hts _ q_105) (fun _ h9 => h9) rfl dX4_order_29 ?_
        refine lv_iload_n hx hb dX4_order_32 rfl (lv_at hl 2 rfl) ?_
        obtain ⟨h_7, hw⟩ := hw
        refine va_iald hx hb hK hP 3 0 rfl rfl h_7 dX4_order_33 ?_
        refine lv_icmp_ge (tgt := 41) hx hb dX4_order_34 (by decide) (fun c_8 => ?_) (fun c_8 => ?_)
        · have hw := hw.1 c_8
          refine lv_iconst (v := 1) hx hb dX4_order_41 (by decide) ?_
          exact tw_Natural_order_42 C0 hA hret  _ _ _ _ hP hD hS (lv_sub hl [] rfl) hw
        · have hw := hw.2 c_8
          refine lv_iconst (v := (-1)) hx hb dX4_order_37 (by decide) ?_
          refine lv_goto (tgt := 42) hx hb dX4_order_38 (by decide) ?_
          exact tw_Natural_order_42 C0 hA hret  _ _ _ _ hP hD hS (lv_sub hl [] rfl) hw
set_option maxHeartbeats 4000000 in
set_option maxRecDepth 100000 in
theorem tw_Natural_order {post : Int32 → Prop} {h_t h_tl h_u h_ul : Nat} {f_t : Nat → Int32} {f_u : Nat → Int32}  (C0 : cx RX4 cX4_order 3 D cT p s m c args) (hA : ∀ q, s.heap.size ≤ q → A q) (hret : ∀ (r : Int32)  (H : Heap) (locs : List Loc) (pc : Nat) (ls : Array Slot), post r → va_P D vwCl [(h_t, .inr (4, [.ref h_tl])), (h_tl, .inl (cT 0, 16, .inl f_t)), (h_u, .inr (4, [.ref h_ul])), (h_ul, .inl (cT 0, 16, .inl f_u))] H → va_D A [(h_t, .inr (4, [.ref h_tl])), (h_tl, .inl (cT 0, 16, .inl f_t)), (h_u, .inr (4, [.ref h_ul])), (h_ul, .inl (cT 0, 16, .inl f_u))] → va_S A s.heap H locs → decode cX4_order pc = .ok (.ireturn, 1) → W p l e ({ frames := 0, cells := 0, slots := 0, locals := 0 } : Room) s m args below meth c H locs 0 0 Q (F0 m pc ls [.int r]))  : ∀  (H : Heap) (locs : List Loc) (ls : Array Slot), va_P D vwCl [(h_t, .inr (4, [.ref h_tl])), (h_tl, .inl (cT 0, 16, .inl f_t)), (h_u, .inr (4, [.ref h_ul])), (h_ul, .inl (cT 0, 16, .inl f_u))] H → va_D A [(h_t, .inr (4, [.ref h_tl])), (h_tl, .inl (cT 0, 16, .inl f_t)), (h_u, .inr (4, [.ref h_ul])), (h_ul, .inl (cT 0, 16, .inl f_u))] → va_S A s.heap H locs → lv_has ls 3 [(0, .ref h_t), (1, .ref h_u)] → wp_Natural_order post f_t f_u  → W p l e ({ frames := 0, cells := 0, slots := 0, locals := 0 } : Room) s m args below meth c H locs 0 0 Q (F0 m 0 ls []) := by
  obtain ⟨⟨hx, hb, hml, hown, hts⟩, hK, hN⟩ := id C0
  intro H locs ls hP hD hS hl hw
  unfold wp_Natural_order at hw
  refine lv_bipush (v := 15) hx hb dX4_order_0 (by decide) ?_
  refine lv_istore_n (lv' := [(2, .int 15), (0, .ref h_t), (1, .ref h_u)]) hx hb dX4_order_2 rfl hl (by decide) rfl (fun ls hl => ?_)
  obtain ⟨n9, hw⟩ := hw
  exact tw_Natural_order_3 C0 hA hret  n9 _ _ _ _ hP hD hS (lv_sub hl [1, 2, 0] rfl) hw
set_option maxHeartbeats 4000000 in
set_option maxRecDepth 100000 in
theorem cn_Natural_order (l : Launch) (D : va_G) (cT : Nat → ClassId) (h_t h_tl h_u h_ul : Nat) (sz : Nat) (f_t : Nat → Int32) (f_u : Nat → Int32)  (post : Int32 → Prop) (hw : wp_Natural_order post f_t f_u ) : Met l yX4_order wX4_order ({ frames := 0, cells := 0, slots := 0, locals := 0 } : Room) (va_Pc [.ref h_t, .ref h_u] (pre_ D cT [(h_t, .inr (4, [.ref h_tl])), (h_tl, .inl (cT 0, 16, .inl f_t)), (h_u, .inr (4, [.ref h_ul])), (h_ul, .inl (cT 0, 16, .inl f_u))] sz)) (va_Qi (fun (r : Int32) (u : Unit) => post r) (fun u t => va_P D vwCl [(h_t, .inr (4, [.ref h_tl])), (h_tl, .inl (cT 0, 16, .inl f_t)), (h_u, .inr (4, [.ref h_ul])), (h_ul, .inl (cT 0, 16, .inl f_u))] t.heap ∧ va_D (va_A [(h_t, .inr (4, [.ref h_tl])), (h_tl, .inl (cT 0, 16, .inl f_t)), (h_u, .inr (4, [.ref h_ul])), (h_ul, .inl (cT 0, 16, .inl f_u))] sz) [(h_t, .inr (4, [.ref h_tl])), (h_tl, .inl (cT 0, 16, .inl f_t)), (h_u, .inr (4, [.ref h_ul])), (h_ul, .inl (cT 0, 16, .inl f_u))]) (va_A [(h_t, .inr (4, [.ref h_tl])), (h_tl, .inl (cT 0, 16, .inl f_t)), (h_u, .inr (4, [.ref h_ul])), (h_ul, .inl (cT 0, 16, .inl f_u))] sz)) 0 0 (va_A [(h_t, .inr (4, [.ref h_tl])), (h_tl, .inl (cT 0, 16, .inl f_t)), (h_u, .inr (4, [.ref h_ul])), (h_ul, .inl (cT 0, 16, .inl f_u))] sz) := by
  refine Met.ofW (cc := cX4_order) (maxL := 3) (ret := (some .int)) (by decide) rfl ?_
  intro p e s m args below meth c s₁ B hml hv
  obtain ⟨rfl, hsz, hP, hK, hD0, hN⟩ := hv
  have hx := B.exec
  have hb := B.bytes
  have hr := B.returns
  have hts : ∀ w ∈ WG, w.before _ s = true := fun w h => atoms_spec (ws := wX4_order) B.pre w (List.mem_cons_of_mem _ h)
  have hown : s.vm.findClass RX4 = some m.cls := findClass_of_methodNamed B.named
  have hlocks := B.notSynchronized
  subst hsz
  have hD := hD0.self (sz := s.heap.size)
  generalize hAe : va_A [(h_t, .inr (4, [.ref h_tl])), (h_tl, .inl (cT 0, 16, .inl f_t)), (h_u, .inr (4, [.ref h_ul])), (h_ul, .inl (cT 0, 16, .inl f_u))] s.heap.size = A at hD ⊢
  have hA : ∀ q : Nat, s.heap.size ≤ q → A q := fun q h => by rw [← hAe]; exact Or.inr h
  have hS : va_S A s.heap s.heap [] := va_S.rf
  have hl := lv_entry ([.ref h_t, .ref h_u]) (n := 3) (Nat.le_of_ble_eq_true rfl)
  rw [lg_entry_eq]
  generalize (lg_sl ([.ref h_t, .ref h_u]) ++ List.replicate (3 - (lg_sl ([.ref h_t, .ref h_u])).length) Slot.unset).toArray = ls at hl ⊢
  refine tw_Natural_order (Q := MQ below _ _ s 0 0 A) ⟨⟨hx, hb, hml, hown, hts⟩, hK, hN⟩ hA (fun r  H locs pc ls hp hP hD hS hd => W.iret (v := r) hx hb hr (fun t ht hW => ⟨⟨r, (), rfl, hp, by rw [ht]; exact hP, hD⟩, hS.F ht⟩) hS.2.2 hd)  _ _ _ hP hD hS hl hw
end
def wp_Natural_order1_42 (post : Int32 → Prop) (f_t : Nat → Int32)  (y0 : Int32) : Prop := post y0
def wp_Natural_order1_3 (post : Int32 → Prop) (f_t : Nat → Int32)  : Nat → Int32 → Prop
  | 0 => fun _ => False
  | n + 1 => fun x2 => ((x2 < 0 → (post 0)) ∧ (¬ x2 < 0 → ((vp_in x2 16 ∧ ((vp_in x2 16 ∧ ((((f_t x2.toNatClampNeg) = (f_t x2.toNatClampNeg) → (∀ x2_5 : Int32, x2_5 = x2 + (-1) → wp_Natural_order1_3 post f_t n x2_5)) ∧ (¬ (f_t x2.toNatClampNeg) = (f_t x2.toNatClampNeg) → ((vp_in x2 16 ∧ ((vp_in x2 16 ∧ ((((f_t x2.toNatClampNeg) ≤ (f_t x2.toNatClampNeg) → (wp_Natural_order1_42 post f_t 1)) ∧ (¬ (f_t x2.toNatClampNeg) ≤ (f_t x2.toNatClampNeg) → (wp_Natural_order1_42 post f_t (-1))))))))))))))))))
def wp_Natural_order1 (post : Int32 → Prop) (f_t : Nat → Int32)   : Prop := ∃ k9, wp_Natural_order1_3 post f_t k9 15
section
variable {p : Program} {l : Launch} {e : Env} {s : State} {m : MethodId} {args : Array Value} {below : List Frame} {meth : Method} {c : Code} {Q : State → Prop} {A : Nat → Prop} {D : va_G} {cT : Nat → ClassId}
set_option maxHeartbeats 4000000 in
set_option maxRecDepth 100000 in
theorem tw_Natural_order1_42 {post : Int32 → Prop} {h_t h_tl : Nat} {f_t : Nat → Int32}  (C0 : cx RX4 cX4_order 3 D cT p s m c args) (hA : ∀ q, s.heap.size ≤ q → A q) (hret : ∀ (r : Int32)  (H : Heap) (locs : List Loc) (pc : Nat) (ls : Array Slot), post r → va_P D vwCl [(h_t, .inr (4, [.ref h_tl])), (h_tl, .inl (cT 0, 16, .inl f_t))] H → va_D A [(h_t, .inr (4, [.ref h_tl])), (h_tl, .inl (cT 0, 16, .inl f_t))] → va_S A s.heap H locs → decode cX4_order pc = .ok (.ireturn, 1) → W p l e ({ frames := 0, cells := 0, slots := 0, locals := 0 } : Room) s m args below meth c H locs 0 0 Q (F0 m pc ls [.int r]))  : ∀ (y0 : Int32) (H : Heap) (locs : List Loc) (ls : Array Slot), va_P D vwCl [(h_t, .inr (4, [.ref h_tl])), (h_tl, .inl (cT 0, 16, .inl f_t))] H → va_D A [(h_t, .inr (4, [.ref h_tl])), (h_tl, .inl (cT 0, 16, .inl f_t))] → va_S A s.heap H locs → lv_has ls 3 [] → wp_Natural_order1_42 post f_t y0 → W p l e ({ frames := 0, cells := 0, slots := 0, locals := 0 } : Room) s m args below meth c H locs 0 0 Q (F0 m 42 ls [.int y0]) := by
  obtain ⟨⟨hx, hb, hml, hown, hts⟩, hK, hN⟩ := id C0
  intro y0 H locs ls hP hD hS hl hw
  unfold wp_Natural_order1_42 at hw
  exact hret _  _ _ _ _ hw hP hD hS dX4_order_42
set_option maxHeartbeats 4000000 in
set_option maxRecDepth 100000 in
theorem tw_Natural_order1_3 {post : Int32 → Prop} {h_t h_tl : Nat} {f_t : Nat → Int32}  (C0 : cx RX4 cX4_order 3 D cT p s m c args) (hA : ∀ q, s.heap.size ≤ q → A q) (hret : ∀ (r : Int32)  (H : Heap) (locs : List Loc) (pc : Nat) (ls : Array Slot), post r → va_P D vwCl [(h_t, .inr (4, [.ref h_tl])), (h_tl, .inl (cT 0, 16, .inl f_t))] H → va_D A [(h_t, .inr (4, [.ref h_tl])), (h_tl, .inl (cT 0, 16, .inl f_t))] → va_S A s.heap H locs → decode cX4_order pc = .ok (.ireturn, 1) → W p l e ({ frames := 0, cells := 0, slots := 0, locals := 0 } : Room) s m args below meth c H locs 0 0 Q (F0 m pc ls [.int r]))  : ∀ (n : Nat) (x2 : Int32) (H : Heap) (locs : List Loc) (ls : Array Slot), va_P D vwCl [(h_t, .inr (4, [.ref h_tl])), (h_tl, .inl (cT 0, 16, .inl f_t))] H → va_D A [(h_t, .inr (4, [.ref h_tl])), (h_tl, .inl (cT 0, 16, .inl f_t))] → va_S A s.heap H locs → lv_has ls 3 [(0, .ref h_t), (1, .ref h_t), (2, .int x2)] → wp_Natural_order1_3 post f_t n x2 → W p l e ({ frames := 0, cells := 0, slots := 0, locals := 0 } : Room) s m args below meth c H locs 0 0 Q (F0 m 3 ls []) := by
  obtain ⟨⟨hx, hb, hml, hown, hts⟩, hK, hN⟩ := id C0
  intro n
  induction n with
  | zero => intro x2 H locs ls hP hD hS hl hw; exact hw.elim
  | succ n ih =>
    intro x2 H locs ls hP hD hS hl hw
    unfold wp_Natural_order1_3 at hw
    refine lv_iload_n hx hb dX4_order_3 rfl (lv_at hl 2 rfl) ?_
    refine lv_if_lt (tgt := 49) hx hb dX4_order_4 (by decide) (fun c_1 => ?_) (fun c_1 => ?_)
    · have hw := hw.1 c_1
      refine lv_iconst (v := 0) hx hb dX4_order_49 (by decide) ?_
      exact hret _  _ _ _ _ hw hP hD hS dX4_order_50
    · have hw := hw.2 c_1
      refine lv_aload_n hx hb dX4_order_7 rfl (lv_at hl 0 rfl) ?_
      refine va_get (D := D) (ci := 4) (v := .ref h_tl) (C := RX4) (T := TX4) (N := 1) hx hb hts inX4 hown hK hP 0 rfl rfl 0 (by decide) (hts _ q_105) (fun _ h9 => h9) rfl dX4_order_8 ?_
      refine lv_iload_n hx hb dX4_order_11 rfl (lv_at hl 2 rfl) ?_
      obtain ⟨h_2, hw⟩ := hw
      refine va_iald hx hb hK hP 1 0 rfl rfl h_2 dX4_order_12 ?_
      refine lv_aload_n hx hb dX4_order_13 rfl (lv_at hl 1 rfl) ?_
      refine va_get (D := D) (ci := 4) (v := .ref h_tl) (C := RX4) (T := TX4) (N := 1) hx hb hts inX4 hown hK hP 0 rfl rfl 0 (by decide) (hts _ q_105) (fun _ h9 => h9) rfl dX4_order_14 ?_
      refine lv_iload_n hx hb dX4_order_17 rfl (lv_at hl 2 rfl) ?_
      obtain ⟨h_3, hw⟩ := hw
      refine va_iald hx hb hK hP 1 0 rfl rfl h_3 dX4_order_18 ?_
      refine lv_icmp_eq (tgt := 43) hx hb dX4_order_19 (by decide) (fun c_4 => ?_) (fun c_4 => ?_)
      · have hw := hw.1 c_4
        obtain ⟨x2_5, ex2_5⟩ : ∃ y : Int32, y = x2 + (-1) := ⟨_, rfl⟩
        refine lv_iinc (v := x2_5) (lv' := [(2, .int x2_5), (0, .ref h_t), (1, .ref h_t)]) hx hb dX4_order_43 hl (k := 2) rfl (by rw [ex2_5]; rfl) (by decide) rfl (fun ls hl => ?_)
        have hw := hw x2_5 ex2_5
        refine lv_goto (tgt := 3) hx hb dX4_order_46 (by decide) ?_
        exact ih _ _ _ _ hP hD hS (lv_sub hl [1, 2, 0] rfl) hw
      · have hw := hw.2 c_4
        refine lv_aload_n hx hb dX4_order_22 rfl (lv_at hl 0 rfl) ?_
        refine va_get (D := D) (ci := 4) (v := .ref h_tl) (C := RX4) (T := TX4) (N := 1) hx hb hts inX4 hown hK hP 0 rfl rfl 0 (by decide) (hts _ q_105) (fun _ h9 => h9) rfl dX4_order_23 ?_
        refine lv_iload_n hx hb dX4_order_26 rfl (lv_at hl 2 rfl) ?_
        obtain ⟨h_6, hw⟩ := hw
        refine va_iald hx hb hK hP 1 0 rfl rfl h_6 dX4_order_27 ?_
        refine lv_aload_n hx hb dX4_order_28 rfl (lv_at hl 1 rfl) ?_
        refine va_get (D := D) (ci := 4) (v := .ref h_tl) (C := RX4) (T := TX4) (N := 1) hx hb hts inX4 hown hK hP 0 rfl rfl 0 (by decide) (hts _ q_105) (fun _ h9 => h9) rfl dX4_order_29 ?_
        refine lv_iload_n hx hb dX4_order_32 rfl (lv_at hl 2 rfl) ?_
        obtain ⟨h_7, hw⟩ := hw
        refine va_iald hx hb hK hP 1 0 rfl rfl h_7 dX4_order_33 ?_
        refine lv_icmp_ge (tgt := 41) hx hb dX4_order_34 (by decide) (fun c_8 => ?_) (fun c_8 => ?_)
        · have hw := hw.1 c_8
          refine lv_iconst (v := 1) hx hb dX4_order_41 (by decide) ?_
          exact tw_Natural_order1_42 C0 hA hret  _ _ _ _ hP hD hS (lv_sub hl [] rfl) hw
        · have hw := hw.2 c_8
          refine lv_iconst (v := (-1)) hx hb dX4_order_37 (by decide) ?_
          refine lv_goto (tgt := 42) hx hb dX4_order_38 (by decide) ?_
          exact tw_Natural_order1_42 C0 hA hret  _ _ _ _ hP hD hS (lv_sub hl [] rfl) hw
set_option maxHeartbeats 4000000 in
set_option maxRecDepth 100000 in
theorem tw_Natural_order1 {post : Int32 → Prop} {h_t h_tl : Nat} {f_t : Nat → Int32}  (C0 : cx RX4 cX4_order 3 D cT p s m c args) (hA : ∀ q, s.heap.size ≤ q → A q) (hret : ∀ (r : Int32)  (H : Heap) (locs : List Loc) (pc : Nat) (ls : Array Slot), post r → va_P D vwCl [(h_t, .inr (4, [.ref h_tl])), (h_tl, .inl (cT 0, 16, .inl f_t))] H → va_D A [(h_t, .inr (4, [.ref h_tl])), (h_tl, .inl (cT 0, 16, .inl f_t))] → va_S A s.heap H locs → decode cX4_order pc = .ok (.ireturn, 1) → W p l e ({ frames := 0, cells := 0, slots := 0, locals := 0 } : Room) s m args below meth c H locs 0 0 Q (F0 m pc ls [.int r]))  : ∀  (H : Heap) (locs : List Loc) (ls : Array Slot), va_P D vwCl [(h_t, .inr (4, [.ref h_tl])), (h_tl, .inl (cT 0, 16, .inl f_t))] H → va_D A [(h_t, .inr (4, [.ref h_tl])), (h_tl, .inl (cT 0, 16, .inl f_t))] → va_S A s.heap H locs → lv_has ls 3 [(0, .ref h_t), (1, .ref h_t)] → wp_Natural_order1 post f_t  → W p l e ({ frames := 0, cells := 0, slots := 0, locals := 0 } : Room) s m args below meth c H locs 0 0 Q (F0 m 0 ls []) := by
  obtain ⟨⟨hx, hb, hml, hown, hts⟩, hK, hN⟩ := id C0
  intro H locs ls hP hD hS hl hw
  unfold wp_Natural_order1 at hw
  refine lv_bipush (v := 15) hx hb dX4_order_0 (by decide) ?_
  refine lv_istore_n (lv' := [(2, .int 15), (0, .ref h_t), (1, .ref h_t)]) hx hb dX4_order_2 rfl hl (by decide) rfl (fun ls hl => ?_)
  obtain ⟨n9, hw⟩ := hw
  exact tw_Natural_order1_3 C0 hA hret  n9 _ _ _ _ hP hD hS (lv_sub hl [1, 2, 0] rfl) hw
set_option maxHeartbeats 4000000 in
set_option maxRecDepth 100000 in
theorem cn_Natural_order1 (l : Launch) (D : va_G) (cT : Nat → ClassId) (h_t h_tl : Nat) (sz : Nat) (f_t : Nat → Int32)  (post : Int32 → Prop) (hw : wp_Natural_order1 post f_t ) : Met l yX4_order wX4_order ({ frames := 0, cells := 0, slots := 0, locals := 0 } : Room) (va_Pc [.ref h_t, .ref h_t] (pre_ D cT [(h_t, .inr (4, [.ref h_tl])), (h_tl, .inl (cT 0, 16, .inl f_t))] sz)) (va_Qi (fun (r : Int32) (u : Unit) => post r) (fun u t => va_P D vwCl [(h_t, .inr (4, [.ref h_tl])), (h_tl, .inl (cT 0, 16, .inl f_t))] t.heap ∧ va_D (va_A [(h_t, .inr (4, [.ref h_tl])), (h_tl, .inl (cT 0, 16, .inl f_t))] sz) [(h_t, .inr (4, [.ref h_tl])), (h_tl, .inl (cT 0, 16, .inl f_t))]) (va_A [(h_t, .inr (4, [.ref h_tl])), (h_tl, .inl (cT 0, 16, .inl f_t))] sz)) 0 0 (va_A [(h_t, .inr (4, [.ref h_tl])), (h_tl, .inl (cT 0, 16, .inl f_t))] sz) := by
  refine Met.ofW (cc := cX4_order) (maxL := 3) (ret := (some .int)) (by decide) rfl ?_
  intro p e s m args below meth c s₁ B hml hv
  obtain ⟨rfl, hsz, hP, hK, hD0, hN⟩ := hv
  have hx := B.exec
  have hb := B.bytes
  have hr := B.returns
  have hts : ∀ w ∈ WG, w.before _ s = true := fun w h => atoms_spec (ws := wX4_order) B.pre w (List.mem_cons_of_mem _ h)
  have hown : s.vm.findClass RX4 = some m.cls := findClass_of_methodNamed B.named
  have hlocks := B.notSynchronized
  subst hsz
  have hD := hD0.self (sz := s.heap.size)
  generalize hAe : va_A [(h_t, .inr (4, [.ref h_tl])), (h_tl, .inl (cT 0, 16, .inl f_t))] s.heap.size = A at hD ⊢
  have hA : ∀ q : Nat, s.heap.size ≤ q → A q := fun q h => by rw [← hAe]; exact Or.inr h
  have hS : va_S A s.heap s.heap [] := va_S.rf
  have hl := lv_entry ([.ref h_t, .ref h_t]) (n := 3) (Nat.le_of_ble_eq_true rfl)
  rw [lg_entry_eq]
  generalize (lg_sl ([.ref h_t, .ref h_t]) ++ List.replicate (3 - (lg_sl ([.ref h_t, .ref h_t])).length) Slot.unset).toArray = ls at hl ⊢
  refine tw_Natural_order1 (Q := MQ below _ _ s 0 0 A) ⟨⟨hx, hb, hml, hown, hts⟩, hK, hN⟩ hA (fun r  H locs pc ls hp hP hD hS hd => W.iret (v := r) hx hb hr (fun t ht hW => ⟨⟨r, (), rfl, hp, by rw [ht]; exact hP, hD⟩, hS.F ht⟩) hS.2.2 hd)  _ _ _ hP hD hS hl hw
end
def wp_Natural_bitsOf_4 (post : Int32 → Prop)   : Nat → Int32 → Int32 → Prop
  | 0 => fun _ _ => False
  | n + 1 => fun x1 x2 => ((x2 ≤ 0 → (post x1)) ∧ (¬ x2 ≤ 0 → (∀ x1_2 : Int32, x1_2 = x1 + 1 → ∀ x2_3 : Int32, x2_3 = x2 >>> (1 &&& 31) → wp_Natural_bitsOf_4 post n x1_2 x2_3)))
def wp_Natural_bitsOf (post : Int32 → Prop)   (x0 : Int32) : Prop := ∃ k9, wp_Natural_bitsOf_4 post k9 0 x0
section
variable {p : Program} {l : Launch} {e : Env} {s : State} {m : MethodId} {args : Array Value} {below : List Frame} {meth : Method} {c : Code} {Q : State → Prop} {A : Nat → Prop} {D : va_G} {cT : Nat → ClassId}
set_option maxHeartbeats 4000000 in
set_option maxRecDepth 100000 in
theorem tw_Natural_bitsOf_4 {post : Int32 → Prop}   (C0 : cx RX4 cX4_bitsOf 3 D cT p s m c args) (hA : ∀ q, s.heap.size ≤ q → A q) (hret : ∀ (r : Int32)  (H : Heap) (locs : List Loc) (pc : Nat) (ls : Array Slot), post r → va_P D vwCl [] H → va_D A [] → va_S A s.heap H locs → decode cX4_bitsOf pc = .ok (.ireturn, 1) → W p l e ({ frames := 0, cells := 0, slots := 0, locals := 0 } : Room) s m args below meth c H locs 0 0 Q (F0 m pc ls [.int r]))  : ∀ (n : Nat) (x1 : Int32) (x2 : Int32) (H : Heap) (locs : List Loc) (ls : Array Slot), va_P D vwCl [] H → va_D A [] → va_S A s.heap H locs → lv_has ls 3 [(1, .int x1), (2, .int x2)] → wp_Natural_bitsOf_4 post n x1 x2 → W p l e ({ frames := 0, cells := 0, slots := 0, locals := 0 } : Room) s m args below meth c H locs 0 0 Q (F0 m 4 ls []) := by
  obtain ⟨⟨hx, hb, hml, hown, hts⟩, hK, hN⟩ := id C0
  intro n
  induction n with
  | zero => intro x1 x2 H locs ls hP hD hS hl hw; exact hw.elim
  | succ n ih =>
    intro x1 x2 H locs ls hP hD hS hl hw
    unfold wp_Natural_bitsOf_4 at hw
    refine lv_iload_n hx hb dX4_bitsOf_4 rfl (lv_at hl 1 rfl) ?_
    refine lv_if_le (tgt := 18) hx hb dX4_bitsOf_5 (by decide) (fun c_1 => ?_) (fun c_1 => ?_)
    · have hw := hw.1 c_1
      refine lv_iload_n hx hb dX4_bitsOf_18 rfl (lv_at hl 0 rfl) ?_
      exact hret _  _ _ _ _ hw hP hD hS dX4_bitsOf_19
    · have hw := hw.2 c_1
      obtain ⟨x1_2, ex1_2⟩ : ∃ y : Int32, y = x1 + 1 := ⟨_, rfl⟩
      refine lv_iinc (v := x1_2) (lv' := [(1, .int x1_2), (2, .int x2)]) hx hb dX4_bitsOf_8 hl (k := 0) rfl (by rw [ex1_2]; rfl) (by decide) rfl (fun ls hl => ?_)
      have hw := hw x1_2 ex1_2
      refine lv_iload_n hx hb dX4_bitsOf_11 rfl (lv_at hl 1 rfl) ?_
      refine lv_iconst (v := 1) hx hb dX4_bitsOf_12 (by decide) ?_
      refine lv_ishr hx hb dX4_bitsOf_13 ?_
      refine lv_topi (fun x2_3 ex2_3 => ?_)
      have hw := hw x2_3 ex2_3
      refine lv_istore_n (lv' := [(2, .int x2_3), (1, .int x1_2)]) hx hb dX4_bitsOf_14 rfl hl (by decide) rfl (fun ls hl => ?_)
      refine lv_goto (tgt := 4) hx hb dX4_bitsOf_15 (by decide) ?_
      exact ih _ _ _ _ _ hP hD hS (lv_sub hl [1, 0] rfl) hw
set_option maxHeartbeats 4000000 in
set_option maxRecDepth 100000 in
theorem tw_Natural_bitsOf {post : Int32 → Prop}   (C0 : cx RX4 cX4_bitsOf 3 D cT p s m c args) (hA : ∀ q, s.heap.size ≤ q → A q) (hret : ∀ (r : Int32)  (H : Heap) (locs : List Loc) (pc : Nat) (ls : Array Slot), post r → va_P D vwCl [] H → va_D A [] → va_S A s.heap H locs → decode cX4_bitsOf pc = .ok (.ireturn, 1) → W p l e ({ frames := 0, cells := 0, slots := 0, locals := 0 } : Room) s m args below meth c H locs 0 0 Q (F0 m pc ls [.int r]))  : ∀ (x0 : Int32) (H : Heap) (locs : List Loc) (ls : Array Slot), va_P D vwCl [] H → va_D A [] → va_S A s.heap H locs → lv_has ls 3 [(0, .int x0)] → wp_Natural_bitsOf post x0 → W p l e ({ frames := 0, cells := 0, slots := 0, locals := 0 } : Room) s m args below meth c H locs 0 0 Q (F0 m 0 ls []) := by
  obtain ⟨⟨hx, hb, hml, hown, hts⟩, hK, hN⟩ := id C0
  intro x0 H locs ls hP hD hS hl hw
  unfold wp_Natural_bitsOf at hw
  refine lv_iconst (v := 0) hx hb dX4_bitsOf_0 (by decide) ?_
  refine lv_istore_n (lv' := [(1, .int 0), (0, .int x0)]) hx hb dX4_bitsOf_1 rfl hl (by decide) rfl (fun ls hl => ?_)
  refine lv_iload_n hx hb dX4_bitsOf_2 rfl (lv_at hl 1 rfl) ?_
  refine lv_istore_n (lv' := [(2, .int x0), (1, .int 0), (0, .int x0)]) hx hb dX4_bitsOf_3 rfl hl (by decide) rfl (fun ls hl => ?_)
  obtain ⟨n9, hw⟩ := hw
  exact tw_Natural_bitsOf_4 C0 hA hret  n9 _ _ _ _ _ hP hD hS (lv_sub hl [1, 0] rfl) hw
set_option maxHeartbeats 4000000 in
set_option maxRecDepth 100000 in
theorem cn_Natural_bitsOf (l : Launch) (D : va_G) (cT : Nat → ClassId) (sz : Nat)  (x0 : Int32) (post : Int32 → Prop) (hw : wp_Natural_bitsOf post x0) : Met l yX4_bitsOf wX4_bitsOf ({ frames := 0, cells := 0, slots := 0, locals := 0 } : Room) (va_Pc [.int x0] (pre_ D cT [] sz)) (va_Qi (fun (r : Int32) (u : Unit) => post r) (fun u t => va_P D vwCl [] t.heap ∧ va_D (va_A [] sz) []) (va_A [] sz)) 0 0 (va_A [] sz) := by
  refine Met.ofW (cc := cX4_bitsOf) (maxL := 3) (ret := (some .int)) (by decide) rfl ?_
  intro p e s m args below meth c s₁ B hml hv
  obtain ⟨rfl, hsz, hP, hK, hD0, hN⟩ := hv
  have hx := B.exec
  have hb := B.bytes
  have hr := B.returns
  have hts : ∀ w ∈ WG, w.before _ s = true := fun w h => atoms_spec (ws := wX4_bitsOf) B.pre w (List.mem_cons_of_mem _ h)
  have hown : s.vm.findClass RX4 = some m.cls := findClass_of_methodNamed B.named
  have hlocks := B.notSynchronized
  subst hsz
  have hD := hD0.self (sz := s.heap.size)
  generalize hAe : va_A [] s.heap.size = A at hD ⊢
  have hA : ∀ q : Nat, s.heap.size ≤ q → A q := fun q h => by rw [← hAe]; exact Or.inr h
  have hS : va_S A s.heap s.heap [] := va_S.rf
  have hl := lv_entry ([.int x0]) (n := 3) (Nat.le_of_ble_eq_true rfl)
  rw [lg_entry_eq]
  generalize (lg_sl ([.int x0]) ++ List.replicate (3 - (lg_sl ([.int x0])).length) Slot.unset).toArray = ls at hl ⊢
  refine tw_Natural_bitsOf (Q := MQ below _ _ s 0 0 A) ⟨⟨hx, hb, hml, hown, hts⟩, hK, hN⟩ hA (fun r  H locs pc ls hp hP hD hS hd => W.iret (v := r) hx hb hr (fun t ht hW => ⟨⟨r, (), rfl, hp, by rw [ht]; exact hP, hD⟩, hS.F ht⟩) hS.2.2 hd) _ _ _ _ hP hD hS hl hw
end
def wp_Natural_bits_3 (post : Int32 → Prop) (f_t : Nat → Int32)  : Nat → Int32 → Prop
  | 0 => fun _ => False
  | n + 1 => fun x1 => ((x1 < 0 → (post 0)) ∧ (¬ x1 < 0 → ((vp_in x1 16 ∧ ((((f_t x1.toNatClampNeg) = 0 → (∀ x1_4 : Int32, x1_4 = x1 + (-1) → wp_Natural_bits_3 post f_t n x1_4)) ∧ (¬ (f_t x1.toNatClampNeg) = 0 → ((vp_in x1 16 ∧ (wp_Natural_bitsOf (fun r_6 => post ((x1 * 31) + r_6)) (f_t x1.toNatClampNeg)))))))))))
def wp_Natural_bits (post : Int32 → Prop) (f_t : Nat → Int32)   : Prop := ∃ k9, wp_Natural_bits_3 post f_t k9 15
section
variable {p : Program} {l : Launch} {e : Env} {s : State} {m : MethodId} {args : Array Value} {below : List Frame} {meth : Method} {c : Code} {Q : State → Prop} {A : Nat → Prop} {D : va_G} {cT : Nat → ClassId}
set_option maxHeartbeats 4000000 in
set_option maxRecDepth 100000 in
theorem tw_Natural_bits_3 {post : Int32 → Prop} {h_t h_tl : Nat} {f_t : Nat → Int32}  (C0 : cx RX4 cX4_bits 2 D cT p s m c args) (hA : ∀ q, s.heap.size ≤ q → A q) (hret : ∀ (r : Int32)  (H : Heap) (locs : List Loc) (pc : Nat) (ls : Array Slot), post r → va_P D vwCl [(h_t, .inr (4, [.ref h_tl])), (h_tl, .inl (cT 0, 16, .inl f_t))] H → va_D A [(h_t, .inr (4, [.ref h_tl])), (h_tl, .inl (cT 0, 16, .inl f_t))] → va_S A s.heap H locs → decode cX4_bits pc = .ok (.ireturn, 1) → W p l e ({ frames := 1, cells := 0, slots := 0, locals := 22 } : Room) s m args below meth c H locs 0 0 Q (F0 m pc ls [.int r]))  : ∀ (n : Nat) (x1 : Int32) (H : Heap) (locs : List Loc) (ls : Array Slot), va_P D vwCl [(h_t, .inr (4, [.ref h_tl])), (h_tl, .inl (cT 0, 16, .inl f_t))] H → va_D A [(h_t, .inr (4, [.ref h_tl])), (h_tl, .inl (cT 0, 16, .inl f_t))] → va_S A s.heap H locs → lv_has ls 2 [(0, .ref h_t), (1, .int x1)] → wp_Natural_bits_3 post f_t n x1 → W p l e ({ frames := 1, cells := 0, slots := 0, locals := 22 } : Room) s m args below meth c H locs 0 0 Q (F0 m 3 ls []) := by
  obtain ⟨⟨hx, hb, hml, hown, hts⟩, hK, hN⟩ := id C0
  intro n
  induction n with
  | zero => intro x1 H locs ls hP hD hS hl hw; exact hw.elim
  | succ n ih =>
    intro x1 H locs ls hP hD hS hl hw
    unfold wp_Natural_bits_3 at hw
    refine lv_iload_n hx hb dX4_bits_3 rfl (lv_at hl 1 rfl) ?_
    refine lv_if_lt (tgt := 37) hx hb dX4_bits_4 (by decide) (fun c_1 => ?_) (fun c_1 => ?_)
    · have hw := hw.1 c_1
      refine lv_iconst (v := 0) hx hb dX4_bits_37 (by decide) ?_
      exact hret _  _ _ _ _ hw hP hD hS dX4_bits_38
    · have hw := hw.2 c_1
      refine lv_aload_n hx hb dX4_bits_7 rfl (lv_at hl 0 rfl) ?_
      refine va_get (D := D) (ci := 4) (v := .ref h_tl) (C := RX4) (T := TX4) (N := 1) hx hb hts inX4 hown hK hP 0 rfl rfl 0 (by decide) (hts _ q_105) (fun _ h9 => h9) rfl dX4_bits_8 ?_
      refine lv_iload_n hx hb dX4_bits_11 rfl (lv_at hl 1 rfl) ?_
      obtain ⟨h_2, hw⟩ := hw
      refine va_iald hx hb hK hP 1 0 rfl rfl h_2 dX4_bits_12 ?_
      refine lv_if_eq (tgt := 31) hx hb dX4_bits_13 (by decide) (fun c_3 => ?_) (fun c_3 => ?_)
      · have hw := hw.1 c_3
        obtain ⟨x1_4, ex1_4⟩ : ∃ y : Int32, y = x1 + (-1) := ⟨_, rfl⟩
        refine lv_iinc (v := x1_4) (lv' := [(1, .int x1_4), (0, .ref h_t)]) hx hb dX4_bits_31 hl (k := 1) rfl (by rw [ex1_4]; rfl) (by decide) rfl (fun ls hl => ?_)
        have hw := hw x1_4 ex1_4
        refine lv_goto (tgt := 3) hx hb dX4_bits_34 (by decide) ?_
        exact ih _ _ _ _ hP hD hS (lv_sub hl [1, 0] rfl) hw
      · have hw := hw.2 c_3
        refine lv_iload_n hx hb dX4_bits_16 rfl (lv_at hl 1 rfl) ?_
        refine lv_bipush (v := 31) hx hb dX4_bits_17 (by decide) ?_
        refine lv_imul hx hb dX4_bits_19 ?_
        refine lv_aload_n hx hb dX4_bits_20 rfl (lv_at hl 0 rfl) ?_
        refine va_get (D := D) (ci := 4) (v := .ref h_tl) (C := RX4) (T := TX4) (N := 1) hx hb hts inX4 hown hK hP 0 rfl rfl 0 (by decide) (hts _ q_105) (fun _ h9 => h9) rfl dX4_bits_21 ?_
        refine lv_iload_n hx hb dX4_bits_24 rfl (lv_at hl 1 rfl) ?_
        obtain ⟨h_5, hw⟩ := hw
        refine va_iald hx hb hK hP 1 0 rfl rfl h_5 dX4_bits_25 ?_
        have hPc := hP.sub (ws' := []) [] rfl
        have hDc := hD.sub (ws' := []) [] (by decide) rfl
        have hFc := va_free (wc := []) hD hS hA [] rfl
        refine va_calli (va_runS (As := [.int (f_t x1.toNatClampNeg)]) (rest := [.int (x1 * 31)]) ⟨hx, hb, hml, hown, hts⟩ (cn_Natural_bitsOf l D cT  H.size (f_t x1.toNatClampNeg) _ hw) (gs_ 1 q_439 q_6 q_437 q_438 (by decide +kernel) ⟨Nat.le_of_ble_eq_true rfl, Nat.le_of_ble_eq_true rfl⟩ hts) ⟨pre_blind, fun U hU hW => ⟨rfl, pre_mk hU hW hPc hK hDc hN⟩⟩ rfl rfl hl.1 rfl (lv_room (Nat.le_of_ble_eq_true rfl)) dX4_bits_26 ⟨(Nat.zero_le _), (Nat.zero_le _)⟩) hS (fun q _ h => hFc q h) hFc (fun r_6 u9 t H locs ht hvm hw hB hz1 hk1 hS => ?_)
        obtain ⟨hP1, hD1⟩ := hB
        rw [ht] at hP1
        obtain ⟨hP, hD⟩ := va_join (wr := [(h_t, .inr (4, [.ref h_tl])), (h_tl, .inl (cT 0, 16, .inl f_t))]) (w1 := []) hP hD [] [0, 1] rfl rfl (by decide) (by decide) hk1 hFc hP1 hD1
        have hP := hP.sub (ws' := [(h_t, .inr (4, [.ref h_tl])), (h_tl, .inl (cT 0, 16, .inl f_t))]) [0, 1] rfl
        have hD := hD.sub (ws' := [(h_t, .inr (4, [.ref h_tl])), (h_tl, .inl (cT 0, 16, .inl f_t))]) [0, 1] (by decide) rfl
        clear hP1 hD1 hPc hDc hFc hk1 hz1 hvm ht
        try dsimp only at hw
        refine lv_iadd hx hb dX4_bits_29 ?_
        exact hret _  _ _ _ _ hw hP hD hS dX4_bits_30
set_option maxHeartbeats 4000000 in
set_option maxRecDepth 100000 in
theorem tw_Natural_bits {post : Int32 → Prop} {h_t h_tl : Nat} {f_t : Nat → Int32}  (C0 : cx RX4 cX4_bits 2 D cT p s m c args) (hA : ∀ q, s.heap.size ≤ q → A q) (hret : ∀ (r : Int32)  (H : Heap) (locs : List Loc) (pc : Nat) (ls : Array Slot), post r → va_P D vwCl [(h_t, .inr (4, [.ref h_tl])), (h_tl, .inl (cT 0, 16, .inl f_t))] H → va_D A [(h_t, .inr (4, [.ref h_tl])), (h_tl, .inl (cT 0, 16, .inl f_t))] → va_S A s.heap H locs → decode cX4_bits pc = .ok (.ireturn, 1) → W p l e ({ frames := 1, cells := 0, slots := 0, locals := 22 } : Room) s m args below meth c H locs 0 0 Q (F0 m pc ls [.int r]))  : ∀  (H : Heap) (locs : List Loc) (ls : Array Slot), va_P D vwCl [(h_t, .inr (4, [.ref h_tl])), (h_tl, .inl (cT 0, 16, .inl f_t))] H → va_D A [(h_t, .inr (4, [.ref h_tl])), (h_tl, .inl (cT 0, 16, .inl f_t))] → va_S A s.heap H locs → lv_has ls 2 [(0, .ref h_t)] → wp_Natural_bits post f_t  → W p l e ({ frames := 1, cells := 0, slots := 0, locals := 22 } : Room) s m args below meth c H locs 0 0 Q (F0 m 0 ls []) := by
  obtain ⟨⟨hx, hb, hml, hown, hts⟩, hK, hN⟩ := id C0
  intro H locs ls hP hD hS hl hw
  unfold wp_Natural_bits at hw
  refine lv_bipush (v := 15) hx hb dX4_bits_0 (by decide) ?_
  refine lv_istore_n (lv' := [(1, .int 15), (0, .ref h_t)]) hx hb dX4_bits_2 rfl hl (by decide) rfl (fun ls hl => ?_)
  obtain ⟨n9, hw⟩ := hw
  exact tw_Natural_bits_3 C0 hA hret  n9 _ _ _ _ hP hD hS (lv_sub hl [1, 0] rfl) hw
set_option maxHeartbeats 4000000 in
set_option maxRecDepth 100000 in
theorem cn_Natural_bits (l : Launch) (D : va_G) (cT : Nat → ClassId) (h_t h_tl : Nat) (sz : Nat) (f_t : Nat → Int32)  (post : Int32 → Prop) (hw : wp_Natural_bits post f_t ) : Met l yX4_bits wX4_bits ({ frames := 1, cells := 0, slots := 0, locals := 22 } : Room) (va_Pc [.ref h_t] (pre_ D cT [(h_t, .inr (4, [.ref h_tl])), (h_tl, .inl (cT 0, 16, .inl f_t))] sz)) (va_Qi (fun (r : Int32) (u : Unit) => post r) (fun u t => va_P D vwCl [(h_t, .inr (4, [.ref h_tl])), (h_tl, .inl (cT 0, 16, .inl f_t))] t.heap ∧ va_D (va_A [(h_t, .inr (4, [.ref h_tl])), (h_tl, .inl (cT 0, 16, .inl f_t))] sz) [(h_t, .inr (4, [.ref h_tl])), (h_tl, .inl (cT 0, 16, .inl f_t))]) (va_A [(h_t, .inr (4, [.ref h_tl])), (h_tl, .inl (cT 0, 16, .inl f_t))] sz)) 0 0 (va_A [(h_t, .inr (4, [.ref h_tl])), (h_tl, .inl (cT 0, 16, .inl f_t))] sz) := by
  refine Met.ofW (cc := cX4_bits) (maxL := 2) (ret := (some .int)) (by decide) rfl ?_
  intro p e s m args below meth c s₁ B hml hv
  obtain ⟨rfl, hsz, hP, hK, hD0, hN⟩ := hv
  have hx := B.exec
  have hb := B.bytes
  have hr := B.returns
  have hts : ∀ w ∈ WG, w.before _ s = true := fun w h => atoms_spec (ws := wX4_bits) B.pre w (List.mem_cons_of_mem _ h)
  have hown : s.vm.findClass RX4 = some m.cls := findClass_of_methodNamed B.named
  have hlocks := B.notSynchronized
  subst hsz
  have hD := hD0.self (sz := s.heap.size)
  generalize hAe : va_A [(h_t, .inr (4, [.ref h_tl])), (h_tl, .inl (cT 0, 16, .inl f_t))] s.heap.size = A at hD ⊢
  have hA : ∀ q : Nat, s.heap.size ≤ q → A q := fun q h => by rw [← hAe]; exact Or.inr h
  have hS : va_S A s.heap s.heap [] := va_S.rf
  have hl := lv_entry ([.ref h_t]) (n := 2) (Nat.le_of_ble_eq_true rfl)
  rw [lg_entry_eq]
  generalize (lg_sl ([.ref h_t]) ++ List.replicate (2 - (lg_sl ([.ref h_t])).length) Slot.unset).toArray = ls at hl ⊢
  refine tw_Natural_bits (Q := MQ below _ _ s 0 0 A) ⟨⟨hx, hb, hml, hown, hts⟩, hK, hN⟩ hA (fun r  H locs pc ls hp hP hD hS hd => W.iret (v := r) hx hb hr (fun t ht hW => ⟨⟨r, (), rfl, hp, by rw [ht]; exact hP, hD⟩, hS.F ht⟩) hS.2.2 hd)  _ _ _ hP hD hS hl hw
end
def wp_Natural_addMultiple_6 (post : (Nat → Int32) → Prop) (f_u : Nat → Int32)  : Nat → Int64 → Int64 → Int32 → (Nat → Int32) → Prop
  | 0 => fun _ _ _ _ => False
  | n + 1 => fun x2 x4 x6 f_t => ((16 ≤ x6 → (post f_t)) ∧ (¬ 16 ≤ x6 → ((vp_in x6 16 ∧ ((vp_in x6 16 ∧ (∀ x7_4 : Int64, x7_4 = (((f_t x6.toNatClampNeg).toInt64) + (((f_u x6.toNatClampNeg).toInt64) * x2)) + x4 → (vp_in x6 16 ∧ (∀ x4_6 : Int64, x4_6 = (x7_4.toUInt64 >>> ((31 : Int32).toInt64.toUInt64 &&& Int64.toUInt64 63)).toInt64 → ∀ x6_7 : Int32, x6_7 = x6 + 1 → wp_Natural_addMultiple_6 post f_u n x2 x4_6 x6_7 (upd f_t x6.toNatClampNeg ((x7_4 &&& 2147483647).toInt32)))))))))))
def wp_Natural_addMultiple (post : (Nat → Int32) → Prop) (f_u : Nat → Int32)  (x2 : Int64) (f_t : Nat → Int32) : Prop := ∃ k9, wp_Natural_addMultiple_6 post f_u k9 x2 0 0 f_t
section
variable {p : Program} {l : Launch} {e : Env} {s : State} {m : MethodId} {args : Array Value} {below : List Frame} {meth : Method} {c : Code} {Q : State → Prop} {A : Nat → Prop} {D : va_G} {cT : Nat → ClassId}
set_option maxHeartbeats 4000000 in
set_option maxRecDepth 100000 in
theorem tw_Natural_addMultiple_6 {post : (Nat → Int32) → Prop} {h_t h_tl h_u h_ul : Nat} {f_u : Nat → Int32}  (C0 : cx RX4 cX4_addMultiple 9 D cT p s m c args) (hA : ∀ q, s.heap.size ≤ q → A q) (hret : ∀ (f_t : Nat → Int32) (H : Heap) (locs : List Loc) (pc : Nat) (ls : Array Slot), post f_t → va_P D vwCl [(h_t, .inr (4, [.ref h_tl])), (h_tl, .inl (cT 0, 16, .inl f_t)), (h_u, .inr (4, [.ref h_ul])), (h_ul, .inl (cT 0, 16, .inl f_u))] H → va_D A [(h_t, .inr (4, [.ref h_tl])), (h_tl, .inl (cT 0, 16, .inl f_t)), (h_u, .inr (4, [.ref h_ul])), (h_ul, .inl (cT 0, 16, .inl f_u))] → va_S A s.heap H locs → decode cX4_addMultiple pc = .ok (.return_, 1) → W p l e ({ frames := 0, cells := 0, slots := 0, locals := 0 } : Room) s m args below meth c H locs 0 0 Q (F0 m pc ls []))  : ∀ (n : Nat) (x2 : Int64) (x4 : Int64) (x6 : Int32) (f_t : Nat → Int32) (H : Heap) (locs : List Loc) (ls : Array Slot), va_P D vwCl [(h_t, .inr (4, [.ref h_tl])), (h_tl, .inl (cT 0, 16, .inl f_t)), (h_u, .inr (4, [.ref h_ul])), (h_ul, .inl (cT 0, 16, .inl f_u))] H → va_D A [(h_t, .inr (4, [.ref h_tl])), (h_tl, .inl (cT 0, 16, .inl f_t)), (h_u, .inr (4, [.ref h_ul])), (h_ul, .inl (cT 0, 16, .inl f_u))] → va_S A s.heap H locs → lv_has ls 9 [(0, .ref h_t), (1, .ref h_u), (2, .long x2), (4, .long x4), (6, .int x6)] → wp_Natural_addMultiple_6 post f_u n x2 x4 x6 f_t → W p l e ({ frames := 0, cells := 0, slots := 0, locals := 0 } : Room) s m args below meth c H locs 0 0 Q (F0 m 6 ls []) := by
  obtain ⟨⟨hx, hb, hml, hown, hts⟩, hK, hN⟩ := id C0
  intro n
  induction n with
  | zero => intro x2 x4 x6 f_t H locs ls hP hD hS hl hw; exact hw.elim
  | succ n ih =>
    intro x2 x4 x6 f_t H locs ls hP hD hS hl hw
    unfold wp_Natural_addMultiple_6 at hw
    refine lv_iload hx hb dX4_addMultiple_6 (lv_at hl 4 rfl) ?_
    refine lv_bipush (v := 16) hx hb dX4_addMultiple_8 (by decide) ?_
    refine lv_icmp_ge (tgt := 64) hx hb dX4_addMultiple_10 (by decide) (fun c_1 => ?_) (fun c_1 => ?_)
    · have hw := hw.1 c_1
      exact hret _ _ _ _ _ hw hP hD hS dX4_addMultiple_64
    · have hw := hw.2 c_1
      refine lv_aload_n hx hb dX4_addMultiple_13 rfl (lv_at hl 0 rfl) ?_
      refine va_get (D := D) (ci := 4) (v := .ref h_tl) (C := RX4) (T := TX4) (N := 1) hx hb hts inX4 hown hK hP 0 rfl rfl 0 (by decide) (hts _ q_105) (fun _ h9 => h9) rfl dX4_addMultiple_14 ?_
      refine lv_iload hx hb dX4_addMultiple_17 (lv_at hl 4 rfl) ?_
      obtain ⟨h_2, hw⟩ := hw
      refine va_iald hx hb hK hP 1 0 rfl rfl h_2 dX4_addMultiple_19 ?_
      refine lv_i2l hx hb dX4_addMultiple_20 rfl ?_
      refine lv_aload_n hx hb dX4_addMultiple_21 rfl (lv_at hl 1 rfl) ?_
      refine va_get (D := D) (ci := 4) (v := .ref h_ul) (C := RX4) (T := TX4) (N := 1) hx hb hts inX4 hown hK hP 2 rfl rfl 0 (by decide) (hts _ q_105) (fun _ h9 => h9) rfl dX4_addMultiple_22 ?_
      refine lv_iload hx hb dX4_addMultiple_25 (lv_at hl 4 rfl) ?_
      obtain ⟨h_3, hw⟩ := hw
      refine va_iald hx hb hK hP 3 0 rfl rfl h_3 dX4_addMultiple_27 ?_
      refine lv_i2l hx hb dX4_addMultiple_28 rfl ?_
      refine lv_lload_n hx hb dX4_addMultiple_29 rfl (lv_at hl 2 rfl) ?_
      refine lv_lmul hx hb dX4_addMultiple_30 ?_
      refine lv_ladd hx hb dX4_addMultiple_31 ?_
      refine lv_lload hx hb dX4_addMultiple_32 (lv_at hl 3 rfl) ?_
      refine lv_ladd hx hb dX4_addMultiple_34 ?_
      refine lv_topl (fun x7_4 ex7_4 => ?_)
      have hw := hw x7_4 ex7_4
      refine lv_lstore (lv' := [(7, .long x7_4), (0, .ref h_t), (1, .ref h_u), (2, .long x2), (4, .long x4), (6, .int x6)]) hx hb dX4_addMultiple_35 hl (by decide) rfl (fun ls hl => ?_)
      refine lv_aload_n hx hb dX4_addMultiple_37 rfl (lv_at hl 1 rfl) ?_
      refine va_get (D := D) (ci := 4) (v := .ref h_tl) (C := RX4) (T := TX4) (N := 1) hx hb hts inX4 hown hK hP 0 rfl rfl 0 (by decide) (hts _ q_105) (fun _ h9 => h9) rfl dX4_addMultiple_38 ?_
      refine lv_iload hx hb dX4_addMultiple_41 (lv_at hl 5 rfl) ?_
      refine lv_lload hx hb dX4_addMultiple_43 (lv_at hl 0 rfl) ?_
      refine lv_ldc2 (v := 2147483647) hx hb hown (hts _ q_291) dX4_addMultiple_45 ?_
      refine lv_land hx hb dX4_addMultiple_48 ?_
      refine lv_l2i hx hb dX4_addMultiple_49 rfl ?_
      obtain ⟨h_5, hw⟩ := hw
      refine va_iast hx hb hK hP hD hS 1 0 rfl rfl h_5 dX4_addMultiple_50 (fun H locs hP hD hS => ?_)
      have hP : va_P D vwCl [(h_t, .inr (4, [.ref h_tl])), (h_tl, .inl (cT 0, 16, .inl (upd f_t x6.toNatClampNeg ((x7_4 &&& 2147483647).toInt32)))), (h_u, .inr (4, [.ref h_ul])), (h_ul, .inl (cT 0, 16, .inl f_u))] H := hP
      have hD : va_D A [(h_t, .inr (4, [.ref h_tl])), (h_tl, .inl (cT 0, 16, .inl (upd f_t x6.toNatClampNeg ((x7_4 &&& 2147483647).toInt32)))), (h_u, .inr (4, [.ref h_ul])), (h_ul, .inl (cT 0, 16, .inl f_u))] := hD
      refine lv_lload hx hb dX4_addMultiple_51 (lv_at hl 0 rfl) ?_
      refine lv_bipush (v := 31) hx hb dX4_addMultiple_53 (by decide) ?_
      refine lv_lushr hx hb dX4_addMultiple_55 rfl ?_
      refine lv_topl (fun x4_6 ex4_6 => ?_)
      have hw := hw x4_6 ex4_6
      refine lv_lstore (lv' := [(4, .long x4_6), (7, .long x7_4), (0, .ref h_t), (1, .ref h_u), (2, .long x2), (6, .int x6)]) hx hb dX4_addMultiple_56 hl (by decide) rfl (fun ls hl => ?_)
      obtain ⟨x6_7, ex6_7⟩ : ∃ y : Int32, y = x6 + 1 := ⟨_, rfl⟩
      refine lv_iinc (v := x6_7) (lv' := [(6, .int x6_7), (4, .long x4_6), (7, .long x7_4), (0, .ref h_t), (1, .ref h_u), (2, .long x2)]) hx hb dX4_addMultiple_58 hl (k := 5) rfl (by rw [ex6_7]; rfl) (by decide) rfl (fun ls hl => ?_)
      have hw := hw x6_7 ex6_7
      refine lv_goto (tgt := 6) hx hb dX4_addMultiple_61 (by decide) ?_
      exact ih _ _ _ _ _ _ _ hP hD hS (lv_sub hl [3, 4, 5, 1, 0] rfl) hw
set_option maxHeartbeats 4000000 in
set_option maxRecDepth 100000 in
theorem tw_Natural_addMultiple {post : (Nat → Int32) → Prop} {h_t h_tl h_u h_ul : Nat} {f_u : Nat → Int32}  (C0 : cx RX4 cX4_addMultiple 9 D cT p s m c args) (hA : ∀ q, s.heap.size ≤ q → A q) (hret : ∀ (f_t : Nat → Int32) (H : Heap) (locs : List Loc) (pc : Nat) (ls : Array Slot), post f_t → va_P D vwCl [(h_t, .inr (4, [.ref h_tl])), (h_tl, .inl (cT 0, 16, .inl f_t)), (h_u, .inr (4, [.ref h_ul])), (h_ul, .inl (cT 0, 16, .inl f_u))] H → va_D A [(h_t, .inr (4, [.ref h_tl])), (h_tl, .inl (cT 0, 16, .inl f_t)), (h_u, .inr (4, [.ref h_ul])), (h_ul, .inl (cT 0, 16, .inl f_u))] → va_S A s.heap H locs → decode cX4_addMultiple pc = .ok (.return_, 1) → W p l e ({ frames := 0, cells := 0, slots := 0, locals := 0 } : Room) s m args below meth c H locs 0 0 Q (F0 m pc ls []))  : ∀ (x2 : Int64) (f_t : Nat → Int32) (H : Heap) (locs : List Loc) (ls : Array Slot), va_P D vwCl [(h_t, .inr (4, [.ref h_tl])), (h_tl, .inl (cT 0, 16, .inl f_t)), (h_u, .inr (4, [.ref h_ul])), (h_ul, .inl (cT 0, 16, .inl f_u))] H → va_D A [(h_t, .inr (4, [.ref h_tl])), (h_tl, .inl (cT 0, 16, .inl f_t)), (h_u, .inr (4, [.ref h_ul])), (h_ul, .inl (cT 0, 16, .inl f_u))] → va_S A s.heap H locs → lv_has ls 9 [(0, .ref h_t), (1, .ref h_u), (2, .long x2)] → wp_Natural_addMultiple post f_u x2 f_t → W p l e ({ frames := 0, cells := 0, slots := 0, locals := 0 } : Room) s m args below meth c H locs 0 0 Q (F0 m 0 ls []) := by
  obtain ⟨⟨hx, hb, hml, hown, hts⟩, hK, hN⟩ := id C0
  intro x2 f_t H locs ls hP hD hS hl hw
  unfold wp_Natural_addMultiple at hw
  refine lv_lconst (v := 0) hx hb dX4_addMultiple_0 (by decide) ?_
  refine lv_lstore (lv' := [(4, .long 0), (0, .ref h_t), (1, .ref h_u), (2, .long x2)]) hx hb dX4_addMultiple_1 hl (by decide) rfl (fun ls hl => ?_)
  refine lv_iconst (v := 0) hx hb dX4_addMultiple_3 (by decide) ?_
  refine lv_istore (lv' := [(6, .int 0), (4, .long 0), (0, .ref h_t), (1, .ref h_u), (2, .long x2)]) hx hb dX4_addMultiple_4 hl (by decide) rfl (fun ls hl => ?_)
  obtain ⟨n9, hw⟩ := hw
  exact tw_Natural_addMultiple_6 C0 hA hret  n9 _ _ _ _ _ _ _ hP hD hS (lv_sub hl [2, 3, 4, 1, 0] rfl) hw
set_option maxHeartbeats 4000000 in
set_option maxRecDepth 100000 in
theorem cn_Natural_addMultiple (l : Launch) (D : va_G) (cT : Nat → ClassId) (h_t h_tl h_u h_ul : Nat) (sz : Nat) (f_t : Nat → Int32) (f_u : Nat → Int32) (x2 : Int64) (post : (Nat → Int32) → Prop) (hw : wp_Natural_addMultiple post f_u x2 f_t) : Met l yX4_addMultiple wX4_addMultiple ({ frames := 0, cells := 0, slots := 0, locals := 0 } : Room) (va_Pc [.ref h_t, .ref h_u, .long x2] (pre_ D cT [(h_t, .inr (4, [.ref h_tl])), (h_tl, .inl (cT 0, 16, .inl f_t)), (h_u, .inr (4, [.ref h_ul])), (h_ul, .inl (cT 0, 16, .inl f_u))] sz)) (va_Qv (fun (u : (Nat → Int32)) => post u) (fun u t => va_P D vwCl [(h_t, .inr (4, [.ref h_tl])), (h_tl, .inl (cT 0, 16, .inl u)), (h_u, .inr (4, [.ref h_ul])), (h_ul, .inl (cT 0, 16, .inl f_u))] t.heap ∧ va_D (va_A [(h_t, .inr (4, [.ref h_tl])), (h_tl, .inl (cT 0, 16, .inl f_t)), (h_u, .inr (4, [.ref h_ul])), (h_ul, .inl (cT 0, 16, .inl f_u))] sz) [(h_t, .inr (4, [.ref h_tl])), (h_tl, .inl (cT 0, 16, .inl u)), (h_u, .inr (4, [.ref h_ul])), (h_ul, .inl (cT 0, 16, .inl f_u))]) (va_A [(h_t, .inr (4, [.ref h_tl])), (h_tl, .inl (cT 0, 16, .inl f_t)), (h_u, .inr (4, [.ref h_ul])), (h_ul, .inl (cT 0, 16, .inl f_u))] sz)) 0 0 (va_A [(h_t, .inr (4, [.ref h_tl])), (h_tl, .inl (cT 0, 16, .inl f_t)), (h_u, .inr (4, [.ref h_ul])), (h_ul, .inl (cT 0, 16, .inl f_u))] sz) := by
  refine Met.ofW (cc := cX4_addMultiple) (maxL := 9) (ret := none) (by decide) rfl ?_
  intro p e s m args below meth c s₁ B hml hv
  obtain ⟨rfl, hsz, hP, hK, hD0, hN⟩ := hv
  have hx := B.exec
  have hb := B.bytes
  have hr := B.returns
  have hts : ∀ w ∈ WG, w.before _ s = true := fun w h => atoms_spec (ws := wX4_addMultiple) B.pre w (List.mem_cons_of_mem _ h)
  have hown : s.vm.findClass RX4 = some m.cls := findClass_of_methodNamed B.named
  have hlocks := B.notSynchronized
  subst hsz
  have hD := hD0.self (sz := s.heap.size)
  generalize hAe : va_A [(h_t, .inr (4, [.ref h_tl])), (h_tl, .inl (cT 0, 16, .inl f_t)), (h_u, .inr (4, [.ref h_ul])), (h_ul, .inl (cT 0, 16, .inl f_u))] s.heap.size = A at hD ⊢
  have hA : ∀ q : Nat, s.heap.size ≤ q → A q := fun q h => by rw [← hAe]; exact Or.inr h
  have hS : va_S A s.heap s.heap [] := va_S.rf
  have hl := lv_entry ([.ref h_t, .ref h_u, .long x2]) (n := 9) (Nat.le_of_ble_eq_true rfl)
  rw [lg_entry_eq]
  generalize (lg_sl ([.ref h_t, .ref h_u, .long x2]) ++ List.replicate (9 - (lg_sl ([.ref h_t, .ref h_u, .long x2])).length) Slot.unset).toArray = ls at hl ⊢
  refine tw_Natural_addMultiple (Q := MQ below _ _ s 0 0 A) ⟨⟨hx, hb, hml, hown, hts⟩, hK, hN⟩ hA (fun f_t H locs pc ls hp hP hD hS hd => W.vret hx hb hr (fun t ht hW => ⟨⟨(f_t), rfl, hp, by rw [ht]; exact hP, hD⟩, hS.F ht⟩) hS.2.2 hd) _ _ _ _ _ hP hD hS hl hw
end
def wp_Natural_multiply_5 (post : (Nat → Int32) → Prop)   : Nat → Int64 → Int64 → Int32 → (Nat → Int32) → Prop
  | 0 => fun _ _ _ _ => False
  | n + 1 => fun x1 x3 x5 f_t => ((16 ≤ x5 → (post f_t)) ∧ (¬ 16 ≤ x5 → ((vp_in x5 16 ∧ (∀ x6_3 : Int64, x6_3 = (((f_t x5.toNatClampNeg).toInt64) * x1) + x3 → (vp_in x5 16 ∧ (∀ x3_5 : Int64, x3_5 = (x6_3.toUInt64 >>> ((31 : Int32).toInt64.toUInt64 &&& Int64.toUInt64 63)).toInt64 → ∀ x5_6 : Int32, x5_6 = x5 + 1 → wp_Natural_multiply_5 post n x1 x3_5 x5_6 (upd f_t x5.toNatClampNeg ((x6_3 &&& 2147483647).toInt32)))))))))
def wp_Natural_multiply (post : (Nat → Int32) → Prop)   (x1 : Int64) (f_t : Nat → Int32) : Prop := ∃ k9, wp_Natural_multiply_5 post k9 x1 0 0 f_t
section
variable {p : Program} {l : Launch} {e : Env} {s : State} {m : MethodId} {args : Array Value} {below : List Frame} {meth : Method} {c : Code} {Q : State → Prop} {A : Nat → Prop} {D : va_G} {cT : Nat → ClassId}
set_option maxHeartbeats 4000000 in
set_option maxRecDepth 100000 in
theorem tw_Natural_multiply_5 {post : (Nat → Int32) → Prop} {h_t h_tl : Nat}   (C0 : cx RX4 cX4_multiply 8 D cT p s m c args) (hA : ∀ q, s.heap.size ≤ q → A q) (hret : ∀ (f_t : Nat → Int32) (H : Heap) (locs : List Loc) (pc : Nat) (ls : Array Slot), post f_t → va_P D vwCl [(h_t, .inr (4, [.ref h_tl])), (h_tl, .inl (cT 0, 16, .inl f_t))] H → va_D A [(h_t, .inr (4, [.ref h_tl])), (h_tl, .inl (cT 0, 16, .inl f_t))] → va_S A s.heap H locs → decode cX4_multiply pc = .ok (.return_, 1) → W p l e ({ frames := 0, cells := 0, slots := 0, locals := 0 } : Room) s m args below meth c H locs 0 0 Q (F0 m pc ls []))  : ∀ (n : Nat) (x1 : Int64) (x3 : Int64) (x5 : Int32) (f_t : Nat → Int32) (H : Heap) (locs : List Loc) (ls : Array Slot), va_P D vwCl [(h_t, .inr (4, [.ref h_tl])), (h_tl, .inl (cT 0, 16, .inl f_t))] H → va_D A [(h_t, .inr (4, [.ref h_tl])), (h_tl, .inl (cT 0, 16, .inl f_t))] → va_S A s.heap H locs → lv_has ls 8 [(0, .ref h_t), (1, .long x1), (3, .long x3), (5, .int x5)] → wp_Natural_multiply_5 post n x1 x3 x5 f_t → W p l e ({ frames := 0, cells := 0, slots := 0, locals := 0 } : Room) s m args below meth c H locs 0 0 Q (F0 m 5 ls []) := by
  obtain ⟨⟨hx, hb, hml, hown, hts⟩, hK, hN⟩ := id C0
  intro n
  induction n with
  | zero => intro x1 x3 x5 f_t H locs ls hP hD hS hl hw; exact hw.elim
  | succ n ih =>
    intro x1 x3 x5 f_t H locs ls hP hD hS hl hw
    unfold wp_Natural_multiply_5 at hw
    refine lv_iload hx hb dX4_multiply_5 (lv_at hl 3 rfl) ?_
    refine lv_bipush (v := 16) hx hb dX4_multiply_7 (by decide) ?_
    refine lv_icmp_ge (tgt := 52) hx hb dX4_multiply_9 (by decide) (fun c_1 => ?_) (fun c_1 => ?_)
    · have hw := hw.1 c_1
      exact hret _ _ _ _ _ hw hP hD hS dX4_multiply_52
    · have hw := hw.2 c_1
      refine lv_aload_n hx hb dX4_multiply_12 rfl (lv_at hl 0 rfl) ?_
      refine va_get (D := D) (ci := 4) (v := .ref h_tl) (C := RX4) (T := TX4) (N := 1) hx hb hts inX4 hown hK hP 0 rfl rfl 0 (by decide) (hts _ q_105) (fun _ h9 => h9) rfl dX4_multiply_13 ?_
      refine lv_iload hx hb dX4_multiply_16 (lv_at hl 3 rfl) ?_
      obtain ⟨h_2, hw⟩ := hw
      refine va_iald hx hb hK hP 1 0 rfl rfl h_2 dX4_multiply_18 ?_
      refine lv_i2l hx hb dX4_multiply_19 rfl ?_
      refine lv_lload_n hx hb dX4_multiply_20 rfl (lv_at hl 1 rfl) ?_
      refine lv_lmul hx hb dX4_multiply_21 ?_
      refine lv_lload_n hx hb dX4_multiply_22 rfl (lv_at hl 2 rfl) ?_
      refine lv_ladd hx hb dX4_multiply_23 ?_
      refine lv_topl (fun x6_3 ex6_3 => ?_)
      have hw := hw x6_3 ex6_3
      refine lv_lstore (lv' := [(6, .long x6_3), (0, .ref h_t), (1, .long x1), (3, .long x3), (5, .int x5)]) hx hb dX4_multiply_24 hl (by decide) rfl (fun ls hl => ?_)
      refine lv_aload_n hx hb dX4_multiply_26 rfl (lv_at hl 1 rfl) ?_
      refine va_get (D := D) (ci := 4) (v := .ref h_tl) (C := RX4) (T := TX4) (N := 1) hx hb hts inX4 hown hK hP 0 rfl rfl 0 (by decide) (hts _ q_105) (fun _ h9 => h9) rfl dX4_multiply_27 ?_
      refine lv_iload hx hb dX4_multiply_30 (lv_at hl 4 rfl) ?_
      refine lv_lload hx hb dX4_multiply_32 (lv_at hl 0 rfl) ?_
      refine lv_ldc2 (v := 2147483647) hx hb hown (hts _ q_291) dX4_multiply_34 ?_
      refine lv_land hx hb dX4_multiply_37 ?_
      refine lv_l2i hx hb dX4_multiply_38 rfl ?_
      obtain ⟨h_4, hw⟩ := hw
      refine va_iast hx hb hK hP hD hS 1 0 rfl rfl h_4 dX4_multiply_39 (fun H locs hP hD hS => ?_)
      have hP : va_P D vwCl [(h_t, .inr (4, [.ref h_tl])), (h_tl, .inl (cT 0, 16, .inl (upd f_t x5.toNatClampNeg ((x6_3 &&& 2147483647).toInt32))))] H := hP
      have hD : va_D A [(h_t, .inr (4, [.ref h_tl])), (h_tl, .inl (cT 0, 16, .inl (upd f_t x5.toNatClampNeg ((x6_3 &&& 2147483647).toInt32))))] := hD
      refine lv_lload hx hb dX4_multiply_40 (lv_at hl 0 rfl) ?_
      refine lv_bipush (v := 31) hx hb dX4_multiply_42 (by decide) ?_
      refine lv_lushr hx hb dX4_multiply_44 rfl ?_
      refine lv_topl (fun x3_5 ex3_5 => ?_)
      have hw := hw x3_5 ex3_5
      refine lv_lstore_n (lv' := [(3, .long x3_5), (6, .long x6_3), (0, .ref h_t), (1, .long x1), (5, .int x5)]) hx hb dX4_multiply_45 rfl hl (by decide) rfl (fun ls hl => ?_)
      obtain ⟨x5_6, ex5_6⟩ : ∃ y : Int32, y = x5 + 1 := ⟨_, rfl⟩
      refine lv_iinc (v := x5_6) (lv' := [(5, .int x5_6), (3, .long x3_5), (6, .long x6_3), (0, .ref h_t), (1, .long x1)]) hx hb dX4_multiply_46 hl (k := 4) rfl (by rw [ex5_6]; rfl) (by decide) rfl (fun ls hl => ?_)
      have hw := hw x5_6 ex5_6
      refine lv_goto (tgt := 5) hx hb dX4_multiply_49 (by decide) ?_
      exact ih _ _ _ _ _ _ _ hP hD hS (lv_sub hl [3, 4, 1, 0] rfl) hw
set_option maxHeartbeats 4000000 in
set_option maxRecDepth 100000 in
theorem tw_Natural_multiply {post : (Nat → Int32) → Prop} {h_t h_tl : Nat}   (C0 : cx RX4 cX4_multiply 8 D cT p s m c args) (hA : ∀ q, s.heap.size ≤ q → A q) (hret : ∀ (f_t : Nat → Int32) (H : Heap) (locs : List Loc) (pc : Nat) (ls : Array Slot), post f_t → va_P D vwCl [(h_t, .inr (4, [.ref h_tl])), (h_tl, .inl (cT 0, 16, .inl f_t))] H → va_D A [(h_t, .inr (4, [.ref h_tl])), (h_tl, .inl (cT 0, 16, .inl f_t))] → va_S A s.heap H locs → decode cX4_multiply pc = .ok (.return_, 1) → W p l e ({ frames := 0, cells := 0, slots := 0, locals := 0 } : Room) s m args below meth c H locs 0 0 Q (F0 m pc ls []))  : ∀ (x1 : Int64) (f_t : Nat → Int32) (H : Heap) (locs : List Loc) (ls : Array Slot), va_P D vwCl [(h_t, .inr (4, [.ref h_tl])), (h_tl, .inl (cT 0, 16, .inl f_t))] H → va_D A [(h_t, .inr (4, [.ref h_tl])), (h_tl, .inl (cT 0, 16, .inl f_t))] → va_S A s.heap H locs → lv_has ls 8 [(0, .ref h_t), (1, .long x1)] → wp_Natural_multiply post x1 f_t → W p l e ({ frames := 0, cells := 0, slots := 0, locals := 0 } : Room) s m args below meth c H locs 0 0 Q (F0 m 0 ls []) := by
  obtain ⟨⟨hx, hb, hml, hown, hts⟩, hK, hN⟩ := id C0
  intro x1 f_t H locs ls hP hD hS hl hw
  unfold wp_Natural_multiply at hw
  refine lv_lconst (v := 0) hx hb dX4_multiply_0 (by decide) ?_
  refine lv_lstore_n (lv' := [(3, .long 0), (0, .ref h_t), (1, .long x1)]) hx hb dX4_multiply_1 rfl hl (by decide) rfl (fun ls hl => ?_)
  refine lv_iconst (v := 0) hx hb dX4_multiply_2 (by decide) ?_
  refine lv_istore (lv' := [(5, .int 0), (3, .long 0), (0, .ref h_t), (1, .long x1)]) hx hb dX4_multiply_3 hl (by decide) rfl (fun ls hl => ?_)
  obtain ⟨n9, hw⟩ := hw
  exact tw_Natural_multiply_5 C0 hA hret  n9 _ _ _ _ _ _ _ hP hD hS (lv_sub hl [2, 3, 1, 0] rfl) hw
set_option maxHeartbeats 4000000 in
set_option maxRecDepth 100000 in
theorem cn_Natural_multiply (l : Launch) (D : va_G) (cT : Nat → ClassId) (h_t h_tl : Nat) (sz : Nat) (f_t : Nat → Int32) (x1 : Int64) (post : (Nat → Int32) → Prop) (hw : wp_Natural_multiply post x1 f_t) : Met l yX4_multiply wX4_multiply ({ frames := 0, cells := 0, slots := 0, locals := 0 } : Room) (va_Pc [.ref h_t, .long x1] (pre_ D cT [(h_t, .inr (4, [.ref h_tl])), (h_tl, .inl (cT 0, 16, .inl f_t))] sz)) (va_Qv (fun (u : (Nat → Int32)) => post u) (fun u t => va_P D vwCl [(h_t, .inr (4, [.ref h_tl])), (h_tl, .inl (cT 0, 16, .inl u))] t.heap ∧ va_D (va_A [(h_t, .inr (4, [.ref h_tl])), (h_tl, .inl (cT 0, 16, .inl f_t))] sz) [(h_t, .inr (4, [.ref h_tl])), (h_tl, .inl (cT 0, 16, .inl u))]) (va_A [(h_t, .inr (4, [.ref h_tl])), (h_tl, .inl (cT 0, 16, .inl f_t))] sz)) 0 0 (va_A [(h_t, .inr (4, [.ref h_tl])), (h_tl, .inl (cT 0, 16, .inl f_t))] sz) := by
  refine Met.ofW (cc := cX4_multiply) (maxL := 8) (ret := none) (by decide) rfl ?_
  intro p e s m args below meth c s₁ B hml hv
  obtain ⟨rfl, hsz, hP, hK, hD0, hN⟩ := hv
  have hx := B.exec
  have hb := B.bytes
  have hr := B.returns
  have hts : ∀ w ∈ WG, w.before _ s = true := fun w h => atoms_spec (ws := wX4_multiply) B.pre w (List.mem_cons_of_mem _ h)
  have hown : s.vm.findClass RX4 = some m.cls := findClass_of_methodNamed B.named
  have hlocks := B.notSynchronized
  subst hsz
  have hD := hD0.self (sz := s.heap.size)
  generalize hAe : va_A [(h_t, .inr (4, [.ref h_tl])), (h_tl, .inl (cT 0, 16, .inl f_t))] s.heap.size = A at hD ⊢
  have hA : ∀ q : Nat, s.heap.size ≤ q → A q := fun q h => by rw [← hAe]; exact Or.inr h
  have hS : va_S A s.heap s.heap [] := va_S.rf
  have hl := lv_entry ([.ref h_t, .long x1]) (n := 8) (Nat.le_of_ble_eq_true rfl)
  rw [lg_entry_eq]
  generalize (lg_sl ([.ref h_t, .long x1]) ++ List.replicate (8 - (lg_sl ([.ref h_t, .long x1])).length) Slot.unset).toArray = ls at hl ⊢
  refine tw_Natural_multiply (Q := MQ below _ _ s 0 0 A) ⟨⟨hx, hb, hml, hown, hts⟩, hK, hN⟩ hA (fun f_t H locs pc ls hp hP hD hS hd => W.vret hx hb hr (fun t ht hW => ⟨⟨(f_t), rfl, hp, by rw [ht]; exact hP, hD⟩, hS.F ht⟩) hS.2.2 hd) _ _ _ _ _ hP hD hS hl hw
end
def wp_Natural_subtract_4 (post : (Nat → Int32) → Prop) (f_u : Nat → Int32)  : Nat → Int32 → Int32 → (Nat → Int32) → Prop
  | 0 => fun _ _ _ => False
  | n + 1 => fun x2 x3 f_t => ((16 ≤ x3 → (post f_t)) ∧ (¬ 16 ≤ x3 → ((vp_in x3 16 ∧ ((vp_in x3 16 ∧ (∀ x4_4 : Int32, x4_4 = ((f_t x3.toNatClampNeg) - (f_u x3.toNatClampNeg)) - x2 → (vp_in x3 16 ∧ (∀ x2_6 : Int32, x2_6 = (x4_4.toUInt32 >>> ((31 : Int32).toUInt32 &&& Int32.toUInt32 31)).toInt32 → ∀ x3_7 : Int32, x3_7 = x3 + 1 → wp_Natural_subtract_4 post f_u n x2_6 x3_7 (upd f_t x3.toNatClampNeg (x4_4 &&& 2147483647)))))))))))
def wp_Natural_subtract (post : (Nat → Int32) → Prop) (f_u : Nat → Int32)  (f_t : Nat → Int32) : Prop := ∃ k9, wp_Natural_subtract_4 post f_u k9 0 0 f_t
section
variable {p : Program} {l : Launch} {e : Env} {s : State} {m : MethodId} {args : Array Value} {below : List Frame} {meth : Method} {c : Code} {Q : State → Prop} {A : Nat → Prop} {D : va_G} {cT : Nat → ClassId}
set_option maxHeartbeats 4000000 in
set_option maxRecDepth 100000 in
theorem tw_Natural_subtract_4 {post : (Nat → Int32) → Prop} {h_t h_tl h_u h_ul : Nat} {f_u : Nat → Int32}  (C0 : cx RX4 cX4_subtract 5 D cT p s m c args) (hA : ∀ q, s.heap.size ≤ q → A q) (hret : ∀ (f_t : Nat → Int32) (H : Heap) (locs : List Loc) (pc : Nat) (ls : Array Slot), post f_t → va_P D vwCl [(h_t, .inr (4, [.ref h_tl])), (h_tl, .inl (cT 0, 16, .inl f_t)), (h_u, .inr (4, [.ref h_ul])), (h_ul, .inl (cT 0, 16, .inl f_u))] H → va_D A [(h_t, .inr (4, [.ref h_tl])), (h_tl, .inl (cT 0, 16, .inl f_t)), (h_u, .inr (4, [.ref h_ul])), (h_ul, .inl (cT 0, 16, .inl f_u))] → va_S A s.heap H locs → decode cX4_subtract pc = .ok (.return_, 1) → W p l e ({ frames := 0, cells := 0, slots := 0, locals := 0 } : Room) s m args below meth c H locs 0 0 Q (F0 m pc ls []))  : ∀ (n : Nat) (x2 : Int32) (x3 : Int32) (f_t : Nat → Int32) (H : Heap) (locs : List Loc) (ls : Array Slot), va_P D vwCl [(h_t, .inr (4, [.ref h_tl])), (h_tl, .inl (cT 0, 16, .inl f_t)), (h_u, .inr (4, [.ref h_ul])), (h_ul, .inl (cT 0, 16, .inl f_u))] H → va_D A [(h_t, .inr (4, [.ref h_tl])), (h_tl, .inl (cT 0, 16, .inl f_t)), (h_u, .inr (4, [.ref h_ul])), (h_ul, .inl (cT 0, 16, .inl f_u))] → va_S A s.heap H locs → lv_has ls 5 [(0, .ref h_t), (1, .ref h_u), (2, .int x2), (3, .int x3)] → wp_Natural_subtract_4 post f_u n x2 x3 f_t → W p l e ({ frames := 0, cells := 0, slots := 0, locals := 0 } : Room) s m args below meth c H locs 0 0 Q (F0 m 4 ls []) := by
  obtain ⟨⟨hx, hb, hml, hown, hts⟩, hK, hN⟩ := id C0
  intro n
  induction n with
  | zero => intro x2 x3 f_t H locs ls hP hD hS hl hw; exact hw.elim
  | succ n ih =>
    intro x2 x3 f_t H locs ls hP hD hS hl hw
    unfold wp_Natural_subtract_4 at hw
    refine lv_iload_n hx hb dX4_subtract_4 rfl (lv_at hl 3 rfl) ?_
    refine lv_bipush (v := 16) hx hb dX4_subtract_5 (by decide) ?_
    refine lv_icmp_ge (tgt := 50) hx hb dX4_subtract_7 (by decide) (fun c_1 => ?_) (fun c_1 => ?_)
    · have hw := hw.1 c_1
      exact hret _ _ _ _ _ hw hP hD hS dX4_subtract_50
    · have hw := hw.2 c_1
      refine lv_aload_n hx hb dX4_subtract_10 rfl (lv_at hl 0 rfl) ?_
      refine va_get (D := D) (ci := 4) (v := .ref h_tl) (C := RX4) (T := TX4) (N := 1) hx hb hts inX4 hown hK hP 0 rfl rfl 0 (by decide) (hts _ q_105) (fun _ h9 => h9) rfl dX4_subtract_11 ?_
      refine lv_iload_n hx hb dX4_subtract_14 rfl (lv_at hl 3 rfl) ?_
      obtain ⟨h_2, hw⟩ := hw
      refine va_iald hx hb hK hP 1 0 rfl rfl h_2 dX4_subtract_15 ?_
      refine lv_aload_n hx hb dX4_subtract_16 rfl (lv_at hl 1 rfl) ?_
      refine va_get (D := D) (ci := 4) (v := .ref h_ul) (C := RX4) (T := TX4) (N := 1) hx hb hts inX4 hown hK hP 2 rfl rfl 0 (by decide) (hts _ q_105) (fun _ h9 => h9) rfl dX4_subtract_17 ?_
      refine lv_iload_n hx hb dX4_subtract_20 rfl (lv_at hl 3 rfl) ?_
      obtain ⟨h_3, hw⟩ := hw
      refine va_iald hx hb hK hP 3 0 rfl rfl h_3 dX4_subtract_21 ?_
      refine lv_isub hx hb dX4_subtract_22 ?_
      refine lv_iload_n hx hb dX4_subtract_23 rfl (lv_at hl 2 rfl) ?_
      refine lv_isub hx hb dX4_subtract_24 ?_
      refine lv_topi (fun x4_4 ex4_4 => ?_)
      have hw := hw x4_4 ex4_4
      refine lv_istore (lv' := [(4, .int x4_4), (0, .ref h_t), (1, .ref h_u), (2, .int x2), (3, .int x3)]) hx hb dX4_subtract_25 hl (by decide) rfl (fun ls hl => ?_)
      refine lv_aload_n hx hb dX4_subtract_27 rfl (lv_at hl 1 rfl) ?_
      refine va_get (D := D) (ci := 4) (v := .ref h_tl) (C := RX4) (T := TX4) (N := 1) hx hb hts inX4 hown hK hP 0 rfl rfl 0 (by decide) (hts _ q_105) (fun _ h9 => h9) rfl dX4_subtract_28 ?_
      refine lv_iload_n hx hb dX4_subtract_31 rfl (lv_at hl 4 rfl) ?_
      refine lv_iload hx hb dX4_subtract_32 (lv_at hl 0 rfl) ?_
      refine lv_ldc (v := 2147483647) hx hb hown (hts _ q_354) dX4_subtract_34 ?_
      refine lv_iand hx hb dX4_subtract_36 ?_
      obtain ⟨h_5, hw⟩ := hw
      refine va_iast hx hb hK hP hD hS 1 0 rfl rfl h_5 dX4_subtract_37 (fun H locs hP hD hS => ?_)
      have hP : va_P D vwCl [(h_t, .inr (4, [.ref h_tl])), (h_tl, .inl (cT 0, 16, .inl (upd f_t x3.toNatClampNeg (x4_4 &&& 2147483647)))), (h_u, .inr (4, [.ref h_ul])), (h_ul, .inl (cT 0, 16, .inl f_u))] H := hP
      have hD : va_D A [(h_t, .inr (4, [.ref h_tl])), (h_tl, .inl (cT 0, 16, .inl (upd f_t x3.toNatClampNeg (x4_4 &&& 2147483647)))), (h_u, .inr (4, [.ref h_ul])), (h_ul, .inl (cT 0, 16, .inl f_u))] := hD
      refine lv_iload hx hb dX4_subtract_38 (lv_at hl 0 rfl) ?_
      refine lv_bipush (v := 31) hx hb dX4_subtract_40 (by decide) ?_
      refine lv_iushr hx hb dX4_subtract_42 rfl ?_
      refine lv_topi (fun x2_6 ex2_6 => ?_)
      have hw := hw x2_6 ex2_6
      refine lv_istore_n (lv' := [(2, .int x2_6), (4, .int x4_4), (0, .ref h_t), (1, .ref h_u), (3, .int x3)]) hx hb dX4_subtract_43 rfl hl (by decide) rfl (fun ls hl => ?_)
      obtain ⟨x3_7, ex3_7⟩ : ∃ y : Int32, y = x3 + 1 := ⟨_, rfl⟩
      refine lv_iinc (v := x3_7) (lv' := [(3, .int x3_7), (2, .int x2_6), (4, .int x4_4), (0, .ref h_t), (1, .ref h_u)]) hx hb dX4_subtract_44 hl (k := 4) rfl (by rw [ex3_7]; rfl) (by decide) rfl (fun ls hl => ?_)
      have hw := hw x3_7 ex3_7
      refine lv_goto (tgt := 4) hx hb dX4_subtract_47 (by decide) ?_
      exact ih _ _ _ _ _ _ hP hD hS (lv_sub hl [3, 4, 1, 0] rfl) hw
set_option maxHeartbeats 4000000 in
set_option maxRecDepth 100000 in
theorem tw_Natural_subtract {post : (Nat → Int32) → Prop} {h_t h_tl h_u h_ul : Nat} {f_u : Nat → Int32}  (C0 : cx RX4 cX4_subtract 5 D cT p s m c args) (hA : ∀ q, s.heap.size ≤ q → A q) (hret : ∀ (f_t : Nat → Int32) (H : Heap) (locs : List Loc) (pc : Nat) (ls : Array Slot), post f_t → va_P D vwCl [(h_t, .inr (4, [.ref h_tl])), (h_tl, .inl (cT 0, 16, .inl f_t)), (h_u, .inr (4, [.ref h_ul])), (h_ul, .inl (cT 0, 16, .inl f_u))] H → va_D A [(h_t, .inr (4, [.ref h_tl])), (h_tl, .inl (cT 0, 16, .inl f_t)), (h_u, .inr (4, [.ref h_ul])), (h_ul, .inl (cT 0, 16, .inl f_u))] → va_S A s.heap H locs → decode cX4_subtract pc = .ok (.return_, 1) → W p l e ({ frames := 0, cells := 0, slots := 0, locals := 0 } : Room) s m args below meth c H locs 0 0 Q (F0 m pc ls []))  : ∀ (f_t : Nat → Int32) (H : Heap) (locs : List Loc) (ls : Array Slot), va_P D vwCl [(h_t, .inr (4, [.ref h_tl])), (h_tl, .inl (cT 0, 16, .inl f_t)), (h_u, .inr (4, [.ref h_ul])), (h_ul, .inl (cT 0, 16, .inl f_u))] H → va_D A [(h_t, .inr (4, [.ref h_tl])), (h_tl, .inl (cT 0, 16, .inl f_t)), (h_u, .inr (4, [.ref h_ul])), (h_ul, .inl (cT 0, 16, .inl f_u))] → va_S A s.heap H locs → lv_has ls 5 [(0, .ref h_t), (1, .ref h_u)] → wp_Natural_subtract post f_u f_t → W p l e ({ frames := 0, cells := 0, slots := 0, locals := 0 } : Room) s m args below meth c H locs 0 0 Q (F0 m 0 ls []) := by
  obtain ⟨⟨hx, hb, hml, hown, hts⟩, hK, hN⟩ := id C0
  intro f_t H locs ls hP hD hS hl hw
  unfold wp_Natural_subtract at hw
  refine lv_iconst (v := 0) hx hb dX4_subtract_0 (by decide) ?_
  refine lv_istore_n (lv' := [(2, .int 0), (0, .ref h_t), (1, .ref h_u)]) hx hb dX4_subtract_1 rfl hl (by decide) rfl (fun ls hl => ?_)
  refine lv_iconst (v := 0) hx hb dX4_subtract_2 (by decide) ?_
  refine lv_istore_n (lv' := [(3, .int 0), (2, .int 0), (0, .ref h_t), (1, .ref h_u)]) hx hb dX4_subtract_3 rfl hl (by decide) rfl (fun ls hl => ?_)
  obtain ⟨n9, hw⟩ := hw
  exact tw_Natural_subtract_4 C0 hA hret  n9 _ _ _ _ _ _ hP hD hS (lv_sub hl [2, 3, 1, 0] rfl) hw
set_option maxHeartbeats 4000000 in
set_option maxRecDepth 100000 in
theorem cn_Natural_subtract (l : Launch) (D : va_G) (cT : Nat → ClassId) (h_t h_tl h_u h_ul : Nat) (sz : Nat) (f_t : Nat → Int32) (f_u : Nat → Int32)  (post : (Nat → Int32) → Prop) (hw : wp_Natural_subtract post f_u f_t) : Met l yX4_subtract wX4_subtract ({ frames := 0, cells := 0, slots := 0, locals := 0 } : Room) (va_Pc [.ref h_t, .ref h_u] (pre_ D cT [(h_t, .inr (4, [.ref h_tl])), (h_tl, .inl (cT 0, 16, .inl f_t)), (h_u, .inr (4, [.ref h_ul])), (h_ul, .inl (cT 0, 16, .inl f_u))] sz)) (va_Qv (fun (u : (Nat → Int32)) => post u) (fun u t => va_P D vwCl [(h_t, .inr (4, [.ref h_tl])), (h_tl, .inl (cT 0, 16, .inl u)), (h_u, .inr (4, [.ref h_ul])), (h_ul, .inl (cT 0, 16, .inl f_u))] t.heap ∧ va_D (va_A [(h_t, .inr (4, [.ref h_tl])), (h_tl, .inl (cT 0, 16, .inl f_t)), (h_u, .inr (4, [.ref h_ul])), (h_ul, .inl (cT 0, 16, .inl f_u))] sz) [(h_t, .inr (4, [.ref h_tl])), (h_tl, .inl (cT 0, 16, .inl u)), (h_u, .inr (4, [.ref h_ul])), (h_ul, .inl (cT 0, 16, .inl f_u))]) (va_A [(h_t, .inr (4, [.ref h_tl])), (h_tl, .inl (cT 0, 16, .inl f_t)), (h_u, .inr (4, [.ref h_ul])), (h_ul, .inl (cT 0, 16, .inl f_u))] sz)) 0 0 (va_A [(h_t, .inr (4, [.ref h_tl])), (h_tl, .inl (cT 0, 16, .inl f_t)), (h_u, .inr (4, [.ref h_ul])), (h_ul, .inl (cT 0, 16, .inl f_u))] sz) := by
  refine Met.ofW (cc := cX4_subtract) (maxL := 5) (ret := none) (by decide) rfl ?_
  intro p e s m args below meth c s₁ B hml hv
  obtain ⟨rfl, hsz, hP, hK, hD0, hN⟩ := hv
  have hx := B.exec
  have hb := B.bytes
  have hr := B.returns
  have hts : ∀ w ∈ WG, w.before _ s = true := fun w h => atoms_spec (ws := wX4_subtract) B.pre w (List.mem_cons_of_mem _ h)
  have hown : s.vm.findClass RX4 = some m.cls := findClass_of_methodNamed B.named
  have hlocks := B.notSynchronized
  subst hsz
  have hD := hD0.self (sz := s.heap.size)
  generalize hAe : va_A [(h_t, .inr (4, [.ref h_tl])), (h_tl, .inl (cT 0, 16, .inl f_t)), (h_u, .inr (4, [.ref h_ul])), (h_ul, .inl (cT 0, 16, .inl f_u))] s.heap.size = A at hD ⊢
  have hA : ∀ q : Nat, s.heap.size ≤ q → A q := fun q h => by rw [← hAe]; exact Or.inr h
  have hS : va_S A s.heap s.heap [] := va_S.rf
  have hl := lv_entry ([.ref h_t, .ref h_u]) (n := 5) (Nat.le_of_ble_eq_true rfl)
  rw [lg_entry_eq]
  generalize (lg_sl ([.ref h_t, .ref h_u]) ++ List.replicate (5 - (lg_sl ([.ref h_t, .ref h_u])).length) Slot.unset).toArray = ls at hl ⊢
  refine tw_Natural_subtract (Q := MQ below _ _ s 0 0 A) ⟨⟨hx, hb, hml, hown, hts⟩, hK, hN⟩ hA (fun f_t H locs pc ls hp hP hD hS hd => W.vret hx hb hr (fun t ht hW => ⟨⟨(f_t), rfl, hp, by rw [ht]; exact hP, hD⟩, hS.F ht⟩) hS.2.2 hd) _ _ _ _ hP hD hS hl hw
end
def wp_Natural_remainder_14 (post : Int64 → Prop) (f_t : Nat → Int32)  : Nat → Int64 → Int64 → Int32 → Prop
  | 0 => fun _ _ _ => False
  | n + 1 => fun x1 x3 x5 => ((x5 < 0 → (post x3)) ∧ (¬ x5 < 0 → ((vp_in x5 16 ∧ ((¬ x1 = 0 ∧ (∀ x3_5 : Int64, x3_5 = ((x3 <<< ((31 : Int32).toInt64 &&& 63)) + ((f_t x5.toNatClampNeg).toInt64)) - ((x3 <<< ((31 : Int32).toInt64 &&& 63)) + ((f_t x5.toNatClampNeg).toInt64)) / x1 * x1 → ∀ x5_6 : Int32, x5_6 = x5 + (-1) → wp_Natural_remainder_14 post f_t n x1 x3_5 x5_6)))))))
def wp_Natural_remainder (post : Int64 → Prop) (f_t : Nat → Int32)  (x1 : Int64) : Prop := ((0 ≤ (lg_cmp x1 1) → (∃ k9, wp_Natural_remainder_14 post f_t k9 x1 0 15)) ∧ (¬ 0 ≤ (lg_cmp x1 1) → (post 0)))
section
variable {p : Program} {l : Launch} {e : Env} {s : State} {m : MethodId} {args : Array Value} {below : List Frame} {meth : Method} {c : Code} {Q : State → Prop} {A : Nat → Prop} {D : va_G} {cT : Nat → ClassId}
set_option maxHeartbeats 4000000 in
set_option maxRecDepth 100000 in
theorem tw_Natural_remainder_14 {post : Int64 → Prop} {h_t h_tl : Nat} {f_t : Nat → Int32}  (C0 : cx RX4 cX4_remainder 6 D cT p s m c args) (hA : ∀ q, s.heap.size ≤ q → A q) (hret : ∀ (r : Int64)  (H : Heap) (locs : List Loc) (pc : Nat) (ls : Array Slot), post r → va_P D vwCl [(h_t, .inr (4, [.ref h_tl])), (h_tl, .inl (cT 0, 16, .inl f_t))] H → va_D A [(h_t, .inr (4, [.ref h_tl])), (h_tl, .inl (cT 0, 16, .inl f_t))] → va_S A s.heap H locs → decode cX4_remainder pc = .ok (.lreturn, 1) → W p l e ({ frames := 0, cells := 0, slots := 0, locals := 0 } : Room) s m args below meth c H locs 0 0 Q (F0 m pc ls [.long r]))  : ∀ (n : Nat) (x1 : Int64) (x3 : Int64) (x5 : Int32) (H : Heap) (locs : List Loc) (ls : Array Slot), va_P D vwCl [(h_t, .inr (4, [.ref h_tl])), (h_tl, .inl (cT 0, 16, .inl f_t))] H → va_D A [(h_t, .inr (4, [.ref h_tl])), (h_tl, .inl (cT 0, 16, .inl f_t))] → va_S A s.heap H locs → lv_has ls 6 [(0, .ref h_t), (1, .long x1), (3, .long x3), (5, .int x5)] → wp_Natural_remainder_14 post f_t n x1 x3 x5 → W p l e ({ frames := 0, cells := 0, slots := 0, locals := 0 } : Room) s m args below meth c H locs 0 0 Q (F0 m 14 ls []) := by
  obtain ⟨⟨hx, hb, hml, hown, hts⟩, hK, hN⟩ := id C0
  intro n
  induction n with
  | zero => intro x1 x3 x5 H locs ls hP hD hS hl hw; exact hw.elim
  | succ n ih =>
    intro x1 x3 x5 H locs ls hP hD hS hl hw
    unfold wp_Natural_remainder_14 at hw
    refine lv_iload hx hb dX4_remainder_14 (lv_at hl 3 rfl) ?_
    refine lv_if_lt (tgt := 41) hx hb dX4_remainder_16 (by decide) (fun c_2 => ?_) (fun c_2 => ?_)
    · have hw := hw.1 c_2
      refine lv_lload_n hx hb dX4_remainder_41 rfl (lv_at hl 2 rfl) ?_
      exact hret _  _ _ _ _ hw hP hD hS dX4_remainder_42
    · have hw := hw.2 c_2
      refine lv_lload_n hx hb dX4_remainder_19 rfl (lv_at hl 2 rfl) ?_
      refine lv_bipush (v := 31) hx hb dX4_remainder_20 (by decide) ?_
      refine lv_lshl hx hb dX4_remainder_22 rfl ?_
      refine lv_aload_n hx hb dX4_remainder_23 rfl (lv_at hl 0 rfl) ?_
      refine va_get (D := D) (ci := 4) (v := .ref h_tl) (C := RX4) (T := TX4) (N := 1) hx hb hts inX4 hown hK hP 0 rfl rfl 0 (by decide) (hts _ q_105) (fun _ h9 => h9) rfl dX4_remainder_24 ?_
      refine lv_iload hx hb dX4_remainder_27 (lv_at hl 3 rfl) ?_
      obtain ⟨h_3, hw⟩ := hw
      refine va_iald hx hb hK hP 1 0 rfl rfl h_3 dX4_remainder_29 ?_
      refine lv_i2l hx hb dX4_remainder_30 rfl ?_
      refine lv_ladd hx hb dX4_remainder_31 ?_
      refine lv_lload_n hx hb dX4_remainder_32 rfl (lv_at hl 1 rfl) ?_
      obtain ⟨h_4, hw⟩ := hw
      refine lv_lrem hx hb dX4_remainder_33 h_4 ?_
      refine lv_topl (fun x3_5 ex3_5 => ?_)
      have hw := hw x3_5 ex3_5
      refine lv_lstore_n (lv' := [(3, .long x3_5), (0, .ref h_t), (1, .long x1), (5, .int x5)]) hx hb dX4_remainder_34 rfl hl (by decide) rfl (fun ls hl => ?_)
      obtain ⟨x5_6, ex5_6⟩ : ∃ y : Int32, y = x5 + (-1) := ⟨_, rfl⟩
      refine lv_iinc (v := x5_6) (lv' := [(5, .int x5_6), (3, .long x3_5), (0, .ref h_t), (1, .long x1)]) hx hb dX4_remainder_35 hl (k := 3) rfl (by rw [ex5_6]; rfl) (by decide) rfl (fun ls hl => ?_)
      have hw := hw x5_6 ex5_6
      refine lv_goto (tgt := 14) hx hb dX4_remainder_38 (by decide) ?_
      exact ih _ _ _ _ _ _ hP hD hS (lv_sub hl [2, 3, 1, 0] rfl) hw
set_option maxHeartbeats 4000000 in
set_option maxRecDepth 100000 in
theorem tw_Natural_remainder {post : Int64 → Prop} {h_t h_tl : Nat} {f_t : Nat → Int32}  (C0 : cx RX4 cX4_remainder 6 D cT p s m c args) (hA : ∀ q, s.heap.size ≤ q → A q) (hret : ∀ (r : Int64)  (H : Heap) (locs : List Loc) (pc : Nat) (ls : Array Slot), post r → va_P D vwCl [(h_t, .inr (4, [.ref h_tl])), (h_tl, .inl (cT 0, 16, .inl f_t))] H → va_D A [(h_t, .inr (4, [.ref h_tl])), (h_tl, .inl (cT 0, 16, .inl f_t))] → va_S A s.heap H locs → decode cX4_remainder pc = .ok (.lreturn, 1) → W p l e ({ frames := 0, cells := 0, slots := 0, locals := 0 } : Room) s m args below meth c H locs 0 0 Q (F0 m pc ls [.long r]))  : ∀ (x1 : Int64) (H : Heap) (locs : List Loc) (ls : Array Slot), va_P D vwCl [(h_t, .inr (4, [.ref h_tl])), (h_tl, .inl (cT 0, 16, .inl f_t))] H → va_D A [(h_t, .inr (4, [.ref h_tl])), (h_tl, .inl (cT 0, 16, .inl f_t))] → va_S A s.heap H locs → lv_has ls 6 [(0, .ref h_t), (1, .long x1)] → wp_Natural_remainder post f_t x1 → W p l e ({ frames := 0, cells := 0, slots := 0, locals := 0 } : Room) s m args below meth c H locs 0 0 Q (F0 m 0 ls []) := by
  obtain ⟨⟨hx, hb, hml, hown, hts⟩, hK, hN⟩ := id C0
  intro x1 H locs ls hP hD hS hl hw
  unfold wp_Natural_remainder at hw
  refine lv_lload_n hx hb dX4_remainder_0 rfl (lv_at hl 1 rfl) ?_
  refine lv_lconst (v := 1) hx hb dX4_remainder_1 (by decide) ?_
  refine W.lcmp hx hb dX4_remainder_2 ?_
  refine lv_if_ge (tgt := 8) hx hb dX4_remainder_3 (by decide) (fun c_1 => ?_) (fun c_1 => ?_)
  · have hw := hw.1 c_1
    refine lv_lconst (v := 0) hx hb dX4_remainder_8 (by decide) ?_
    refine lv_lstore_n (lv' := [(3, .long 0), (0, .ref h_t), (1, .long x1)]) hx hb dX4_remainder_9 rfl hl (by decide) rfl (fun ls hl => ?_)
    refine lv_bipush (v := 15) hx hb dX4_remainder_10 (by decide) ?_
    refine lv_istore (lv' := [(5, .int 15), (3, .long 0), (0, .ref h_t), (1, .long x1)]) hx hb dX4_remainder_12 hl (by decide) rfl (fun ls hl => ?_)
    obtain ⟨n9, hw⟩ := hw
    exact tw_Natural_remainder_14 C0 hA hret  n9 _ _ _ _ _ _ hP hD hS (lv_sub hl [2, 3, 1, 0] rfl) hw
  · have hw := hw.2 c_1
    refine lv_lconst (v := 0) hx hb dX4_remainder_6 (by decide) ?_
    exact hret _  _ _ _ _ hw hP hD hS dX4_remainder_7
set_option maxHeartbeats 4000000 in
set_option maxRecDepth 100000 in
theorem cn_Natural_remainder (l : Launch) (D : va_G) (cT : Nat → ClassId) (h_t h_tl : Nat) (sz : Nat) (f_t : Nat → Int32) (x1 : Int64) (post : Int64 → Prop) (hw : wp_Natural_remainder post f_t x1) : Met l yX4_remainder wX4_remainder ({ frames := 0, cells := 0, slots := 0, locals := 0 } : Room) (va_Pc [.ref h_t, .long x1] (pre_ D cT [(h_t, .inr (4, [.ref h_tl])), (h_tl, .inl (cT 0, 16, .inl f_t))] sz)) (va_Ql (fun (r : Int64) (u : Unit) => post r) (fun u t => va_P D vwCl [(h_t, .inr (4, [.ref h_tl])), (h_tl, .inl (cT 0, 16, .inl f_t))] t.heap ∧ va_D (va_A [(h_t, .inr (4, [.ref h_tl])), (h_tl, .inl (cT 0, 16, .inl f_t))] sz) [(h_t, .inr (4, [.ref h_tl])), (h_tl, .inl (cT 0, 16, .inl f_t))]) (va_A [(h_t, .inr (4, [.ref h_tl])), (h_tl, .inl (cT 0, 16, .inl f_t))] sz)) 0 0 (va_A [(h_t, .inr (4, [.ref h_tl])), (h_tl, .inl (cT 0, 16, .inl f_t))] sz) := by
  refine Met.ofW (cc := cX4_remainder) (maxL := 6) (ret := (some .long)) (by decide) rfl ?_
  intro p e s m args below meth c s₁ B hml hv
  obtain ⟨rfl, hsz, hP, hK, hD0, hN⟩ := hv
  have hx := B.exec
  have hb := B.bytes
  have hr := B.returns
  have hts : ∀ w ∈ WG, w.before _ s = true := fun w h => atoms_spec (ws := wX4_remainder) B.pre w (List.mem_cons_of_mem _ h)
  have hown : s.vm.findClass RX4 = some m.cls := findClass_of_methodNamed B.named
  have hlocks := B.notSynchronized
  subst hsz
  have hD := hD0.self (sz := s.heap.size)
  generalize hAe : va_A [(h_t, .inr (4, [.ref h_tl])), (h_tl, .inl (cT 0, 16, .inl f_t))] s.heap.size = A at hD ⊢
  have hA : ∀ q : Nat, s.heap.size ≤ q → A q := fun q h => by rw [← hAe]; exact Or.inr h
  have hS : va_S A s.heap s.heap [] := va_S.rf
  have hl := lv_entry ([.ref h_t, .long x1]) (n := 6) (Nat.le_of_ble_eq_true rfl)
  rw [lg_entry_eq]
  generalize (lg_sl ([.ref h_t, .long x1]) ++ List.replicate (6 - (lg_sl ([.ref h_t, .long x1])).length) Slot.unset).toArray = ls at hl ⊢
  refine tw_Natural_remainder (Q := MQ below _ _ s 0 0 A) ⟨⟨hx, hb, hml, hown, hts⟩, hK, hN⟩ hA (fun r  H locs pc ls hp hP hD hS hd => W.lret (v := r) hx hb hr (fun t ht hW => ⟨⟨r, (), rfl, hp, by rw [ht]; exact hP, hD⟩, hS.F ht⟩) hS.2.2 hd) _ _ _ _ hP hD hS hl hw
end
def wp_Natural_takeDigit_5 (post : Int32 → (Nat → Int32) → Prop)   : Nat → Int64 → Int32 → (Nat → Int32) → Prop
  | 0 => fun _ _ _ => False
  | n + 1 => fun x1 x3 f_t => ((x3 < 0 → (post x1.toInt32 f_t)) ∧ (¬ x3 < 0 → ((vp_in x3 16 ∧ (∀ x4_3 : Int64, x4_3 = (x1 <<< ((31 : Int32).toInt64 &&& 63)) + ((f_t x3.toNatClampNeg).toInt64) → (vp_in x3 16 ∧ (∀ x1_5 : Int64, x1_5 = x4_3 - x4_3 / 10 * 10 → ∀ x3_6 : Int32, x3_6 = x3 + (-1) → wp_Natural_takeDigit_5 post n x1_5 x3_6 (upd f_t x3.toNatClampNeg ((x4_3 / 10).toInt32)))))))))
def wp_Natural_takeDigit (post : Int32 → (Nat → Int32) → Prop)   (f_t : Nat → Int32) : Prop := ∃ k9, wp_Natural_takeDigit_5 post k9 0 15 f_t
section
variable {p : Program} {l : Launch} {e : Env} {s : State} {m : MethodId} {args : Array Value} {below : List Frame} {meth : Method} {c : Code} {Q : State → Prop} {A : Nat → Prop} {D : va_G} {cT : Nat → ClassId}
set_option maxHeartbeats 4000000 in
set_option maxRecDepth 100000 in
theorem tw_Natural_takeDigit_5 {post : Int32 → (Nat → Int32) → Prop} {h_t h_tl : Nat}   (C0 : cx RX4 cX4_takeDigit 6 D cT p s m c args) (hA : ∀ q, s.heap.size ≤ q → A q) (hret : ∀ (r : Int32) (f_t : Nat → Int32) (H : Heap) (locs : List Loc) (pc : Nat) (ls : Array Slot), post r f_t → va_P D vwCl [(h_t, .inr (4, [.ref h_tl])), (h_tl, .inl (cT 0, 16, .inl f_t))] H → va_D A [(h_t, .inr (4, [.ref h_tl])), (h_tl, .inl (cT 0, 16, .inl f_t))] → va_S A s.heap H locs → decode cX4_takeDigit pc = .ok (.ireturn, 1) → W p l e ({ frames := 0, cells := 0, slots := 0, locals := 0 } : Room) s m args below meth c H locs 0 0 Q (F0 m pc ls [.int r]))  : ∀ (n : Nat) (x1 : Int64) (x3 : Int32) (f_t : Nat → Int32) (H : Heap) (locs : List Loc) (ls : Array Slot), va_P D vwCl [(h_t, .inr (4, [.ref h_tl])), (h_tl, .inl (cT 0, 16, .inl f_t))] H → va_D A [(h_t, .inr (4, [.ref h_tl])), (h_tl, .inl (cT 0, 16, .inl f_t))] → va_S A s.heap H locs → lv_has ls 6 [(0, .ref h_t), (1, .long x1), (3, .int x3)] → wp_Natural_takeDigit_5 post n x1 x3 f_t → W p l e ({ frames := 0, cells := 0, slots := 0, locals := 0 } : Room) s m args below meth c H locs 0 0 Q (F0 m 5 ls []) := by
  obtain ⟨⟨hx, hb, hml, hown, hts⟩, hK, hN⟩ := id C0
  intro n
  induction n with
  | zero => intro x1 x3 f_t H locs ls hP hD hS hl hw; exact hw.elim
  | succ n ih =>
    intro x1 x3 f_t H locs ls hP hD hS hl hw
    unfold wp_Natural_takeDigit_5 at hw
    refine lv_iload_n hx hb dX4_takeDigit_5 rfl (lv_at hl 2 rfl) ?_
    refine lv_if_lt (tgt := 49) hx hb dX4_takeDigit_6 (by decide) (fun c_1 => ?_) (fun c_1 => ?_)
    · have hw := hw.1 c_1
      refine lv_lload_n hx hb dX4_takeDigit_49 rfl (lv_at hl 1 rfl) ?_
      refine lv_l2i hx hb dX4_takeDigit_50 rfl ?_
      exact hret _ _ _ _ _ _ hw hP hD hS dX4_takeDigit_51
    · have hw := hw.2 c_1
      refine lv_lload_n hx hb dX4_takeDigit_9 rfl (lv_at hl 1 rfl) ?_
      refine lv_bipush (v := 31) hx hb dX4_takeDigit_10 (by decide) ?_
      refine lv_lshl hx hb dX4_takeDigit_12 rfl ?_
      refine lv_aload_n hx hb dX4_takeDigit_13 rfl (lv_at hl 0 rfl) ?_
      refine va_get (D := D) (ci := 4) (v := .ref h_tl) (C := RX4) (T := TX4) (N := 1) hx hb hts inX4 hown hK hP 0 rfl rfl 0 (by decide) (hts _ q_105) (fun _ h9 => h9) rfl dX4_takeDigit_14 ?_
      refine lv_iload_n hx hb dX4_takeDigit_17 rfl (lv_at hl 2 rfl) ?_
      obtain ⟨h_2, hw⟩ := hw
      refine va_iald hx hb hK hP 1 0 rfl rfl h_2 dX4_takeDigit_18 ?_
      refine lv_i2l hx hb dX4_takeDigit_19 rfl ?_
      refine lv_ladd hx hb dX4_takeDigit_20 ?_
      refine lv_topl (fun x4_3 ex4_3 => ?_)
      have hw := hw x4_3 ex4_3
      refine lv_lstore (lv' := [(4, .long x4_3), (0, .ref h_t), (1, .long x1), (3, .int x3)]) hx hb dX4_takeDigit_21 hl (by decide) rfl (fun ls hl => ?_)
      refine lv_aload_n hx hb dX4_takeDigit_23 rfl (lv_at hl 1 rfl) ?_
      refine va_get (D := D) (ci := 4) (v := .ref h_tl) (C := RX4) (T := TX4) (N := 1) hx hb hts inX4 hown hK hP 0 rfl rfl 0 (by decide) (hts _ q_105) (fun _ h9 => h9) rfl dX4_takeDigit_24 ?_
      refine lv_iload_n hx hb dX4_takeDigit_27 rfl (lv_at hl 3 rfl) ?_
      refine lv_lload hx hb dX4_takeDigit_28 (lv_at hl 0 rfl) ?_
      refine lv_ldc2 (v := 10) hx hb hown (hts _ q_398) dX4_takeDigit_30 ?_
      refine lv_ldiv hx hb dX4_takeDigit_33 (by decide) ?_
      refine lv_l2i hx hb dX4_takeDigit_34 rfl ?_
      obtain ⟨h_4, hw⟩ := hw
      refine va_iast hx hb hK hP hD hS 1 0 rfl rfl h_4 dX4_takeDigit_35 (fun H locs hP hD hS => ?_)
      have hP : va_P D vwCl [(h_t, .inr (4, [.ref h_tl])), (h_tl, .inl (cT 0, 16, .inl (upd f_t x3.toNatClampNeg ((x4_3 / 10).toInt32))))] H := hP
      have hD : va_D A [(h_t, .inr (4, [.ref h_tl])), (h_tl, .inl (cT 0, 16, .inl (upd f_t x3.toNatClampNeg ((x4_3 / 10).toInt32))))] := hD
      refine lv_lload hx hb dX4_takeDigit_36 (lv_at hl 0 rfl) ?_
      refine lv_ldc2 (v := 10) hx hb hown (hts _ q_398) dX4_takeDigit_38 ?_
      refine lv_lrem hx hb dX4_takeDigit_41 (by decide) ?_
      refine lv_topl (fun x1_5 ex1_5 => ?_)
      have hw := hw x1_5 ex1_5
      refine lv_lstore_n (lv' := [(1, .long x1_5), (4, .long x4_3), (0, .ref h_t), (3, .int x3)]) hx hb dX4_takeDigit_42 rfl hl (by decide) rfl (fun ls hl => ?_)
      obtain ⟨x3_6, ex3_6⟩ : ∃ y : Int32, y = x3 + (-1) := ⟨_, rfl⟩
      refine lv_iinc (v := x3_6) (lv' := [(3, .int x3_6), (1, .long x1_5), (4, .long x4_3), (0, .ref h_t)]) hx hb dX4_takeDigit_43 hl (k := 3) rfl (by rw [ex3_6]; rfl) (by decide) rfl (fun ls hl => ?_)
      have hw := hw x3_6 ex3_6
      refine lv_goto (tgt := 5) hx hb dX4_takeDigit_46 (by decide) ?_
      exact ih _ _ _ _ _ _ hP hD hS (lv_sub hl [3, 1, 0] rfl) hw
set_option maxHeartbeats 4000000 in
set_option maxRecDepth 100000 in
theorem tw_Natural_takeDigit {post : Int32 → (Nat → Int32) → Prop} {h_t h_tl : Nat}   (C0 : cx RX4 cX4_takeDigit 6 D cT p s m c args) (hA : ∀ q, s.heap.size ≤ q → A q) (hret : ∀ (r : Int32) (f_t : Nat → Int32) (H : Heap) (locs : List Loc) (pc : Nat) (ls : Array Slot), post r f_t → va_P D vwCl [(h_t, .inr (4, [.ref h_tl])), (h_tl, .inl (cT 0, 16, .inl f_t))] H → va_D A [(h_t, .inr (4, [.ref h_tl])), (h_tl, .inl (cT 0, 16, .inl f_t))] → va_S A s.heap H locs → decode cX4_takeDigit pc = .ok (.ireturn, 1) → W p l e ({ frames := 0, cells := 0, slots := 0, locals := 0 } : Room) s m args below meth c H locs 0 0 Q (F0 m pc ls [.int r]))  : ∀ (f_t : Nat → Int32) (H : Heap) (locs : List Loc) (ls : Array Slot), va_P D vwCl [(h_t, .inr (4, [.ref h_tl])), (h_tl, .inl (cT 0, 16, .inl f_t))] H → va_D A [(h_t, .inr (4, [.ref h_tl])), (h_tl, .inl (cT 0, 16, .inl f_t))] → va_S A s.heap H locs → lv_has ls 6 [(0, .ref h_t)] → wp_Natural_takeDigit post f_t → W p l e ({ frames := 0, cells := 0, slots := 0, locals := 0 } : Room) s m args below meth c H locs 0 0 Q (F0 m 0 ls []) := by
  obtain ⟨⟨hx, hb, hml, hown, hts⟩, hK, hN⟩ := id C0
  intro f_t H locs ls hP hD hS hl hw
  unfold wp_Natural_takeDigit at hw
  refine lv_lconst (v := 0) hx hb dX4_takeDigit_0 (by decide) ?_
  refine lv_lstore_n (lv' := [(1, .long 0), (0, .ref h_t)]) hx hb dX4_takeDigit_1 rfl hl (by decide) rfl (fun ls hl => ?_)
  refine lv_bipush (v := 15) hx hb dX4_takeDigit_2 (by decide) ?_
  refine lv_istore_n (lv' := [(3, .int 15), (1, .long 0), (0, .ref h_t)]) hx hb dX4_takeDigit_4 rfl hl (by decide) rfl (fun ls hl => ?_)
  obtain ⟨n9, hw⟩ := hw
  exact tw_Natural_takeDigit_5 C0 hA hret  n9 _ _ _ _ _ _ hP hD hS (lv_sub hl [2, 1, 0] rfl) hw
set_option maxHeartbeats 4000000 in
set_option maxRecDepth 100000 in
theorem cn_Natural_takeDigit (l : Launch) (D : va_G) (cT : Nat → ClassId) (h_t h_tl : Nat) (sz : Nat) (f_t : Nat → Int32)  (post : Int32 → (Nat → Int32) → Prop) (hw : wp_Natural_takeDigit post f_t) : Met l yX4_takeDigit wX4_takeDigit ({ frames := 0, cells := 0, slots := 0, locals := 0 } : Room) (va_Pc [.ref h_t] (pre_ D cT [(h_t, .inr (4, [.ref h_tl])), (h_tl, .inl (cT 0, 16, .inl f_t))] sz)) (va_Qi (fun (r : Int32) (u : (Nat → Int32)) => post r u) (fun u t => va_P D vwCl [(h_t, .inr (4, [.ref h_tl])), (h_tl, .inl (cT 0, 16, .inl u))] t.heap ∧ va_D (va_A [(h_t, .inr (4, [.ref h_tl])), (h_tl, .inl (cT 0, 16, .inl f_t))] sz) [(h_t, .inr (4, [.ref h_tl])), (h_tl, .inl (cT 0, 16, .inl u))]) (va_A [(h_t, .inr (4, [.ref h_tl])), (h_tl, .inl (cT 0, 16, .inl f_t))] sz)) 0 0 (va_A [(h_t, .inr (4, [.ref h_tl])), (h_tl, .inl (cT 0, 16, .inl f_t))] sz) := by
  refine Met.ofW (cc := cX4_takeDigit) (maxL := 6) (ret := (some .int)) (by decide) rfl ?_
  intro p e s m args below meth c s₁ B hml hv
  obtain ⟨rfl, hsz, hP, hK, hD0, hN⟩ := hv
  have hx := B.exec
  have hb := B.bytes
  have hr := B.returns
  have hts : ∀ w ∈ WG, w.before _ s = true := fun w h => atoms_spec (ws := wX4_takeDigit) B.pre w (List.mem_cons_of_mem _ h)
  have hown : s.vm.findClass RX4 = some m.cls := findClass_of_methodNamed B.named
  have hlocks := B.notSynchronized
  subst hsz
  have hD := hD0.self (sz := s.heap.size)
  generalize hAe : va_A [(h_t, .inr (4, [.ref h_tl])), (h_tl, .inl (cT 0, 16, .inl f_t))] s.heap.size = A at hD ⊢
  have hA : ∀ q : Nat, s.heap.size ≤ q → A q := fun q h => by rw [← hAe]; exact Or.inr h
  have hS : va_S A s.heap s.heap [] := va_S.rf
  have hl := lv_entry ([.ref h_t]) (n := 6) (Nat.le_of_ble_eq_true rfl)
  rw [lg_entry_eq]
  generalize (lg_sl ([.ref h_t]) ++ List.replicate (6 - (lg_sl ([.ref h_t])).length) Slot.unset).toArray = ls at hl ⊢
  refine tw_Natural_takeDigit (Q := MQ below _ _ s 0 0 A) ⟨⟨hx, hb, hml, hown, hts⟩, hK, hN⟩ hA (fun r f_t H locs pc ls hp hP hD hS hd => W.iret (v := r) hx hb hr (fun t ht hW => ⟨⟨r, (f_t), rfl, hp, by rw [ht]; exact hP, hD⟩, hS.F ht⟩) hS.2.2 hd) _ _ _ _ hP hD hS hl hw
end
