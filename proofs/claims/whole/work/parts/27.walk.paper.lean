def wp_Paper_clear (post : Int32 → Prop) (f_pt : Nat → Int32)  (v_pl : Int32) : Prop := post 0
section
variable {p : Program} {l : Launch} {e : Env} {s : State} {m : MethodId} {args : Array Value} {below : List Frame} {meth : Method} {c : Code} {Q : State → Prop} {A : Nat → Prop} {D : va_G} {cT : Nat → ClassId}
set_option maxHeartbeats 4000000 in
set_option maxRecDepth 100000 in
theorem tw_Paper_clear {post : Int32 → Prop} {h_p h_pt : Nat} {f_pt : Nat → Int32}  (C0 : cx RX5 cX5_clear 1 D cT p s m c args) (hA : ∀ q, s.heap.size ≤ q → A q) (hret : ∀ (v_pl : Int32) (H : Heap) (locs : List Loc) (pc : Nat) (ls : Array Slot), post v_pl → va_P D vwCl [(h_p, .inr (5, [.ref h_pt, .int v_pl])), (h_pt, .inl (cT 3, 301, .inl f_pt))] H → va_D A [(h_p, .inr (5, [.ref h_pt, .int v_pl])), (h_pt, .inl (cT 3, 301, .inl f_pt))] → va_S A s.heap H locs → decode cX5_clear pc = .ok (.return_, 1) → W p l e ({ frames := 0, cells := 0, slots := 0, locals := 0 } : Room) s m args below meth c H locs 0 0 Q (F0 m pc ls []))  : ∀ (v_pl : Int32) (H : Heap) (locs : List Loc) (ls : Array Slot), va_P D vwCl [(h_p, .inr (5, [.ref h_pt, .int v_pl])), (h_pt, .inl (cT 3, 301, .inl f_pt))] H → va_D A [(h_p, .inr (5, [.ref h_pt, .int v_pl])), (h_pt, .inl (cT 3, 301, .inl f_pt))] → va_S A s.heap H locs → lv_has ls 1 [(0, .ref h_p)] → wp_Paper_clear post f_pt v_pl → W p l e ({ frames := 0, cells := 0, slots := 0, locals := 0 } : Room) s m args below meth c H locs 0 0 Q (F0 m 0 ls []) := by
  obtain ⟨⟨hx, hb, hml, hown, hts⟩, hK, hN⟩ := id C0
  intro v_pl H locs ls hP hD hS hl hw
  unfold wp_Paper_clear at hw
  refine lv_aload_n hx hb dX5_clear_0 rfl (lv_at hl 0 rfl) ?_
  refine lv_iconst (v := 0) hx hb dX5_clear_1 (by decide) ?_
  refine va_put (D := D) (ci := 5) (v := .int 0) (ty := .int) (C := RX5) (T := TX5) (N := 2) hx hb hts inX5 tyX5 tyX5_ok nmX5 hown hK hP hD hS 0 rfl rfl 1 (by decide) (hts _ q_155) (fun _ h9 => h9) rfl (by decide +kernel) rfl rfl (Nat.le_of_ble_eq_true rfl) dX5_clear_2 (fun H locs hP hD hS => ?_)
  have hP : va_P D vwCl [(h_p, .inr (5, [.ref h_pt, .int 0])), (h_pt, .inl (cT 3, 301, .inl f_pt))] H := hP
  have hD : va_D A [(h_p, .inr (5, [.ref h_pt, .int 0])), (h_pt, .inl (cT 3, 301, .inl f_pt))] := hD
  exact hret _ _ _ _ _ hw hP hD hS dX5_clear_5
set_option maxHeartbeats 4000000 in
set_option maxRecDepth 100000 in
theorem cn_Paper_clear (l : Launch) (D : va_G) (cT : Nat → ClassId) (h_p h_pt : Nat) (sz : Nat) (v_pl : Int32) (f_pt : Nat → Int32)  (post : Int32 → Prop) (hw : wp_Paper_clear post f_pt v_pl) : Met l yX5_clear wX5_clear ({ frames := 0, cells := 0, slots := 0, locals := 0 } : Room) (va_Pc [.ref h_p] (pre_ D cT [(h_p, .inr (5, [.ref h_pt, .int v_pl])), (h_pt, .inl (cT 3, 301, .inl f_pt))] sz)) (va_Qv (fun (u : Int32) => post u) (fun u t => va_P D vwCl [(h_p, .inr (5, [.ref h_pt, .int u])), (h_pt, .inl (cT 3, 301, .inl f_pt))] t.heap ∧ va_D (va_A [(h_p, .inr (5, [.ref h_pt, .int v_pl])), (h_pt, .inl (cT 3, 301, .inl f_pt))] sz) [(h_p, .inr (5, [.ref h_pt, .int u])), (h_pt, .inl (cT 3, 301, .inl f_pt))]) (va_A [(h_p, .inr (5, [.ref h_pt, .int v_pl])), (h_pt, .inl (cT 3, 301, .inl f_pt))] sz)) 0 0 (va_A [(h_p, .inr (5, [.ref h_pt, .int v_pl])), (h_pt, .inl (cT 3, 301, .inl f_pt))] sz) := by
  refine Met.ofW (cc := cX5_clear) (maxL := 1) (ret := none) (by decide) rfl ?_
  intro p e s m args below meth c s₁ B hml hv
  obtain ⟨rfl, hsz, hP, hK, hD0, hN⟩ := hv
  have hx := B.exec
  have hb := B.bytes
  have hr := B.returns
  have hts : ∀ w ∈ WG, w.before _ s = true := fun w h => atoms_spec (ws := wX5_clear) B.pre w (List.mem_cons_of_mem _ h)
  have hown : s.vm.findClass RX5 = some m.cls := findClass_of_methodNamed B.named
  have hlocks := B.notSynchronized
  subst hsz
  have hD := hD0.self (sz := s.heap.size)
  generalize hAe : va_A [(h_p, .inr (5, [.ref h_pt, .int v_pl])), (h_pt, .inl (cT 3, 301, .inl f_pt))] s.heap.size = A at hD ⊢
  have hA : ∀ q : Nat, s.heap.size ≤ q → A q := fun q h => by rw [← hAe]; exact Or.inr h
  have hS : va_S A s.heap s.heap [] := va_S.rf
  have hl := lv_entry ([.ref h_p]) (n := 1) (Nat.le_of_ble_eq_true rfl)
  rw [lg_entry_eq]
  generalize (lg_sl ([.ref h_p]) ++ List.replicate (1 - (lg_sl ([.ref h_p])).length) Slot.unset).toArray = ls at hl ⊢
  refine tw_Paper_clear (Q := MQ below _ _ s 0 0 A) ⟨⟨hx, hb, hml, hown, hts⟩, hK, hN⟩ hA (fun v_pl H locs pc ls hp hP hD hS hd => W.vret hx hb hr (fun t ht hW => ⟨⟨(v_pl), rfl, hp, by rw [ht]; exact hP, hD⟩, hS.F ht⟩) hS.2.2 hd) _ _ _ _ hP hD hS hl hw
end
def wp_Paper_write_30 (post : Int32 → (Nat → Int32) → Prop)   (v_pl : Int32) (f_pt : Nat → Int32) : Prop := post v_pl f_pt
def wp_Paper_write (post : Int32 → (Nat → Int32) → Prop)   (x1 : Int32) (v_pl : Int32) (f_pt : Nat → Int32) : Prop := ((301 ≤ v_pl → (wp_Paper_write_30 post v_pl f_pt)) ∧ (¬ 301 ≤ v_pl → ((vp_in v_pl 301 ∧ (∀ v_3 : Int32, v_3 = v_pl + 1 → wp_Paper_write_30 post v_3 (upd f_pt v_pl.toNatClampNeg (vp_nar .char x1)))))))
section
variable {p : Program} {l : Launch} {e : Env} {s : State} {m : MethodId} {args : Array Value} {below : List Frame} {meth : Method} {c : Code} {Q : State → Prop} {A : Nat → Prop} {D : va_G} {cT : Nat → ClassId}
set_option maxHeartbeats 4000000 in
set_option maxRecDepth 100000 in
theorem tw_Paper_write_30 {post : Int32 → (Nat → Int32) → Prop} {h_p h_pt : Nat}   (C0 : cx RX5 cX5_write 2 D cT p s m c args) (hA : ∀ q, s.heap.size ≤ q → A q) (hret : ∀ (v_pl : Int32) (f_pt : Nat → Int32) (H : Heap) (locs : List Loc) (pc : Nat) (ls : Array Slot), post v_pl f_pt → va_P D vwCl [(h_p, .inr (5, [.ref h_pt, .int v_pl])), (h_pt, .inl (cT 3, 301, .inl f_pt))] H → va_D A [(h_p, .inr (5, [.ref h_pt, .int v_pl])), (h_pt, .inl (cT 3, 301, .inl f_pt))] → va_S A s.heap H locs → decode cX5_write pc = .ok (.return_, 1) → W p l e ({ frames := 0, cells := 0, slots := 0, locals := 0 } : Room) s m args below meth c H locs 0 0 Q (F0 m pc ls []))  : ∀ (v_pl : Int32) (f_pt : Nat → Int32) (H : Heap) (locs : List Loc) (ls : Array Slot), va_P D vwCl [(h_p, .inr (5, [.ref h_pt, .int v_pl])), (h_pt, .inl (cT 3, 301, .inl f_pt))] H → va_D A [(h_p, .inr (5, [.ref h_pt, .int v_pl])), (h_pt, .inl (cT 3, 301, .inl f_pt))] → va_S A s.heap H locs → lv_has ls 2 [] → wp_Paper_write_30 post v_pl f_pt → W p l e ({ frames := 0, cells := 0, slots := 0, locals := 0 } : Room) s m args below meth c H locs 0 0 Q (F0 m 30 ls []) := by
  obtain ⟨⟨hx, hb, hml, hown, hts⟩, hK, hN⟩ := id C0
  intro v_pl f_pt H locs ls hP hD hS hl hw
  unfold wp_Paper_write_30 at hw
  exact hret _ _ _ _ _ _ hw hP hD hS dX5_write_30
set_option maxHeartbeats 4000000 in
set_option maxRecDepth 100000 in
theorem tw_Paper_write {post : Int32 → (Nat → Int32) → Prop} {h_p h_pt : Nat}   (C0 : cx RX5 cX5_write 2 D cT p s m c args) (hA : ∀ q, s.heap.size ≤ q → A q) (hret : ∀ (v_pl : Int32) (f_pt : Nat → Int32) (H : Heap) (locs : List Loc) (pc : Nat) (ls : Array Slot), post v_pl f_pt → va_P D vwCl [(h_p, .inr (5, [.ref h_pt, .int v_pl])), (h_pt, .inl (cT 3, 301, .inl f_pt))] H → va_D A [(h_p, .inr (5, [.ref h_pt, .int v_pl])), (h_pt, .inl (cT 3, 301, .inl f_pt))] → va_S A s.heap H locs → decode cX5_write pc = .ok (.return_, 1) → W p l e ({ frames := 0, cells := 0, slots := 0, locals := 0 } : Room) s m args below meth c H locs 0 0 Q (F0 m pc ls []))  : ∀ (x1 : Int32) (v_pl : Int32) (f_pt : Nat → Int32) (H : Heap) (locs : List Loc) (ls : Array Slot), va_P D vwCl [(h_p, .inr (5, [.ref h_pt, .int v_pl])), (h_pt, .inl (cT 3, 301, .inl f_pt))] H → va_D A [(h_p, .inr (5, [.ref h_pt, .int v_pl])), (h_pt, .inl (cT 3, 301, .inl f_pt))] → va_S A s.heap H locs → lv_has ls 2 [(0, .ref h_p), (1, .int x1)] → wp_Paper_write post x1 v_pl f_pt → W p l e ({ frames := 0, cells := 0, slots := 0, locals := 0 } : Room) s m args below meth c H locs 0 0 Q (F0 m 0 ls []) := by
  obtain ⟨⟨hx, hb, hml, hown, hts⟩, hK, hN⟩ := id C0
  intro x1 v_pl f_pt H locs ls hP hD hS hl hw
  unfold wp_Paper_write at hw
  refine lv_aload_n hx hb dX5_write_0 rfl (lv_at hl 0 rfl) ?_
  refine va_get (D := D) (ci := 5) (v := .int v_pl) (C := RX5) (T := TX5) (N := 2) hx hb hts inX5 hown hK hP 0 rfl rfl 1 (by decide) (hts _ q_155) (fun _ h9 => h9) rfl dX5_write_1 ?_
  refine lv_sipush (v := 301) hx hb dX5_write_4 (by decide) ?_
  refine lv_icmp_ge (tgt := 30) hx hb dX5_write_7 (by decide) (fun c_1 => ?_) (fun c_1 => ?_)
  · have hw := hw.1 c_1
    exact tw_Paper_write_30 C0 hA hret  _ _ _ _ _ hP hD hS (lv_sub hl [] rfl) hw
  · have hw := hw.2 c_1
    refine lv_aload_n hx hb dX5_write_10 rfl (lv_at hl 0 rfl) ?_
    refine va_get (D := D) (ci := 5) (v := .ref h_pt) (C := RX5) (T := TX5) (N := 2) hx hb hts inX5 hown hK hP 0 rfl rfl 0 (by decide) (hts _ q_153) (fun _ h9 => h9) rfl dX5_write_11 ?_
    refine lv_aload_n hx hb dX5_write_14 rfl (lv_at hl 0 rfl) ?_
    refine va_get (D := D) (ci := 5) (v := .int v_pl) (C := RX5) (T := TX5) (N := 2) hx hb hts inX5 hown hK hP 0 rfl rfl 1 (by decide) (hts _ q_155) (fun _ h9 => h9) rfl dX5_write_15 ?_
    refine lv_iload_n hx hb dX5_write_18 rfl (lv_at hl 1 rfl) ?_
    obtain ⟨h_2, hw⟩ := hw
    refine va_cast hx hb hK hP hD hS 1 3 rfl rfl h_2 dX5_write_19 (fun H locs hP hD hS => ?_)
    have hP : va_P D vwCl [(h_p, .inr (5, [.ref h_pt, .int v_pl])), (h_pt, .inl (cT 3, 301, .inl (upd f_pt v_pl.toNatClampNeg (vp_nar .char x1))))] H := hP
    have hD : va_D A [(h_p, .inr (5, [.ref h_pt, .int v_pl])), (h_pt, .inl (cT 3, 301, .inl (upd f_pt v_pl.toNatClampNeg (vp_nar .char x1))))] := hD
    refine lv_aload_n hx hb dX5_write_20 rfl (lv_at hl 0 rfl) ?_
    refine lv_dup hx hb dX5_write_21 rfl ?_
    refine va_get (D := D) (ci := 5) (v := .int v_pl) (C := RX5) (T := TX5) (N := 2) hx hb hts inX5 hown hK hP 0 rfl rfl 1 (by decide) (hts _ q_155) (fun _ h9 => h9) rfl dX5_write_22 ?_
    refine lv_iconst (v := 1) hx hb dX5_write_25 (by decide) ?_
    refine lv_iadd hx hb dX5_write_26 ?_
    refine lv_topi (fun v_3 ev_3 => ?_)
    have hw := hw v_3 ev_3
    refine va_put (D := D) (ci := 5) (v := .int v_3) (ty := .int) (C := RX5) (T := TX5) (N := 2) hx hb hts inX5 tyX5 tyX5_ok nmX5 hown hK hP hD hS 0 rfl rfl 1 (by decide) (hts _ q_155) (fun _ h9 => h9) rfl (by decide +kernel) rfl rfl (Nat.le_of_ble_eq_true rfl) dX5_write_27 (fun H locs hP hD hS => ?_)
    have hP : va_P D vwCl [(h_p, .inr (5, [.ref h_pt, .int v_3])), (h_pt, .inl (cT 3, 301, .inl (upd f_pt v_pl.toNatClampNeg (vp_nar .char x1))))] H := hP
    have hD : va_D A [(h_p, .inr (5, [.ref h_pt, .int v_3])), (h_pt, .inl (cT 3, 301, .inl (upd f_pt v_pl.toNatClampNeg (vp_nar .char x1))))] := hD
    exact tw_Paper_write_30 C0 hA hret  _ _ _ _ _ hP hD hS (lv_sub hl [] rfl) hw
set_option maxHeartbeats 4000000 in
set_option maxRecDepth 100000 in
theorem cn_Paper_write (l : Launch) (D : va_G) (cT : Nat → ClassId) (h_p h_pt : Nat) (sz : Nat) (v_pl : Int32) (f_pt : Nat → Int32) (x1 : Int32) (post : Int32 → (Nat → Int32) → Prop) (hw : wp_Paper_write post x1 v_pl f_pt) : Met l yX5_write wX5_write ({ frames := 0, cells := 0, slots := 0, locals := 0 } : Room) (va_Pc [.ref h_p, .int x1] (pre_ D cT [(h_p, .inr (5, [.ref h_pt, .int v_pl])), (h_pt, .inl (cT 3, 301, .inl f_pt))] sz)) (va_Qv (fun (u : Int32 × (Nat → Int32)) => post u.1 u.2) (fun u t => va_P D vwCl [(h_p, .inr (5, [.ref h_pt, .int u.1])), (h_pt, .inl (cT 3, 301, .inl u.2))] t.heap ∧ va_D (va_A [(h_p, .inr (5, [.ref h_pt, .int v_pl])), (h_pt, .inl (cT 3, 301, .inl f_pt))] sz) [(h_p, .inr (5, [.ref h_pt, .int u.1])), (h_pt, .inl (cT 3, 301, .inl u.2))]) (va_A [(h_p, .inr (5, [.ref h_pt, .int v_pl])), (h_pt, .inl (cT 3, 301, .inl f_pt))] sz)) 0 0 (va_A [(h_p, .inr (5, [.ref h_pt, .int v_pl])), (h_pt, .inl (cT 3, 301, .inl f_pt))] sz) := by
  refine Met.ofW (cc := cX5_write) (maxL := 2) (ret := none) (by decide) rfl ?_
  intro p e s m args below meth c s₁ B hml hv
  obtain ⟨rfl, hsz, hP, hK, hD0, hN⟩ := hv
  have hx := B.exec
  have hb := B.bytes
  have hr := B.returns
  have hts : ∀ w ∈ WG, w.before _ s = true := fun w h => atoms_spec (ws := wX5_write) B.pre w (List.mem_cons_of_mem _ h)
  have hown : s.vm.findClass RX5 = some m.cls := findClass_of_methodNamed B.named
  have hlocks := B.notSynchronized
  subst hsz
  have hD := hD0.self (sz := s.heap.size)
  generalize hAe : va_A [(h_p, .inr (5, [.ref h_pt, .int v_pl])), (h_pt, .inl (cT 3, 301, .inl f_pt))] s.heap.size = A at hD ⊢
  have hA : ∀ q : Nat, s.heap.size ≤ q → A q := fun q h => by rw [← hAe]; exact Or.inr h
  have hS : va_S A s.heap s.heap [] := va_S.rf
  have hl := lv_entry ([.ref h_p, .int x1]) (n := 2) (Nat.le_of_ble_eq_true rfl)
  rw [lg_entry_eq]
  generalize (lg_sl ([.ref h_p, .int x1]) ++ List.replicate (2 - (lg_sl ([.ref h_p, .int x1])).length) Slot.unset).toArray = ls at hl ⊢
  refine tw_Paper_write (Q := MQ below _ _ s 0 0 A) ⟨⟨hx, hb, hml, hown, hts⟩, hK, hN⟩ hA (fun v_pl f_pt H locs pc ls hp hP hD hS hd => W.vret hx hb hr (fun t ht hW => ⟨⟨(v_pl, f_pt), rfl, hp, by rw [ht]; exact hP, hD⟩, hS.F ht⟩) hS.2.2 hd) _ _ _ _ _ _ hP hD hS hl hw
end
def wp_Paper_reverseFrom_9 (post : (Nat → Int32) → Prop) (v_pl : Int32)  : Nat → Int32 → Int32 → (Nat → Int32) → Prop
  | 0 => fun _ _ _ => False
  | n + 1 => fun x2 x3 f_pt => ((x3 ≤ x2 → (post f_pt)) ∧ (¬ x3 ≤ x2 → ((vp_in x2 301 ∧ (∀ x4_4 : Int32, x4_4 = f_pt x2.toNatClampNeg → (vp_in x3 301 ∧ ((vp_in x2 301 ∧ ((vp_in x3 301 ∧ (∀ x2_8 : Int32, x2_8 = x2 + 1 → ∀ x3_9 : Int32, x3_9 = x3 + (-1) → wp_Paper_reverseFrom_9 post v_pl n x2_8 x3_9 (upd (upd f_pt x2.toNatClampNeg (vp_nar .char (f_pt x3.toNatClampNeg))) x3.toNatClampNeg (vp_nar .char x4_4)))))))))))))
def wp_Paper_reverseFrom (post : (Nat → Int32) → Prop) (v_pl : Int32)  (x1 : Int32) (f_pt : Nat → Int32) : Prop := ∀ x3_1 : Int32, x3_1 = v_pl - 1 → ∃ k9, wp_Paper_reverseFrom_9 post v_pl k9 x1 x3_1 f_pt
section
variable {p : Program} {l : Launch} {e : Env} {s : State} {m : MethodId} {args : Array Value} {below : List Frame} {meth : Method} {c : Code} {Q : State → Prop} {A : Nat → Prop} {D : va_G} {cT : Nat → ClassId}
set_option maxHeartbeats 4000000 in
set_option maxRecDepth 100000 in
theorem tw_Paper_reverseFrom_9 {post : (Nat → Int32) → Prop} {h_p h_pt : Nat} {v_pl : Int32}  (C0 : cx RX5 cX5_reverseFrom 5 D cT p s m c args) (hA : ∀ q, s.heap.size ≤ q → A q) (hret : ∀ (f_pt : Nat → Int32) (H : Heap) (locs : List Loc) (pc : Nat) (ls : Array Slot), post f_pt → va_P D vwCl [(h_p, .inr (5, [.ref h_pt, .int v_pl])), (h_pt, .inl (cT 3, 301, .inl f_pt))] H → va_D A [(h_p, .inr (5, [.ref h_pt, .int v_pl])), (h_pt, .inl (cT 3, 301, .inl f_pt))] → va_S A s.heap H locs → decode cX5_reverseFrom pc = .ok (.return_, 1) → W p l e ({ frames := 0, cells := 0, slots := 0, locals := 0 } : Room) s m args below meth c H locs 0 0 Q (F0 m pc ls []))  : ∀ (n : Nat) (x2 : Int32) (x3 : Int32) (f_pt : Nat → Int32) (H : Heap) (locs : List Loc) (ls : Array Slot), va_P D vwCl [(h_p, .inr (5, [.ref h_pt, .int v_pl])), (h_pt, .inl (cT 3, 301, .inl f_pt))] H → va_D A [(h_p, .inr (5, [.ref h_pt, .int v_pl])), (h_pt, .inl (cT 3, 301, .inl f_pt))] → va_S A s.heap H locs → lv_has ls 5 [(0, .ref h_p), (2, .int x2), (3, .int x3)] → wp_Paper_reverseFrom_9 post v_pl n x2 x3 f_pt → W p l e ({ frames := 0, cells := 0, slots := 0, locals := 0 } : Room) s m args below meth c H locs 0 0 Q (F0 m 9 ls []) := by
  obtain ⟨⟨hx, hb, hml, hown, hts⟩, hK, hN⟩ := id C0
  intro n
  induction n with
  | zero => intro x2 x3 f_pt H locs ls hP hD hS hl hw; exact hw.elim
  | succ n ih =>
    intro x2 x3 f_pt H locs ls hP hD hS hl hw
    unfold wp_Paper_reverseFrom_9 at hw
    refine lv_iload_n hx hb dX5_reverseFrom_9 rfl (lv_at hl 1 rfl) ?_
    refine lv_iload_n hx hb dX5_reverseFrom_10 rfl (lv_at hl 2 rfl) ?_
    refine lv_icmp_ge (tgt := 51) hx hb dX5_reverseFrom_11 (by decide) (fun c_2 => ?_) (fun c_2 => ?_)
    · have hw := hw.1 c_2
      exact hret _ _ _ _ _ hw hP hD hS dX5_reverseFrom_51
    · have hw := hw.2 c_2
      refine lv_aload_n hx hb dX5_reverseFrom_14 rfl (lv_at hl 0 rfl) ?_
      refine va_get (D := D) (ci := 5) (v := .ref h_pt) (C := RX5) (T := TX5) (N := 2) hx hb hts inX5 hown hK hP 0 rfl rfl 0 (by decide) (hts _ q_153) (fun _ h9 => h9) rfl dX5_reverseFrom_15 ?_
      refine lv_iload_n hx hb dX5_reverseFrom_18 rfl (lv_at hl 1 rfl) ?_
      obtain ⟨h_3, hw⟩ := hw
      refine va_cald hx hb hK hP 1 3 rfl rfl h_3 dX5_reverseFrom_19 ?_
      refine lv_topi (fun x4_4 ex4_4 => ?_)
      have hw := hw x4_4 ex4_4
      refine lv_istore (lv' := [(4, .int x4_4), (0, .ref h_p), (2, .int x2), (3, .int x3)]) hx hb dX5_reverseFrom_20 hl (by decide) rfl (fun ls hl => ?_)
      refine lv_aload_n hx hb dX5_reverseFrom_22 rfl (lv_at hl 1 rfl) ?_
      refine va_get (D := D) (ci := 5) (v := .ref h_pt) (C := RX5) (T := TX5) (N := 2) hx hb hts inX5 hown hK hP 0 rfl rfl 0 (by decide) (hts _ q_153) (fun _ h9 => h9) rfl dX5_reverseFrom_23 ?_
      refine lv_iload_n hx hb dX5_reverseFrom_26 rfl (lv_at hl 2 rfl) ?_
      refine lv_aload_n hx hb dX5_reverseFrom_27 rfl (lv_at hl 1 rfl) ?_
      refine va_get (D := D) (ci := 5) (v := .ref h_pt) (C := RX5) (T := TX5) (N := 2) hx hb hts inX5 hown hK hP 0 rfl rfl 0 (by decide) (hts _ q_153) (fun _ h9 => h9) rfl dX5_reverseFrom_28 ?_
      refine lv_iload_n hx hb dX5_reverseFrom_31 rfl (lv_at hl 3 rfl) ?_
      obtain ⟨h_5, hw⟩ := hw
      refine va_cald hx hb hK hP 1 3 rfl rfl h_5 dX5_reverseFrom_32 ?_
      obtain ⟨h_6, hw⟩ := hw
      refine va_cast hx hb hK hP hD hS 1 3 rfl rfl h_6 dX5_reverseFrom_33 (fun H locs hP hD hS => ?_)
      have hP : va_P D vwCl [(h_p, .inr (5, [.ref h_pt, .int v_pl])), (h_pt, .inl (cT 3, 301, .inl (upd f_pt x2.toNatClampNeg (vp_nar .char (f_pt x3.toNatClampNeg)))))] H := hP
      have hD : va_D A [(h_p, .inr (5, [.ref h_pt, .int v_pl])), (h_pt, .inl (cT 3, 301, .inl (upd f_pt x2.toNatClampNeg (vp_nar .char (f_pt x3.toNatClampNeg)))))] := hD
      refine lv_aload_n hx hb dX5_reverseFrom_34 rfl (lv_at hl 1 rfl) ?_
      refine va_get (D := D) (ci := 5) (v := .ref h_pt) (C := RX5) (T := TX5) (N := 2) hx hb hts inX5 hown hK hP 0 rfl rfl 0 (by decide) (hts _ q_153) (fun _ h9 => h9) rfl dX5_reverseFrom_35 ?_
      refine lv_iload_n hx hb dX5_reverseFrom_38 rfl (lv_at hl 3 rfl) ?_
      refine lv_iload hx hb dX5_reverseFrom_39 (lv_at hl 0 rfl) ?_
      obtain ⟨h_7, hw⟩ := hw
      refine va_cast hx hb hK hP hD hS 1 3 rfl rfl h_7 dX5_reverseFrom_41 (fun H locs hP hD hS => ?_)
      have hP : va_P D vwCl [(h_p, .inr (5, [.ref h_pt, .int v_pl])), (h_pt, .inl (cT 3, 301, .inl (upd (upd f_pt x2.toNatClampNeg (vp_nar .char (f_pt x3.toNatClampNeg))) x3.toNatClampNeg (vp_nar .char x4_4))))] H := hP
      have hD : va_D A [(h_p, .inr (5, [.ref h_pt, .int v_pl])), (h_pt, .inl (cT 3, 301, .inl (upd (upd f_pt x2.toNatClampNeg (vp_nar .char (f_pt x3.toNatClampNeg))) x3.toNatClampNeg (vp_nar .char x4_4))))] := hD
      obtain ⟨x2_8, ex2_8⟩ : ∃ y : Int32, y = x2 + 1 := ⟨_, rfl⟩
      refine lv_iinc (v := x2_8) (lv' := [(2, .int x2_8), (4, .int x4_4), (0, .ref h_p), (3, .int x3)]) hx hb dX5_reverseFrom_42 hl (k := 2) rfl (by rw [ex2_8]; rfl) (by decide) rfl (fun ls hl => ?_)
      have hw := hw x2_8 ex2_8
      obtain ⟨x3_9, ex3_9⟩ : ∃ y : Int32, y = x3 + (-1) := ⟨_, rfl⟩
      refine lv_iinc (v := x3_9) (lv' := [(3, .int x3_9), (2, .int x2_8), (4, .int x4_4), (0, .ref h_p)]) hx hb dX5_reverseFrom_45 hl (k := 3) rfl (by rw [ex3_9]; rfl) (by decide) rfl (fun ls hl => ?_)
      have hw := hw x3_9 ex3_9
      refine lv_goto (tgt := 9) hx hb dX5_reverseFrom_48 (by decide) ?_
      exact ih _ _ _ _ _ _ hP hD hS (lv_sub hl [3, 1, 0] rfl) hw
set_option maxHeartbeats 4000000 in
set_option maxRecDepth 100000 in
theorem tw_Paper_reverseFrom {post : (Nat → Int32) → Prop} {h_p h_pt : Nat} {v_pl : Int32}  (C0 : cx RX5 cX5_reverseFrom 5 D cT p s m c args) (hA : ∀ q, s.heap.size ≤ q → A q) (hret : ∀ (f_pt : Nat → Int32) (H : Heap) (locs : List Loc) (pc : Nat) (ls : Array Slot), post f_pt → va_P D vwCl [(h_p, .inr (5, [.ref h_pt, .int v_pl])), (h_pt, .inl (cT 3, 301, .inl f_pt))] H → va_D A [(h_p, .inr (5, [.ref h_pt, .int v_pl])), (h_pt, .inl (cT 3, 301, .inl f_pt))] → va_S A s.heap H locs → decode cX5_reverseFrom pc = .ok (.return_, 1) → W p l e ({ frames := 0, cells := 0, slots := 0, locals := 0 } : Room) s m args below meth c H locs 0 0 Q (F0 m pc ls []))  : ∀ (x1 : Int32) (f_pt : Nat → Int32) (H : Heap) (locs : List Loc) (ls : Array Slot), va_P D vwCl [(h_p, .inr (5, [.ref h_pt, .int v_pl])), (h_pt, .inl (cT 3, 301, .inl f_pt))] H → va_D A [(h_p, .inr (5, [.ref h_pt, .int v_pl])), (h_pt, .inl (cT 3, 301, .inl f_pt))] → va_S A s.heap H locs → lv_has ls 5 [(0, .ref h_p), (1, .int x1)] → wp_Paper_reverseFrom post v_pl x1 f_pt → W p l e ({ frames := 0, cells := 0, slots := 0, locals := 0 } : Room) s m args below meth c H locs 0 0 Q (F0 m 0 ls []) := by
  obtain ⟨⟨hx, hb, hml, hown, hts⟩, hK, hN⟩ := id C0
  intro x1 f_pt H locs ls hP hD hS hl hw
  unfold wp_Paper_reverseFrom at hw
  refine lv_iload_n hx hb dX5_reverseFrom_0 rfl (lv_at hl 1 rfl) ?_
  refine lv_istore_n (lv' := [(2, .int x1), (0, .ref h_p), (1, .int x1)]) hx hb dX5_reverseFrom_1 rfl hl (by decide) rfl (fun ls hl => ?_)
  refine lv_aload_n hx hb dX5_reverseFrom_2 rfl (lv_at hl 1 rfl) ?_
  refine va_get (D := D) (ci := 5) (v := .int v_pl) (C := RX5) (T := TX5) (N := 2) hx hb hts inX5 hown hK hP 0 rfl rfl 1 (by decide) (hts _ q_155) (fun _ h9 => h9) rfl dX5_reverseFrom_3 ?_
  refine lv_iconst (v := 1) hx hb dX5_reverseFrom_6 (by decide) ?_
  refine lv_isub hx hb dX5_reverseFrom_7 ?_
  refine lv_topi (fun x3_1 ex3_1 => ?_)
  have hw := hw x3_1 ex3_1
  refine lv_istore_n (lv' := [(3, .int x3_1), (2, .int x1), (0, .ref h_p), (1, .int x1)]) hx hb dX5_reverseFrom_8 rfl hl (by decide) rfl (fun ls hl => ?_)
  obtain ⟨n9, hw⟩ := hw
  exact tw_Paper_reverseFrom_9 C0 hA hret  n9 _ _ _ _ _ _ hP hD hS (lv_sub hl [2, 1, 0] rfl) hw
set_option maxHeartbeats 4000000 in
set_option maxRecDepth 100000 in
theorem cn_Paper_reverseFrom (l : Launch) (D : va_G) (cT : Nat → ClassId) (h_p h_pt : Nat) (sz : Nat) (v_pl : Int32) (f_pt : Nat → Int32) (x1 : Int32) (post : (Nat → Int32) → Prop) (hw : wp_Paper_reverseFrom post v_pl x1 f_pt) : Met l yX5_reverseFrom wX5_reverseFrom ({ frames := 0, cells := 0, slots := 0, locals := 0 } : Room) (va_Pc [.ref h_p, .int x1] (pre_ D cT [(h_p, .inr (5, [.ref h_pt, .int v_pl])), (h_pt, .inl (cT 3, 301, .inl f_pt))] sz)) (va_Qv (fun (u : (Nat → Int32)) => post u) (fun u t => va_P D vwCl [(h_p, .inr (5, [.ref h_pt, .int v_pl])), (h_pt, .inl (cT 3, 301, .inl u))] t.heap ∧ va_D (va_A [(h_p, .inr (5, [.ref h_pt, .int v_pl])), (h_pt, .inl (cT 3, 301, .inl f_pt))] sz) [(h_p, .inr (5, [.ref h_pt, .int v_pl])), (h_pt, .inl (cT 3, 301, .inl u))]) (va_A [(h_p, .inr (5, [.ref h_pt, .int v_pl])), (h_pt, .inl (cT 3, 301, .inl f_pt))] sz)) 0 0 (va_A [(h_p, .inr (5, [.ref h_pt, .int v_pl])), (h_pt, .inl (cT 3, 301, .inl f_pt))] sz) := by
  refine Met.ofW (cc := cX5_reverseFrom) (maxL := 5) (ret := none) (by decide) rfl ?_
  intro p e s m args below meth c s₁ B hml hv
  obtain ⟨rfl, hsz, hP, hK, hD0, hN⟩ := hv
  have hx := B.exec
  have hb := B.bytes
  have hr := B.returns
  have hts : ∀ w ∈ WG, w.before _ s = true := fun w h => atoms_spec (ws := wX5_reverseFrom) B.pre w (List.mem_cons_of_mem _ h)
  have hown : s.vm.findClass RX5 = some m.cls := findClass_of_methodNamed B.named
  have hlocks := B.notSynchronized
  subst hsz
  have hD := hD0.self (sz := s.heap.size)
  generalize hAe : va_A [(h_p, .inr (5, [.ref h_pt, .int v_pl])), (h_pt, .inl (cT 3, 301, .inl f_pt))] s.heap.size = A at hD ⊢
  have hA : ∀ q : Nat, s.heap.size ≤ q → A q := fun q h => by rw [← hAe]; exact Or.inr h
  have hS : va_S A s.heap s.heap [] := va_S.rf
  have hl := lv_entry ([.ref h_p, .int x1]) (n := 5) (Nat.le_of_ble_eq_true rfl)
  rw [lg_entry_eq]
  generalize (lg_sl ([.ref h_p, .int x1]) ++ List.replicate (5 - (lg_sl ([.ref h_p, .int x1])).length) Slot.unset).toArray = ls at hl ⊢
  refine tw_Paper_reverseFrom (Q := MQ below _ _ s 0 0 A) ⟨⟨hx, hb, hml, hown, hts⟩, hK, hN⟩ hA (fun f_pt H locs pc ls hp hP hD hS hd => W.vret hx hb hr (fun t ht hW => ⟨⟨(f_pt), rfl, hp, by rw [ht]; exact hP, hD⟩, hS.F ht⟩) hS.2.2 hd) _ _ _ _ _ hP hD hS hl hw
end
def wp_Paper_writeDecimal_42 (post : Int32 → (Nat → Int32) → (Nat → Int32) → Prop)   (x2 : Int32) (v_pl : Int32) (f_pt : Nat → Int32) (f_t : Nat → Int32) : Prop := wp_Paper_reverseFrom (fun u_2 => post v_pl u_2 f_t) v_pl x2 f_pt
def wp_Paper_writeDecimal_7 (post : Int32 → (Nat → Int32) → (Nat → Int32) → Prop)   : Nat → Int32 → Int32 → Int32 → (Nat → Int32) → (Nat → Int32) → Prop
  | 0 => fun _ _ _ _ _ => False
  | n + 1 => fun x2 x3 v_pl f_pt f_t => ((150 ≤ x3 → (wp_Paper_writeDecimal_42 post x2 v_pl f_pt f_t)) ∧ (¬ 150 ≤ x3 → (wp_Natural_takeDigit (fun r_4 u_3 => wp_Paper_write (fun u_5 u_6 => wp_Natural_isZero (fun r_7 => ((r_7 = 0 → (∀ x3_9 : Int32, x3_9 = x3 + 1 → wp_Paper_writeDecimal_7 post n x2 x3_9 u_5 u_6 u_3)) ∧ (¬ r_7 = 0 → (wp_Paper_writeDecimal_42 post x2 u_5 u_6 u_3)))) u_3) (((48 + r_4).toUInt32 % 65536).toInt32) v_pl f_pt) f_t)))
def wp_Paper_writeDecimal (post : Int32 → (Nat → Int32) → (Nat → Int32) → Prop)   (v_pl : Int32) (f_pt : Nat → Int32) (f_t : Nat → Int32) : Prop := ∃ k9, wp_Paper_writeDecimal_7 post k9 v_pl 0 v_pl f_pt f_t
section
variable {p : Program} {l : Launch} {e : Env} {s : State} {m : MethodId} {args : Array Value} {below : List Frame} {meth : Method} {c : Code} {Q : State → Prop} {A : Nat → Prop} {D : va_G} {cT : Nat → ClassId}
set_option maxHeartbeats 4000000 in
set_option maxRecDepth 100000 in
theorem tw_Paper_writeDecimal_42 {post : Int32 → (Nat → Int32) → (Nat → Int32) → Prop} {h_p h_pt h_t h_tl : Nat}   (C0 : cx RX5 cX5_writeDecimal 4 D cT p s m c args) (hA : ∀ q, s.heap.size ≤ q → A q) (hret : ∀ (v_pl : Int32) (f_pt : Nat → Int32) (f_t : Nat → Int32) (H : Heap) (locs : List Loc) (pc : Nat) (ls : Array Slot), post v_pl f_pt f_t → va_P D vwCl [(h_p, .inr (5, [.ref h_pt, .int v_pl])), (h_pt, .inl (cT 3, 301, .inl f_pt)), (h_t, .inr (4, [.ref h_tl])), (h_tl, .inl (cT 0, 16, .inl f_t))] H → va_D A [(h_p, .inr (5, [.ref h_pt, .int v_pl])), (h_pt, .inl (cT 3, 301, .inl f_pt)), (h_t, .inr (4, [.ref h_tl])), (h_tl, .inl (cT 0, 16, .inl f_t))] → va_S A s.heap H locs → decode cX5_writeDecimal pc = .ok (.return_, 1) → W p l e ({ frames := 2, cells := 0, slots := 0, locals := 41 } : Room) s m args below meth c H locs 0 0 Q (F0 m pc ls []))  : ∀ (x2 : Int32) (v_pl : Int32) (f_pt : Nat → Int32) (f_t : Nat → Int32) (H : Heap) (locs : List Loc) (ls : Array Slot), va_P D vwCl [(h_p, .inr (5, [.ref h_pt, .int v_pl])), (h_pt, .inl (cT 3, 301, .inl f_pt)), (h_t, .inr (4, [.ref h_tl])), (h_tl, .inl (cT 0, 16, .inl f_t))] H → va_D A [(h_p, .inr (5, [.ref h_pt, .int v_pl])), (h_pt, .inl (cT 3, 301, .inl f_pt)), (h_t, .inr (4, [.ref h_tl])), (h_tl, .inl (cT 0, 16, .inl f_t))] → va_S A s.heap H locs → lv_has ls 4 [(0, .ref h_p), (2, .int x2)] → wp_Paper_writeDecimal_42 post x2 v_pl f_pt f_t → W p l e ({ frames := 2, cells := 0, slots := 0, locals := 41 } : Room) s m args below meth c H locs 0 0 Q (F0 m 42 ls []) := by
  obtain ⟨⟨hx, hb, hml, hown, hts⟩, hK, hN⟩ := id C0
  intro x2 v_pl f_pt f_t H locs ls hP hD hS hl hw
  unfold wp_Paper_writeDecimal_42 at hw
  refine lv_aload_n hx hb dX5_writeDecimal_42 rfl (lv_at hl 0 rfl) ?_
  refine lv_iload_n hx hb dX5_writeDecimal_43 rfl (lv_at hl 1 rfl) ?_
  have hPc := hP.sub (ws' := [(h_p, .inr (5, [.ref h_pt, .int v_pl])), (h_pt, .inl (cT 3, 301, .inl f_pt))]) [0, 1] rfl
  have hDc := hD.sub (ws' := [(h_p, .inr (5, [.ref h_pt, .int v_pl])), (h_pt, .inl (cT 3, 301, .inl f_pt))]) [0, 1] (by decide) rfl
  have hFc := va_free (wc := [(h_p, .inr (5, [.ref h_pt, .int v_pl])), (h_pt, .inl (cT 3, 301, .inl f_pt))]) hD hS hA [0, 1] rfl
  refine va_callv (va_runV (As := [.int x2]) (rest := []) ⟨hx, hb, hml, hown, hts⟩ (cn_Paper_reverseFrom l D cT h_p h_pt H.size v_pl f_pt x2 _ hw) (gv_ 1 q_407 q_8 q_404 q_406 qs_17 (by decide +kernel) ⟨Nat.le_of_ble_eq_true rfl, Nat.le_of_ble_eq_true rfl⟩ hts) ⟨pre_blind, va_recv hK hPc (ci := 5) (q0 := 0) rfl rfl, fun U hU hW => ⟨rfl, pre_mk hU hW hPc hK hDc hN⟩⟩ rfl rfl hl.1 rfl (lv_room (Nat.le_of_ble_eq_true rfl)) dX5_writeDecimal_44 ⟨(Nat.zero_le _), (Nat.zero_le _)⟩) hS (fun q _ h => hFc q h) hFc (fun u9 t H locs ht hvm hw hB hz1 hk1 hS => ?_)
  obtain ⟨u_2, rfl⟩ : ∃ z, z = u9 := ⟨_, rfl⟩
  obtain ⟨hP1, hD1⟩ := hB
  rw [ht] at hP1
  obtain ⟨hP, hD⟩ := va_join (wr := [(h_t, .inr (4, [.ref h_tl])), (h_tl, .inl (cT 0, 16, .inl f_t))]) (w1 := [(h_p, .inr (5, [.ref h_pt, .int v_pl])), (h_pt, .inl (cT 3, 301, .inl u_2))]) hP hD [0, 1] [2, 3] rfl rfl (by decide) (by decide) hk1 hFc hP1 hD1
  have hP := hP.sub (ws' := [(h_p, .inr (5, [.ref h_pt, .int v_pl])), (h_pt, .inl (cT 3, 301, .inl u_2)), (h_t, .inr (4, [.ref h_tl])), (h_tl, .inl (cT 0, 16, .inl f_t))]) [2, 3, 0, 1] rfl
  have hD := hD.sub (ws' := [(h_p, .inr (5, [.ref h_pt, .int v_pl])), (h_pt, .inl (cT 3, 301, .inl u_2)), (h_t, .inr (4, [.ref h_tl])), (h_tl, .inl (cT 0, 16, .inl f_t))]) [2, 3, 0, 1] (by decide) rfl
  clear hP1 hD1 hPc hDc hFc hk1 hz1 hvm ht
  try dsimp only at hw
  exact hret _ _ _ _ _ _ _ hw hP hD hS dX5_writeDecimal_47
set_option maxHeartbeats 4000000 in
set_option maxRecDepth 100000 in
theorem tw_Paper_writeDecimal_7 {post : Int32 → (Nat → Int32) → (Nat → Int32) → Prop} {h_p h_pt h_t h_tl : Nat}   (C0 : cx RX5 cX5_writeDecimal 4 D cT p s m c args) (hA : ∀ q, s.heap.size ≤ q → A q) (hret : ∀ (v_pl : Int32) (f_pt : Nat → Int32) (f_t : Nat → Int32) (H : Heap) (locs : List Loc) (pc : Nat) (ls : Array Slot), post v_pl f_pt f_t → va_P D vwCl [(h_p, .inr (5, [.ref h_pt, .int v_pl])), (h_pt, .inl (cT 3, 301, .inl f_pt)), (h_t, .inr (4, [.ref h_tl])), (h_tl, .inl (cT 0, 16, .inl f_t))] H → va_D A [(h_p, .inr (5, [.ref h_pt, .int v_pl])), (h_pt, .inl (cT 3, 301, .inl f_pt)), (h_t, .inr (4, [.ref h_tl])), (h_tl, .inl (cT 0, 16, .inl f_t))] → va_S A s.heap H locs → decode cX5_writeDecimal pc = .ok (.return_, 1) → W p l e ({ frames := 2, cells := 0, slots := 0, locals := 41 } : Room) s m args below meth c H locs 0 0 Q (F0 m pc ls []))  : ∀ (n : Nat) (x2 : Int32) (x3 : Int32) (v_pl : Int32) (f_pt : Nat → Int32) (f_t : Nat → Int32) (H : Heap) (locs : List Loc) (ls : Array Slot), va_P D vwCl [(h_p, .inr (5, [.ref h_pt, .int v_pl])), (h_pt, .inl (cT 3, 301, .inl f_pt)), (h_t, .inr (4, [.ref h_tl])), (h_tl, .inl (cT 0, 16, .inl f_t))] H → va_D A [(h_p, .inr (5, [.ref h_pt, .int v_pl])), (h_pt, .inl (cT 3, 301, .inl f_pt)), (h_t, .inr (4, [.ref h_tl])), (h_tl, .inl (cT 0, 16, .inl f_t))] → va_S A s.heap H locs → lv_has ls 4 [(0, .ref h_p), (1, .ref h_t), (2, .int x2), (3, .int x3)] → wp_Paper_writeDecimal_7 post n x2 x3 v_pl f_pt f_t → W p l e ({ frames := 2, cells := 0, slots := 0, locals := 41 } : Room) s m args below meth c H locs 0 0 Q (F0 m 7 ls []) := by
  obtain ⟨⟨hx, hb, hml, hown, hts⟩, hK, hN⟩ := id C0
  intro n
  induction n with
  | zero => intro x2 x3 v_pl f_pt f_t H locs ls hP hD hS hl hw; exact hw.elim
  | succ n ih =>
    intro x2 x3 v_pl f_pt f_t H locs ls hP hD hS hl hw
    unfold wp_Paper_writeDecimal_7 at hw
    refine lv_iload_n hx hb dX5_writeDecimal_7 rfl (lv_at hl 3 rfl) ?_
    refine lv_sipush (v := 150) hx hb dX5_writeDecimal_8 (by decide) ?_
    refine lv_icmp_ge (tgt := 42) hx hb dX5_writeDecimal_11 (by decide) (fun c_1 => ?_) (fun c_1 => ?_)
    · have hw := hw.1 c_1
      exact tw_Paper_writeDecimal_42 C0 hA hret  _ _ _ _ _ _ _ hP hD hS (lv_sub hl [0, 2] rfl) hw
    · have hw := hw.2 c_1
      refine lv_aload_n hx hb dX5_writeDecimal_14 rfl (lv_at hl 0 rfl) ?_
      refine lv_bipush (v := 48) hx hb dX5_writeDecimal_15 (by decide) ?_
      refine lv_aload_n hx hb dX5_writeDecimal_17 rfl (lv_at hl 1 rfl) ?_
      have hPc := hP.sub (ws' := [(h_t, .inr (4, [.ref h_tl])), (h_tl, .inl (cT 0, 16, .inl f_t))]) [2, 3] rfl
      have hDc := hD.sub (ws' := [(h_t, .inr (4, [.ref h_tl])), (h_tl, .inl (cT 0, 16, .inl f_t))]) [2, 3] (by decide) rfl
      have hFc := va_free (wc := [(h_t, .inr (4, [.ref h_tl])), (h_tl, .inl (cT 0, 16, .inl f_t))]) hD hS hA [2, 3] rfl
      refine va_calli (va_runV (As := []) (rest := [.int 48, .ref h_p]) ⟨hx, hb, hml, hown, hts⟩ (cn_Natural_takeDigit l D cT h_t h_tl H.size f_t _ hw) (gv_ 0 q_397 q_6 q_394 q_395 q_396 (by decide +kernel) ⟨Nat.le_of_ble_eq_true rfl, Nat.le_of_ble_eq_true rfl⟩ hts) ⟨pre_blind, va_recv hK hPc (ci := 4) (q0 := 0) rfl rfl, fun U hU hW => ⟨rfl, pre_mk hU hW hPc hK hDc hN⟩⟩ rfl rfl hl.1 rfl (lv_room (Nat.le_of_ble_eq_true rfl)) dX5_writeDecimal_18 ⟨(Nat.zero_le _), (Nat.zero_le _)⟩) hS (fun q _ h => hFc q h) hFc (fun r_4 u9 t H locs ht hvm hw hB hz1 hk1 hS => ?_)
      obtain ⟨u_3, rfl⟩ : ∃ z, z = u9 := ⟨_, rfl⟩
      obtain ⟨hP1, hD1⟩ := hB
      rw [ht] at hP1
      obtain ⟨hP, hD⟩ := va_join (wr := [(h_p, .inr (5, [.ref h_pt, .int v_pl])), (h_pt, .inl (cT 3, 301, .inl f_pt))]) (w1 := [(h_t, .inr (4, [.ref h_tl])), (h_tl, .inl (cT 0, 16, .inl u_3))]) hP hD [2, 3] [0, 1] rfl rfl (by decide) (by decide) hk1 hFc hP1 hD1
      have hP := hP.sub (ws' := [(h_p, .inr (5, [.ref h_pt, .int v_pl])), (h_pt, .inl (cT 3, 301, .inl f_pt)), (h_t, .inr (4, [.ref h_tl])), (h_tl, .inl (cT 0, 16, .inl u_3))]) [0, 1, 2, 3] rfl
      have hD := hD.sub (ws' := [(h_p, .inr (5, [.ref h_pt, .int v_pl])), (h_pt, .inl (cT 3, 301, .inl f_pt)), (h_t, .inr (4, [.ref h_tl])), (h_tl, .inl (cT 0, 16, .inl u_3))]) [0, 1, 2, 3] (by decide) rfl
      clear hP1 hD1 hPc hDc hFc hk1 hz1 hvm ht
      try dsimp only at hw
      refine lv_iadd hx hb dX5_writeDecimal_21 ?_
      refine lv_i2c hx hb dX5_writeDecimal_22 rfl ?_
      have hPc := hP.sub (ws' := [(h_p, .inr (5, [.ref h_pt, .int v_pl])), (h_pt, .inl (cT 3, 301, .inl f_pt))]) [0, 1] rfl
      have hDc := hD.sub (ws' := [(h_p, .inr (5, [.ref h_pt, .int v_pl])), (h_pt, .inl (cT 3, 301, .inl f_pt))]) [0, 1] (by decide) rfl
      have hFc := va_free (wc := [(h_p, .inr (5, [.ref h_pt, .int v_pl])), (h_pt, .inl (cT 3, 301, .inl f_pt))]) hD hS hA [0, 1] rfl
      refine va_callv (va_runV (As := [.int (((48 + r_4).toUInt32 % 65536).toInt32)]) (rest := []) ⟨hx, hb, hml, hown, hts⟩ (cn_Paper_write l D cT h_p h_pt H.size v_pl f_pt (((48 + r_4).toUInt32 % 65536).toInt32) _ hw) (gv_ 1 q_402 q_8 q_399 q_400 q_401 (by decide +kernel) ⟨Nat.le_of_ble_eq_true rfl, Nat.le_of_ble_eq_true rfl⟩ hts) ⟨pre_blind, va_recv hK hPc (ci := 5) (q0 := 0) rfl rfl, fun U hU hW => ⟨rfl, pre_mk hU hW hPc hK hDc hN⟩⟩ rfl rfl hl.1 rfl (lv_room (Nat.le_of_ble_eq_true rfl)) dX5_writeDecimal_23 ⟨(Nat.zero_le _), (Nat.zero_le _)⟩) hS (fun q _ h => hFc q h) hFc (fun u9 t H locs ht hvm hw hB hz1 hk1 hS => ?_)
      obtain ⟨u_5, u_6⟩ := u9
      obtain ⟨hP1, hD1⟩ := hB
      rw [ht] at hP1
      obtain ⟨hP, hD⟩ := va_join (wr := [(h_t, .inr (4, [.ref h_tl])), (h_tl, .inl (cT 0, 16, .inl u_3))]) (w1 := [(h_p, .inr (5, [.ref h_pt, .int u_5])), (h_pt, .inl (cT 3, 301, .inl u_6))]) hP hD [0, 1] [2, 3] rfl rfl (by decide) (by decide) hk1 hFc hP1 hD1
      have hP := hP.sub (ws' := [(h_p, .inr (5, [.ref h_pt, .int u_5])), (h_pt, .inl (cT 3, 301, .inl u_6)), (h_t, .inr (4, [.ref h_tl])), (h_tl, .inl (cT 0, 16, .inl u_3))]) [2, 3, 0, 1] rfl
      have hD := hD.sub (ws' := [(h_p, .inr (5, [.ref h_pt, .int u_5])), (h_pt, .inl (cT 3, 301, .inl u_6)), (h_t, .inr (4, [.ref h_tl])), (h_tl, .inl (cT 0, 16, .inl u_3))]) [2, 3, 0, 1] (by decide) rfl
      clear hP1 hD1 hPc hDc hFc hk1 hz1 hvm ht
      try dsimp only at hw
      refine lv_aload_n hx hb dX5_writeDecimal_26 rfl (lv_at hl 1 rfl) ?_
      have hPc := hP.sub (ws' := [(h_t, .inr (4, [.ref h_tl])), (h_tl, .inl (cT 0, 16, .inl u_3))]) [2, 3] rfl
      have hDc := hD.sub (ws' := [(h_t, .inr (4, [.ref h_tl])), (h_tl, .inl (cT 0, 16, .inl u_3))]) [2, 3] (by decide) rfl
      have hFc := va_free (wc := [(h_t, .inr (4, [.ref h_tl])), (h_tl, .inl (cT 0, 16, .inl u_3))]) hD hS hA [2, 3] rfl
      refine va_calli (va_runV (As := []) (rest := []) ⟨hx, hb, hml, hown, hts⟩ (cn_Natural_isZero l D cT h_t h_tl H.size u_3 _ hw) (gv_ 0 q_323 q_6 q_403 q_321 q_322 (by decide +kernel) ⟨Nat.le_of_ble_eq_true rfl, Nat.le_of_ble_eq_true rfl⟩ hts) ⟨pre_blind, va_recv hK hPc (ci := 4) (q0 := 0) rfl rfl, fun U hU hW => ⟨rfl, pre_mk hU hW hPc hK hDc hN⟩⟩ rfl rfl hl.1 rfl (lv_room (Nat.le_of_ble_eq_true rfl)) dX5_writeDecimal_27 ⟨(Nat.zero_le _), (Nat.zero_le _)⟩) hS (fun q _ h => hFc q h) hFc (fun r_7 u9 t H locs ht hvm hw hB hz1 hk1 hS => ?_)
      obtain ⟨hP1, hD1⟩ := hB
      rw [ht] at hP1
      obtain ⟨hP, hD⟩ := va_join (wr := [(h_p, .inr (5, [.ref h_pt, .int u_5])), (h_pt, .inl (cT 3, 301, .inl u_6))]) (w1 := [(h_t, .inr (4, [.ref h_tl])), (h_tl, .inl (cT 0, 16, .inl u_3))]) hP hD [2, 3] [0, 1] rfl rfl (by decide) (by decide) hk1 hFc hP1 hD1
      have hP := hP.sub (ws' := [(h_p, .inr (5, [.ref h_pt, .int u_5])), (h_pt, .inl (cT 3, 301, .inl u_6)), (h_t, .inr (4, [.ref h_tl])), (h_tl, .inl (cT 0, 16, .inl u_3))]) [0, 1, 2, 3] rfl
      have hD := hD.sub (ws' := [(h_p, .inr (5, [.ref h_pt, .int u_5])), (h_pt, .inl (cT 3, 301, .inl u_6)), (h_t, .inr (4, [.ref h_tl])), (h_tl, .inl (cT 0, 16, .inl u_3))]) [0, 1, 2, 3] (by decide) rfl
      clear hP1 hD1 hPc hDc hFc hk1 hz1 hvm ht
      try dsimp only at hw
      refine lv_if_eq (tgt := 36) hx hb dX5_writeDecimal_30 (by decide) (fun c_8 => ?_) (fun c_8 => ?_)
      · have hw := hw.1 c_8
        obtain ⟨x3_9, ex3_9⟩ : ∃ y : Int32, y = x3 + 1 := ⟨_, rfl⟩
        refine lv_iinc (v := x3_9) (lv' := [(3, .int x3_9), (0, .ref h_p), (1, .ref h_t), (2, .int x2)]) hx hb dX5_writeDecimal_36 hl (k := 3) rfl (by rw [ex3_9]; rfl) (by decide) rfl (fun ls hl => ?_)
        have hw := hw x3_9 ex3_9
        refine lv_goto (tgt := 7) hx hb dX5_writeDecimal_39 (by decide) ?_
        exact ih _ _ _ _ _ _ _ _ hP hD hS (lv_sub hl [1, 2, 3, 0] rfl) hw
      · have hw := hw.2 c_8
        refine lv_goto (tgt := 42) hx hb dX5_writeDecimal_33 (by decide) ?_
        exact tw_Paper_writeDecimal_42 C0 hA hret  _ _ _ _ _ _ _ hP hD hS (lv_sub hl [0, 2] rfl) hw
set_option maxHeartbeats 4000000 in
set_option maxRecDepth 100000 in
theorem tw_Paper_writeDecimal {post : Int32 → (Nat → Int32) → (Nat → Int32) → Prop} {h_p h_pt h_t h_tl : Nat}   (C0 : cx RX5 cX5_writeDecimal 4 D cT p s m c args) (hA : ∀ q, s.heap.size ≤ q → A q) (hret : ∀ (v_pl : Int32) (f_pt : Nat → Int32) (f_t : Nat → Int32) (H : Heap) (locs : List Loc) (pc : Nat) (ls : Array Slot), post v_pl f_pt f_t → va_P D vwCl [(h_p, .inr (5, [.ref h_pt, .int v_pl])), (h_pt, .inl (cT 3, 301, .inl f_pt)), (h_t, .inr (4, [.ref h_tl])), (h_tl, .inl (cT 0, 16, .inl f_t))] H → va_D A [(h_p, .inr (5, [.ref h_pt, .int v_pl])), (h_pt, .inl (cT 3, 301, .inl f_pt)), (h_t, .inr (4, [.ref h_tl])), (h_tl, .inl (cT 0, 16, .inl f_t))] → va_S A s.heap H locs → decode cX5_writeDecimal pc = .ok (.return_, 1) → W p l e ({ frames := 2, cells := 0, slots := 0, locals := 41 } : Room) s m args below meth c H locs 0 0 Q (F0 m pc ls []))  : ∀ (v_pl : Int32) (f_pt : Nat → Int32) (f_t : Nat → Int32) (H : Heap) (locs : List Loc) (ls : Array Slot), va_P D vwCl [(h_p, .inr (5, [.ref h_pt, .int v_pl])), (h_pt, .inl (cT 3, 301, .inl f_pt)), (h_t, .inr (4, [.ref h_tl])), (h_tl, .inl (cT 0, 16, .inl f_t))] H → va_D A [(h_p, .inr (5, [.ref h_pt, .int v_pl])), (h_pt, .inl (cT 3, 301, .inl f_pt)), (h_t, .inr (4, [.ref h_tl])), (h_tl, .inl (cT 0, 16, .inl f_t))] → va_S A s.heap H locs → lv_has ls 4 [(0, .ref h_p), (1, .ref h_t)] → wp_Paper_writeDecimal post v_pl f_pt f_t → W p l e ({ frames := 2, cells := 0, slots := 0, locals := 41 } : Room) s m args below meth c H locs 0 0 Q (F0 m 0 ls []) := by
  obtain ⟨⟨hx, hb, hml, hown, hts⟩, hK, hN⟩ := id C0
  intro v_pl f_pt f_t H locs ls hP hD hS hl hw
  unfold wp_Paper_writeDecimal at hw
  refine lv_aload_n hx hb dX5_writeDecimal_0 rfl (lv_at hl 0 rfl) ?_
  refine va_get (D := D) (ci := 5) (v := .int v_pl) (C := RX5) (T := TX5) (N := 2) hx hb hts inX5 hown hK hP 0 rfl rfl 1 (by decide) (hts _ q_155) (fun _ h9 => h9) rfl dX5_writeDecimal_1 ?_
  refine lv_istore_n (lv' := [(2, .int v_pl), (0, .ref h_p), (1, .ref h_t)]) hx hb dX5_writeDecimal_4 rfl hl (by decide) rfl (fun ls hl => ?_)
  refine lv_iconst (v := 0) hx hb dX5_writeDecimal_5 (by decide) ?_
  refine lv_istore_n (lv' := [(3, .int 0), (2, .int v_pl), (0, .ref h_p), (1, .ref h_t)]) hx hb dX5_writeDecimal_6 rfl hl (by decide) rfl (fun ls hl => ?_)
  obtain ⟨n9, hw⟩ := hw
  exact tw_Paper_writeDecimal_7 C0 hA hret  n9 _ _ _ _ _ _ _ _ hP hD hS (lv_sub hl [2, 3, 1, 0] rfl) hw
set_option maxHeartbeats 4000000 in
set_option maxRecDepth 100000 in
theorem cn_Paper_writeDecimal (l : Launch) (D : va_G) (cT : Nat → ClassId) (h_p h_pt h_t h_tl : Nat) (sz : Nat) (v_pl : Int32) (f_pt : Nat → Int32) (f_t : Nat → Int32)  (post : Int32 → (Nat → Int32) → (Nat → Int32) → Prop) (hw : wp_Paper_writeDecimal post v_pl f_pt f_t) : Met l yX5_writeDecimal wX5_writeDecimal ({ frames := 2, cells := 0, slots := 0, locals := 41 } : Room) (va_Pc [.ref h_p, .ref h_t] (pre_ D cT [(h_p, .inr (5, [.ref h_pt, .int v_pl])), (h_pt, .inl (cT 3, 301, .inl f_pt)), (h_t, .inr (4, [.ref h_tl])), (h_tl, .inl (cT 0, 16, .inl f_t))] sz)) (va_Qv (fun (u : Int32 × (Nat → Int32) × (Nat → Int32)) => post u.1 u.2.1 u.2.2) (fun u t => va_P D vwCl [(h_p, .inr (5, [.ref h_pt, .int u.1])), (h_pt, .inl (cT 3, 301, .inl u.2.1)), (h_t, .inr (4, [.ref h_tl])), (h_tl, .inl (cT 0, 16, .inl u.2.2))] t.heap ∧ va_D (va_A [(h_p, .inr (5, [.ref h_pt, .int v_pl])), (h_pt, .inl (cT 3, 301, .inl f_pt)), (h_t, .inr (4, [.ref h_tl])), (h_tl, .inl (cT 0, 16, .inl f_t))] sz) [(h_p, .inr (5, [.ref h_pt, .int u.1])), (h_pt, .inl (cT 3, 301, .inl u.2.1)), (h_t, .inr (4, [.ref h_tl])), (h_tl, .inl (cT 0, 16, .inl u.2.2))]) (va_A [(h_p, .inr (5, [.ref h_pt, .int v_pl])), (h_pt, .inl (cT 3, 301, .inl f_pt)), (h_t, .inr (4, [.ref h_tl])), (h_tl, .inl (cT 0, 16, .inl f_t))] sz)) 0 0 (va_A [(h_p, .inr (5, [.ref h_pt, .int v_pl])), (h_pt, .inl (cT 3, 301, .inl f_pt)), (h_t, .inr (4, [.ref h_tl])), (h_tl, .inl (cT 0, 16, .inl f_t))] sz) := by
  refine Met.ofW (cc := cX5_writeDecimal) (maxL := 4) (ret := none) (by decide) rfl ?_
  intro p e s m args below meth c s₁ B hml hv
  obtain ⟨rfl, hsz, hP, hK, hD0, hN⟩ := hv
  have hx := B.exec
  have hb := B.bytes
  have hr := B.returns
  have hts : ∀ w ∈ WG, w.before _ s = true := fun w h => atoms_spec (ws := wX5_writeDecimal) B.pre w (List.mem_cons_of_mem _ h)
  have hown : s.vm.findClass RX5 = some m.cls := findClass_of_methodNamed B.named
  have hlocks := B.notSynchronized
  subst hsz
  have hD := hD0.self (sz := s.heap.size)
  generalize hAe : va_A [(h_p, .inr (5, [.ref h_pt, .int v_pl])), (h_pt, .inl (cT 3, 301, .inl f_pt)), (h_t, .inr (4, [.ref h_tl])), (h_tl, .inl (cT 0, 16, .inl f_t))] s.heap.size = A at hD ⊢
  have hA : ∀ q : Nat, s.heap.size ≤ q → A q := fun q h => by rw [← hAe]; exact Or.inr h
  have hS : va_S A s.heap s.heap [] := va_S.rf
  have hl := lv_entry ([.ref h_p, .ref h_t]) (n := 4) (Nat.le_of_ble_eq_true rfl)
  rw [lg_entry_eq]
  generalize (lg_sl ([.ref h_p, .ref h_t]) ++ List.replicate (4 - (lg_sl ([.ref h_p, .ref h_t])).length) Slot.unset).toArray = ls at hl ⊢
  refine tw_Paper_writeDecimal (Q := MQ below _ _ s 0 0 A) ⟨⟨hx, hb, hml, hown, hts⟩, hK, hN⟩ hA (fun v_pl f_pt f_t H locs pc ls hp hP hD hS hd => W.vret hx hb hr (fun t ht hW => ⟨⟨(v_pl, f_pt, f_t), rfl, hp, by rw [ht]; exact hP, hD⟩, hS.F ht⟩) hS.2.2 hd) _ _ _ _ _ _ hP hD hS hl hw
end
