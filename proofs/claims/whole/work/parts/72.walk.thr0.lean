def wp_DeskT_begin_11 (post : Int32 → Prop) (v_wo : Int32) (v_rs : Int32) (v_cs : Int32) (f_cw : Nat → Int32) (f_cl : Nat → Int32) (f_cp : Nat → Int32) (f_ce : Nat → Int32)   : Prop := post 1
def wp_DeskT_begin (post : Int32 → Prop) (v_wo : Int32) (v_rs : Int32) (v_cs : Int32) (f_cw : Nat → Int32) (f_cl : Nat → Int32) (f_cp : Nat → Int32) (f_ce : Nat → Int32)  (x1 : Int32) : Prop := ((x1 < 1 → (wp_DeskT_begin_11 post v_wo v_rs v_cs f_cw f_cl f_cp f_ce)) ∧ (¬ x1 < 1 → (((x1 ≤ 40 → (False)) ∧ (¬ x1 ≤ 40 → (wp_DeskT_begin_11 post v_wo v_rs v_cs f_cw f_cl f_cp f_ce))))))
section
variable {p : Program} {l : Launch} {e : Env} {s : State} {m : MethodId} {args : Array Value} {below : List Frame} {meth : Method} {c : Code} {Q : State → Prop} {A : Nat → Prop} {D : va_G} {cT : Nat → ClassId}
set_option maxHeartbeats 4000000 in
set_option maxRecDepth 100000 in
theorem tw_DeskT_begin_11 {post : Int32 → Prop} {h_d h_c h_cw h_cl h_cp h_ce h_k h_q h_p h_s : Nat} {v_wo : Int32} {v_rs : Int32} {v_cs : Int32} {f_cw : Nat → Int32} {f_cl : Nat → Int32} {f_cp : Nat → Int32} {f_ce : Nat → Int32}  (C0 : cx RX7 cX7_begin 2 D cT p s m c args) (hA : ∀ q, s.heap.size ≤ q → A q) (hret : ∀ (r : Int32) (H : Heap) (locs : List Loc) (pc : Nat) (ls : Array Slot), post r → va_P D vwCl [(h_d, .inr (7, [.ref h_c, .ref h_k, .ref h_q, .ref h_p, .ref h_s, .int v_wo, .int v_rs])), (h_c, .inr (0, [.ref h_cw, .ref h_cl, .ref h_cp, .ref h_ce, .int v_cs])), (h_cw, .inl (cT 0, 40, .inl f_cw)), (h_cl, .inl (cT 0, 40, .inl f_cl)), (h_cp, .inl (cT 0, 1640, .inl f_cp)), (h_ce, .inl (cT 2, 40, .inl f_ce))] H → True → va_S A s.heap H locs → th_site cX7_begin pc r → ls.size = 2 → W p l e ({ frames := 6, cells := 1, slots := 6, locals := 90 } : Room) s m args below meth c H locs 0 0 Q (F0 m pc ls []))  : ∀  (H : Heap) (locs : List Loc) (ls : Array Slot), va_P D vwCl [(h_d, .inr (7, [.ref h_c, .ref h_k, .ref h_q, .ref h_p, .ref h_s, .int v_wo, .int v_rs])), (h_c, .inr (0, [.ref h_cw, .ref h_cl, .ref h_cp, .ref h_ce, .int v_cs])), (h_cw, .inl (cT 0, 40, .inl f_cw)), (h_cl, .inl (cT 0, 40, .inl f_cl)), (h_cp, .inl (cT 0, 1640, .inl f_cp)), (h_ce, .inl (cT 2, 40, .inl f_ce))] H → True → va_S A s.heap H locs → lv_has ls 2 [] → wp_DeskT_begin_11 post v_wo v_rs v_cs f_cw f_cl f_cp f_ce  → W p l e ({ frames := 6, cells := 1, slots := 6, locals := 90 } : Room) s m args below meth c H locs 0 0 Q (F0 m 11 ls []) := by
  obtain ⟨⟨hx, hb, hml, hown, hts⟩, hK, hN⟩ := id C0
  intro H locs ls hP hD hS hl hw
  unfold wp_DeskT_begin_11 at hw
  exact hret 1 _ _ _ _ hw hP hD hS ts_X7_begin_11 hl.1
set_option maxHeartbeats 4000000 in
set_option maxRecDepth 100000 in
theorem tw_DeskT_begin {post : Int32 → Prop} {h_d h_c h_cw h_cl h_cp h_ce h_k h_q h_p h_s : Nat} {v_wo : Int32} {v_rs : Int32} {v_cs : Int32} {f_cw : Nat → Int32} {f_cl : Nat → Int32} {f_cp : Nat → Int32} {f_ce : Nat → Int32}  (C0 : cx RX7 cX7_begin 2 D cT p s m c args) (hA : ∀ q, s.heap.size ≤ q → A q) (hret : ∀ (r : Int32) (H : Heap) (locs : List Loc) (pc : Nat) (ls : Array Slot), post r → va_P D vwCl [(h_d, .inr (7, [.ref h_c, .ref h_k, .ref h_q, .ref h_p, .ref h_s, .int v_wo, .int v_rs])), (h_c, .inr (0, [.ref h_cw, .ref h_cl, .ref h_cp, .ref h_ce, .int v_cs])), (h_cw, .inl (cT 0, 40, .inl f_cw)), (h_cl, .inl (cT 0, 40, .inl f_cl)), (h_cp, .inl (cT 0, 1640, .inl f_cp)), (h_ce, .inl (cT 2, 40, .inl f_ce))] H → True → va_S A s.heap H locs → th_site cX7_begin pc r → ls.size = 2 → W p l e ({ frames := 6, cells := 1, slots := 6, locals := 90 } : Room) s m args below meth c H locs 0 0 Q (F0 m pc ls []))  : ∀ (x1 : Int32) (H : Heap) (locs : List Loc) (ls : Array Slot), va_P D vwCl [(h_d, .inr (7, [.ref h_c, .ref h_k, .ref h_q, .ref h_p, .ref h_s, .int v_wo, .int v_rs])), (h_c, .inr (0, [.ref h_cw, .ref h_cl, .ref h_cp, .ref h_ce, .int v_cs])), (h_cw, .inl (cT 0, 40, .inl f_cw)), (h_cl, .inl (cT 0, 40, .inl f_cl)), (h_cp, .inl (cT 0, 1640, .inl f_cp)), (h_ce, .inl (cT 2, 40, .inl f_ce))] H → True → va_S A s.heap H locs → lv_has ls 2 [(0, .ref h_d), (1, .int x1)] → wp_DeskT_begin post v_wo v_rs v_cs f_cw f_cl f_cp f_ce x1 → W p l e ({ frames := 6, cells := 1, slots := 6, locals := 90 } : Room) s m args below meth c H locs 0 0 Q (F0 m 0 ls []) := by
  obtain ⟨⟨hx, hb, hml, hown, hts⟩, hK, hN⟩ := id C0
  intro x1 H locs ls hP hD hS hl hw
  unfold wp_DeskT_begin at hw
  refine lv_iload_n hx hb dX7_begin_0 rfl (lv_at hl 1 rfl) ?_
  refine lv_iconst (v := 1) hx hb dX7_begin_1 (by decide) ?_
  refine lv_icmp_lt (tgt := 11) hx hb dX7_begin_2 (by decide) (fun c_1 => ?_) (fun c_1 => ?_)
  · have hw := hw.1 c_1
    exact tw_DeskT_begin_11 C0 hA hret   _ _ _ hP hD hS (lv_sub hl [] rfl) hw
  · have hw := hw.2 c_1
    refine lv_iload_n hx hb dX7_begin_5 rfl (lv_at hl 1 rfl) ?_
    refine lv_bipush (v := 40) hx hb dX7_begin_6 (by decide) ?_
    refine lv_icmp_le (tgt := 21) hx hb dX7_begin_8 (by decide) (fun c_2 => ?_) (fun c_2 => ?_)
    · have hw := hw.1 c_2
      exact hw.elim
    · have hw := hw.2 c_2
      exact tw_DeskT_begin_11 C0 hA hret   _ _ _ hP hD hS (lv_sub hl [] rfl) hw
set_option maxHeartbeats 4000000 in
set_option maxRecDepth 100000 in
theorem ct_DeskT_begin (l : Launch) (hfl : l.flags = pinnedFlags ++ [noTraceFlag]) (D : va_G) (cT : Nat → ClassId) (h_d h_c h_cw h_cl h_cp h_ce h_k h_q h_p h_s : Nat) (sz : Nat) (v_wo : Int32) (v_rs : Int32) (v_cs : Int32) (f_cw : Nat → Int32) (f_cl : Nat → Int32) (f_cp : Nat → Int32) (f_ce : Nat → Int32) (x1 : Int32) (post : Int32 → Prop) (hw : wp_DeskT_begin post v_wo v_rs v_cs f_cw f_cl f_cp f_ce x1) : MetFree l yX7_begin (headSpec wX7_begin ({ frames := 6, cells := 1, slots := 6, locals := 90 } : Room)) (va_Pc [.ref h_d, .int x1] (prx_ D cT [(h_d, .inr (7, [.ref h_c, .ref h_k, .ref h_q, .ref h_p, .ref h_s, .int v_wo, .int v_rs])), (h_c, .inr (0, [.ref h_cw, .ref h_cl, .ref h_cp, .ref h_ce, .int v_cs])), (h_cw, .inl (cT 0, 40, .inl f_cw)), (h_cl, .inl (cT 0, 40, .inl f_cl)), (h_cp, .inl (cT 0, 1640, .inl f_cp)), (h_ce, .inl (cT 2, 40, .inl f_ce))] sz)) (fun _ _ _ _ _ => True) (qt_ post) := by
  refine mt_W (cc := cX7_begin) (maxL := 2) (ret := none) (by decide) rfl ?_
  intro p e s m args below meth c s₁ B hml hv
  obtain ⟨rfl, ⟨hsz, hP, hK, hN⟩, hex⟩ := hv
  have hx := B.exec
  have hb := B.bytes
  have hr := B.returns
  have hts : ∀ w ∈ WG, w.before _ s = true := fun w h => atoms_spec (ws := wX7_begin) B.pre w (List.mem_cons_of_mem _ h)
  have hown : s.vm.findClass RX7 = some m.cls := findClass_of_methodNamed B.named
  have hlocks := B.notSynchronized
  subst hsz
  have hA : ∀ q : Nat, s.heap.size ≤ q → (fun q => s.heap.size ≤ q) q := fun q h => h
  have hS : va_S (fun q => s.heap.size ≤ q) s.heap s.heap [] := va_S.rf
  have hl := lv_entry ([.ref h_d, .int x1]) (n := 2) (Nat.le_of_ble_eq_true rfl)
  rw [lg_entry_eq]
  generalize (lg_sl ([.ref h_d, .int x1]) ++ List.replicate (2 - (lg_sl ([.ref h_d, .int x1])).length) Slot.unset).toArray = ls at hl ⊢
  have hcov := B.noHandlers (atoms_spec (ws := wX7_begin) B.pre _ List.mem_cons_self)
  exact tw_DeskT_begin (Q := mq_ below post s) ⟨⟨hx, hb, hml, hown, hts⟩, hK, hN⟩ hA (fun r H locs pc ls hp _ _ hS hd hz => th_throw hfl hx hb hml hown hts hlocks hcov hex hS hd hz hp) _ _ _ _ hP trivial hS hl hw
end
