def wp_DeskT_whole_32 (post : Int32 → Prop) (v_wo : Int32) (v_rs : Int32) (v_cs : Int32) (f_cw : Nat → Int32) (f_cl : Nat → Int32) (f_cp : Nat → Int32) (f_ce : Nat → Int32)   : Prop := post 1
def wp_DeskT_whole (post : Int32 → Prop) (v_wo : Int32) (v_rs : Int32) (v_cs : Int32) (f_cw : Nat → Int32) (f_cl : Nat → Int32) (f_cp : Nat → Int32) (f_ce : Nat → Int32)  (x1 : Int32) (x2 : Int32) : Prop := wp_ChainP_hasState (fun r_1 => ((r_1 = 0 → (post 1)) ∧ (¬ r_1 = 0 → (((x2 < 1 → (wp_DeskT_whole_32 post v_wo v_rs v_cs f_cw f_cl f_cp f_ce)) ∧ (¬ x2 < 1 → (((x2 ≤ 999999999 → (False)) ∧ (¬ x2 ≤ 999999999 → (wp_DeskT_whole_32 post v_wo v_rs v_cs f_cw f_cl f_cp f_ce)))))))))) v_cs f_cw f_cl f_cp f_ce x1
section
variable {p : Program} {l : Launch} {e : Env} {s : State} {m : MethodId} {args : Array Value} {below : List Frame} {meth : Method} {c : Code} {Q : State → Prop} {A : Nat → Prop} {D : va_G} {cT : Nat → ClassId}
set_option maxHeartbeats 4000000 in
set_option maxRecDepth 100000 in
theorem tw_DeskT_whole_32 {post : Int32 → Prop} {h_d h_c h_cw h_cl h_cp h_ce h_k h_q h_p h_s : Nat} {v_wo : Int32} {v_rs : Int32} {v_cs : Int32} {f_cw : Nat → Int32} {f_cl : Nat → Int32} {f_cp : Nat → Int32} {f_ce : Nat → Int32}  (C0 : cx RX7 cX7_whole 3 D cT p s m c args) (hA : ∀ q, s.heap.size ≤ q → A q) (hret : ∀ (r : Int32) (H : Heap) (locs : List Loc) (pc : Nat) (ls : Array Slot), post r → va_P D vwCl [(h_d, .inr (7, [.ref h_c, .ref h_k, .ref h_q, .ref h_p, .ref h_s, .int v_wo, .int v_rs])), (h_c, .inr (0, [.ref h_cw, .ref h_cl, .ref h_cp, .ref h_ce, .int v_cs])), (h_cw, .inl (cT 0, 40, .inl f_cw)), (h_cl, .inl (cT 0, 40, .inl f_cl)), (h_cp, .inl (cT 0, 1640, .inl f_cp)), (h_ce, .inl (cT 2, 40, .inl f_ce))] H → True → va_S A s.heap H locs → th_site cX7_whole pc r → ls.size = 3 → W p l e ({ frames := 6, cells := 1, slots := 6, locals := 90 } : Room) s m args below meth c H locs 0 0 Q (F0 m pc ls []))  : ∀  (H : Heap) (locs : List Loc) (ls : Array Slot), va_P D vwCl [(h_d, .inr (7, [.ref h_c, .ref h_k, .ref h_q, .ref h_p, .ref h_s, .int v_wo, .int v_rs])), (h_c, .inr (0, [.ref h_cw, .ref h_cl, .ref h_cp, .ref h_ce, .int v_cs])), (h_cw, .inl (cT 0, 40, .inl f_cw)), (h_cl, .inl (cT 0, 40, .inl f_cl)), (h_cp, .inl (cT 0, 1640, .inl f_cp)), (h_ce, .inl (cT 2, 40, .inl f_ce))] H → True → va_S A s.heap H locs → lv_has ls 3 [] → wp_DeskT_whole_32 post v_wo v_rs v_cs f_cw f_cl f_cp f_ce  → W p l e ({ frames := 6, cells := 1, slots := 6, locals := 90 } : Room) s m args below meth c H locs 0 0 Q (F0 m 32 ls []) := by
  obtain ⟨⟨hx, hb, hml, hown, hts⟩, hK, hN⟩ := id C0
  intro H locs ls hP hD hS hl hw
  unfold wp_DeskT_whole_32 at hw
  exact hret 1 _ _ _ _ hw hP hD hS ts_X7_whole_32 hl.1
set_option maxHeartbeats 4000000 in
set_option maxRecDepth 100000 in
theorem tw_DeskT_whole {post : Int32 → Prop} {h_d h_c h_cw h_cl h_cp h_ce h_k h_q h_p h_s : Nat} {v_wo : Int32} {v_rs : Int32} {v_cs : Int32} {f_cw : Nat → Int32} {f_cl : Nat → Int32} {f_cp : Nat → Int32} {f_ce : Nat → Int32}  (C0 : cx RX7 cX7_whole 3 D cT p s m c args) (hA : ∀ q, s.heap.size ≤ q → A q) (hret : ∀ (r : Int32) (H : Heap) (locs : List Loc) (pc : Nat) (ls : Array Slot), post r → va_P D vwCl [(h_d, .inr (7, [.ref h_c, .ref h_k, .ref h_q, .ref h_p, .ref h_s, .int v_wo, .int v_rs])), (h_c, .inr (0, [.ref h_cw, .ref h_cl, .ref h_cp, .ref h_ce, .int v_cs])), (h_cw, .inl (cT 0, 40, .inl f_cw)), (h_cl, .inl (cT 0, 40, .inl f_cl)), (h_cp, .inl (cT 0, 1640, .inl f_cp)), (h_ce, .inl (cT 2, 40, .inl f_ce))] H → True → va_S A s.heap H locs → th_site cX7_whole pc r → ls.size = 3 → W p l e ({ frames := 6, cells := 1, slots := 6, locals := 90 } : Room) s m args below meth c H locs 0 0 Q (F0 m pc ls []))  : ∀ (x1 : Int32) (x2 : Int32) (H : Heap) (locs : List Loc) (ls : Array Slot), va_P D vwCl [(h_d, .inr (7, [.ref h_c, .ref h_k, .ref h_q, .ref h_p, .ref h_s, .int v_wo, .int v_rs])), (h_c, .inr (0, [.ref h_cw, .ref h_cl, .ref h_cp, .ref h_ce, .int v_cs])), (h_cw, .inl (cT 0, 40, .inl f_cw)), (h_cl, .inl (cT 0, 40, .inl f_cl)), (h_cp, .inl (cT 0, 1640, .inl f_cp)), (h_ce, .inl (cT 2, 40, .inl f_ce))] H → True → va_S A s.heap H locs → lv_has ls 3 [(0, .ref h_d), (1, .int x1), (2, .int x2)] → wp_DeskT_whole post v_wo v_rs v_cs f_cw f_cl f_cp f_ce x1 x2 → W p l e ({ frames := 6, cells := 1, slots := 6, locals := 90 } : Room) s m args below meth c H locs 0 0 Q (F0 m 0 ls []) := by
  obtain ⟨⟨hx, hb, hml, hown, hts⟩, hK, hN⟩ := id C0
  intro x1 x2 H locs ls hP hD hS hl hw
  unfold wp_DeskT_whole at hw
  refine lv_aload_n hx hb dX7_whole_0 rfl (lv_at hl 0 rfl) ?_
  refine va_get (D := D) (ci := 7) (v := .ref h_c) (C := RX7) (T := TX7) (N := 7) hx hb hts inX7 hown hK hP 0 rfl rfl 0 (by decide) (hts _ q_165) (fun _ h9 => h9) rfl dX7_whole_1 ?_
  refine lv_iload_n hx hb dX7_whole_4 rfl (lv_at hl 1 rfl) ?_
  have hPc := hP.sub (ws' := [(h_c, .inr (0, [.ref h_cw, .ref h_cl, .ref h_cp, .ref h_ce, .int v_cs])), (h_cw, .inl (cT 0, 40, .inl f_cw)), (h_cl, .inl (cT 0, 40, .inl f_cl)), (h_cp, .inl (cT 0, 1640, .inl f_cp)), (h_ce, .inl (cT 2, 40, .inl f_ce))]) [1, 2, 3, 4, 5] rfl
  refine va_calli (va_runV (As := [.int x1]) (rest := []) ⟨hx, hb, hml, hown, hts⟩ (cp_ChainP_hasState l D cT h_c h_cw h_cl h_cp h_ce H.size v_cs f_cw f_cl f_cp f_ce x1 _ hw) (gv_ 1 q_307 q_2 q_304 q_305 q_306 (by decide +kernel) ⟨Nat.le_of_ble_eq_true rfl, Nat.le_of_ble_eq_true rfl⟩ hts) ⟨prp_blind, va_recv hK hPc (ci := 0) (q0 := 0) rfl rfl, fun U hU hW => ⟨rfl, prp_mk hU hW hPc hK hN⟩⟩ rfl rfl hl.1 rfl (lv_room (Nat.le_of_ble_eq_true rfl)) dX7_whole_5 ⟨(Nat.zero_le _), (Nat.zero_le _)⟩) hS (fun q h1 h2 => absurd h2 (Nat.not_le.mpr h1)) (fun q h => hA q (Nat.le_trans hS.1 h)) (fun r_1 u9 t H9 locs ht hvm hw hB hz1 hk1 hS => ?_)
  have hP := pw_keep hP (fun q h1 => hk1 q h1 (Nat.not_le.mpr h1))
  clear hPc hk1 hz1 hvm ht hB u9
  obtain ⟨H, rfl⟩ : ∃ z, z = H9 := ⟨_, rfl⟩
  try dsimp only at hw
  refine lv_if_ne (tgt := 21) hx hb dX7_whole_8 (by decide) (fun c_2 => ?_) (fun c_2 => ?_)
  · have hw := hw.2 c_2
    refine lv_iload_n hx hb dX7_whole_21 rfl (lv_at hl 2 rfl) ?_
    refine lv_iconst (v := 1) hx hb dX7_whole_22 (by decide) ?_
    refine lv_icmp_lt (tgt := 32) hx hb dX7_whole_23 (by decide) (fun c_3 => ?_) (fun c_3 => ?_)
    · have hw := hw.1 c_3
      exact tw_DeskT_whole_32 C0 hA hret   _ _ _ hP hD hS (lv_sub hl [] rfl) hw
    · have hw := hw.2 c_3
      refine lv_iload_n hx hb dX7_whole_26 rfl (lv_at hl 2 rfl) ?_
      refine lv_ldc (v := 999999999) hx hb hown (hts _ q_531) dX7_whole_27 ?_
      refine lv_icmp_le (tgt := 42) hx hb dX7_whole_29 (by decide) (fun c_4 => ?_) (fun c_4 => ?_)
      · have hw := hw.1 c_4
        exact hw.elim
      · have hw := hw.2 c_4
        exact tw_DeskT_whole_32 C0 hA hret   _ _ _ hP hD hS (lv_sub hl [] rfl) hw
  · have hw := hw.1 c_2
    exact hret 1 _ _ _ _ hw hP hD hS ts_X7_whole_11 hl.1
set_option maxHeartbeats 4000000 in
set_option maxRecDepth 100000 in
theorem ct_DeskT_whole (l : Launch) (hfl : l.flags = pinnedFlags ++ [noTraceFlag]) (D : va_G) (cT : Nat → ClassId) (h_d h_c h_cw h_cl h_cp h_ce h_k h_q h_p h_s : Nat) (sz : Nat) (v_wo : Int32) (v_rs : Int32) (v_cs : Int32) (f_cw : Nat → Int32) (f_cl : Nat → Int32) (f_cp : Nat → Int32) (f_ce : Nat → Int32) (x1 : Int32) (x2 : Int32) (post : Int32 → Prop) (hw : wp_DeskT_whole post v_wo v_rs v_cs f_cw f_cl f_cp f_ce x1 x2) : MetFree l yX7_whole (headSpec wX7_whole ({ frames := 6, cells := 1, slots := 6, locals := 90 } : Room)) (va_Pc [.ref h_d, .int x1, .int x2] (prx_ D cT [(h_d, .inr (7, [.ref h_c, .ref h_k, .ref h_q, .ref h_p, .ref h_s, .int v_wo, .int v_rs])), (h_c, .inr (0, [.ref h_cw, .ref h_cl, .ref h_cp, .ref h_ce, .int v_cs])), (h_cw, .inl (cT 0, 40, .inl f_cw)), (h_cl, .inl (cT 0, 40, .inl f_cl)), (h_cp, .inl (cT 0, 1640, .inl f_cp)), (h_ce, .inl (cT 2, 40, .inl f_ce))] sz)) (fun _ _ _ _ _ => True) (qt_ post) := by
  refine mt_W (cc := cX7_whole) (maxL := 3) (ret := none) (by decide) rfl ?_
  intro p e s m args below meth c s₁ B hml hv
  obtain ⟨rfl, ⟨hsz, hP, hK, hN⟩, hex⟩ := hv
  have hx := B.exec
  have hb := B.bytes
  have hr := B.returns
  have hts : ∀ w ∈ WG, w.before _ s = true := fun w h => atoms_spec (ws := wX7_whole) B.pre w (List.mem_cons_of_mem _ h)
  have hown : s.vm.findClass RX7 = some m.cls := findClass_of_methodNamed B.named
  have hlocks := B.notSynchronized
  subst hsz
  have hA : ∀ q : Nat, s.heap.size ≤ q → (fun q => s.heap.size ≤ q) q := fun q h => h
  have hS : va_S (fun q => s.heap.size ≤ q) s.heap s.heap [] := va_S.rf
  have hl := lv_entry ([.ref h_d, .int x1, .int x2]) (n := 3) (Nat.le_of_ble_eq_true rfl)
  rw [lg_entry_eq]
  generalize (lg_sl ([.ref h_d, .int x1, .int x2]) ++ List.replicate (3 - (lg_sl ([.ref h_d, .int x1, .int x2])).length) Slot.unset).toArray = ls at hl ⊢
  have hcov := B.noHandlers (atoms_spec (ws := wX7_whole) B.pre _ List.mem_cons_self)
  exact tw_DeskT_whole (Q := mq_ below post s) ⟨⟨hx, hb, hml, hown, hts⟩, hK, hN⟩ hA (fun r H locs pc ls hp _ _ hS hd hz => th_throw hfl hx hb hml hown hts hlocks hcov hex hS hd hz hp) _ _ _ _ _ hP trivial hS hl hw
end
