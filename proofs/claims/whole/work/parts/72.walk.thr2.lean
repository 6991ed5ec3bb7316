def wp_DeskT_part_22 (post : Int32 → Prop) (v_wo : Int32) (v_rs : Int32) (v_cs : Int32) (f_cw : Nat → Int32) (f_cl : Nat → Int32) (f_cp : Nat → Int32) (f_ce : Nat → Int32)   : Prop := post 1
def wp_DeskT_part_42 (post : Int32 → Prop) (v_wo : Int32) (v_rs : Int32) (v_cs : Int32) (f_cw : Nat → Int32) (f_cl : Nat → Int32) (f_cp : Nat → Int32) (f_ce : Nat → Int32)   : Prop := post 1
def wp_DeskT_part (post : Int32 → Prop) (v_wo : Int32) (v_rs : Int32) (v_cs : Int32) (f_cw : Nat → Int32) (f_cl : Nat → Int32) (f_cp : Nat → Int32) (f_ce : Nat → Int32)  (x1 : Int32) (x2 : Int32) (x3 : Int32) : Prop := wp_ChainP_hasState (fun r_1 => ((r_1 = 0 → (wp_DeskT_part_22 post v_wo v_rs v_cs f_cw f_cl f_cp f_ce)) ∧ (¬ r_1 = 0 → (wp_ChainP_hasTarget (fun r_3 => ((r_3 = 0 → (wp_DeskT_part_22 post v_wo v_rs v_cs f_cw f_cl f_cp f_ce)) ∧ (¬ r_3 = 0 → (((x3 < 0 → (wp_DeskT_part_42 post v_wo v_rs v_cs f_cw f_cl f_cp f_ce)) ∧ (¬ x3 < 0 → (((x3 ≤ 999999999 → (wp_ChainP_leftWith (fun r_7 => ((0 ≤ r_7 → (False)) ∧ (¬ 0 ≤ r_7 → (post 2)))) v_cs f_cw f_cl f_cp f_ce x1 x2 x3)) ∧ (¬ x3 ≤ 999999999 → (wp_DeskT_part_42 post v_wo v_rs v_cs f_cw f_cl f_cp f_ce)))))))))) v_cs f_cw f_cl f_cp f_ce x2)))) v_cs f_cw f_cl f_cp f_ce x1
section
variable {p : Program} {l : Launch} {e : Env} {s : State} {m : MethodId} {args : Array Value} {below : List Frame} {meth : Method} {c : Code} {Q : State → Prop} {A : Nat → Prop} {D : va_G} {cT : Nat → ClassId}
set_option maxHeartbeats 4000000 in
set_option maxRecDepth 100000 in
theorem tw_DeskT_part_22 {post : Int32 → Prop} {h_d h_c h_cw h_cl h_cp h_ce h_k h_q h_p h_s : Nat} {v_wo : Int32} {v_rs : Int32} {v_cs : Int32} {f_cw : Nat → Int32} {f_cl : Nat → Int32} {f_cp : Nat → Int32} {f_ce : Nat → Int32}  (C0 : cx RX7 cX7_part 5 D cT p s m c args) (hA : ∀ q, s.heap.size ≤ q → A q) (hret : ∀ (r : Int32) (H : Heap) (locs : List Loc) (pc : Nat) (ls : Array Slot), post r → va_P D vwCl [(h_d, .inr (7, [.ref h_c, .ref h_k, .ref h_q, .ref h_p, .ref h_s, .int v_wo, .int v_rs])), (h_c, .inr (0, [.ref h_cw, .ref h_cl, .ref h_cp, .ref h_ce, .int v_cs])), (h_cw, .inl (cT 0, 40, .inl f_cw)), (h_cl, .inl (cT 0, 40, .inl f_cl)), (h_cp, .inl (cT 0, 1640, .inl f_cp)), (h_ce, .inl (cT 2, 40, .inl f_ce))] H → True → va_S A s.heap H locs → th_site cX7_part pc r → ls.size = 5 → W p l e ({ frames := 6, cells := 1, slots := 6, locals := 90 } : Room) s m args below meth c H locs 0 0 Q (F0 m pc ls []))  : ∀  (H : Heap) (locs : List Loc) (ls : Array Slot), va_P D vwCl [(h_d, .inr (7, [.ref h_c, .ref h_k, .ref h_q, .ref h_p, .ref h_s, .int v_wo, .int v_rs])), (h_c, .inr (0, [.ref h_cw, .ref h_cl, .ref h_cp, .ref h_ce, .int v_cs])), (h_cw, .inl (cT 0, 40, .inl f_cw)), (h_cl, .inl (cT 0, 40, .inl f_cl)), (h_cp, .inl (cT 0, 1640, .inl f_cp)), (h_ce, .inl (cT 2, 40, .inl f_ce))] H → True → va_S A s.heap H locs → lv_has ls 5 [] → wp_DeskT_part_22 post v_wo v_rs v_cs f_cw f_cl f_cp f_ce  → W p l e ({ frames := 6, cells := 1, slots := 6, locals := 90 } : Room) s m args below meth c H locs 0 0 Q (F0 m 22 ls []) := by
  obtain ⟨⟨hx, hb, hml, hown, hts⟩, hK, hN⟩ := id C0
  intro H locs ls hP hD hS hl hw
  unfold wp_DeskT_part_22 at hw
  exact hret 1 _ _ _ _ hw hP hD hS ts_X7_part_22 hl.1
set_option maxHeartbeats 4000000 in
set_option maxRecDepth 100000 in
theorem tw_DeskT_part_42 {post : Int32 → Prop} {h_d h_c h_cw h_cl h_cp h_ce h_k h_q h_p h_s : Nat} {v_wo : Int32} {v_rs : Int32} {v_cs : Int32} {f_cw : Nat → Int32} {f_cl : Nat → Int32} {f_cp : Nat → Int32} {f_ce : Nat → Int32}  (C0 : cx RX7 cX7_part 5 D cT p s m c args) (hA : ∀ q, s.heap.size ≤ q → A q) (hret : ∀ (r : Int32) (H : Heap) (locs : List Loc) (pc : Nat) (ls : Array Slot), post r → va_P D vwCl [(h_d, .inr (7, [.ref h_c, .ref h_k, .ref h_q, .ref h_p, .ref h_s, .int v_wo, .int v_rs])), (h_c, .inr (0, [.ref h_cw, .ref h_cl, .ref h_cp, .ref h_ce, .int v_cs])), (h_cw, .inl (cT 0, 40, .inl f_cw)), (h_cl, .inl (cT 0, 40, .inl f_cl)), (h_cp, .inl (cT 0, 1640, .inl f_cp)), (h_ce, .inl (cT 2, 40, .inl f_ce))] H → True → va_S A s.heap H locs → th_site cX7_part pc r → ls.size = 5 → W p l e ({ frames := 6, cells := 1, slots := 6, locals := 90 } : Room) s m args below meth c H locs 0 0 Q (F0 m pc ls []))  : ∀  (H : Heap) (locs : List Loc) (ls : Array Slot), va_P D vwCl [(h_d, .inr (7, [.ref h_c, .ref h_k, .ref h_q, .ref h_p, .ref h_s, .int v_wo, .int v_rs])), (h_c, .inr (0, [.ref h_cw, .ref h_cl, .ref h_cp, .ref h_ce, .int v_cs])), (h_cw, .inl (cT 0, 40, .inl f_cw)), (h_cl, .inl (cT 0, 40, .inl f_cl)), (h_cp, .inl (cT 0, 1640, .inl f_cp)), (h_ce, .inl (cT 2, 40, .inl f_ce))] H → True → va_S A s.heap H locs → lv_has ls 5 [] → wp_DeskT_part_42 post v_wo v_rs v_cs f_cw f_cl f_cp f_ce  → W p l e ({ frames := 6, cells := 1, slots := 6, locals := 90 } : Room) s m args below meth c H locs 0 0 Q (F0 m 42 ls []) := by
  obtain ⟨⟨hx, hb, hml, hown, hts⟩, hK, hN⟩ := id C0
  intro H locs ls hP hD hS hl hw
  unfold wp_DeskT_part_42 at hw
  exact hret 1 _ _ _ _ hw hP hD hS ts_X7_part_42 hl.1
set_option maxHeartbeats 4000000 in
set_option maxRecDepth 100000 in
theorem tw_DeskT_part {post : Int32 → Prop} {h_d h_c h_cw h_cl h_cp h_ce h_k h_q h_p h_s : Nat} {v_wo : Int32} {v_rs : Int32} {v_cs : Int32} {f_cw : Nat → Int32} {f_cl : Nat → Int32} {f_cp : Nat → Int32} {f_ce : Nat → Int32}  (C0 : cx RX7 cX7_part 5 D cT p s m c args) (hA : ∀ q, s.heap.size ≤ q → A q) (hret : ∀ (r : Int32) (H : Heap) (locs : List Loc) (pc : Nat) (ls : Array Slot), post r → va_P D vwCl [(h_d, .inr (7, [.ref h_c, .ref h_k, .ref h_q, .ref h_p, .ref h_s, .int v_wo, .int v_rs])), (h_c, .inr (0, [.ref h_cw, .ref h_cl, .ref h_cp, .ref h_ce, .int v_cs])), (h_cw, .inl (cT 0, 40, .inl f_cw)), (h_cl, .inl (cT 0, 40, .inl f_cl)), (h_cp, .inl (cT 0, 1640, .inl f_cp)), (h_ce, .inl (cT 2, 40, .inl f_ce))] H → True → va_S A s.heap H locs → th_site cX7_part pc r → ls.size = 5 → W p l e ({ frames := 6, cells := 1, slots := 6, locals := 90 } : Room) s m args below meth c H locs 0 0 Q (F0 m pc ls []))  : ∀ (x1 : Int32) (x2 : Int32) (x3 : Int32) (H : Heap) (locs : List Loc) (ls : Array Slot), va_P D vwCl [(h_d, .inr (7, [.ref h_c, .ref h_k, .ref h_q, .ref h_p, .ref h_s, .int v_wo, .int v_rs])), (h_c, .inr (0, [.ref h_cw, .ref h_cl, .ref h_cp, .ref h_ce, .int v_cs])), (h_cw, .inl (cT 0, 40, .inl f_cw)), (h_cl, .inl (cT 0, 40, .inl f_cl)), (h_cp, .inl (cT 0, 1640, .inl f_cp)), (h_ce, .inl (cT 2, 40, .inl f_ce))] H → True → va_S A s.heap H locs → lv_has ls 5 [(0, .ref h_d), (1, .int x1), (2, .int x2), (3, .int x3)] → wp_DeskT_part post v_wo v_rs v_cs f_cw f_cl f_cp f_ce x1 x2 x3 → W p l e ({ frames := 6, cells := 1, slots := 6, locals := 90 } : Room) s m args below meth c H locs 0 0 Q (F0 m 0 ls []) := by
  obtain ⟨⟨hx, hb, hml, hown, hts⟩, hK, hN⟩ := id C0
  intro x1 x2 x3 H locs ls hP hD hS hl hw
  unfold wp_DeskT_part at hw
  refine lv_aload_n hx hb dX7_part_0 rfl (lv_at hl 0 rfl) ?_
  refine va_get (D := D) (ci := 7) (v := .ref h_c) (C := RX7) (T := TX7) (N := 7) hx hb hts inX7 hown hK hP 0 rfl rfl 0 (by decide) (hts _ q_165) (fun _ h9 => h9) rfl dX7_part_1 ?_
  refine lv_iload_n hx hb dX7_part_4 rfl (lv_at hl 1 rfl) ?_
  have hPc := hP.sub (ws' := [(h_c, .inr (0, [.ref h_cw, .ref h_cl, .ref h_cp, .ref h_ce, .int v_cs])), (h_cw, .inl (cT 0, 40, .inl f_cw)), (h_cl, .inl (cT 0, 40, .inl f_cl)), (h_cp, .inl (cT 0, 1640, .inl f_cp)), (h_ce, .inl (cT 2, 40, .inl f_ce))]) [1, 2, 3, 4, 5] rfl
  refine va_calli (va_runV (As := [.int x1]) (rest := []) ⟨hx, hb, hml, hown, hts⟩ (cp_ChainP_hasState l D cT h_c h_cw h_cl h_cp h_ce H.size v_cs f_cw f_cl f_cp f_ce x1 _ hw) (gv_ 1 q_307 q_2 q_304 q_305 q_306 (by decide +kernel) ⟨Nat.le_of_ble_eq_true rfl, Nat.le_of_ble_eq_true rfl⟩ hts) ⟨prp_blind, va_recv hK hPc (ci := 0) (q0 := 0) rfl rfl, fun U hU hW => ⟨rfl, prp_mk hU hW hPc hK hN⟩⟩ rfl rfl hl.1 rfl (lv_room (Nat.le_of_ble_eq_true rfl)) dX7_part_5 ⟨(Nat.zero_le _), (Nat.zero_le _)⟩) hS (fun q h1 h2 => absurd h2 (Nat.not_le.mpr h1)) (fun q h => hA q (Nat.le_trans hS.1 h)) (fun r_1 u9 t H9 locs ht hvm hw hB hz1 hk1 hS => ?_)
  have hP := pw_keep hP (fun q h1 => hk1 q h1 (Nat.not_le.mpr h1))
  clear hPc hk1 hz1 hvm ht hB u9
  obtain ⟨H, rfl⟩ : ∃ z, z = H9 := ⟨_, rfl⟩
  try dsimp only at hw
  refine lv_if_eq (tgt := 22) hx hb dX7_part_8 (by decide) (fun c_2 => ?_) (fun c_2 => ?_)
  · have hw := hw.1 c_2
    exact tw_DeskT_part_22 C0 hA hret   _ _ _ hP hD hS (lv_sub hl [] rfl) hw
  · have hw := hw.2 c_2
    refine lv_aload_n hx hb dX7_part_11 rfl (lv_at hl 0 rfl) ?_
    refine va_get (D := D) (ci := 7) (v := .ref h_c) (C := RX7) (T := TX7) (N := 7) hx hb hts inX7 hown hK hP 0 rfl rfl 0 (by decide) (hts _ q_165) (fun _ h9 => h9) rfl dX7_part_12 ?_
    refine lv_iload_n hx hb dX7_part_15 rfl (lv_at hl 2 rfl) ?_
    have hPc := hP.sub (ws' := [(h_c, .inr (0, [.ref h_cw, .ref h_cl, .ref h_cp, .ref h_ce, .int v_cs])), (h_cw, .inl (cT 0, 40, .inl f_cw)), (h_cl, .inl (cT 0, 40, .inl f_cl)), (h_cp, .inl (cT 0, 1640, .inl f_cp)), (h_ce, .inl (cT 2, 40, .inl f_ce))]) [1, 2, 3, 4, 5] rfl
    refine va_calli (va_runV (As := [.int x2]) (rest := []) ⟨hx, hb, hml, hown, hts⟩ (cp_ChainP_hasTarget l D cT h_c h_cw h_cl h_cp h_ce H.size v_cs f_cw f_cl f_cp f_ce x2 _ hw) (gv_ 1 q_545 q_2 q_542 q_543 q_544 (by decide +kernel) ⟨Nat.le_of_ble_eq_true rfl, Nat.le_of_ble_eq_true rfl⟩ hts) ⟨prp_blind, va_recv hK hPc (ci := 0) (q0 := 0) rfl rfl, fun U hU hW => ⟨rfl, prp_mk hU hW hPc hK hN⟩⟩ rfl rfl hl.1 rfl (lv_room (Nat.le_of_ble_eq_true rfl)) dX7_part_16 ⟨(Nat.zero_le _), (Nat.zero_le _)⟩) hS (fun q h1 h2 => absurd h2 (Nat.not_le.mpr h1)) (fun q h => hA q (Nat.le_trans hS.1 h)) (fun r_3 u9 t H9 locs ht hvm hw hB hz1 hk1 hS => ?_)
    have hP := pw_keep hP (fun q h1 => hk1 q h1 (Nat.not_le.mpr h1))
    clear hPc hk1 hz1 hvm ht hB u9
    obtain ⟨H, rfl⟩ : ∃ z, z = H9 := ⟨_, rfl⟩
    try dsimp only at hw
    refine lv_if_ne (tgt := 32) hx hb dX7_part_19 (by decide) (fun c_4 => ?_) (fun c_4 => ?_)
    · have hw := hw.2 c_4
      refine lv_iload_n hx hb dX7_part_32 rfl (lv_at hl 3 rfl) ?_
      refine lv_if_lt (tgt := 42) hx hb dX7_part_33 (by decide) (fun c_5 => ?_) (fun c_5 => ?_)
      · have hw := hw.1 c_5
        exact tw_DeskT_part_42 C0 hA hret   _ _ _ hP hD hS (lv_sub hl [] rfl) hw
      · have hw := hw.2 c_5
        refine lv_iload_n hx hb dX7_part_36 rfl (lv_at hl 3 rfl) ?_
        refine lv_ldc (v := 999999999) hx hb hown (hts _ q_531) dX7_part_37 ?_
        refine lv_icmp_le (tgt := 52) hx hb dX7_part_39 (by decide) (fun c_6 => ?_) (fun c_6 => ?_)
        · have hw := hw.1 c_6
          refine lv_aload_n hx hb dX7_part_52 rfl (lv_at hl 0 rfl) ?_
          refine va_get (D := D) (ci := 7) (v := .ref h_c) (C := RX7) (T := TX7) (N := 7) hx hb hts inX7 hown hK hP 0 rfl rfl 0 (by decide) (hts _ q_165) (fun _ h9 => h9) rfl dX7_part_53 ?_
          refine lv_iload_n hx hb dX7_part_56 rfl (lv_at hl 1 rfl) ?_
          refine lv_iload_n hx hb dX7_part_57 rfl (lv_at hl 2 rfl) ?_
          refine lv_iload_n hx hb dX7_part_58 rfl (lv_at hl 3 rfl) ?_
          have hPc := hP.sub (ws' := [(h_c, .inr (0, [.ref h_cw, .ref h_cl, .ref h_cp, .ref h_ce, .int v_cs])), (h_cw, .inl (cT 0, 40, .inl f_cw)), (h_cl, .inl (cT 0, 40, .inl f_cl)), (h_cp, .inl (cT 0, 1640, .inl f_cp)), (h_ce, .inl (cT 2, 40, .inl f_ce))]) [1, 2, 3, 4, 5] rfl
          refine va_calli (va_runV (As := [.int x1, .int x2, .int x3]) (rest := []) ⟨hx, hb, hml, hown, hts⟩ (cp_ChainP_leftWith l D cT h_c h_cw h_cl h_cp h_ce H.size v_cs f_cw f_cl f_cp f_ce x1 x2 x3 _ hw) (gv_ 3 q_551 q_2 q_548 q_549 q_550 (by decide +kernel) ⟨Nat.le_of_ble_eq_true rfl, Nat.le_of_ble_eq_true rfl⟩ hts) ⟨prp_blind, va_recv hK hPc (ci := 0) (q0 := 0) rfl rfl, fun U hU hW => ⟨rfl, prp_mk hU hW hPc hK hN⟩⟩ rfl rfl hl.1 rfl (lv_room (Nat.le_of_ble_eq_true rfl)) dX7_part_59 ⟨(Nat.zero_le _), (Nat.zero_le _)⟩) hS (fun q h1 h2 => absurd h2 (Nat.not_le.mpr h1)) (fun q h => hA q (Nat.le_trans hS.1 h)) (fun r_7 u9 t H9 locs ht hvm hw hB hz1 hk1 hS => ?_)
          have hP := pw_keep hP (fun q h1 => hk1 q h1 (Nat.not_le.mpr h1))
          clear hPc hk1 hz1 hvm ht hB u9
          obtain ⟨H, rfl⟩ : ∃ z, z = H9 := ⟨_, rfl⟩
          try dsimp only at hw
          refine lv_istore (lv' := [(4, .int r_7), (0, .ref h_d), (1, .int x1), (2, .int x2), (3, .int x3)]) hx hb dX7_part_62 hl (by decide) rfl (fun ls hl => ?_)
          refine lv_iload hx hb dX7_part_64 (lv_at hl 0 rfl) ?_
          refine lv_if_ge (tgt := 79) hx hb dX7_part_66 (by decide) (fun c_8 => ?_) (fun c_8 => ?_)
          · have hw := hw.1 c_8
            exact hw.elim
          · have hw := hw.2 c_8
            exact hret 2 _ _ _ _ hw hP hD hS ts_X7_part_69 hl.1
        · have hw := hw.2 c_6
          exact tw_DeskT_part_42 C0 hA hret   _ _ _ hP hD hS (lv_sub hl [] rfl) hw
    · have hw := hw.1 c_4
      exact tw_DeskT_part_22 C0 hA hret   _ _ _ hP hD hS (lv_sub hl [] rfl) hw
set_option maxHeartbeats 4000000 in
set_option maxRecDepth 100000 in
theorem ct_DeskT_part (l : Launch) (hfl : l.flags = pinnedFlags ++ [noTraceFlag]) (D : va_G) (cT : Nat → ClassId) (h_d h_c h_cw h_cl h_cp h_ce h_k h_q h_p h_s : Nat) (sz : Nat) (v_wo : Int32) (v_rs : Int32) (v_cs : Int32) (f_cw : Nat → Int32) (f_cl : Nat → Int32) (f_cp : Nat → Int32) (f_ce : Nat → Int32) (x1 : Int32) (x2 : Int32) (x3 : Int32) (post : Int32 → Prop) (hw : wp_DeskT_part post v_wo v_rs v_cs f_cw f_cl f_cp f_ce x1 x2 x3) : MetFree l yX7_part (headSpec wX7_part ({ frames := 6, cells := 1, slots := 6, locals := 90 } : Room)) (va_Pc [.ref h_d, .int x1, .int x2, .int x3] (prx_ D cT [(h_d, .inr (7, [.ref h_c, .ref h_k, .ref h_q, .ref h_p, .ref h_s, .int v_wo, .int v_rs])), (h_c, .inr (0, [.ref h_cw, .ref h_cl, .ref h_cp, .ref h_ce, .int v_cs])), (h_cw, .inl (cT 0, 40, .inl f_cw)), (h_cl, .inl (cT 0, 40, .inl f_cl)), (h_cp, .inl (cT 0, 1640, .inl f_cp)), (h_ce, .inl (cT 2, 40, .inl f_ce))] sz)) (fun _ _ _ _ _ => True) (qt_ post) := by
  refine mt_W (cc := cX7_part) (maxL := 5) (ret := (some .int)) (by decide) rfl ?_
  intro p e s m args below meth c s₁ B hml hv
  obtain ⟨rfl, ⟨hsz, hP, hK, hN⟩, hex⟩ := hv
  have hx := B.exec
  have hb := B.bytes
  have hr := B.returns
  have hts : ∀ w ∈ WG, w.before _ s = true := fun w h => atoms_spec (ws := wX7_part) B.pre w (List.mem_cons_of_mem _ h)
  have hown : s.vm.findClass RX7 = some m.cls := findClass_of_methodNamed B.named
  have hlocks := B.notSynchronized
  subst hsz
  have hA : ∀ q : Nat, s.heap.size ≤ q → (fun q => s.heap.size ≤ q) q := fun q h => h
  have hS : va_S (fun q => s.heap.size ≤ q) s.heap s.heap [] := va_S.rf
  have hl := lv_entry ([.ref h_d, .int x1, .int x2, .int x3]) (n := 5) (Nat.le_of_ble_eq_true rfl)
  rw [lg_entry_eq]
  generalize (lg_sl ([.ref h_d, .int x1, .int x2, .int x3]) ++ List.replicate (5 - (lg_sl ([.ref h_d, .int x1, .int x2, .int x3])).length) Slot.unset).toArray = ls at hl ⊢
  have hcov := B.noHandlers (atoms_spec (ws := wX7_part) B.pre _ List.mem_cons_self)
  exact tw_DeskT_part (Q := mq_ below post s) ⟨⟨hx, hb, hml, hown, hts⟩, hK, hN⟩ hA (fun r H locs pc ls hp _ _ hS hd hz => th_throw hfl hx hb hml hown hts hlocks hcov hex hS hd hz hp) _ _ _ _ _ _ hP trivial hS hl hw
end
