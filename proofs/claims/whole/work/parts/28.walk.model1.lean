def wp_Model_part_36 (post : Int32 → Int32 → Int32 → (Nat → Int32) → Prop) (v_n : Int32) (v_known : Int32) (v_many : Int32) (v_printed : Int32) (f_wholes : Nat → Int32)  (x1 : Int32) (x2 : Int32) (x3 : Int32) (y1 : Int32) (v_thrown : Int32) (v_has : Int32) (f_parts : Nat → Int32) : Prop := ((y1 ≤ 0 → ((vp_in x1 40 ∧ (wp_Model_together (fun r_5 => (vp_in ((41 * x1) + x2) 1640 ∧ (∀ x4_7 : Int64, x4_7 = ((((f_wholes x1.toNatClampNeg).toInt64) - r_5) + ((f_parts ((41 * x1) + x2).toNatClampNeg).toInt64)) - x3.toInt64 → ((0 ≤ (lg_cmp x4_7 0) → ((vp_in ((41 * x1) + x2) 1640 ∧ (post x4_7.toInt32 y1 0 (upd f_parts ((41 * x1) + x2).toNatClampNeg x3))))) ∧ (¬ 0 ≤ (lg_cmp x4_7 0) → (post 0 2 v_has f_parts)))))) y1 v_n v_has v_known v_many v_printed f_parts x1)))) ∧ (¬ y1 ≤ 0 → (post 0 y1 v_has f_parts)))
def wp_Model_part_31 (post : Int32 → Int32 → Int32 → (Nat → Int32) → Prop) (v_n : Int32) (v_known : Int32) (v_many : Int32) (v_printed : Int32) (f_wholes : Nat → Int32)  (x1 : Int32) (x2 : Int32) (x3 : Int32) (v_thrown : Int32) (v_has : Int32) (f_parts : Nat → Int32) : Prop := wp_Model_part_36 post v_n v_known v_many v_printed f_wholes x1 x2 x3 1 v_thrown v_has f_parts
def wp_Model_part (post : Int32 → Int32 → Int32 → (Nat → Int32) → Prop) (v_n : Int32) (v_known : Int32) (v_many : Int32) (v_printed : Int32) (f_wholes : Nat → Int32)  (x1 : Int32) (x2 : Int32) (x3 : Int32) (v_thrown : Int32) (v_has : Int32) (f_parts : Nat → Int32) : Prop := wp_Model_noState (fun r_1 => ((r_1 = 0 → (((x2 < 0 → (wp_Model_part_31 post v_n v_known v_many v_printed f_wholes x1 x2 x3 v_thrown v_has f_parts)) ∧ (¬ x2 < 0 → (((v_n < x2 → (wp_Model_part_31 post v_n v_known v_many v_printed f_wholes x1 x2 x3 v_thrown v_has f_parts)) ∧ (¬ v_n < x2 → (((x3 < 0 → (wp_Model_part_31 post v_n v_known v_many v_printed f_wholes x1 x2 x3 v_thrown v_has f_parts)) ∧ (¬ x3 < 0 → (((x3 ≤ 999999999 → (wp_Model_part_36 post v_n v_known v_many v_printed f_wholes x1 x2 x3 0 v_thrown v_has f_parts)) ∧ (¬ x3 ≤ 999999999 → (wp_Model_part_31 post v_n v_known v_many v_printed f_wholes x1 x2 x3 v_thrown v_has f_parts)))))))))))))) ∧ (¬ r_1 = 0 → (wp_Model_part_31 post v_n v_known v_many v_printed f_wholes x1 x2 x3 v_thrown v_has f_parts)))) v_thrown v_n v_has v_known v_many v_printed x1
section
variable {p : Program} {l : Launch} {e : Env} {s : State} {m : MethodId} {args : Array Value} {below : List Frame} {meth : Method} {c : Code} {Q : State → Prop} {A : Nat → Prop} {D : va_G} {cT : Nat → ClassId}
set_option maxHeartbeats 4000000 in
set_option maxRecDepth 100000 in
theorem tw_Model_part_36 {post : Int32 → Int32 → Int32 → (Nat → Int32) → Prop} {h_m h_mwholes h_mparts h_mknown31 h_mprimes h_mrests h_mrows h_mdigits h_mz h_mout h_mopen : Nat} {v_n : Int32} {v_known : Int32} {v_many : Int32} {v_printed : Int32} {f_wholes : Nat → Int32}  (C0 : cx RX8 cX8_part 6 D cT p s m c args) (hA : ∀ q, s.heap.size ≤ q → A q) (hret : ∀ (r : Int32) (v_thrown : Int32) (v_has : Int32) (f_parts : Nat → Int32) (H : Heap) (locs : List Loc) (pc : Nat) (ls : Array Slot), post r v_thrown v_has f_parts → va_P D vwCl [(h_m, .inr (8, [.int v_thrown, .int v_n, .ref h_mwholes, .ref h_mparts, .int v_has, .int v_known, .ref h_mknown31, .int v_many, .ref h_mprimes, .ref h_mrests, .ref h_mrows, .ref h_mdigits, .ref h_mz, .ref h_mout, .int v_printed, .ref h_mopen])), (h_mwholes, .inl (cT 0, 40, .inl f_wholes)), (h_mparts, .inl (cT 0, 1640, .inl f_parts))] H → va_D A [(h_m, .inr (8, [.int v_thrown, .int v_n, .ref h_mwholes, .ref h_mparts, .int v_has, .int v_known, .ref h_mknown31, .int v_many, .ref h_mprimes, .ref h_mrests, .ref h_mrows, .ref h_mdigits, .ref h_mz, .ref h_mout, .int v_printed, .ref h_mopen])), (h_mwholes, .inl (cT 0, 40, .inl f_wholes)), (h_mparts, .inl (cT 0, 1640, .inl f_parts))] → va_S A s.heap H locs → decode cX8_part pc = .ok (.ireturn, 1) → W p l e ({ frames := 1, cells := 0, slots := 0, locals := 24 } : Room) s m args below meth c H locs 0 0 Q (F0 m pc ls [.int r]))  : ∀ (x1 : Int32) (x2 : Int32) (x3 : Int32) (y1 : Int32) (v_thrown : Int32) (v_has : Int32) (f_parts : Nat → Int32) (H : Heap) (locs : List Loc) (ls : Array Slot), va_P D vwCl [(h_m, .inr (8, [.int v_thrown, .int v_n, .ref h_mwholes, .ref h_mparts, .int v_has, .int v_known, .ref h_mknown31, .int v_many, .ref h_mprimes, .ref h_mrests, .ref h_mrows, .ref h_mdigits, .ref h_mz, .ref h_mout, .int v_printed, .ref h_mopen])), (h_mwholes, .inl (cT 0, 40, .inl f_wholes)), (h_mparts, .inl (cT 0, 1640, .inl f_parts))] H → va_D A [(h_m, .inr (8, [.int v_thrown, .int v_n, .ref h_mwholes, .ref h_mparts, .int v_has, .int v_known, .ref h_mknown31, .int v_many, .ref h_mprimes, .ref h_mrests, .ref h_mrows, .ref h_mdigits, .ref h_mz, .ref h_mout, .int v_printed, .ref h_mopen])), (h_mwholes, .inl (cT 0, 40, .inl f_wholes)), (h_mparts, .inl (cT 0, 1640, .inl f_parts))] → va_S A s.heap H locs → lv_has ls 6 [(0, .ref h_m), (1, .int x1), (2, .int x2), (3, .int x3)] → wp_Model_part_36 post v_n v_known v_many v_printed f_wholes x1 x2 x3 y1 v_thrown v_has f_parts → W p l e ({ frames := 1, cells := 0, slots := 0, locals := 24 } : Room) s m args below meth c H locs 0 0 Q (F0 m 36 ls [.int y1, .ref h_m]) := by
  obtain ⟨⟨hx, hb, hml, hown, hts⟩, hK, hN⟩ := id C0
  intro x1 x2 x3 y1 v_thrown v_has f_parts H locs ls hP hD hS hl hw
  unfold wp_Model_part_36 at hw
  refine va_put (D := D) (ci := 8) (v := .int y1) (ty := .int) (C := RX8) (T := TX8) (N := 16) hx hb hts inX8 tyX8 tyX8_ok nmX8 hown hK hP hD hS 0 rfl rfl 0 (by decide) (hts _ q_583) (fun _ h9 => h9) rfl (by decide +kernel) rfl rfl (Nat.le_of_ble_eq_true rfl) dX8_part_36 (fun H locs hP hD hS => ?_)
  have hP : va_P D vwCl [(h_m, .inr (8, [.int y1, .int v_n, .ref h_mwholes, .ref h_mparts, .int v_has, .int v_known, .ref h_mknown31, .int v_many, .ref h_mprimes, .ref h_mrests, .ref h_mrows, .ref h_mdigits, .ref h_mz, .ref h_mout, .int v_printed, .ref h_mopen])), (h_mwholes, .inl (cT 0, 40, .inl f_wholes)), (h_mparts, .inl (cT 0, 1640, .inl f_parts))] H := hP
  have hD : va_D A [(h_m, .inr (8, [.int y1, .int v_n, .ref h_mwholes, .ref h_mparts, .int v_has, .int v_known, .ref h_mknown31, .int v_many, .ref h_mprimes, .ref h_mrests, .ref h_mrows, .ref h_mdigits, .ref h_mz, .ref h_mout, .int v_printed, .ref h_mopen])), (h_mwholes, .inl (cT 0, 40, .inl f_wholes)), (h_mparts, .inl (cT 0, 1640, .inl f_parts))] := hD
  refine lv_aload_n hx hb dX8_part_39 rfl (lv_at hl 0 rfl) ?_
  refine va_get (D := D) (ci := 8) (v := .int y1) (C := RX8) (T := TX8) (N := 16) hx hb hts inX8 hown hK hP 0 rfl rfl 0 (by decide) (hts _ q_583) (fun _ h9 => h9) rfl dX8_part_40 ?_
  refine lv_if_le (tgt := 48) hx hb dX8_part_43 (by decide) (fun c_3 => ?_) (fun c_3 => ?_)
  · have hw := hw.1 c_3
    refine lv_aload_n hx hb dX8_part_48 rfl (lv_at hl 0 rfl) ?_
    refine va_get (D := D) (ci := 8) (v := .ref h_mwholes) (C := RX8) (T := TX8) (N := 16) hx hb hts inX8 hown hK hP 0 rfl rfl 2 (by decide) (hts _ q_585) (fun _ h9 => h9) rfl dX8_part_49 ?_
    refine lv_iload_n hx hb dX8_part_52 rfl (lv_at hl 1 rfl) ?_
    obtain ⟨h_4, hw⟩ := hw
    refine va_iald hx hb hK hP 1 0 rfl rfl h_4 dX8_part_53 ?_
    refine lv_i2l hx hb dX8_part_54 rfl ?_
    refine lv_aload_n hx hb dX8_part_55 rfl (lv_at hl 0 rfl) ?_
    refine lv_iload_n hx hb dX8_part_56 rfl (lv_at hl 1 rfl) ?_
    have hPc := hP.sub (ws' := [(h_m, .inr (8, [.int y1, .int v_n, .ref h_mwholes, .ref h_mparts, .int v_has, .int v_known, .ref h_mknown31, .int v_many, .ref h_mprimes, .ref h_mrests, .ref h_mrows, .ref h_mdigits, .ref h_mz, .ref h_mout, .int v_printed, .ref h_mopen])), (h_mparts, .inl (cT 0, 1640, .inl f_parts))]) [0, 2] rfl
    have hDc := hD.sub (ws' := [(h_m, .inr (8, [.int y1, .int v_n, .ref h_mwholes, .ref h_mparts, .int v_has, .int v_known, .ref h_mknown31, .int v_many, .ref h_mprimes, .ref h_mrests, .ref h_mrows, .ref h_mdigits, .ref h_mz, .ref h_mout, .int v_printed, .ref h_mopen])), (h_mparts, .inl (cT 0, 1640, .inl f_parts))]) [0, 2] (by decide) rfl
    have hFc := va_free (wc := [(h_m, .inr (8, [.int y1, .int v_n, .ref h_mwholes, .ref h_mparts, .int v_has, .int v_known, .ref h_mknown31, .int v_many, .ref h_mprimes, .ref h_mrests, .ref h_mrows, .ref h_mdigits, .ref h_mz, .ref h_mout, .int v_printed, .ref h_mopen])), (h_mparts, .inl (cT 0, 1640, .inl f_parts))]) hD hS hA [0, 2] rfl
    refine va_calll (va_runV (As := [.int x1]) (rest := [.long ((f_wholes x1.toNatClampNeg).toInt64)]) ⟨hx, hb, hml, hown, hts⟩ (cn_Model_together l D cT h_m h_mparts h_mwholes h_mknown31 h_mprimes h_mrests h_mrows h_mdigits h_mz h_mout h_mopen H.size y1 v_n v_has v_known v_many v_printed f_parts x1 _ hw) (gv_ 1 q_656 q_9 q_653 q_655 qs_21 (by decide +kernel) ⟨Nat.le_of_ble_eq_true rfl, Nat.le_of_ble_eq_true rfl⟩ hts) ⟨pre_blind, va_recv hK hPc (ci := 8) (q0 := 0) rfl rfl, fun U hU hW => ⟨rfl, pre_mk hU hW hPc hK hDc hN⟩⟩ rfl rfl hl.1 rfl (lv_room (Nat.le_of_ble_eq_true rfl)) dX8_part_57 ⟨(Nat.zero_le _), (Nat.zero_le _)⟩) hS (fun q _ h => hFc q h) hFc (fun r_5 u9 t H locs ht hvm hw hB hz1 hk1 hS => ?_)
    obtain ⟨hP1, hD1⟩ := hB
    rw [ht] at hP1
    obtain ⟨hP, hD⟩ := va_join (wr := [(h_mwholes, .inl (cT 0, 40, .inl f_wholes))]) (w1 := [(h_m, .inr (8, [.int y1, .int v_n, .ref h_mwholes, .ref h_mparts, .int v_has, .int v_known, .ref h_mknown31, .int v_many, .ref h_mprimes, .ref h_mrests, .ref h_mrows, .ref h_mdigits, .ref h_mz, .ref h_mout, .int v_printed, .ref h_mopen])), (h_mparts, .inl (cT 0, 1640, .inl f_parts))]) hP hD [0, 2] [1] rfl rfl (by decide) (by decide) hk1 hFc hP1 hD1
    have hP := hP.sub (ws' := [(h_m, .inr (8, [.int y1, .int v_n, .ref h_mwholes, .ref h_mparts, .int v_has, .int v_known, .ref h_mknown31, .int v_many, .ref h_mprimes, .ref h_mrests, .ref h_mrows, .ref h_mdigits, .ref h_mz, .ref h_mout, .int v_printed, .ref h_mopen])), (h_mwholes, .inl (cT 0, 40, .inl f_wholes)), (h_mparts, .inl (cT 0, 1640, .inl f_parts))]) [1, 0, 2] rfl
    have hD := hD.sub (ws' := [(h_m, .inr (8, [.int y1, .int v_n, .ref h_mwholes, .ref h_mparts, .int v_has, .int v_known, .ref h_mknown31, .int v_many, .ref h_mprimes, .ref h_mrests, .ref h_mrows, .ref h_mdigits, .ref h_mz, .ref h_mout, .int v_printed, .ref h_mopen])), (h_mwholes, .inl (cT 0, 40, .inl f_wholes)), (h_mparts, .inl (cT 0, 1640, .inl f_parts))]) [1, 0, 2] (by decide) rfl
    clear hP1 hD1 hPc hDc hFc hk1 hz1 hvm ht
    try dsimp only at hw
    refine lv_lsub hx hb dX8_part_60 ?_
    refine lv_aload_n hx hb dX8_part_61 rfl (lv_at hl 0 rfl) ?_
    refine va_get (D := D) (ci := 8) (v := .ref h_mparts) (C := RX8) (T := TX8) (N := 16) hx hb hts inX8 hown hK hP 0 rfl rfl 3 (by decide) (hts _ q_586) (fun _ h9 => h9) rfl dX8_part_62 ?_
    refine lv_bipush (v := 41) hx hb dX8_part_65 (by decide) ?_
    refine lv_iload_n hx hb dX8_part_67 rfl (lv_at hl 1 rfl) ?_
    refine lv_imul hx hb dX8_part_68 ?_
    refine lv_iload_n hx hb dX8_part_69 rfl (lv_at hl 2 rfl) ?_
    refine lv_iadd hx hb dX8_part_70 ?_
    obtain ⟨h_6, hw⟩ := hw
    refine va_iald hx hb hK hP 2 0 rfl rfl h_6 dX8_part_71 ?_
    refine lv_i2l hx hb dX8_part_72 rfl ?_
    refine lv_ladd hx hb dX8_part_73 ?_
    refine lv_iload_n hx hb dX8_part_74 rfl (lv_at hl 3 rfl) ?_
    refine lv_i2l hx hb dX8_part_75 rfl ?_
    refine lv_lsub hx hb dX8_part_76 ?_
    refine lv_topl (fun x4_7 ex4_7 => ?_)
    have hw := hw x4_7 ex4_7
    refine lv_lstore (lv' := [(4, .long x4_7), (0, .ref h_m), (1, .int x1), (2, .int x2), (3, .int x3)]) hx hb dX8_part_77 hl (by decide) rfl (fun ls hl => ?_)
    refine lv_lload hx hb dX8_part_79 (lv_at hl 0 rfl) ?_
    refine lv_lconst (v := 0) hx hb dX8_part_81 (by decide) ?_
    refine W.lcmp hx hb dX8_part_82 ?_
    refine lv_if_ge (tgt := 93) hx hb dX8_part_83 (by decide) (fun c_8 => ?_) (fun c_8 => ?_)
    · have hw := hw.1 c_8
      refine lv_aload_n hx hb dX8_part_93 rfl (lv_at hl 1 rfl) ?_
      refine va_get (D := D) (ci := 8) (v := .ref h_mparts) (C := RX8) (T := TX8) (N := 16) hx hb hts inX8 hown hK hP 0 rfl rfl 3 (by decide) (hts _ q_586) (fun _ h9 => h9) rfl dX8_part_94 ?_
      refine lv_bipush (v := 41) hx hb dX8_part_97 (by decide) ?_
      refine lv_iload_n hx hb dX8_part_99 rfl (lv_at hl 2 rfl) ?_
      refine lv_imul hx hb dX8_part_100 ?_
      refine lv_iload_n hx hb dX8_part_101 rfl (lv_at hl 3 rfl) ?_
      refine lv_iadd hx hb dX8_part_102 ?_
      refine lv_iload_n hx hb dX8_part_103 rfl (lv_at hl 4 rfl) ?_
      obtain ⟨h_9, hw⟩ := hw
      refine va_iast hx hb hK hP hD hS 2 0 rfl rfl h_9 dX8_part_104 (fun H locs hP hD hS => ?_)
      have hP : va_P D vwCl [(h_m, .inr (8, [.int y1, .int v_n, .ref h_mwholes, .ref h_mparts, .int v_has, .int v_known, .ref h_mknown31, .int v_many, .ref h_mprimes, .ref h_mrests, .ref h_mrows, .ref h_mdigits, .ref h_mz, .ref h_mout, .int v_printed, .ref h_mopen])), (h_mwholes, .inl (cT 0, 40, .inl f_wholes)), (h_mparts, .inl (cT 0, 1640, .inl (upd f_parts ((41 * x1) + x2).toNatClampNeg x3)))] H := hP
      have hD : va_D A [(h_m, .inr (8, [.int y1, .int v_n, .ref h_mwholes, .ref h_mparts, .int v_has, .int v_known, .ref h_mknown31, .int v_many, .ref h_mprimes, .ref h_mrests, .ref h_mrows, .ref h_mdigits, .ref h_mz, .ref h_mout, .int v_printed, .ref h_mopen])), (h_mwholes, .inl (cT 0, 40, .inl f_wholes)), (h_mparts, .inl (cT 0, 1640, .inl (upd f_parts ((41 * x1) + x2).toNatClampNeg x3)))] := hD
      refine lv_aload_n hx hb dX8_part_105 rfl (lv_at hl 1 rfl) ?_
      refine lv_iconst (v := 0) hx hb dX8_part_106 (by decide) ?_
      refine va_put (D := D) (ci := 8) (v := .int 0) (ty := .boolean) (C := RX8) (T := TX8) (N := 16) hx hb hts inX8 tyX8 tyX8_ok nmX8 hown hK hP hD hS 0 rfl rfl 4 (by decide) (hts _ q_587) (fun _ h9 => h9) rfl (by decide +kernel) rfl rfl (Nat.le_of_ble_eq_true rfl) dX8_part_107 (fun H locs hP hD hS => ?_)
      have hP : va_P D vwCl [(h_m, .inr (8, [.int y1, .int v_n, .ref h_mwholes, .ref h_mparts, .int 0, .int v_known, .ref h_mknown31, .int v_many, .ref h_mprimes, .ref h_mrests, .ref h_mrows, .ref h_mdigits, .ref h_mz, .ref h_mout, .int v_printed, .ref h_mopen])), (h_mwholes, .inl (cT 0, 40, .inl f_wholes)), (h_mparts, .inl (cT 0, 1640, .inl (upd f_parts ((41 * x1) + x2).toNatClampNeg x3)))] H := hP
      have hD : va_D A [(h_m, .inr (8, [.int y1, .int v_n, .ref h_mwholes, .ref h_mparts, .int 0, .int v_known, .ref h_mknown31, .int v_many, .ref h_mprimes, .ref h_mrests, .ref h_mrows, .ref h_mdigits, .ref h_mz, .ref h_mout, .int v_printed, .ref h_mopen])), (h_mwholes, .inl (cT 0, 40, .inl f_wholes)), (h_mparts, .inl (cT 0, 1640, .inl (upd f_parts ((41 * x1) + x2).toNatClampNeg x3)))] := hD
      refine lv_lload hx hb dX8_part_110 (lv_at hl 0 rfl) ?_
      refine lv_l2i hx hb dX8_part_112 rfl ?_
      exact hret _ _ _ _ _ _ _ _ hw hP hD hS dX8_part_113
    · have hw := hw.2 c_8
      refine lv_aload_n hx hb dX8_part_86 rfl (lv_at hl 1 rfl) ?_
      refine lv_iconst (v := 2) hx hb dX8_part_87 (by decide) ?_
      refine va_put (D := D) (ci := 8) (v := .int 2) (ty := .int) (C := RX8) (T := TX8) (N := 16) hx hb hts inX8 tyX8 tyX8_ok nmX8 hown hK hP hD hS 0 rfl rfl 0 (by decide) (hts _ q_583) (fun _ h9 => h9) rfl (by decide +kernel) rfl rfl (Nat.le_of_ble_eq_true rfl) dX8_part_88 (fun H locs hP hD hS => ?_)
      have hP : va_P D vwCl [(h_m, .inr (8, [.int 2, .int v_n, .ref h_mwholes, .ref h_mparts, .int v_has, .int v_known, .ref h_mknown31, .int v_many, .ref h_mprimes, .ref h_mrests, .ref h_mrows, .ref h_mdigits, .ref h_mz, .ref h_mout, .int v_printed, .ref h_mopen])), (h_mwholes, .inl (cT 0, 40, .inl f_wholes)), (h_mparts, .inl (cT 0, 1640, .inl f_parts))] H := hP
      have hD : va_D A [(h_m, .inr (8, [.int 2, .int v_n, .ref h_mwholes, .ref h_mparts, .int v_has, .int v_known, .ref h_mknown31, .int v_many, .ref h_mprimes, .ref h_mrests, .ref h_mrows, .ref h_mdigits, .ref h_mz, .ref h_mout, .int v_printed, .ref h_mopen])), (h_mwholes, .inl (cT 0, 40, .inl f_wholes)), (h_mparts, .inl (cT 0, 1640, .inl f_parts))] := hD
      refine lv_iconst (v := 0) hx hb dX8_part_91 (by decide) ?_
      exact hret _ _ _ _ _ _ _ _ hw hP hD hS dX8_part_92
  · have hw := hw.2 c_3
    refine lv_iconst (v := 0) hx hb dX8_part_46 (by decide) ?_
    exact hret _ _ _ _ _ _ _ _ hw hP hD hS dX8_part_47
set_option maxHeartbeats 4000000 in
set_option maxRecDepth 100000 in
theorem tw_Model_part_31 {post : Int32 → Int32 → Int32 → (Nat → Int32) → Prop} {h_m h_mwholes h_mparts h_mknown31 h_mprimes h_mrests h_mrows h_mdigits h_mz h_mout h_mopen : Nat} {v_n : Int32} {v_known : Int32} {v_many : Int32} {v_printed : Int32} {f_wholes : Nat → Int32}  (C0 : cx RX8 cX8_part 6 D cT p s m c args) (hA : ∀ q, s.heap.size ≤ q → A q) (hret : ∀ (r : Int32) (v_thrown : Int32) (v_has : Int32) (f_parts : Nat → Int32) (H : Heap) (locs : List Loc) (pc : Nat) (ls : Array Slot), post r v_thrown v_has f_parts → va_P D vwCl [(h_m, .inr (8, [.int v_thrown, .int v_n, .ref h_mwholes, .ref h_mparts, .int v_has, .int v_known, .ref h_mknown31, .int v_many, .ref h_mprimes, .ref h_mrests, .ref h_mrows, .ref h_mdigits, .ref h_mz, .ref h_mout, .int v_printed, .ref h_mopen])), (h_mwholes, .inl (cT 0, 40, .inl f_wholes)), (h_mparts, .inl (cT 0, 1640, .inl f_parts))] H → va_D A [(h_m, .inr (8, [.int v_thrown, .int v_n, .ref h_mwholes, .ref h_mparts, .int v_has, .int v_known, .ref h_mknown31, .int v_many, .ref h_mprimes, .ref h_mrests, .ref h_mrows, .ref h_mdigits, .ref h_mz, .ref h_mout, .int v_printed, .ref h_mopen])), (h_mwholes, .inl (cT 0, 40, .inl f_wholes)), (h_mparts, .inl (cT 0, 1640, .inl f_parts))] → va_S A s.heap H locs → decode cX8_part pc = .ok (.ireturn, 1) → W p l e ({ frames := 1, cells := 0, slots := 0, locals := 24 } : Room) s m args below meth c H locs 0 0 Q (F0 m pc ls [.int r]))  : ∀ (x1 : Int32) (x2 : Int32) (x3 : Int32) (v_thrown : Int32) (v_has : Int32) (f_parts : Nat → Int32) (H : Heap) (locs : List Loc) (ls : Array Slot), va_P D vwCl [(h_m, .inr (8, [.int v_thrown, .int v_n, .ref h_mwholes, .ref h_mparts, .int v_has, .int v_known, .ref h_mknown31, .int v_many, .ref h_mprimes, .ref h_mrests, .ref h_mrows, .ref h_mdigits, .ref h_mz, .ref h_mout, .int v_printed, .ref h_mopen])), (h_mwholes, .inl (cT 0, 40, .inl f_wholes)), (h_mparts, .inl (cT 0, 1640, .inl f_parts))] H → va_D A [(h_m, .inr (8, [.int v_thrown, .int v_n, .ref h_mwholes, .ref h_mparts, .int v_has, .int v_known, .ref h_mknown31, .int v_many, .ref h_mprimes, .ref h_mrests, .ref h_mrows, .ref h_mdigits, .ref h_mz, .ref h_mout, .int v_printed, .ref h_mopen])), (h_mwholes, .inl (cT 0, 40, .inl f_wholes)), (h_mparts, .inl (cT 0, 1640, .inl f_parts))] → va_S A s.heap H locs → lv_has ls 6 [(0, .ref h_m), (1, .int x1), (2, .int x2), (3, .int x3)] → wp_Model_part_31 post v_n v_known v_many v_printed f_wholes x1 x2 x3 v_thrown v_has f_parts → W p l e ({ frames := 1, cells := 0, slots := 0, locals := 24 } : Room) s m args below meth c H locs 0 0 Q (F0 m 31 ls [.ref h_m]) := by
  obtain ⟨⟨hx, hb, hml, hown, hts⟩, hK, hN⟩ := id C0
  intro x1 x2 x3 v_thrown v_has f_parts H locs ls hP hD hS hl hw
  unfold wp_Model_part_31 at hw
  refine lv_iconst (v := 1) hx hb dX8_part_31 (by decide) ?_
  refine lv_goto (tgt := 36) hx hb dX8_part_32 (by decide) ?_
  exact tw_Model_part_36 C0 hA hret  _ _ _ _ _ _ _ _ _ _ hP hD hS (lv_sub hl [0, 1, 2, 3] rfl) hw
set_option maxHeartbeats 4000000 in
set_option maxRecDepth 100000 in
theorem tw_Model_part {post : Int32 → Int32 → Int32 → (Nat → Int32) → Prop} {h_m h_mwholes h_mparts h_mknown31 h_mprimes h_mrests h_mrows h_mdigits h_mz h_mout h_mopen : Nat} {v_n : Int32} {v_known : Int32} {v_many : Int32} {v_printed : Int32} {f_wholes : Nat → Int32}  (C0 : cx RX8 cX8_part 6 D cT p s m c args) (hA : ∀ q, s.heap.size ≤ q → A q) (hret : ∀ (r : Int32) (v_thrown : Int32) (v_has : Int32) (f_parts : Nat → Int32) (H : Heap) (locs : List Loc) (pc : Nat) (ls : Array Slot), post r v_thrown v_has f_parts → va_P D vwCl [(h_m, .inr (8, [.int v_thrown, .int v_n, .ref h_mwholes, .ref h_mparts, .int v_has, .int v_known, .ref h_mknown31, .int v_many, .ref h_mprimes, .ref h_mrests, .ref h_mrows, .ref h_mdigits, .ref h_mz, .ref h_mout, .int v_printed, .ref h_mopen])), (h_mwholes, .inl (cT 0, 40, .inl f_wholes)), (h_mparts, .inl (cT 0, 1640, .inl f_parts))] H → va_D A [(h_m, .inr (8, [.int v_thrown, .int v_n, .ref h_mwholes, .ref h_mparts, .int v_has, .int v_known, .ref h_mknown31, .int v_many, .ref h_mprimes, .ref h_mrests, .ref h_mrows, .ref h_mdigits, .ref h_mz, .ref h_mout, .int v_printed, .ref h_mopen])), (h_mwholes, .inl (cT 0, 40, .inl f_wholes)), (h_mparts, .inl (cT 0, 1640, .inl f_parts))] → va_S A s.heap H locs → decode cX8_part pc = .ok (.ireturn, 1) → W p l e ({ frames := 1, cells := 0, slots := 0, locals := 24 } : Room) s m args below meth c H locs 0 0 Q (F0 m pc ls [.int r]))  : ∀ (x1 : Int32) (x2 : Int32) (x3 : Int32) (v_thrown : Int32) (v_has : Int32) (f_parts : Nat → Int32) (H : Heap) (locs : List Loc) (ls : Array Slot), va_P D vwCl [(h_m, .inr (8, [.int v_thrown, .int v_n, .ref h_mwholes, .ref h_mparts, .int v_has, .int v_known, .ref h_mknown31, .int v_many, .ref h_mprimes, .ref h_mrests, .ref h_mrows, .ref h_mdigits, .ref h_mz, .ref h_mout, .int v_printed, .ref h_mopen])), (h_mwholes, .inl (cT 0, 40, .inl f_wholes)), (h_mparts, .inl (cT 0, 1640, .inl f_parts))] H → va_D A [(h_m, .inr (8, [.int v_thrown, .int v_n, .ref h_mwholes, .ref h_mparts, .int v_has, .int v_known, .ref h_mknown31, .int v_many, .ref h_mprimes, .ref h_mrests, .ref h_mrows, .ref h_mdigits, .ref h_mz, .ref h_mout, .int v_printed, .ref h_mopen])), (h_mwholes, .inl (cT 0, 40, .inl f_wholes)), (h_mparts, .inl (cT 0, 1640, .inl f_parts))] → va_S A s.heap H locs → lv_has ls 6 [(0, .ref h_m), (1, .int x1), (2, .int x2), (3, .int x3)] → wp_Model_part post v_n v_known v_many v_printed f_wholes x1 x2 x3 v_thrown v_has f_parts → W p l e ({ frames := 1, cells := 0, slots := 0, locals := 24 } : Room) s m args below meth c H locs 0 0 Q (F0 m 0 ls []) := by
  obtain ⟨⟨hx, hb, hml, hown, hts⟩, hK, hN⟩ := id C0
  intro x1 x2 x3 v_thrown v_has f_parts H locs ls hP hD hS hl hw
  unfold wp_Model_part at hw
  refine lv_aload_n hx hb dX8_part_0 rfl (lv_at hl 0 rfl) ?_
  refine lv_aload_n hx hb dX8_part_1 rfl (lv_at hl 0 rfl) ?_
  refine lv_iload_n hx hb dX8_part_2 rfl (lv_at hl 1 rfl) ?_
  have hPc := hP.sub (ws' := [(h_m, .inr (8, [.int v_thrown, .int v_n, .ref h_mwholes, .ref h_mparts, .int v_has, .int v_known, .ref h_mknown31, .int v_many, .ref h_mprimes, .ref h_mrests, .ref h_mrows, .ref h_mdigits, .ref h_mz, .ref h_mout, .int v_printed, .ref h_mopen]))]) [0] rfl
  have hDc := hD.sub (ws' := [(h_m, .inr (8, [.int v_thrown, .int v_n, .ref h_mwholes, .ref h_mparts, .int v_has, .int v_known, .ref h_mknown31, .int v_many, .ref h_mprimes, .ref h_mrests, .ref h_mrows, .ref h_mdigits, .ref h_mz, .ref h_mout, .int v_printed, .ref h_mopen]))]) [0] (by decide) rfl
  have hFc := va_free (wc := [(h_m, .inr (8, [.int v_thrown, .int v_n, .ref h_mwholes, .ref h_mparts, .int v_has, .int v_known, .ref h_mknown31, .int v_many, .ref h_mprimes, .ref h_mrests, .ref h_mrows, .ref h_mdigits, .ref h_mz, .ref h_mout, .int v_printed, .ref h_mopen]))]) hD hS hA [0] rfl
  refine va_calli (va_runV (As := [.int x1]) (rest := [.ref h_m]) ⟨hx, hb, hml, hown, hts⟩ (cn_Model_noState l D cT h_m h_mwholes h_mparts h_mknown31 h_mprimes h_mrests h_mrows h_mdigits h_mz h_mout h_mopen H.size v_thrown v_n v_has v_known v_many v_printed x1 _ hw) (gv_ 1 q_647 q_9 q_644 q_646 qs_20 (by decide +kernel) ⟨Nat.le_of_ble_eq_true rfl, Nat.le_of_ble_eq_true rfl⟩ hts) ⟨pre_blind, va_recv hK hPc (ci := 8) (q0 := 0) rfl rfl, fun U hU hW => ⟨rfl, pre_mk hU hW hPc hK hDc hN⟩⟩ rfl rfl hl.1 rfl (lv_room (Nat.le_of_ble_eq_true rfl)) dX8_part_3 ⟨(Nat.zero_le _), (Nat.zero_le _)⟩) hS (fun q _ h => hFc q h) hFc (fun r_1 u9 t H locs ht hvm hw hB hz1 hk1 hS => ?_)
  obtain ⟨hP1, hD1⟩ := hB
  rw [ht] at hP1
  obtain ⟨hP, hD⟩ := va_join (wr := [(h_mwholes, .inl (cT 0, 40, .inl f_wholes)), (h_mparts, .inl (cT 0, 1640, .inl f_parts))]) (w1 := [(h_m, .inr (8, [.int v_thrown, .int v_n, .ref h_mwholes, .ref h_mparts, .int v_has, .int v_known, .ref h_mknown31, .int v_many, .ref h_mprimes, .ref h_mrests, .ref h_mrows, .ref h_mdigits, .ref h_mz, .ref h_mout, .int v_printed, .ref h_mopen]))]) hP hD [0] [1, 2] rfl rfl (by decide) (by decide) hk1 hFc hP1 hD1
  have hP := hP.sub (ws' := [(h_m, .inr (8, [.int v_thrown, .int v_n, .ref h_mwholes, .ref h_mparts, .int v_has, .int v_known, .ref h_mknown31, .int v_many, .ref h_mprimes, .ref h_mrests, .ref h_mrows, .ref h_mdigits, .ref h_mz, .ref h_mout, .int v_printed, .ref h_mopen])), (h_mwholes, .inl (cT 0, 40, .inl f_wholes)), (h_mparts, .inl (cT 0, 1640, .inl f_parts))]) [2, 0, 1] rfl
  have hD := hD.sub (ws' := [(h_m, .inr (8, [.int v_thrown, .int v_n, .ref h_mwholes, .ref h_mparts, .int v_has, .int v_known, .ref h_mknown31, .int v_many, .ref h_mprimes, .ref h_mrests, .ref h_mrows, .ref h_mdigits, .ref h_mz, .ref h_mout, .int v_printed, .ref h_mopen])), (h_mwholes, .inl (cT 0, 40, .inl f_wholes)), (h_mparts, .inl (cT 0, 1640, .inl f_parts))]) [2, 0, 1] (by decide) rfl
  clear hP1 hD1 hPc hDc hFc hk1 hz1 hvm ht
  try dsimp only at hw
  refine lv_if_ne (tgt := 31) hx hb dX8_part_6 (by decide) (fun c_2 => ?_) (fun c_2 => ?_)
  · have hw := hw.2 c_2
    exact tw_Model_part_31 C0 hA hret  _ _ _ _ _ _ _ _ _ hP hD hS (lv_sub hl [0, 1, 2, 3] rfl) hw
  · have hw := hw.1 c_2
    refine lv_iload_n hx hb dX8_part_9 rfl (lv_at hl 2 rfl) ?_
    refine lv_if_lt (tgt := 31) hx hb dX8_part_10 (by decide) (fun c_10 => ?_) (fun c_10 => ?_)
    · have hw := hw.1 c_10
      exact tw_Model_part_31 C0 hA hret  _ _ _ _ _ _ _ _ _ hP hD hS (lv_sub hl [0, 1, 2, 3] rfl) hw
    · have hw := hw.2 c_10
      refine lv_iload_n hx hb dX8_part_13 rfl (lv_at hl 2 rfl) ?_
      refine lv_aload_n hx hb dX8_part_14 rfl (lv_at hl 0 rfl) ?_
      refine va_get (D := D) (ci := 8) (v := .int v_n) (C := RX8) (T := TX8) (N := 16) hx hb hts inX8 hown hK hP 0 rfl rfl 1 (by decide) (hts _ q_584) (fun _ h9 => h9) rfl dX8_part_15 ?_
      refine lv_icmp_gt (tgt := 31) hx hb dX8_part_18 (by decide) (fun c_11 => ?_) (fun c_11 => ?_)
      · have hw := hw.1 c_11
        exact tw_Model_part_31 C0 hA hret  _ _ _ _ _ _ _ _ _ hP hD hS (lv_sub hl [0, 1, 2, 3] rfl) hw
      · have hw := hw.2 c_11
        refine lv_iload_n hx hb dX8_part_21 rfl (lv_at hl 3 rfl) ?_
        refine lv_if_lt (tgt := 31) hx hb dX8_part_22 (by decide) (fun c_12 => ?_) (fun c_12 => ?_)
        · have hw := hw.1 c_12
          exact tw_Model_part_31 C0 hA hret  _ _ _ _ _ _ _ _ _ hP hD hS (lv_sub hl [0, 1, 2, 3] rfl) hw
        · have hw := hw.2 c_12
          refine lv_iload_n hx hb dX8_part_25 rfl (lv_at hl 3 rfl) ?_
          refine lv_ldc (v := 999999999) hx hb hown (hts _ q_648) dX8_part_26 ?_
          refine lv_icmp_le (tgt := 35) hx hb dX8_part_28 (by decide) (fun c_13 => ?_) (fun c_13 => ?_)
          · have hw := hw.1 c_13
            refine lv_iconst (v := 0) hx hb dX8_part_35 (by decide) ?_
            exact tw_Model_part_36 C0 hA hret  _ _ _ _ _ _ _ _ _ _ hP hD hS (lv_sub hl [0, 1, 2, 3] rfl) hw
          · have hw := hw.2 c_13
            exact tw_Model_part_31 C0 hA hret  _ _ _ _ _ _ _ _ _ hP hD hS (lv_sub hl [0, 1, 2, 3] rfl) hw
set_option maxHeartbeats 4000000 in
set_option maxRecDepth 100000 in
theorem cn_Model_part (l : Launch) (D : va_G) (cT : Nat → ClassId) (h_m h_mwholes h_mparts h_mknown31 h_mprimes h_mrests h_mrows h_mdigits h_mz h_mout h_mopen : Nat) (sz : Nat) (v_thrown : Int32) (v_n : Int32) (v_has : Int32) (v_known : Int32) (v_many : Int32) (v_printed : Int32) (f_wholes : Nat → Int32) (f_parts : Nat → Int32) (x1 : Int32) (x2 : Int32) (x3 : Int32) (post : Int32 → Int32 → Int32 → (Nat → Int32) → Prop) (hw : wp_Model_part post v_n v_known v_many v_printed f_wholes x1 x2 x3 v_thrown v_has f_parts) : Met l yX8_part wX8_part ({ frames := 1, cells := 0, slots := 0, locals := 24 } : Room) (va_Pc [.ref h_m, .int x1, .int x2, .int x3] (pre_ D cT [(h_m, .inr (8, [.int v_thrown, .int v_n, .ref h_mwholes, .ref h_mparts, .int v_has, .int v_known, .ref h_mknown31, .int v_many, .ref h_mprimes, .ref h_mrests, .ref h_mrows, .ref h_mdigits, .ref h_mz, .ref h_mout, .int v_printed, .ref h_mopen])), (h_mwholes, .inl (cT 0, 40, .inl f_wholes)), (h_mparts, .inl (cT 0, 1640, .inl f_parts))] sz)) (va_Qi (fun (r : Int32) (u : Int32 × Int32 × (Nat → Int32)) => post r u.1 u.2.1 u.2.2) (fun u t => va_P D vwCl [(h_m, .inr (8, [.int u.1, .int v_n, .ref h_mwholes, .ref h_mparts, .int u.2.1, .int v_known, .ref h_mknown31, .int v_many, .ref h_mprimes, .ref h_mrests, .ref h_mrows, .ref h_mdigits, .ref h_mz, .ref h_mout, .int v_printed, .ref h_mopen])), (h_mwholes, .inl (cT 0, 40, .inl f_wholes)), (h_mparts, .inl (cT 0, 1640, .inl u.2.2))] t.heap ∧ va_D (va_A [(h_m, .inr (8, [.int v_thrown, .int v_n, .ref h_mwholes, .ref h_mparts, .int v_has, .int v_known, .ref h_mknown31, .int v_many, .ref h_mprimes, .ref h_mrests, .ref h_mrows, .ref h_mdigits, .ref h_mz, .ref h_mout, .int v_printed, .ref h_mopen])), (h_mwholes, .inl (cT 0, 40, .inl f_wholes)), (h_mparts, .inl (cT 0, 1640, .inl f_parts))] sz) [(h_m, .inr (8, [.int u.1, .int v_n, .ref h_mwholes, .ref h_mparts, .int u.2.1, .int v_known, .ref h_mknown31, .int v_many, .ref h_mprimes, .ref h_mrests, .ref h_mrows, .ref h_mdigits, .ref h_mz, .ref h_mout, .int v_printed, .ref h_mopen])), (h_mwholes, .inl (cT 0, 40, .inl f_wholes)), (h_mparts, .inl (cT 0, 1640, .inl u.2.2))]) (va_A [(h_m, .inr (8, [.int v_thrown, .int v_n, .ref h_mwholes, .ref h_mparts, .int v_has, .int v_known, .ref h_mknown31, .int v_many, .ref h_mprimes, .ref h_mrests, .ref h_mrows, .ref h_mdigits, .ref h_mz, .ref h_mout, .int v_printed, .ref h_mopen])), (h_mwholes, .inl (cT 0, 40, .inl f_wholes)), (h_mparts, .inl (cT 0, 1640, .inl f_parts))] sz)) 0 0 (va_A [(h_m, .inr (8, [.int v_thrown, .int v_n, .ref h_mwholes, .ref h_mparts, .int v_has, .int v_known, .ref h_mknown31, .int v_many, .ref h_mprimes, .ref h_mrests, .ref h_mrows, .ref h_mdigits, .ref h_mz, .ref h_mout, .int v_printed, .ref h_mopen])), (h_mwholes, .inl (cT 0, 40, .inl f_wholes)), (h_mparts, .inl (cT 0, 1640, .inl f_parts))] sz) := by
  refine Met.ofW (cc := cX8_part) (maxL := 6) (ret := (some .int)) (by decide) rfl ?_
  intro p e s m args below meth c s₁ B hml hv
  obtain ⟨rfl, hsz, hP, hK, hD0, hN⟩ := hv
  have hx := B.exec
  have hb := B.bytes
  have hr := B.returns
  have hts : ∀ w ∈ WG, w.before _ s = true := fun w h => atoms_spec (ws := wX8_part) B.pre w (List.mem_cons_of_mem _ h)
  have hown : s.vm.findClass RX8 = some m.cls := findClass_of_methodNamed B.named
  have hlocks := B.notSynchronized
  subst hsz
  have hD := hD0.self (sz := s.heap.size)
  generalize hAe : va_A [(h_m, .inr (8, [.int v_thrown, .int v_n, .ref h_mwholes, .ref h_mparts, .int v_has, .int v_known, .ref h_mknown31, .int v_many, .ref h_mprimes, .ref h_mrests, .ref h_mrows, .ref h_mdigits, .ref h_mz, .ref h_mout, .int v_printed, .ref h_mopen])), (h_mwholes, .inl (cT 0, 40, .inl f_wholes)), (h_mparts, .inl (cT 0, 1640, .inl f_parts))] s.heap.size = A at hD ⊢
  have hA : ∀ q : Nat, s.heap.size ≤ q → A q := fun q h => by rw [← hAe]; exact Or.inr h
  have hS : va_S A s.heap s.heap [] := va_S.rf
  have hl := lv_entry ([.ref h_m, .int x1, .int x2, .int x3]) (n := 6) (Nat.le_of_ble_eq_true rfl)
  rw [lg_entry_eq]
  generalize (lg_sl ([.ref h_m, .int x1, .int x2, .int x3]) ++ List.replicate (6 - (lg_sl ([.ref h_m, .int x1, .int x2, .int x3])).length) Slot.unset).toArray = ls at hl ⊢
  refine tw_Model_part (Q := MQ below _ _ s 0 0 A) ⟨⟨hx, hb, hml, hown, hts⟩, hK, hN⟩ hA (fun r v_thrown v_has f_parts H locs pc ls hp hP hD hS hd => W.iret (v := r) hx hb hr (fun t ht hW => ⟨⟨r, (v_thrown, v_has, f_parts), rfl, hp, by rw [ht]; exact hP, hD⟩, hS.F ht⟩) hS.2.2 hd) _ _ _ _ _ _ _ _ _ hP hD hS hl hw
end
def wp_Model_isLarge_60 (post : Int32 → Prop) (v_thrown : Int32) (v_n : Int32) (v_has : Int32) (v_known : Int32) (v_many : Int32) (v_printed : Int32) (f_wholes : Nat → Int32)  (y0 : Int32) : Prop := (narrow .boolean (.int y0) = .int y0 ∧ post y0)
def wp_Model_isLarge_14 (post : Int32 → Prop) (v_thrown : Int32) (v_n : Int32) (v_has : Int32) (v_known : Int32) (v_many : Int32) (v_printed : Int32) (f_wholes : Nat → Int32) (K4 : Int32 → Int32 → Prop) : Nat → Int32 → Int32 → Int32 → Prop
  | 0 => fun _ _ _ => False
  | n + 1 => fun x1 x2 x3 => (vp_in x2 40 ∧ (((0 ≤ (lg_cmp ((1 : Int64) <<< (x3.toInt64 &&& 63)) (2 * ((f_wholes x2.toNatClampNeg).toInt64))) → (∀ x1_5 : Int32, x1_5 = x1 + x3 → ∀ x2_6 : Int32, x2_6 = x2 + 1 → K4 x1_5 x2_6)) ∧ (¬ 0 ≤ (lg_cmp ((1 : Int64) <<< (x3.toInt64 &&& 63)) (2 * ((f_wholes x2.toNatClampNeg).toInt64))) → (∀ x3_7 : Int32, x3_7 = x3 + 1 → wp_Model_isLarge_14 post v_thrown v_n v_has v_known v_many v_printed f_wholes K4 n x1 x2 x3_7)))))
def wp_Model_isLarge_4 (post : Int32 → Prop) (v_thrown : Int32) (v_n : Int32) (v_has : Int32) (v_known : Int32) (v_many : Int32) (v_printed : Int32) (f_wholes : Nat → Int32)  : Nat → Int32 → Int32 → Prop
  | 0 => fun _ _ => False
  | n + 1 => fun x1 x2 => ((v_n ≤ x2 → (((x1 ≤ 480 → (wp_Model_isLarge_60 post v_thrown v_n v_has v_known v_many v_printed f_wholes 0)) ∧ (¬ x1 ≤ 480 → (wp_Model_isLarge_60 post v_thrown v_n v_has v_known v_many v_printed f_wholes 1))))) ∧ (¬ v_n ≤ x2 → (∃ k9, wp_Model_isLarge_14 post v_thrown v_n v_has v_known v_many v_printed f_wholes (wp_Model_isLarge_4 post v_thrown v_n v_has v_known v_many v_printed f_wholes n) k9 x1 x2 0)))
def wp_Model_isLarge (post : Int32 → Prop) (v_thrown : Int32) (v_n : Int32) (v_has : Int32) (v_known : Int32) (v_many : Int32) (v_printed : Int32) (f_wholes : Nat → Int32)   : Prop := ∃ k9, wp_Model_isLarge_4 post v_thrown v_n v_has v_known v_many v_printed f_wholes k9 0 0
section
variable {p : Program} {l : Launch} {e : Env} {s : State} {m : MethodId} {args : Array Value} {below : List Frame} {meth : Method} {c : Code} {Q : State → Prop} {A : Nat → Prop} {D : va_G} {cT : Nat → ClassId}
set_option maxHeartbeats 4000000 in
set_option maxRecDepth 100000 in
theorem tw_Model_isLarge_60 {post : Int32 → Prop} {h_m h_mwholes h_mparts h_mknown31 h_mprimes h_mrests h_mrows h_mdigits h_mz h_mout h_mopen : Nat} {v_thrown : Int32} {v_n : Int32} {v_has : Int32} {v_known : Int32} {v_many : Int32} {v_printed : Int32} {f_wholes : Nat → Int32}  (C0 : cx RX8 cX8_isLarge 4 D cT p s m c args) (hA : ∀ q, s.heap.size ≤ q → A q) (hret : ∀ (r : Int32)  (H : Heap) (locs : List Loc) (pc : Nat) (ls : Array Slot), narrow .boolean (.int r) = .int r → post r → va_P D vwCl [(h_m, .inr (8, [.int v_thrown, .int v_n, .ref h_mwholes, .ref h_mparts, .int v_has, .int v_known, .ref h_mknown31, .int v_many, .ref h_mprimes, .ref h_mrests, .ref h_mrows, .ref h_mdigits, .ref h_mz, .ref h_mout, .int v_printed, .ref h_mopen])), (h_mwholes, .inl (cT 0, 40, .inl f_wholes))] H → va_D A [(h_m, .inr (8, [.int v_thrown, .int v_n, .ref h_mwholes, .ref h_mparts, .int v_has, .int v_known, .ref h_mknown31, .int v_many, .ref h_mprimes, .ref h_mrests, .ref h_mrows, .ref h_mdigits, .ref h_mz, .ref h_mout, .int v_printed, .ref h_mopen])), (h_mwholes, .inl (cT 0, 40, .inl f_wholes))] → va_S A s.heap H locs → decode cX8_isLarge pc = .ok (.ireturn, 1) → W p l e ({ frames := 0, cells := 0, slots := 0, locals := 0 } : Room) s m args below meth c H locs 0 0 Q (F0 m pc ls [.int r]))  : ∀ (y0 : Int32) (H : Heap) (locs : List Loc) (ls : Array Slot), va_P D vwCl [(h_m, .inr (8, [.int v_thrown, .int v_n, .ref h_mwholes, .ref h_mparts, .int v_has, .int v_known, .ref h_mknown31, .int v_many, .ref h_mprimes, .ref h_mrests, .ref h_mrows, .ref h_mdigits, .ref h_mz, .ref h_mout, .int v_printed, .ref h_mopen])), (h_mwholes, .inl (cT 0, 40, .inl f_wholes))] H → va_D A [(h_m, .inr (8, [.int v_thrown, .int v_n, .ref h_mwholes, .ref h_mparts, .int v_has, .int v_known, .ref h_mknown31, .int v_many, .ref h_mprimes, .ref h_mrests, .ref h_mrows, .ref h_mdigits, .ref h_mz, .ref h_mout, .int v_printed, .ref h_mopen])), (h_mwholes, .inl (cT 0, 40, .inl f_wholes))] → va_S A s.heap H locs → lv_has ls 4 [] → wp_Model_isLarge_60 post v_thrown v_n v_has v_known v_many v_printed f_wholes y0 → W p l e ({ frames := 0, cells := 0, slots := 0, locals := 0 } : Room) s m args below meth c H locs 0 0 Q (F0 m 60 ls [.int y0]) := by
  obtain ⟨⟨hx, hb, hml, hown, hts⟩, hK, hN⟩ := id C0
  intro y0 H locs ls hP hD hS hl hw
  unfold wp_Model_isLarge_60 at hw
  exact hret _  _ _ _ _ hw.1 hw.2 hP hD hS dX8_isLarge_60
set_option maxHeartbeats 4000000 in
set_option maxRecDepth 100000 in
theorem tw_Model_isLarge_14 {post : Int32 → Prop} {h_m h_mwholes h_mparts h_mknown31 h_mprimes h_mrests h_mrows h_mdigits h_mz h_mout h_mopen : Nat} {v_thrown : Int32} {v_n : Int32} {v_has : Int32} {v_known : Int32} {v_many : Int32} {v_printed : Int32} {f_wholes : Nat → Int32} {K4 : Int32 → Int32 → Prop} (C0 : cx RX8 cX8_isLarge 4 D cT p s m c args) (hA : ∀ q, s.heap.size ≤ q → A q) (hret : ∀ (r : Int32)  (H : Heap) (locs : List Loc) (pc : Nat) (ls : Array Slot), narrow .boolean (.int r) = .int r → post r → va_P D vwCl [(h_m, .inr (8, [.int v_thrown, .int v_n, .ref h_mwholes, .ref h_mparts, .int v_has, .int v_known, .ref h_mknown31, .int v_many, .ref h_mprimes, .ref h_mrests, .ref h_mrows, .ref h_mdigits, .ref h_mz, .ref h_mout, .int v_printed, .ref h_mopen])), (h_mwholes, .inl (cT 0, 40, .inl f_wholes))] H → va_D A [(h_m, .inr (8, [.int v_thrown, .int v_n, .ref h_mwholes, .ref h_mparts, .int v_has, .int v_known, .ref h_mknown31, .int v_many, .ref h_mprimes, .ref h_mrests, .ref h_mrows, .ref h_mdigits, .ref h_mz, .ref h_mout, .int v_printed, .ref h_mopen])), (h_mwholes, .inl (cT 0, 40, .inl f_wholes))] → va_S A s.heap H locs → decode cX8_isLarge pc = .ok (.ireturn, 1) → W p l e ({ frames := 0, cells := 0, slots := 0, locals := 0 } : Room) s m args below meth c H locs 0 0 Q (F0 m pc ls [.int r])) (hK4 : ∀ (x1 : Int32) (x2 : Int32) (H : Heap) (locs : List Loc) (ls : Array Slot), va_P D vwCl [(h_m, .inr (8, [.int v_thrown, .int v_n, .ref h_mwholes, .ref h_mparts, .int v_has, .int v_known, .ref h_mknown31, .int v_many, .ref h_mprimes, .ref h_mrests, .ref h_mrows, .ref h_mdigits, .ref h_mz, .ref h_mout, .int v_printed, .ref h_mopen])), (h_mwholes, .inl (cT 0, 40, .inl f_wholes))] H → va_D A [(h_m, .inr (8, [.int v_thrown, .int v_n, .ref h_mwholes, .ref h_mparts, .int v_has, .int v_known, .ref h_mknown31, .int v_many, .ref h_mprimes, .ref h_mrests, .ref h_mrows, .ref h_mdigits, .ref h_mz, .ref h_mout, .int v_printed, .ref h_mopen])), (h_mwholes, .inl (cT 0, 40, .inl f_wholes))] → va_S A s.heap H locs → lv_has ls 4 [(0, .ref h_m), (1, .int x1), (2, .int x2)] → K4 x1 x2 → W p l e ({ frames := 0, cells := 0, slots := 0, locals := 0 } : Room) s m args below meth c H locs 0 0 Q (F0 m 4 ls [])) : ∀ (n : Nat) (x1 : Int32) (x2 : Int32) (x3 : Int32) (H : Heap) (locs : List Loc) (ls : Array Slot), va_P D vwCl [(h_m, .inr (8, [.int v_thrown, .int v_n, .ref h_mwholes, .ref h_mparts, .int v_has, .int v_known, .ref h_mknown31, .int v_many, .ref h_mprimes, .ref h_mrests, .ref h_mrows, .ref h_mdigits, .ref h_mz, .ref h_mout, .int v_printed, .ref h_mopen])), (h_mwholes, .inl (cT 0, 40, .inl f_wholes))] H → va_D A [(h_m, .inr (8, [.int v_thrown, .int v_n, .ref h_mwholes, .ref h_mparts, .int v_has, .int v_known, .ref h_mknown31, .int v_many, .ref h_mprimes, .ref h_mrests, .ref h_mrows, .ref h_mdigits, .ref h_mz, .ref h_mout, .int v_printed, .ref h_mopen])), (h_mwholes, .inl (cT 0, 40, .inl f_wholes))] → va_S A s.heap H locs → lv_has ls 4 [(0, .ref h_m), (1, .int x1), (2, .int x2), (3, .int x3)] → wp_Model_isLarge_14 post v_thrown v_n v_has v_known v_many v_printed f_wholes K4 n x1 x2 x3 → W p l e ({ frames := 0, cells := 0, slots := 0, locals := 0 } : Room) s m args below meth c H locs 0 0 Q (F0 m 14 ls []) := by
  obtain ⟨⟨hx, hb, hml, hown, hts⟩, hK, hN⟩ := id C0
  intro n
  induction n with
  | zero => intro x1 x2 x3 H locs ls hP hD hS hl hw; exact hw.elim
  | succ n ih =>
    intro x1 x2 x3 H locs ls hP hD hS hl hw
    unfold wp_Model_isLarge_14 at hw
    refine lv_lconst (v := 1) hx hb dX8_isLarge_14 (by decide) ?_
    refine lv_iload_n hx hb dX8_isLarge_15 rfl (lv_at hl 3 rfl) ?_
    refine lv_lshl hx hb dX8_isLarge_16 rfl ?_
    refine lv_ldc2 (v := 2) hx hb hown (hts _ q_665) dX8_isLarge_17 ?_
    refine lv_aload_n hx hb dX8_isLarge_20 rfl (lv_at hl 0 rfl) ?_
    refine va_get (D := D) (ci := 8) (v := .ref h_mwholes) (C := RX8) (T := TX8) (N := 16) hx hb hts inX8 hown hK hP 0 rfl rfl 2 (by decide) (hts _ q_585) (fun _ h9 => h9) rfl dX8_isLarge_21 ?_
    refine lv_iload_n hx hb dX8_isLarge_24 rfl (lv_at hl 2 rfl) ?_
    obtain ⟨h_3, hw⟩ := hw
    refine va_iald hx hb hK hP 1 0 rfl rfl h_3 dX8_isLarge_25 ?_
    refine lv_i2l hx hb dX8_isLarge_26 rfl ?_
    refine lv_lmul hx hb dX8_isLarge_27 ?_
    refine W.lcmp hx hb dX8_isLarge_28 ?_
    refine lv_if_ge (tgt := 38) hx hb dX8_isLarge_29 (by decide) (fun c_4 => ?_) (fun c_4 => ?_)
    · have hw := hw.1 c_4
      refine lv_iload_n hx hb dX8_isLarge_38 rfl (lv_at hl 1 rfl) ?_
      refine lv_iload_n hx hb dX8_isLarge_39 rfl (lv_at hl 3 rfl) ?_
      refine lv_iadd hx hb dX8_isLarge_40 ?_
      refine lv_topi (fun x1_5 ex1_5 => ?_)
      have hw := hw x1_5 ex1_5
      refine lv_istore_n (lv' := [(1, .int x1_5), (0, .ref h_m), (2, .int x2), (3, .int x3)]) hx hb dX8_isLarge_41 rfl hl (by decide) rfl (fun ls hl => ?_)
      obtain ⟨x2_6, ex2_6⟩ : ∃ y : Int32, y = x2 + 1 := ⟨_, rfl⟩
      refine lv_iinc (v := x2_6) (lv' := [(2, .int x2_6), (1, .int x1_5), (0, .ref h_m), (3, .int x3)]) hx hb dX8_isLarge_42 hl (k := 2) rfl (by rw [ex2_6]; rfl) (by decide) rfl (fun ls hl => ?_)
      have hw := hw x2_6 ex2_6
      refine lv_goto (tgt := 4) hx hb dX8_isLarge_45 (by decide) ?_
      exact hK4 _ _ _ _ _ hP hD hS (lv_sub hl [2, 1, 0] rfl) hw
    · have hw := hw.2 c_4
      obtain ⟨x3_7, ex3_7⟩ : ∃ y : Int32, y = x3 + 1 := ⟨_, rfl⟩
      refine lv_iinc (v := x3_7) (lv' := [(3, .int x3_7), (0, .ref h_m), (1, .int x1), (2, .int x2)]) hx hb dX8_isLarge_32 hl (k := 3) rfl (by rw [ex3_7]; rfl) (by decide) rfl (fun ls hl => ?_)
      have hw := hw x3_7 ex3_7
      refine lv_goto (tgt := 14) hx hb dX8_isLarge_35 (by decide) ?_
      exact ih _ _ _ _ _ _ hP hD hS (lv_sub hl [1, 2, 3, 0] rfl) hw
set_option maxHeartbeats 4000000 in
set_option maxRecDepth 100000 in
theorem tw_Model_isLarge_4 {post : Int32 → Prop} {h_m h_mwholes h_mparts h_mknown31 h_mprimes h_mrests h_mrows h_mdigits h_mz h_mout h_mopen : Nat} {v_thrown : Int32} {v_n : Int32} {v_has : Int32} {v_known : Int32} {v_many : Int32} {v_printed : Int32} {f_wholes : Nat → Int32}  (C0 : cx RX8 cX8_isLarge 4 D cT p s m c args) (hA : ∀ q, s.heap.size ≤ q → A q) (hret : ∀ (r : Int32)  (H : Heap) (locs : List Loc) (pc : Nat) (ls : Array Slot), narrow .boolean (.int r) = .int r → post r → va_P D vwCl [(h_m, .inr (8, [.int v_thrown, .int v_n, .ref h_mwholes, .ref h_mparts, .int v_has, .int v_known, .ref h_mknown31, .int v_many, .ref h_mprimes, .ref h_mrests, .ref h_mrows, .ref h_mdigits, .ref h_mz, .ref h_mout, .int v_printed, .ref h_mopen])), (h_mwholes, .inl (cT 0, 40, .inl f_wholes))] H → va_D A [(h_m, .inr (8, [.int v_thrown, .int v_n, .ref h_mwholes, .ref h_mparts, .int v_has, .int v_known, .ref h_mknown31, .int v_many, .ref h_mprimes, .ref h_mrests, .ref h_mrows, .ref h_mdigits, .ref h_mz, .ref h_mout, .int v_printed, .ref h_mopen])), (h_mwholes, .inl (cT 0, 40, .inl f_wholes))] → va_S A s.heap H locs → decode cX8_isLarge pc = .ok (.ireturn, 1) → W p l e ({ frames := 0, cells := 0, slots := 0, locals := 0 } : Room) s m args below meth c H locs 0 0 Q (F0 m pc ls [.int r]))  : ∀ (n : Nat) (x1 : Int32) (x2 : Int32) (H : Heap) (locs : List Loc) (ls : Array Slot), va_P D vwCl [(h_m, .inr (8, [.int v_thrown, .int v_n, .ref h_mwholes, .ref h_mparts, .int v_has, .int v_known, .ref h_mknown31, .int v_many, .ref h_mprimes, .ref h_mrests, .ref h_mrows, .ref h_mdigits, .ref h_mz, .ref h_mout, .int v_printed, .ref h_mopen])), (h_mwholes, .inl (cT 0, 40, .inl f_wholes))] H → va_D A [(h_m, .inr (8, [.int v_thrown, .int v_n, .ref h_mwholes, .ref h_mparts, .int v_has, .int v_known, .ref h_mknown31, .int v_many, .ref h_mprimes, .ref h_mrests, .ref h_mrows, .ref h_mdigits, .ref h_mz, .ref h_mout, .int v_printed, .ref h_mopen])), (h_mwholes, .inl (cT 0, 40, .inl f_wholes))] → va_S A s.heap H locs → lv_has ls 4 [(0, .ref h_m), (1, .int x1), (2, .int x2)] → wp_Model_isLarge_4 post v_thrown v_n v_has v_known v_many v_printed f_wholes n x1 x2 → W p l e ({ frames := 0, cells := 0, slots := 0, locals := 0 } : Room) s m args below meth c H locs 0 0 Q (F0 m 4 ls []) := by
  obtain ⟨⟨hx, hb, hml, hown, hts⟩, hK, hN⟩ := id C0
  intro n
  induction n with
  | zero => intro x1 x2 H locs ls hP hD hS hl hw; exact hw.elim
  | succ n ih =>
    intro x1 x2 H locs ls hP hD hS hl hw
    unfold wp_Model_isLarge_4 at hw
    refine lv_iload_n hx hb dX8_isLarge_4 rfl (lv_at hl 2 rfl) ?_
    refine lv_aload_n hx hb dX8_isLarge_5 rfl (lv_at hl 0 rfl) ?_
    refine va_get (D := D) (ci := 8) (v := .int v_n) (C := RX8) (T := TX8) (N := 16) hx hb hts inX8 hown hK hP 0 rfl rfl 1 (by decide) (hts _ q_584) (fun _ h9 => h9) rfl dX8_isLarge_6 ?_
    refine lv_icmp_ge (tgt := 48) hx hb dX8_isLarge_9 (by decide) (fun c_1 => ?_) (fun c_1 => ?_)
    · have hw := hw.1 c_1
      refine lv_iload_n hx hb dX8_isLarge_48 rfl (lv_at hl 1 rfl) ?_
      refine lv_sipush (v := 480) hx hb dX8_isLarge_49 (by decide) ?_
      refine lv_icmp_le (tgt := 59) hx hb dX8_isLarge_52 (by decide) (fun c_2 => ?_) (fun c_2 => ?_)
      · have hw := hw.1 c_2
        refine lv_iconst (v := 0) hx hb dX8_isLarge_59 (by decide) ?_
        exact tw_Model_isLarge_60 C0 hA hret  _ _ _ _ hP hD hS (lv_sub hl [] rfl) hw
      · have hw := hw.2 c_2
        refine lv_iconst (v := 1) hx hb dX8_isLarge_55 (by decide) ?_
        refine lv_goto (tgt := 60) hx hb dX8_isLarge_56 (by decide) ?_
        exact tw_Model_isLarge_60 C0 hA hret  _ _ _ _ hP hD hS (lv_sub hl [] rfl) hw
    · have hw := hw.2 c_1
      refine lv_iconst (v := 0) hx hb dX8_isLarge_12 (by decide) ?_
      refine lv_istore_n (lv' := [(3, .int 0), (0, .ref h_m), (1, .int x1), (2, .int x2)]) hx hb dX8_isLarge_13 rfl hl (by decide) rfl (fun ls hl => ?_)
      obtain ⟨n9, hw⟩ := hw
      exact tw_Model_isLarge_14 C0 hA hret ih n9 _ _ _ _ _ _ hP hD hS (lv_sub hl [1, 2, 3, 0] rfl) hw
set_option maxHeartbeats 4000000 in
set_option maxRecDepth 100000 in
theorem tw_Model_isLarge {post : Int32 → Prop} {h_m h_mwholes h_mparts h_mknown31 h_mprimes h_mrests h_mrows h_mdigits h_mz h_mout h_mopen : Nat} {v_thrown : Int32} {v_n : Int32} {v_has : Int32} {v_known : Int32} {v_many : Int32} {v_printed : Int32} {f_wholes : Nat → Int32}  (C0 : cx RX8 cX8_isLarge 4 D cT p s m c args) (hA : ∀ q, s.heap.size ≤ q → A q) (hret : ∀ (r : Int32)  (H : Heap) (locs : List Loc) (pc : Nat) (ls : Array Slot), narrow .boolean (.int r) = .int r → post r → va_P D vwCl [(h_m, .inr (8, [.int v_thrown, .int v_n, .ref h_mwholes, .ref h_mparts, .int v_has, .int v_known, .ref h_mknown31, .int v_many, .ref h_mprimes, .ref h_mrests, .ref h_mrows, .ref h_mdigits, .ref h_mz, .ref h_mout, .int v_printed, .ref h_mopen])), (h_mwholes, .inl (cT 0, 40, .inl f_wholes))] H → va_D A [(h_m, .inr (8, [.int v_thrown, .int v_n, .ref h_mwholes, .ref h_mparts, .int v_has, .int v_known, .ref h_mknown31, .int v_many, .ref h_mprimes, .ref h_mrests, .ref h_mrows, .ref h_mdigits, .ref h_mz, .ref h_mout, .int v_printed, .ref h_mopen])), (h_mwholes, .inl (cT 0, 40, .inl f_wholes))] → va_S A s.heap H locs → decode cX8_isLarge pc = .ok (.ireturn, 1) → W p l e ({ frames := 0, cells := 0, slots := 0, locals := 0 } : Room) s m args below meth c H locs 0 0 Q (F0 m pc ls [.int r]))  : ∀  (H : Heap) (locs : List Loc) (ls : Array Slot), va_P D vwCl [(h_m, .inr (8, [.int v_thrown, .int v_n, .ref h_mwholes, .ref h_mparts, .int v_has, .int v_known, .ref h_mknown31, .int v_many, .ref h_mprimes, .ref h_mrests, .ref h_mrows, .ref h_mdigits, .ref h_mz, .ref h_mout, .int v_printed, .ref h_mopen])), (h_mwholes, .inl (cT 0, 40, .inl f_wholes))] H → va_D A [(h_m, .inr (8, [.int v_thrown, .int v_n, .ref h_mwholes, .ref h_mparts, .int v_has, .int v_known, .ref h_mknown31, .int v_many, .ref h_mprimes, .ref h_mrests, .ref h_mrows, .ref h_mdigits, .ref h_mz, .ref h_mout, .int v_printed, .ref h_mopen])), (h_mwholes, .inl (cT 0, 40, .inl f_wholes))] → va_S A s.heap H locs → lv_has ls 4 [(0, .ref h_m)] → wp_Model_isLarge post v_thrown v_n v_has v_known v_many v_printed f_wholes  → W p l e ({ frames := 0, cells := 0, slots := 0, locals := 0 } : Room) s m args below meth c H locs 0 0 Q (F0 m 0 ls []) := by
  obtain ⟨⟨hx, hb, hml, hown, hts⟩, hK, hN⟩ := id C0
  intro H locs ls hP hD hS hl hw
  unfold wp_Model_isLarge at hw
  refine lv_iconst (v := 0) hx hb dX8_isLarge_0 (by decide) ?_
  refine lv_istore_n (lv' := [(1, .int 0), (0, .ref h_m)]) hx hb dX8_isLarge_1 rfl hl (by decide) rfl (fun ls hl => ?_)
  refine lv_iconst (v := 0) hx hb dX8_isLarge_2 (by decide) ?_
  refine lv_istore_n (lv' := [(2, .int 0), (1, .int 0), (0, .ref h_m)]) hx hb dX8_isLarge_3 rfl hl (by decide) rfl (fun ls hl => ?_)
  obtain ⟨n9, hw⟩ := hw
  exact tw_Model_isLarge_4 C0 hA hret  n9 _ _ _ _ _ hP hD hS (lv_sub hl [2, 1, 0] rfl) hw
set_option maxHeartbeats 4000000 in
set_option maxRecDepth 100000 in
theorem cn_Model_isLarge (l : Launch) (D : va_G) (cT : Nat → ClassId) (h_m h_mwholes h_mparts h_mknown31 h_mprimes h_mrests h_mrows h_mdigits h_mz h_mout h_mopen : Nat) (sz : Nat) (v_thrown : Int32) (v_n : Int32) (v_has : Int32) (v_known : Int32) (v_many : Int32) (v_printed : Int32) (f_wholes : Nat → Int32)  (post : Int32 → Prop) (hw : wp_Model_isLarge post v_thrown v_n v_has v_known v_many v_printed f_wholes ) : Met l yX8_isLarge wX8_isLarge ({ frames := 0, cells := 0, slots := 0, locals := 0 } : Room) (va_Pc [.ref h_m] (pre_ D cT [(h_m, .inr (8, [.int v_thrown, .int v_n, .ref h_mwholes, .ref h_mparts, .int v_has, .int v_known, .ref h_mknown31, .int v_many, .ref h_mprimes, .ref h_mrests, .ref h_mrows, .ref h_mdigits, .ref h_mz, .ref h_mout, .int v_printed, .ref h_mopen])), (h_mwholes, .inl (cT 0, 40, .inl f_wholes))] sz)) (va_Qi (fun (r : Int32) (u : Unit) => post r) (fun u t => va_P D vwCl [(h_m, .inr (8, [.int v_thrown, .int v_n, .ref h_mwholes, .ref h_mparts, .int v_has, .int v_known, .ref h_mknown31, .int v_many, .ref h_mprimes, .ref h_mrests, .ref h_mrows, .ref h_mdigits, .ref h_mz, .ref h_mout, .int v_printed, .ref h_mopen])), (h_mwholes, .inl (cT 0, 40, .inl f_wholes))] t.heap ∧ va_D (va_A [(h_m, .inr (8, [.int v_thrown, .int v_n, .ref h_mwholes, .ref h_mparts, .int v_has, .int v_known, .ref h_mknown31, .int v_many, .ref h_mprimes, .ref h_mrests, .ref h_mrows, .ref h_mdigits, .ref h_mz, .ref h_mout, .int v_printed, .ref h_mopen])), (h_mwholes, .inl (cT 0, 40, .inl f_wholes))] sz) [(h_m, .inr (8, [.int v_thrown, .int v_n, .ref h_mwholes, .ref h_mparts, .int v_has, .int v_known, .ref h_mknown31, .int v_many, .ref h_mprimes, .ref h_mrests, .ref h_mrows, .ref h_mdigits, .ref h_mz, .ref h_mout, .int v_printed, .ref h_mopen])), (h_mwholes, .inl (cT 0, 40, .inl f_wholes))]) (va_A [(h_m, .inr (8, [.int v_thrown, .int v_n, .ref h_mwholes, .ref h_mparts, .int v_has, .int v_known, .ref h_mknown31, .int v_many, .ref h_mprimes, .ref h_mrests, .ref h_mrows, .ref h_mdigits, .ref h_mz, .ref h_mout, .int v_printed, .ref h_mopen])), (h_mwholes, .inl (cT 0, 40, .inl f_wholes))] sz)) 0 0 (va_A [(h_m, .inr (8, [.int v_thrown, .int v_n, .ref h_mwholes, .ref h_mparts, .int v_has, .int v_known, .ref h_mknown31, .int v_many, .ref h_mprimes, .ref h_mrests, .ref h_mrows, .ref h_mdigits, .ref h_mz, .ref h_mout, .int v_printed, .ref h_mopen])), (h_mwholes, .inl (cT 0, 40, .inl f_wholes))] sz) := by
  refine Met.ofW (cc := cX8_isLarge) (maxL := 4) (ret := (some .boolean)) (by decide) rfl ?_
  intro p e s m args below meth c s₁ B hml hv
  obtain ⟨rfl, hsz, hP, hK, hD0, hN⟩ := hv
  have hx := B.exec
  have hb := B.bytes
  have hr := B.returns
  have hts : ∀ w ∈ WG, w.before _ s = true := fun w h => atoms_spec (ws := wX8_isLarge) B.pre w (List.mem_cons_of_mem _ h)
  have hown : s.vm.findClass RX8 = some m.cls := findClass_of_methodNamed B.named
  have hlocks := B.notSynchronized
  subst hsz
  have hD := hD0.self (sz := s.heap.size)
  generalize hAe : va_A [(h_m, .inr (8, [.int v_thrown, .int v_n, .ref h_mwholes, .ref h_mparts, .int v_has, .int v_known, .ref h_mknown31, .int v_many, .ref h_mprimes, .ref h_mrests, .ref h_mrows, .ref h_mdigits, .ref h_mz, .ref h_mout, .int v_printed, .ref h_mopen])), (h_mwholes, .inl (cT 0, 40, .inl f_wholes))] s.heap.size = A at hD ⊢
  have hA : ∀ q : Nat, s.heap.size ≤ q → A q := fun q h => by rw [← hAe]; exact Or.inr h
  have hS : va_S A s.heap s.heap [] := va_S.rf
  have hl := lv_entry ([.ref h_m]) (n := 4) (Nat.le_of_ble_eq_true rfl)
  rw [lg_entry_eq]
  generalize (lg_sl ([.ref h_m]) ++ List.replicate (4 - (lg_sl ([.ref h_m])).length) Slot.unset).toArray = ls at hl ⊢
  refine tw_Model_isLarge (Q := MQ below _ _ s 0 0 A) ⟨⟨hx, hb, hml, hown, hts⟩, hK, hN⟩ hA (fun r  H locs pc ls hn9 hp hP hD hS hd => W.zret (v := r) hx hb hr hn9 (fun t ht hW => ⟨⟨r, (), rfl, hp, by rw [ht]; exact hP, hD⟩, hS.F ht⟩) hS.2.2 hd)  _ _ _ hP hD hS hl hw
end
def wp_Model_isStuck_175 (post : Int32 → (Nat → Int32) → Prop) (v_thrown : Int32) (v_n : Int32) (v_has : Int32) (v_known : Int32) (v_many : Int32) (v_printed : Int32) (f_wholes : Nat → Int32) (f_parts : Nat → Int32) (K152 : Int32 → Int32 → (Nat → Int32) → Prop) (x3 : Int32) (y0 : Int32) (f_open : Nat → Int32) : Prop := ∀ x3_5 : Int32, x3_5 = x3 + 1 → K152 y0 x3_5 f_open
def wp_Model_isStuck_170 (post : Int32 → (Nat → Int32) → Prop) (v_thrown : Int32) (v_n : Int32) (v_has : Int32) (v_known : Int32) (v_many : Int32) (v_printed : Int32) (f_wholes : Nat → Int32) (f_parts : Nat → Int32) (K152 : Int32 → Int32 → (Nat → Int32) → Prop) (x3 : Int32) (f_open : Nat → Int32) : Prop := wp_Model_isStuck_175 post v_thrown v_n v_has v_known v_many v_printed f_wholes f_parts K152 x3 1 f_open
def wp_Model_isStuck_152 (post : Int32 → (Nat → Int32) → Prop) (v_thrown : Int32) (v_n : Int32) (v_has : Int32) (v_known : Int32) (v_many : Int32) (v_printed : Int32) (f_wholes : Nat → Int32) (f_parts : Nat → Int32)  : Nat → Int32 → Int32 → (Nat → Int32) → Prop
  | 0 => fun _ _ _ => False
  | n + 1 => fun x2 x3 f_open => ((v_n ≤ x3 → ((narrow .boolean (.int x2) = .int x2 ∧ post x2 f_open))) ∧ (¬ v_n ≤ x3 → (((x2 = 0 → ((vp_in x3 40 ∧ ((((f_open x3.toNatClampNeg) = 0 → (wp_Model_isStuck_170 post v_thrown v_n v_has v_known v_many v_printed f_wholes f_parts (wp_Model_isStuck_152 post v_thrown v_n v_has v_known v_many v_printed f_wholes f_parts n) x3 f_open)) ∧ (¬ (f_open x3.toNatClampNeg) = 0 → (wp_Model_isStuck_175 post v_thrown v_n v_has v_known v_many v_printed f_wholes f_parts (wp_Model_isStuck_152 post v_thrown v_n v_has v_known v_many v_printed f_wholes f_parts n) x3 0 f_open))))))) ∧ (¬ x2 = 0 → (wp_Model_isStuck_170 post v_thrown v_n v_has v_known v_many v_printed f_wholes f_parts (wp_Model_isStuck_152 post v_thrown v_n v_has v_known v_many v_printed f_wholes f_parts n) x3 f_open))))))
def wp_Model_isStuck_129 (post : Int32 → (Nat → Int32) → Prop) (v_thrown : Int32) (v_n : Int32) (v_has : Int32) (v_known : Int32) (v_many : Int32) (v_printed : Int32) (f_wholes : Nat → Int32) (f_parts : Nat → Int32) (K64 : Int32 → (Nat → Int32) → Prop) (K74 : Int32 → Int32 → (Nat → Int32) → Prop) (K85 : Int32 → Int32 → Int32 → (Nat → Int32) → Prop) (x2 : Int32) (x3 : Int32) (x4 : Int32) (y1 : Int32) (y2 : Int32) (f_open : Nat → Int32) : Prop := (vp_in y1 40 ∧ (∀ x4_15 : Int32, x4_15 = x4 + 1 → K85 x2 x3 x4_15 (upd f_open y1.toNatClampNeg (vp_nar .boolean y2))))
def wp_Model_isStuck_124 (post : Int32 → (Nat → Int32) → Prop) (v_thrown : Int32) (v_n : Int32) (v_has : Int32) (v_known : Int32) (v_many : Int32) (v_printed : Int32) (f_wholes : Nat → Int32) (f_parts : Nat → Int32) (K64 : Int32 → (Nat → Int32) → Prop) (K74 : Int32 → Int32 → (Nat → Int32) → Prop) (K85 : Int32 → Int32 → Int32 → (Nat → Int32) → Prop) (x2 : Int32) (x3 : Int32) (x4 : Int32) (y1 : Int32) (f_open : Nat → Int32) : Prop := wp_Model_isStuck_129 post v_thrown v_n v_has v_known v_many v_printed f_wholes f_parts K64 K74 K85 x2 x3 x4 y1 1 f_open
def wp_Model_isStuck_128 (post : Int32 → (Nat → Int32) → Prop) (v_thrown : Int32) (v_n : Int32) (v_has : Int32) (v_known : Int32) (v_many : Int32) (v_printed : Int32) (f_wholes : Nat → Int32) (f_parts : Nat → Int32) (K64 : Int32 → (Nat → Int32) → Prop) (K74 : Int32 → Int32 → (Nat → Int32) → Prop) (K85 : Int32 → Int32 → Int32 → (Nat → Int32) → Prop) (x2 : Int32) (x3 : Int32) (x4 : Int32) (y1 : Int32) (f_open : Nat → Int32) : Prop := wp_Model_isStuck_129 post v_thrown v_n v_has v_known v_many v_printed f_wholes f_parts K64 K74 K85 x2 x3 x4 y1 0 f_open
def wp_Model_isStuck_85 (post : Int32 → (Nat → Int32) → Prop) (v_thrown : Int32) (v_n : Int32) (v_has : Int32) (v_known : Int32) (v_many : Int32) (v_printed : Int32) (f_wholes : Nat → Int32) (f_parts : Nat → Int32) (K64 : Int32 → (Nat → Int32) → Prop) (K74 : Int32 → Int32 → (Nat → Int32) → Prop) : Nat → Int32 → Int32 → Int32 → (Nat → Int32) → Prop
  | 0 => fun _ _ _ _ => False
  | n + 1 => fun x2 x3 x4 f_open => ((v_n ≤ x4 → (∀ x3_11 : Int32, x3_11 = x3 + 1 → K74 x2 x3_11 f_open)) ∧ (¬ v_n ≤ x4 → ((vp_in x3 40 ∧ ((((f_open x3.toNatClampNeg) = 0 → ((vp_in ((41 * x3) + x4) 1640 ∧ ((((f_parts ((41 * x3) + x4).toNatClampNeg) ≤ 0 → (wp_Model_isStuck_128 post v_thrown v_n v_has v_known v_many v_printed f_wholes f_parts K64 K74 (wp_Model_isStuck_85 post v_thrown v_n v_has v_known v_many v_printed f_wholes f_parts K64 K74 n) x2 x3 x4 x3 f_open)) ∧ (¬ (f_parts ((41 * x3) + x4).toNatClampNeg) ≤ 0 → ((vp_in x4 40 ∧ ((((f_open x4.toNatClampNeg) = 0 → (wp_Model_isStuck_128 post v_thrown v_n v_has v_known v_many v_printed f_wholes f_parts K64 K74 (wp_Model_isStuck_85 post v_thrown v_n v_has v_known v_many v_printed f_wholes f_parts K64 K74 n) x2 x3 x4 x3 f_open)) ∧ (¬ (f_open x4.toNatClampNeg) = 0 → (wp_Model_isStuck_124 post v_thrown v_n v_has v_known v_many v_printed f_wholes f_parts K64 K74 (wp_Model_isStuck_85 post v_thrown v_n v_has v_known v_many v_printed f_wholes f_parts K64 K74 n) x2 x3 x4 x3 f_open)))))))))))) ∧ (¬ (f_open x3.toNatClampNeg) = 0 → (wp_Model_isStuck_124 post v_thrown v_n v_has v_known v_many v_printed f_wholes f_parts K64 K74 (wp_Model_isStuck_85 post v_thrown v_n v_has v_known v_many v_printed f_wholes f_parts K64 K74 n) x2 x3 x4 x3 f_open))))))))
def wp_Model_isStuck_74 (post : Int32 → (Nat → Int32) → Prop) (v_thrown : Int32) (v_n : Int32) (v_has : Int32) (v_known : Int32) (v_many : Int32) (v_printed : Int32) (f_wholes : Nat → Int32) (f_parts : Nat → Int32) (K64 : Int32 → (Nat → Int32) → Prop) : Nat → Int32 → Int32 → (Nat → Int32) → Prop
  | 0 => fun _ _ _ => False
  | n + 1 => fun x2 x3 f_open => ((v_n ≤ x3 → (∀ x2_9 : Int32, x2_9 = x2 + 1 → K64 x2_9 f_open)) ∧ (¬ v_n ≤ x3 → (∃ k9, wp_Model_isStuck_85 post v_thrown v_n v_has v_known v_many v_printed f_wholes f_parts K64 (wp_Model_isStuck_74 post v_thrown v_n v_has v_known v_many v_printed f_wholes f_parts K64 n) k9 x2 x3 0 f_open)))
def wp_Model_isStuck_64 (post : Int32 → (Nat → Int32) → Prop) (v_thrown : Int32) (v_n : Int32) (v_has : Int32) (v_known : Int32) (v_many : Int32) (v_printed : Int32) (f_wholes : Nat → Int32) (f_parts : Nat → Int32)  : Nat → Int32 → (Nat → Int32) → Prop
  | 0 => fun _ _ => False
  | n + 1 => fun x2 f_open => ((v_n ≤ x2 → (∃ k9, wp_Model_isStuck_152 post v_thrown v_n v_has v_known v_many v_printed f_wholes f_parts k9 0 0 f_open)) ∧ (¬ v_n ≤ x2 → (∃ k9, wp_Model_isStuck_74 post v_thrown v_n v_has v_known v_many v_printed f_wholes f_parts (wp_Model_isStuck_64 post v_thrown v_n v_has v_known v_many v_printed f_wholes f_parts n) k9 x2 0 f_open)))
def wp_Model_isStuck_55 (post : Int32 → (Nat → Int32) → Prop) (v_thrown : Int32) (v_n : Int32) (v_has : Int32) (v_known : Int32) (v_many : Int32) (v_printed : Int32) (f_wholes : Nat → Int32) (f_parts : Nat → Int32) (K7 : Int32 → (Nat → Int32) → Prop) (x2 : Int32) (y1 : Int32) (y2 : Int32) (f_open : Nat → Int32) : Prop := (vp_in y1 40 ∧ (∀ x2_23 : Int32, x2_23 = x2 + 1 → K7 x2_23 (upd f_open y1.toNatClampNeg (vp_nar .boolean y2))))
def wp_Model_isStuck_50 (post : Int32 → (Nat → Int32) → Prop) (v_thrown : Int32) (v_n : Int32) (v_has : Int32) (v_known : Int32) (v_many : Int32) (v_printed : Int32) (f_wholes : Nat → Int32) (f_parts : Nat → Int32) (K7 : Int32 → (Nat → Int32) → Prop) (x2 : Int32) (y1 : Int32) (f_open : Nat → Int32) : Prop := wp_Model_isStuck_55 post v_thrown v_n v_has v_known v_many v_printed f_wholes f_parts K7 x2 y1 1 f_open
def wp_Model_isStuck_7 (post : Int32 → (Nat → Int32) → Prop) (v_thrown : Int32) (v_n : Int32) (v_has : Int32) (v_known : Int32) (v_many : Int32) (v_printed : Int32) (f_wholes : Nat → Int32) (f_parts : Nat → Int32)  : Nat → Int32 → (Nat → Int32) → Prop
  | 0 => fun _ _ => False
  | n + 1 => fun x2 f_open => ((v_n ≤ x2 → (∃ k9, wp_Model_isStuck_64 post v_thrown v_n v_has v_known v_many v_printed f_wholes f_parts k9 0 f_open)) ∧ (¬ v_n ≤ x2 → ((vp_in ((41 * x2) + v_n) 1640 ∧ (((0 < (f_parts ((41 * x2) + v_n).toNatClampNeg) → (wp_Model_isStuck_50 post v_thrown v_n v_has v_known v_many v_printed f_wholes f_parts (wp_Model_isStuck_7 post v_thrown v_n v_has v_known v_many v_printed f_wholes f_parts n) x2 x2 f_open)) ∧ (¬ 0 < (f_parts ((41 * x2) + v_n).toNatClampNeg) → (wp_Model_together (fun r_24 => (vp_in x2 40 ∧ (((0 ≤ (lg_cmp r_24 ((f_wholes x2.toNatClampNeg).toInt64)) → (wp_Model_isStuck_55 post v_thrown v_n v_has v_known v_many v_printed f_wholes f_parts (wp_Model_isStuck_7 post v_thrown v_n v_has v_known v_many v_printed f_wholes f_parts n) x2 x2 0 f_open)) ∧ (¬ 0 ≤ (lg_cmp r_24 ((f_wholes x2.toNatClampNeg).toInt64)) → (wp_Model_isStuck_50 post v_thrown v_n v_has v_known v_many v_printed f_wholes f_parts (wp_Model_isStuck_7 post v_thrown v_n v_has v_known v_many v_printed f_wholes f_parts n) x2 x2 f_open)))))) v_thrown v_n v_has v_known v_many v_printed f_parts x2))))))))
def wp_Model_isStuck (post : Int32 → (Nat → Int32) → Prop) (v_thrown : Int32) (v_n : Int32) (v_has : Int32) (v_known : Int32) (v_many : Int32) (v_printed : Int32) (f_wholes : Nat → Int32) (f_parts : Nat → Int32)  (f_open : Nat → Int32) : Prop := ∃ k9, wp_Model_isStuck_7 post v_thrown v_n v_has v_known v_many v_printed f_wholes f_parts k9 0 f_open
section
variable {p : Program} {l : Launch} {e : Env} {s : State} {m : MethodId} {args : Array Value} {below : List Frame} {meth : Method} {c : Code} {Q : State → Prop} {A : Nat → Prop} {D : va_G} {cT : Nat → ClassId}
set_option maxHeartbeats 4000000 in
set_option maxRecDepth 100000 in
theorem tw_Model_isStuck_175 {post : Int32 → (Nat → Int32) → Prop} {h_m h_mwholes h_mparts h_mopen h_mknown31 h_mprimes h_mrests h_mrows h_mdigits h_mz h_mout : Nat} {v_thrown : Int32} {v_n : Int32} {v_has : Int32} {v_known : Int32} {v_many : Int32} {v_printed : Int32} {f_wholes : Nat → Int32} {f_parts : Nat → Int32} {K152 : Int32 → Int32 → (Nat → Int32) → Prop} (C0 : cx RX8 cX8_isStuck 5 D cT p s m c args) (hA : ∀ q, s.heap.size ≤ q → A q) (hret : ∀ (r : Int32) (f_open : Nat → Int32) (H : Heap) (locs : List Loc) (pc : Nat) (ls : Array Slot), narrow .boolean (.int r) = .int r → post r f_open → va_P D vwCl [(h_m, .inr (8, [.int v_thrown, .int v_n, .ref h_mwholes, .ref h_mparts, .int v_has, .int v_known, .ref h_mknown31, .int v_many, .ref h_mprimes, .ref h_mrests, .ref h_mrows, .ref h_mdigits, .ref h_mz, .ref h_mout, .int v_printed, .ref h_mopen])), (h_mwholes, .inl (cT 0, 40, .inl f_wholes)), (h_mparts, .inl (cT 0, 1640, .inl f_parts)), (h_mopen, .inl (cT 2, 40, .inl f_open))] H → va_D A [(h_m, .inr (8, [.int v_thrown, .int v_n, .ref h_mwholes, .ref h_mparts, .int v_has, .int v_known, .ref h_mknown31, .int v_many, .ref h_mprimes, .ref h_mrests, .ref h_mrows, .ref h_mdigits, .ref h_mz, .ref h_mout, .int v_printed, .ref h_mopen])), (h_mwholes, .inl (cT 0, 40, .inl f_wholes)), (h_mparts, .inl (cT 0, 1640, .inl f_parts)), (h_mopen, .inl (cT 2, 40, .inl f_open))] → va_S A s.heap H locs → decode cX8_isStuck pc = .ok (.ireturn, 1) → W p l e ({ frames := 1, cells := 0, slots := 0, locals := 24 } : Room) s m args below meth c H locs 0 0 Q (F0 m pc ls [.int r])) (hK152 : ∀ (x2 : Int32) (x3 : Int32) (f_open : Nat → Int32) (H : Heap) (locs : List Loc) (ls : Array Slot), va_P D vwCl [(h_m, .inr (8, [.int v_thrown, .int v_n, .ref h_mwholes, .ref h_mparts, .int v_has, .int v_known, .ref h_mknown31, .int v_many, .ref h_mprimes, .ref h_mrests, .ref h_mrows, .ref h_mdigits, .ref h_mz, .ref h_mout, .int v_printed, .ref h_mopen])), (h_mwholes, .inl (cT 0, 40, .inl f_wholes)), (h_mparts, .inl (cT 0, 1640, .inl f_parts)), (h_mopen, .inl (cT 2, 40, .inl f_open))] H → va_D A [(h_m, .inr (8, [.int v_thrown, .int v_n, .ref h_mwholes, .ref h_mparts, .int v_has, .int v_known, .ref h_mknown31, .int v_many, .ref h_mprimes, .ref h_mrests, .ref h_mrows, .ref h_mdigits, .ref h_mz, .ref h_mout, .int v_printed, .ref h_mopen])), (h_mwholes, .inl (cT 0, 40, .inl f_wholes)), (h_mparts, .inl (cT 0, 1640, .inl f_parts)), (h_mopen, .inl (cT 2, 40, .inl f_open))] → va_S A s.heap H locs → lv_has ls 5 [(0, .ref h_m), (1, .ref h_mopen), (2, .int x2), (3, .int x3)] → K152 x2 x3 f_open → W p l e ({ frames := 1, cells := 0, slots := 0, locals := 24 } : Room) s m args below meth c H locs 0 0 Q (F0 m 152 ls [])) : ∀ (x3 : Int32) (y0 : Int32) (f_open : Nat → Int32) (H : Heap) (locs : List Loc) (ls : Array Slot), va_P D vwCl [(h_m, .inr (8, [.int v_thrown, .int v_n, .ref h_mwholes, .ref h_mparts, .int v_has, .int v_known, .ref h_mknown31, .int v_many, .ref h_mprimes, .ref h_mrests, .ref h_mrows, .ref h_mdigits, .ref h_mz, .ref h_mout, .int v_printed, .ref h_mopen])), (h_mwholes, .inl (cT 0, 40, .inl f_wholes)), (h_mparts, .inl (cT 0, 1640, .inl f_parts)), (h_mopen, .inl (cT 2, 40, .inl f_open))] H → va_D A [(h_m, .inr (8, [.int v_thrown, .int v_n, .ref h_mwholes, .ref h_mparts, .int v_has, .int v_known, .ref h_mknown31, .int v_many, .ref h_mprimes, .ref h_mrests, .ref h_mrows, .ref h_mdigits, .ref h_mz, .ref h_mout, .int v_printed, .ref h_mopen])), (h_mwholes, .inl (cT 0, 40, .inl f_wholes)), (h_mparts, .inl (cT 0, 1640, .inl f_parts)), (h_mopen, .inl (cT 2, 40, .inl f_open))] → va_S A s.heap H locs → lv_has ls 5 [(0, .ref h_m), (1, .ref h_mopen), (3, .int x3)] → wp_Model_isStuck_175 post v_thrown v_n v_has v_known v_many v_printed f_wholes f_parts K152 x3 y0 f_open → W p l e ({ frames := 1, cells := 0, slots := 0, locals := 24 } : Room) s m args below meth c H locs 0 0 Q (F0 m 175 ls [.int y0]) := by
  obtain ⟨⟨hx, hb, hml, hown, hts⟩, hK, hN⟩ := id C0
  intro x3 y0 f_open H locs ls hP hD hS hl hw
  unfold wp_Model_isStuck_175 at hw
  refine lv_istore_n (lv' := [(2, .int y0), (0, .ref h_m), (1, .ref h_mopen), (3, .int x3)]) hx hb dX8_isStuck_175 rfl hl (by decide) rfl (fun ls hl => ?_)
  obtain ⟨x3_5, ex3_5⟩ : ∃ y : Int32, y = x3 + 1 := ⟨_, rfl⟩
  refine lv_iinc (v := x3_5) (lv' := [(3, .int x3_5), (2, .int y0), (0, .ref h_m), (1, .ref h_mopen)]) hx hb dX8_isStuck_176 hl (k := 3) rfl (by rw [ex3_5]; rfl) (by decide) rfl (fun ls hl => ?_)
  have hw := hw x3_5 ex3_5
  refine lv_goto (tgt := 152) hx hb dX8_isStuck_179 (by decide) ?_
  exact hK152 _ _ _ _ _ _ hP hD hS (lv_sub hl [2, 3, 1, 0] rfl) hw
set_option maxHeartbeats 4000000 in
set_option maxRecDepth 100000 in
theorem tw_Model_isStuck_170 {post : Int32 → (Nat → Int32) → Prop} {h_m h_mwholes h_mparts h_mopen h_mknown31 h_mprimes h_mrests h_mrows h_mdigits h_mz h_mout : Nat} {v_thrown : Int32} {v_n : Int32} {v_has : Int32} {v_known : Int32} {v_many : Int32} {v_printed : Int32} {f_wholes : Nat → Int32} {f_parts : Nat → Int32} {K152 : Int32 → Int32 → (Nat → Int32) → Prop} (C0 : cx RX8 cX8_isStuck 5 D cT p s m c args) (hA : ∀ q, s.heap.size ≤ q → A q) (hret : ∀ (r : Int32) (f_open : Nat → Int32) (H : Heap) (locs : List Loc) (pc : Nat) (ls : Array Slot), narrow .boolean (.int r) = .int r → post r f_open → va_P D vwCl [(h_m, .inr (8, [.int v_thrown, .int v_n, .ref h_mwholes, .ref h_mparts, .int v_has, .int v_known, .ref h_mknown31, .int v_many, .ref h_mprimes, .ref h_mrests, .ref h_mrows, .ref h_mdigits, .ref h_mz, .ref h_mout, .int v_printed, .ref h_mopen])), (h_mwholes, .inl (cT 0, 40, .inl f_wholes)), (h_mparts, .inl (cT 0, 1640, .inl f_parts)), (h_mopen, .inl (cT 2, 40, .inl f_open))] H → va_D A [(h_m, .inr (8, [.int v_thrown, .int v_n, .ref h_mwholes, .ref h_mparts, .int v_has, .int v_known, .ref h_mknown31, .int v_many, .ref h_mprimes, .ref h_mrests, .ref h_mrows, .ref h_mdigits, .ref h_mz, .ref h_mout, .int v_printed, .ref h_mopen])), (h_mwholes, .inl (cT 0, 40, .inl f_wholes)), (h_mparts, .inl (cT 0, 1640, .inl f_parts)), (h_mopen, .inl (cT 2, 40, .inl f_open))] → va_S A s.heap H locs → decode cX8_isStuck pc = .ok (.ireturn, 1) → W p l e ({ frames := 1, cells := 0, slots := 0, locals := 24 } : Room) s m args below meth c H locs 0 0 Q (F0 m pc ls [.int r])) (hK152 : ∀ (x2 : Int32) (x3 : Int32) (f_open : Nat → Int32) (H : Heap) (locs : List Loc) (ls : Array Slot), va_P D vwCl [(h_m, .inr (8, [.int v_thrown, .int v_n, .ref h_mwholes, .ref h_mparts, .int v_has, .int v_known, .ref h_mknown31, .int v_many, .ref h_mprimes, .ref h_mrests, .ref h_mrows, .ref h_mdigits, .ref h_mz, .ref h_mout, .int v_printed, .ref h_mopen])), (h_mwholes, .inl (cT 0, 40, .inl f_wholes)), (h_mparts, .inl (cT 0, 1640, .inl f_parts)), (h_mopen, .inl (cT 2, 40, .inl f_open))] H → va_D A [(h_m, .inr (8, [.int v_thrown, .int v_n, .ref h_mwholes, .ref h_mparts, .int v_has, .int v_known, .ref h_mknown31, .int v_many, .ref h_mprimes, .ref h_mrests, .ref h_mrows, .ref h_mdigits, .ref h_mz, .ref h_mout, .int v_printed, .ref h_mopen])), (h_mwholes, .inl (cT 0, 40, .inl f_wholes)), (h_mparts, .inl (cT 0, 1640, .inl f_parts)), (h_mopen, .inl (cT 2, 40, .inl f_open))] → va_S A s.heap H locs → lv_has ls 5 [(0, .ref h_m), (1, .ref h_mopen), (2, .int x2), (3, .int x3)] → K152 x2 x3 f_open → W p l e ({ frames := 1, cells := 0, slots := 0, locals := 24 } : Room) s m args below meth c H locs 0 0 Q (F0 m 152 ls [])) : ∀ (x3 : Int32) (f_open : Nat → Int32) (H : Heap) (locs : List Loc) (ls : Array Slot), va_P D vwCl [(h_m, .inr (8, [.int v_thrown, .int v_n, .ref h_mwholes, .ref h_mparts, .int v_has, .int v_known, .ref h_mknown31, .int v_many, .ref h_mprimes, .ref h_mrests, .ref h_mrows, .ref h_mdigits, .ref h_mz, .ref h_mout, .int v_printed, .ref h_mopen])), (h_mwholes, .inl (cT 0, 40, .inl f_wholes)), (h_mparts, .inl (cT 0, 1640, .inl f_parts)), (h_mopen, .inl (cT 2, 40, .inl f_open))] H → va_D A [(h_m, .inr (8, [.int v_thrown, .int v_n, .ref h_mwholes, .ref h_mparts, .int v_has, .int v_known, .ref h_mknown31, .int v_many, .ref h_mprimes, .ref h_mrests, .ref h_mrows, .ref h_mdigits, .ref h_mz, .ref h_mout, .int v_printed, .ref h_mopen])), (h_mwholes, .inl (cT 0, 40, .inl f_wholes)), (h_mparts, .inl (cT 0, 1640, .inl f_parts)), (h_mopen, .inl (cT 2, 40, .inl f_open))] → va_S A s.heap H locs → lv_has ls 5 [(0, .ref h_m), (1, .ref h_mopen), (3, .int x3)] → wp_Model_isStuck_170 post v_thrown v_n v_has v_known v_many v_printed f_wholes f_parts K152 x3 f_open → W p l e ({ frames := 1, cells := 0, slots := 0, locals := 24 } : Room) s m args below meth c H locs 0 0 Q (F0 m 170 ls []) := by
  obtain ⟨⟨hx, hb, hml, hown, hts⟩, hK, hN⟩ := id C0
  intro x3 f_open H locs ls hP hD hS hl hw
  unfold wp_Model_isStuck_170 at hw
  refine lv_iconst (v := 1) hx hb dX8_isStuck_170 (by decide) ?_
  refine lv_goto (tgt := 175) hx hb dX8_isStuck_171 (by decide) ?_
  exact tw_Model_isStuck_175 C0 hA hret hK152 _ _ _ _ _ _ hP hD hS (lv_sub hl [0, 1, 2] rfl) hw
set_option maxHeartbeats 4000000 in
set_option maxRecDepth 100000 in
theorem tw_Model_isStuck_152 {post : Int32 → (Nat → Int32) → Prop} {h_m h_mwholes h_mparts h_mopen h_mknown31 h_mprimes h_mrests h_mrows h_mdigits h_mz h_mout : Nat} {v_thrown : Int32} {v_n : Int32} {v_has : Int32} {v_known : Int32} {v_many : Int32} {v_printed : Int32} {f_wholes : Nat → Int32} {f_parts : Nat → Int32}  (C0 : cx RX8 cX8_isStuck 5 D cT p s m c args) (hA : ∀ q, s.heap.size ≤ q → A q) (hret : ∀ (r : Int32) (f_open : Nat → Int32) (H : Heap) (locs : List Loc) (pc : Nat) (ls : Array Slot), narrow .boolean (.int r) = .int r → post r f_open → va_P D vwCl [(h_m, .inr (8, [.int v_thrown, .int v_n, .ref h_mwholes, .ref h_mparts, .int v_has, .int v_known, .ref h_mknown31, .int v_many, .ref h_mprimes, .ref h_mrests, .ref h_mrows, .ref h_mdigits, .ref h_mz, .ref h_mout, .int v_printed, .ref h_mopen])), (h_mwholes, .inl (cT 0, 40, .inl f_wholes)), (h_mparts, .inl (cT 0, 1640, .inl f_parts)), (h_mopen, .inl (cT 2, 40, .inl f_open))] H → va_D A [(h_m, .inr (8, [.int v_thrown, .int v_n, .ref h_mwholes, .ref h_mparts, .int v_has, .int v_known, .ref h_mknown31, .int v_many, .ref h_mprimes, .ref h_mrests, .ref h_mrows, .ref h_mdigits, .ref h_mz, .ref h_mout, .int v_printed, .ref h_mopen])), (h_mwholes, .inl (cT 0, 40, .inl f_wholes)), (h_mparts, .inl (cT 0, 1640, .inl f_parts)), (h_mopen, .inl (cT 2, 40, .inl f_open))] → va_S A s.heap H locs → decode cX8_isStuck pc = .ok (.ireturn, 1) → W p l e ({ frames := 1, cells := 0, slots := 0, locals := 24 } : Room) s m args below meth c H locs 0 0 Q (F0 m pc ls [.int r]))  : ∀ (n : Nat) (x2 : Int32) (x3 : Int32) (f_open : Nat → Int32) (H : Heap) (locs : List Loc) (ls : Array Slot), va_P D vwCl [(h_m, .inr (8, [.int v_thrown, .int v_n, .ref h_mwholes, .ref h_mparts, .int v_has, .int v_known, .ref h_mknown31, .int v_many, .ref h_mprimes, .ref h_mrests, .ref h_mrows, .ref h_mdigits, .ref h_mz, .ref h_mout, .int v_printed, .ref h_mopen])), (h_mwholes, .inl (cT 0, 40, .inl f_wholes)), (h_mparts, .inl (cT 0, 1640, .inl f_parts)), (h_mopen, .inl (cT 2, 40, .inl f_open))] H → va_D A [(h_m, .inr (8, [.int v_thrown, .int v_n, .ref h_mwholes, .ref h_mparts, .int v_has, .int v_known, .ref h_mknown31, .int v_many, .ref h_mprimes, .ref h_mrests, .ref h_mrows, .ref h_mdigits, .ref h_mz, .ref h_mout, .int v_printed, .ref h_mopen])), (h_mwholes, .inl (cT 0, 40, .inl f_wholes)), (h_mparts, .inl (cT 0, 1640, .inl f_parts)), (h_mopen, .inl (cT 2, 40, .inl f_open))] → va_S A s.heap H locs → lv_has ls 5 [(0, .ref h_m), (1, .ref h_mopen), (2, .int x2), (3, .int x3)] → wp_Model_isStuck_152 post v_thrown v_n v_has v_known v_many v_printed f_wholes f_parts n x2 x3 f_open → W p l e ({ frames := 1, cells := 0, slots := 0, locals := 24 } : Room) s m args below meth c H locs 0 0 Q (F0 m 152 ls []) := by
  obtain ⟨⟨hx, hb, hml, hown, hts⟩, hK, hN⟩ := id C0
  intro n
  induction n with
  | zero => intro x2 x3 f_open H locs ls hP hD hS hl hw; exact hw.elim
  | succ n ih =>
    intro x2 x3 f_open H locs ls hP hD hS hl hw
    unfold wp_Model_isStuck_152 at hw
    refine lv_iload_n hx hb dX8_isStuck_152 rfl (lv_at hl 3 rfl) ?_
    refine lv_aload_n hx hb dX8_isStuck_153 rfl (lv_at hl 0 rfl) ?_
    refine va_get (D := D) (ci := 8) (v := .int v_n) (C := RX8) (T := TX8) (N := 16) hx hb hts inX8 hown hK hP 0 rfl rfl 1 (by decide) (hts _ q_584) (fun _ h9 => h9) rfl dX8_isStuck_154 ?_
    refine lv_icmp_ge (tgt := 182) hx hb dX8_isStuck_157 (by decide) (fun c_3 => ?_) (fun c_3 => ?_)
    · have hw := hw.1 c_3
      refine lv_iload_n hx hb dX8_isStuck_182 rfl (lv_at hl 2 rfl) ?_
      exact hret _ _ _ _ _ _ hw.1 hw.2 hP hD hS dX8_isStuck_183
    · have hw := hw.2 c_3
      refine lv_iload_n hx hb dX8_isStuck_160 rfl (lv_at hl 2 rfl) ?_
      refine lv_if_ne (tgt := 170) hx hb dX8_isStuck_161 (by decide) (fun c_4 => ?_) (fun c_4 => ?_)
      · have hw := hw.2 c_4
        exact tw_Model_isStuck_170 C0 hA hret ih _ _ _ _ _ hP hD hS (lv_sub hl [0, 1, 3] rfl) hw
      · have hw := hw.1 c_4
        refine lv_aload_n hx hb dX8_isStuck_164 rfl (lv_at hl 1 rfl) ?_
        refine lv_iload_n hx hb dX8_isStuck_165 rfl (lv_at hl 3 rfl) ?_
        obtain ⟨h_6, hw⟩ := hw
        refine va_zald hx hb hK hP 3 2 rfl rfl h_6 dX8_isStuck_166 ?_
        refine lv_if_ne (tgt := 174) hx hb dX8_isStuck_167 (by decide) (fun c_7 => ?_) (fun c_7 => ?_)
        · have hw := hw.2 c_7
          refine lv_iconst (v := 0) hx hb dX8_isStuck_174 (by decide) ?_
          exact tw_Model_isStuck_175 C0 hA hret ih _ _ _ _ _ _ hP hD hS (lv_sub hl [0, 1, 3] rfl) hw
        · have hw := hw.1 c_7
          exact tw_Model_isStuck_170 C0 hA hret ih _ _ _ _ _ hP hD hS (lv_sub hl [0, 1, 3] rfl) hw
set_option maxHeartbeats 4000000 in
set_option maxRecDepth 100000 in
theorem tw_Model_isStuck_129 {post : Int32 → (Nat → Int32) → Prop} {h_m h_mwholes h_mparts h_mopen h_mknown31 h_mprimes h_mrests h_mrows h_mdigits h_mz h_mout : Nat} {v_thrown : Int32} {v_n : Int32} {v_has : Int32} {v_known : Int32} {v_many : Int32} {v_printed : Int32} {f_wholes : Nat → Int32} {f_parts : Nat → Int32} {K64 : Int32 → (Nat → Int32) → Prop} {K74 : Int32 → Int32 → (Nat → Int32) → Prop} {K85 : Int32 → Int32 → Int32 → (Nat → Int32) → Prop} (C0 : cx RX8 cX8_isStuck 5 D cT p s m c args) (hA : ∀ q, s.heap.size ≤ q → A q) (hret : ∀ (r : Int32) (f_open : Nat → Int32) (H : Heap) (locs : List Loc) (pc : Nat) (ls : Array Slot), narrow .boolean (.int r) = .int r → post r f_open → va_P D vwCl [(h_m, .inr (8, [.int v_thrown, .int v_n, .ref h_mwholes, .ref h_mparts, .int v_has, .int v_known, .ref h_mknown31, .int v_many, .ref h_mprimes, .ref h_mrests, .ref h_mrows, .ref h_mdigits, .ref h_mz, .ref h_mout, .int v_printed, .ref h_mopen])), (h_mwholes, .inl (cT 0, 40, .inl f_wholes)), (h_mparts, .inl (cT 0, 1640, .inl f_parts)), (h_mopen, .inl (cT 2, 40, .inl f_open))] H → va_D A [(h_m, .inr (8, [.int v_thrown, .int v_n, .ref h_mwholes, .ref h_mparts, .int v_has, .int v_known, .ref h_mknown31, .int v_many, .ref h_mprimes, .ref h_mrests, .ref h_mrows, .ref h_mdigits, .ref h_mz, .ref h_mout, .int v_printed, .ref h_mopen])), (h_mwholes, .inl (cT 0, 40, .inl f_wholes)), (h_mparts, .inl (cT 0, 1640, .inl f_parts)), (h_mopen, .inl (cT 2, 40, .inl f_open))] → va_S A s.heap H locs → decode cX8_isStuck pc = .ok (.ireturn, 1) → W p l e ({ frames := 1, cells := 0, slots := 0, locals := 24 } : Room) s m args below meth c H locs 0 0 Q (F0 m pc ls [.int r])) (hK64 : ∀ (x2 : Int32) (f_open : Nat → Int32) (H : Heap) (locs : List Loc) (ls : Array Slot), va_P D vwCl [(h_m, .inr (8, [.int v_thrown, .int v_n, .ref h_mwholes, .ref h_mparts, .int v_has, .int v_known, .ref h_mknown31, .int v_many, .ref h_mprimes, .ref h_mrests, .ref h_mrows, .ref h_mdigits, .ref h_mz, .ref h_mout, .int v_printed, .ref h_mopen])), (h_mwholes, .inl (cT 0, 40, .inl f_wholes)), (h_mparts, .inl (cT 0, 1640, .inl f_parts)), (h_mopen, .inl (cT 2, 40, .inl f_open))] H → va_D A [(h_m, .inr (8, [.int v_thrown, .int v_n, .ref h_mwholes, .ref h_mparts, .int v_has, .int v_known, .ref h_mknown31, .int v_many, .ref h_mprimes, .ref h_mrests, .ref h_mrows, .ref h_mdigits, .ref h_mz, .ref h_mout, .int v_printed, .ref h_mopen])), (h_mwholes, .inl (cT 0, 40, .inl f_wholes)), (h_mparts, .inl (cT 0, 1640, .inl f_parts)), (h_mopen, .inl (cT 2, 40, .inl f_open))] → va_S A s.heap H locs → lv_has ls 5 [(0, .ref h_m), (1, .ref h_mopen), (2, .int x2)] → K64 x2 f_open → W p l e ({ frames := 1, cells := 0, slots := 0, locals := 24 } : Room) s m args below meth c H locs 0 0 Q (F0 m 64 ls [])) (hK74 : ∀ (x2 : Int32) (x3 : Int32) (f_open : Nat → Int32) (H : Heap) (locs : List Loc) (ls : Array Slot), va_P D vwCl [(h_m, .inr (8, [.int v_thrown, .int v_n, .ref h_mwholes, .ref h_mparts, .int v_has, .int v_known, .ref h_mknown31, .int v_many, .ref h_mprimes, .ref h_mrests, .ref h_mrows, .ref h_mdigits, .ref h_mz, .ref h_mout, .int v_printed, .ref h_mopen])), (h_mwholes, .inl (cT 0, 40, .inl f_wholes)), (h_mparts, .inl (cT 0, 1640, .inl f_parts)), (h_mopen, .inl (cT 2, 40, .inl f_open))] H → va_D A [(h_m, .inr (8, [.int v_thrown, .int v_n, .ref h_mwholes, .ref h_mparts, .int v_has, .int v_known, .ref h_mknown31, .int v_many, .ref h_mprimes, .ref h_mrests, .ref h_mrows, .ref h_mdigits, .ref h_mz, .ref h_mout, .int v_printed, .ref h_mopen])), (h_mwholes, .inl (cT 0, 40, .inl f_wholes)), (h_mparts, .inl (cT 0, 1640, .inl f_parts)), (h_mopen, .inl (cT 2, 40, .inl f_open))] → va_S A s.heap H locs → lv_has ls 5 [(0, .ref h_m), (1, .ref h_mopen), (2, .int x2), (3, .int x3)] → K74 x2 x3 f_open → W p l e ({ frames := 1, cells := 0, slots := 0, locals := 24 } : Room) s m args below meth c H locs 0 0 Q (F0 m 74 ls [])) (hK85 : ∀ (x2 : Int32) (x3 : Int32) (x4 : Int32) (f_open : Nat → Int32) (H : Heap) (locs : List Loc) (ls : Array Slot), va_P D vwCl [(h_m, .inr (8, [.int v_thrown, .int v_n, .ref h_mwholes, .ref h_mparts, .int v_has, .int v_known, .ref h_mknown31, .int v_many, .ref h_mprimes, .ref h_mrests, .ref h_mrows, .ref h_mdigits, .ref h_mz, .ref h_mout, .int v_printed, .ref h_mopen])), (h_mwholes, .inl (cT 0, 40, .inl f_wholes)), (h_mparts, .inl (cT 0, 1640, .inl f_parts)), (h_mopen, .inl (cT 2, 40, .inl f_open))] H → va_D A [(h_m, .inr (8, [.int v_thrown, .int v_n, .ref h_mwholes, .ref h_mparts, .int v_has, .int v_known, .ref h_mknown31, .int v_many, .ref h_mprimes, .ref h_mrests, .ref h_mrows, .ref h_mdigits, .ref h_mz, .ref h_mout, .int v_printed, .ref h_mopen])), (h_mwholes, .inl (cT 0, 40, .inl f_wholes)), (h_mparts, .inl (cT 0, 1640, .inl f_parts)), (h_mopen, .inl (cT 2, 40, .inl f_open))] → va_S A s.heap H locs → lv_has ls 5 [(0, .ref h_m), (1, .ref h_mopen), (2, .int x2), (3, .int x3), (4, .int x4)] → K85 x2 x3 x4 f_open → W p l e ({ frames := 1, cells := 0, slots := 0, locals := 24 } : Room) s m args below meth c H locs 0 0 Q (F0 m 85 ls [])) : ∀ (x2 : Int32) (x3 : Int32) (x4 : Int32) (y1 : Int32) (y2 : Int32) (f_open : Nat → Int32) (H : Heap) (locs : List Loc) (ls : Array Slot), va_P D vwCl [(h_m, .inr (8, [.int v_thrown, .int v_n, .ref h_mwholes, .ref h_mparts, .int v_has, .int v_known, .ref h_mknown31, .int v_many, .ref h_mprimes, .ref h_mrests, .ref h_mrows, .ref h_mdigits, .ref h_mz, .ref h_mout, .int v_printed, .ref h_mopen])), (h_mwholes, .inl (cT 0, 40, .inl f_wholes)), (h_mparts, .inl (cT 0, 1640, .inl f_parts)), (h_mopen, .inl (cT 2, 40, .inl f_open))] H → va_D A [(h_m, .inr (8, [.int v_thrown, .int v_n, .ref h_mwholes, .ref h_mparts, .int v_has, .int v_known, .ref h_mknown31, .int v_many, .ref h_mprimes, .ref h_mrests, .ref h_mrows, .ref h_mdigits, .ref h_mz, .ref h_mout, .int v_printed, .ref h_mopen])), (h_mwholes, .inl (cT 0, 40, .inl f_wholes)), (h_mparts, .inl (cT 0, 1640, .inl f_parts)), (h_mopen, .inl (cT 2, 40, .inl f_open))] → va_S A s.heap H locs → lv_has ls 5 [(0, .ref h_m), (1, .ref h_mopen), (2, .int x2), (3, .int x3), (4, .int x4)] → wp_Model_isStuck_129 post v_thrown v_n v_has v_known v_many v_printed f_wholes f_parts K64 K74 K85 x2 x3 x4 y1 y2 f_open → W p l e ({ frames := 1, cells := 0, slots := 0, locals := 24 } : Room) s m args below meth c H locs 0 0 Q (F0 m 129 ls [.int y2, .int y1, .ref h_mopen]) := by
  obtain ⟨⟨hx, hb, hml, hown, hts⟩, hK, hN⟩ := id C0
  intro x2 x3 x4 y1 y2 f_open H locs ls hP hD hS hl hw
  unfold wp_Model_isStuck_129 at hw
  obtain ⟨h_14, hw⟩ := hw
  refine va_zast hx hb hK hP hD hS 3 2 rfl rfl h_14 dX8_isStuck_129 (fun H locs hP hD hS => ?_)
  have hP : va_P D vwCl [(h_m, .inr (8, [.int v_thrown, .int v_n, .ref h_mwholes, .ref h_mparts, .int v_has, .int v_known, .ref h_mknown31, .int v_many, .ref h_mprimes, .ref h_mrests, .ref h_mrows, .ref h_mdigits, .ref h_mz, .ref h_mout, .int v_printed, .ref h_mopen])), (h_mwholes, .inl (cT 0, 40, .inl f_wholes)), (h_mparts, .inl (cT 0, 1640, .inl f_parts)), (h_mopen, .inl (cT 2, 40, .inl (upd f_open y1.toNatClampNeg (vp_nar .boolean y2))))] H := hP
  have hD : va_D A [(h_m, .inr (8, [.int v_thrown, .int v_n, .ref h_mwholes, .ref h_mparts, .int v_has, .int v_known, .ref h_mknown31, .int v_many, .ref h_mprimes, .ref h_mrests, .ref h_mrows, .ref h_mdigits, .ref h_mz, .ref h_mout, .int v_printed, .ref h_mopen])), (h_mwholes, .inl (cT 0, 40, .inl f_wholes)), (h_mparts, .inl (cT 0, 1640, .inl f_parts)), (h_mopen, .inl (cT 2, 40, .inl (upd f_open y1.toNatClampNeg (vp_nar .boolean y2))))] := hD
  obtain ⟨x4_15, ex4_15⟩ : ∃ y : Int32, y = x4 + 1 := ⟨_, rfl⟩
  refine lv_iinc (v := x4_15) (lv' := [(4, .int x4_15), (0, .ref h_m), (1, .ref h_mopen), (2, .int x2), (3, .int x3)]) hx hb dX8_isStuck_130 hl (k := 4) rfl (by rw [ex4_15]; rfl) (by decide) rfl (fun ls hl => ?_)
  have hw := hw x4_15 ex4_15
  refine lv_goto (tgt := 85) hx hb dX8_isStuck_133 (by decide) ?_
  exact hK85 _ _ _ _ _ _ _ hP hD hS (lv_sub hl [1, 2, 3, 4, 0] rfl) hw
set_option maxHeartbeats 4000000 in
set_option maxRecDepth 100000 in
theorem tw_Model_isStuck_124 {post : Int32 → (Nat → Int32) → Prop} {h_m h_mwholes h_mparts h_mopen h_mknown31 h_mprimes h_mrests h_mrows h_mdigits h_mz h_mout : Nat} {v_thrown : Int32} {v_n : Int32} {v_has : Int32} {v_known : Int32} {v_many : Int32} {v_printed : Int32} {f_wholes : Nat → Int32} {f_parts : Nat → Int32} {K64 : Int32 → (Nat → Int32) → Prop} {K74 : Int32 → Int32 → (Nat → Int32) → Prop} {K85 : Int32 → Int32 → Int32 → (Nat → Int32) → Prop} (C0 : cx RX8 cX8_isStuck 5 D cT p s m c args) (hA : ∀ q, s.heap.size ≤ q → A q) (hret : ∀ (r : Int32) (f_open : Nat → Int32) (H : Heap) (locs : List Loc) (pc : Nat) (ls : Array Slot), narrow .boolean (.int r) = .int r → post r f_open → va_P D vwCl [(h_m, .inr (8, [.int v_thrown, .int v_n, .ref h_mwholes, .ref h_mparts, .int v_has, .int v_known, .ref h_mknown31, .int v_many, .ref h_mprimes, .ref h_mrests, .ref h_mrows, .ref h_mdigits, .ref h_mz, .ref h_mout, .int v_printed, .ref h_mopen])), (h_mwholes, .inl (cT 0, 40, .inl f_wholes)), (h_mparts, .inl (cT 0, 1640, .inl f_parts)), (h_mopen, .inl (cT 2, 40, .inl f_open))] H → va_D A [(h_m, .inr (8, [.int v_thrown, .int v_n, .ref h_mwholes, .ref h_mparts, .int v_has, .int v_known, .ref h_mknown31, .int v_many, .ref h_mprimes, .ref h_mrests, .ref h_mrows, .ref h_mdigits, .ref h_mz, .ref h_mout, .int v_printed, .ref h_mopen])), (h_mwholes, .inl (cT 0, 40, .inl f_wholes)), (h_mparts, .inl (cT 0, 1640, .inl f_parts)), (h_mopen, .inl (cT 2, 40, .inl f_open))] → va_S A s.heap H locs → decode cX8_isStuck pc = .ok (.ireturn, 1) → W p l e ({ frames := 1, cells := 0, slots := 0, locals := 24 } : Room) s m args below meth c H locs 0 0 Q (F0 m pc ls [.int r])) (hK64 : ∀ (x2 : Int32) (f_open : Nat → Int32) (H : Heap) (locs : List Loc) (ls : Array Slot), va_P D vwCl [(h_m, .inr (8, [.int v_thrown, .int v_n, .ref h_mwholes, .ref h_mparts, .int v_has, .int v_known, .ref h_mknown31, .int v_many, .ref h_mprimes, .ref h_mrests, .ref h_mrows, .ref h_mdigits, .ref h_mz, .ref h_mout, .int v_printed, .ref h_mopen])), (h_mwholes, .inl (cT 0, 40, .inl f_wholes)), (h_mparts, .inl (cT 0, 1640, .inl f_parts)), (h_mopen, .inl (cT 2, 40, .inl f_open))] H → va_D A [(h_m, .inr (8, [.int v_thrown, .int v_n, .ref h_mwholes, .ref h_mparts, .int v_has, .int v_known, .ref h_mknown31, .int v_many, .ref h_mprimes, .ref h_mrests, .ref h_mrows, .ref h_mdigits, .ref h_mz, .ref h_mout, .int v_printed, .ref h_mopen])), (h_mwholes, .inl (cT 0, 40, .inl f_wholes)), (h_mparts, .inl (cT 0, 1640, .inl f_parts)), (h_mopen, .inl (cT 2, 40, .inl f_open))] → va_S A s.heap H locs → lv_has ls 5 [(0, .ref h_m), (1, .ref h_mopen), (2, .int x2)] → K64 x2 f_open → W p l e ({ frames := 1, cells := 0, slots := 0, locals := 24 } : Room) s m args below meth c H locs 0 0 Q (F0 m 64 ls [])) (hK74 : ∀ (x2 : Int32) (x3 : Int32) (f_open : Nat → Int32) (H : Heap) (locs : List Loc) (ls : Array Slot), va_P D vwCl [(h_m, .inr (8, [.int v_thrown, .int v_n, .ref h_mwholes, .ref h_mparts, .int v_has, .int v_known, .ref h_mknown31, .int v_many, .ref h_mprimes, .ref h_mrests, .ref h_mrows, .ref h_mdigits, .ref h_mz, .ref h_mout, .int v_printed, .ref h_mopen])), (h_mwholes, .inl (cT 0, 40, .inl f_wholes)), (h_mparts, .inl (cT 0, 1640, .inl f_parts)), (h_mopen, .inl (cT 2, 40, .inl f_open))] H → va_D A [(h_m, .inr (8, [.int v_thrown, .int v_n, .ref h_mwholes, .ref h_mparts, .int v_has, .int v_known, .ref h_mknown31, .int v_many, .ref h_mprimes, .ref h_mrests, .ref h_mrows, .ref h_mdigits, .ref h_mz, .ref h_mout, .int v_printed, .ref h_mopen])), (h_mwholes, .inl (cT 0, 40, .inl f_wholes)), (h_mparts, .inl (cT 0, 1640, .inl f_parts)), (h_mopen, .inl (cT 2, 40, .inl f_open))] → va_S A s.heap H locs → lv_has ls 5 [(0, .ref h_m), (1, .ref h_mopen), (2, .int x2), (3, .int x3)] → K74 x2 x3 f_open → W p l e ({ frames := 1, cells := 0, slots := 0, locals := 24 } : Room) s m args below meth c H locs 0 0 Q (F0 m 74 ls [])) (hK85 : ∀ (x2 : Int32) (x3 : Int32) (x4 : Int32) (f_open : Nat → Int32) (H : Heap) (locs : List Loc) (ls : Array Slot), va_P D vwCl [(h_m, .inr (8, [.int v_thrown, .int v_n, .ref h_mwholes, .ref h_mparts, .int v_has, .int v_known, .ref h_mknown31, .int v_many, .ref h_mprimes, .ref h_mrests, .ref h_mrows, .ref h_mdigits, .ref h_mz, .ref h_mout, .int v_printed, .ref h_mopen])), (h_mwholes, .inl (cT 0, 40, .inl f_wholes)), (h_mparts, .inl (cT 0, 1640, .inl f_parts)), (h_mopen, .inl (cT 2, 40, .inl f_open))] H → va_D A [(h_m, .inr (8, [.int v_thrown, .int v_n, .ref h_mwholes, .ref h_mparts, .int v_has, .int v_known, .ref h_mknown31, .int v_many, .ref h_mprimes, .ref h_mrests, .ref h_mrows, .ref h_mdigits, .ref h_mz, .ref h_mout, .int v_printed, .ref h_mopen])), (h_mwholes, .inl (cT 0, 40, .inl f_wholes)), (h_mparts, .inl (cT 0, 1640, .inl f_parts)), (h_mopen, .inl (cT 2, 40, .inl f_open))] → va_S A s.heap H locs → lv_has ls 5 [(0, .ref h_m), (1, .ref h_mopen), (2, .int x2), (3, .int x3), (4, .int x4)] → K85 x2 x3 x4 f_open → W p l e ({ frames := 1, cells := 0, slots := 0, locals := 24 } : Room) s m args below meth c H locs 0 0 Q (F0 m 85 ls [])) : ∀ (x2 : Int32) (x3 : Int32) (x4 : Int32) (y1 : Int32) (f_open : Nat → Int32) (H : Heap) (locs : List Loc) (ls : Array Slot), va_P D vwCl [(h_m, .inr (8, [.int v_thrown, .int v_n, .ref h_mwholes, .ref h_mparts, .int v_has, .int v_known, .ref h_mknown31, .int v_many, .ref h_mprimes, .ref h_mrests, .ref h_mrows, .ref h_mdigits, .ref h_mz, .ref h_mout, .int v_printed, .ref h_mopen])), (h_mwholes, .inl (cT 0, 40, .inl f_wholes)), (h_mparts, .inl (cT 0, 1640, .inl f_parts)), (h_mopen, .inl (cT 2, 40, .inl f_open))] H → va_D A [(h_m, .inr (8, [.int v_thrown, .int v_n, .ref h_mwholes, .ref h_mparts, .int v_has, .int v_known, .ref h_mknown31, .int v_many, .ref h_mprimes, .ref h_mrests, .ref h_mrows, .ref h_mdigits, .ref h_mz, .ref h_mout, .int v_printed, .ref h_mopen])), (h_mwholes, .inl (cT 0, 40, .inl f_wholes)), (h_mparts, .inl (cT 0, 1640, .inl f_parts)), (h_mopen, .inl (cT 2, 40, .inl f_open))] → va_S A s.heap H locs → lv_has ls 5 [(0, .ref h_m), (1, .ref h_mopen), (2, .int x2), (3, .int x3), (4, .int x4)] → wp_Model_isStuck_124 post v_thrown v_n v_has v_known v_many v_printed f_wholes f_parts K64 K74 K85 x2 x3 x4 y1 f_open → W p l e ({ frames := 1, cells := 0, slots := 0, locals := 24 } : Room) s m args below meth c H locs 0 0 Q (F0 m 124 ls [.int y1, .ref h_mopen]) := by
  obtain ⟨⟨hx, hb, hml, hown, hts⟩, hK, hN⟩ := id C0
  intro x2 x3 x4 y1 f_open H locs ls hP hD hS hl hw
  unfold wp_Model_isStuck_124 at hw
  refine lv_iconst (v := 1) hx hb dX8_isStuck_124 (by decide) ?_
  refine lv_goto (tgt := 129) hx hb dX8_isStuck_125 (by decide) ?_
  exact tw_Model_isStuck_129 C0 hA hret hK64 hK74 hK85 _ _ _ _ _ _ _ _ _ hP hD hS (lv_sub hl [0, 1, 2, 3, 4] rfl) hw
set_option maxHeartbeats 4000000 in
set_option maxRecDepth 100000 in
theorem tw_Model_isStuck_128 {post : Int32 → (Nat → Int32) → Prop} {h_m h_mwholes h_mparts h_mopen h_mknown31 h_mprimes h_mrests h_mrows h_mdigits h_mz h_mout : Nat} {v_thrown : Int32} {v_n : Int32} {v_has : Int32} {v_known : Int32} {v_many : Int32} {v_printed : Int32} {f_wholes : Nat → Int32} {f_parts : Nat → Int32} {K64 : Int32 → (Nat → Int32) → Prop} {K74 : Int32 → Int32 → (Nat → Int32) → Prop} {K85 : Int32 → Int32 → Int32 → (Nat → Int32) → Prop} (C0 : cx RX8 cX8_isStuck 5 D cT p s m c args) (hA : ∀ q, s.heap.size ≤ q → A q) (hret : ∀ (r : Int32) (f_open : Nat → Int32) (H : Heap) (locs : List Loc) (pc : Nat) (ls : Array Slot), narrow .boolean (.int r) = .int r → post r f_open → va_P D vwCl [(h_m, .inr (8, [.int v_thrown, .int v_n, .ref h_mwholes, .ref h_mparts, .int v_has, .int v_known, .ref h_mknown31, .int v_many, .ref h_mprimes, .ref h_mrests, .ref h_mrows, .ref h_mdigits, .ref h_mz, .ref h_mout, .int v_printed, .ref h_mopen])), (h_mwholes, .inl (cT 0, 40, .inl f_wholes)), (h_mparts, .inl (cT 0, 1640, .inl f_parts)), (h_mopen, .inl (cT 2, 40, .inl f_open))] H → va_D A [(h_m, .inr (8, [.int v_thrown, .int v_n, .ref h_mwholes, .ref h_mparts, .int v_has, .int v_known, .ref h_mknown31, .int v_many, .ref h_mprimes, .ref h_mrests, .ref h_mrows, .ref h_mdigits, .ref h_mz, .ref h_mout, .int v_printed, .ref h_mopen])), (h_mwholes, .inl (cT 0, 40, .inl f_wholes)), (h_mparts, .inl (cT 0, 1640, .inl f_parts)), (h_mopen, .inl (cT 2, 40, .inl f_open))] → va_S A s.heap H locs → decode cX8_isStuck pc = .ok (.ireturn, 1) → W p l e ({ frames := 1, cells := 0, slots := 0, locals := 24 } : Room) s m args below meth c H locs 0 0 Q (F0 m pc ls [.int r])) (hK64 : ∀ (x2 : Int32) (f_open : Nat → Int32) (H : Heap) (locs : List Loc) (ls : Array Slot), va_P D vwCl [(h_m, .inr (8, [.int v_thrown, .int v_n, .ref h_mwholes, .ref h_mparts, .int v_has, .int v_known, .ref h_mknown31, .int v_many, .ref h_mprimes, .ref h_mrests, .ref h_mrows, .ref h_mdigits, .ref h_mz, .ref h_mout, .int v_printed, .ref h_mopen])), (h_mwholes, .inl (cT 0, 40, .inl f_wholes)), (h_mparts, .inl (cT 0, 1640, .inl f_parts)), (h_mopen, .inl (cT 2, 40, .inl f_open))] H → va_D A [(h_m, .inr (8, [.int v_thrown, .int v_n, .ref h_mwholes, .ref h_mparts, .int v_has, .int v_known, .ref h_mknown31, .int v_many, .ref h_mprimes, .ref h_mrests, .ref h_mrows, .ref h_mdigits, .ref h_mz, .ref h_mout, .int v_printed, .ref h_mopen])), (h_mwholes, .inl (cT 0, 40, .inl f_wholes)), (h_mparts, .inl (cT 0, 1640, .inl f_parts)), (h_mopen, .inl (cT 2, 40, .inl f_open))] → va_S A s.heap H locs → lv_has ls 5 [(0, .ref h_m), (1, .ref h_mopen), (2, .int x2)] → K64 x2 f_open → W p l e ({ frames := 1, cells := 0, slots := 0, locals := 24 } : Room) s m args below meth c H locs 0 0 Q (F0 m 64 ls [])) (hK74 : ∀ (x2 : Int32) (x3 : Int32) (f_open : Nat → Int32) (H : Heap) (locs : List Loc) (ls : Array Slot), va_P D vwCl [(h_m, .inr (8, [.int v_thrown, .int v_n, .ref h_mwholes, .ref h_mparts, .int v_has, .int v_known, .ref h_mknown31, .int v_many, .ref h_mprimes, .ref h_mrests, .ref h_mrows, .ref h_mdigits, .ref h_mz, .ref h_mout, .int v_printed, .ref h_mopen])), (h_mwholes, .inl (cT 0, 40, .inl f_wholes)), (h_mparts, .inl (cT 0, 1640, .inl f_parts)), (h_mopen, .inl (cT 2, 40, .inl f_open))] H → va_D A [(h_m, .inr (8, [.int v_thrown, .int v_n, .ref h_mwholes, .ref h_mparts, .int v_has, .int v_known, .ref h_mknown31, .int v_many, .ref h_mprimes, .ref h_mrests, .ref h_mrows, .ref h_mdigits, .ref h_mz, .ref h_mout, .int v_printed, .ref h_mopen])), (h_mwholes, .inl (cT 0, 40, .inl f_wholes)), (h_mparts, .inl (cT 0, 1640, .inl f_parts)), (h_mopen, .inl (cT 2, 40, .inl f_open))] → va_S A s.heap H locs → lv_has ls 5 [(0, .ref h_m), (1, .ref h_mopen), (2, .int x2), (3, .int x3)] → K74 x2 x3 f_open → W p l e ({ frames := 1, cells := 0, slots := 0, locals := 24 } : Room) s m args below meth c H locs 0 0 Q (F0 m 74 ls [])) (hK85 : ∀ (x2 : Int32) (x3 : Int32) (x4 : Int32) (f_open : Nat → Int32) (H : Heap) (locs : List Loc) (ls : Array Slot), va_P D vwCl [(h_m, .inr (8, [.int v_thrown, .int v_n, .ref h_mwholes, .ref h_mparts, .int v_has, .int v_known, .ref h_mknown31, .int v_many, .ref h_mprimes, .ref h_mrests, .ref h_mrows, .ref h_mdigits, .ref h_mz, .ref h_mout, .int v_printed, .ref h_mopen])), (h_mwholes, .inl (cT 0, 40, .inl f_wholes)), (h_mparts, .inl (cT 0, 1640, .inl f_parts)), (h_mopen, .inl (cT 2, 40, .inl f_open))] H → va_D A [(h_m, .inr (8, [.int v_thrown, .int v_n, .ref h_mwholes, .ref h_mparts, .int v_has, .int v_known, .ref h_mknown31, .int v_many, .ref h_mprimes, .ref h_mrests, .ref h_mrows, .ref h_mdigits, .ref h_mz, .ref h_mout, .int v_printed, .ref h_mopen])), (h_mwholes, .inl (cT 0, 40, .inl f_wholes)), (h_mparts, .inl (cT 0, 1640, .inl f_parts)), (h_mopen, .inl (cT 2, 40, .inl f_open))] → va_S A s.heap H locs → lv_has ls 5 [(0, .ref h_m), (1, .ref h_mopen), (2, .int x2), (3, .int x3), (4, .int x4)] → K85 x2 x3 x4 f_open → W p l e ({ frames := 1, cells := 0, slots := 0, locals := 24 } : Room) s m args below meth c H locs 0 0 Q (F0 m 85 ls [])) : ∀ (x2 : Int32) (x3 : Int32) (x4 : Int32) (y1 : Int32) (f_open : Nat → Int32) (H : Heap) (locs : List Loc) (ls : Array Slot), va_P D vwCl [(h_m, .inr (8, [.int v_thrown, .int v_n, .ref h_mwholes, .ref h_mparts, .int v_has, .int v_known, .ref h_mknown31, .int v_many, .ref h_mprimes, .ref h_mrests, .ref h_mrows, .ref h_mdigits, .ref h_mz, .ref h_mout, .int v_printed, .ref h_mopen])), (h_mwholes, .inl (cT 0, 40, .inl f_wholes)), (h_mparts, .inl (cT 0, 1640, .inl f_parts)), (h_mopen, .inl (cT 2, 40, .inl f_open))] H → va_D A [(h_m, .inr (8, [.int v_thrown, .int v_n, .ref h_mwholes, .ref h_mparts, .int v_has, .int v_known, .ref h_mknown31, .int v_many, .ref h_mprimes, .ref h_mrests, .ref h_mrows, .ref h_mdigits, .ref h_mz, .ref h_mout, .int v_printed, .ref h_mopen])), (h_mwholes, .inl (cT 0, 40, .inl f_wholes)), (h_mparts, .inl (cT 0, 1640, .inl f_parts)), (h_mopen, .inl (cT 2, 40, .inl f_open))] → va_S A s.heap H locs → lv_has ls 5 [(0, .ref h_m), (1, .ref h_mopen), (2, .int x2), (3, .int x3), (4, .int x4)] → wp_Model_isStuck_128 post v_thrown v_n v_has v_known v_many v_printed f_wholes f_parts K64 K74 K85 x2 x3 x4 y1 f_open → W p l e ({ frames := 1, cells := 0, slots := 0, locals := 24 } : Room) s m args below meth c H locs 0 0 Q (F0 m 128 ls [.int y1, .ref h_mopen]) := by
  obtain ⟨⟨hx, hb, hml, hown, hts⟩, hK, hN⟩ := id C0
  intro x2 x3 x4 y1 f_open H locs ls hP hD hS hl hw
  unfold wp_Model_isStuck_128 at hw
  refine lv_iconst (v := 0) hx hb dX8_isStuck_128 (by decide) ?_
  exact tw_Model_isStuck_129 C0 hA hret hK64 hK74 hK85 _ _ _ _ _ _ _ _ _ hP hD hS (lv_sub hl [0, 1, 2, 3, 4] rfl) hw
set_option maxHeartbeats 4000000 in
set_option maxRecDepth 100000 in
theorem tw_Model_isStuck_85 {post : Int32 → (Nat → Int32) → Prop} {h_m h_mwholes h_mparts h_mopen h_mknown31 h_mprimes h_mrests h_mrows h_mdigits h_mz h_mout : Nat} {v_thrown : Int32} {v_n : Int32} {v_has : Int32} {v_known : Int32} {v_many : Int32} {v_printed : Int32} {f_wholes : Nat → Int32} {f_parts : Nat → Int32} {K64 : Int32 → (Nat → Int32) → Prop} {K74 : Int32 → Int32 → (Nat → Int32) → Prop} (C0 : cx RX8 cX8_isStuck 5 D cT p s m c args) (hA : ∀ q, s.heap.size ≤ q → A q) (hret : ∀ (r : Int32) (f_open : Nat → Int32) (H : Heap) (locs : List Loc) (pc : Nat) (ls : Array Slot), narrow .boolean (.int r) = .int r → post r f_open → va_P D vwCl [(h_m, .inr (8, [.int v_thrown, .int v_n, .ref h_mwholes, .ref h_mparts, .int v_has, .int v_known, .ref h_mknown31, .int v_many, .ref h_mprimes, .ref h_mrests, .ref h_mrows, .ref h_mdigits, .ref h_mz, .ref h_mout, .int v_printed, .ref h_mopen])), (h_mwholes, .inl (cT 0, 40, .inl f_wholes)), (h_mparts, .inl (cT 0, 1640, .inl f_parts)), (h_mopen, .inl (cT 2, 40, .inl f_open))] H → va_D A [(h_m, .inr (8, [.int v_thrown, .int v_n, .ref h_mwholes, .ref h_mparts, .int v_has, .int v_known, .ref h_mknown31, .int v_many, .ref h_mprimes, .ref h_mrests, .ref h_mrows, .ref h_mdigits, .ref h_mz, .ref h_mout, .int v_printed, .ref h_mopen])), (h_mwholes, .inl (cT 0, 40, .inl f_wholes)), (h_mparts, .inl (cT 0, 1640, .inl f_parts)), (h_mopen, .inl (cT 2, 40, .inl f_open))] → va_S A s.heap H locs → decode cX8_isStuck pc = .ok (.ireturn, 1) → W p l e ({ frames := 1, cells := 0, slots := 0, locals := 24 } : Room) s m args below meth c H locs 0 0 Q (F0 m pc ls [.int r])) (hK64 : ∀ (x2 : Int32) (f_open : Nat → Int32) (H : Heap) (locs : List Loc) (ls : Array Slot), va_P D vwCl [(h_m, .inr (8, [.int v_thrown, .int v_n, .ref h_mwholes, .ref h_mparts, .int v_has, .int v_known, .ref h_mknown31, .int v_many, .ref h_mprimes, .ref h_mrests, .ref h_mrows, .ref h_mdigits, .ref h_mz, .ref h_mout, .int v_printed, .ref h_mopen])), (h_mwholes, .inl (cT 0, 40, .inl f_wholes)), (h_mparts, .inl (cT 0, 1640, .inl f_parts)), (h_mopen, .inl (cT 2, 40, .inl f_open))] H → va_D A [(h_m, .inr (8, [.int v_thrown, .int v_n, .ref h_mwholes, .ref h_mparts, .int v_has, .int v_known, .ref h_mknown31, .int v_many, .ref h_mprimes, .ref h_mrests, .ref h_mrows, .ref h_mdigits, .ref h_mz, .ref h_mout, .int v_printed, .ref h_mopen])), (h_mwholes, .inl (cT 0, 40, .inl f_wholes)), (h_mparts, .inl (cT 0, 1640, .inl f_parts)), (h_mopen, .inl (cT 2, 40, .inl f_open))] → va_S A s.heap H locs → lv_has ls 5 [(0, .ref h_m), (1, .ref h_mopen), (2, .int x2)] → K64 x2 f_open → W p l e ({ frames := 1, cells := 0, slots := 0, locals := 24 } : Room) s m args below meth c H locs 0 0 Q (F0 m 64 ls [])) (hK74 : ∀ (x2 : Int32) (x3 : Int32) (f_open : Nat → Int32) (H : Heap) (locs : List Loc) (ls : Array Slot), va_P D vwCl [(h_m, .inr (8, [.int v_thrown, .int v_n, .ref h_mwholes, .ref h_mparts, .int v_has, .int v_known, .ref h_mknown31, .int v_many, .ref h_mprimes, .ref h_mrests, .ref h_mrows, .ref h_mdigits, .ref h_mz, .ref h_mout, .int v_printed, .ref h_mopen])), (h_mwholes, .inl (cT 0, 40, .inl f_wholes)), (h_mparts, .inl (cT 0, 1640, .inl f_parts)), (h_mopen, .inl (cT 2, 40, .inl f_open))] H → va_D A [(h_m, .inr (8, [.int v_thrown, .int v_n, .ref h_mwholes, .ref h_mparts, .int v_has, .int v_known, .ref h_mknown31, .int v_many, .ref h_mprimes, .ref h_mrests, .ref h_mrows, .ref h_mdigits, .ref h_mz, .ref h_mout, .int v_printed, .ref h_mopen])), (h_mwholes, .inl (cT 0, 40, .inl f_wholes)), (h_mparts, .inl (cT 0, 1640, .inl f_parts)), (h_mopen, .inl (cT 2, 40, .inl f_open))] → va_S A s.heap H locs → lv_has ls 5 [(0, .ref h_m), (1, .ref h_mopen), (2, .int x2), (3, .int x3)] → K74 x2 x3 f_open → W p l e ({ frames := 1, cells := 0, slots := 0, locals := 24 } : Room) s m args below meth c H locs 0 0 Q (F0 m 74 ls [])) : ∀ (n : Nat) (x2 : Int32) (x3 : Int32) (x4 : Int32) (f_open : Nat → Int32) (H : Heap) (locs : List Loc) (ls : Array Slot), va_P D vwCl [(h_m, .inr (8, [.int v_thrown, .int v_n, .ref h_mwholes, .ref h_mparts, .int v_has, .int v_known, .ref h_mknown31, .int v_many, .ref h_mprimes, .ref h_mrests, .ref h_mrows, .ref h_mdigits, .ref h_mz, .ref h_mout, .int v_printed, .ref h_mopen])), (h_mwholes, .inl (cT 0, 40, .inl f_wholes)), (h_mparts, .inl (cT 0, 1640, .inl f_parts)), (h_mopen, .inl (cT 2, 40, .inl f_open))] H → va_D A [(h_m, .inr (8, [.int v_thrown, .int v_n, .ref h_mwholes, .ref h_mparts, .int v_has, .int v_known, .ref h_mknown31, .int v_many, .ref h_mprimes, .ref h_mrests, .ref h_mrows, .ref h_mdigits, .ref h_mz, .ref h_mout, .int v_printed, .ref h_mopen])), (h_mwholes, .inl (cT 0, 40, .inl f_wholes)), (h_mparts, .inl (cT 0, 1640, .inl f_parts)), (h_mopen, .inl (cT 2, 40, .inl f_open))] → va_S A s.heap H locs → lv_has ls 5 [(0, .ref h_m), (1, .ref h_mopen), (2, .int x2), (3, .int x3), (4, .int x4)] → wp_Model_isStuck_85 post v_thrown v_n v_has v_known v_many v_printed f_wholes f_parts K64 K74 n x2 x3 x4 f_open → W p l e ({ frames := 1, cells := 0, slots := 0, locals := 24 } : Room) s m args below meth c H locs 0 0 Q (F0 m 85 ls []) := by
  obtain ⟨⟨hx, hb, hml, hown, hts⟩, hK, hN⟩ := id C0
  intro n
  induction n with
  | zero => intro x2 x3 x4 f_open H locs ls hP hD hS hl hw; exact hw.elim
  | succ n ih =>
    intro x2 x3 x4 f_open H locs ls hP hD hS hl hw
    unfold wp_Model_isStuck_85 at hw
    refine lv_iload hx hb dX8_isStuck_85 (lv_at hl 4 rfl) ?_
    refine lv_aload_n hx hb dX8_isStuck_87 rfl (lv_at hl 0 rfl) ?_
    refine va_get (D := D) (ci := 8) (v := .int v_n) (C := RX8) (T := TX8) (N := 16) hx hb hts inX8 hown hK hP 0 rfl rfl 1 (by decide) (hts _ q_584) (fun _ h9 => h9) rfl dX8_isStuck_88 ?_
    refine lv_icmp_ge (tgt := 136) hx hb dX8_isStuck_91 (by decide) (fun c_10 => ?_) (fun c_10 => ?_)
    · have hw := hw.1 c_10
      obtain ⟨x3_11, ex3_11⟩ : ∃ y : Int32, y = x3 + 1 := ⟨_, rfl⟩
      refine lv_iinc (v := x3_11) (lv' := [(3, .int x3_11), (0, .ref h_m), (1, .ref h_mopen), (2, .int x2), (4, .int x4)]) hx hb dX8_isStuck_136 hl (k := 3) rfl (by rw [ex3_11]; rfl) (by decide) rfl (fun ls hl => ?_)
      have hw := hw x3_11 ex3_11
      refine lv_goto (tgt := 74) hx hb dX8_isStuck_139 (by decide) ?_
      exact hK74 _ _ _ _ _ _ hP hD hS (lv_sub hl [1, 2, 3, 0] rfl) hw
    · have hw := hw.2 c_10
      refine lv_aload_n hx hb dX8_isStuck_94 rfl (lv_at hl 1 rfl) ?_
      refine lv_iload_n hx hb dX8_isStuck_95 rfl (lv_at hl 3 rfl) ?_
      refine lv_aload_n hx hb dX8_isStuck_96 rfl (lv_at hl 1 rfl) ?_
      refine lv_iload_n hx hb dX8_isStuck_97 rfl (lv_at hl 3 rfl) ?_
      obtain ⟨h_12, hw⟩ := hw
      refine va_zald hx hb hK hP 3 2 rfl rfl h_12 dX8_isStuck_98 ?_
      refine lv_if_ne (tgt := 124) hx hb dX8_isStuck_99 (by decide) (fun c_13 => ?_) (fun c_13 => ?_)
      · have hw := hw.2 c_13
        exact tw_Model_isStuck_124 C0 hA hret hK64 hK74 ih _ _ _ _ _ _ _ _ hP hD hS (lv_sub hl [0, 1, 2, 3, 4] rfl) hw
      · have hw := hw.1 c_13
        refine lv_aload_n hx hb dX8_isStuck_102 rfl (lv_at hl 0 rfl) ?_
        refine va_get (D := D) (ci := 8) (v := .ref h_mparts) (C := RX8) (T := TX8) (N := 16) hx hb hts inX8 hown hK hP 0 rfl rfl 3 (by decide) (hts _ q_586) (fun _ h9 => h9) rfl dX8_isStuck_103 ?_
        refine lv_bipush (v := 41) hx hb dX8_isStuck_106 (by decide) ?_
        refine lv_iload_n hx hb dX8_isStuck_108 rfl (lv_at hl 3 rfl) ?_
        refine lv_imul hx hb dX8_isStuck_109 ?_
        refine lv_iload hx hb dX8_isStuck_110 (lv_at hl 4 rfl) ?_
        refine lv_iadd hx hb dX8_isStuck_112 ?_
        obtain ⟨h_16, hw⟩ := hw
        refine va_iald hx hb hK hP 2 0 rfl rfl h_16 dX8_isStuck_113 ?_
        refine lv_if_le (tgt := 128) hx hb dX8_isStuck_114 (by decide) (fun c_17 => ?_) (fun c_17 => ?_)
        · have hw := hw.1 c_17
          exact tw_Model_isStuck_128 C0 hA hret hK64 hK74 ih _ _ _ _ _ _ _ _ hP hD hS (lv_sub hl [0, 1, 2, 3, 4] rfl) hw
        · have hw := hw.2 c_17
          refine lv_aload_n hx hb dX8_isStuck_117 rfl (lv_at hl 1 rfl) ?_
          refine lv_iload hx hb dX8_isStuck_118 (lv_at hl 4 rfl) ?_
          obtain ⟨h_18, hw⟩ := hw
          refine va_zald hx hb hK hP 3 2 rfl rfl h_18 dX8_isStuck_120 ?_
          refine lv_if_eq (tgt := 128) hx hb dX8_isStuck_121 (by decide) (fun c_19 => ?_) (fun c_19 => ?_)
          · have hw := hw.1 c_19
            exact tw_Model_isStuck_128 C0 hA hret hK64 hK74 ih _ _ _ _ _ _ _ _ hP hD hS (lv_sub hl [0, 1, 2, 3, 4] rfl) hw
          · have hw := hw.2 c_19
            exact tw_Model_isStuck_124 C0 hA hret hK64 hK74 ih _ _ _ _ _ _ _ _ hP hD hS (lv_sub hl [0, 1, 2, 3, 4] rfl) hw
set_option maxHeartbeats 4000000 in
set_option maxRecDepth 100000 in
theorem tw_Model_isStuck_74 {post : Int32 → (Nat → Int32) → Prop} {h_m h_mwholes h_mparts h_mopen h_mknown31 h_mprimes h_mrests h_mrows h_mdigits h_mz h_mout : Nat} {v_thrown : Int32} {v_n : Int32} {v_has : Int32} {v_known : Int32} {v_many : Int32} {v_printed : Int32} {f_wholes : Nat → Int32} {f_parts : Nat → Int32} {K64 : Int32 → (Nat → Int32) → Prop} (C0 : cx RX8 cX8_isStuck 5 D cT p s m c args) (hA : ∀ q, s.heap.size ≤ q → A q) (hret : ∀ (r : Int32) (f_open : Nat → Int32) (H : Heap) (locs : List Loc) (pc : Nat) (ls : Array Slot), narrow .boolean (.int r) = .int r → post r f_open → va_P D vwCl [(h_m, .inr (8, [.int v_thrown, .int v_n, .ref h_mwholes, .ref h_mparts, .int v_has, .int v_known, .ref h_mknown31, .int v_many, .ref h_mprimes, .ref h_mrests, .ref h_mrows, .ref h_mdigits, .ref h_mz, .ref h_mout, .int v_printed, .ref h_mopen])), (h_mwholes, .inl (cT 0, 40, .inl f_wholes)), (h_mparts, .inl (cT 0, 1640, .inl f_parts)), (h_mopen, .inl (cT 2, 40, .inl f_open))] H → va_D A [(h_m, .inr (8, [.int v_thrown, .int v_n, .ref h_mwholes, .ref h_mparts, .int v_has, .int v_known, .ref h_mknown31, .int v_many, .ref h_mprimes, .ref h_mrests, .ref h_mrows, .ref h_mdigits, .ref h_mz, .ref h_mout, .int v_printed, .ref h_mopen])), (h_mwholes, .inl (cT 0, 40, .inl f_wholes)), (h_mparts, .inl (cT 0, 1640, .inl f_parts)), (h_mopen, .inl (cT 2, 40, .inl f_open))] → va_S A s.heap H locs → decode cX8_isStuck pc = .ok (.ireturn, 1) → W p l e ({ frames := 1, cells := 0, slots := 0, locals := 24 } : Room) s m args below meth c H locs 0 0 Q (F0 m pc ls [.int r])) (hK64 : ∀ (x2 : Int32) (f_open : Nat → Int32) (H : Heap) (locs : List Loc) (ls : Array Slot), va_P D vwCl [(h_m, .inr (8, [.int v_thrown, .int v_n, .ref h_mwholes, .ref h_mparts, .int v_has, .int v_known, .ref h_mknown31, .int v_many, .ref h_mprimes, .ref h_mrests, .ref h_mrows, .ref h_mdigits, .ref h_mz, .ref h_mout, .int v_printed, .ref h_mopen])), (h_mwholes, .inl (cT 0, 40, .inl f_wholes)), (h_mparts, .inl (cT 0, 1640, .inl f_parts)), (h_mopen, .inl (cT 2, 40, .inl f_open))] H → va_D A [(h_m, .inr (8, [.int v_thrown, .int v_n, .ref h_mwholes, .ref h_mparts, .int v_has, .int v_known, .ref h_mknown31, .int v_many, .ref h_mprimes, .ref h_mrests, .ref h_mrows, .ref h_mdigits, .ref h_mz, .ref h_mout, .int v_printed, .ref h_mopen])), (h_mwholes, .inl (cT 0, 40, .inl f_wholes)), (h_mparts, .inl (cT 0, 1640, .inl f_parts)), (h_mopen, .inl (cT 2, 40, .inl f_open))] → va_S A s.heap H locs → lv_has ls 5 [(0, .ref h_m), (1, .ref h_mopen), (2, .int x2)] → K64 x2 f_open → W p l e ({ frames := 1, cells := 0, slots := 0, locals := 24 } : Room) s m args below meth c H locs 0 0 Q (F0 m 64 ls [])) : ∀ (n : Nat) (x2 : Int32) (x3 : Int32) (f_open : Nat → Int32) (H : Heap) (locs : List Loc) (ls : Array Slot), va_P D vwCl [(h_m, .inr (8, [.int v_thrown, .int v_n, .ref h_mwholes, .ref h_mparts, .int v_has, .int v_known, .ref h_mknown31, .int v_many, .ref h_mprimes, .ref h_mrests, .ref h_mrows, .ref h_mdigits, .ref h_mz, .ref h_mout, .int v_printed, .ref h_mopen])), (h_mwholes, .inl (cT 0, 40, .inl f_wholes)), (h_mparts, .inl (cT 0, 1640, .inl f_parts)), (h_mopen, .inl (cT 2, 40, .inl f_open))] H → va_D A [(h_m, .inr (8, [.int v_thrown, .int v_n, .ref h_mwholes, .ref h_mparts, .int v_has, .int v_known, .ref h_mknown31, .int v_many, .ref h_mprimes, .ref h_mrests, .ref h_mrows, .ref h_mdigits, .ref h_mz, .ref h_mout, .int v_printed, .ref h_mopen])), (h_mwholes, .inl (cT 0, 40, .inl f_wholes)), (h_mparts, .inl (cT 0, 1640, .inl f_parts)), (h_mopen, .inl (cT 2, 40, .inl f_open))] → va_S A s.heap H locs → lv_has ls 5 [(0, .ref h_m), (1, .ref h_mopen), (2, .int x2), (3, .int x3)] → wp_Model_isStuck_74 post v_thrown v_n v_has v_known v_many v_printed f_wholes f_parts K64 n x2 x3 f_open → W p l e ({ frames := 1, cells := 0, slots := 0, locals := 24 } : Room) s m args below meth c H locs 0 0 Q (F0 m 74 ls []) := by
  obtain ⟨⟨hx, hb, hml, hown, hts⟩, hK, hN⟩ := id C0
  intro n
  induction n with
  | zero => intro x2 x3 f_open H locs ls hP hD hS hl hw; exact hw.elim
  | succ n ih =>
    intro x2 x3 f_open H locs ls hP hD hS hl hw
    unfold wp_Model_isStuck_74 at hw
    refine lv_iload_n hx hb dX8_isStuck_74 rfl (lv_at hl 3 rfl) ?_
    refine lv_aload_n hx hb dX8_isStuck_75 rfl (lv_at hl 0 rfl) ?_
    refine va_get (D := D) (ci := 8) (v := .int v_n) (C := RX8) (T := TX8) (N := 16) hx hb hts inX8 hown hK hP 0 rfl rfl 1 (by decide) (hts _ q_584) (fun _ h9 => h9) rfl dX8_isStuck_76 ?_
    refine lv_icmp_ge (tgt := 142) hx hb dX8_isStuck_79 (by decide) (fun c_8 => ?_) (fun c_8 => ?_)
    · have hw := hw.1 c_8
      obtain ⟨x2_9, ex2_9⟩ : ∃ y : Int32, y = x2 + 1 := ⟨_, rfl⟩
      refine lv_iinc (v := x2_9) (lv' := [(2, .int x2_9), (0, .ref h_m), (1, .ref h_mopen), (3, .int x3)]) hx hb dX8_isStuck_142 hl (k := 2) rfl (by rw [ex2_9]; rfl) (by decide) rfl (fun ls hl => ?_)
      have hw := hw x2_9 ex2_9
      refine lv_goto (tgt := 64) hx hb dX8_isStuck_145 (by decide) ?_
      exact hK64 _ _ _ _ _ hP hD hS (lv_sub hl [1, 2, 0] rfl) hw
    · have hw := hw.2 c_8
      refine lv_iconst (v := 0) hx hb dX8_isStuck_82 (by decide) ?_
      refine lv_istore (lv' := [(4, .int 0), (0, .ref h_m), (1, .ref h_mopen), (2, .int x2), (3, .int x3)]) hx hb dX8_isStuck_83 hl (by decide) rfl (fun ls hl => ?_)
      obtain ⟨n9, hw⟩ := hw
      exact tw_Model_isStuck_85 C0 hA hret hK64 ih n9 _ _ _ _ _ _ _ hP hD hS (lv_sub hl [1, 2, 3, 4, 0] rfl) hw
set_option maxHeartbeats 4000000 in
set_option maxRecDepth 100000 in
theorem tw_Model_isStuck_64 {post : Int32 → (Nat → Int32) → Prop} {h_m h_mwholes h_mparts h_mopen h_mknown31 h_mprimes h_mrests h_mrows h_mdigits h_mz h_mout : Nat} {v_thrown : Int32} {v_n : Int32} {v_has : Int32} {v_known : Int32} {v_many : Int32} {v_printed : Int32} {f_wholes : Nat → Int32} {f_parts : Nat → Int32}  (C0 : cx RX8 cX8_isStuck 5 D cT p s m c args) (hA : ∀ q, s.heap.size ≤ q → A q) (hret : ∀ (r : Int32) (f_open : Nat → Int32) (H : Heap) (locs : List Loc) (pc : Nat) (ls : Array Slot), narrow .boolean (.int r) = .int r → post r f_open → va_P D vwCl [(h_m, .inr (8, [.int v_thrown, .int v_n, .ref h_mwholes, .ref h_mparts, .int v_has, .int v_known, .ref h_mknown31, .int v_many, .ref h_mprimes, .ref h_mrests, .ref h_mrows, .ref h_mdigits, .ref h_mz, .ref h_mout, .int v_printed, .ref h_mopen])), (h_mwholes, .inl (cT 0, 40, .inl f_wholes)), (h_mparts, .inl (cT 0, 1640, .inl f_parts)), (h_mopen, .inl (cT 2, 40, .inl f_open))] H → va_D A [(h_m, .inr (8, [.int v_thrown, .int v_n, .ref h_mwholes, .ref h_mparts, .int v_has, .int v_known, .ref h_mknown31, .int v_many, .ref h_mprimes, .ref h_mrests, .ref h_mrows, .ref h_mdigits, .ref h_mz, .ref h_mout, .int v_printed, .ref h_mopen])), (h_mwholes, .inl (cT 0, 40, .inl f_wholes)), (h_mparts, .inl (cT 0, 1640, .inl f_parts)), (h_mopen, .inl (cT 2, 40, .inl f_open))] → va_S A s.heap H locs → decode cX8_isStuck pc = .ok (.ireturn, 1) → W p l e ({ frames := 1, cells := 0, slots := 0, locals := 24 } : Room) s m args below meth c H locs 0 0 Q (F0 m pc ls [.int r]))  : ∀ (n : Nat) (x2 : Int32) (f_open : Nat → Int32) (H : Heap) (locs : List Loc) (ls : Array Slot), va_P D vwCl [(h_m, .inr (8, [.int v_thrown, .int v_n, .ref h_mwholes, .ref h_mparts, .int v_has, .int v_known, .ref h_mknown31, .int v_many, .ref h_mprimes, .ref h_mrests, .ref h_mrows, .ref h_mdigits, .ref h_mz, .ref h_mout, .int v_printed, .ref h_mopen])), (h_mwholes, .inl (cT 0, 40, .inl f_wholes)), (h_mparts, .inl (cT 0, 1640, .inl f_parts)), (h_mopen, .inl (cT 2, 40, .inl f_open))] H → va_D A [(h_m, .inr (8, [.int v_thrown, .int v_n, .ref h_mwholes, .ref h_mparts, .int v_has, .int v_known, .ref h_mknown31, .int v_many, .ref h_mprimes, .ref h_mrests, .ref h_mrows, .ref h_mdigits, .ref h_mz, .ref h_mout, .int v_printed, .ref h_mopen])), (h_mwholes, .inl (cT 0, 40, .inl f_wholes)), (h_mparts, .inl (cT 0, 1640, .inl f_parts)), (h_mopen, .inl (cT 2, 40, .inl f_open))] → va_S A s.heap H locs → lv_has ls 5 [(0, .ref h_m), (1, .ref h_mopen), (2, .int x2)] → wp_Model_isStuck_64 post v_thrown v_n v_has v_known v_many v_printed f_wholes f_parts n x2 f_open → W p l e ({ frames := 1, cells := 0, slots := 0, locals := 24 } : Room) s m args below meth c H locs 0 0 Q (F0 m 64 ls []) := by
  obtain ⟨⟨hx, hb, hml, hown, hts⟩, hK, hN⟩ := id C0
  intro n
  induction n with
  | zero => intro x2 f_open H locs ls hP hD hS hl hw; exact hw.elim
  | succ n ih =>
    intro x2 f_open H locs ls hP hD hS hl hw
    unfold wp_Model_isStuck_64 at hw
    refine lv_iload_n hx hb dX8_isStuck_64 rfl (lv_at hl 2 rfl) ?_
    refine lv_aload_n hx hb dX8_isStuck_65 rfl (lv_at hl 0 rfl) ?_
    refine va_get (D := D) (ci := 8) (v := .int v_n) (C := RX8) (T := TX8) (N := 16) hx hb hts inX8 hown hK hP 0 rfl rfl 1 (by decide) (hts _ q_584) (fun _ h9 => h9) rfl dX8_isStuck_66 ?_
    refine lv_icmp_ge (tgt := 148) hx hb dX8_isStuck_69 (by decide) (fun c_2 => ?_) (fun c_2 => ?_)
    · have hw := hw.1 c_2
      refine lv_iconst (v := 0) hx hb dX8_isStuck_148 (by decide) ?_
      refine lv_istore_n (lv' := [(2, .int 0), (0, .ref h_m), (1, .ref h_mopen)]) hx hb dX8_isStuck_149 rfl hl (by decide) rfl (fun ls hl => ?_)
      refine lv_iconst (v := 0) hx hb dX8_isStuck_150 (by decide) ?_
      refine lv_istore_n (lv' := [(3, .int 0), (2, .int 0), (0, .ref h_m), (1, .ref h_mopen)]) hx hb dX8_isStuck_151 rfl hl (by decide) rfl (fun ls hl => ?_)
      obtain ⟨n9, hw⟩ := hw
      exact tw_Model_isStuck_152 C0 hA hret  n9 _ _ _ _ _ _ hP hD hS (lv_sub hl [2, 3, 1, 0] rfl) hw
    · have hw := hw.2 c_2
      refine lv_iconst (v := 0) hx hb dX8_isStuck_72 (by decide) ?_
      refine lv_istore_n (lv' := [(3, .int 0), (0, .ref h_m), (1, .ref h_mopen), (2, .int x2)]) hx hb dX8_isStuck_73 rfl hl (by decide) rfl (fun ls hl => ?_)
      obtain ⟨n9, hw⟩ := hw
      exact tw_Model_isStuck_74 C0 hA hret ih n9 _ _ _ _ _ _ hP hD hS (lv_sub hl [1, 2, 3, 0] rfl) hw
set_option maxHeartbeats 4000000 in
set_option maxRecDepth 100000 in
theorem tw_Model_isStuck_55 {post : Int32 → (Nat → Int32) → Prop} {h_m h_mwholes h_mparts h_mopen h_mknown31 h_mprimes h_mrests h_mrows h_mdigits h_mz h_mout : Nat} {v_thrown : Int32} {v_n : Int32} {v_has : Int32} {v_known : Int32} {v_many : Int32} {v_printed : Int32} {f_wholes : Nat → Int32} {f_parts : Nat → Int32} {K7 : Int32 → (Nat → Int32) → Prop} (C0 : cx RX8 cX8_isStuck 5 D cT p s m c args) (hA : ∀ q, s.heap.size ≤ q → A q) (hret : ∀ (r : Int32) (f_open : Nat → Int32) (H : Heap) (locs : List Loc) (pc : Nat) (ls : Array Slot), narrow .boolean (.int r) = .int r → post r f_open → va_P D vwCl [(h_m, .inr (8, [.int v_thrown, .int v_n, .ref h_mwholes, .ref h_mparts, .int v_has, .int v_known, .ref h_mknown31, .int v_many, .ref h_mprimes, .ref h_mrests, .ref h_mrows, .ref h_mdigits, .ref h_mz, .ref h_mout, .int v_printed, .ref h_mopen])), (h_mwholes, .inl (cT 0, 40, .inl f_wholes)), (h_mparts, .inl (cT 0, 1640, .inl f_parts)), (h_mopen, .inl (cT 2, 40, .inl f_open))] H → va_D A [(h_m, .inr (8, [.int v_thrown, .int v_n, .ref h_mwholes, .ref h_mparts, .int v_has, .int v_known, .ref h_mknown31, .int v_many, .ref h_mprimes, .ref h_mrests, .ref h_mrows, .ref h_mdigits, .ref h_mz, .ref h_mout, .int v_printed, .ref h_mopen])), (h_mwholes, .inl (cT 0, 40, .inl f_wholes)), (h_mparts, .inl (cT 0, 1640, .inl f_parts)), (h_mopen, .inl (cT 2, 40, .inl f_open))] → va_S A s.heap H locs → decode cX8_isStuck pc = .ok (.ireturn, 1) → W p l e ({ frames := 1, cells := 0, slots := 0, locals := 24 } : Room) s m args below meth c H locs 0 0 Q (F0 m pc ls [.int r])) (hK7 : ∀ (x2 : Int32) (f_open : Nat → Int32) (H : Heap) (locs : List Loc) (ls : Array Slot), va_P D vwCl [(h_m, .inr (8, [.int v_thrown, .int v_n, .ref h_mwholes, .ref h_mparts, .int v_has, .int v_known, .ref h_mknown31, .int v_many, .ref h_mprimes, .ref h_mrests, .ref h_mrows, .ref h_mdigits, .ref h_mz, .ref h_mout, .int v_printed, .ref h_mopen])), (h_mwholes, .inl (cT 0, 40, .inl f_wholes)), (h_mparts, .inl (cT 0, 1640, .inl f_parts)), (h_mopen, .inl (cT 2, 40, .inl f_open))] H → va_D A [(h_m, .inr (8, [.int v_thrown, .int v_n, .ref h_mwholes, .ref h_mparts, .int v_has, .int v_known, .ref h_mknown31, .int v_many, .ref h_mprimes, .ref h_mrests, .ref h_mrows, .ref h_mdigits, .ref h_mz, .ref h_mout, .int v_printed, .ref h_mopen])), (h_mwholes, .inl (cT 0, 40, .inl f_wholes)), (h_mparts, .inl (cT 0, 1640, .inl f_parts)), (h_mopen, .inl (cT 2, 40, .inl f_open))] → va_S A s.heap H locs → lv_has ls 5 [(0, .ref h_m), (1, .ref h_mopen), (2, .int x2)] → K7 x2 f_open → W p l e ({ frames := 1, cells := 0, slots := 0, locals := 24 } : Room) s m args below meth c H locs 0 0 Q (F0 m 7 ls [])) : ∀ (x2 : Int32) (y1 : Int32) (y2 : Int32) (f_open : Nat → Int32) (H : Heap) (locs : List Loc) (ls : Array Slot), va_P D vwCl [(h_m, .inr (8, [.int v_thrown, .int v_n, .ref h_mwholes, .ref h_mparts, .int v_has, .int v_known, .ref h_mknown31, .int v_many, .ref h_mprimes, .ref h_mrests, .ref h_mrows, .ref h_mdigits, .ref h_mz, .ref h_mout, .int v_printed, .ref h_mopen])), (h_mwholes, .inl (cT 0, 40, .inl f_wholes)), (h_mparts, .inl (cT 0, 1640, .inl f_parts)), (h_mopen, .inl (cT 2, 40, .inl f_open))] H → va_D A [(h_m, .inr (8, [.int v_thrown, .int v_n, .ref h_mwholes, .ref h_mparts, .int v_has, .int v_known, .ref h_mknown31, .int v_many, .ref h_mprimes, .ref h_mrests, .ref h_mrows, .ref h_mdigits, .ref h_mz, .ref h_mout, .int v_printed, .ref h_mopen])), (h_mwholes, .inl (cT 0, 40, .inl f_wholes)), (h_mparts, .inl (cT 0, 1640, .inl f_parts)), (h_mopen, .inl (cT 2, 40, .inl f_open))] → va_S A s.heap H locs → lv_has ls 5 [(0, .ref h_m), (1, .ref h_mopen), (2, .int x2)] → wp_Model_isStuck_55 post v_thrown v_n v_has v_known v_many v_printed f_wholes f_parts K7 x2 y1 y2 f_open → W p l e ({ frames := 1, cells := 0, slots := 0, locals := 24 } : Room) s m args below meth c H locs 0 0 Q (F0 m 55 ls [.int y2, .int y1, .ref h_mopen]) := by
  obtain ⟨⟨hx, hb, hml, hown, hts⟩, hK, hN⟩ := id C0
  intro x2 y1 y2 f_open H locs ls hP hD hS hl hw
  unfold wp_Model_isStuck_55 at hw
  obtain ⟨h_22, hw⟩ := hw
  refine va_zast hx hb hK hP hD hS 3 2 rfl rfl h_22 dX8_isStuck_55 (fun H locs hP hD hS => ?_)
  have hP : va_P D vwCl [(h_m, .inr (8, [.int v_thrown, .int v_n, .ref h_mwholes, .ref h_mparts, .int v_has, .int v_known, .ref h_mknown31, .int v_many, .ref h_mprimes, .ref h_mrests, .ref h_mrows, .ref h_mdigits, .ref h_mz, .ref h_mout, .int v_printed, .ref h_mopen])), (h_mwholes, .inl (cT 0, 40, .inl f_wholes)), (h_mparts, .inl (cT 0, 1640, .inl f_parts)), (h_mopen, .inl (cT 2, 40, .inl (upd f_open y1.toNatClampNeg (vp_nar .boolean y2))))] H := hP
  have hD : va_D A [(h_m, .inr (8, [.int v_thrown, .int v_n, .ref h_mwholes, .ref h_mparts, .int v_has, .int v_known, .ref h_mknown31, .int v_many, .ref h_mprimes, .ref h_mrests, .ref h_mrows, .ref h_mdigits, .ref h_mz, .ref h_mout, .int v_printed, .ref h_mopen])), (h_mwholes, .inl (cT 0, 40, .inl f_wholes)), (h_mparts, .inl (cT 0, 1640, .inl f_parts)), (h_mopen, .inl (cT 2, 40, .inl (upd f_open y1.toNatClampNeg (vp_nar .boolean y2))))] := hD
  obtain ⟨x2_23, ex2_23⟩ : ∃ y : Int32, y = x2 + 1 := ⟨_, rfl⟩
  refine lv_iinc (v := x2_23) (lv' := [(2, .int x2_23), (0, .ref h_m), (1, .ref h_mopen)]) hx hb dX8_isStuck_56 hl (k := 2) rfl (by rw [ex2_23]; rfl) (by decide) rfl (fun ls hl => ?_)
  have hw := hw x2_23 ex2_23
  refine lv_goto (tgt := 7) hx hb dX8_isStuck_59 (by decide) ?_
  exact hK7 _ _ _ _ _ hP hD hS (lv_sub hl [1, 2, 0] rfl) hw
set_option maxHeartbeats 4000000 in
set_option maxRecDepth 100000 in
theorem tw_Model_isStuck_50 {post : Int32 → (Nat → Int32) → Prop} {h_m h_mwholes h_mparts h_mopen h_mknown31 h_mprimes h_mrests h_mrows h_mdigits h_mz h_mout : Nat} {v_thrown : Int32} {v_n : Int32} {v_has : Int32} {v_known : Int32} {v_many : Int32} {v_printed : Int32} {f_wholes : Nat → Int32} {f_parts : Nat → Int32} {K7 : Int32 → (Nat → Int32) → Prop} (C0 : cx RX8 cX8_isStuck 5 D cT p s m c args) (hA : ∀ q, s.heap.size ≤ q → A q) (hret : ∀ (r : Int32) (f_open : Nat → Int32) (H : Heap) (locs : List Loc) (pc : Nat) (ls : Array Slot), narrow .boolean (.int r) = .int r → post r f_open → va_P D vwCl [(h_m, .inr (8, [.int v_thrown, .int v_n, .ref h_mwholes, .ref h_mparts, .int v_has, .int v_known, .ref h_mknown31, .int v_many, .ref h_mprimes, .ref h_mrests, .ref h_mrows, .ref h_mdigits, .ref h_mz, .ref h_mout, .int v_printed, .ref h_mopen])), (h_mwholes, .inl (cT 0, 40, .inl f_wholes)), (h_mparts, .inl (cT 0, 1640, .inl f_parts)), (h_mopen, .inl (cT 2, 40, .inl f_open))] H → va_D A [(h_m, .inr (8, [.int v_thrown, .int v_n, .ref h_mwholes, .ref h_mparts, .int v_has, .int v_known, .ref h_mknown31, .int v_many, .ref h_mprimes, .ref h_mrests, .ref h_mrows, .ref h_mdigits, .ref h_mz, .ref h_mout, .int v_printed, .ref h_mopen])), (h_mwholes, .inl (cT 0, 40, .inl f_wholes)), (h_mparts, .inl (cT 0, 1640, .inl f_parts)), (h_mopen, .inl (cT 2, 40, .inl f_open))] → va_S A s.heap H locs → decode cX8_isStuck pc = .ok (.ireturn, 1) → W p l e ({ frames := 1, cells := 0, slots := 0, locals := 24 } : Room) s m args below meth c H locs 0 0 Q (F0 m pc ls [.int r])) (hK7 : ∀ (x2 : Int32) (f_open : Nat → Int32) (H : Heap) (locs : List Loc) (ls : Array Slot), va_P D vwCl [(h_m, .inr (8, [.int v_thrown, .int v_n, .ref h_mwholes, .ref h_mparts, .int v_has, .int v_known, .ref h_mknown31, .int v_many, .ref h_mprimes, .ref h_mrests, .ref h_mrows, .ref h_mdigits, .ref h_mz, .ref h_mout, .int v_printed, .ref h_mopen])), (h_mwholes, .inl (cT 0, 40, .inl f_wholes)), (h_mparts, .inl (cT 0, 1640, .inl f_parts)), (h_mopen, .inl (cT 2, 40, .inl f_open))] H → va_D A [(h_m, .inr (8, [.int v_thrown, .int v_n, .ref h_mwholes, .ref h_mparts, .int v_has, .int v_known, .ref h_mknown31, .int v_many, .ref h_mprimes, .ref h_mrests, .ref h_mrows, .ref h_mdigits, .ref h_mz, .ref h_mout, .int v_printed, .ref h_mopen])), (h_mwholes, .inl (cT 0, 40, .inl f_wholes)), (h_mparts, .inl (cT 0, 1640, .inl f_parts)), (h_mopen, .inl (cT 2, 40, .inl f_open))] → va_S A s.heap H locs → lv_has ls 5 [(0, .ref h_m), (1, .ref h_mopen), (2, .int x2)] → K7 x2 f_open → W p l e ({ frames := 1, cells := 0, slots := 0, locals := 24 } : Room) s m args below meth c H locs 0 0 Q (F0 m 7 ls [])) : ∀ (x2 : Int32) (y1 : Int32) (f_open : Nat → Int32) (H : Heap) (locs : List Loc) (ls : Array Slot), va_P D vwCl [(h_m, .inr (8, [.int v_thrown, .int v_n, .ref h_mwholes, .ref h_mparts, .int v_has, .int v_known, .ref h_mknown31, .int v_many, .ref h_mprimes, .ref h_mrests, .ref h_mrows, .ref h_mdigits, .ref h_mz, .ref h_mout, .int v_printed, .ref h_mopen])), (h_mwholes, .inl (cT 0, 40, .inl f_wholes)), (h_mparts, .inl (cT 0, 1640, .inl f_parts)), (h_mopen, .inl (cT 2, 40, .inl f_open))] H → va_D A [(h_m, .inr (8, [.int v_thrown, .int v_n, .ref h_mwholes, .ref h_mparts, .int v_has, .int v_known, .ref h_mknown31, .int v_many, .ref h_mprimes, .ref h_mrests, .ref h_mrows, .ref h_mdigits, .ref h_mz, .ref h_mout, .int v_printed, .ref h_mopen])), (h_mwholes, .inl (cT 0, 40, .inl f_wholes)), (h_mparts, .inl (cT 0, 1640, .inl f_parts)), (h_mopen, .inl (cT 2, 40, .inl f_open))] → va_S A s.heap H locs → lv_has ls 5 [(0, .ref h_m), (1, .ref h_mopen), (2, .int x2)] → wp_Model_isStuck_50 post v_thrown v_n v_has v_known v_many v_printed f_wholes f_parts K7 x2 y1 f_open → W p l e ({ frames := 1, cells := 0, slots := 0, locals := 24 } : Room) s m args below meth c H locs 0 0 Q (F0 m 50 ls [.int y1, .ref h_mopen]) := by
  obtain ⟨⟨hx, hb, hml, hown, hts⟩, hK, hN⟩ := id C0
  intro x2 y1 f_open H locs ls hP hD hS hl hw
  unfold wp_Model_isStuck_50 at hw
  refine lv_iconst (v := 1) hx hb dX8_isStuck_50 (by decide) ?_
  refine lv_goto (tgt := 55) hx hb dX8_isStuck_51 (by decide) ?_
  exact tw_Model_isStuck_55 C0 hA hret hK7 _ _ _ _ _ _ _ hP hD hS (lv_sub hl [0, 1, 2] rfl) hw
set_option maxHeartbeats 4000000 in
set_option maxRecDepth 100000 in
theorem tw_Model_isStuck_7 {post : Int32 → (Nat → Int32) → Prop} {h_m h_mwholes h_mparts h_mopen h_mknown31 h_mprimes h_mrests h_mrows h_mdigits h_mz h_mout : Nat} {v_thrown : Int32} {v_n : Int32} {v_has : Int32} {v_known : Int32} {v_many : Int32} {v_printed : Int32} {f_wholes : Nat → Int32} {f_parts : Nat → Int32}  (C0 : cx RX8 cX8_isStuck 5 D cT p s m c args) (hA : ∀ q, s.heap.size ≤ q → A q) (hret : ∀ (r : Int32) (f_open : Nat → Int32) (H : Heap) (locs : List Loc) (pc : Nat) (ls : Array Slot), narrow .boolean (.int r) = .int r → post r f_open → va_P D vwCl [(h_m, .inr (8, [.int v_thrown, .int v_n, .ref h_mwholes, .ref h_mparts, .int v_has, .int v_known, .ref h_mknown31, .int v_many, .ref h_mprimes, .ref h_mrests, .ref h_mrows, .ref h_mdigits, .ref h_mz, .ref h_mout, .int v_printed, .ref h_mopen])), (h_mwholes, .inl (cT 0, 40, .inl f_wholes)), (h_mparts, .inl (cT 0, 1640, .inl f_parts)), (h_mopen, .inl (cT 2, 40, .inl f_open))] H → va_D A [(h_m, .inr (8, [.int v_thrown, .int v_n, .ref h_mwholes, .ref h_mparts, .int v_has, .int v_known, .ref h_mknown31, .int v_many, .ref h_mprimes, .ref h_mrests, .ref h_mrows, .ref h_mdigits, .ref h_mz, .ref h_mout, .int v_printed, .ref h_mopen])), (h_mwholes, .inl (cT 0, 40, .inl f_wholes)), (h_mparts, .inl (cT 0, 1640, .inl f_parts)), (h_mopen, .inl (cT 2, 40, .inl f_open))] → va_S A s.heap H locs → decode cX8_isStuck pc = .ok (.ireturn, 1) → W p l e ({ frames := 1, cells := 0, slots := 0, locals := 24 } : Room) s m args below meth c H locs 0 0 Q (F0 m pc ls [.int r]))  : ∀ (n : Nat) (x2 : Int32) (f_open : Nat → Int32) (H : Heap) (locs : List Loc) (ls : Array Slot), va_P D vwCl [(h_m, .inr (8, [.int v_thrown, .int v_n, .ref h_mwholes, .ref h_mparts, .int v_has, .int v_known, .ref h_mknown31, .int v_many, .ref h_mprimes, .ref h_mrests, .ref h_mrows, .ref h_mdigits, .ref h_mz, .ref h_mout, .int v_printed, .ref h_mopen])), (h_mwholes, .inl (cT 0, 40, .inl f_wholes)), (h_mparts, .inl (cT 0, 1640, .inl f_parts)), (h_mopen, .inl (cT 2, 40, .inl f_open))] H → va_D A [(h_m, .inr (8, [.int v_thrown, .int v_n, .ref h_mwholes, .ref h_mparts, .int v_has, .int v_known, .ref h_mknown31, .int v_many, .ref h_mprimes, .ref h_mrests, .ref h_mrows, .ref h_mdigits, .ref h_mz, .ref h_mout, .int v_printed, .ref h_mopen])), (h_mwholes, .inl (cT 0, 40, .inl f_wholes)), (h_mparts, .inl (cT 0, 1640, .inl f_parts)), (h_mopen, .inl (cT 2, 40, .inl f_open))] → va_S A s.heap H locs → lv_has ls 5 [(0, .ref h_m), (1, .ref h_mopen), (2, .int x2)] → wp_Model_isStuck_7 post v_thrown v_n v_has v_known v_many v_printed f_wholes f_parts n x2 f_open → W p l e ({ frames := 1, cells := 0, slots := 0, locals := 24 } : Room) s m args below meth c H locs 0 0 Q (F0 m 7 ls []) := by
  obtain ⟨⟨hx, hb, hml, hown, hts⟩, hK, hN⟩ := id C0
  intro n
  induction n with
  | zero => intro x2 f_open H locs ls hP hD hS hl hw; exact hw.elim
  | succ n ih =>
    intro x2 f_open H locs ls hP hD hS hl hw
    unfold wp_Model_isStuck_7 at hw
    refine lv_iload_n hx hb dX8_isStuck_7 rfl (lv_at hl 2 rfl) ?_
    refine lv_aload_n hx hb dX8_isStuck_8 rfl (lv_at hl 0 rfl) ?_
    refine va_get (D := D) (ci := 8) (v := .int v_n) (C := RX8) (T := TX8) (N := 16) hx hb hts inX8 hown hK hP 0 rfl rfl 1 (by decide) (hts _ q_584) (fun _ h9 => h9) rfl dX8_isStuck_9 ?_
    refine lv_icmp_ge (tgt := 62) hx hb dX8_isStuck_12 (by decide) (fun c_1 => ?_) (fun c_1 => ?_)
    · have hw := hw.1 c_1
      refine lv_iconst (v := 0) hx hb dX8_isStuck_62 (by decide) ?_
      refine lv_istore_n (lv' := [(2, .int 0), (0, .ref h_m), (1, .ref h_mopen)]) hx hb dX8_isStuck_63 rfl hl (by decide) rfl (fun ls hl => ?_)
      obtain ⟨n9, hw⟩ := hw
      exact tw_Model_isStuck_64 C0 hA hret  n9 _ _ _ _ _ hP hD hS (lv_sub hl [1, 2, 0] rfl) hw
    · have hw := hw.2 c_1
      refine lv_aload_n hx hb dX8_isStuck_15 rfl (lv_at hl 1 rfl) ?_
      refine lv_iload_n hx hb dX8_isStuck_16 rfl (lv_at hl 2 rfl) ?_
      refine lv_aload_n hx hb dX8_isStuck_17 rfl (lv_at hl 0 rfl) ?_
      refine va_get (D := D) (ci := 8) (v := .ref h_mparts) (C := RX8) (T := TX8) (N := 16) hx hb hts inX8 hown hK hP 0 rfl rfl 3 (by decide) (hts _ q_586) (fun _ h9 => h9) rfl dX8_isStuck_18 ?_
      refine lv_bipush (v := 41) hx hb dX8_isStuck_21 (by decide) ?_
      refine lv_iload_n hx hb dX8_isStuck_23 rfl (lv_at hl 2 rfl) ?_
      refine lv_imul hx hb dX8_isStuck_24 ?_
      refine lv_aload_n hx hb dX8_isStuck_25 rfl (lv_at hl 0 rfl) ?_
      refine va_get (D := D) (ci := 8) (v := .int v_n) (C := RX8) (T := TX8) (N := 16) hx hb hts inX8 hown hK hP 0 rfl rfl 1 (by decide) (hts _ q_584) (fun _ h9 => h9) rfl dX8_isStuck_26 ?_
      refine lv_iadd hx hb dX8_isStuck_29 ?_
      obtain ⟨h_20, hw⟩ := hw
      refine va_iald hx hb hK hP 2 0 rfl rfl h_20 dX8_isStuck_30 ?_
      refine lv_if_gt (tgt := 50) hx hb dX8_isStuck_31 (by decide) (fun c_21 => ?_) (fun c_21 => ?_)
      · have hw := hw.1 c_21
        exact tw_Model_isStuck_50 C0 hA hret ih _ _ _ _ _ _ hP hD hS (lv_sub hl [0, 1, 2] rfl) hw
      · have hw := hw.2 c_21
        refine lv_aload_n hx hb dX8_isStuck_34 rfl (lv_at hl 0 rfl) ?_
        refine lv_iload_n hx hb dX8_isStuck_35 rfl (lv_at hl 2 rfl) ?_
        have hPc := hP.sub (ws' := [(h_m, .inr (8, [.int v_thrown, .int v_n, .ref h_mwholes, .ref h_mparts, .int v_has, .int v_known, .ref h_mknown31, .int v_many, .ref h_mprimes, .ref h_mrests, .ref h_mrows, .ref h_mdigits, .ref h_mz, .ref h_mout, .int v_printed, .ref h_mopen])), (h_mparts, .inl (cT 0, 1640, .inl f_parts))]) [0, 2] rfl
        have hDc := hD.sub (ws' := [(h_m, .inr (8, [.int v_thrown, .int v_n, .ref h_mwholes, .ref h_mparts, .int v_has, .int v_known, .ref h_mknown31, .int v_many, .ref h_mprimes, .ref h_mrests, .ref h_mrows, .ref h_mdigits, .ref h_mz, .ref h_mout, .int v_printed, .ref h_mopen])), (h_mparts, .inl (cT 0, 1640, .inl f_parts))]) [0, 2] (by decide) rfl
        have hFc := va_free (wc := [(h_m, .inr (8, [.int v_thrown, .int v_n, .ref h_mwholes, .ref h_mparts, .int v_has, .int v_known, .ref h_mknown31, .int v_many, .ref h_mprimes, .ref h_mrests, .ref h_mrows, .ref h_mdigits, .ref h_mz, .ref h_mout, .int v_printed, .ref h_mopen])), (h_mparts, .inl (cT 0, 1640, .inl f_parts))]) hD hS hA [0, 2] rfl
        refine va_calll (va_runV (As := [.int x2]) (rest := [.int x2, .ref h_mopen]) ⟨hx, hb, hml, hown, hts⟩ (cn_Model_together l D cT h_m h_mparts h_mwholes h_mknown31 h_mprimes h_mrests h_mrows h_mdigits h_mz h_mout h_mopen H.size v_thrown v_n v_has v_known v_many v_printed f_parts x2 _ hw) (gv_ 1 q_656 q_9 q_653 q_655 qs_21 (by decide +kernel) ⟨Nat.le_of_ble_eq_true rfl, Nat.le_of_ble_eq_true rfl⟩ hts) ⟨pre_blind, va_recv hK hPc (ci := 8) (q0 := 0) rfl rfl, fun U hU hW => ⟨rfl, pre_mk hU hW hPc hK hDc hN⟩⟩ rfl rfl hl.1 rfl (lv_room (Nat.le_of_ble_eq_true rfl)) dX8_isStuck_36 ⟨(Nat.zero_le _), (Nat.zero_le _)⟩) hS (fun q _ h => hFc q h) hFc (fun r_24 u9 t H locs ht hvm hw hB hz1 hk1 hS => ?_)
        obtain ⟨hP1, hD1⟩ := hB
        rw [ht] at hP1
        obtain ⟨hP, hD⟩ := va_join (wr := [(h_mwholes, .inl (cT 0, 40, .inl f_wholes)), (h_mopen, .inl (cT 2, 40, .inl f_open))]) (w1 := [(h_m, .inr (8, [.int v_thrown, .int v_n, .ref h_mwholes, .ref h_mparts, .int v_has, .int v_known, .ref h_mknown31, .int v_many, .ref h_mprimes, .ref h_mrests, .ref h_mrows, .ref h_mdigits, .ref h_mz, .ref h_mout, .int v_printed, .ref h_mopen])), (h_mparts, .inl (cT 0, 1640, .inl f_parts))]) hP hD [0, 2] [1, 3] rfl rfl (by decide) (by decide) hk1 hFc hP1 hD1
        have hP := hP.sub (ws' := [(h_m, .inr (8, [.int v_thrown, .int v_n, .ref h_mwholes, .ref h_mparts, .int v_has, .int v_known, .ref h_mknown31, .int v_many, .ref h_mprimes, .ref h_mrests, .ref h_mrows, .ref h_mdigits, .ref h_mz, .ref h_mout, .int v_printed, .ref h_mopen])), (h_mwholes, .inl (cT 0, 40, .inl f_wholes)), (h_mparts, .inl (cT 0, 1640, .inl f_parts)), (h_mopen, .inl (cT 2, 40, .inl f_open))]) [2, 0, 3, 1] rfl
        have hD := hD.sub (ws' := [(h_m, .inr (8, [.int v_thrown, .int v_n, .ref h_mwholes, .ref h_mparts, .int v_has, .int v_known, .ref h_mknown31, .int v_many, .ref h_mprimes, .ref h_mrests, .ref h_mrows, .ref h_mdigits, .ref h_mz, .ref h_mout, .int v_printed, .ref h_mopen])), (h_mwholes, .inl (cT 0, 40, .inl f_wholes)), (h_mparts, .inl (cT 0, 1640, .inl f_parts)), (h_mopen, .inl (cT 2, 40, .inl f_open))]) [2, 0, 3, 1] (by decide) rfl
        clear hP1 hD1 hPc hDc hFc hk1 hz1 hvm ht
        try dsimp only at hw
        refine lv_aload_n hx hb dX8_isStuck_39 rfl (lv_at hl 0 rfl) ?_
        refine va_get (D := D) (ci := 8) (v := .ref h_mwholes) (C := RX8) (T := TX8) (N := 16) hx hb hts inX8 hown hK hP 0 rfl rfl 2 (by decide) (hts _ q_585) (fun _ h9 => h9) rfl dX8_isStuck_40 ?_
        refine lv_iload_n hx hb dX8_isStuck_43 rfl (lv_at hl 2 rfl) ?_
        obtain ⟨h_25, hw⟩ := hw
        refine va_iald hx hb hK hP 1 0 rfl rfl h_25 dX8_isStuck_44 ?_
        refine lv_i2l hx hb dX8_isStuck_45 rfl ?_
        refine W.lcmp hx hb dX8_isStuck_46 ?_
        refine lv_if_ge (tgt := 54) hx hb dX8_isStuck_47 (by decide) (fun c_26 => ?_) (fun c_26 => ?_)
        · have hw := hw.1 c_26
          refine lv_iconst (v := 0) hx hb dX8_isStuck_54 (by decide) ?_
          exact tw_Model_isStuck_55 C0 hA hret ih _ _ _ _ _ _ _ hP hD hS (lv_sub hl [0, 1, 2] rfl) hw
        · have hw := hw.2 c_26
          exact tw_Model_isStuck_50 C0 hA hret ih _ _ _ _ _ _ hP hD hS (lv_sub hl [0, 1, 2] rfl) hw
set_option maxHeartbeats 4000000 in
set_option maxRecDepth 100000 in
theorem tw_Model_isStuck {post : Int32 → (Nat → Int32) → Prop} {h_m h_mwholes h_mparts h_mopen h_mknown31 h_mprimes h_mrests h_mrows h_mdigits h_mz h_mout : Nat} {v_thrown : Int32} {v_n : Int32} {v_has : Int32} {v_known : Int32} {v_many : Int32} {v_printed : Int32} {f_wholes : Nat → Int32} {f_parts : Nat → Int32}  (C0 : cx RX8 cX8_isStuck 5 D cT p s m c args) (hA : ∀ q, s.heap.size ≤ q → A q) (hret : ∀ (r : Int32) (f_open : Nat → Int32) (H : Heap) (locs : List Loc) (pc : Nat) (ls : Array Slot), narrow .boolean (.int r) = .int r → post r f_open → va_P D vwCl [(h_m, .inr (8, [.int v_thrown, .int v_n, .ref h_mwholes, .ref h_mparts, .int v_has, .int v_known, .ref h_mknown31, .int v_many, .ref h_mprimes, .ref h_mrests, .ref h_mrows, .ref h_mdigits, .ref h_mz, .ref h_mout, .int v_printed, .ref h_mopen])), (h_mwholes, .inl (cT 0, 40, .inl f_wholes)), (h_mparts, .inl (cT 0, 1640, .inl f_parts)), (h_mopen, .inl (cT 2, 40, .inl f_open))] H → va_D A [(h_m, .inr (8, [.int v_thrown, .int v_n, .ref h_mwholes, .ref h_mparts, .int v_has, .int v_known, .ref h_mknown31, .int v_many, .ref h_mprimes, .ref h_mrests, .ref h_mrows, .ref h_mdigits, .ref h_mz, .ref h_mout, .int v_printed, .ref h_mopen])), (h_mwholes, .inl (cT 0, 40, .inl f_wholes)), (h_mparts, .inl (cT 0, 1640, .inl f_parts)), (h_mopen, .inl (cT 2, 40, .inl f_open))] → va_S A s.heap H locs → decode cX8_isStuck pc = .ok (.ireturn, 1) → W p l e ({ frames := 1, cells := 0, slots := 0, locals := 24 } : Room) s m args below meth c H locs 0 0 Q (F0 m pc ls [.int r]))  : ∀ (f_open : Nat → Int32) (H : Heap) (locs : List Loc) (ls : Array Slot), va_P D vwCl [(h_m, .inr (8, [.int v_thrown, .int v_n, .ref h_mwholes, .ref h_mparts, .int v_has, .int v_known, .ref h_mknown31, .int v_many, .ref h_mprimes, .ref h_mrests, .ref h_mrows, .ref h_mdigits, .ref h_mz, .ref h_mout, .int v_printed, .ref h_mopen])), (h_mwholes, .inl (cT 0, 40, .inl f_wholes)), (h_mparts, .inl (cT 0, 1640, .inl f_parts)), (h_mopen, .inl (cT 2, 40, .inl f_open))] H → va_D A [(h_m, .inr (8, [.int v_thrown, .int v_n, .ref h_mwholes, .ref h_mparts, .int v_has, .int v_known, .ref h_mknown31, .int v_many, .ref h_mprimes, .ref h_mrests, .ref h_mrows, .ref h_mdigits, .ref h_mz, .ref h_mout, .int v_printed, .ref h_mopen])), (h_mwholes, .inl (cT 0, 40, .inl f_wholes)), (h_mparts, .inl (cT 0, 1640, .inl f_parts)), (h_mopen, .inl (cT 2, 40, .inl f_open))] → va_S A s.heap H locs → lv_has ls 5 [(0, .ref h_m)] → wp_Model_isStuck post v_thrown v_n v_has v_known v_many v_printed f_wholes f_parts f_open → W p l e ({ frames := 1, cells := 0, slots := 0, locals := 24 } : Room) s m args below meth c H locs 0 0 Q (F0 m 0 ls []) := by
  obtain ⟨⟨hx, hb, hml, hown, hts⟩, hK, hN⟩ := id C0
  intro f_open H locs ls hP hD hS hl hw
  unfold wp_Model_isStuck at hw
  refine lv_aload_n hx hb dX8_isStuck_0 rfl (lv_at hl 0 rfl) ?_
  refine va_get (D := D) (ci := 8) (v := .ref h_mopen) (C := RX8) (T := TX8) (N := 16) hx hb hts inX8 hown hK hP 0 rfl rfl 15 (by decide) (hts _ q_598) (fun _ h9 => h9) rfl dX8_isStuck_1 ?_
  refine lv_astore_n (lv' := [(1, .ref h_mopen), (0, .ref h_m)]) hx hb dX8_isStuck_4 rfl hl (by decide) rfl (fun ls hl => ?_)
  refine lv_iconst (v := 0) hx hb dX8_isStuck_5 (by decide) ?_
  refine lv_istore_n (lv' := [(2, .int 0), (1, .ref h_mopen), (0, .ref h_m)]) hx hb dX8_isStuck_6 rfl hl (by decide) rfl (fun ls hl => ?_)
  obtain ⟨n9, hw⟩ := hw
  exact tw_Model_isStuck_7 C0 hA hret  n9 _ _ _ _ _ hP hD hS (lv_sub hl [2, 1, 0] rfl) hw
set_option maxHeartbeats 4000000 in
set_option maxRecDepth 100000 in
theorem cn_Model_isStuck (l : Launch) (D : va_G) (cT : Nat → ClassId) (h_m h_mwholes h_mparts h_mopen h_mknown31 h_mprimes h_mrests h_mrows h_mdigits h_mz h_mout : Nat) (sz : Nat) (v_thrown : Int32) (v_n : Int32) (v_has : Int32) (v_known : Int32) (v_many : Int32) (v_printed : Int32) (f_wholes : Nat → Int32) (f_parts : Nat → Int32) (f_open : Nat → Int32)  (post : Int32 → (Nat → Int32) → Prop) (hw : wp_Model_isStuck post v_thrown v_n v_has v_known v_many v_printed f_wholes f_parts f_open) : Met l yX8_isStuck wX8_isStuck ({ frames := 1, cells := 0, slots := 0, locals := 24 } : Room) (va_Pc [.ref h_m] (pre_ D cT [(h_m, .inr (8, [.int v_thrown, .int v_n, .ref h_mwholes, .ref h_mparts, .int v_has, .int v_known, .ref h_mknown31, .int v_many, .ref h_mprimes, .ref h_mrests, .ref h_mrows, .ref h_mdigits, .ref h_mz, .ref h_mout, .int v_printed, .ref h_mopen])), (h_mwholes, .inl (cT 0, 40, .inl f_wholes)), (h_mparts, .inl (cT 0, 1640, .inl f_parts)), (h_mopen, .inl (cT 2, 40, .inl f_open))] sz)) (va_Qi (fun (r : Int32) (u : (Nat → Int32)) => post r u) (fun u t => va_P D vwCl [(h_m, .inr (8, [.int v_thrown, .int v_n, .ref h_mwholes, .ref h_mparts, .int v_has, .int v_known, .ref h_mknown31, .int v_many, .ref h_mprimes, .ref h_mrests, .ref h_mrows, .ref h_mdigits, .ref h_mz, .ref h_mout, .int v_printed, .ref h_mopen])), (h_mwholes, .inl (cT 0, 40, .inl f_wholes)), (h_mparts, .inl (cT 0, 1640, .inl f_parts)), (h_mopen, .inl (cT 2, 40, .inl u))] t.heap ∧ va_D (va_A [(h_m, .inr (8, [.int v_thrown, .int v_n, .ref h_mwholes, .ref h_mparts, .int v_has, .int v_known, .ref h_mknown31, .int v_many, .ref h_mprimes, .ref h_mrests, .ref h_mrows, .ref h_mdigits, .ref h_mz, .ref h_mout, .int v_printed, .ref h_mopen])), (h_mwholes, .inl (cT 0, 40, .inl f_wholes)), (h_mparts, .inl (cT 0, 1640, .inl f_parts)), (h_mopen, .inl (cT 2, 40, .inl f_open))] sz) [(h_m, .inr (8, [.int v_thrown, .int v_n, .ref h_mwholes, .ref h_mparts, .int v_has, .int v_known, .ref h_mknown31, .int v_many, .ref h_mprimes, .ref h_mrests, .ref h_mrows, .ref h_mdigits, .ref h_mz, .ref h_mout, .int v_printed, .ref h_mopen])), (h_mwholes, .inl (cT 0, 40, .inl f_wholes)), (h_mparts, .inl (cT 0, 1640, .inl f_parts)), (h_mopen, .inl (cT 2, 40, .inl u))]) (va_A [(h_m, .inr (8, [.int v_thrown, .int v_n, .ref h_mwholes, .ref h_mparts, .int v_has, .int v_known, .ref h_mknown31, .int v_many, .ref h_mprimes, .ref h_mrests, .ref h_mrows, .ref h_mdigits, .ref h_mz, .ref h_mout, .int v_printed, .ref h_mopen])), (h_mwholes, .inl (cT 0, 40, .inl f_wholes)), (h_mparts, .inl (cT 0, 1640, .inl f_parts)), (h_mopen, .inl (cT 2, 40, .inl f_open))] sz)) 0 0 (va_A [(h_m, .inr (8, [.int v_thrown, .int v_n, .ref h_mwholes, .ref h_mparts, .int v_has, .int v_known, .ref h_mknown31, .int v_many, .ref h_mprimes, .ref h_mrests, .ref h_mrows, .ref h_mdigits, .ref h_mz, .ref h_mout, .int v_printed, .ref h_mopen])), (h_mwholes, .inl (cT 0, 40, .inl f_wholes)), (h_mparts, .inl (cT 0, 1640, .inl f_parts)), (h_mopen, .inl (cT 2, 40, .inl f_open))] sz) := by
  refine Met.ofW (cc := cX8_isStuck) (maxL := 5) (ret := (some .boolean)) (by decide) rfl ?_
  intro p e s m args below meth c s₁ B hml hv
  obtain ⟨rfl, hsz, hP, hK, hD0, hN⟩ := hv
  have hx := B.exec
  have hb := B.bytes
  have hr := B.returns
  have hts : ∀ w ∈ WG, w.before _ s = true := fun w h => atoms_spec (ws := wX8_isStuck) B.pre w (List.mem_cons_of_mem _ h)
  have hown : s.vm.findClass RX8 = some m.cls := findClass_of_methodNamed B.named
  have hlocks := B.notSynchronized
  subst hsz
  have hD := hD0.self (sz := s.heap.size)
  generalize hAe : va_A [(h_m, .inr (8, [.int v_thrown, .int v_n, .ref h_mwholes, .ref h_mparts, .int v_has, .int v_known, .ref h_mknown31, .int v_many, .ref h_mprimes, .ref h_mrests, .ref h_mrows, .ref h_mdigits, .ref h_mz, .ref h_mout, .int v_printed, .ref h_mopen])), (h_mwholes, .inl (cT 0, 40, .inl f_wholes)), (h_mparts, .inl (cT 0, 1640, .inl f_parts)), (h_mopen, .inl (cT 2, 40, .inl f_open))] s.heap.size = A at hD ⊢
  have hA : ∀ q : Nat, s.heap.size ≤ q → A q := fun q h => by rw [← hAe]; exact Or.inr h
  have hS : va_S A s.heap s.heap [] := va_S.rf
  have hl := lv_entry ([.ref h_m]) (n := 5) (Nat.le_of_ble_eq_true rfl)
  rw [lg_entry_eq]
  generalize (lg_sl ([.ref h_m]) ++ List.replicate (5 - (lg_sl ([.ref h_m])).length) Slot.unset).toArray = ls at hl ⊢
  refine tw_Model_isStuck (Q := MQ below _ _ s 0 0 A) ⟨⟨hx, hb, hml, hown, hts⟩, hK, hN⟩ hA (fun r f_open H locs pc ls hn9 hp hP hD hS hd => W.zret (v := r) hx hb hr hn9 (fun t ht hW => ⟨⟨r, (f_open), rfl, hp, by rw [ht]; exact hP, hD⟩, hS.F ht⟩) hS.2.2 hd) _ _ _ _ hP hD hS hl hw
end
def wp_Model_isPrime_4 (post : Int32 → Prop)   : Nat → Int64 → Int64 → Prop
  | 0 => fun _ _ => False
  | n + 1 => fun x0 x2 => ((0 < (lg_cmp (x2 * x2) x0) → (post 1)) ∧ (¬ 0 < (lg_cmp (x2 * x2) x0) → ((¬ x2 = 0 ∧ ((((lg_cmp (x0 - x0 / x2 * x2) 0) = 0 → (post 0)) ∧ (¬ (lg_cmp (x0 - x0 / x2 * x2) 0) = 0 → (∀ x2_4 : Int64, x2_4 = x2 + 2 → wp_Model_isPrime_4 post n x0 x2_4))))))))
def wp_Model_isPrime (post : Int32 → Prop)   (x0 : Int64) : Prop := ∃ k9, wp_Model_isPrime_4 post k9 x0 3
section
variable {p : Program} {l : Launch} {e : Env} {s : State} {m : MethodId} {args : Array Value} {below : List Frame} {meth : Method} {c : Code} {Q : State → Prop} {A : Nat → Prop} {D : va_G} {cT : Nat → ClassId}
set_option maxHeartbeats 4000000 in
set_option maxRecDepth 100000 in
theorem tw_Model_isPrime_4 {post : Int32 → Prop}   (C0 : cx RX8 cX8_isPrime 4 D cT p s m c args) (hA : ∀ q, s.heap.size ≤ q → A q) (hret : ∀ (r : Int32)  (H : Heap) (locs : List Loc) (pc : Nat) (ls : Array Slot), narrow .boolean (.int r) = .int r → post r → va_P D vwCl [] H → va_D A [] → va_S A s.heap H locs → decode cX8_isPrime pc = .ok (.ireturn, 1) → W p l e ({ frames := 0, cells := 0, slots := 0, locals := 0 } : Room) s m args below meth c H locs 0 0 Q (F0 m pc ls [.int r]))  : ∀ (n : Nat) (x0 : Int64) (x2 : Int64) (H : Heap) (locs : List Loc) (ls : Array Slot), va_P D vwCl [] H → va_D A [] → va_S A s.heap H locs → lv_has ls 4 [(0, .long x0), (2, .long x2)] → wp_Model_isPrime_4 post n x0 x2 → W p l e ({ frames := 0, cells := 0, slots := 0, locals := 0 } : Room) s m args below meth c H locs 0 0 Q (F0 m 4 ls []) := by
  obtain ⟨⟨hx, hb, hml, hown, hts⟩, hK, hN⟩ := id C0
  intro n
  induction n with
  | zero => intro x0 x2 H locs ls hP hD hS hl hw; exact hw.elim
  | succ n ih =>
    intro x0 x2 H locs ls hP hD hS hl hw
    unfold wp_Model_isPrime_4 at hw
    refine lv_lload_n hx hb dX8_isPrime_4 rfl (lv_at hl 1 rfl) ?_
    refine lv_lload_n hx hb dX8_isPrime_5 rfl (lv_at hl 1 rfl) ?_
    refine lv_lmul hx hb dX8_isPrime_6 ?_
    refine lv_lload_n hx hb dX8_isPrime_7 rfl (lv_at hl 0 rfl) ?_
    refine W.lcmp hx hb dX8_isPrime_8 ?_
    refine lv_if_gt (tgt := 31) hx hb dX8_isPrime_9 (by decide) (fun c_1 => ?_) (fun c_1 => ?_)
    · have hw := hw.1 c_1
      refine lv_iconst (v := 1) hx hb dX8_isPrime_31 (by decide) ?_
      exact hret _  _ _ _ _ rfl hw hP hD hS dX8_isPrime_32
    · have hw := hw.2 c_1
      refine lv_lload_n hx hb dX8_isPrime_12 rfl (lv_at hl 0 rfl) ?_
      refine lv_lload_n hx hb dX8_isPrime_13 rfl (lv_at hl 1 rfl) ?_
      obtain ⟨h_2, hw⟩ := hw
      refine lv_lrem hx hb dX8_isPrime_14 h_2 ?_
      refine lv_lconst (v := 0) hx hb dX8_isPrime_15 (by decide) ?_
      refine W.lcmp hx hb dX8_isPrime_16 ?_
      refine lv_if_ne (tgt := 22) hx hb dX8_isPrime_17 (by decide) (fun c_3 => ?_) (fun c_3 => ?_)
      · have hw := hw.2 c_3
        refine lv_lload_n hx hb dX8_isPrime_22 rfl (lv_at hl 1 rfl) ?_
        refine lv_ldc2 (v := 2) hx hb hown (hts _ q_665) dX8_isPrime_23 ?_
        refine lv_ladd hx hb dX8_isPrime_26 ?_
        refine lv_topl (fun x2_4 ex2_4 => ?_)
        have hw := hw x2_4 ex2_4
        refine lv_lstore_n (lv' := [(2, .long x2_4), (0, .long x0)]) hx hb dX8_isPrime_27 rfl hl (by decide) rfl (fun ls hl => ?_)
        refine lv_goto (tgt := 4) hx hb dX8_isPrime_28 (by decide) ?_
        exact ih _ _ _ _ _ hP hD hS (lv_sub hl [1, 0] rfl) hw
      · have hw := hw.1 c_3
        refine lv_iconst (v := 0) hx hb dX8_isPrime_20 (by decide) ?_
        exact hret _  _ _ _ _ rfl hw hP hD hS dX8_isPrime_21
set_option maxHeartbeats 4000000 in
set_option maxRecDepth 100000 in
theorem tw_Model_isPrime {post : Int32 → Prop}   (C0 : cx RX8 cX8_isPrime 4 D cT p s m c args) (hA : ∀ q, s.heap.size ≤ q → A q) (hret : ∀ (r : Int32)  (H : Heap) (locs : List Loc) (pc : Nat) (ls : Array Slot), narrow .boolean (.int r) = .int r → post r → va_P D vwCl [] H → va_D A [] → va_S A s.heap H locs → decode cX8_isPrime pc = .ok (.ireturn, 1) → W p l e ({ frames := 0, cells := 0, slots := 0, locals := 0 } : Room) s m args below meth c H locs 0 0 Q (F0 m pc ls [.int r]))  : ∀ (x0 : Int64) (H : Heap) (locs : List Loc) (ls : Array Slot), va_P D vwCl [] H → va_D A [] → va_S A s.heap H locs → lv_has ls 4 [(0, .long x0)] → wp_Model_isPrime post x0 → W p l e ({ frames := 0, cells := 0, slots := 0, locals := 0 } : Room) s m args below meth c H locs 0 0 Q (F0 m 0 ls []) := by
  obtain ⟨⟨hx, hb, hml, hown, hts⟩, hK, hN⟩ := id C0
  intro x0 H locs ls hP hD hS hl hw
  unfold wp_Model_isPrime at hw
  refine lv_ldc2 (v := 3) hx hb hown (hts _ q_682) dX8_isPrime_0 ?_
  refine lv_lstore_n (lv' := [(2, .long 3), (0, .long x0)]) hx hb dX8_isPrime_3 rfl hl (by decide) rfl (fun ls hl => ?_)
  obtain ⟨n9, hw⟩ := hw
  exact tw_Model_isPrime_4 C0 hA hret  n9 _ _ _ _ _ hP hD hS (lv_sub hl [1, 0] rfl) hw
set_option maxHeartbeats 4000000 in
set_option maxRecDepth 100000 in
theorem cn_Model_isPrime (l : Launch) (D : va_G) (cT : Nat → ClassId) (sz : Nat)  (x0 : Int64) (post : Int32 → Prop) (hw : wp_Model_isPrime post x0) : Met l yX8_isPrime wX8_isPrime ({ frames := 0, cells := 0, slots := 0, locals := 0 } : Room) (va_Pc [.long x0] (pre_ D cT [] sz)) (va_Qi (fun (r : Int32) (u : Unit) => post r) (fun u t => va_P D vwCl [] t.heap ∧ va_D (va_A [] sz) []) (va_A [] sz)) 0 0 (va_A [] sz) := by
  refine Met.ofW (cc := cX8_isPrime) (maxL := 4) (ret := (some .boolean)) (by decide) rfl ?_
  intro p e s m args below meth c s₁ B hml hv
  obtain ⟨rfl, hsz, hP, hK, hD0, hN⟩ := hv
  have hx := B.exec
  have hb := B.bytes
  have hr := B.returns
  have hts : ∀ w ∈ WG, w.before _ s = true := fun w h => atoms_spec (ws := wX8_isPrime) B.pre w (List.mem_cons_of_mem _ h)
  have hown : s.vm.findClass RX8 = some m.cls := findClass_of_methodNamed B.named
  have hlocks := B.notSynchronized
  subst hsz
  have hD := hD0.self (sz := s.heap.size)
  generalize hAe : va_A [] s.heap.size = A at hD ⊢
  have hA : ∀ q : Nat, s.heap.size ≤ q → A q := fun q h => by rw [← hAe]; exact Or.inr h
  have hS : va_S A s.heap s.heap [] := va_S.rf
  have hl := lv_entry ([.long x0]) (n := 4) (Nat.le_of_ble_eq_true rfl)
  rw [lg_entry_eq]
  generalize (lg_sl ([.long x0]) ++ List.replicate (4 - (lg_sl ([.long x0])).length) Slot.unset).toArray = ls at hl ⊢
  refine tw_Model_isPrime (Q := MQ below _ _ s 0 0 A) ⟨⟨hx, hb, hml, hown, hts⟩, hK, hN⟩ hA (fun r  H locs pc ls hn9 hp hP hD hS hd => W.zret (v := r) hx hb hr hn9 (fun t ht hW => ⟨⟨r, (), rfl, hp, by rw [ht]; exact hP, hD⟩, hS.F ht⟩) hS.2.2 hd) _ _ _ _ hP hD hS hl hw
end
def wp_Model_prime_37 (post : Int64 → Int32 → (Nat → Int64) → Prop) (v_thrown : Int32) (v_n : Int32) (v_has : Int32) (v_many : Int32) (v_printed : Int32) (K0 : Int32 → Int32 → (Nat → Int64) → Prop) : Nat → Int32 → Int64 → Int32 → (Nat → Int64) → Prop
  | 0 => fun _ _ _ _ => False
  | n + 1 => fun x1 x2 v_known f_known31 => wp_Model_isPrime (fun r_5 => ((r_5 = 0 → (∀ x2_9 : Int64, x2_9 = x2 - 2 → wp_Model_prime_37 post v_thrown v_n v_has v_many v_printed K0 n x1 x2_9 v_known f_known31)) ∧ (¬ r_5 = 0 → ((vp_in v_known 64 ∧ (∀ v_8 : Int32, v_8 = v_known + 1 → K0 x1 v_8 (vp_updL f_known31 v_known.toNatClampNeg x2))))))) x2
def wp_Model_prime_36 (post : Int64 → Int32 → (Nat → Int64) → Prop) (v_thrown : Int32) (v_n : Int32) (v_has : Int32) (v_many : Int32) (v_printed : Int32) (K0 : Int32 → Int32 → (Nat → Int64) → Prop) (x1 : Int32) (y0 : Int64) (v_known : Int32) (f_known31 : Nat → Int64) : Prop := ∃ k9, wp_Model_prime_37 post v_thrown v_n v_has v_many v_printed K0 k9 x1 y0 v_known f_known31
def wp_Model_prime_0 (post : Int64 → Int32 → (Nat → Int64) → Prop) (v_thrown : Int32) (v_n : Int32) (v_has : Int32) (v_many : Int32) (v_printed : Int32)  : Nat → Int32 → Int32 → (Nat → Int64) → Prop
  | 0 => fun _ _ _ => False
  | n + 1 => fun x1 v_known f_known31 => ((x1 < v_known → ((vp_in x1 64 ∧ (post (f_known31 x1.toNatClampNeg) v_known f_known31)))) ∧ (¬ x1 < v_known → (((v_known = 0 → (wp_Model_prime_36 post v_thrown v_n v_has v_many v_printed (wp_Model_prime_0 post v_thrown v_n v_has v_many v_printed n) x1 2147483647 v_known f_known31)) ∧ (¬ v_known = 0 → ((vp_in (v_known - 1) 64 ∧ (wp_Model_prime_36 post v_thrown v_n v_has v_many v_printed (wp_Model_prime_0 post v_thrown v_n v_has v_many v_printed n) x1 ((f_known31 (v_known - 1).toNatClampNeg) - 2) v_known f_known31))))))))
def wp_Model_prime (post : Int64 → Int32 → (Nat → Int64) → Prop) (v_thrown : Int32) (v_n : Int32) (v_has : Int32) (v_many : Int32) (v_printed : Int32)  (x1 : Int32) (v_known : Int32) (f_known31 : Nat → Int64) : Prop := ∃ k9, wp_Model_prime_0 post v_thrown v_n v_has v_many v_printed k9 x1 v_known f_known31
section
variable {p : Program} {l : Launch} {e : Env} {s : State} {m : MethodId} {args : Array Value} {below : List Frame} {meth : Method} {c : Code} {Q : State → Prop} {A : Nat → Prop} {D : va_G} {cT : Nat → ClassId}
set_option maxHeartbeats 4000000 in
set_option maxRecDepth 100000 in
theorem tw_Model_prime_37 {post : Int64 → Int32 → (Nat → Int64) → Prop} {h_m h_mknown31 h_mwholes h_mparts h_mprimes h_mrests h_mrows h_mdigits h_mz h_mout h_mopen : Nat} {v_thrown : Int32} {v_n : Int32} {v_has : Int32} {v_many : Int32} {v_printed : Int32} {K0 : Int32 → Int32 → (Nat → Int64) → Prop} (C0 : cx RX8 cX8_prime 4 D cT p s m c args) (hA : ∀ q, s.heap.size ≤ q → A q) (hret : ∀ (r : Int64) (v_known : Int32) (f_known31 : Nat → Int64) (H : Heap) (locs : List Loc) (pc : Nat) (ls : Array Slot), post r v_known f_known31 → va_P D vwCl [(h_m, .inr (8, [.int v_thrown, .int v_n, .ref h_mwholes, .ref h_mparts, .int v_has, .int v_known, .ref h_mknown31, .int v_many, .ref h_mprimes, .ref h_mrests, .ref h_mrows, .ref h_mdigits, .ref h_mz, .ref h_mout, .int v_printed, .ref h_mopen])), (h_mknown31, .inl (cT 1, 64, .inr (.inl f_known31)))] H → va_D A [(h_m, .inr (8, [.int v_thrown, .int v_n, .ref h_mwholes, .ref h_mparts, .int v_has, .int v_known, .ref h_mknown31, .int v_many, .ref h_mprimes, .ref h_mrests, .ref h_mrows, .ref h_mdigits, .ref h_mz, .ref h_mout, .int v_printed, .ref h_mopen])), (h_mknown31, .inl (cT 1, 64, .inr (.inl f_known31)))] → va_S A s.heap H locs → decode cX8_prime pc = .ok (.lreturn, 1) → W p l e ({ frames := 1, cells := 0, slots := 0, locals := 23 } : Room) s m args below meth c H locs 0 0 Q (F0 m pc ls [.long r])) (hK0 : ∀ (x1 : Int32) (v_known : Int32) (f_known31 : Nat → Int64) (H : Heap) (locs : List Loc) (ls : Array Slot), va_P D vwCl [(h_m, .inr (8, [.int v_thrown, .int v_n, .ref h_mwholes, .ref h_mparts, .int v_has, .int v_known, .ref h_mknown31, .int v_many, .ref h_mprimes, .ref h_mrests, .ref h_mrows, .ref h_mdigits, .ref h_mz, .ref h_mout, .int v_printed, .ref h_mopen])), (h_mknown31, .inl (cT 1, 64, .inr (.inl f_known31)))] H → va_D A [(h_m, .inr (8, [.int v_thrown, .int v_n, .ref h_mwholes, .ref h_mparts, .int v_has, .int v_known, .ref h_mknown31, .int v_many, .ref h_mprimes, .ref h_mrests, .ref h_mrows, .ref h_mdigits, .ref h_mz, .ref h_mout, .int v_printed, .ref h_mopen])), (h_mknown31, .inl (cT 1, 64, .inr (.inl f_known31)))] → va_S A s.heap H locs → lv_has ls 4 [(0, .ref h_m), (1, .int x1)] → K0 x1 v_known f_known31 → W p l e ({ frames := 1, cells := 0, slots := 0, locals := 23 } : Room) s m args below meth c H locs 0 0 Q (F0 m 0 ls [])) : ∀ (n : Nat) (x1 : Int32) (x2 : Int64) (v_known : Int32) (f_known31 : Nat → Int64) (H : Heap) (locs : List Loc) (ls : Array Slot), va_P D vwCl [(h_m, .inr (8, [.int v_thrown, .int v_n, .ref h_mwholes, .ref h_mparts, .int v_has, .int v_known, .ref h_mknown31, .int v_many, .ref h_mprimes, .ref h_mrests, .ref h_mrows, .ref h_mdigits, .ref h_mz, .ref h_mout, .int v_printed, .ref h_mopen])), (h_mknown31, .inl (cT 1, 64, .inr (.inl f_known31)))] H → va_D A [(h_m, .inr (8, [.int v_thrown, .int v_n, .ref h_mwholes, .ref h_mparts, .int v_has, .int v_known, .ref h_mknown31, .int v_many, .ref h_mprimes, .ref h_mrests, .ref h_mrows, .ref h_mdigits, .ref h_mz, .ref h_mout, .int v_printed, .ref h_mopen])), (h_mknown31, .inl (cT 1, 64, .inr (.inl f_known31)))] → va_S A s.heap H locs → lv_has ls 4 [(0, .ref h_m), (1, .int x1), (2, .long x2)] → wp_Model_prime_37 post v_thrown v_n v_has v_many v_printed K0 n x1 x2 v_known f_known31 → W p l e ({ frames := 1, cells := 0, slots := 0, locals := 23 } : Room) s m args below meth c H locs 0 0 Q (F0 m 37 ls []) := by
  obtain ⟨⟨hx, hb, hml, hown, hts⟩, hK, hN⟩ := id C0
  intro n
  induction n with
  | zero => intro x1 x2 v_known f_known31 H locs ls hP hD hS hl hw; exact hw.elim
  | succ n ih =>
    intro x1 x2 v_known f_known31 H locs ls hP hD hS hl hw
    unfold wp_Model_prime_37 at hw
    refine lv_lload_n hx hb dX8_prime_37 rfl (lv_at hl 2 rfl) ?_
    have hPc := hP.sub (ws' := []) [] rfl
    have hDc := hD.sub (ws' := []) [] (by decide) rfl
    have hFc := va_free (wc := []) hD hS hA [] rfl
    refine va_calli (va_runS (As := [.long x2]) (rest := []) ⟨hx, hb, hml, hown, hts⟩ (cn_Model_isPrime l D cT  H.size x2 _ hw) (gs_ 1 q_681 q_9 q_679 q_680 (by decide +kernel) ⟨Nat.le_of_ble_eq_true rfl, Nat.le_of_ble_eq_true rfl⟩ hts) ⟨pre_blind, fun U hU hW => ⟨rfl, pre_mk hU hW hPc hK hDc hN⟩⟩ rfl rfl hl.1 rfl (lv_room (Nat.le_of_ble_eq_true rfl)) dX8_prime_38 ⟨(Nat.zero_le _), (Nat.zero_le _)⟩) hS (fun q _ h => hFc q h) hFc (fun r_5 u9 t H locs ht hvm hw hB hz1 hk1 hS => ?_)
    obtain ⟨hP1, hD1⟩ := hB
    rw [ht] at hP1
    obtain ⟨hP, hD⟩ := va_join (wr := [(h_m, .inr (8, [.int v_thrown, .int v_n, .ref h_mwholes, .ref h_mparts, .int v_has, .int v_known, .ref h_mknown31, .int v_many, .ref h_mprimes, .ref h_mrests, .ref h_mrows, .ref h_mdigits, .ref h_mz, .ref h_mout, .int v_printed, .ref h_mopen])), (h_mknown31, .inl (cT 1, 64, .inr (.inl f_known31)))]) (w1 := []) hP hD [] [0, 1] rfl rfl (by decide) (by decide) hk1 hFc hP1 hD1
    have hP := hP.sub (ws' := [(h_m, .inr (8, [.int v_thrown, .int v_n, .ref h_mwholes, .ref h_mparts, .int v_has, .int v_known, .ref h_mknown31, .int v_many, .ref h_mprimes, .ref h_mrests, .ref h_mrows, .ref h_mdigits, .ref h_mz, .ref h_mout, .int v_printed, .ref h_mopen])), (h_mknown31, .inl (cT 1, 64, .inr (.inl f_known31)))]) [0, 1] rfl
    have hD := hD.sub (ws' := [(h_m, .inr (8, [.int v_thrown, .int v_n, .ref h_mwholes, .ref h_mparts, .int v_has, .int v_known, .ref h_mknown31, .int v_many, .ref h_mprimes, .ref h_mrests, .ref h_mrows, .ref h_mdigits, .ref h_mz, .ref h_mout, .int v_printed, .ref h_mopen])), (h_mknown31, .inl (cT 1, 64, .inr (.inl f_known31)))]) [0, 1] (by decide) rfl
    clear hP1 hD1 hPc hDc hFc hk1 hz1 hvm ht
    try dsimp only at hw
    refine lv_if_ne (tgt := 53) hx hb dX8_prime_41 (by decide) (fun c_6 => ?_) (fun c_6 => ?_)
    · have hw := hw.2 c_6
      refine lv_aload_n hx hb dX8_prime_53 rfl (lv_at hl 0 rfl) ?_
      refine va_get (D := D) (ci := 8) (v := .ref h_mknown31) (C := RX8) (T := TX8) (N := 16) hx hb hts inX8 hown hK hP 0 rfl rfl 6 (by decide) (hts _ q_589) (fun _ h9 => h9) rfl dX8_prime_54 ?_
      refine lv_aload_n hx hb dX8_prime_57 rfl (lv_at hl 0 rfl) ?_
      refine va_get (D := D) (ci := 8) (v := .int v_known) (C := RX8) (T := TX8) (N := 16) hx hb hts inX8 hown hK hP 0 rfl rfl 5 (by decide) (hts _ q_588) (fun _ h9 => h9) rfl dX8_prime_58 ?_
      refine lv_lload_n hx hb dX8_prime_61 rfl (lv_at hl 2 rfl) ?_
      obtain ⟨h_7, hw⟩ := hw
      refine va_last hx hb hK hP hD hS 1 1 rfl rfl h_7 dX8_prime_62 (fun H locs hP hD hS => ?_)
      have hP : va_P D vwCl [(h_m, .inr (8, [.int v_thrown, .int v_n, .ref h_mwholes, .ref h_mparts, .int v_has, .int v_known, .ref h_mknown31, .int v_many, .ref h_mprimes, .ref h_mrests, .ref h_mrows, .ref h_mdigits, .ref h_mz, .ref h_mout, .int v_printed, .ref h_mopen])), (h_mknown31, .inl (cT 1, 64, .inr (.inl (vp_updL f_known31 v_known.toNatClampNeg x2))))] H := hP
      have hD : va_D A [(h_m, .inr (8, [.int v_thrown, .int v_n, .ref h_mwholes, .ref h_mparts, .int v_has, .int v_known, .ref h_mknown31, .int v_many, .ref h_mprimes, .ref h_mrests, .ref h_mrows, .ref h_mdigits, .ref h_mz, .ref h_mout, .int v_printed, .ref h_mopen])), (h_mknown31, .inl (cT 1, 64, .inr (.inl (vp_updL f_known31 v_known.toNatClampNeg x2))))] := hD
      refine lv_aload_n hx hb dX8_prime_63 rfl (lv_at hl 0 rfl) ?_
      refine lv_dup hx hb dX8_prime_64 rfl ?_
      refine va_get (D := D) (ci := 8) (v := .int v_known) (C := RX8) (T := TX8) (N := 16) hx hb hts inX8 hown hK hP 0 rfl rfl 5 (by decide) (hts _ q_588) (fun _ h9 => h9) rfl dX8_prime_65 ?_
      refine lv_iconst (v := 1) hx hb dX8_prime_68 (by decide) ?_
      refine lv_iadd hx hb dX8_prime_69 ?_
      refine lv_topi (fun v_8 ev_8 => ?_)
      have hw := hw v_8 ev_8
      refine va_put (D := D) (ci := 8) (v := .int v_8) (ty := .int) (C := RX8) (T := TX8) (N := 16) hx hb hts inX8 tyX8 tyX8_ok nmX8 hown hK hP hD hS 0 rfl rfl 5 (by decide) (hts _ q_588) (fun _ h9 => h9) rfl (by decide +kernel) rfl rfl (Nat.le_of_ble_eq_true rfl) dX8_prime_70 (fun H locs hP hD hS => ?_)
      have hP : va_P D vwCl [(h_m, .inr (8, [.int v_thrown, .int v_n, .ref h_mwholes, .ref h_mparts, .int v_has, .int v_8, .ref h_mknown31, .int v_many, .ref h_mprimes, .ref h_mrests, .ref h_mrows, .ref h_mdigits, .ref h_mz, .ref h_mout, .int v_printed, .ref h_mopen])), (h_mknown31, .inl (cT 1, 64, .inr (.inl (vp_updL f_known31 v_known.toNatClampNeg x2))))] H := hP
      have hD : va_D A [(h_m, .inr (8, [.int v_thrown, .int v_n, .ref h_mwholes, .ref h_mparts, .int v_has, .int v_8, .ref h_mknown31, .int v_many, .ref h_mprimes, .ref h_mrests, .ref h_mrows, .ref h_mdigits, .ref h_mz, .ref h_mout, .int v_printed, .ref h_mopen])), (h_mknown31, .inl (cT 1, 64, .inr (.inl (vp_updL f_known31 v_known.toNatClampNeg x2))))] := hD
      refine lv_goto (tgt := 0) hx hb dX8_prime_73 (by decide) ?_
      exact hK0 _ _ _ _ _ _ hP hD hS (lv_sub hl [0, 1] rfl) hw
    · have hw := hw.1 c_6
      refine lv_lload_n hx hb dX8_prime_44 rfl (lv_at hl 2 rfl) ?_
      refine lv_ldc2 (v := 2) hx hb hown (hts _ q_665) dX8_prime_45 ?_
      refine lv_lsub hx hb dX8_prime_48 ?_
      refine lv_topl (fun x2_9 ex2_9 => ?_)
      have hw := hw x2_9 ex2_9
      refine lv_lstore_n (lv' := [(2, .long x2_9), (0, .ref h_m), (1, .int x1)]) hx hb dX8_prime_49 rfl hl (by decide) rfl (fun ls hl => ?_)
      refine lv_goto (tgt := 37) hx hb dX8_prime_50 (by decide) ?_
      exact ih _ _ _ _ _ _ _ hP hD hS (lv_sub hl [1, 2, 0] rfl) hw
set_option maxHeartbeats 4000000 in
set_option maxRecDepth 100000 in
theorem tw_Model_prime_36 {post : Int64 → Int32 → (Nat → Int64) → Prop} {h_m h_mknown31 h_mwholes h_mparts h_mprimes h_mrests h_mrows h_mdigits h_mz h_mout h_mopen : Nat} {v_thrown : Int32} {v_n : Int32} {v_has : Int32} {v_many : Int32} {v_printed : Int32} {K0 : Int32 → Int32 → (Nat → Int64) → Prop} (C0 : cx RX8 cX8_prime 4 D cT p s m c args) (hA : ∀ q, s.heap.size ≤ q → A q) (hret : ∀ (r : Int64) (v_known : Int32) (f_known31 : Nat → Int64) (H : Heap) (locs : List Loc) (pc : Nat) (ls : Array Slot), post r v_known f_known31 → va_P D vwCl [(h_m, .inr (8, [.int v_thrown, .int v_n, .ref h_mwholes, .ref h_mparts, .int v_has, .int v_known, .ref h_mknown31, .int v_many, .ref h_mprimes, .ref h_mrests, .ref h_mrows, .ref h_mdigits, .ref h_mz, .ref h_mout, .int v_printed, .ref h_mopen])), (h_mknown31, .inl (cT 1, 64, .inr (.inl f_known31)))] H → va_D A [(h_m, .inr (8, [.int v_thrown, .int v_n, .ref h_mwholes, .ref h_mparts, .int v_has, .int v_known, .ref h_mknown31, .int v_many, .ref h_mprimes, .ref h_mrests, .ref h_mrows, .ref h_mdigits, .ref h_mz, .ref h_mout, .int v_printed, .ref h_mopen])), (h_mknown31, .inl (cT 1, 64, .inr (.inl f_known31)))] → va_S A s.heap H locs → decode cX8_prime pc = .ok (.lreturn, 1) → W p l e ({ frames := 1, cells := 0, slots := 0, locals := 23 } : Room) s m args below meth c H locs 0 0 Q (F0 m pc ls [.long r])) (hK0 : ∀ (x1 : Int32) (v_known : Int32) (f_known31 : Nat → Int64) (H : Heap) (locs : List Loc) (ls : Array Slot), va_P D vwCl [(h_m, .inr (8, [.int v_thrown, .int v_n, .ref h_mwholes, .ref h_mparts, .int v_has, .int v_known, .ref h_mknown31, .int v_many, .ref h_mprimes, .ref h_mrests, .ref h_mrows, .ref h_mdigits, .ref h_mz, .ref h_mout, .int v_printed, .ref h_mopen])), (h_mknown31, .inl (cT 1, 64, .inr (.inl f_known31)))] H → va_D A [(h_m, .inr (8, [.int v_thrown, .int v_n, .ref h_mwholes, .ref h_mparts, .int v_has, .int v_known, .ref h_mknown31, .int v_many, .ref h_mprimes, .ref h_mrests, .ref h_mrows, .ref h_mdigits, .ref h_mz, .ref h_mout, .int v_printed, .ref h_mopen])), (h_mknown31, .inl (cT 1, 64, .inr (.inl f_known31)))] → va_S A s.heap H locs → lv_has ls 4 [(0, .ref h_m), (1, .int x1)] → K0 x1 v_known f_known31 → W p l e ({ frames := 1, cells := 0, slots := 0, locals := 23 } : Room) s m args below meth c H locs 0 0 Q (F0 m 0 ls [])) : ∀ (x1 : Int32) (y0 : Int64) (v_known : Int32) (f_known31 : Nat → Int64) (H : Heap) (locs : List Loc) (ls : Array Slot), va_P D vwCl [(h_m, .inr (8, [.int v_thrown, .int v_n, .ref h_mwholes, .ref h_mparts, .int v_has, .int v_known, .ref h_mknown31, .int v_many, .ref h_mprimes, .ref h_mrests, .ref h_mrows, .ref h_mdigits, .ref h_mz, .ref h_mout, .int v_printed, .ref h_mopen])), (h_mknown31, .inl (cT 1, 64, .inr (.inl f_known31)))] H → va_D A [(h_m, .inr (8, [.int v_thrown, .int v_n, .ref h_mwholes, .ref h_mparts, .int v_has, .int v_known, .ref h_mknown31, .int v_many, .ref h_mprimes, .ref h_mrests, .ref h_mrows, .ref h_mdigits, .ref h_mz, .ref h_mout, .int v_printed, .ref h_mopen])), (h_mknown31, .inl (cT 1, 64, .inr (.inl f_known31)))] → va_S A s.heap H locs → lv_has ls 4 [(0, .ref h_m), (1, .int x1)] → wp_Model_prime_36 post v_thrown v_n v_has v_many v_printed K0 x1 y0 v_known f_known31 → W p l e ({ frames := 1, cells := 0, slots := 0, locals := 23 } : Room) s m args below meth c H locs 0 0 Q (F0 m 36 ls [.long y0]) := by
  obtain ⟨⟨hx, hb, hml, hown, hts⟩, hK, hN⟩ := id C0
  intro x1 y0 v_known f_known31 H locs ls hP hD hS hl hw
  unfold wp_Model_prime_36 at hw
  refine lv_lstore_n (lv' := [(2, .long y0), (0, .ref h_m), (1, .int x1)]) hx hb dX8_prime_36 rfl hl (by decide) rfl (fun ls hl => ?_)
  obtain ⟨n9, hw⟩ := hw
  exact tw_Model_prime_37 C0 hA hret hK0 n9 _ _ _ _ _ _ _ hP hD hS (lv_sub hl [1, 2, 0] rfl) hw
set_option maxHeartbeats 4000000 in
set_option maxRecDepth 100000 in
theorem tw_Model_prime_0 {post : Int64 → Int32 → (Nat → Int64) → Prop} {h_m h_mknown31 h_mwholes h_mparts h_mprimes h_mrests h_mrows h_mdigits h_mz h_mout h_mopen : Nat} {v_thrown : Int32} {v_n : Int32} {v_has : Int32} {v_many : Int32} {v_printed : Int32}  (C0 : cx RX8 cX8_prime 4 D cT p s m c args) (hA : ∀ q, s.heap.size ≤ q → A q) (hret : ∀ (r : Int64) (v_known : Int32) (f_known31 : Nat → Int64) (H : Heap) (locs : List Loc) (pc : Nat) (ls : Array Slot), post r v_known f_known31 → va_P D vwCl [(h_m, .inr (8, [.int v_thrown, .int v_n, .ref h_mwholes, .ref h_mparts, .int v_has, .int v_known, .ref h_mknown31, .int v_many, .ref h_mprimes, .ref h_mrests, .ref h_mrows, .ref h_mdigits, .ref h_mz, .ref h_mout, .int v_printed, .ref h_mopen])), (h_mknown31, .inl (cT 1, 64, .inr (.inl f_known31)))] H → va_D A [(h_m, .inr (8, [.int v_thrown, .int v_n, .ref h_mwholes, .ref h_mparts, .int v_has, .int v_known, .ref h_mknown31, .int v_many, .ref h_mprimes, .ref h_mrests, .ref h_mrows, .ref h_mdigits, .ref h_mz, .ref h_mout, .int v_printed, .ref h_mopen])), (h_mknown31, .inl (cT 1, 64, .inr (.inl f_known31)))] → va_S A s.heap H locs → decode cX8_prime pc = .ok (.lreturn, 1) → W p l e ({ frames := 1, cells := 0, slots := 0, locals := 23 } : Room) s m args below meth c H locs 0 0 Q (F0 m pc ls [.long r]))  : ∀ (n : Nat) (x1 : Int32) (v_known : Int32) (f_known31 : Nat → Int64) (H : Heap) (locs : List Loc) (ls : Array Slot), va_P D vwCl [(h_m, .inr (8, [.int v_thrown, .int v_n, .ref h_mwholes, .ref h_mparts, .int v_has, .int v_known, .ref h_mknown31, .int v_many, .ref h_mprimes, .ref h_mrests, .ref h_mrows, .ref h_mdigits, .ref h_mz, .ref h_mout, .int v_printed, .ref h_mopen])), (h_mknown31, .inl (cT 1, 64, .inr (.inl f_known31)))] H → va_D A [(h_m, .inr (8, [.int v_thrown, .int v_n, .ref h_mwholes, .ref h_mparts, .int v_has, .int v_known, .ref h_mknown31, .int v_many, .ref h_mprimes, .ref h_mrests, .ref h_mrows, .ref h_mdigits, .ref h_mz, .ref h_mout, .int v_printed, .ref h_mopen])), (h_mknown31, .inl (cT 1, 64, .inr (.inl f_known31)))] → va_S A s.heap H locs → lv_has ls 4 [(0, .ref h_m), (1, .int x1)] → wp_Model_prime_0 post v_thrown v_n v_has v_many v_printed n x1 v_known f_known31 → W p l e ({ frames := 1, cells := 0, slots := 0, locals := 23 } : Room) s m args below meth c H locs 0 0 Q (F0 m 0 ls []) := by
  obtain ⟨⟨hx, hb, hml, hown, hts⟩, hK, hN⟩ := id C0
  intro n
  induction n with
  | zero => intro x1 v_known f_known31 H locs ls hP hD hS hl hw; exact hw.elim
  | succ n ih =>
    intro x1 v_known f_known31 H locs ls hP hD hS hl hw
    unfold wp_Model_prime_0 at hw
    refine lv_aload_n hx hb dX8_prime_0 rfl (lv_at hl 0 rfl) ?_
    refine va_get (D := D) (ci := 8) (v := .int v_known) (C := RX8) (T := TX8) (N := 16) hx hb hts inX8 hown hK hP 0 rfl rfl 5 (by decide) (hts _ q_588) (fun _ h9 => h9) rfl dX8_prime_1 ?_
    refine lv_iload_n hx hb dX8_prime_4 rfl (lv_at hl 1 rfl) ?_
    refine lv_icmp_gt (tgt := 76) hx hb dX8_prime_5 (by decide) (fun c_1 => ?_) (fun c_1 => ?_)
    · have hw := hw.1 c_1
      refine lv_aload_n hx hb dX8_prime_76 rfl (lv_at hl 0 rfl) ?_
      refine va_get (D := D) (ci := 8) (v := .ref h_mknown31) (C := RX8) (T := TX8) (N := 16) hx hb hts inX8 hown hK hP 0 rfl rfl 6 (by decide) (hts _ q_589) (fun _ h9 => h9) rfl dX8_prime_77 ?_
      refine lv_iload_n hx hb dX8_prime_80 rfl (lv_at hl 1 rfl) ?_
      obtain ⟨h_2, hw⟩ := hw
      refine va_lald hx hb hK hP 1 1 rfl rfl h_2 dX8_prime_81 ?_
      exact hret _ _ _ _ _ _ _ hw hP hD hS dX8_prime_82
    · have hw := hw.2 c_1
      refine lv_aload_n hx hb dX8_prime_8 rfl (lv_at hl 0 rfl) ?_
      refine va_get (D := D) (ci := 8) (v := .int v_known) (C := RX8) (T := TX8) (N := 16) hx hb hts inX8 hown hK hP 0 rfl rfl 5 (by decide) (hts _ q_588) (fun _ h9 => h9) rfl dX8_prime_9 ?_
      refine lv_if_ne (tgt := 21) hx hb dX8_prime_12 (by decide) (fun c_3 => ?_) (fun c_3 => ?_)
      · have hw := hw.2 c_3
        refine lv_aload_n hx hb dX8_prime_21 rfl (lv_at hl 0 rfl) ?_
        refine va_get (D := D) (ci := 8) (v := .ref h_mknown31) (C := RX8) (T := TX8) (N := 16) hx hb hts inX8 hown hK hP 0 rfl rfl 6 (by decide) (hts _ q_589) (fun _ h9 => h9) rfl dX8_prime_22 ?_
        refine lv_aload_n hx hb dX8_prime_25 rfl (lv_at hl 0 rfl) ?_
        refine va_get (D := D) (ci := 8) (v := .int v_known) (C := RX8) (T := TX8) (N := 16) hx hb hts inX8 hown hK hP 0 rfl rfl 5 (by decide) (hts _ q_588) (fun _ h9 => h9) rfl dX8_prime_26 ?_
        refine lv_iconst (v := 1) hx hb dX8_prime_29 (by decide) ?_
        refine lv_isub hx hb dX8_prime_30 ?_
        obtain ⟨h_4, hw⟩ := hw
        refine va_lald hx hb hK hP 1 1 rfl rfl h_4 dX8_prime_31 ?_
        refine lv_ldc2 (v := 2) hx hb hown (hts _ q_665) dX8_prime_32 ?_
        refine lv_lsub hx hb dX8_prime_35 ?_
        exact tw_Model_prime_36 C0 hA hret ih _ _ _ _ _ _ _ hP hD hS (lv_sub hl [0, 1] rfl) hw
      · have hw := hw.1 c_3
        refine lv_ldc2 (v := 2147483647) hx hb hown (hts _ q_678) dX8_prime_15 ?_
        refine lv_goto (tgt := 36) hx hb dX8_prime_18 (by decide) ?_
        exact tw_Model_prime_36 C0 hA hret ih _ _ _ _ _ _ _ hP hD hS (lv_sub hl [0, 1] rfl) hw
set_option maxHeartbeats 4000000 in
set_option maxRecDepth 100000 in
theorem tw_Model_prime {post : Int64 → Int32 → (Nat → Int64) → Prop} {h_m h_mknown31 h_mwholes h_mparts h_mprimes h_mrests h_mrows h_mdigits h_mz h_mout h_mopen : Nat} {v_thrown : Int32} {v_n : Int32} {v_has : Int32} {v_many : Int32} {v_printed : Int32}  (C0 : cx RX8 cX8_prime 4 D cT p s m c args) (hA : ∀ q, s.heap.size ≤ q → A q) (hret : ∀ (r : Int64) (v_known : Int32) (f_known31 : Nat → Int64) (H : Heap) (locs : List Loc) (pc : Nat) (ls : Array Slot), post r v_known f_known31 → va_P D vwCl [(h_m, .inr (8, [.int v_thrown, .int v_n, .ref h_mwholes, .ref h_mparts, .int v_has, .int v_known, .ref h_mknown31, .int v_many, .ref h_mprimes, .ref h_mrests, .ref h_mrows, .ref h_mdigits, .ref h_mz, .ref h_mout, .int v_printed, .ref h_mopen])), (h_mknown31, .inl (cT 1, 64, .inr (.inl f_known31)))] H → va_D A [(h_m, .inr (8, [.int v_thrown, .int v_n, .ref h_mwholes, .ref h_mparts, .int v_has, .int v_known, .ref h_mknown31, .int v_many, .ref h_mprimes, .ref h_mrests, .ref h_mrows, .ref h_mdigits, .ref h_mz, .ref h_mout, .int v_printed, .ref h_mopen])), (h_mknown31, .inl (cT 1, 64, .inr (.inl f_known31)))] → va_S A s.heap H locs → decode cX8_prime pc = .ok (.lreturn, 1) → W p l e ({ frames := 1, cells := 0, slots := 0, locals := 23 } : Room) s m args below meth c H locs 0 0 Q (F0 m pc ls [.long r]))  : ∀ (x1 : Int32) (v_known : Int32) (f_known31 : Nat → Int64) (H : Heap) (locs : List Loc) (ls : Array Slot), va_P D vwCl [(h_m, .inr (8, [.int v_thrown, .int v_n, .ref h_mwholes, .ref h_mparts, .int v_has, .int v_known, .ref h_mknown31, .int v_many, .ref h_mprimes, .ref h_mrests, .ref h_mrows, .ref h_mdigits, .ref h_mz, .ref h_mout, .int v_printed, .ref h_mopen])), (h_mknown31, .inl (cT 1, 64, .inr (.inl f_known31)))] H → va_D A [(h_m, .inr (8, [.int v_thrown, .int v_n, .ref h_mwholes, .ref h_mparts, .int v_has, .int v_known, .ref h_mknown31, .int v_many, .ref h_mprimes, .ref h_mrests, .ref h_mrows, .ref h_mdigits, .ref h_mz, .ref h_mout, .int v_printed, .ref h_mopen])), (h_mknown31, .inl (cT 1, 64, .inr (.inl f_known31)))] → va_S A s.heap H locs → lv_has ls 4 [(0, .ref h_m), (1, .int x1)] → wp_Model_prime post v_thrown v_n v_has v_many v_printed x1 v_known f_known31 → W p l e ({ frames := 1, cells := 0, slots := 0, locals := 23 } : Room) s m args below meth c H locs 0 0 Q (F0 m 0 ls []) := by
  obtain ⟨⟨hx, hb, hml, hown, hts⟩, hK, hN⟩ := id C0
  intro x1 v_known f_known31 H locs ls hP hD hS hl hw
  unfold wp_Model_prime at hw
  obtain ⟨n9, hw⟩ := hw
  exact tw_Model_prime_0 C0 hA hret  n9 _ _ _ _ _ _ hP hD hS (lv_sub hl [0, 1] rfl) hw
set_option maxHeartbeats 4000000 in
set_option maxRecDepth 100000 in
theorem cn_Model_prime (l : Launch) (D : va_G) (cT : Nat → ClassId) (h_m h_mknown31 h_mwholes h_mparts h_mprimes h_mrests h_mrows h_mdigits h_mz h_mout h_mopen : Nat) (sz : Nat) (v_thrown : Int32) (v_n : Int32) (v_has : Int32) (v_known : Int32) (v_many : Int32) (v_printed : Int32) (f_known31 : Nat → Int64) (x1 : Int32) (post : Int64 → Int32 → (Nat → Int64) → Prop) (hw : wp_Model_prime post v_thrown v_n v_has v_many v_printed x1 v_known f_known31) : Met l yX8_prime wX8_prime ({ frames := 1, cells := 0, slots := 0, locals := 23 } : Room) (va_Pc [.ref h_m, .int x1] (pre_ D cT [(h_m, .inr (8, [.int v_thrown, .int v_n, .ref h_mwholes, .ref h_mparts, .int v_has, .int v_known, .ref h_mknown31, .int v_many, .ref h_mprimes, .ref h_mrests, .ref h_mrows, .ref h_mdigits, .ref h_mz, .ref h_mout, .int v_printed, .ref h_mopen])), (h_mknown31, .inl (cT 1, 64, .inr (.inl f_known31)))] sz)) (va_Ql (fun (r : Int64) (u : Int32 × (Nat → Int64)) => post r u.1 u.2) (fun u t => va_P D vwCl [(h_m, .inr (8, [.int v_thrown, .int v_n, .ref h_mwholes, .ref h_mparts, .int v_has, .int u.1, .ref h_mknown31, .int v_many, .ref h_mprimes, .ref h_mrests, .ref h_mrows, .ref h_mdigits, .ref h_mz, .ref h_mout, .int v_printed, .ref h_mopen])), (h_mknown31, .inl (cT 1, 64, .inr (.inl u.2)))] t.heap ∧ va_D (va_A [(h_m, .inr (8, [.int v_thrown, .int v_n, .ref h_mwholes, .ref h_mparts, .int v_has, .int v_known, .ref h_mknown31, .int v_many, .ref h_mprimes, .ref h_mrests, .ref h_mrows, .ref h_mdigits, .ref h_mz, .ref h_mout, .int v_printed, .ref h_mopen])), (h_mknown31, .inl (cT 1, 64, .inr (.inl f_known31)))] sz) [(h_m, .inr (8, [.int v_thrown, .int v_n, .ref h_mwholes, .ref h_mparts, .int v_has, .int u.1, .ref h_mknown31, .int v_many, .ref h_mprimes, .ref h_mrests, .ref h_mrows, .ref h_mdigits, .ref h_mz, .ref h_mout, .int v_printed, .ref h_mopen])), (h_mknown31, .inl (cT 1, 64, .inr (.inl u.2)))]) (va_A [(h_m, .inr (8, [.int v_thrown, .int v_n, .ref h_mwholes, .ref h_mparts, .int v_has, .int v_known, .ref h_mknown31, .int v_many, .ref h_mprimes, .ref h_mrests, .ref h_mrows, .ref h_mdigits, .ref h_mz, .ref h_mout, .int v_printed, .ref h_mopen])), (h_mknown31, .inl (cT 1, 64, .inr (.inl f_known31)))] sz)) 0 0 (va_A [(h_m, .inr (8, [.int v_thrown, .int v_n, .ref h_mwholes, .ref h_mparts, .int v_has, .int v_known, .ref h_mknown31, .int v_many, .ref h_mprimes, .ref h_mrests, .ref h_mrows, .ref h_mdigits, .ref h_mz, .ref h_mout, .int v_printed, .ref h_mopen])), (h_mknown31, .inl (cT 1, 64, .inr (.inl f_known31)))] sz) := by
  refine Met.ofW (cc := cX8_prime) (maxL := 4) (ret := (some .long)) (by decide) rfl ?_
  intro p e s m args below meth c s₁ B hml hv
  obtain ⟨rfl, hsz, hP, hK, hD0, hN⟩ := hv
  have hx := B.exec
  have hb := B.bytes
  have hr := B.returns
  have hts : ∀ w ∈ WG, w.before _ s = true := fun w h => atoms_spec (ws := wX8_prime) B.pre w (List.mem_cons_of_mem _ h)
  have hown : s.vm.findClass RX8 = some m.cls := findClass_of_methodNamed B.named
  have hlocks := B.notSynchronized
  subst hsz
  have hD := hD0.self (sz := s.heap.size)
  generalize hAe : va_A [(h_m, .inr (8, [.int v_thrown, .int v_n, .ref h_mwholes, .ref h_mparts, .int v_has, .int v_known, .ref h_mknown31, .int v_many, .ref h_mprimes, .ref h_mrests, .ref h_mrows, .ref h_mdigits, .ref h_mz, .ref h_mout, .int v_printed, .ref h_mopen])), (h_mknown31, .inl (cT 1, 64, .inr (.inl f_known31)))] s.heap.size = A at hD ⊢
  have hA : ∀ q : Nat, s.heap.size ≤ q → A q := fun q h => by rw [← hAe]; exact Or.inr h
  have hS : va_S A s.heap s.heap [] := va_S.rf
  have hl := lv_entry ([.ref h_m, .int x1]) (n := 4) (Nat.le_of_ble_eq_true rfl)
  rw [lg_entry_eq]
  generalize (lg_sl ([.ref h_m, .int x1]) ++ List.replicate (4 - (lg_sl ([.ref h_m, .int x1])).length) Slot.unset).toArray = ls at hl ⊢
  refine tw_Model_prime (Q := MQ below _ _ s 0 0 A) ⟨⟨hx, hb, hml, hown, hts⟩, hK, hN⟩ hA (fun r v_known f_known31 H locs pc ls hp hP hD hS hd => W.lret (v := r) hx hb hr (fun t ht hW => ⟨⟨r, (v_known, f_known31), rfl, hp, by rw [ht]; exact hP, hD⟩, hS.F ht⟩) hS.2.2 hd) _ _ _ _ _ _ hP hD hS hl hw
end
def wp_Model_inverse_43 (post : Int64 → Prop)  (K15 : Int64 → Int64 → Int64 → Int64 → Prop) (x2 : Int64) (x4 : Int64) (x8 : Int64) (y0 : Int64) : Prop := (¬ x2 = 0 ∧ (∀ x4_7 : Int64, x4_7 = (x4 * x4) - (x4 * x4) / x2 * x2 → ∀ x8_8 : Int64, x8_8 = x8 >>> ((1 : Int32).toInt64 &&& 63) → K15 x2 x4_7 y0 x8_8))
def wp_Model_inverse_15 (post : Int64 → Prop)   : Nat → Int64 → Int64 → Int64 → Int64 → Prop
  | 0 => fun _ _ _ _ => False
  | n + 1 => fun x2 x4 x6 x8 => (((lg_cmp x8 0) ≤ 0 → (post x6)) ∧ (¬ (lg_cmp x8 0) ≤ 0 → ((((lg_cmp (x8 &&& 1) 1) = 0 → ((¬ x2 = 0 ∧ (wp_Model_inverse_43 post (wp_Model_inverse_15 post n) x2 x4 x8 ((x6 * x4) - (x6 * x4) / x2 * x2))))) ∧ (¬ (lg_cmp (x8 &&& 1) 1) = 0 → (wp_Model_inverse_43 post (wp_Model_inverse_15 post n) x2 x4 x8 x6))))))
def wp_Model_inverse (post : Int64 → Prop)   (x0 : Int64) (x2 : Int64) : Prop := (¬ x2 = 0 ∧ (∀ x4_2 : Int64, x4_2 = x0 - x0 / x2 * x2 → ∀ x8_3 : Int64, x8_3 = x2 - 2 → ∃ k9, wp_Model_inverse_15 post k9 x2 x4_2 1 x8_3))
section
variable {p : Program} {l : Launch} {e : Env} {s : State} {m : MethodId} {args : Array Value} {below : List Frame} {meth : Method} {c : Code} {Q : State → Prop} {A : Nat → Prop} {D : va_G} {cT : Nat → ClassId}
set_option maxHeartbeats 4000000 in
set_option maxRecDepth 100000 in
theorem tw_Model_inverse_43 {post : Int64 → Prop}  {K15 : Int64 → Int64 → Int64 → Int64 → Prop} (C0 : cx RX8 cX8_inverse 10 D cT p s m c args) (hA : ∀ q, s.heap.size ≤ q → A q) (hret : ∀ (r : Int64)  (H : Heap) (locs : List Loc) (pc : Nat) (ls : Array Slot), post r → va_P D vwCl [] H → va_D A [] → va_S A s.heap H locs → decode cX8_inverse pc = .ok (.lreturn, 1) → W p l e ({ frames := 0, cells := 0, slots := 0, locals := 0 } : Room) s m args below meth c H locs 0 0 Q (F0 m pc ls [.long r])) (hK15 : ∀ (x2 : Int64) (x4 : Int64) (x6 : Int64) (x8 : Int64) (H : Heap) (locs : List Loc) (ls : Array Slot), va_P D vwCl [] H → va_D A [] → va_S A s.heap H locs → lv_has ls 10 [(2, .long x2), (4, .long x4), (6, .long x6), (8, .long x8)] → K15 x2 x4 x6 x8 → W p l e ({ frames := 0, cells := 0, slots := 0, locals := 0 } : Room) s m args below meth c H locs 0 0 Q (F0 m 15 ls [])) : ∀ (x2 : Int64) (x4 : Int64) (x8 : Int64) (y0 : Int64) (H : Heap) (locs : List Loc) (ls : Array Slot), va_P D vwCl [] H → va_D A [] → va_S A s.heap H locs → lv_has ls 10 [(2, .long x2), (4, .long x4), (8, .long x8)] → wp_Model_inverse_43 post K15 x2 x4 x8 y0 → W p l e ({ frames := 0, cells := 0, slots := 0, locals := 0 } : Room) s m args below meth c H locs 0 0 Q (F0 m 43 ls [.long y0]) := by
  obtain ⟨⟨hx, hb, hml, hown, hts⟩, hK, hN⟩ := id C0
  intro x2 x4 x8 y0 H locs ls hP hD hS hl hw
  unfold wp_Model_inverse_43 at hw
  refine lv_lstore (lv' := [(6, .long y0), (2, .long x2), (4, .long x4), (8, .long x8)]) hx hb dX8_inverse_43 hl (by decide) rfl (fun ls hl => ?_)
  refine lv_lload hx hb dX8_inverse_45 (lv_at hl 2 rfl) ?_
  refine lv_lload hx hb dX8_inverse_47 (lv_at hl 2 rfl) ?_
  refine lv_lmul hx hb dX8_inverse_49 ?_
  refine lv_lload_n hx hb dX8_inverse_50 rfl (lv_at hl 1 rfl) ?_
  obtain ⟨h_6, hw⟩ := hw
  refine lv_lrem hx hb dX8_inverse_51 h_6 ?_
  refine lv_topl (fun x4_7 ex4_7 => ?_)
  have hw := hw x4_7 ex4_7
  refine lv_lstore (lv' := [(4, .long x4_7), (6, .long y0), (2, .long x2), (8, .long x8)]) hx hb dX8_inverse_52 hl (by decide) rfl (fun ls hl => ?_)
  refine lv_lload hx hb dX8_inverse_54 (lv_at hl 3 rfl) ?_
  refine lv_iconst (v := 1) hx hb dX8_inverse_56 (by decide) ?_
  refine lv_lshr hx hb dX8_inverse_57 rfl ?_
  refine lv_topl (fun x8_8 ex8_8 => ?_)
  have hw := hw x8_8 ex8_8
  refine lv_lstore (lv' := [(8, .long x8_8), (4, .long x4_7), (6, .long y0), (2, .long x2)]) hx hb dX8_inverse_58 hl (by decide) rfl (fun ls hl => ?_)
  refine lv_goto (tgt := 15) hx hb dX8_inverse_60 (by decide) ?_
  exact hK15 _ _ _ _ _ _ _ hP hD hS (lv_sub hl [3, 1, 2, 0] rfl) hw
set_option maxHeartbeats 4000000 in
set_option maxRecDepth 100000 in
theorem tw_Model_inverse_15 {post : Int64 → Prop}   (C0 : cx RX8 cX8_inverse 10 D cT p s m c args) (hA : ∀ q, s.heap.size ≤ q → A q) (hret : ∀ (r : Int64)  (H : Heap) (locs : List Loc) (pc : Nat) (ls : Array Slot), post r → va_P D vwCl [] H → va_D A [] → va_S A s.heap H locs → decode cX8_inverse pc = .ok (.lreturn, 1) → W p l e ({ frames := 0, cells := 0, slots := 0, locals := 0 } : Room) s m args below meth c H locs 0 0 Q (F0 m pc ls [.long r]))  : ∀ (n : Nat) (x2 : Int64) (x4 : Int64) (x6 : Int64) (x8 : Int64) (H : Heap) (locs : List Loc) (ls : Array Slot), va_P D vwCl [] H → va_D A [] → va_S A s.heap H locs → lv_has ls 10 [(2, .long x2), (4, .long x4), (6, .long x6), (8, .long x8)] → wp_Model_inverse_15 post n x2 x4 x6 x8 → W p l e ({ frames := 0, cells := 0, slots := 0, locals := 0 } : Room) s m args below meth c H locs 0 0 Q (F0 m 15 ls []) := by
  obtain ⟨⟨hx, hb, hml, hown, hts⟩, hK, hN⟩ := id C0
  intro n
  induction n with
  | zero => intro x2 x4 x6 x8 H locs ls hP hD hS hl hw; exact hw.elim
  | succ n ih =>
    intro x2 x4 x6 x8 H locs ls hP hD hS hl hw
    unfold wp_Model_inverse_15 at hw
    refine lv_lload hx hb dX8_inverse_15 (lv_at hl 3 rfl) ?_
    refine lv_lconst (v := 0) hx hb dX8_inverse_17 (by decide) ?_
    refine W.lcmp hx hb dX8_inverse_18 ?_
    refine lv_if_le (tgt := 63) hx hb dX8_inverse_19 (by decide) (fun c_4 => ?_) (fun c_4 => ?_)
    · have hw := hw.1 c_4
      refine lv_lload hx hb dX8_inverse_63 (lv_at hl 2 rfl) ?_
      exact hret _  _ _ _ _ hw hP hD hS dX8_inverse_65
    · have hw := hw.2 c_4
      refine lv_lload hx hb dX8_inverse_22 (lv_at hl 3 rfl) ?_
      refine lv_lconst (v := 1) hx hb dX8_inverse_24 (by decide) ?_
      refine lv_land hx hb dX8_inverse_25 ?_
      refine lv_lconst (v := 1) hx hb dX8_inverse_26 (by decide) ?_
      refine W.lcmp hx hb dX8_inverse_27 ?_
      refine lv_if_ne (tgt := 41) hx hb dX8_inverse_28 (by decide) (fun c_5 => ?_) (fun c_5 => ?_)
      · have hw := hw.2 c_5
        refine lv_lload hx hb dX8_inverse_41 (lv_at hl 2 rfl) ?_
        exact tw_Model_inverse_43 C0 hA hret ih _ _ _ _ _ _ _ hP hD hS (lv_sub hl [0, 1, 3] rfl) hw
      · have hw := hw.1 c_5
        refine lv_lload hx hb dX8_inverse_31 (lv_at hl 2 rfl) ?_
        refine lv_lload hx hb dX8_inverse_33 (lv_at hl 1 rfl) ?_
        refine lv_lmul hx hb dX8_inverse_35 ?_
        refine lv_lload_n hx hb dX8_inverse_36 rfl (lv_at hl 0 rfl) ?_
        obtain ⟨h_9, hw⟩ := hw
        refine lv_lrem hx hb dX8_inverse_37 h_9 ?_
        refine lv_goto (tgt := 43) hx hb dX8_inverse_38 (by decide) ?_
        exact tw_Model_inverse_43 C0 hA hret ih _ _ _ _ _ _ _ hP hD hS (lv_sub hl [0, 1, 3] rfl) hw
set_option maxHeartbeats 4000000 in
set_option maxRecDepth 100000 in
theorem tw_Model_inverse {post : Int64 → Prop}   (C0 : cx RX8 cX8_inverse 10 D cT p s m c args) (hA : ∀ q, s.heap.size ≤ q → A q) (hret : ∀ (r : Int64)  (H : Heap) (locs : List Loc) (pc : Nat) (ls : Array Slot), post r → va_P D vwCl [] H → va_D A [] → va_S A s.heap H locs → decode cX8_inverse pc = .ok (.lreturn, 1) → W p l e ({ frames := 0, cells := 0, slots := 0, locals := 0 } : Room) s m args below meth c H locs 0 0 Q (F0 m pc ls [.long r]))  : ∀ (x0 : Int64) (x2 : Int64) (H : Heap) (locs : List Loc) (ls : Array Slot), va_P D vwCl [] H → va_D A [] → va_S A s.heap H locs → lv_has ls 10 [(0, .long x0), (2, .long x2)] → wp_Model_inverse post x0 x2 → W p l e ({ frames := 0, cells := 0, slots := 0, locals := 0 } : Room) s m args below meth c H locs 0 0 Q (F0 m 0 ls []) := by
  obtain ⟨⟨hx, hb, hml, hown, hts⟩, hK, hN⟩ := id C0
  intro x0 x2 H locs ls hP hD hS hl hw
  unfold wp_Model_inverse at hw
  refine lv_lload_n hx hb dX8_inverse_0 rfl (lv_at hl 0 rfl) ?_
  refine lv_lload_n hx hb dX8_inverse_1 rfl (lv_at hl 1 rfl) ?_
  obtain ⟨h_1, hw⟩ := hw
  refine lv_lrem hx hb dX8_inverse_2 h_1 ?_
  refine lv_topl (fun x4_2 ex4_2 => ?_)
  have hw := hw x4_2 ex4_2
  refine lv_lstore (lv' := [(4, .long x4_2), (0, .long x0), (2, .long x2)]) hx hb dX8_inverse_3 hl (by decide) rfl (fun ls hl => ?_)
  refine lv_lconst (v := 1) hx hb dX8_inverse_5 (by decide) ?_
  refine lv_lstore (lv' := [(6, .long 1), (4, .long x4_2), (0, .long x0), (2, .long x2)]) hx hb dX8_inverse_6 hl (by decide) rfl (fun ls hl => ?_)
  refine lv_lload_n hx hb dX8_inverse_8 rfl (lv_at hl 3 rfl) ?_
  refine lv_ldc2 (v := 2) hx hb hown (hts _ q_665) dX8_inverse_9 ?_
  refine lv_lsub hx hb dX8_inverse_12 ?_
  refine lv_topl (fun x8_3 ex8_3 => ?_)
  have hw := hw x8_3 ex8_3
  refine lv_lstore (lv' := [(8, .long x8_3), (6, .long 1), (4, .long x4_2), (0, .long x0), (2, .long x2)]) hx hb dX8_inverse_13 hl (by decide) rfl (fun ls hl => ?_)
  obtain ⟨n9, hw⟩ := hw
  exact tw_Model_inverse_15 C0 hA hret  n9 _ _ _ _ _ _ _ hP hD hS (lv_sub hl [4, 2, 1, 0] rfl) hw
set_option maxHeartbeats 4000000 in
set_option maxRecDepth 100000 in
theorem cn_Model_inverse (l : Launch) (D : va_G) (cT : Nat → ClassId) (sz : Nat)  (x0 : Int64) (x2 : Int64) (post : Int64 → Prop) (hw : wp_Model_inverse post x0 x2) : Met l yX8_inverse wX8_inverse ({ frames := 0, cells := 0, slots := 0, locals := 0 } : Room) (va_Pc [.long x0, .long x2] (pre_ D cT [] sz)) (va_Ql (fun (r : Int64) (u : Unit) => post r) (fun u t => va_P D vwCl [] t.heap ∧ va_D (va_A [] sz) []) (va_A [] sz)) 0 0 (va_A [] sz) := by
  refine Met.ofW (cc := cX8_inverse) (maxL := 10) (ret := (some .long)) (by decide) rfl ?_
  intro p e s m args below meth c s₁ B hml hv
  obtain ⟨rfl, hsz, hP, hK, hD0, hN⟩ := hv
  have hx := B.exec
  have hb := B.bytes
  have hr := B.returns
  have hts : ∀ w ∈ WG, w.before _ s = true := fun w h => atoms_spec (ws := wX8_inverse) B.pre w (List.mem_cons_of_mem _ h)
  have hown : s.vm.findClass RX8 = some m.cls := findClass_of_methodNamed B.named
  have hlocks := B.notSynchronized
  subst hsz
  have hD := hD0.self (sz := s.heap.size)
  generalize hAe : va_A [] s.heap.size = A at hD ⊢
  have hA : ∀ q : Nat, s.heap.size ≤ q → A q := fun q h => by rw [← hAe]; exact Or.inr h
  have hS : va_S A s.heap s.heap [] := va_S.rf
  have hl := lv_entry ([.long x0, .long x2]) (n := 10) (Nat.le_of_ble_eq_true rfl)
  rw [lg_entry_eq]
  generalize (lg_sl ([.long x0, .long x2]) ++ List.replicate (10 - (lg_sl ([.long x0, .long x2])).length) Slot.unset).toArray = ls at hl ⊢
  refine tw_Model_inverse (Q := MQ below _ _ s 0 0 A) ⟨⟨hx, hb, hml, hown, hts⟩, hK, hN⟩ hA (fun r  H locs pc ls hp hP hD hS hd => W.lret (v := r) hx hb hr (fun t ht hW => ⟨⟨r, (), rfl, hp, by rw [ht]; exact hP, hD⟩, hS.F ht⟩) hS.2.2 hd) _ _ _ _ _ hP hD hS hl hw
end
