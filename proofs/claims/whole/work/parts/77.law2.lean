section
variable {p : Program} {l : Launch} {e : Env} {s : State} {m : MethodId} {args : Array Value} {below : List Frame} {meth : Method} {c : Code} {Q : State → Prop} {A : Nat → Prop} {D : va_G} {cT : Nat → ClassId}
set_option maxHeartbeats 4000000 in
set_option maxRecDepth 100000 in
theorem tw_Law_law_23 {post : Int32 → Int32 → Int32 → Int32 → (Nat → Int32) → (Nat → Int32) → (Nat → Int32) → (Nat → Int32) → Int32 → Int64 → Int64 → (Nat → Int32) → (Nat → Int64) → (Nat → Int32) → (Nat → Int32) → (Nat → Int32) → (Nat → Int32) → (Nat → Int32) → (Nat → Int32) → Int32 → (Nat → Int32) → (Nat → Int32) → Int32 → Int32 → Int32 → Int32 → Int32 → Int32 → (Nat → Int32) → (Nat → Int32) → (Nat → Int64) → (Nat → Int64) → (Nat → Int64) → (Nat → Int64) → (Nat → Int64) → (Nat → Int32) → (Nat → Int32) → (Nat → Int32) → (Nat → Int64) → (Nat → Nat → Int32) → Prop} {h_d h_c h_cw h_cl h_cp h_ce h_k h_e h_r h_ec h_ea h_kq h_kb h_kbl h_kg h_kgl h_q h_ta h_tal h_tb h_tbl h_to h_tol h_tw h_twl h_p h_pt h_s h_sl h_m h_mwholes h_mparts h_mknown31 h_mprimes h_mrests h_mrows h_mdigits h_mz h_mout h_mopen h_o : Nat} {h_ad h_la : Nat → Nat} {h_tp : Nat} {h_b : Nat} {v_L : Nat} {f_xs : Nat → Int32} (C0 : cx RL cL_law 7 D cT p s m c args) (T0 : lwt_ h_tp h_b v_L f_xs A l s) (hA : ∀ q, s.heap.size ≤ q → A q) (hret : ∀ (r : Int32) (v_wo : Int32) (v_rs : Int32) (v_cs : Int32) (f_cw : Nat → Int32) (f_cl : Nat → Int32) (f_cp : Nat → Int32) (f_ce : Nat → Int32) (v_es : Int32) (v_ed : Int64) (v_rp : Int64) (f_ec : Nat → Int32) (f_ea : Nat → Int64) (f_kb : Nat → Int32) (f_kg : Nat → Int32) (f_ta : Nat → Int32) (f_tb : Nat → Int32) (f_to : Nat → Int32) (f_tw : Nat → Int32) (v_pl : Int32) (f_pt : Nat → Int32) (f_s : Nat → Int32) (v_thrown : Int32) (v_n : Int32) (v_has : Int32) (v_known : Int32) (v_many : Int32) (v_printed : Int32) (f_wholes : Nat → Int32) (f_parts : Nat → Int32) (f_known31 : Nat → Int64) (f_primes : Nat → Int64) (f_rests : Nat → Int64) (f_rows : Nat → Int64) (f_digits : Nat → Int64) (f_z : Nat → Int32) (f_out : Nat → Int32) (f_open : Nat → Int32) (f_o : Nat → Int64) (f_ab : Nat → Nat → Int32) (H : Heap) (locs : List Loc) (pc : Nat) (ls : Array Slot), narrow .boolean (.int r) = .int r → post r v_wo v_rs v_cs f_cw f_cl f_cp f_ce v_es v_ed v_rp f_ec f_ea f_kb f_kg f_ta f_tb f_to f_tw v_pl f_pt f_s v_thrown v_n v_has v_known v_many v_printed f_wholes f_parts f_known31 f_primes f_rests f_rows f_digits f_z f_out f_open f_o f_ab → va_P D vwCl (lw_w cT h_ad h_la h_d h_c h_cw h_cl h_cp h_ce h_k h_e h_r h_ec h_ea h_kq h_kb h_kbl h_kg h_kgl h_q h_ta h_tal h_tb h_tbl h_to h_tol h_tw h_twl h_p h_pt h_s h_sl h_m h_mwholes h_mparts h_mknown31 h_mprimes h_mrests h_mrows h_mdigits h_mz h_mout h_mopen h_o v_wo v_rs v_cs f_cw f_cl f_cp f_ce v_es v_ed v_rp f_ec f_ea f_kb f_kg f_ta f_tb f_to f_tw v_pl f_pt f_s v_thrown v_n v_has v_known v_many v_printed f_wholes f_parts f_known31 f_primes f_rests f_rows f_digits f_z f_out f_open f_o f_ab) H → va_D A (lw_w cT h_ad h_la h_d h_c h_cw h_cl h_cp h_ce h_k h_e h_r h_ec h_ea h_kq h_kb h_kbl h_kg h_kgl h_q h_ta h_tal h_tb h_tbl h_to h_tol h_tw h_twl h_p h_pt h_s h_sl h_m h_mwholes h_mparts h_mknown31 h_mprimes h_mrests h_mrows h_mdigits h_mz h_mout h_mopen h_o v_wo v_rs v_cs f_cw f_cl f_cp f_ce v_es v_ed v_rp f_ec f_ea f_kb f_kg f_ta f_tb f_to f_tw v_pl f_pt f_s v_thrown v_n v_has v_known v_many v_printed f_wholes f_parts f_known31 f_primes f_rests f_rows f_digits f_z f_out f_open f_o f_ab) → va_S A s.heap H locs → decode cL_law pc = .ok (.ireturn, 1) → W p l e room_1 s m args below meth c H locs 601024 7293034 Q (F0 m pc ls [.int r]))  : ∀ (n : Nat) (x4 : Int32) (v_wo : Int32) (v_rs : Int32) (v_cs : Int32) (f_cw : Nat → Int32) (f_cl : Nat → Int32) (f_cp : Nat → Int32) (f_ce : Nat → Int32) (v_es : Int32) (v_ed : Int64) (v_rp : Int64) (f_ec : Nat → Int32) (f_ea : Nat → Int64) (f_kb : Nat → Int32) (f_kg : Nat → Int32) (f_ta : Nat → Int32) (f_tb : Nat → Int32) (f_to : Nat → Int32) (f_tw : Nat → Int32) (v_pl : Int32) (f_pt : Nat → Int32) (f_s : Nat → Int32) (v_thrown : Int32) (v_n : Int32) (v_has : Int32) (v_known : Int32) (v_many : Int32) (v_printed : Int32) (f_wholes : Nat → Int32) (f_parts : Nat → Int32) (f_known31 : Nat → Int64) (f_primes : Nat → Int64) (f_rests : Nat → Int64) (f_rows : Nat → Int64) (f_digits : Nat → Int64) (f_z : Nat → Int32) (f_out : Nat → Int32) (f_open : Nat → Int32) (f_o : Nat → Int64) (f_ab : Nat → Nat → Int32) (H : Heap) (locs : List Loc) (ls : Array Slot) (c0 s0 : Nat), c0 + n ≤ 601024 → s0 + 6 * n ≤ 7293034 → va_P D vwCl (lw_w cT h_ad h_la h_d h_c h_cw h_cl h_cp h_ce h_k h_e h_r h_ec h_ea h_kq h_kb h_kbl h_kg h_kgl h_q h_ta h_tal h_tb h_tbl h_to h_tol h_tw h_twl h_p h_pt h_s h_sl h_m h_mwholes h_mparts h_mknown31 h_mprimes h_mrests h_mrows h_mdigits h_mz h_mout h_mopen h_o v_wo v_rs v_cs f_cw f_cl f_cp f_ce v_es v_ed v_rp f_ec f_ea f_kb f_kg f_ta f_tb f_to f_tw v_pl f_pt f_s v_thrown v_n v_has v_known v_many v_printed f_wholes f_parts f_known31 f_primes f_rests f_rows f_digits f_z f_out f_open f_o f_ab) H → va_D A (lw_w cT h_ad h_la h_d h_c h_cw h_cl h_cp h_ce h_k h_e h_r h_ec h_ea h_kq h_kb h_kbl h_kg h_kgl h_q h_ta h_tal h_tb h_tbl h_to h_tol h_tw h_twl h_p h_pt h_s h_sl h_m h_mwholes h_mparts h_mknown31 h_mprimes h_mrests h_mrows h_mdigits h_mz h_mout h_mopen h_o v_wo v_rs v_cs f_cw f_cl f_cp f_ce v_es v_ed v_rp f_ec f_ea f_kb f_kg f_ta f_tb f_to f_tw v_pl f_pt f_s v_thrown v_n v_has v_known v_many v_printed f_wholes f_parts f_known31 f_primes f_rests f_rows f_digits f_z f_out f_open f_o f_ab) → va_S A s.heap H locs → lv_has ls 7 [(0, .ref h_b), (1, .ref h_d), (2, .ref h_m), (3, .ref h_o), (4, .int x4)] → wp_Law_law_23 post v_L f_xs n x4 v_wo v_rs v_cs f_cw f_cl f_cp f_ce v_es v_ed v_rp f_ec f_ea f_kb f_kg f_ta f_tb f_to f_tw v_pl f_pt f_s v_thrown v_n v_has v_known v_many v_printed f_wholes f_parts f_known31 f_primes f_rests f_rows f_digits f_z f_out f_open f_o f_ab → W p l e room_1 s m args below meth c H locs c0 s0 Q (F0 m 23 ls []) := by
  obtain ⟨⟨hx, hb, hml, hown, hts⟩, hK, hN⟩ := id C0
  intro n
  induction n with
  | zero => intro x4 v_wo v_rs v_cs f_cw f_cl f_cp f_ce v_es v_ed v_rp f_ec f_ea f_kb f_kg f_ta f_tb f_to f_tw v_pl f_pt f_s v_thrown v_n v_has v_known v_many v_printed f_wholes f_parts f_known31 f_primes f_rests f_rows f_digits f_z f_out f_open f_o f_ab H locs ls c0 s0 hc0 hs0 hP hD hS hl hw; exact hw.elim
  | succ n ih =>
    intro x4 v_wo v_rs v_cs f_cw f_cl f_cp f_ce v_es v_ed v_rp f_ec f_ea f_kb f_kg f_ta f_tb f_to f_tw v_pl f_pt f_s v_thrown v_n v_has v_known v_many v_printed f_wholes f_parts f_known31 f_primes f_rests f_rows f_digits f_z f_out f_open f_o f_ab H locs ls c0 s0 hc0 hs0 hP hD hS hl hw
    unfold wp_Law_law_23 at hw
    refine lv_iload hx hb dL_law_23 (lv_at hl 4 rfl) ?_
    refine lv_aload_n hx hb dL_law_25 rfl (lv_at hl 0 rfl) ?_
    refine va_slen hx hb T0.2.2.2.1 T0.2.2.2.2.1 T0.2.2.2.2.2 hS dL_law_26 ?_
    refine lv_iconst (v := 4) hx hb dL_law_27 (by decide) ?_
    refine lv_isub hx hb dL_law_28 ?_
    refine lv_icmp_gt (tgt := 420) hx hb dL_law_29 (by decide) (fun c9 => ?_) (fun c9 => ?_)
    · have hw := hw.1 c9
      refine lv_iconst (v := 1) hx hb dL_law_420 (by decide) ?_
      refine W.widen (k := 601024) (n := 7293034) (by omega) (by omega) ?_
      exact hret _ v_wo v_rs v_cs f_cw f_cl f_cp f_ce v_es v_ed v_rp f_ec f_ea f_kb f_kg f_ta f_tb f_to f_tw v_pl f_pt f_s v_thrown v_n v_has v_known v_many v_printed f_wholes f_parts f_known31 f_primes f_rests f_rows f_digits f_z f_out f_open f_o f_ab _ _ _ _ rfl hw hP hD hS dL_law_421
    · obtain ⟨h1, hw⟩ := hw.2 c9
      refine lv_aload_n hx hb dL_law_32 rfl (lv_at hl 0 rfl) ?_
      refine lv_iload hx hb dL_law_33 (lv_at hl 4 rfl) ?_
      refine va_sld hx hb T0.2.2.2.1 T0.2.2.2.2.1 T0.2.2.2.2.2 hS h1 dL_law_35 ?_
      refine lv_bipush (v := 15) hx hb dL_law_36 (by decide) ?_
      refine lv_iand hx hb dL_law_38 ?_
      have hK23 := fun x4 v_wo v_rs v_cs f_cw f_cl f_cp f_ce v_es v_ed v_rp f_ec f_ea f_kb f_kg f_ta f_tb f_to f_tw v_pl f_pt f_s v_thrown v_n v_has v_known v_many v_printed f_wholes f_parts f_known31 f_primes f_rests f_rows f_digits f_z f_out f_open f_o f_ab H locs ls hP hD hS hl hw => ih x4 v_wo v_rs v_cs f_cw f_cl f_cp f_ce v_es v_ed v_rp f_ec f_ea f_kb f_kg f_ta f_tb f_to f_tw v_pl f_pt f_s v_thrown v_n v_has v_known v_many v_printed f_wholes f_parts f_known31 f_primes f_rests f_rows f_digits f_z f_out f_open f_o f_ab H locs ls (c0 + 1) (s0 + 6) (by omega) (by omega) hP hD hS hl hw
      have hc1 : c0 + 1 ≤ 601024 := by omega
      have hs1 : s0 + 6 ≤ 7293034 := by omega
      have hsw := sw_15 (f_xs x4.toNatClampNeg)
      generalize f_xs x4.toNatClampNeg &&& 15 = y9 at hw hsw ⊢
      rcases hsw with e9 | e9 | e9 | e9 | e9 | e9 | e9 | e9 | e9 | e9
      · have hw2 := hw.1 e9
        clear hw
        subst e9
        refine lv_tableIn (off := 49) (tgt := 88) hx hb dL_law_39 (by decide) (by decide) rfl (by decide) ?_
        exact tw_Law_law_88 C0 T0 hc1 hs1 hA hret hK23 x4 v_wo v_rs v_cs f_cw f_cl f_cp f_ce v_es v_ed v_rp f_ec f_ea f_kb f_kg f_ta f_tb f_to f_tw v_pl f_pt f_s v_thrown v_n v_has v_known v_many v_printed f_wholes f_parts f_known31 f_primes f_rests f_rows f_digits f_z f_out f_open f_o f_ab _ _ _ hP hD hS (lv_sub hl [0, 1, 2, 3, 4] rfl) hw2
      · have hw2 := hw.2.1 e9
        clear hw
        subst e9
        refine lv_tableIn (off := 85) (tgt := 124) hx hb dL_law_39 (by decide) (by decide) rfl (by decide) ?_
        exact tw_Law_law_124 C0 T0 hc1 hs1 hA hret hK23 x4 v_wo v_rs v_cs f_cw f_cl f_cp f_ce v_es v_ed v_rp f_ec f_ea f_kb f_kg f_ta f_tb f_to f_tw v_pl f_pt f_s v_thrown v_n v_has v_known v_many v_printed f_wholes f_parts f_known31 f_primes f_rests f_rows f_digits f_z f_out f_open f_o f_ab _ _ _ hP hD hS (lv_sub hl [0, 1, 2, 3, 4] rfl) hw2
      · have hw2 := hw.2.2.1 e9
        clear hw
        subst e9
        refine lv_tableIn (off := 133) (tgt := 172) hx hb dL_law_39 (by decide) (by decide) rfl (by decide) ?_
        exact tw_Law_law_172 C0 T0 hc1 hs1 hA hret hK23 x4 v_wo v_rs v_cs f_cw f_cl f_cp f_ce v_es v_ed v_rp f_ec f_ea f_kb f_kg f_ta f_tb f_to f_tw v_pl f_pt f_s v_thrown v_n v_has v_known v_many v_printed f_wholes f_parts f_known31 f_primes f_rests f_rows f_digits f_z f_out f_open f_o f_ab _ _ _ hP hD hS (lv_sub hl [0, 1, 2, 3, 4] rfl) hw2
      · have hw2 := hw.2.2.2.1 e9
        clear hw
        subst e9
        refine lv_tableIn (off := 213) (tgt := 252) hx hb dL_law_39 (by decide) (by decide) rfl (by decide) ?_
        exact tw_Law_law_252 C0 T0 hc1 hs1 hA hret hK23 x4 v_wo v_rs v_cs f_cw f_cl f_cp f_ce v_es v_ed v_rp f_ec f_ea f_kb f_kg f_ta f_tb f_to f_tw v_pl f_pt f_s v_thrown v_n v_has v_known v_many v_printed f_wholes f_parts f_known31 f_primes f_rests f_rows f_digits f_z f_out f_open f_o f_ab _ _ _ hP hD hS (lv_sub hl [0, 1, 2, 3, 4] rfl) hw2
      · have hw2 := hw.2.2.2.2.1 e9
        clear hw
        subst e9
        refine lv_tableIn (off := 226) (tgt := 265) hx hb dL_law_39 (by decide) (by decide) rfl (by decide) ?_
        exact tw_Law_law_265 C0 T0 hc1 hs1 hA hret hK23 x4 v_wo v_rs v_cs f_cw f_cl f_cp f_ce v_es v_ed v_rp f_ec f_ea f_kb f_kg f_ta f_tb f_to f_tw v_pl f_pt f_s v_thrown v_n v_has v_known v_many v_printed f_wholes f_parts f_known31 f_primes f_rests f_rows f_digits f_z f_out f_open f_o f_ab _ _ _ hP hD hS (lv_sub hl [0, 1, 2, 3, 4] rfl) hw2
      · have hw2 := hw.2.2.2.2.2.1 e9
        clear hw
        subst e9
        refine lv_tableIn (off := 251) (tgt := 290) hx hb dL_law_39 (by decide) (by decide) rfl (by decide) ?_
        exact tw_Law_law_290 C0 T0 hc1 hs1 hA hret hK23 x4 v_wo v_rs v_cs f_cw f_cl f_cp f_ce v_es v_ed v_rp f_ec f_ea f_kb f_kg f_ta f_tb f_to f_tw v_pl f_pt f_s v_thrown v_n v_has v_known v_many v_printed f_wholes f_parts f_known31 f_primes f_rests f_rows f_digits f_z f_out f_open f_o f_ab _ _ _ hP hD hS (lv_sub hl [0, 1, 2, 3, 4] rfl) hw2
      · have hw2 := hw.2.2.2.2.2.2.1 e9
        clear hw
        subst e9
        refine lv_tableIn (off := 276) (tgt := 315) hx hb dL_law_39 (by decide) (by decide) rfl (by decide) ?_
        exact tw_Law_law_315 C0 T0 hc1 hs1 hA hret hK23 x4 v_wo v_rs v_cs f_cw f_cl f_cp f_ce v_es v_ed v_rp f_ec f_ea f_kb f_kg f_ta f_tb f_to f_tw v_pl f_pt f_s v_thrown v_n v_has v_known v_many v_printed f_wholes f_parts f_known31 f_primes f_rests f_rows f_digits f_z f_out f_open f_o f_ab _ _ _ hP hD hS (lv_sub hl [0, 1, 2, 3, 4] rfl) hw2
      · have hw2 := hw.2.2.2.2.2.2.2.1 e9
        clear hw
        subst e9
        refine lv_tableIn (off := 313) (tgt := 352) hx hb dL_law_39 (by decide) (by decide) rfl (by decide) ?_
        exact tw_Law_law_352 C0 T0 hc1 hs1 hA hret hK23 x4 v_wo v_rs v_cs f_cw f_cl f_cp f_ce v_es v_ed v_rp f_ec f_ea f_kb f_kg f_ta f_tb f_to f_tw v_pl f_pt f_s v_thrown v_n v_has v_known v_many v_printed f_wholes f_parts f_known31 f_primes f_rests f_rows f_digits f_z f_out f_open f_o f_ab _ _ _ hP hD hS (lv_sub hl [0, 1, 2, 3, 4] rfl) hw2
      · have hw2 := hw.2.2.2.2.2.2.2.2.1 e9
        clear hw
        subst e9
        refine lv_tableIn (off := 338) (tgt := 377) hx hb dL_law_39 (by decide) (by decide) rfl (by decide) ?_
        exact tw_Law_law_377 C0 T0 hc1 hs1 hA hret hK23 x4 v_wo v_rs v_cs f_cw f_cl f_cp f_ce v_es v_ed v_rp f_ec f_ea f_kb f_kg f_ta f_tb f_to f_tw v_pl f_pt f_s v_thrown v_n v_has v_known v_many v_printed f_wholes f_parts f_known31 f_primes f_rests f_rows f_digits f_z f_out f_open f_o f_ab _ _ _ hP hD hS (lv_sub hl [0, 1, 2, 3, 4] rfl) hw2
      · have hw := hw.2.2.2.2.2.2.2.2.2 e9
        refine lv_tableOut (tgt := 414) hx hb dL_law_39 (Or.inr (Int32.lt_iff_toInt_lt.mp e9)) (by decide) ?_
        refine W.widen (k := c0 + 1) (n := s0 + 6) (by omega) (by omega) ?_
        exact tw_Law_law_414 C0 T0 hc1 hs1 hA hret hK23 x4 v_wo v_rs v_cs f_cw f_cl f_cp f_ce v_es v_ed v_rp f_ec f_ea f_kb f_kg f_ta f_tb f_to f_tw v_pl f_pt f_s v_thrown v_n v_has v_known v_many v_printed f_wholes f_parts f_known31 f_primes f_rests f_rows f_digits f_z f_out f_open f_o f_ab _ _ _ hP hD hS (lv_sub hl [0, 1, 2, 3, 4] rfl) hw
end
