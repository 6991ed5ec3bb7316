theorem lk_lt {i : Nat} (h : i < 40) : ¬ (40 : Int32) ≤ nI i := by
  intro q
  have q := (nI_leI (a := 40) (by decide) (by omega)).mp q
  omega
theorem lk_cl {i : Nat} (h : i < 40) : (nI i).toNatClampNeg = i := nI_clamp (by omega)
theorem lk_in {i : Nat} (h : i < 40) : vp_in (nI i) 40 := vp_in_nI h (by decide)
theorem lk_su {i : Nat} (h : i < 40) : nI (i + 1) = nI i + 1 := nI_succ i
theorem lk_g {i q : Nat} {g : Nat → Option Nat} {ad : Nat → Nat} (hg : ∀ j, j < i → g j = some (ad j)) {j : Nat} (hj : j < i + 1) : va_up g i (some q) j = some (va_up ad i q j) := by
  unfold va_up
  by_cases e : j = i
  · rw [if_pos e, if_pos e]
  · rw [if_neg e, if_neg e]; exact hg j (by omega)
/-- one more of the pool -/
theorem np_snoc {cT : Nat → ClassId} {ad la : Nat → Nat} {i a b : Nat} : np cT (va_up ad i a) (va_up la i b) (fun _ _ => (0 : Int32)) (List.range (i + 1)) = np cT ad la (fun _ _ => (0 : Int32)) (List.range i) ++ [(a, .inr (4, [.ref b])), (b, .inl (cT 0, 16, .inl (fun _ => 0)))] := by
  rw [np_def, np_def, List.range_succ, List.flatMap_append]
  congr 1
  · rw [List.flatMap_def, List.flatMap_def]
    congr 1
    apply List.map_congr_left
    intro j hj
    have h := List.mem_range.mp hj
    simp [npe, va_up, Nat.ne_of_lt h]
  · simp [npe, va_up]
theorem np_nil {cT : Nat → ClassId} {ad la : Nat → Nat} : np cT ad la (fun _ _ => (0 : Int32)) (List.range 0) = [] := by rw [np_def]; rfl
theorem tl0_P {D : va_G} {cl : List vw_C} {F : va_W} {H : Heap} {cT : Nat → ClassId} {ad la : Nat → Nat} (hP : va_P D cl F H) : va_P D cl (F ++ np cT ad la (fun _ _ => (0 : Int32)) (List.range 0)) H := by
  rw [np_nil, List.append_nil]; exact hP
theorem tl0_D {A : Nat → Prop} {F : va_W} {cT : Nat → ClassId} {ad la : Nat → Nat} (hD : va_D A F) : va_D A (F ++ np cT ad la (fun _ _ => (0 : Int32)) (List.range 0)) := by
  rw [np_nil, List.append_nil]; exact hD
theorem px_all : px [] = List.range 40 := by decide
theorem arr_ext {c : ClassId} {n : Nat} {f g : Nat → Option Nat} (h : ∀ j, j < n → f j = g j) : vp_cell c (n, .inr (.inr (.inr (.inr f)))) = vp_cell c (n, .inr (.inr (.inr (.inr g)))) := by
  rw [vp_cell_q, vp_cell_q]
  have e : (fun j => va_rf (if j < n then f j else none)) = (fun j => va_rf (if j < n then g j else none)) := by
    funext j
    by_cases hj : j < n
    · rw [if_pos hj, if_pos hj, h j hj]
    · rw [if_neg hj, if_neg hj]
  have k : ∀ u : Nat → Option Nat, arrV c n (fun j => va_rf (u j)) = arrV c n (fun j => va_rf (if j < n then u j else none)) := by
    intro u
    simp only [arrV]
    congr 1
    apply Array.ext
    · simp
    · intro j h1 h2
      have hj : j < n := by simpa using h1
      simp [hj]
  rw [k f, k g, e]
/-- another content of an array of objects, the same where it counts -/
theorem arr_P {D : va_G} {cl : List vw_C} {X Y : va_W} {a : Nat} {c : ClassId} {n : Nat} {f g : Nat → Option Nat} {H : Heap} (h : ∀ j, j < n → f j = g j) (hP : va_P D cl (X ++ (a, .inl (c, n, .inr (.inr (.inr (.inr f))))) :: Y) H) : va_P D cl (X ++ (a, .inl (c, n, .inr (.inr (.inr (.inr g))))) :: Y) H := by
  refine pP_iff.mpr fun q hq => ?_
  rcases List.mem_append.mp hq with z | z
  · exact pP_iff.mp hP q (List.mem_append_left _ z)
  · rcases List.mem_cons.mp z with e | z
    · have h0 := pP_iff.mp hP (a, .inl (c, n, .inr (.inr (.inr (.inr f))))) (List.mem_append_right _ List.mem_cons_self)
      rw [e]
      have h1 : H[a]? = some (vp_cell c (n, .inr (.inr (.inr (.inr f))))) := h0
      rw [arr_ext h] at h1
      exact h1
    · exact pP_iff.mp hP q (List.mem_append_right _ (List.mem_cons_of_mem _ z))
theorem arr_D {A : Nat → Prop} {X Y : va_W} {a : Nat} {u v : va_E} (hD : va_D A (X ++ (a, u) :: Y)) : va_D A (X ++ (a, v) :: Y) := by
  obtain ⟨h1, h2⟩ := pD_iff.mp hD
  refine pD_iff.mpr ⟨by simpa using h1, fun q hq => ?_⟩
  rcases List.mem_append.mp hq with z | z
  · exact h2 q (List.mem_append_left _ z)
  · rcases List.mem_cons.mp z with e | z
    · rw [e]; exact h2 (a, u) (List.mem_append_right _ List.mem_cons_self)
    · exact h2 q (List.mem_append_right _ (List.mem_cons_of_mem _ z))
section
variable {p : Program} {l : Launch} {e : Env} {s : State} {m : MethodId} {args : Array Value} {below : List Frame} {meth : Method} {c : Code} {Q : State → Prop} {A : Nat → Prop} {D : va_G} {cT : Nat → ClassId}
set_option maxHeartbeats 2000000 in
set_option maxRecDepth 100000 in
theorem lk_loop {h_o q1 q2 q3 q4 q5 q6 q7 q8 q9 : Nat} (C0 : cx RX3 cX3_init 2 D cT p s m c args) (hA : ∀ q, s.heap.size ≤ q → A q) (hret : ∀ (h_ad h_la : Nat → Nat) (H : Heap) (locs : List Loc) (ls : Array Slot), va_P D vwCl (ap_ [(h_o, .inr (3, [.ref q1, .ref q5, .ref q6, .ref q8])), (q1, .inr (1, [.ref q2, .ref q3, .ref q4, .int 0, .long 0])), (q2, .inr (6, [.long 2])), (q3, .inl (cT 0, 1640, .inl (fun _ => 0))), (q4, .inl (cT 1, 40, .inr (.inl (fun _ => 0)))), (q5, .inl (cT 4, 40, .inr (.inr (.inr (.inr (fun j => some (h_ad j))))))), (q6, .inr (4, [.ref q7])), (q7, .inl (cT 0, 16, .inl (fun _ => 0))), (q8, .inr (4, [.ref q9])), (q9, .inl (cT 0, 16, .inl (fun _ => 0)))] (np cT h_ad h_la (fun _ _ => (0 : Int32)) (px []))) H → va_D A (ap_ [(h_o, .inr (3, [.ref q1, .ref q5, .ref q6, .ref q8])), (q1, .inr (1, [.ref q2, .ref q3, .ref q4, .int 0, .long 0])), (q2, .inr (6, [.long 2])), (q3, .inl (cT 0, 1640, .inl (fun _ => 0))), (q4, .inl (cT 1, 40, .inr (.inl (fun _ => 0)))), (q5, .inl (cT 4, 40, .inr (.inr (.inr (.inr (fun j => some (h_ad j))))))), (q6, .inr (4, [.ref q7])), (q7, .inl (cT 0, 16, .inl (fun _ => 0))), (q8, .inr (4, [.ref q9])), (q9, .inl (cT 0, 16, .inl (fun _ => 0)))] (np cT h_ad h_la (fun _ _ => (0 : Int32)) (px []))) → va_S A s.heap H locs → W p l e ({ frames := 3, cells := 89, slots := 2440, locals := 52 } : Room) s m args below meth c H locs 89 2440 Q (F0 m 73 ls [])) : ∀ (k i : Nat), i + k = 40 → ∀ (g : Nat → Option Nat) (h_ad h_la : Nat → Nat) (H : Heap) (locs : List Loc) (ls : Array Slot), (∀ j, j < i → g j = some (h_ad j)) → va_P D vwCl (ap_ [(h_o, .inr (3, [.ref q1, .ref q5, .ref q6, .ref q8])), (q1, .inr (1, [.ref q2, .ref q3, .ref q4, .int 0, .long 0])), (q2, .inr (6, [.long 2])), (q3, .inl (cT 0, 1640, .inl (fun _ => 0))), (q4, .inl (cT 1, 40, .inr (.inl (fun _ => 0)))), (q5, .inl (cT 4, 40, .inr (.inr (.inr (.inr (g)))))), (q6, .inr (4, [.ref q7])), (q7, .inl (cT 0, 16, .inl (fun _ => 0))), (q8, .inr (4, [.ref q9])), (q9, .inl (cT 0, 16, .inl (fun _ => 0)))] (np cT h_ad h_la (fun _ _ => (0 : Int32)) (List.range i))) H → va_D A (ap_ [(h_o, .inr (3, [.ref q1, .ref q5, .ref q6, .ref q8])), (q1, .inr (1, [.ref q2, .ref q3, .ref q4, .int 0, .long 0])), (q2, .inr (6, [.long 2])), (q3, .inl (cT 0, 1640, .inl (fun _ => 0))), (q4, .inl (cT 1, 40, .inr (.inl (fun _ => 0)))), (q5, .inl (cT 4, 40, .inr (.inr (.inr (.inr (g)))))), (q6, .inr (4, [.ref q7])), (q7, .inl (cT 0, 16, .inl (fun _ => 0))), (q8, .inr (4, [.ref q9])), (q9, .inl (cT 0, 16, .inl (fun _ => 0)))] (np cT h_ad h_la (fun _ _ => (0 : Int32)) (List.range i))) → va_S A s.heap H locs → lv_has ls 2 [(1, .int (nI i)), (0, .ref h_o)] → W p l e ({ frames := 3, cells := 89, slots := 2440, locals := 52 } : Room) s m args below meth c H locs (9 + 2 * i) (1760 + 17 * i) Q (F0 m 48 ls []) := by
  obtain ⟨⟨hx, hb, hml, hown, hts⟩, hK, hN⟩ := id C0
  intro k
  induction k with
  | zero =>
    intro i hi g h_ad h_la H locs ls hg hP hD hS hl
    have e40 : i = 40 := by omega
    subst e40
    refine lv_iload_n hx hb dX3_init_48 rfl (lv_at hl 0 rfl) ?_
    refine lv_bipush (v := 40) hx hb dX3_init_49 (by decide) ?_
    refine lv_icmp_ge (tgt := 73) hx hb dX3_init_51 (by decide) (fun _ => ?_) (fun c9 => absurd (by decide) c9)
    have hP := arr_P (X := [(h_o, .inr (3, [.ref q1, .ref q5, .ref q6, .ref q8])), (q1, .inr (1, [.ref q2, .ref q3, .ref q4, .int 0, .long 0])), (q2, .inr (6, [.long 2])), (q3, .inl (cT 0, 1640, .inl (fun _ => 0))), (q4, .inl (cT 1, 40, .inr (.inl (fun _ => 0))))]) (f := g) (g := fun j => some (h_ad j)) (fun j hj => hg j hj) hP
    have hD := arr_D (X := [(h_o, .inr (3, [.ref q1, .ref q5, .ref q6, .ref q8])), (q1, .inr (1, [.ref q2, .ref q3, .ref q4, .int 0, .long 0])), (q2, .inr (6, [.long 2])), (q3, .inl (cT 0, 1640, .inl (fun _ => 0))), (q4, .inl (cT 1, 40, .inr (.inl (fun _ => 0))))]) (v := .inl (cT 4, 40, .inr (.inr (.inr (.inr (fun j => some (h_ad j))))))) hD
    rw [← px_all] at hP hD
    exact hret h_ad h_la _ _ _ hP hD hS
  | succ k ih =>
    intro i hi g h_ad h_la H locs ls hg hP hD hS hl
    have hi40 : i < 40 := by omega
    refine lv_iload_n hx hb dX3_init_48 rfl (lv_at hl 0 rfl) ?_
    refine lv_bipush (v := 40) hx hb dX3_init_49 (by decide) ?_
    refine lv_icmp_ge (tgt := 73) hx hb dX3_init_51 (by decide) (fun c9 => absurd c9 (lk_lt hi40)) (fun _ => ?_)
    refine lv_aload_n hx hb dX3_init_54 rfl (lv_at hl 1 rfl) ?_
    refine va_get (D := D) (ci := 3) (v := .ref q5) (C := RX3) (T := TX3) (N := 4) hx hb hts inX3 hown hK hP 0 rfl rfl 1 (by decide) (hts _ q_110) (fun _ h9 => h9) rfl dX3_init_55 ?_
    refine lv_iload_n hx hb dX3_init_58 rfl (lv_at hl 0 rfl) ?_
    refine va_new (ci := 4) (fs := [.null]) (C := RX4) (T := TX4) (N := 1) hx hb hts inX4 tyX4 tyX4_ok hown (hts _ q_98) (hts _ q_100) (hts _ q_6) hK hP hD hS hA rfl (fun j hj => by rcases (show j = 0 by omega) with rfl <;> rfl) (show 9 + 2 * i + 1 ≤ 89 by omega) (show 1760 + 17 * i + 1 ≤ 2440 by omega) dX3_init_59 (fun qn H hP hD hS => ?_)
    refine lv_dup hx hb dX3_init_62 rfl ?_
    have hPc := lp_P (R := (ap_ [(h_o, .inr (3, [.ref q1, .ref q5, .ref q6, .ref q8])), (q1, .inr (1, [.ref q2, .ref q3, .ref q4, .int 0, .long 0])), (q2, .inr (6, [.long 2])), (q3, .inl (cT 0, 1640, .inl (fun _ => 0))), (q4, .inl (cT 1, 40, .inr (.inl (fun _ => 0)))), (q5, .inl (cT 4, 40, .inr (.inr (.inr (.inr (g)))))), (q6, .inr (4, [.ref q7])), (q7, .inl (cT 0, 16, .inl (fun _ => 0))), (q8, .inr (4, [.ref q9])), (q9, .inl (cT 0, 16, .inl (fun _ => 0)))] (np cT h_ad h_la (fun _ _ => (0 : Int32)) (List.range i)))) (wc := [(qn, .inr (4, [.null]))]) hP
    have hDc := lp_D (R := (ap_ [(h_o, .inr (3, [.ref q1, .ref q5, .ref q6, .ref q8])), (q1, .inr (1, [.ref q2, .ref q3, .ref q4, .int 0, .long 0])), (q2, .inr (6, [.long 2])), (q3, .inl (cT 0, 1640, .inl (fun _ => 0))), (q4, .inl (cT 1, 40, .inr (.inl (fun _ => 0)))), (q5, .inl (cT 4, 40, .inr (.inr (.inr (.inr (g)))))), (q6, .inr (4, [.ref q7])), (q7, .inl (cT 0, 16, .inl (fun _ => 0))), (q8, .inr (4, [.ref q9])), (q9, .inl (cT 0, 16, .inl (fun _ => 0)))] (np cT h_ad h_la (fun _ _ => (0 : Int32)) (List.range i)))) (wc := [(qn, .inr (4, [.null]))]) hD
    have hFc := va_free2 (wc := [(qn, .inr (4, [.null]))]) hD hS hA (fun z hz => List.mem_append_right _ hz)
    refine va_callv (va_runIN (As := []) (rest := [.ref qn, .int (nI i), .ref q5]) ⟨hx, hb, hml, hown, hts⟩ (cc_X4 l D cT qn H.size) (gin_ 0 q_103 q_6 hN.2.2.2.2.2.2.2.2.2.2.2.1 q_102 rfl (by decide +kernel) ⟨(Nat.le_of_ble_eq_true rfl), (Nat.le_of_ble_eq_true rfl)⟩ hts) ⟨pre_blind, fun U hU hW => ⟨rfl, pre_mk hU hW hPc hK hDc hN⟩⟩ rfl rfl hl.1 rfl (lv_room (Nat.le_of_ble_eq_true rfl)) dX3_init_63 ⟨show 9 + 2 * i + 1 + 1 ≤ 89 by omega, show 1760 + 17 * i + 1 + 16 ≤ 2440 by omega⟩) hS (fun q _ h => hFc q h) hFc (fun u9 t H locs ht hvm h9 hB hz1 hk1 hS => ?_)
    obtain ⟨ln, hP1, hD1⟩ := hB
    rw [ht] at hP1
    obtain ⟨hP, hD⟩ := gj_ (R := (ap_ [(h_o, .inr (3, [.ref q1, .ref q5, .ref q6, .ref q8])), (q1, .inr (1, [.ref q2, .ref q3, .ref q4, .int 0, .long 0])), (q2, .inr (6, [.long 2])), (q3, .inl (cT 0, 1640, .inl (fun _ => 0))), (q4, .inl (cT 1, 40, .inr (.inl (fun _ => 0)))), (q5, .inl (cT 4, 40, .inr (.inr (.inr (.inr (g)))))), (q6, .inr (4, [.ref q7])), (q7, .inl (cT 0, 16, .inl (fun _ => 0))), (q8, .inr (4, [.ref q9])), (q9, .inl (cT 0, 16, .inl (fun _ => 0)))] (np cT h_ad h_la (fun _ _ => (0 : Int32)) (List.range i)))) (wc := [(qn, .inr (4, [.null]))]) (w1 := [(qn, .inr (4, [.ref ln])), (ln, .inl (cT 0, 16, .inl (fun _ => 0)))]) hP hD hk1 hFc hP1 hD1
    clear hP1 hD1 hPc hDc hFc hk1 hz1 hvm ht h9
    have hP := mv_P (F := [(h_o, .inr (3, [.ref q1, .ref q5, .ref q6, .ref q8])), (q1, .inr (1, [.ref q2, .ref q3, .ref q4, .int 0, .long 0])), (q2, .inr (6, [.long 2])), (q3, .inl (cT 0, 1640, .inl (fun _ => 0))), (q4, .inl (cT 1, 40, .inr (.inl (fun _ => 0)))), (q5, .inl (cT 4, 40, .inr (.inr (.inr (.inr (g)))))), (q6, .inr (4, [.ref q7])), (q7, .inl (cT 0, 16, .inl (fun _ => 0))), (q8, .inr (4, [.ref q9])), (q9, .inl (cT 0, 16, .inl (fun _ => 0)))]) hP
    have hD := mv_D (F := [(h_o, .inr (3, [.ref q1, .ref q5, .ref q6, .ref q8])), (q1, .inr (1, [.ref q2, .ref q3, .ref q4, .int 0, .long 0])), (q2, .inr (6, [.long 2])), (q3, .inl (cT 0, 1640, .inl (fun _ => 0))), (q4, .inl (cT 1, 40, .inr (.inl (fun _ => 0)))), (q5, .inl (cT 4, 40, .inr (.inr (.inr (.inr (g)))))), (q6, .inr (4, [.ref q7])), (q7, .inl (cT 0, 16, .inl (fun _ => 0))), (q8, .inr (4, [.ref q9])), (q9, .inl (cT 0, 16, .inl (fun _ => 0)))]) hD
    have hP : va_P D vwCl (ap_ [(h_o, .inr (3, [.ref q1, .ref q5, .ref q6, .ref q8])), (q1, .inr (1, [.ref q2, .ref q3, .ref q4, .int 0, .long 0])), (q2, .inr (6, [.long 2])), (q3, .inl (cT 0, 1640, .inl (fun _ => 0))), (q4, .inl (cT 1, 40, .inr (.inl (fun _ => 0)))), (q5, .inl (cT 4, 40, .inr (.inr (.inr (.inr (g)))))), (q6, .inr (4, [.ref q7])), (q7, .inl (cT 0, 16, .inl (fun _ => 0))), (q8, .inr (4, [.ref q9])), (q9, .inl (cT 0, 16, .inl (fun _ => 0))), (qn, .inr (4, [.ref ln])), (ln, .inl (cT 0, 16, .inl (fun _ => 0)))] (np cT h_ad h_la (fun _ _ => (0 : Int32)) (List.range i))) H := hP
    have hD : va_D A (ap_ [(h_o, .inr (3, [.ref q1, .ref q5, .ref q6, .ref q8])), (q1, .inr (1, [.ref q2, .ref q3, .ref q4, .int 0, .long 0])), (q2, .inr (6, [.long 2])), (q3, .inl (cT 0, 1640, .inl (fun _ => 0))), (q4, .inl (cT 1, 40, .inr (.inl (fun _ => 0)))), (q5, .inl (cT 4, 40, .inr (.inr (.inr (.inr (g)))))), (q6, .inr (4, [.ref q7])), (q7, .inl (cT 0, 16, .inl (fun _ => 0))), (q8, .inr (4, [.ref q9])), (q9, .inl (cT 0, 16, .inl (fun _ => 0))), (qn, .inr (4, [.ref ln])), (ln, .inl (cT 0, 16, .inl (fun _ => 0)))] (np cT h_ad h_la (fun _ _ => (0 : Int32)) (List.range i))) := hD
    refine va_astq hx hb hK hP hD hS 5 4 10 4 rfl rfl rfl rfl (lk_in hi40) dX3_init_66 (fun H locs hP hD hS => ?_)
    have hP : va_P D vwCl (([(h_o, .inr (3, [.ref q1, .ref q5, .ref q6, .ref q8])), (q1, .inr (1, [.ref q2, .ref q3, .ref q4, .int 0, .long 0])), (q2, .inr (6, [.long 2])), (q3, .inl (cT 0, 1640, .inl (fun _ => 0))), (q4, .inl (cT 1, 40, .inr (.inl (fun _ => 0)))), (q5, .inl (cT 4, 40, .inr (.inr (.inr (.inr (va_up g (nI i).toNatClampNeg (some qn))))))), (q6, .inr (4, [.ref q7])), (q7, .inl (cT 0, 16, .inl (fun _ => 0))), (q8, .inr (4, [.ref q9])), (q9, .inl (cT 0, 16, .inl (fun _ => 0)))] ++ [(qn, .inr (4, [.ref ln])), (ln, .inl (cT 0, 16, .inl (fun _ => 0)))]) ++ np cT h_ad h_la (fun _ _ => (0 : Int32)) (List.range i)) H := hP
    have hD : va_D A (([(h_o, .inr (3, [.ref q1, .ref q5, .ref q6, .ref q8])), (q1, .inr (1, [.ref q2, .ref q3, .ref q4, .int 0, .long 0])), (q2, .inr (6, [.long 2])), (q3, .inl (cT 0, 1640, .inl (fun _ => 0))), (q4, .inl (cT 1, 40, .inr (.inl (fun _ => 0)))), (q5, .inl (cT 4, 40, .inr (.inr (.inr (.inr (va_up g (nI i).toNatClampNeg (some qn))))))), (q6, .inr (4, [.ref q7])), (q7, .inl (cT 0, 16, .inl (fun _ => 0))), (q8, .inr (4, [.ref q9])), (q9, .inl (cT 0, 16, .inl (fun _ => 0)))] ++ [(qn, .inr (4, [.ref ln])), (ln, .inl (cT 0, 16, .inl (fun _ => 0)))]) ++ np cT h_ad h_la (fun _ _ => (0 : Int32)) (List.range i)) := hD
    have hP := mv_P hP
    have hD := mv_D hD
    rw [List.append_assoc, ← np_snoc] at hP hD
    rw [lk_cl hi40] at hP hD
    refine lv_iinc (v := nI (i + 1)) (lv' := [(1, .int (nI (i + 1))), (0, .ref h_o)]) hx hb dX3_init_67 hl (k := 0) rfl (by rw [lk_su hi40]; rfl) (by decide) rfl (fun ls hl => ?_)
    refine lv_goto (tgt := 48) hx hb dX3_init_70 (by decide) ?_
    refine W.widen (k := 9 + 2 * (i + 1)) (n := 1760 + 17 * (i + 1)) (by omega) (by omega) ?_
    exact ih (i + 1) (by omega) _ _ _ _ _ _ (fun j hj => lk_g hg hj) hP hD hS hl
end
