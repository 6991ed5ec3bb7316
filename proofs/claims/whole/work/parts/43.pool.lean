/-! the pool of 40 Naturals: worlds with a tail -/
abbrev ap_ (a b : va_W) : va_W := a ++ b
def npe (cT : Nat → ClassId) (ad la : Nat → Nat) (ab : Nat → Nat → Int32) (j : Nat) : va_W := [(ad j, .inr (4, [.ref (la j)])), (la j, .inl (cT 0, 16, .inl (ab j)))]
theorem np_ex : ∃ f : (Nat → ClassId) → (Nat → Nat) → (Nat → Nat) → (Nat → Nat → Int32) → List Nat → va_W, f = fun cT ad la ab L => L.flatMap (npe cT ad la ab) := ⟨_, rfl⟩
/-- (by choice, so that nothing unfolds it by itself) -/
noncomputable def np (cT : Nat → ClassId) (ad la : Nat → Nat) (ab : Nat → Nat → Int32) (L : List Nat) : va_W := Classical.choose np_ex cT ad la ab L
theorem np_def (cT : Nat → ClassId) (ad la : Nat → Nat) (ab : Nat → Nat → Int32) (L : List Nat) : np cT ad la ab L = L.flatMap (npe cT ad la ab) := by
  unfold np
  rw [Classical.choose_spec np_ex]
/-- the places but some -/
def px (rm : List Nat) : List Nat := (List.range 40).filter (fun k => !rm.contains k)
theorem px_mem {rm : List Nat} {j : Nat} : j ∈ px rm ↔ j < 40 ∧ j ∉ rm := by
  unfold px
  rw [List.mem_filter, List.mem_range]
  simp
theorem px_nodup (rm : List Nat) : (px rm).Nodup := List.Nodup.sublist List.filter_sublist List.nodup_range
theorem px_perm {rm : List Nat} {j : Nat} (h : j < 40) (hn : j ∉ rm) : (px rm).Perm (j :: px (j :: rm)) := by
  refine (List.perm_ext_iff_of_nodup (px_nodup rm) ?_).mpr (fun k => ?_)
  · refine List.nodup_cons.mpr ⟨fun q => ?_, px_nodup _⟩
    exact (px_mem.mp q).2 List.mem_cons_self
  · rw [List.mem_cons, px_mem, px_mem]
    constructor
    · rintro ⟨a, b⟩
      by_cases q : k = j
      · exact Or.inl q
      · exact Or.inr ⟨a, fun c => (List.mem_cons.mp c).elim q b⟩
    · rintro (q | ⟨a, b⟩)
      · rw [q]; exact ⟨h, hn⟩
      · exact ⟨a, fun c => b (List.mem_cons_of_mem _ c)⟩
theorem pP_iff {D : va_G} {cl : List vw_C} {ws : va_W} {H : Heap} : va_P D cl ws H ↔ ∀ q ∈ ws, va_at D cl q H := by
  constructor
  · intro h q hq
    obtain ⟨k, hk⟩ := List.mem_iff_getElem?.mp hq
    exact h k q hk
  · intro h k q hk
    exact h q (List.mem_of_getElem? hk)
theorem pD_iff {A : Nat → Prop} {ws : va_W} : va_D A ws ↔ (ws.map (fun q => q.1)).Nodup ∧ ∀ q ∈ ws, A q.1 := by
  constructor
  · intro h
    refine ⟨?_, fun q hq => ?_⟩
    · rw [List.nodup_iff_pairwise_ne, List.pairwise_iff_getElem]
      intro i j hi hj hij e
      rw [List.length_map] at hi hj
      rw [List.getElem_map, List.getElem_map] at e
      have := h.1 i j _ _ (List.getElem?_eq_getElem hi) (List.getElem?_eq_getElem hj) e
      omega
    · obtain ⟨k, hk⟩ := List.mem_iff_getElem?.mp hq
      exact h.2 k q hk
  · rintro ⟨h1, h2⟩
    refine ⟨fun i j p q hp hq e => ?_, fun k q hk => h2 q (List.mem_of_getElem? hk)⟩
    have hi : i < (ws.map (fun q => q.1)).length := by rw [List.length_map]; exact (List.getElem?_eq_some_iff.mp hp).1
    exact (List.getElem?_inj hi h1).mp (by rw [List.getElem?_map, List.getElem?_map, hp, hq]; simp [e])
theorem pP_perm {D : va_G} {cl : List vw_C} {ws ws' : va_W} {H : Heap} (h : ws.Perm ws') (hP : va_P D cl ws H) : va_P D cl ws' H := pP_iff.mpr (fun q hq => pP_iff.mp hP q (h.mem_iff.mpr hq))
theorem pD_perm {A : Nat → Prop} {ws ws' : va_W} (h : ws.Perm ws') (hD : va_D A ws) : va_D A ws' := by
  obtain ⟨h1, h2⟩ := pD_iff.mp hD
  exact pD_iff.mpr ⟨(h.map _).nodup_iff.mp h1, fun q hq => h2 q (h.mem_iff.mpr hq)⟩
theorem np_perm {cT : Nat → ClassId} {ad la : Nat → Nat} {ab : Nat → Nat → Int32} {L L' : List Nat} (h : L.Perm L') : (np cT ad la ab L).Perm (np cT ad la ab L') := by
  rw [np_def, np_def]
  exact h.flatMap_right _
theorem np_cons {cT : Nat → ClassId} {ad la : Nat → Nat} {ab : Nat → Nat → Int32} {j : Nat} {L : List Nat} : np cT ad la ab (j :: L) = npe cT ad la ab j ++ np cT ad la ab L := by
  rw [np_def, np_def]
  rfl
theorem fo_perm {cT : Nat → ClassId} {ad la : Nat → Nat} {ab : Nat → Nat → Int32} {F : va_W} {rm : List Nat} {j : Nat} (h : j < 40 ∧ j ∉ rm) : (F ++ np cT ad la ab (px rm)).Perm ((F ++ npe cT ad la ab j) ++ np cT ad la ab (px (j :: rm))) := by
  rw [List.append_assoc, ← np_cons]
  exact (np_perm (px_perm h.1 h.2)).append_left F
theorem fo_P {D : va_G} {cl : List vw_C} {H : Heap} {cT : Nat → ClassId} {ad la : Nat → Nat} {ab : Nat → Nat → Int32} {F : va_W} {rm : List Nat} {j : Nat} (h : j < 40 ∧ j ∉ rm) (hP : va_P D cl (F ++ np cT ad la ab (px rm)) H) : va_P D cl ((F ++ npe cT ad la ab j) ++ np cT ad la ab (px (j :: rm))) H := pP_perm (fo_perm h) hP
theorem fo_D {A : Nat → Prop} {cT : Nat → ClassId} {ad la : Nat → Nat} {ab : Nat → Nat → Int32} {F : va_W} {rm : List Nat} {j : Nat} (h : j < 40 ∧ j ∉ rm) (hD : va_D A (F ++ np cT ad la ab (px rm))) : va_D A ((F ++ npe cT ad la ab j) ++ np cT ad la ab (px (j :: rm))) := pD_perm (fo_perm h) hD
theorem us_P {D : va_G} {cl : List vw_C} {H : Heap} {cT : Nat → ClassId} {ad la : Nat → Nat} {ab : Nat → Nat → Int32} {F : va_W} {rm : List Nat} {j : Nat} (h : j < 40 ∧ j ∉ rm) (hP : va_P D cl ((F ++ npe cT ad la ab j) ++ np cT ad la ab (px (j :: rm))) H) : va_P D cl (F ++ np cT ad la ab (px rm)) H := pP_perm (fo_perm h).symm hP
theorem us_D {A : Nat → Prop} {cT : Nat → ClassId} {ad la : Nat → Nat} {ab : Nat → Nat → Int32} {F : va_W} {rm : List Nat} {j : Nat} (h : j < 40 ∧ j ∉ rm) (hD : va_D A ((F ++ npe cT ad la ab j) ++ np cT ad la ab (px (j :: rm)))) : va_D A (F ++ np cT ad la ab (px rm)) := pD_perm (fo_perm h).symm hD
theorem np_other {cT : Nat → ClassId} {ad la : Nat → Nat} {ab : Nat → Nat → Int32} {rm : List Nat} {j : Nat} {g : Nat → Int32} : np cT ad la (va_up ab j g) (px (j :: rm)) = np cT ad la ab (px (j :: rm)) := by
  rw [np_def, np_def, List.flatMap_def, List.flatMap_def]
  congr 1
  refine List.map_congr_left (fun k hk => ?_)
  have hne : k ≠ j := fun q => (px_mem.mp hk).2 (by rw [q]; exact List.mem_cons_self)
  unfold npe va_up
  rw [if_neg hne]
theorem npe_same {cT : Nat → ClassId} {ad la : Nat → Nat} {ab : Nat → Nat → Int32} {j : Nat} {g : Nat → Int32} : npe cT ad la (va_up ab j g) j = [(ad j, .inr (4, [.ref (la j)])), (la j, .inl (cT 0, 16, .inl g))] := by
  unfold npe va_up
  rw [if_pos rfl]
theorem uf_P {D : va_G} {cl : List vw_C} {H : Heap} {cT : Nat → ClassId} {ad la : Nat → Nat} {ab : Nat → Nat → Int32} {F : va_W} {rm : List Nat} {j : Nat} {g : Nat → Int32} (h : j < 40 ∧ j ∉ rm) (hP : va_P D cl ((F ++ [(ad j, .inr (4, [.ref (la j)])), (la j, .inl (cT 0, 16, .inl g))]) ++ np cT ad la ab (px (j :: rm))) H) : va_P D cl (F ++ np cT ad la (va_up ab j g) (px rm)) H := by
  refine us_P h ?_
  rw [np_other, npe_same]
  exact hP
theorem uf_D {A : Nat → Prop} {cT : Nat → ClassId} {ad la : Nat → Nat} {ab : Nat → Nat → Int32} {F : va_W} {rm : List Nat} {j : Nat} {g : Nat → Int32} (h : j < 40 ∧ j ∉ rm) (hD : va_D A ((F ++ [(ad j, .inr (4, [.ref (la j)])), (la j, .inl (cT 0, 16, .inl g))]) ++ np cT ad la ab (px (j :: rm)))) : va_D A (F ++ np cT ad la (va_up ab j g) (px rm)) := by
  refine us_D h ?_
  rw [np_other, npe_same]
  exact hD
theorem fh_ {i : Int32} (h : vp_in i 40) : i.toNatClampNeg < 40 ∧ i.toNatClampNeg ∉ ([] : List Nat) := ⟨Nat.not_le.mp fun q => h (Or.inr q), List.not_mem_nil⟩
theorem fh2_ {i : Int32} {k : Nat} (h : vp_in i 40) (e : ¬ k = i.toNatClampNeg) : i.toNatClampNeg < 40 ∧ i.toNatClampNeg ∉ [k] := ⟨Nat.not_le.mp fun q => h (Or.inr q), fun q => e (List.mem_singleton.mp q).symm⟩
/-! behind a call -/
theorem ix_perm {α : Type} {F X : List α} (is : List Nat) (h1 : is.Perm (List.range F.length)) (h2 : is.filterMap (fun i => F[i]?) = X) : F.Perm X := by
  have e : (List.range F.length).filterMap (fun i => F[i]?) = F := by
    apply List.ext_getElem?
    intro k
    have hl : ∀ (n : Nat), n ≤ F.length → (List.range n).filterMap (fun i => F[i]?) = F.take n := by
      intro n
      induction n with
      | zero => intro _; rfl
      | succ n ih =>
        intro hn
        rw [List.range_succ, List.filterMap_append, ih (by omega), List.take_add_one]
        congr 1
    rw [hl F.length (Nat.le_refl _), List.take_length]
  rw [← h2]
  exact (e ▸ (h1.filterMap (fun i => F[i]?)).symm : F.Perm _)
theorem jw_ {A0 : Nat → Prop} {D : va_G} {cl : List vw_C} {W wc wr w1 : va_W} {H H1 : Heap} (hP : va_P D cl W H) (hD : va_D A0 W) (hp : W.Perm (wc ++ wr)) (hk : ∀ q : Nat, q < H.size → ¬ va_A wc H.size q → H1[q]? = H[q]?) (hF : ∀ q, va_A wc H.size q → A0 q) (hP1 : va_P D cl w1 H1) (hD1 : va_D (va_A wc H.size) w1) : va_P D cl (w1 ++ wr) H1 ∧ va_D A0 (w1 ++ wr) := by
  have hP' := pP_perm hp hP
  obtain ⟨n1, n2⟩ := pD_iff.mp (pD_perm hp hD)
  obtain ⟨m1, m2⟩ := pD_iff.mp hD1
  rw [List.map_append, List.nodup_append] at n1
  obtain ⟨nc, nr, nd⟩ := n1
  have hlt : ∀ q ∈ wr, q.1 < H.size := fun q hq => (pP_iff.mp hP' q (List.mem_append_right _ hq)).lt
  have hout : ∀ q ∈ wr, ¬ va_A wc H.size q.1 := by
    rintro q hq (⟨k, e, hke⟩ | h)
    · exact nd q.1 (List.mem_map.mpr ⟨_, List.mem_of_getElem? hke, rfl⟩) q.1 (List.mem_map.mpr ⟨q, hq, rfl⟩) rfl
    · exact absurd (hlt q hq) (Nat.not_lt.mpr h)
  refine ⟨pP_iff.mpr (fun q hq => ?_), pD_iff.mpr ⟨?_, fun q hq => ?_⟩⟩
  · rcases List.mem_append.mp hq with h | h
    · exact pP_iff.mp hP1 q h
    · exact (pP_iff.mp hP' q (List.mem_append_right _ h)).kept (hk q.1 (hlt q h) (hout q h))
  · rw [List.map_append, List.nodup_append]
    refine ⟨m1, nr, fun x hx y hy e => ?_⟩
    obtain ⟨q, hq, rfl⟩ := List.mem_map.mp hx
    obtain ⟨r, hr, rfl⟩ := List.mem_map.mp hy
    exact hout r hr (e ▸ m2 q hq)
  · rcases List.mem_append.mp hq with h | h
    · exact hF _ (m2 q h)
    · exact n2 q (List.mem_append_right _ h)
theorem jt_ {A0 : Nat → Prop} {D : va_G} {cl : List vw_C} {F F' T wc wr w1 : va_W} {H H1 : Heap} (is : List Nat) {n : Nat} (e1 : F.length = n) (e2 : F'.length = n) (h1 : is.Perm (List.range n)) (h2 : is.filterMap (fun i => F[i]?) = wc ++ wr) (h3 : is.filterMap (fun i => F'[i]?) = w1 ++ wr) (hP : va_P D cl (F ++ T) H) (hD : va_D A0 (F ++ T)) (hk : ∀ q : Nat, q < H.size → ¬ va_A wc H.size q → H1[q]? = H[q]?) (hF : ∀ q, va_A wc H.size q → A0 q) (hP1 : va_P D cl w1 H1) (hD1 : va_D (va_A wc H.size) w1) : va_P D cl (F' ++ T) H1 ∧ va_D A0 (F' ++ T) := by
  have p1 : (F ++ T).Perm (wc ++ (wr ++ T)) := by
    rw [← List.append_assoc]
    exact (ix_perm is (e1 ▸ h1) h2).append_right T
  obtain ⟨a, b⟩ := jw_ hP hD p1 hk hF hP1 hD1
  have p2 : (w1 ++ (wr ++ T)).Perm (F' ++ T) := by
    rw [← List.append_assoc]
    exact ((ix_perm is (e2 ▸ h1) h3).symm).append_right T
  exact ⟨pP_perm p2 a, pD_perm p2 b⟩
theorem jp_ {A0 : Nat → Prop} {D : va_G} {cl : List vw_C} {F F' T T' wc wr w1 : va_W} {H H1 : Heap} (is : List Nat) {n : Nat} (e1 : F.length = n) (e2 : F'.length = n) (h1 : is.Perm (List.range n)) (h2 : is.filterMap (fun i => F[i]?) = wc ++ wr) (h3 : is.filterMap (fun i => F'[i]?) = w1 ++ wr) (hP : va_P D cl (F ++ T) H) (hD : va_D A0 (F ++ T)) (hk : ∀ q : Nat, q < H.size → ¬ va_A (wc ++ T) H.size q → H1[q]? = H[q]?) (hF : ∀ q, va_A (wc ++ T) H.size q → A0 q) (hP1 : va_P D cl (w1 ++ T') H1) (hD1 : va_D (va_A (wc ++ T) H.size) (w1 ++ T')) : va_P D cl (F' ++ T') H1 ∧ va_D A0 (F' ++ T') := by
  have sw : ∀ {a b c : va_W}, ((a ++ b) ++ c).Perm ((a ++ c) ++ b) := by
    intro a b c
    rw [List.append_assoc, List.append_assoc]
    exact List.perm_append_comm.append_left a
  have p1 : (F ++ T).Perm ((wc ++ T) ++ wr) := ((ix_perm is (e1 ▸ h1) h2).append_right T).trans sw
  obtain ⟨a, b⟩ := jw_ hP hD p1 hk hF hP1 hD1
  have p2 : ((w1 ++ T') ++ wr).Perm (F' ++ T') := sw.trans ((ix_perm is (e2 ▸ h1) h3).symm.append_right T')
  exact ⟨pP_perm p2 a, pD_perm p2 b⟩
theorem st_M {F F1 T : va_W} (is : List Nat) (h : is.filterMap (fun i => F[i]?) = F1) : ∀ q ∈ F1 ++ T, q ∈ F ++ T := by
  intro q hq
  rcases List.mem_append.mp hq with z | z
  · rw [← h] at z
    obtain ⟨i, -, hi⟩ := List.mem_filterMap.mp z
    exact List.mem_append_left _ (List.mem_of_getElem? hi)
  · exact List.mem_append_right _ z
theorem st_P {D : va_G} {cl : List vw_C} {F F1 T : va_W} {H : Heap} (is : List Nat) (h : is.filterMap (fun i => F[i]?) = F1) (hP : va_P D cl (F ++ T) H) : va_P D cl (F1 ++ T) H := pP_iff.mpr (fun q hq => pP_iff.mp hP q (st_M is h q hq))
theorem st_D {A : Nat → Prop} {F F1 T : va_W} (is : List Nat) (hn : va_nd is = true) (h : is.map (fun i => F[i]?) = F1.map some) (hD : va_D A (F ++ T)) : va_D A (F1 ++ T) := by
  obtain ⟨n1, n2⟩ := pD_iff.mp hD
  rw [List.map_append, List.nodup_append] at n1
  have hDF : va_D A F := pD_iff.mpr ⟨n1.1, fun q hq => n2 q (List.mem_append_left _ hq)⟩
  have hD1 := hDF.sub (ws' := F1) is hn h
  obtain ⟨k1, k2⟩ := pD_iff.mp hD1
  have hm : ∀ q ∈ F1, q ∈ F := by
    intro q hq
    have : some q ∈ F1.map some := List.mem_map.mpr ⟨q, hq, rfl⟩
    rw [← h] at this
    obtain ⟨i, -, hi⟩ := List.mem_map.mp this
    exact List.mem_of_getElem? hi
  refine pD_iff.mpr ⟨?_, fun q hq => ?_⟩
  · rw [List.map_append, List.nodup_append]
    refine ⟨k1, n1.2.1, fun x hx y hy => ?_⟩
    obtain ⟨q, hq, rfl⟩ := List.mem_map.mp hx
    exact n1.2.2 q.1 (List.mem_map.mpr ⟨q, hm q hq, rfl⟩) y hy
  · rcases List.mem_append.mp hq with z | z
    · exact k2 q z
    · exact n2 q (List.mem_append_right _ z)
theorem va_free2 {A0 : Nat → Prop} {ws wc : va_W} {H0 H : Heap} {locs : List Loc} (hD : va_D A0 ws) (hS : va_S A0 H0 H locs) (hA : ∀ q, H0.size ≤ q → A0 q) (hm : ∀ q ∈ wc, q ∈ ws) : ∀ q, va_A wc H.size q → A0 q := by
  rintro q (⟨k, e, hk⟩ | h)
  · exact (pD_iff.mp hD).2 _ (hm _ (List.mem_of_getElem? hk))
  · exact hA q (Nat.le_trans hS.1 h)
/-! the table of primes -/
def tb_ (tp : Nat) (A : Nat → Prop) (U : State) : Prop := va_Z "ChainDesk$Likelihoods" "PRIMES" "[I" (.ref tp) A U U.heap ∧ va_T .int tp 32 (fun j => .int (nI (pm_ j))) A U U.heap
def pret_ (tp : Nat) (D : va_G) (cT : Nat → ClassId) (ws : va_W) (sz : Nat) (U : State) : Prop := U.heap.size = sz ∧ va_P D vwCl ws U.heap ∧ va_K D vwCl (ty_ cT) U ∧ va_D (fun _ => True) ws ∧ nw_ U ∧ tb_ tp (va_A ws sz) U
theorem pret_blind {av : List Value} {tp : Nat} {D : va_G} {cT : Nat → ClassId} {ws : va_W} {sz : Nat} : FrameBlind (va_Pc av (pret_ tp D cT ws sz)) := fun a U g mk q => by
  obtain ⟨q0, q1, qP, qK, qD, qN, qZ, qT⟩ := q
  exact ⟨q0, q1, qP, va_K.moved (u := U) (U := U.calling g mk a) (Vm.Alike.refl U.vm) qK, qD, nw_same (u := U) (U := U.calling g mk a) rfl qN, va_Z.moved (u := U) (U := U.calling g mk a) (Vm.Alike.refl U.vm) qZ, va_T.moved (u := U) (U := U.calling g mk a) (Vm.Alike.refl U.vm) qT⟩
theorem pret_mk {s U : State} {H : Heap} {locs : List Loc} {tp : Nat} {D : va_G} {cT : Nat → ClassId} {ws : va_W} {A B : Nat → Prop} (hU : U.heap = H) (hW : s.WarmedH U.vm) (hP : va_P D vwCl ws H) (hK : va_K D vwCl (ty_ cT) s) (hD : va_D B ws) (hN : nw_ s) (T0 : tb_ tp A s) (hS : va_S A s.heap H locs) (hF : ∀ q, va_A ws H.size q → A q) : pret_ tp D cT ws H.size U := by
  refine ⟨by rw [hU], by rw [hU]; exact hP, va_K.moved hW.alike hK, hD.weaken (fun _ _ _ _ => trivial), nw_warm hW hN, ?_, ?_⟩
  · rw [hU]
    exact ((va_Z.kept T0.1 hS.2.1).narrow hF).moved hW.alike
  · rw [hU]
    exact ((va_T.kept T0.2 hS.2.1).narrow hF).moved hW.alike
