/-! the throws of the class: what their sites need, what they leave -/
def up_ : List String := ["java/lang/RuntimeException", "java/lang/Exception"]
abbrev nIA : String := "java/lang/IllegalArgumentException"
abbrev nIS : String := "java/lang/IllegalStateException"
def thc (r : Int32) : String := if r = 2 then nIS else nIA
abbrev tTN : String := "java/lang/Throwable"
abbrev dS1 : String := "[Ljava/lang/StackTraceElement;"
abbrev dS2 : String := "Ljava/util/List;"
abbrev iS_ (C : String) : MethodName := ⟨C, "<init>", "(Ljava/lang/String;)V"⟩
/-- words that the steady ones lack -/
def fxL : List Cond := [.castable nIA nIA, .castable nIS nIS, .declares (iS_ "java/lang/RuntimeException"), .declares (iS_ "java/lang/Exception"), .declares (iS_ tTN), .laysStatic tTN "UNASSIGNED_STACK" dS1, .laysStatic tTN "SUPPRESSED_SENTINEL" dS2,
  .isRef (.static tTN "UNASSIGNED_STACK" dS1), .isRef (.static tTN "SUPPRESSED_SENTINEL" dS2)]
def srL : List (Nat × String) := [(54, "a chain has 1 to 40 states"), (67, "there is no such state"), (70, "a whole is 1 to 999999999"), (79, "there is no such state or target"), (81, "a part is 0 to 999999999"), (89, "the parts would be above the whole")]
def ex_ (U : State) : Prop := (∀ w ∈ fxL, ∀ a, w.before a U = true) ∧ (∀ q ∈ srL, ∀ a, (Cond.stringRef RX7 q.1 q.2).before a U = true) ∧ ∀ a, (Cond.not (.castable nIS nIA)).before a U = true
theorem ex_lays {s U : State} {C n d : String} (hW : s.WarmedH U.vm) (hh : ∀ (a : Nat) (cell : Cell), s.heap[a]? = some cell → cell.vm.isStatics = true → U.heap[a]? = some cell) (a : Array Value) (h : (Cond.laysStatic C n d).before a s = true) : (Cond.laysStatic C n d).before a U = true := by
  have h1 := Cond.holds_shifted (State.Shifted.of_warmed hW) (.laysStatic C n d) [] rfl h
  obtain ⟨c, k, i, f, a0, cell, hc, hi, hst, ha, hcell, hs, hcls, hlt, hty⟩ := Cond.laysStatic_spec h1
  have hc' : U.vm.findClass C = some c := hc
  have hi' : U.fieldFound? C n d = some (c, k, i, f) := hi
  have hcell' : U.heap[a0]? = some cell := hh a0 cell hcell hs
  simp [Cond.before, Cond.holds, Cond.value, hc', hi', ha, hcell', hst, hs, hcls, hlt, hty]
theorem ex_isr {s U : State} {C n d : String} (hW : s.WarmedH U.vm) (hh : ∀ (a : Nat) (cell : Cell), s.heap[a]? = some cell → cell.vm.isStatics = true → U.heap[a]? = some cell) (a : Array Value) (hl : (Cond.laysStatic C n d).before a s = true) (h : (Cond.isRef (.static C n d)).before a s = true) : (Cond.isRef (.static C n d)).before a U = true := by
  have h1 := Cond.holds_shifted (State.Shifted.of_warmed hW) (.laysStatic C n d) [] rfl hl
  have h2 := Cond.holds_shifted (State.Shifted.of_warmed hW) (.isRef (.static C n d)) [] rfl h
  obtain ⟨c, k, i, f, a0, cell, hc, hi, hst, ha, hcell, hs, hcls, hlt, hty⟩ := Cond.laysStatic_spec h1
  have hi' : U.fieldFound? C n d = some (c, k, i, f) := hi
  have hcell' : U.heap[a0]? = some cell := hh a0 cell hcell hs
  simp only [Cond.holds, Cond.value, Term.eval, State.fieldNamed?, hi, hst, ha, hcell, hs, Option.bind_eq_bind, Option.bind_some, beq_self_eq_true, if_true, Option.pure_def] at h2
  simp only [Cond.before, Cond.holds, Cond.value, Term.eval, State.fieldNamed?, hi', hst, ha, hcell', hs, Option.bind_eq_bind, Option.bind_some, beq_self_eq_true, if_true, Option.pure_def]
  exact h2
theorem ex_move {s U : State} (hW : s.WarmedH U.vm) (hh : ∀ (a : Nat) (cell : Cell), s.heap[a]? = some cell → cell.vm.isStatics = true → U.heap[a]? = some cell) (h : ex_ s) : ex_ U := by
  obtain ⟨h1, h2, h3⟩ := h
  have face : ∀ w : Cond, w.keepsFace = true → w.onTables = true → (∀ a, w.before a s = true) → ∀ a, w.before a U = true := fun w g1 g2 g3 a => by
    have g := Cond.before_shiftedFace (args := a) (State.Shifted.of_warmed hW) w g1 (g3 a)
    rw [Cond.onTables_vm (A' := a) (U' := U) U.vm w g2, State.setVm_self] at g
    exact g
  refine ⟨?_, fun q hq a => ?_, fun a => ?_⟩
  · unfold fxL at h1 ⊢
    simp only [List.forall_mem_cons, List.not_mem_nil, false_implies, implies_true, and_true] at h1 ⊢
    obtain ⟨w1, w2, w3, w4, w5, w6, w7, w8, w9⟩ := h1
    exact ⟨face _ rfl rfl w1, face _ rfl rfl w2, face _ rfl rfl w3, face _ rfl rfl w4, face _ rfl rfl w5, fun a => ex_lays hW hh a (w6 a), fun a => ex_lays hW hh a (w7 a), fun a => ex_isr hW hh a (w6 a) (w8 a), fun a => ex_isr hW hh a (w7 a) (w9 a)⟩
  · exact Cond.stringRef_warmed hW (h2 q hq a)
  · have g := Cond.holds_not_iff.mp (h3 a)
    refine Cond.holds_not_iff.mpr ?_
    simp only [Cond.value, hW.alike.findClass, hW.alike.assignable] at g ⊢
    exact g
/-- a throw's site -/
def th_site (cc : ByteArray) (pc : Nat) (r : Int32) : Prop := ∃ (ic k kc : Nat) (text : String), (decode cc pc = .ok (.new ic, 3) ∧ decode cc (pc + 3) = .ok (.dup, 1) ∧ decode cc (pc + 4) = .ok (.ldc k, 2) ∧ decode cc (pc + 6) = .ok (.invokespecial kc, 3) ∧ decode cc (pc + 9) = .ok (.athrow, 1)) ∧
  Cond.classLink RX7 ic (thc r) ∈ WG ∧ Cond.instantiable (thc r) 6 ∈ WG ∧ Cond.initialized (thc r) ∈ WG ∧ (k, text) ∈ srL ∧ (∀ w ∈ Bundle.ownAtoms RX7 kc (thc r) up_, w ∈ WG ∨ w ∈ fxL) ∧ Bundle.fit (thc r) = true
theorem oa_of {L : List Cond} (h : L.all (fun w => (decide (w ∈ lw_tbl) && goodWord w) || decide (w ∈ fxL)) = true) : ∀ w ∈ L, w ∈ WG ∨ w ∈ fxL := fun w hw => by
  have h1 := List.all_eq_true.mp h w hw
  simp only [Bool.or_eq_true, Bool.and_eq_true, decide_eq_true_eq] at h1
  exact h1.imp (fun z => wg_in z.1 z.2) id
set_option maxRecDepth 100000 in
theorem oa_1 : ∀ w ∈ Bundle.ownAtoms RX7 56 (thc 1) up_, w ∈ WG ∨ w ∈ fxL := oa_of (by decide +kernel)
set_option maxRecDepth 100000 in
theorem oa_2 : ∀ w ∈ Bundle.ownAtoms RX7 91 (thc 2) up_, w ∈ WG ∨ w ∈ fxL := oa_of (by decide +kernel)
theorem ts_X7_begin_11 : th_site cX7_begin 11 1 := ⟨52, 54, 56, "a chain has 1 to 40 states", ⟨dX7_begin_11, dX7_begin_14, dX7_begin_15, dX7_begin_17, dX7_begin_20⟩, q_448, q_449, q_13, by decide +kernel, oa_1, by decide +kernel⟩
theorem ts_X7_whole_11 : th_site cX7_whole 11 1 := ⟨52, 67, 56, "there is no such state", ⟨dX7_whole_11, dX7_whole_14, dX7_whole_15, dX7_whole_17, dX7_whole_20⟩, q_448, q_449, q_13, by decide +kernel, oa_1, by decide +kernel⟩
theorem ts_X7_whole_32 : th_site cX7_whole 32 1 := ⟨52, 70, 56, "a whole is 1 to 999999999", ⟨dX7_whole_32, dX7_whole_35, dX7_whole_36, dX7_whole_38, dX7_whole_41⟩, q_448, q_449, q_13, by decide +kernel, oa_1, by decide +kernel⟩
theorem ts_X7_part_22 : th_site cX7_part 22 1 := ⟨52, 79, 56, "there is no such state or target", ⟨dX7_part_22, dX7_part_25, dX7_part_26, dX7_part_28, dX7_part_31⟩, q_448, q_449, q_13, by decide +kernel, oa_1, by decide +kernel⟩
theorem ts_X7_part_42 : th_site cX7_part 42 1 := ⟨52, 81, 56, "a part is 0 to 999999999", ⟨dX7_part_42, dX7_part_45, dX7_part_46, dX7_part_48, dX7_part_51⟩, q_448, q_449, q_13, by decide +kernel, oa_1, by decide +kernel⟩
theorem ts_X7_part_69 : th_site cX7_part 69 2 := ⟨87, 89, 91, "the parts would be above the whole", ⟨dX7_part_69, dX7_part_72, dX7_part_73, dX7_part_75, dX7_part_78⟩, q_552, q_553, q_14, by decide +kernel, oa_2, by decide +kernel⟩
/-- a method's start where nothing is written -/
def prp_ (D : va_G) (cT : Nat → ClassId) (ws : va_W) (sz : Nat) (U : State) : Prop := U.heap.size = sz ∧ va_P D vwCl ws U.heap ∧ va_K D vwCl (ty_ cT) U ∧ nw_ U
def prx_ (D : va_G) (cT : Nat → ClassId) (ws : va_W) (sz : Nat) (U : State) : Prop := prp_ D cT ws sz U ∧ ex_ U
theorem prp_blind {av : List Value} {D : va_G} {cT : Nat → ClassId} {ws : va_W} {sz : Nat} : FrameBlind (va_Pc av (prp_ D cT ws sz)) := fun a U g mk q => by
  obtain ⟨q0, q1, qP, qK, qN⟩ := q
  exact ⟨q0, q1, qP, va_K.moved (u := U) (U := U.calling g mk a) (Vm.Alike.refl U.vm) qK, nw_same (u := U) (U := U.calling g mk a) rfl qN⟩
theorem prp_mk {s U : State} {H : Heap} {D : va_G} {cT : Nat → ClassId} {ws : va_W} (hU : U.heap = H) (hW : s.WarmedH U.vm) (hP : va_P D vwCl ws H) (hK : va_K D vwCl (ty_ cT) s) (hN : nw_ s) : prp_ D cT ws H.size U :=
  ⟨by rw [hU], by rw [hU]; exact hP, va_K.moved hW.alike hK, nw_warm hW hN⟩
theorem pw_keep {D : va_G} {cl : List vw_C} {ws : va_W} {H H1 : Heap} (hP : va_P D cl ws H) (h : ∀ q : Nat, q < H.size → H1[q]? = H[q]?) : va_P D cl ws H1 := fun k q hq => by
  have h0 := hP k q hq
  obtain ⟨a, v⟩ := q
  cases v with
  | inl z =>
    have h1 : H[a]? = some (vp_cell z.1 z.2) := h0
    show H1[a]? = some (vp_cell z.1 z.2)
    rw [h a (Array.getElem?_eq_some_iff.mp h1).1]
    exact h1
  | inr z =>
    obtain ⟨r, hr, cell, h1, h2⟩ := h0
    refine ⟨r, hr, cell, ?_, h2⟩
    rw [h a (Array.getElem?_eq_some_iff.mp h1).1]
    exact h1
/-- what a throw leaves: a new cell, all old ones as they were -/
def qt_ (post : Int32 → Prop) : Array Value → State → Outcome → State → Prop := fun _ st o t => ∃ (x : Addr) (r : Int32) (L : List Loc), o = .threw x ∧ post r ∧ (st.WarmedH t.vm ∧ st.sameButNew ({ t with vm := st.vm } : State) L 1 6) ∧ (∀ q ∈ L, st.heap.size ≤ q.base) ∧ (∀ q : Nat, q < st.heap.size → t.heap[q]? = st.heap[q]?) ∧ ∃ ce : Cell, t.heap[x]? = some ce ∧ ce.vm = .none ∧ st.vm.findClass (thc r) = some ce.cls
def mq_ (below : List Frame) (post : Int32 → Prop) (s : State) : State → Prop := fun t => ∃ o, t.status = .running ∧ Ended t below o ∧ qt_ post #[] s o t
theorem mt_W {l : Launch} {y : MethodName} {ws ws' : List Cond} {rm : Room} {Pc : Array Value → State → Prop} {post : Int32 → Prop} {cc : ByteArray} {maxL : Nat} {ret : Option FieldType}
    (hy : plainName y.cls = true) (hw : ws = Cond.code y cc maxL ret :: ws')
    (body : ∀ p e s m args below meth c s₁, BodyLoose p l y (headSpec ws rm) cc maxL ret e s m args below meth c s₁ → c.maxLocals = maxL → Pc args s →
      W p l e (headSpec ws rm).room s m args below meth c s.heap [] 0 0 (mq_ below post s) (entryFrame m args maxL)) : MetFree l y (headSpec ws rm) Pc (fun _ _ _ _ _ => True) (qt_ post) := by
  refine MetFree.of_bodyS (code := cc) (maxLocals := maxL) (ret := ret) hy ?_ ?_
  · intro args s m h hn
    obtain ⟨meth, c, h1, h2, h3, h4, h5, h6, -, -⟩ := Cond.code_spec hn (atoms_spec (ws := ws) h _ (by rw [hw]; exact List.mem_cons_self))
    exact ⟨meth, c, h1, h2, h3, h4, h5, h6⟩
  · intro p e s m args below meth c s₁ B hml hP _
    have hh0 : s₁.heap = s.heap := by rw [B.state]; rfl
    obtain ⟨t, a1, o, b1, b2, b3⟩ := body p e s m args below meth c s₁ B hml hP s₁ hh0 (Stand.of_body B)
    exact ⟨t, o, a1, b1, b2, b3⟩
/-- nothing old is written: each old cell is as it was -/
theorem sb_same {s t : State} {L : List Loc} {k n : Nat} (h : s.sameButNew t L k n) (hL : ∀ q ∈ L, s.heap.size ≤ q.base) : ∀ q : Nat, q < s.heap.size → t.heap[q]? = s.heap[q]? := fun q hq => by
  obtain ⟨c, hc⟩ : ∃ c, s.heap[q]? = some c := ⟨_, Array.getElem?_eq_getElem hq⟩
  obtain ⟨c', h1, h2, h3, h4⟩ := h.2.2.2.2.2 q c hc
  rw [h1, hc]
  have e : c'.slots = c.slots := by
    apply Array.ext_getElem?
    intro i
    exact h4 i (fun hm => by have := hL _ hm; exact absurd hq (Nat.not_lt.mpr this))
  rw [e] at h2
  rw [h2]
theorem th_throw {p : Program} {l : Launch} {e : Env} {R : Room} {s : State} {m : MethodId} {args : Array Value} {below : List Frame} {meth : Method} {c : Code} {cc : ByteArray} {nL : Nat} {H : Heap} {locs : List Loc} {pc : Nat} {r : Int32} {ls : Array Slot} {post : Int32 → Prop} (hfl : l.flags = pinnedFlags ++ [noTraceFlag])
    (hx : p.tables.exec = Jvm.exec) (hb : c.code = cc) (hml : c.maxLocals = nL) (hown : s.vm.findClass RX7 = some m.cls) (hts : ∀ w ∈ WG, w.before args s = true) (hlocks : meth.locks = false) (hcov : c.exceptionTable.isEmpty = true) (hex : ex_ s)
    (hS : va_S (fun q => s.heap.size ≤ q) s.heap H locs) (hd : th_site cc pc r) (hz : ls.size = nL) (hp : post r) (hR : 0 + 1 ≤ R.cells ∧ 0 + 6 ≤ R.slots ∧ 5 < R.frames ∧ 82 ≤ R.locals := by decide) : W p l e R s m args below meth c H locs 0 0 (mq_ below post s) (F0 m pc ls []) := by
  obtain ⟨ic, k, kc, text, ⟨d0, d1, d2, d3, d4⟩, hcl, hin, hini, hsr, hoa, hfit⟩ := hd
  refine W.newc hx hb hown (hts _ hcl) (hts _ hin) (hts _ hini) rfl d0 hR.1 hR.2.1 (fun cX kX hfX hkX hkind hsz => ?_)
  refine W.eq (g2 := F0 m (pc + 3) ls [.ref H.size]) rfl ?_
  refine lv_dup hx hb d1 rfl ?_
  intro T hT X
  have htr := Launch.traces_off hfl X.admits
  have hconst := hex.2.1 _ hsr args
  obtain ⟨-, -, -, sa, -, -, -, -, -, hev⟩ := Cond.stringRef_spec hown hconst
  have hHs : s.heap.size ≤ H.size := hS.1
  subst hb
  obtain ⟨U, hsteps, hrun, hend, hW, hsame, ce, hce, K⟩ := X.ctorThrowS hx htr (own := RX7) (cls := thc r) (names := up_) (ic := kc) hown hfit (by decide +kernel)
    (fun w hw => (hoa w hw).elim (hts w) (fun z => hex.1 w z args)) (fun q hq cell hc => absurd (hS.2.2 q hq) (by have := (Array.getElem?_eq_some_iff.mp hc).1; exact Nat.not_le.mpr this)) hfX hkX (a := H.size) (by rw [hT]; simp [freshCell]) hHs (msg := .ref sa) rfl
    (g := F0 m (pc + 6) ls [.ref sa, .ref H.size, .ref H.size]) rfl (hz.trans hml.symm) rfl rfl (rest := []) rfl d3 d4 (covers_of_empty hcov _) hR.2.2.1 (by show 2 * 0 + (1 + 0) + (13 * (2 + 1) + 42) ≤ R.locals; exact hR.2.2.2)
  refine ⟨U, X.ldcString hx (own := RX7) (text := text) (index := k) (a := sa) hown hconst hev (g := F0 m (pc + 4) ls [.ref H.size, .ref H.size]) rfl d2 _ hsteps, .threw H.size, hrun, hend, H.size, r, locs, rfl, hp, ⟨hW, hsame⟩, hS.2.2, ?_, ce, hce, K.vm, K.cls⟩
  exact sb_same (t := ({ U with vm := s.vm } : State)) hsame hS.2.2
