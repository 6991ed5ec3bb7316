/-! a call that throws, and the handler that catches it -/
section
variable {p : Program} {l : Launch} {e : Env} {R : Room} {s : State} {m : MethodId} {args : Array Value} {below : List Frame} {meth : Method} {c : Code} {H : Heap} {locs : List Loc} {cells slots : Nat} {Q : State → Prop}
/-- the callee's throw lies over the caller's frame, in a state of which the caller knows what it knew -/
theorem thr_go {y : MethodName} {bytes : ByteArray} {maxL n index : Nat} {ret : Option FieldType} {own : String} {rm : Room} {Pc : Array Value → State → Prop} {post : Int32 → Prop} (cb : CallB R s args own index y bytes maxL ret (Cond.code y bytes maxL ret :: WG) rm 1 6 n) (hM : MetFree l y (headSpec (Cond.code y bytes maxL ret :: WG) rm) Pc (fun _ _ _ _ _ => True) (qt_ post)) (hbl : FrameBlind Pc)
    {U : State} (X : Stand p l e R s m args below meth c U locs cells slots) {g : JFrame} (hg : g.method = m) (hsize : g.locals.size = c.maxLocals) {ig : Instr} (hdg : decode c.code g.pc = .ok (ig, 3)) (hst : 2 * g.monitorRoom + (g.stack.map fun v => v.category).sum ≤ 8) {mk : MethodId} (hn : U.methodNamed? y = some mk) {a : Array Value} (hf : cells + 1 ≤ R.cells ∧ slots + 6 ≤ R.slots) (hP : Pc a U) :
    ∃ (x : Addr) (r : Int32) (V : State) (L : List Loc) (ce : Cell), Stand p l e R s m args below meth c V (locs ++ L) (cells + 1) (slots + 6) ∧ post r ∧ (∀ q ∈ L, U.heap.size ≤ q.base) ∧ U.heap.size ≤ V.heap.size ∧ (∀ q : Nat, q < U.heap.size → V.heap[q]? = U.heap[q]?) ∧ V.heap[x]? = some ce ∧ ce.vm = .none ∧ s.vm.findClass (thc r) = some ce.cls ∧
      Steps p.tables e below (doInvoke e (U.setTop g) [] mk a).1 ((V.setTop g).pushFrame (.throwing x)) := by
  subst hg
  obtain ⟨hrc, hrs, hfr, hlo, hws, hcw, -, hini, -⟩ := cb
  obtain ⟨my, cy, hmy, hcy, -, hly, -⟩ := Cond.code_spec hn (hws _ hcw a U X.warmed)
  obtain ⟨ky, hky, -⟩ := className_of_methodNamed hn
  have hrdy : ky.init = .initialized := Cond.initialized_spec (findClass_of_methodNamed hn) hky (word_at (a' := a) X.warmed (Or.inl (by first | rfl | simp [Cond.onTables, Cond.keeps, Cond.steady])) hini)
  have hgo : (headSpec (Cond.code y bytes maxL ret :: WG) rm).appliesLoose y e.platform (U.calling g mk a) = true :=
    Spec.appliesLoose_calling (g := g) X.here hdg hn hky hrdy
      (X.room_calling (g := g) (R' := (headSpec (Cond.code y bytes maxL ret :: WG) rm).room) hsize hmy hcy hfr (by rw [hly]; show _ + rm.locals ≤ R.locals; omega) (by show cells + rm.cells ≤ R.cells; rw [hrc]; exact hf.1) (by show slots + rm.slots ≤ R.slots; rw [hrs]; exact hf.2))
      (atoms_intro fun w hw => hws w hw a U X.warmed)
  obtain ⟨mid, hmid⟩ := X.here.above
  obtain ⟨o, t, hrun, -, hend, hq⟩ := Steps.callFree hM p X.admits X.cas X.clock (acts := []) (show (U.setTop g).frames = (.java g :: mid) ++ below by rw [State.frames_setTop' g X.here.top, hmid]; rfl) hgo (hbl _ _ _ _ hP) trivial
  have hq : qt_ post a (U.calling g mk a) o t := hq
  obtain ⟨x, r, L, rfl, hr, ⟨hW, hsm⟩, hL, hold, ce, hx, hv, hcls⟩ := hq
  rw [State.frames_setTop' g X.here.top] at hend
  have hfr2 : t.frames = .throwing x :: .java g :: U.frames.tail := hend
  have hWU : U.WarmedH t.vm := hW
  obtain ⟨g0, hg0⟩ := Option.isSome_iff_exists.mp X.here.top
  obtain ⟨rs, hrs0⟩ := State.topJava?_eq_some.mp hg0
  obtain ⟨t0, ht0, -⟩ := State.frames_cons hrs0
  -- the state behind, as the caller's own state with the callee's heap and tables
  obtain ⟨V, hV⟩ : ∃ V : State, V = ({ U with heap := t.heap, slotsUsed := t.slotsUsed } : State).setVm t.vm := ⟨_, rfl⟩
  have hVt : t = (V.setTop g).pushFrame (.throwing x) := by
    have e1 : t = ({ t with vm := (U.calling g mk a).vm } : State).setVm t.vm := rfl
    rw [hsm.1] at e1
    refine e1.trans ?_
    have hrv : V.frames = .java g0 :: rs := by rw [hV]; exact hrs0
    have e2 : ({ t with vm := (U.calling g mk a).vm } : State).frames = .throwing x :: .java g :: U.frames.tail := hfr2
    rw [e2, State.calling_eq X.here.top, State.setFrames_setFrames, State.pushFrame, State.frames_setTop _ hrv, State.setTop_of_frames _ hrv, State.setFrames_setFrames, hrs0, hV]
    rfl
  have hsame : U.sameButNew ({ U with heap := t.heap, slotsUsed := t.slotsUsed } : State) L 1 6 := by
    refine ⟨?_, hsm.2⟩
    show ({ U with heap := t.heap, slotsUsed := t.slotsUsed } : State) = { U.setFrames U.frames with heap := t.heap, slotsUsed := t.slotsUsed }
    rw [State.setFrames_self ht0]
  refine ⟨x, r, V, L, ce, ?_, hr, hL, ?_, ?_, ?_, hv, ?_, ?_⟩
  · rw [hV]
    exact ⟨X.admits, X.cas, X.clock, X.frames, X.room, X.hears, X.method, X.code, (X.here.setHeapUsed t.heap t.slotsUsed).setVm hWU.alike, X.tail, State.WarmedH.trans X.warmed hWU, X.limits, X.bytes, X.same.trans (hsame.setVm s.vm)⟩
  · rw [hV]; exact hsm.2.1
  · rw [hV]; exact hold
  · rw [hV]; exact hx
  · have h9 : U.vm.findClass (thc r) = some ce.cls := hcls
    rw [X.warmed.alike.findClass] at h9
    exact h9
  · rw [← hVt]; exact hrun
/-- one row of a table that covers the pc: its class is resolved, then it catches, or the search goes on -/
theorem fh_row {S : State} {f : JFrame} {a : Addr} {x : ExceptionTableEntry} {rest : List ExceptionTableEntry} {cl : ClassId} {cell : Cell} {Z : Handler → Pre} {E : CtlPost} {d : Bool} {acts : List Action} (hx : covers x f.pc = true) (h0 : x.catchType ≠ 0) (hl : S.vm.ClassLinks e.platform f.method.cls x.catchType cl) (hcell : S.heap[a]? = some cell) (hobj : ∀ k, cell.vm ≠ .statics k)
    (hk : ∃ k, S.vm.classes[cell.cls]? = some k) (hc : ∃ k, S.vm.classes[cl]? = some k) :
    wp (findHandler.go f a (x :: rest)) Z E e d acts S ↔ if S.vm.assignable cell.cls cl = true then Z (.found x.handlerPc) d acts (S.setVm (S.vm.noted f.method.cls x.catchType (.cls cl))) else wp (findHandler.go f a rest) Z E e d acts (S.setVm (S.vm.noted f.method.cls x.catchType (.cls cl))) := by
  simp only [covers] at hx
  obtain ⟨r1, r2⟩ := (resolveClass_links e.toSetting hl).op (op := VmOp.resolveClass f.method.cls x.catchType) rfl
  have hal : S.vm.Alike (S.vm.noted f.method.cls x.catchType (.cls cl)) := (Vm.Alike.refl S.vm).noted _ _ _
  obtain ⟨ka, hka⟩ := hk
  obtain ⟨kb, hkb⟩ := hc
  obtain ⟨ka', hka', -⟩ := hal.2.2 _ _ hka
  obtain ⟨kb', hkb', -⟩ := hal.2.2 _ _ hkb
  have hfit : (S.vm.noted f.method.cls x.catchType (.cls cl)).assignable cell.cls cl = S.vm.assignable cell.cls cl := hal.assignable _ _
  cases hq : S.vm.assignable cell.cls cl <;> rw [hq] at hfit <;> simp [findHandler.go, hx, h0, r1, r2, hcell, hobj, hka', hkb', hfit, VmOp.dirties, VmOp.acts]
/-- the search through the rest of a method's table, from a state whose tables are the start's or warmer: it ends at a handler, and has only warmed them -/
def fhd_ (e : Env) (s S : State) (f : JFrame) (a : Addr) (rows : List ExceptionTableEntry) (hp : Nat) : Prop := ∃ vm', s.WarmedH vm' ∧ ∀ (Z : Handler → Pre) (E : CtlPost) (d : Bool) (acts : List Action), wp (findHandler.go f a rows) Z E e d acts S ↔ Z (.found hp) d acts (S.setVm vm')
theorem fh_hit {S : State} {f : JFrame} {a : Addr} {x : ExceptionTableEntry} {rest : List ExceptionTableEntry} {own name : String} {cell : Cell} {cT : ClassId} (hpl : e.platform.magicAccessors = ({} : Platform).magicAccessors) (hown : s.vm.findClass own = some f.method.cls) (hx : covers x f.pc = true) (h0 : x.catchType ≠ 0) (hlink : (Cond.classLink own x.catchType name).before args s = true) (hcT : s.vm.findClass name = some cT) (hW : s.WarmedH S.vm) (hcell : S.heap[a]? = some cell) (hobj : cell.vm.isStatics = false) (hfit : s.vm.assignable cell.cls cT = true) : fhd_ e s S f a (x :: rest) x.handlerPc := by
  obtain ⟨c', hc', hcl⟩ := Cond.classLink_spec hown hlink e.platform hpl
  cases hcT.symm.trans hc'
  obtain ⟨dk, _, _, kt, hd, _, _, _, _, hkt, _, hopen⟩ := hcl.here
  obtain ⟨kt', hkt', -⟩ := hW.alike.2.2 _ _ hkt
  have hfit' : S.vm.assignable cell.cls cT = true := by rw [hW.alike.assignable]; exact hfit
  refine ⟨_, hW.noted hd hopen (State.rightAt_cls hcl), fun Z E d acts => ?_⟩
  rw [fh_row hx h0 (hW.classLinks hcl) hcell (VmData.ne_statics_of hobj) (Vm.classAt_of_assignable hfit' ⟨kt', hkt'⟩) ⟨kt', hkt'⟩, if_pos hfit']
theorem fh_miss {S : State} {f : JFrame} {a : Addr} {x : ExceptionTableEntry} {rest : List ExceptionTableEntry} {hp : Nat} {own name tn : String} {cell : Cell} (hpl : e.platform.magicAccessors = ({} : Platform).magicAccessors) (hown : s.vm.findClass own = some f.method.cls) (hx : covers x f.pc = true) (h0 : x.catchType ≠ 0) (hlink : (Cond.classLink own x.catchType name).before args s = true) (htn : s.vm.findClass tn = some cell.cls) (hno : (Cond.not (.castable tn name)).before args s = true) (hW : s.WarmedH S.vm) (hcell : S.heap[a]? = some cell) (hobj : cell.vm.isStatics = false)
    (hrest : ∀ vm', s.WarmedH vm' → fhd_ e s (S.setVm vm') f a rest hp) : fhd_ e s S f a (x :: rest) hp := by
  obtain ⟨c', hc', hcl⟩ := Cond.classLink_spec hown hlink e.platform hpl
  have hv := Cond.holds_not_iff.mp hno
  simp only [Cond.value, htn, hc'] at hv
  have hno' : s.vm.assignable cell.cls c' = false := Option.some.inj hv
  obtain ⟨dk, _, _, kt, hd, _, _, _, _, hkt, _, hopen⟩ := hcl.here
  obtain ⟨kt', hkt', -⟩ := hW.alike.2.2 _ _ hkt
  obtain ⟨kx, hkx⟩ := Vm.classAt_of_findClass htn
  obtain ⟨kx', hkx', -⟩ := hW.alike.2.2 _ _ hkx
  have hno2 : S.vm.assignable cell.cls c' = false := by rw [hW.alike.assignable]; exact hno'
  obtain ⟨vm2, hW2, h2⟩ := hrest _ (hW.noted hd hopen (State.rightAt_cls hcl))
  refine ⟨vm2, hW2, fun Z E d acts => ?_⟩
  rw [fh_row hx h0 (hW.classLinks hcl) hcell (VmData.ne_statics_of hobj) ⟨kx', hkx'⟩ ⟨kt', hkt'⟩, if_neg (by rw [hno2]; decide), h2]
  exact Iff.rfl
/-- from the note of a throw to the handler -/
theorem cs_ {U : State} (X : Stand p l e R s m args below meth c U locs cells slots) {a : Addr} {g : JFrame} (hg : g.method = m) {hp : Nat} (hfind : fhd_ e s ((U.setTop g).pushFrame (.throwing a)) g a c.exceptionTable.toList hp) :
    ∃ vm', Stand p l e R s m args below meth c (U.setVm vm') locs cells slots ∧ Steps p.tables e below ((U.setTop g).pushFrame (.throwing a)) ((U.setVm vm').setTop { g with pc := hp, stack := [.ref a] }) := by
  subst hg
  obtain ⟨vm', hW, h⟩ := hfind
  refine ⟨vm', X.noted hW, ?_⟩
  have hall : ∀ (Z : Handler → Pre) (E : CtlPost) (d : Bool) (acts : List Action), wp (findHandler g a) Z E e d acts ((U.setTop g).pushFrame (.throwing a)) ↔ Z (.found hp) d acts (((U.setTop g).pushFrame (.throwing a)).setVm vm') := fun Z E d acts => by
    exact (W.findHandler_eq (s := (U.setTop g).pushFrame (.throwing a)) (meth := meth) (code := c) X.method' X.code).trans (h Z E d acts)
  obtain ⟨hgo, hw⟩ := X.here.throwing a
  refine Steps.head hgo hw ?_
  have hstep : (stepThrowing e ((U.setTop g).pushFrame (.throwing a)) a (.java g :: U.frames.tail)).1 = (((U.setTop g).pushFrame (.throwing a)).setVm vm').setFrames (.java { g with pc := hp, stack := [.ref a] } :: U.frames.tail) := by
    simp only [stepThrowing, searchFrame, vmDo]
    generalize hr : Sem.go _ e false [] ((U.setTop g).pushFrame (.throwing a)) = res
    obtain ⟨as, rfl, -⟩ := Sem.eq_ok_of hr (a := Handler.found hp) (s' := ((U.setTop g).pushFrame (.throwing a)).setVm vm') (acts' := []) (by simp [hall])
    rfl
  rw [stepThread_throwing (frames_entered X.here.top _), hstep]
  obtain ⟨g0, hg0⟩ := Option.isSome_iff_exists.mp X.here.top
  obtain ⟨rs, hrs0⟩ := State.topJava?_eq_some.mp hg0
  have hr2 : (U.setVm vm').frames = .java g0 :: rs := hrs0
  have e1 : (((U.setTop g).pushFrame (.throwing a)).setVm vm').setFrames (.java { g with pc := hp, stack := [.ref a] } :: U.frames.tail) = (U.setVm vm').setTop { g with pc := hp, stack := [.ref a] } := by
    rw [State.setTop_of_frames _ hr2, hrs0, State.setTop_of_frames _ hrs0]
    show ((((U.setFrames _).setFrames _).setVm vm').setFrames _) = _
    rw [State.setFrames_setFrames]
    show ((U.setVm vm').setFrames _).setFrames _ = _
    rw [State.setFrames_setFrames]
    rfl
  rw [e1]
  exact Steps.refl _
theorem tc_call {y : MethodName} {bytes cc : ByteArray} {maxL nL n index pc : Nat} {ret : Option FieldType} {own C : String} {rm : Room} {Pc : Array Value → State → Prop} {post : Int32 → Prop} {b : Nat} {As rest : List Value} {ls : Array Slot} {A : Nat → Prop} {hpc : Int32 → Nat}
    (S : CallFix p m c cc nL s args WG own) (hM : MetFree l y (headSpec (Cond.code y bytes maxL ret :: WG) rm) Pc (fun _ _ _ _ _ => True) (qt_ post)) (cw : CallW R s args own C index y bytes maxL ret (Cond.code y bytes maxL ret :: WG) rm 1 6 n) (hp : PreV s H C b Pc As)
    (hn : As.length = n) (hsize : ls.size = nL) (hW : (rest.map fun v => v.category).sum ≤ 8) (hdg : decode cc pc = .ok (.invokevirtual index, 3)) (hf : cells + 1 ≤ R.cells ∧ slots + 6 ≤ R.slots) (hS : va_S A s.heap H locs) (hA : ∀ q, s.heap.size ≤ q → A q)
    (hcat : ∀ (r : Int32) (a : Addr) (ce : Cell) (V : State), e.platform.magicAccessors = ({} : Platform).magicAccessors → post r → s.vm.findClass (thc r) = some ce.cls → V.heap[a]? = some ce → ce.vm = .none → s.WarmedH V.vm → fhd_ e s V (F0 m pc ls rest) a c.exceptionTable.toList (hpc r))
    (kk : ∀ (r : Int32) (a : Nat) (H1 : Heap) (locs1 : List Loc), post r → (∀ q : Nat, q < H.size → H1[q]? = H[q]?) → va_S A s.heap H1 locs1 → W p l e R s m args below meth c H1 locs1 (cells + 1) (slots + 6) Q (F0 m (hpc r) ls [.ref a])) : W p l e R s m args below meth c H locs cells slots Q (F0 m pc ls (As.reverse ++ .ref b :: rest)) := by
  obtain ⟨hx, hb, hml, ho, -⟩ := S
  obtain ⟨hbl, ⟨cellB, hcB, hoB, hclB⟩, hPc⟩ := hp
  intro T hT X
  have hpl : e.platform.magicAccessors = ({} : Platform).magicAccessors := by rw [X.admits.platform]
  obtain ⟨cb, hin, hse⟩ := cw
  obtain ⟨-, -, -, -, -, -, hcode, -, hy, hlen, hl⟩ := id cb
  obtain ⟨mk, methM, hnamed, hmethM, hstM, habM⟩ := Cond.instanceMethod_spec hin
  obtain ⟨methM', cM, hmethM', -, -, -, -, -, -, hsigM⟩ := Cond.code_spec hnamed hcode
  cases hmethM.symm.trans hmethM'
  obtain ⟨c2, r2, m2, q1, q2, q3, q4, kP, hkP, hkPi⟩ := Cond.selects_spec hse
  cases hclB.symm.trans q1
  cases (State.methodFound?_of_named hnamed hy).symm.trans q2
  cases hnamed.symm.trans q3
  have hselP : selectMethod e.platform s.vm cellB.cls mk = .method mk := by rw [Launch.admits_selectMethod X.admits]; exact q4
  have hdg' : decode c.code pc = .ok (.invokevirtual index, 3) := by rw [hb]; exact hdg
  obtain ⟨vm₁, X₁, hstep₁⟩ := X.invokevirtual hx ho hl hnamed hmethM hstM hkP hkPi hy (a := b) (cell := cellB) (by rw [hT]; exact hcB)
    (fun z h => by rw [h] at hoB; cases hoB) hselP hmethM habM hkP hkPi (g := F0 m pc ls (As.reverse ++ .ref b :: rest)) rfl (argsL := As) (rest := rest) (hn.trans (hlen _ hsigM)) rfl hdg'
  obtain ⟨x, r, V, L, ce, XV, hr, hL, hsz, hold, hcex, hcev, hcls, hst⟩ := thr_go cb hM hbl X₁ (g := F0 m pc ls rest) rfl (hsize.trans hml.symm) hdg' (by show 2 * 0 + (rest.map fun v => v.category).sum ≤ 8; omega) (X₁.named hnamed) (a := (Value.ref b :: As).toArray) hf (hPc (T.setVm vm₁) hT X₁.warmed)
  have hTh : (T.setVm vm₁).heap = H := hT
  rw [hTh] at hL hsz hold
  obtain ⟨vm2, XW, hst2⟩ := cs_ XV (a := x) (g := F0 m pc ls rest) rfl (hcat r x ce ((V.setTop (F0 m pc ls rest)).pushFrame (.throwing x)) hpl hr hcls hcex hcev XV.warmed)
  obtain ⟨t2, a1, b1⟩ := kk r x V.heap (locs ++ L) hr hold ⟨Nat.le_trans hS.1 hsz, fun q g1 g2 => by rw [hold q (Nat.lt_of_lt_of_le g1 hS.1)]; exact hS.2.1 q g1 g2, fun q hq => by
      rcases List.mem_append.mp hq with h | h
      · exact hS.2.2 q h
      · exact hA _ (Nat.le_trans hS.1 (hL q h))⟩ (V.setVm vm2) rfl XW
  exact ⟨t2, (hstep₁ _ fun acts => by rw [doInvoke_state]; exact hst.trans hst2).trans a1, b1⟩
end
