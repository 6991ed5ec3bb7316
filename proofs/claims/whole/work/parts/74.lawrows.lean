/-! rows for the law's three catching methods -/
theorem tab_1 {L : List ExceptionTableEntry} {a b d f : Nat} (e : L.map (fun h => (h.startPc, h.endPc, h.handlerPc, h.catchType)) = [(a, b, d, f)]) : L = [⟨a, b, d, f⟩] := by
  match L, e with
  | [x], e =>
    simp only [List.map_cons, List.map_nil, List.cons.injEq, Prod.mk.injEq, and_true] at e
    obtain ⟨rfl, rfl, rfl, rfl⟩ := e
    rfl
  | [], e => simp at e
  | _ :: _ :: _, e => simp at e
theorem tab_2 {L : List ExceptionTableEntry} {a b d f a' b' d' f' : Nat} (e : L.map (fun h => (h.startPc, h.endPc, h.handlerPc, h.catchType)) = [(a, b, d, f), (a', b', d', f')]) : L = [⟨a, b, d, f⟩, ⟨a', b', d', f'⟩] := by
  match L, e with
  | [x, y], e =>
    simp only [List.map_cons, List.map_nil, List.cons.injEq, Prod.mk.injEq, and_true] at e
    obtain ⟨⟨rfl, rfl, rfl, rfl⟩, rfl, rfl, rfl, rfl⟩ := e
    rfl
  | [], e => simp at e
  | [_], e => simp at e
  | _ :: _ :: _ :: _, e => simp at e
def exa_ (A : Nat → Prop) (s : State) : Prop := ex_ s ∧ ∀ (a : Nat) (cell : Cell), s.heap[a]? = some cell → cell.vm.isStatics = true → ¬ A a
theorem exa_at {A : Nat → Prop} {s U : State} {H : Heap} {locs : List Loc} (h : exa_ A s) (hU : U.heap = H) (hW : s.WarmedH U.vm) (hS : va_S A s.heap H locs) : ex_ U :=
  ex_move hW (fun a cell h1 h2 => by rw [hU, hS.2.1 a (Array.getElem?_eq_some_iff.mp h1).1 (h.2 a cell h1 h2)]; exact h1) h.1
theorem exa_of {D : va_G} {ws : va_W} {s : State} (hP : va_P D vwCl ws s.heap) (hex : ex_ s) : exa_ (va_A ws s.heap.size) s := by
  refine ⟨hex, fun a cell h1 h2 hA => ?_⟩
  rcases hA with ⟨k, v, hq⟩ | h
  · have h0 := hP k (a, v) hq
    cases v with
    | inl z =>
      have h3 : s.heap[a]? = some (vp_cell z.1 z.2) := h0
      rw [h1] at h3
      rw [Option.some.inj h3] at h2
      obtain ⟨z1, z2, z3⟩ := z
      rcases z3 with z3 | z3 | z3 | z3 | z3 <;> cases h2
    | inr z =>
      obtain ⟨r, hr, cell', h3, h4, h5, -⟩ := h0
      rw [h1] at h3
      rw [Option.some.inj h3, h5] at h2
      cases h2
  · exact absurd (Array.getElem?_eq_some_iff.mp h1).1 (Nat.not_lt.mpr h)
theorem prx_blind {av : List Value} {D : va_G} {cT : Nat → ClassId} {ws : va_W} {sz : Nat} : FrameBlind (va_Pc av (prx_ D cT ws sz)) := fun a U g mk q => by
  obtain ⟨q0, q1, q2⟩ := q
  have h := prp_blind (av := av) (D := D) (cT := cT) (ws := ws) (sz := sz) a U g mk ⟨q0, q1⟩
  exact ⟨h.1, h.2, ex_move (s := U) (U := U.calling g mk a) (State.WarmedH.refl U) (fun _ _ h _ => h) q2⟩
theorem prx_mk {s U : State} {H : Heap} {D : va_G} {cT : Nat → ClassId} {ws : va_W} {A : Nat → Prop} {locs : List Loc} (hU : U.heap = H) (hW : s.WarmedH U.vm) (hP : va_P D vwCl ws H) (hK : va_K D vwCl (ty_ cT) s) (hN : nw_ s) (X0 : exa_ A s) (hS : va_S A s.heap H locs) : prx_ D cT ws H.size U :=
  ⟨prp_mk hU hW hP hK hN, exa_at X0 hU hW hS⟩
def prxe_ (D : va_G) (cT : Nat → ClassId) (ws : va_W) (sz : Nat) (U : State) : Prop := pre_ D cT ws sz U ∧ ex_ U
theorem prxe_blind {av : List Value} {D : va_G} {cT : Nat → ClassId} {ws : va_W} {sz : Nat} : FrameBlind (va_Pc av (prxe_ D cT ws sz)) := fun a U g mk q => by
  obtain ⟨q0, q1, q2⟩ := q
  have h := pre_blind (av := av) (D := D) (cT := cT) (ws := ws) (sz := sz) a U g mk ⟨q0, q1⟩
  exact ⟨h.1, h.2, ex_move (s := U) (U := U.calling g mk a) (State.WarmedH.refl U) (fun _ _ h _ => h) q2⟩
theorem prxe_mk {s U : State} {H : Heap} {D : va_G} {cT : Nat → ClassId} {ws : va_W} {A B : Nat → Prop} {locs : List Loc} (hU : U.heap = H) (hW : s.WarmedH U.vm) (hP : va_P D vwCl ws H) (hK : va_K D vwCl (ty_ cT) s) (hD : va_D B ws) (hN : nw_ s) (X0 : exa_ A s) (hS : va_S A s.heap H locs) : prxe_ D cT ws H.size U :=
  ⟨pre_mk hU hW hP hK hD hN, exa_at X0 hU hW hS⟩
section
variable {p : Program} {l : Launch} {e : Env} {R : Room} {s : State} {m : MethodId} {args : Array Value} {below : List Frame} {meth : Method} {c : Code} {H : Heap} {locs : List Loc} {cells slots : Nat} {Q : State → Prop}
theorem cat_1 {pc hi hp : Nat} {post : Int32 → Prop} {ls : Array Slot} {rest : List Value} (hex : ex_ s) (hown : s.vm.findClass RL = some m.cls) (hlink : (Cond.classLink RL 13 nIA).before args s = true) (htab : c.exceptionTable.toList = [⟨0, hi, hp, 13⟩]) (hcv : pc < hi) (hr : ∀ r, post r → ¬ r = 2) :
    ∀ (r : Int32) (a : Addr) (ce : Cell) (V : State), e.platform.magicAccessors = ({} : Platform).magicAccessors → post r → s.vm.findClass (thc r) = some ce.cls → V.heap[a]? = some ce → ce.vm = .none → s.WarmedH V.vm → fhd_ e s V (F0 m pc ls rest) a c.exceptionTable.toList ((fun _ => hp) r) := by
  intro r a ce V hpl hp' hk hcell hvm hW
  rw [show thc r = nIA from if_neg (hr r hp')] at hk
  obtain ⟨c3, cT, hc3, hcT, hasg⟩ := Cond.castable_spec (hex.1 (.castable nIA nIA) (by simp [fxL]) args)
  cases hc3.symm.trans hk
  rw [htab]
  exact fh_hit (args := args) (x := ⟨0, hi, hp, 13⟩) hpl hown (by simp [covers, F0, hcv]) (show (13 : Nat) ≠ 0 by decide) hlink hcT hW hcell (by rw [hvm]; rfl) hasg
theorem cat_2 {pc hi hp hp' : Nat} {post : Int32 → Prop} {ls : Array Slot} {rest : List Value} (hex : ex_ s) (hown : s.vm.findClass RL = some m.cls) (hlink : (Cond.classLink RL 13 nIA).before args s = true) (hlink2 : (Cond.classLink RL 23 nIS).before args s = true) (htab : c.exceptionTable.toList = [⟨0, hi, hp, 13⟩, ⟨0, hi, hp', 23⟩]) (hcv : pc < hi) :
    ∀ (r : Int32) (a : Addr) (ce : Cell) (V : State), e.platform.magicAccessors = ({} : Platform).magicAccessors → post r → s.vm.findClass (thc r) = some ce.cls → V.heap[a]? = some ce → ce.vm = .none → s.WarmedH V.vm → fhd_ e s V (F0 m pc ls rest) a c.exceptionTable.toList ((fun r => if r = 2 then hp' else hp) r) := by
  intro r a ce V hpl _ hk hcell hvm hW
  rw [htab]
  by_cases h2 : r = 2
  · rw [show thc r = nIS from if_pos h2] at hk
    obtain ⟨c3, cT, hc3, hcT, hasg⟩ := Cond.castable_spec (hex.1 (.castable nIS nIS) (by simp [fxL]) args)
    cases hc3.symm.trans hk
    rw [show (fun r : Int32 => if r = 2 then hp' else hp) r = hp' from if_pos h2]
    refine fh_miss (args := args) (x := ⟨0, hi, hp, 13⟩) hpl hown (by simp [covers, F0, hcv]) (show (13 : Nat) ≠ 0 by decide) hlink hk (hex.2.2 args) hW hcell (by rw [hvm]; rfl) (fun vm' hW' => ?_)
    exact fh_hit (args := args) (S := V.setVm vm') (x := ⟨0, hi, hp', 23⟩) hpl hown (by simp [covers, F0, hcv]) (show (23 : Nat) ≠ 0 by decide) hlink2 hcT hW' hcell (by rw [hvm]; rfl) hasg
  · rw [show thc r = nIA from if_neg h2] at hk
    obtain ⟨c3, cT, hc3, hcT, hasg⟩ := Cond.castable_spec (hex.1 (.castable nIA nIA) (by simp [fxL]) args)
    cases hc3.symm.trans hk
    rw [show (fun r : Int32 => if r = 2 then hp' else hp) r = hp from if_neg h2]
    exact fh_hit (args := args) (x := ⟨0, hi, hp, 13⟩) hpl hown (by simp [covers, F0, hcv]) (show (13 : Nat) ≠ 0 by decide) hlink hcT hW hcell (by rw [hvm]; rfl) hasg
/-- a call of a static method with an exception table -/
abbrev CallSW (R : Room) (s : State) (args : Array Value) (own : String) (index : Nat) (y : MethodName) (bytes : ByteArray) (maxL : Nat) (ret : Option FieldType) (hh : List (Nat × Nat × Nat × Nat)) (rm : Room) (mc ms n : Nat) : Prop :=
  rm.cells = mc ∧ rm.slots = ms ∧ rm.frames + 1 ≤ R.frames ∧ 8 + (maxL + 11) + rm.locals ≤ R.locals ∧ (∀ w ∈ Cond.codeWith y bytes maxL ret hh :: WG, ∀ (a' : Array Value) (U : State), s.WarmedH U.vm → w.before a' U = true) ∧
  (Cond.codeWith y bytes maxL ret hh).before args s = true ∧ (Cond.initialized y.cls).before args s = true ∧ (y.cls ≠ "java/lang/invoke/MethodHandle" ∧ y.cls ≠ "java/lang/invoke/VarHandle") ∧ (∀ sig, parseMethodDescriptor y.desc = some sig → n = sig.parameters.length) ∧ (Cond.methodLink own index y).before args s = true ∧ (Cond.static y).before args s = true
theorem gsw_ {own : String} {index : Nat} {y : MethodName} {bytes : ByteArray} {maxL mc ms : Nat} {ret : Option FieldType} {hh : List (Nat × Nat × Nat × Nat)} {rm : Room} (n : Nat) (hc : Cond.codeWith y bytes maxL ret hh ∈ WG) (hi : Cond.initialized y.cls ∈ WG) (hl : Cond.methodLink own index y ∈ WG) (hs : Cond.static y ∈ WG)
    (hd : y.cls ≠ "java/lang/invoke/MethodHandle" ∧ y.cls ≠ "java/lang/invoke/VarHandle" ∧ (parseMethodDescriptor y.desc).map (fun d => d.parameters.length) = some n) (hR : rm.frames + 1 ≤ R.frames ∧ 8 + (maxL + 11) + rm.locals ≤ R.locals) (ht : ∀ w ∈ WG, w.before args s = true) (hrc : rm.cells = mc := by rfl) (hrs : rm.slots = ms := by rfl) :
    CallSW R s args own index y bytes maxL ret hh rm mc ms n := by
  refine ⟨hrc, hrs, hR.1, hR.2, fun w hw a' U hW => ?_, ht _ hc, ht _ hi, ⟨hd.1, hd.2.1⟩, fun sig h => ?_, ht _ hl, ht _ hs⟩
  · rcases List.mem_cons.mp hw with e | e
    · rw [e]; exact word_at hW (wg_good hc) (ht _ hc)
    · exact word_at hW (wg_good e) (ht _ e)
  · have h2 := hd.2.2
    rw [h] at h2
    exact (Option.some.inj h2).symm
theorem runSW {y : MethodName} {bytes cc : ByteArray} {maxL nL mc ms n index : Nat} {ret : Option FieldType} {hh : List (Nat × Nat × Nat × Nat)} {rm : Room} {Pc : Array Value → State → Prop} {Qc : Array Value → State → Outcome → State → Prop} {free : Addr → Prop} {own : String} {As rest : List Value} {g : JFrame}
    (S : CallFix p m c cc nL s args WG own) (hM : Met l y (Cond.codeWith y bytes maxL ret hh :: WG) rm Pc Qc mc ms free) (cw : CallSW R s args own index y bytes maxL ret hh rm mc ms n) (hp : PreS s H Pc As)
    (hg : g.method = m) (hn : As.length = n) (hsize : g.locals.size = nL) (hstack : g.stack = As.reverse ++ rest) (hW : 2 * g.monitorRoom + (rest.map fun v => v.category).sum ≤ 8) (hdg : decode cc g.pc = .ok (.invokestatic index, 3)) (hf : cells + mc ≤ R.cells ∧ slots + ms ≤ R.slots) :
    va_Run p l e R s m args below meth c H locs cells slots mc ms g rest (Qc As.toArray) (free) := by
  obtain ⟨hrc, hrs, hfr, hlo, hws, hcode, hini, hy, hlen, hl, hst⟩ := cw
  have hK : Back l R p e below s args y 3 8 (PreOf R mc ms Pc) (PostOf Qc mc ms free) := va_backW (hh := hh) (bytes := bytes) (maxL := maxL) (ret := ret) hM hp.1 hrc hrs hfr hlo hws List.mem_cons_self (fun a' U hW => word_at hW (Or.inl (by first | rfl | simp [Cond.onTables, Cond.keeps, Cond.steady])) hini)
  obtain ⟨hx, hb, hml, ho, -⟩ := S
  intro T hT X
  obtain ⟨mk, methM, cM, hnamed, hmethM, -, -, -, -, -, -, hsigM⟩ := Cond.codeWith_spec hcode
  have hstatic : methM.isStatic = true := Cond.static_spec hnamed hmethM hst
  obtain ⟨kP, hkP, -⟩ := className_of_methodNamed hnamed
  have hinitP : kP.init = .initialized := Cond.initialized_spec (findClass_of_methodNamed hnamed) hkP hini
  have hdg' : decode c.code g.pc = .ok (.invokestatic index, 3) := by rw [hb]; exact hdg
  obtain ⟨vm₁, X₁, hstep₁⟩ := X.invokestatic hx ho hl hnamed hmethM hstatic hkP hinitP hy (g := g) hg (argsL := As) (rest := rest) (hn.trans (hlen _ hsigM)) hstack hdg'
  obtain ⟨v, ⟨U', l2, c2, s2⟩, X', ⟨g', mk', t, L, e1, e2, hq, h1, hL, h2, h3⟩, hsteps⟩ := hK m meth c ⟨T.setVm vm₁, locs, cells, slots⟩ { g with stack := rest } (.invokestatic index) mk As.toArray X₁ hg (hsize.trans hml.symm) hdg' hW (X₁.named hnamed) ⟨hf.1, hf.2, hp.2 (T.setVm vm₁) hT X₁.warmed⟩
  dsimp only [Pt.U, Pt.locs, Pt.cells, Pt.slots] at X' e1 e2 h1 h2 h3 hsteps
  subst h1; subst h2; subst h3
  exact ⟨v, (T.setVm vm₁).calling g' mk' As.toArray, t, U', L, hT, X', hL, e1, e2, hq, fun target h => hstep₁ _ fun acts => by rw [doInvoke_state]; exact hsteps.trans h⟩
end
