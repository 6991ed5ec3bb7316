/-! a call that throws, and the handler that catches it -/
section
variable {p : Program} {l : Launch} {e : Env} {R : Room} {s : State} {m : MethodId} {args : Array Value} {below : List Frame} {meth : Method} {c : Code} {H : Heap} {locs : List Loc} {cells slots : Nat} {Q : State → Prop}
theorem rc_ {pl : Platform} (hpl : pl.magicAccessors = ({} : Platform).magicAccessors) {own name : String} {d cT thrown : ClassId} (hown : s.vm.findClass own = some d) {x : ExceptionTableEntry} (h0 : x.catchType ≠ 0)
    (hlink : (Cond.classLink own x.catchType name).before args s = true) (hcT : s.vm.findClass name = some cT) (hfit : s.vm.assignable thrown cT = true) : RowCatches pl s d thrown x ∧ ∃ k, s.vm.classes[thrown]? = some k := by
  obtain ⟨c', hc', hcl⟩ := Cond.classLink_spec hown hlink pl hpl
  cases hcT.symm.trans hc'
  obtain ⟨dk, _, _, kt, hd, _, _, _, _, hkt, _, hopen⟩ := hcl.here
  exact ⟨Or.inr ⟨h0, cT, hcl, hfit⟩, Vm.classAt_of_assignable hfit ⟨kt, hkt⟩⟩
/-- what the callee's throw hands over -/
def pt_ (post : Int32 → Prop) : Pt → Array Value → Addr → Pt → Prop := fun A a x B => ∃ (g : JFrame) (mk : MethodId) (t : State) (L : List Loc), B.U.heap = t.heap ∧ B.U.vm = t.vm ∧ qt_ post a (A.U.calling g mk a) (.threw x) t ∧ B.locs = A.locs ++ L ∧ (∀ q ∈ L, A.U.heap.size ≤ q.base) ∧ B.cells = A.cells + 1 ∧ B.slots = A.slots + 6
theorem bkt_ {y : MethodName} {bytes : ByteArray} {maxL n index : Nat} {ret : Option FieldType} {own : String} {rm : Room} {Pc : Array Value → State → Prop} {post : Int32 → Prop} (cb : CallB R s args own index y bytes maxL ret (Cond.code y bytes maxL ret :: WG) rm 1 6 n) (hM : MetFree l y (headSpec (Cond.code y bytes maxL ret :: WG) rm) Pc (fun _ _ _ _ _ => True) (qt_ post)) (hbl : FrameBlind Pc) :
    BackT l R p e below s args y 3 8 (PreOf R 1 6 Pc) (pt_ post) := by
  obtain ⟨hrc, hrs, hfr, hlo, hws, hcw, -, hini, -⟩ := cb
  refine BackT.of_free (S := headSpec (Cond.code y bytes maxL ret :: WG) rm) (P := Pc) (K := fun _ _ _ _ _ => True) (Q := qt_ post) (bytes := bytes) (maxL := maxL) (ret := ret)
    (E := fun a st o t L k n => k = 1 ∧ n = 6 ∧ ∀ q ∈ L, st.heap.size ≤ q.base) hM hfr hlo ?_ ?_ (fun _ _ _ _ _ _ _ _ _ => trivial) ?_ ?_
  · intro m meth c A a X hp
    exact ⟨atoms_intro fun w hw => hws w hw _ _ X.warmed, hws _ hcw _ _ X.warmed, word_at X.warmed (Or.inl (by first | rfl | simp [Cond.onTables, Cond.keeps, Cond.steady])) hini, by rw [show (headSpec (Cond.code y bytes maxL ret :: WG) rm).room.cells = 1 from hrc]; exact hp.1, by rw [show (headSpec (Cond.code y bytes maxL ret :: WG) rm).room.slots = 6 from hrs]; exact hp.2.1⟩
  · intro m meth c A a g mk X hp
    exact hbl _ _ _ _ hp.2.2
  · intro a st o t hq
    obtain ⟨x, r, L, rfl, h1, h2, h3, h4⟩ := id hq
    exact ⟨L, 1, 6, h2, rfl, rfl, h3⟩
  · intro m meth c A a g mk v t L k n X hp hq hF ⟨e1, e2, hL⟩
    subst e1; subst e2
    exact ⟨g, mk, t, L, rfl, rfl, hq, rfl, hL, rfl, rfl⟩
theorem tc_call {y : MethodName} {bytes cc : ByteArray} {maxL nL n index pc : Nat} {ret : Option FieldType} {own C : String} {rm : Room} {Pc : Array Value → State → Prop} {post : Int32 → Prop} {b : Nat} {As rest : List Value} {ls : Array Slot} {A : Nat → Prop} {hpc : Int32 → Nat}
    (S : CallFix p m c cc nL s args WG own) (hM : MetFree l y (headSpec (Cond.code y bytes maxL ret :: WG) rm) Pc (fun _ _ _ _ _ => True) (qt_ post)) (cw : CallW R s args own C index y bytes maxL ret (Cond.code y bytes maxL ret :: WG) rm 1 6 n) (hp : PreV s H C b Pc As)
    (hn : As.length = n) (hsize : ls.size = nL) (hW : (rest.map fun v => v.category).sum ≤ 8) (hdg : decode cc pc = .ok (.invokevirtual index, 3)) (hf : cells + 1 ≤ R.cells ∧ slots + 6 ≤ R.slots) (hS : va_S A s.heap H locs) (hA : ∀ q, s.heap.size ≤ q → A q)
    (hcat : ∀ (pl : Platform), pl.magicAccessors = ({} : Platform).magicAccessors → ∀ (r : Int32) (k : ClassId), post r → s.vm.findClass (thc r) = some k → ∃ (pre : List ExceptionTableEntry) (x : ExceptionTableEntry) (rst : List ExceptionTableEntry), c.exceptionTable.toList = pre ++ x :: rst ∧ (∀ z ∈ pre, RowPassed pl s m.cls pc k z) ∧ covers x pc = true ∧ RowCatches pl s m.cls k x ∧ x.handlerPc = hpc r ∧ ∃ kk, s.vm.classes[k]? = some kk)
    (kk : ∀ (r : Int32) (a : Nat) (H1 : Heap) (locs1 : List Loc), post r → (∀ q : Nat, q < H.size → H1[q]? = H[q]?) → va_S A s.heap H1 locs1 → W p l e R s m args below meth c H1 locs1 (cells + 1) (slots + 6) Q (F0 m (hpc r) ls [.ref a])) : W p l e R s m args below meth c H locs cells slots Q (F0 m pc ls (As.reverse ++ .ref b :: rest)) := by
  have hK := bkt_ (e := e) (p := p) (below := below) cw.1 hM hp.1
  obtain ⟨⟨-, -, -, -, -, -, hcode, -, hy, hlen, hl⟩, hin, hse⟩ := cw
  obtain ⟨hx, hb, hml, ho, -⟩ := S
  obtain ⟨-, ⟨cellB, hcB, hoB, hclB⟩, hPc⟩ := hp
  intro T hT X
  have hpl : e.platform.magicAccessors = ({} : Platform).magicAccessors := by rw [X.admits.platform]
  obtain ⟨mk, methM, hnamed, hmethM, hstM, habM⟩ := Cond.instanceMethod_spec hin
  obtain ⟨methM', cM, hmethM', -, -, -, -, -, -, hsigM⟩ := Cond.code_spec hnamed hcode
  cases hmethM.symm.trans hmethM'
  obtain ⟨c2, r2, m2, q1, q2, q3, q4, kP, hkP, hkPi⟩ := Cond.selects_spec hse
  cases hclB.symm.trans q1
  cases (State.methodFound?_of_named hnamed hy).symm.trans q2
  cases hnamed.symm.trans q3
  have hselP : selectMethod e.platform s.vm cellB.cls mk = .method mk := by rw [Launch.admits_selectMethod X.admits]; exact q4
  have hdg' : decode c.code pc = .ok (.invokevirtual index, 3) := by rw [hb]; exact hdg
  obtain ⟨vm₁, X₁, hstep₁⟩ := X.invokevirtual hx ho hl hnamed hmethM hstM hkP hkPi hy (a := b) (cell := cellB) (by rw [hT]; exact hcB)
    (fun z h => by rw [h] at hoB; cases hoB) hselP hmethM habM hkP hkPi (g := F0 m pc ls (As.reverse ++ .ref b :: rest)) rfl (argsL := As) (rest := rest) (hn.trans (hlen _ hsigM)) rfl hdg'
  obtain ⟨v, B, X', ⟨g', mk', t, L, e1, e2, hq, hlo, hL, hce, hsl⟩, hsteps⟩ := hK m meth c ⟨T.setVm vm₁, locs, cells, slots⟩ (F0 m pc ls rest) (.invokevirtual index) mk (Value.ref b :: As).toArray X₁ rfl (hsize.trans hml.symm) hdg' (by show 2 * 0 + (rest.map fun v => v.category).sum ≤ 8; omega) (X₁.named hnamed) ⟨hf.1, hf.2, hPc (T.setVm vm₁) hT X₁.warmed⟩
  obtain ⟨U', l2, c2, s2⟩ := B
  dsimp only [Pt.U, Pt.locs, Pt.cells, Pt.slots] at X' e1 e2 hlo hL hce hsl hsteps hq
  subst hlo; subst hce; subst hsl
  obtain ⟨x, r, L', ho', hpr, hFE, hL', hold, ce, hcex, hcev, hcec⟩ := hq
  cases ho'
  have hcec' : s.vm.findClass (thc r) = some ce.cls := by
    have h9 : (T.setVm vm₁).vm.findClass (thc r) = some ce.cls := hcec
    rw [X₁.warmed.alike.findClass] at h9
    exact h9
  obtain ⟨pre, xx, rst, htab, hpass, hcov, hcatch, hhp, hkk⟩ := hcat e.platform hpl r ce.cls hpr hcec'
  obtain ⟨vm', XV, st⟩ := X'.thenCaughtThrough v (g := F0 m pc ls rest) rfl hsteps (cell := ce) (by rw [e1]; exact hcex) (by rw [hcev]; rfl) hkk pre xx rst htab hpass hcov hcatch
  have hsz : H.size ≤ U'.heap.size := by
    have h8 : (T.setVm vm₁).heap.size ≤ t.heap.size := hFE.2.2.2.1
    rw [e1]
    have h7 : (T.setVm vm₁).heap = H := hT
    rw [h7] at h8
    exact h8
  have hold' : ∀ q : Nat, q < H.size → U'.heap[q]? = H[q]? := fun q hq => by
    have h7 : ∀ q : Nat, q < T.heap.size → t.heap[q]? = T.heap[q]? := hold
    rw [hT] at h7
    rw [e1]
    exact h7 q hq
  obtain ⟨t2, a1, b1⟩ := kk r v U'.heap (locs ++ L) hpr hold' ⟨Nat.le_trans hS.1 hsz, fun q g1 g2 => by rw [hold' q (Nat.lt_of_lt_of_le g1 hS.1)]; exact hS.2.1 q g1 g2, fun q hq => by
      rcases List.mem_append.mp hq with h | h
      · exact hS.2.2 q h
      · have h9 : T.heap.size ≤ q.base := hL q h
        rw [hT] at h9
        exact hA _ (Nat.le_trans hS.1 h9)⟩ (U'.setVm vm') rfl XV
  rw [← hhp] at a1
  refine ⟨t2, ?_, b1⟩
  exact (hstep₁ _ fun acts => by rw [doInvoke_state]; exact st).trans a1
end
