/-! making objects -/
theorem gj_ {A0 : Nat → Prop} {D : va_G} {cl : List vw_C} {R wc w1 : va_W} {H H1 : Heap} (hP : va_P D cl (R ++ wc) H) (hD : va_D A0 (R ++ wc)) (hk : ∀ q : Nat, q < H.size → ¬ va_A wc H.size q → H1[q]? = H[q]?) (hF : ∀ q, va_A wc H.size q → A0 q) (hP1 : va_P D cl w1 H1) (hD1 : va_D (va_A wc H.size) w1) : va_P D cl (R ++ w1) H1 ∧ va_D A0 (R ++ w1) := by
  obtain ⟨a, b⟩ := jw_ hP hD List.perm_append_comm hk hF hP1 hD1
  exact ⟨pP_perm List.perm_append_comm a, pD_perm List.perm_append_comm b⟩
theorem lp_P {D : va_G} {cl : List vw_C} {R wc : va_W} {H : Heap} (hP : va_P D cl (R ++ wc) H) : va_P D cl wc H := pP_iff.mpr fun q hq => pP_iff.mp hP q (List.mem_append_right _ hq)
theorem lp_D {A : Nat → Prop} {R wc : va_W} (hD : va_D A (R ++ wc)) : va_D A wc := by
  obtain ⟨a, b⟩ := pD_iff.mp hD
  rw [List.map_append, List.nodup_append] at a
  exact pD_iff.mpr ⟨a.2.1, fun q hq => b q (List.mem_append_right _ hq)⟩
theorem mv_P {D : va_G} {cl : List vw_C} {F T G : va_W} {H : Heap} (hP : va_P D cl ((F ++ T) ++ G) H) : va_P D cl ((F ++ G) ++ T) H := by
  refine pP_perm ?_ hP
  rw [List.append_assoc, List.append_assoc]
  exact List.perm_append_comm.append_left F
theorem mv_D {A : Nat → Prop} {F T G : va_W} (hD : va_D A ((F ++ T) ++ G)) : va_D A ((F ++ G) ++ T) := by
  refine pD_perm ?_ hD
  rw [List.append_assoc, List.append_assoc]
  exact List.perm_append_comm.append_left F
theorem ca_eq {D : va_G} {cl : List vw_C} {tys : List (ClassId × FieldType)} {s : State} {cA cB : ClassId} {ty : FieldType} {k : Nat} (hK : va_K D cl (tys ++ [(cA, ty)]) s) (h : tys[k]? = some (cB, ty)) : cA = cB := by
  have h1 := (hK.2 tys.length (cA, ty) (by simp)).2
  have hk : k < tys.length := (List.getElem?_eq_some_iff.mp h).1
  have h2 := (hK.2 k (cB, ty) (by rw [List.getElem?_append_left hk]; exact h)).2
  cases ty with
  | object C =>
    obtain ⟨_, _, _, _, _, a⟩ := h1
    obtain ⟨_, _, _, _, _, b⟩ := h2
    exact Option.some.inj (a.symm.trans b)
  | _ => exact Option.some.inj ((show s.vm.findClass _ = some cA from h1).symm.trans h2)
theorem ca_K {D : va_G} {cl : List vw_C} {tys : List (ClassId × FieldType)} {s : State} {x : ClassId × FieldType} (hK : va_K D cl (tys ++ [x]) s) : va_K D cl tys s := ⟨hK.1, fun k q hk => hK.2 k q (by rw [List.getElem?_append_left (List.getElem?_eq_some_iff.mp hk).1]; exact hk)⟩
def pra_ (D : va_G) (cT : Nat → ClassId) (ws : va_W) (sz : Nat) (U : State) : Prop := pre_ D cT ws sz U ∧ va_AO "ChainDesk$Natural" U
theorem pra_blind {av : List Value} {D : va_G} {cT : Nat → ClassId} {ws : va_W} {sz : Nat} : FrameBlind (va_Pc av (pra_ D cT ws sz)) := fun a U g mk q => by
  obtain ⟨q0, q1, q2⟩ := q
  have h := pre_blind (av := av) (D := D) (cT := cT) (ws := ws) (sz := sz) a U g mk ⟨q0, q1⟩
  exact ⟨h.1, h.2, va_AO.moved (u := U) (U := U.calling g mk a) (Vm.Alike.refl U.vm) q2⟩
theorem pra_mk {s U : State} {H : Heap} {D : va_G} {cT : Nat → ClassId} {ws : va_W} {B : Nat → Prop} (hU : U.heap = H) (hW : s.WarmedH U.vm) (hP : va_P D vwCl ws H) (hK : va_K D vwCl (ty_ cT) s) (hD : va_D B ws) (hN : nw_ s) (hO : va_AO "ChainDesk$Natural" s) : pra_ D cT ws H.size U :=
  ⟨pre_mk hU hW hP hK hD hN, va_AO.moved hW.alike hO⟩
theorem gic_ {R : Room} {s : State} {args : Array Value} {own : String} {index : Nat} {y : MethodName} {bytes : ByteArray} {maxL mc ms : Nat} {rm : Room} (n : Nat) (hc : Cond.code y bytes maxL none ∈ WG) (hi : Cond.initialized y.cls ∈ WG) (hl : Cond.methodLink own index y ∈ WG) (hin : Cond.instanceMethod y ∈ WG) (hy1 : y.name = "<init>")
    (hd : y.cls ≠ "java/lang/invoke/MethodHandle" ∧ y.cls ≠ "java/lang/invoke/VarHandle" ∧ (parseMethodDescriptor y.desc).map (fun d => d.parameters.length) = some n) (hR : rm.frames + 1 ≤ R.frames ∧ 8 + (maxL + 11) + rm.locals ≤ R.locals) (ht : ∀ w ∈ WG, w.before args s = true) (hrc : rm.cells = mc := by rfl) (hrs : rm.slots = ms := by rfl) :
    CallB R s args own index y bytes maxL none (Cond.code y bytes maxL none :: WG) rm mc ms n ∧ y.name = "<init>" ∧ (Cond.instanceMethod y).before args s = true :=
  ⟨callB_of n ht (gi_ hc) rfl hrc hrs (ht _ hi) (ht _ hl) hd hR, hy1, ht _ hin⟩
theorem gin_ {R : Room} {s : State} {args : Array Value} {own host : String} {index : Nat} {y : MethodName} {bytes : ByteArray} {maxL mc ms : Nat} {rm : Room} (n : Nat) (hc : Cond.code y bytes maxL none ∈ WG) (hi : Cond.initialized y.cls ∈ WG) (hl : va_Nw (.methodLinkNest own index y host) s) (hin : Cond.instanceMethod y ∈ WG) (hy1 : y.name = "<init>")
    (hd : y.cls ≠ "java/lang/invoke/MethodHandle" ∧ y.cls ≠ "java/lang/invoke/VarHandle" ∧ (parseMethodDescriptor y.desc).map (fun d => d.parameters.length) = some n) (hR : rm.frames + 1 ≤ R.frames ∧ 8 + (maxL + 11) + rm.locals ≤ R.locals) (ht : ∀ w ∈ WG, w.before args s = true) (hrc : rm.cells = mc := by rfl) (hrs : rm.slots = ms := by rfl) :
    va_CN R s args own index y host bytes maxL none (Cond.code y bytes maxL none :: WG) rm mc ms n ∧ y.name = "<init>" ∧ (Cond.instanceMethod y).before args s = true :=
  ⟨va_cnB n ht (gi_ hc) rfl hrc hrs hl (ht _ hi) hd hR, hy1, ht _ hin⟩
