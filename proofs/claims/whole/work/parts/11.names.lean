-- ===== PART A: goes FIRST, ahead of the names: the tables' words, and 'selects' of the private methods out of them =====
/-- a private method of a class that the tables say can be made, by its rows of tables_1 -/
def lw_okq (q : MethodName × Nat) : Prop := (q.1.cls ≠ "java/lang/invoke/MethodHandle" ∧ q.1.cls ≠ "java/lang/invoke/VarHandle") ∧ Cond.instantiable q.1.cls q.2 ∈ tables_1 ∧ Cond.privateMethod q.1 ∈ tables_1 ∧ Cond.instanceMethod q.1 ∈ tables_1
theorem lw_p0 : lw_okq (⟨"ChainDesk$Chain", "canEnd", "(I)Z"⟩, 5) := ⟨⟨by decide +kernel, by decide +kernel⟩, List.mem_of_getElem? (i := 26) (by decide +kernel), List.mem_of_getElem? (i := 204) (by decide +kernel), List.mem_of_getElem? (i := 205) (by decide +kernel)⟩
theorem lw_p1 : lw_okq (⟨"ChainDesk$Likelihoods", "clear", "(I)V"⟩, 4) := ⟨⟨by decide +kernel, by decide +kernel⟩, List.mem_of_getElem? (i := 54) (by decide +kernel), List.mem_of_getElem? (i := 212) (by decide +kernel), List.mem_of_getElem? (i := 213) (by decide +kernel)⟩
theorem lw_p2 : lw_okq (⟨"ChainDesk$Equations", "load", "(LChainDesk$Chain;)V"⟩, 5) := ⟨⟨by decide +kernel, by decide +kernel⟩, List.mem_of_getElem? (i := 60) (by decide +kernel), List.mem_of_getElem? (i := 227) (by decide +kernel), List.mem_of_getElem? (i := 228) (by decide +kernel)⟩
theorem lw_p3 : lw_okq (⟨"ChainDesk$Equations", "eliminate", "(I)Z"⟩, 5) := ⟨⟨by decide +kernel, by decide +kernel⟩, List.mem_of_getElem? (i := 60) (by decide +kernel), List.mem_of_getElem? (i := 235) (by decide +kernel), List.mem_of_getElem? (i := 236) (by decide +kernel)⟩
theorem lw_p4 : lw_okq (⟨"ChainDesk$Equations", "pivotRow", "(I)I"⟩, 5) := ⟨⟨by decide +kernel, by decide +kernel⟩, List.mem_of_getElem? (i := 60) (by decide +kernel), List.mem_of_getElem? (i := 239) (by decide +kernel), List.mem_of_getElem? (i := 240) (by decide +kernel)⟩
theorem lw_p5 : lw_okq (⟨"ChainDesk$Equations", "swapRows", "(II)V"⟩, 5) := ⟨⟨by decide +kernel, by decide +kernel⟩, List.mem_of_getElem? (i := 60) (by decide +kernel), List.mem_of_getElem? (i := 243) (by decide +kernel), List.mem_of_getElem? (i := 244) (by decide +kernel)⟩
theorem lw_p6 : lw_okq (⟨"ChainDesk$Equations", "scaleRow", "(IJ)V"⟩, 5) := ⟨⟨by decide +kernel, by decide +kernel⟩, List.mem_of_getElem? (i := 60) (by decide +kernel), List.mem_of_getElem? (i := 260) (by decide +kernel), List.mem_of_getElem? (i := 261) (by decide +kernel)⟩
theorem lw_p7 : lw_okq (⟨"ChainDesk$Equations", "clearCell", "(II)V"⟩, 5) := ⟨⟨by decide +kernel, by decide +kernel⟩, List.mem_of_getElem? (i := 60) (by decide +kernel), List.mem_of_getElem? (i := 264) (by decide +kernel), List.mem_of_getElem? (i := 265) (by decide +kernel)⟩
theorem lw_p8 : lw_okq (⟨"ChainDesk$Equations", "answerOf", "(I)J"⟩, 5) := ⟨⟨by decide +kernel, by decide +kernel⟩, List.mem_of_getElem? (i := 60) (by decide +kernel), List.mem_of_getElem? (i := 268) (by decide +kernel), List.mem_of_getElem? (i := 269) (by decide +kernel)⟩
theorem lw_p9 : lw_okq (⟨"ChainDesk$Likelihoods", "join", "(I)V"⟩, 4) := ⟨⟨by decide +kernel, by decide +kernel⟩, List.mem_of_getElem? (i := 54) (by decide +kernel), List.mem_of_getElem? (i := 273) (by decide +kernel), List.mem_of_getElem? (i := 274) (by decide +kernel)⟩
theorem lw_p10 : lw_okq (⟨"ChainDesk$Likelihoods", "joinOne", "(LChainDesk$Natural;JJ)V"⟩, 4) := ⟨⟨by decide +kernel, by decide +kernel⟩, List.mem_of_getElem? (i := 54) (by decide +kernel), List.mem_of_getElem? (i := 282) (by decide +kernel), List.mem_of_getElem? (i := 283) (by decide +kernel)⟩
theorem lw_p11 : lw_okq (⟨"ChainDesk", "isKnown", "(I)Z"⟩, 7) := ⟨⟨by decide +kernel, by decide +kernel⟩, List.mem_of_getElem? (i := 18) (by decide +kernel), List.mem_of_getElem? (i := 301) (by decide +kernel), List.mem_of_getElem? (i := 302) (by decide +kernel)⟩
theorem lw_p12 : lw_okq (⟨"ChainDesk", "reduce", "(I)V"⟩, 7) := ⟨⟨by decide +kernel, by decide +kernel⟩, List.mem_of_getElem? (i := 18) (by decide +kernel), List.mem_of_getElem? (i := 309) (by decide +kernel), List.mem_of_getElem? (i := 310) (by decide +kernel)⟩
theorem lw_p13 : lw_okq (⟨"ChainDesk$Natural", "upperIsZero", "()Z"⟩, 1) := ⟨⟨by decide +kernel, by decide +kernel⟩, List.mem_of_getElem? (i := 100) (by decide +kernel), List.mem_of_getElem? (i := 325) (by decide +kernel), List.mem_of_getElem? (i := 326) (by decide +kernel)⟩
theorem lw_p14 : lw_okq (⟨"ChainDesk$LeastTerms", "dropCommonTwos", "()V"⟩, 4) := ⟨⟨by decide +kernel, by decide +kernel⟩, List.mem_of_getElem? (i := 125) (by decide +kernel), List.mem_of_getElem? (i := 330) (by decide +kernel), List.mem_of_getElem? (i := 331) (by decide +kernel)⟩
theorem lw_p15 : lw_okq (⟨"ChainDesk$LeastTerms", "oddCommonDivisor", "()LChainDesk$Natural;"⟩, 4) := ⟨⟨by decide +kernel, by decide +kernel⟩, List.mem_of_getElem? (i := 125) (by decide +kernel), List.mem_of_getElem? (i := 356) (by decide +kernel), List.mem_of_getElem? (i := 357) (by decide +kernel)⟩
def lw_privs_1 : List (MethodName × Nat) := [(⟨"ChainDesk$Chain", "canEnd", "(I)Z"⟩, 5), (⟨"ChainDesk$Likelihoods", "clear", "(I)V"⟩, 4), (⟨"ChainDesk$Equations", "load", "(LChainDesk$Chain;)V"⟩, 5), (⟨"ChainDesk$Equations", "eliminate", "(I)Z"⟩, 5), (⟨"ChainDesk$Equations", "pivotRow", "(I)I"⟩, 5), (⟨"ChainDesk$Equations", "swapRows", "(II)V"⟩, 5), (⟨"ChainDesk$Equations", "scaleRow", "(IJ)V"⟩, 5), (⟨"ChainDesk$Equations", "clearCell", "(II)V"⟩, 5), (⟨"ChainDesk$Equations", "answerOf", "(I)J"⟩, 5), (⟨"ChainDesk$Likelihoods", "join", "(I)V"⟩, 4), (⟨"ChainDesk$Likelihoods", "joinOne", "(LChainDesk$Natural;JJ)V"⟩, 4), (⟨"ChainDesk", "isKnown", "(I)Z"⟩, 7), (⟨"ChainDesk", "reduce", "(I)V"⟩, 7), (⟨"ChainDesk$Natural", "upperIsZero", "()Z"⟩, 1), (⟨"ChainDesk$LeastTerms", "dropCommonTwos", "()V"⟩, 4), (⟨"ChainDesk$LeastTerms", "oddCommonDivisor", "()LChainDesk$Natural;"⟩, 4)]
theorem lw_r1 : ∀ q ∈ lw_privs_1, lw_okq q := List.forall_mem_cons.mpr ⟨lw_p0, List.forall_mem_cons.mpr ⟨lw_p1, List.forall_mem_cons.mpr ⟨lw_p2, List.forall_mem_cons.mpr ⟨lw_p3, List.forall_mem_cons.mpr ⟨lw_p4, List.forall_mem_cons.mpr ⟨lw_p5, List.forall_mem_cons.mpr ⟨lw_p6, List.forall_mem_cons.mpr ⟨lw_p7, List.forall_mem_cons.mpr ⟨lw_p8, List.forall_mem_cons.mpr ⟨lw_p9, List.forall_mem_cons.mpr ⟨lw_p10, List.forall_mem_cons.mpr ⟨lw_p11, List.forall_mem_cons.mpr ⟨lw_p12, List.forall_mem_cons.mpr ⟨lw_p13, List.forall_mem_cons.mpr ⟨lw_p14, List.forall_mem_cons.mpr ⟨lw_p15, fun _ h => absurd h List.not_mem_nil⟩⟩⟩⟩⟩⟩⟩⟩⟩⟩⟩⟩⟩⟩⟩⟩
theorem lw_p16 : lw_okq (⟨"ChainDesk$Natural", "subtractMultiple", "(LChainDesk$Natural;JI)V"⟩, 1) := ⟨⟨by decide +kernel, by decide +kernel⟩, List.mem_of_getElem? (i := 100) (by decide +kernel), List.mem_of_getElem? (i := 382) (by decide +kernel), List.mem_of_getElem? (i := 383) (by decide +kernel)⟩
theorem lw_p17 : lw_okq (⟨"ChainDesk$Paper", "reverseFrom", "(I)V"⟩, 2) := ⟨⟨by decide +kernel, by decide +kernel⟩, List.mem_of_getElem? (i := 148) (by decide +kernel), List.mem_of_getElem? (i := 405) (by decide +kernel), List.mem_of_getElem? (i := 406) (by decide +kernel)⟩
theorem lw_p18 : lw_okq (⟨"java/lang/Throwable", "fillInStackTrace", "(I)Ljava/lang/Throwable;"⟩, 6) := ⟨⟨by decide +kernel, by decide +kernel⟩, List.mem_of_getElem? (i := 486) (by decide +kernel), List.mem_of_getElem? (i := 484) (by decide +kernel), List.mem_of_getElem? (i := 485) (by decide +kernel)⟩
theorem lw_p19 : lw_okq (⟨"ChainDeskModel", "reset", "(I)V"⟩, 16) := ⟨⟨by decide +kernel, by decide +kernel⟩, List.mem_of_getElem? (i := 574) (by decide +kernel), List.mem_of_getElem? (i := 580) (by decide +kernel), List.mem_of_getElem? (i := 581) (by decide +kernel)⟩
theorem lw_p20 : lw_okq (⟨"ChainDeskModel", "noState", "(I)Z"⟩, 16) := ⟨⟨by decide +kernel, by decide +kernel⟩, List.mem_of_getElem? (i := 574) (by decide +kernel), List.mem_of_getElem? (i := 645) (by decide +kernel), List.mem_of_getElem? (i := 646) (by decide +kernel)⟩
theorem lw_p21 : lw_okq (⟨"ChainDeskModel", "together", "(I)J"⟩, 16) := ⟨⟨by decide +kernel, by decide +kernel⟩, List.mem_of_getElem? (i := 574) (by decide +kernel), List.mem_of_getElem? (i := 654) (by decide +kernel), List.mem_of_getElem? (i := 655) (by decide +kernel)⟩
theorem lw_p22 : lw_okq (⟨"ChainDeskModel", "isLarge", "()Z"⟩, 16) := ⟨⟨by decide +kernel, by decide +kernel⟩, List.mem_of_getElem? (i := 574) (by decide +kernel), List.mem_of_getElem? (i := 662) (by decide +kernel), List.mem_of_getElem? (i := 663) (by decide +kernel)⟩
theorem lw_p23 : lw_okq (⟨"ChainDeskModel", "isStuck", "()Z"⟩, 16) := ⟨⟨by decide +kernel, by decide +kernel⟩, List.mem_of_getElem? (i := 574) (by decide +kernel), List.mem_of_getElem? (i := 667) (by decide +kernel), List.mem_of_getElem? (i := 668) (by decide +kernel)⟩
theorem lw_p24 : lw_okq (⟨"ChainDeskModel", "workOut", "()V"⟩, 16) := ⟨⟨by decide +kernel, by decide +kernel⟩, List.mem_of_getElem? (i := 574) (by decide +kernel), List.mem_of_getElem? (i := 671) (by decide +kernel), List.mem_of_getElem? (i := 672) (by decide +kernel)⟩
theorem lw_p25 : lw_okq (⟨"ChainDeskModel", "prime", "(I)J"⟩, 16) := ⟨⟨by decide +kernel, by decide +kernel⟩, List.mem_of_getElem? (i := 574) (by decide +kernel), List.mem_of_getElem? (i := 675) (by decide +kernel), List.mem_of_getElem? (i := 676) (by decide +kernel)⟩
theorem lw_p26 : lw_okq (⟨"ChainDeskModel", "eliminate", "(J)J"⟩, 16) := ⟨⟨by decide +kernel, by decide +kernel⟩, List.mem_of_getElem? (i := 574) (by decide +kernel), List.mem_of_getElem? (i := 684) (by decide +kernel), List.mem_of_getElem? (i := 685) (by decide +kernel)⟩
theorem lw_p27 : lw_okq (⟨"ChainDeskModel", "putTogether", "(I)V"⟩, 16) := ⟨⟨by decide +kernel, by decide +kernel⟩, List.mem_of_getElem? (i := 574) (by decide +kernel), List.mem_of_getElem? (i := 691) (by decide +kernel), List.mem_of_getElem? (i := 692) (by decide +kernel)⟩
theorem lw_p28 : lw_okq (⟨"ChainDeskModel", "put", "(IJ)V"⟩, 16) := ⟨⟨by decide +kernel, by decide +kernel⟩, List.mem_of_getElem? (i := 574) (by decide +kernel), List.mem_of_getElem? (i := 695) (by decide +kernel), List.mem_of_getElem? (i := 696) (by decide +kernel)⟩
theorem lw_p29 : lw_okq (⟨"ChainDeskModel", "noLikelihood", "(I)Z"⟩, 16) := ⟨⟨by decide +kernel, by decide +kernel⟩, List.mem_of_getElem? (i := 574) (by decide +kernel), List.mem_of_getElem? (i := 704) (by decide +kernel), List.mem_of_getElem? (i := 705) (by decide +kernel)⟩
theorem lw_p30 : lw_okq (⟨"ChainDeskModel", "reduce", "(I)V"⟩, 16) := ⟨⟨by decide +kernel, by decide +kernel⟩, List.mem_of_getElem? (i := 574) (by decide +kernel), List.mem_of_getElem? (i := 708) (by decide +kernel), List.mem_of_getElem? (i := 709) (by decide +kernel)⟩
theorem lw_p31 : lw_okq (⟨"ChainDeskModel", "copy", "(II)V"⟩, 16) := ⟨⟨by decide +kernel, by decide +kernel⟩, List.mem_of_getElem? (i := 574) (by decide +kernel), List.mem_of_getElem? (i := 712) (by decide +kernel), List.mem_of_getElem? (i := 713) (by decide +kernel)⟩
def lw_privs_2 : List (MethodName × Nat) := [(⟨"ChainDesk$Natural", "subtractMultiple", "(LChainDesk$Natural;JI)V"⟩, 1), (⟨"ChainDesk$Paper", "reverseFrom", "(I)V"⟩, 2), (⟨"java/lang/Throwable", "fillInStackTrace", "(I)Ljava/lang/Throwable;"⟩, 6), (⟨"ChainDeskModel", "reset", "(I)V"⟩, 16), (⟨"ChainDeskModel", "noState", "(I)Z"⟩, 16), (⟨"ChainDeskModel", "together", "(I)J"⟩, 16), (⟨"ChainDeskModel", "isLarge", "()Z"⟩, 16), (⟨"ChainDeskModel", "isStuck", "()Z"⟩, 16), (⟨"ChainDeskModel", "workOut", "()V"⟩, 16), (⟨"ChainDeskModel", "prime", "(I)J"⟩, 16), (⟨"ChainDeskModel", "eliminate", "(J)J"⟩, 16), (⟨"ChainDeskModel", "putTogether", "(I)V"⟩, 16), (⟨"ChainDeskModel", "put", "(IJ)V"⟩, 16), (⟨"ChainDeskModel", "noLikelihood", "(I)Z"⟩, 16), (⟨"ChainDeskModel", "reduce", "(I)V"⟩, 16), (⟨"ChainDeskModel", "copy", "(II)V"⟩, 16)]
theorem lw_r2 : ∀ q ∈ lw_privs_2, lw_okq q := List.forall_mem_cons.mpr ⟨lw_p16, List.forall_mem_cons.mpr ⟨lw_p17, List.forall_mem_cons.mpr ⟨lw_p18, List.forall_mem_cons.mpr ⟨lw_p19, List.forall_mem_cons.mpr ⟨lw_p20, List.forall_mem_cons.mpr ⟨lw_p21, List.forall_mem_cons.mpr ⟨lw_p22, List.forall_mem_cons.mpr ⟨lw_p23, List.forall_mem_cons.mpr ⟨lw_p24, List.forall_mem_cons.mpr ⟨lw_p25, List.forall_mem_cons.mpr ⟨lw_p26, List.forall_mem_cons.mpr ⟨lw_p27, List.forall_mem_cons.mpr ⟨lw_p28, List.forall_mem_cons.mpr ⟨lw_p29, List.forall_mem_cons.mpr ⟨lw_p30, List.forall_mem_cons.mpr ⟨lw_p31, fun _ h => absurd h List.not_mem_nil⟩⟩⟩⟩⟩⟩⟩⟩⟩⟩⟩⟩⟩⟩⟩⟩
theorem lw_p32 : lw_okq (⟨"ChainDeskModel", "isZero", "(I)Z"⟩, 16) := ⟨⟨by decide +kernel, by decide +kernel⟩, List.mem_of_getElem? (i := 574) (by decide +kernel), List.mem_of_getElem? (i := 716) (by decide +kernel), List.mem_of_getElem? (i := 717) (by decide +kernel)⟩
theorem lw_p33 : lw_okq (⟨"ChainDeskModel", "divide", "(II)V"⟩, 16) := ⟨⟨by decide +kernel, by decide +kernel⟩, List.mem_of_getElem? (i := 574) (by decide +kernel), List.mem_of_getElem? (i := 720) (by decide +kernel), List.mem_of_getElem? (i := 721) (by decide +kernel)⟩
theorem lw_p34 : lw_okq (⟨"ChainDeskModel", "order", "(II)I"⟩, 16) := ⟨⟨by decide +kernel, by decide +kernel⟩, List.mem_of_getElem? (i := 574) (by decide +kernel), List.mem_of_getElem? (i := 725) (by decide +kernel), List.mem_of_getElem? (i := 726) (by decide +kernel)⟩
theorem lw_p35 : lw_okq (⟨"ChainDeskModel", "figures", "(II)I"⟩, 16) := ⟨⟨by decide +kernel, by decide +kernel⟩, List.mem_of_getElem? (i := 574) (by decide +kernel), List.mem_of_getElem? (i := 729) (by decide +kernel), List.mem_of_getElem? (i := 730) (by decide +kernel)⟩
def lw_privs_3 : List (MethodName × Nat) := [(⟨"ChainDeskModel", "isZero", "(I)Z"⟩, 16), (⟨"ChainDeskModel", "divide", "(II)V"⟩, 16), (⟨"ChainDeskModel", "order", "(II)I"⟩, 16), (⟨"ChainDeskModel", "figures", "(II)I"⟩, 16)]
theorem lw_r3 : ∀ q ∈ lw_privs_3, lw_okq q := List.forall_mem_cons.mpr ⟨lw_p32, List.forall_mem_cons.mpr ⟨lw_p33, List.forall_mem_cons.mpr ⟨lw_p34, List.forall_mem_cons.mpr ⟨lw_p35, fun _ h => absurd h List.not_mem_nil⟩⟩⟩⟩
def lw_privs : List (MethodName × Nat) := lw_privs_1 ++ (lw_privs_2 ++ (lw_privs_3))
def lw_tbl : List Cond := k2_sels lw_privs ++ tables_1
theorem lw_privs_ok : ∀ q ∈ lw_privs, lw_okq q := by
  show ∀ q ∈ lw_privs_1 ++ (lw_privs_2 ++ (lw_privs_3)), lw_okq q
  exact List.forall_mem_append.mpr ⟨lw_r1, List.forall_mem_append.mpr ⟨lw_r2, lw_r3⟩⟩
abbrev RX0 : String := "ChainDesk$Chain"
def TX0 : u_T := fun k => match k with
  | 0 => ("ChainDesk$Chain", "wholes", "[I", true)
  | 1 => ("ChainDesk$Chain", "lefts", "[I", true)
  | 2 => ("ChainDesk$Chain", "parts", "[I", true)
  | 3 => ("ChainDesk$Chain", "ends", "[Z", true)
  | _ => ("ChainDesk$Chain", "states", "I", false)
def tyX0 : Nat → FieldType := fun k => match k with
  | 0 => .array .int
  | 1 => .array .int
  | 2 => .array .int
  | 3 => .array .boolean
  | _ => .int
theorem nmX0 : ∀ a, a < 5 → ∀ b, b < 5 → a ≠ b → (TX0 a).2.1 ≠ (TX0 b).2.1 := by decide +kernel
theorem tyX0_ok : ∀ k, k < 5 → parseFieldDescriptor (TX0 k).2.2.1 = some (tyX0 k) := by decide +kernel
abbrev RX1 : String := "ChainDesk$Equations"
def TX1 : u_T := fun k => match k with
  | 0 => ("ChainDesk$Equations", "remainders", "LChainDesk$Remainders;", true)
  | 1 => ("ChainDesk$Equations", "cells", "[I", true)
  | 2 => ("ChainDesk$Equations", "answers", "[J", true)
  | 3 => ("ChainDesk$Equations", "states", "I", false)
  | _ => ("ChainDesk$Equations", "determinant", "J", false)
def tyX1 : Nat → FieldType := fun k => match k with
  | 0 => .object "ChainDesk$Remainders"
  | 1 => .array .int
  | 2 => .array .long
  | 3 => .int
  | _ => .long
theorem nmX1 : ∀ a, a < 5 → ∀ b, b < 5 → a ≠ b → (TX1 a).2.1 ≠ (TX1 b).2.1 := by decide +kernel
theorem tyX1_ok : ∀ k, k < 5 → parseFieldDescriptor (TX1 k).2.2.1 = some (tyX1 k) := by decide +kernel
abbrev RX2 : String := "ChainDesk$LeastTerms"
def TX2 : u_T := fun k => match k with
  | 0 => ("ChainDesk$LeastTerms", "above", "LChainDesk$Natural;", true)
  | 1 => ("ChainDesk$LeastTerms", "below", "LChainDesk$Natural;", true)
  | 2 => ("ChainDesk$LeastTerms", "one", "LChainDesk$Natural;", true)
  | _ => ("ChainDesk$LeastTerms", "other", "LChainDesk$Natural;", true)
def tyX2 : Nat → FieldType := fun k => match k with
  | 0 => .object "ChainDesk$Natural"
  | 1 => .object "ChainDesk$Natural"
  | 2 => .object "ChainDesk$Natural"
  | _ => .object "ChainDesk$Natural"
theorem nmX2 : ∀ a, a < 4 → ∀ b, b < 4 → a ≠ b → (TX2 a).2.1 ≠ (TX2 b).2.1 := by decide +kernel
theorem tyX2_ok : ∀ k, k < 4 → parseFieldDescriptor (TX2 k).2.2.1 = some (tyX2 k) := by decide +kernel
abbrev RX3 : String := "ChainDesk$Likelihoods"
def TX3 : u_T := fun k => match k with
  | 0 => ("ChainDesk$Likelihoods", "equations", "LChainDesk$Equations;", true)
  | 1 => ("ChainDesk$Likelihoods", "aboves", "[LChainDesk$Natural;", true)
  | 2 => ("ChainDesk$Likelihoods", "below", "LChainDesk$Natural;", true)
  | _ => ("ChainDesk$Likelihoods", "product", "LChainDesk$Natural;", true)
def tyX3 : Nat → FieldType := fun k => match k with
  | 0 => .object "ChainDesk$Equations"
  | 1 => .array (.object "ChainDesk$Natural")
  | 2 => .object "ChainDesk$Natural"
  | _ => .object "ChainDesk$Natural"
theorem nmX3 : ∀ a, a < 4 → ∀ b, b < 4 → a ≠ b → (TX3 a).2.1 ≠ (TX3 b).2.1 := by decide +kernel
theorem tyX3_ok : ∀ k, k < 4 → parseFieldDescriptor (TX3 k).2.2.1 = some (tyX3 k) := by decide +kernel
abbrev RX4 : String := "ChainDesk$Natural"
def TX4 : u_T := fun k => match k with
  | _ => ("ChainDesk$Natural", "limbs", "[I", true)
def tyX4 : Nat → FieldType := fun k => match k with
  | _ => .array .int
theorem nmX4 : ∀ a, a < 1 → ∀ b, b < 1 → a ≠ b → (TX4 a).2.1 ≠ (TX4 b).2.1 := by decide +kernel
theorem tyX4_ok : ∀ k, k < 1 → parseFieldDescriptor (TX4 k).2.2.1 = some (tyX4 k) := by decide +kernel
abbrev RX5 : String := "ChainDesk$Paper"
def TX5 : u_T := fun k => match k with
  | 0 => ("ChainDesk$Paper", "text", "[C", true)
  | _ => ("ChainDesk$Paper", "length", "I", false)
def tyX5 : Nat → FieldType := fun k => match k with
  | 0 => .array .char
  | _ => .int
theorem nmX5 : ∀ a, a < 2 → ∀ b, b < 2 → a ≠ b → (TX5 a).2.1 ≠ (TX5 b).2.1 := by decide +kernel
theorem tyX5_ok : ∀ k, k < 2 → parseFieldDescriptor (TX5 k).2.2.1 = some (tyX5 k) := by decide +kernel
abbrev RX6 : String := "ChainDesk$Remainders"
def TX6 : u_T := fun k => match k with
  | _ => ("ChainDesk$Remainders", "prime", "J", false)
def tyX6 : Nat → FieldType := fun k => match k with
  | _ => .long
theorem nmX6 : ∀ a, a < 1 → ∀ b, b < 1 → a ≠ b → (TX6 a).2.1 ≠ (TX6 b).2.1 := by decide +kernel
theorem tyX6_ok : ∀ k, k < 1 → parseFieldDescriptor (TX6 k).2.2.1 = some (tyX6 k) := by decide +kernel
abbrev RX7 : String := "ChainDesk"
def TX7 : u_T := fun k => match k with
  | 0 => ("ChainDesk", "chain", "LChainDesk$Chain;", true)
  | 1 => ("ChainDesk", "likelihoods", "LChainDesk$Likelihoods;", true)
  | 2 => ("ChainDesk", "leastTerms", "LChainDesk$LeastTerms;", true)
  | 3 => ("ChainDesk", "paper", "LChainDesk$Paper;", true)
  | 4 => ("ChainDesk", "rest", "LChainDesk$Natural;", true)
  | 5 => ("ChainDesk", "workedOut", "Z", false)
  | _ => ("ChainDesk", "reducedState", "I", false)
def tyX7 : Nat → FieldType := fun k => match k with
  | 0 => .object "ChainDesk$Chain"
  | 1 => .object "ChainDesk$Likelihoods"
  | 2 => .object "ChainDesk$LeastTerms"
  | 3 => .object "ChainDesk$Paper"
  | 4 => .object "ChainDesk$Natural"
  | 5 => .boolean
  | _ => .int
theorem nmX7 : ∀ a, a < 7 → ∀ b, b < 7 → a ≠ b → (TX7 a).2.1 ≠ (TX7 b).2.1 := by decide +kernel
theorem tyX7_ok : ∀ k, k < 7 → parseFieldDescriptor (TX7 k).2.2.1 = some (tyX7 k) := by decide +kernel
abbrev RX8 : String := "ChainDeskModel"
def TX8 : u_T := fun k => match k with
  | 0 => ("ChainDeskModel", "thrown", "I", false)
  | 1 => ("ChainDeskModel", "n", "I", false)
  | 2 => ("ChainDeskModel", "wholes", "[I", true)
  | 3 => ("ChainDeskModel", "parts", "[I", true)
  | 4 => ("ChainDeskModel", "has", "Z", false)
  | 5 => ("ChainDeskModel", "known", "I", false)
  | 6 => ("ChainDeskModel", "known31", "[J", true)
  | 7 => ("ChainDeskModel", "many", "I", false)
  | 8 => ("ChainDeskModel", "primes", "[J", true)
  | 9 => ("ChainDeskModel", "rests", "[J", true)
  | 10 => ("ChainDeskModel", "rows", "[J", true)
  | 11 => ("ChainDeskModel", "digits", "[J", true)
  | 12 => ("ChainDeskModel", "z", "[I", true)
  | 13 => ("ChainDeskModel", "out", "[I", true)
  | 14 => ("ChainDeskModel", "printed", "I", false)
  | _ => ("ChainDeskModel", "open", "[Z", true)
def tyX8 : Nat → FieldType := fun k => match k with
  | 0 => .int
  | 1 => .int
  | 2 => .array .int
  | 3 => .array .int
  | 4 => .boolean
  | 5 => .int
  | 6 => .array .long
  | 7 => .int
  | 8 => .array .long
  | 9 => .array .long
  | 10 => .array .long
  | 11 => .array .long
  | 12 => .array .int
  | 13 => .array .int
  | 14 => .int
  | _ => .array .boolean
theorem nmX8 : ∀ a, a < 16 → ∀ b, b < 16 → a ≠ b → (TX8 a).2.1 ≠ (TX8 b).2.1 := by decide +kernel
theorem tyX8_ok : ∀ k, k < 16 → parseFieldDescriptor (TX8 k).2.2.1 = some (tyX8 k) := by decide +kernel
abbrev RJ0 : String := "java/lang/Integer"
abbrev RJ1 : String := "java/lang/Math"
abbrev RL : String := "ChainDeskLaw"
abbrev vwCl : List vw_C := [(RX0, TX0, 5), (RX1, TX1, 5), (RX2, TX2, 4), (RX3, TX3, 4), (RX4, TX4, 1), (RX5, TX5, 2), (RX6, TX6, 1), (RX7, TX7, 7), (RX8, TX8, 16)]
/-- the steady words of the tables -/
def WG : List Cond := lw_tbl.filter goodWord
theorem wg_in {w : Cond} (h : w ∈ lw_tbl) (g : goodWord w = true) : w ∈ WG := List.mem_filter.mpr ⟨h, g⟩
theorem wg_t {w : Cond} {i : Nat} (h : tables_1[i]? = some w) (g : goodWord w = true) : w ∈ WG := wg_in (List.mem_append_right _ (List.mem_of_getElem? h)) g
theorem wg_s {w : Cond} {i : Nat} (h : (k2_sels lw_privs)[i]? = some w) (g : goodWord w = true) : w ∈ WG := wg_in (List.mem_append_left _ (List.mem_of_getElem? h)) g
theorem wg_good {w : Cond} (h : w ∈ WG) : (w.onTables && w.keeps) = true ∨ ∃ ty, w = .arrayClass ty := good_of_word (List.mem_filter.mp h).2
theorem wg_tbl {w : Cond} (h : w ∈ WG) : w ∈ lw_tbl := (List.mem_filter.mp h).1
