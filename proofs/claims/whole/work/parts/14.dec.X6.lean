abbrev cX6_init : ByteArray := prog_8_method_1_code
def yX6_init : MethodName := ⟨"ChainDesk$Remainders", "<init>", "()V"⟩
def wX6_init : List Cond := .code yX6_init cX6_init 1 (Option.none : Option Jvm.ClassFile.FieldType) :: WG
theorem dX6_init_0 : decode cX6_init 0 = .ok (.aload_n 0, 1) := by decide +kernel
theorem dX6_init_1 : decode cX6_init 1 = .ok (.invokespecial 1, 3) := by decide +kernel
theorem dX6_init_4 : decode cX6_init 4 = .ok (.aload_n 0, 1) := by decide +kernel
theorem dX6_init_5 : decode cX6_init 5 = .ok (.ldc2_w 7, 3) := by decide +kernel
theorem dX6_init_8 : decode cX6_init 8 = .ok (.putfield 9, 3) := by decide +kernel
theorem dX6_init_11 : decode cX6_init 11 = .ok (.return_, 1) := by decide +kernel
abbrev cX6_minus : ByteArray := prog_8_method_2_code
def yX6_minus : MethodName := ⟨"ChainDesk$Remainders", "minus", "(JJ)J"⟩
def wX6_minus : List Cond := .code yX6_minus cX6_minus 5 (Option.some Jvm.ClassFile.FieldType.long) :: WG
theorem dX6_minus_0 : decode cX6_minus 0 = .ok (.lload_n 1, 1) := by decide +kernel
theorem dX6_minus_1 : decode cX6_minus 1 = .ok (.lload_n 3, 1) := by decide +kernel
theorem dX6_minus_2 : decode cX6_minus 2 = .ok (.lcmp, 1) := by decide +kernel
theorem dX6_minus_3 : decode cX6_minus 3 = .ok (.ifCond .lt 9, 3) := by decide +kernel
theorem dX6_minus_6 : decode cX6_minus 6 = .ok (.lload_n 1, 1) := by decide +kernel
theorem dX6_minus_7 : decode cX6_minus 7 = .ok (.lload_n 3, 1) := by decide +kernel
theorem dX6_minus_8 : decode cX6_minus 8 = .ok (.lsub, 1) := by decide +kernel
theorem dX6_minus_9 : decode cX6_minus 9 = .ok (.goto 11, 3) := by decide +kernel
theorem dX6_minus_12 : decode cX6_minus 12 = .ok (.lload_n 1, 1) := by decide +kernel
theorem dX6_minus_13 : decode cX6_minus 13 = .ok (.lload_n 3, 1) := by decide +kernel
theorem dX6_minus_14 : decode cX6_minus 14 = .ok (.lsub, 1) := by decide +kernel
theorem dX6_minus_15 : decode cX6_minus 15 = .ok (.aload_n 0, 1) := by decide +kernel
theorem dX6_minus_16 : decode cX6_minus 16 = .ok (.getfield 9, 3) := by decide +kernel
theorem dX6_minus_19 : decode cX6_minus 19 = .ok (.ladd, 1) := by decide +kernel
theorem dX6_minus_20 : decode cX6_minus 20 = .ok (.lreturn, 1) := by decide +kernel
abbrev cX6_times : ByteArray := prog_8_method_3_code
def yX6_times : MethodName := ⟨"ChainDesk$Remainders", "times", "(JJ)J"⟩
def wX6_times : List Cond := .code yX6_times cX6_times 5 (Option.some Jvm.ClassFile.FieldType.long) :: WG
theorem dX6_times_0 : decode cX6_times 0 = .ok (.aload_n 0, 1) := by decide +kernel
theorem dX6_times_1 : decode cX6_times 1 = .ok (.lconst 0, 1) := by decide +kernel
theorem dX6_times_2 : decode cX6_times 2 = .ok (.lload_n 1, 1) := by decide +kernel
theorem dX6_times_3 : decode cX6_times 3 = .ok (.lload_n 3, 1) := by decide +kernel
theorem dX6_times_4 : decode cX6_times 4 = .ok (.invokevirtual 15, 3) := by decide +kernel
theorem dX6_times_7 : decode cX6_times 7 = .ok (.lreturn, 1) := by decide +kernel
abbrev cX6_plusTimes : ByteArray := prog_8_method_4_code
def yX6_plusTimes : MethodName := ⟨"ChainDesk$Remainders", "plusTimes", "(JJJ)J"⟩
def wX6_plusTimes : List Cond := .code yX6_plusTimes cX6_plusTimes 7 (Option.some Jvm.ClassFile.FieldType.long) :: WG
theorem dX6_plusTimes_0 : decode cX6_plusTimes 0 = .ok (.aload_n 0, 1) := by decide +kernel
theorem dX6_plusTimes_1 : decode cX6_plusTimes 1 = .ok (.getfield 9, 3) := by decide +kernel
theorem dX6_plusTimes_4 : decode cX6_plusTimes 4 = .ok (.lconst 0, 1) := by decide +kernel
theorem dX6_plusTimes_5 : decode cX6_plusTimes 5 = .ok (.lcmp, 1) := by decide +kernel
theorem dX6_plusTimes_6 : decode cX6_plusTimes 6 = .ok (.ifCond .le 17, 3) := by decide +kernel
theorem dX6_plusTimes_9 : decode cX6_plusTimes 9 = .ok (.lload_n 1, 1) := by decide +kernel
theorem dX6_plusTimes_10 : decode cX6_plusTimes 10 = .ok (.lload_n 3, 1) := by decide +kernel
theorem dX6_plusTimes_11 : decode cX6_plusTimes 11 = .ok (.lload 5, 2) := by decide +kernel
theorem dX6_plusTimes_13 : decode cX6_plusTimes 13 = .ok (.lmul, 1) := by decide +kernel
theorem dX6_plusTimes_14 : decode cX6_plusTimes 14 = .ok (.ladd, 1) := by decide +kernel
theorem dX6_plusTimes_15 : decode cX6_plusTimes 15 = .ok (.aload_n 0, 1) := by decide +kernel
theorem dX6_plusTimes_16 : decode cX6_plusTimes 16 = .ok (.getfield 9, 3) := by decide +kernel
theorem dX6_plusTimes_19 : decode cX6_plusTimes 19 = .ok (.lrem, 1) := by decide +kernel
theorem dX6_plusTimes_20 : decode cX6_plusTimes 20 = .ok (.goto 4, 3) := by decide +kernel
theorem dX6_plusTimes_23 : decode cX6_plusTimes 23 = .ok (.lconst 0, 1) := by decide +kernel
theorem dX6_plusTimes_24 : decode cX6_plusTimes 24 = .ok (.lreturn, 1) := by decide +kernel
abbrev cX6_inverse : ByteArray := prog_8_method_5_code
def yX6_inverse : MethodName := ⟨"ChainDesk$Remainders", "inverse", "(J)J"⟩
def wX6_inverse : List Cond := .code yX6_inverse cX6_inverse 9 (Option.some Jvm.ClassFile.FieldType.long) :: WG
theorem dX6_inverse_0 : decode cX6_inverse 0 = .ok (.lconst 1, 1) := by decide +kernel
theorem dX6_inverse_1 : decode cX6_inverse 1 = .ok (.lstore_n 3, 1) := by decide +kernel
theorem dX6_inverse_2 : decode cX6_inverse 2 = .ok (.lload_n 1, 1) := by decide +kernel
theorem dX6_inverse_3 : decode cX6_inverse 3 = .ok (.lstore 5, 2) := by decide +kernel
theorem dX6_inverse_5 : decode cX6_inverse 5 = .ok (.aload_n 0, 1) := by decide +kernel
theorem dX6_inverse_6 : decode cX6_inverse 6 = .ok (.getfield 9, 3) := by decide +kernel
theorem dX6_inverse_9 : decode cX6_inverse 9 = .ok (.ldc2_w 7, 3) := by decide +kernel
theorem dX6_inverse_12 : decode cX6_inverse 12 = .ok (.lsub, 1) := by decide +kernel
theorem dX6_inverse_13 : decode cX6_inverse 13 = .ok (.lstore 7, 2) := by decide +kernel
theorem dX6_inverse_15 : decode cX6_inverse 15 = .ok (.lload 7, 2) := by decide +kernel
theorem dX6_inverse_17 : decode cX6_inverse 17 = .ok (.lconst 0, 1) := by decide +kernel
theorem dX6_inverse_18 : decode cX6_inverse 18 = .ok (.lcmp, 1) := by decide +kernel
theorem dX6_inverse_19 : decode cX6_inverse 19 = .ok (.ifCond .le 39, 3) := by decide +kernel
theorem dX6_inverse_22 : decode cX6_inverse 22 = .ok (.lload 7, 2) := by decide +kernel
theorem dX6_inverse_24 : decode cX6_inverse 24 = .ok (.lconst 1, 1) := by decide +kernel
theorem dX6_inverse_25 : decode cX6_inverse 25 = .ok (.land, 1) := by decide +kernel
theorem dX6_inverse_26 : decode cX6_inverse 26 = .ok (.lconst 1, 1) := by decide +kernel
theorem dX6_inverse_27 : decode cX6_inverse 27 = .ok (.lcmp, 1) := by decide +kernel
theorem dX6_inverse_28 : decode cX6_inverse 28 = .ok (.ifCond .ne 11, 3) := by decide +kernel
theorem dX6_inverse_31 : decode cX6_inverse 31 = .ok (.aload_n 0, 1) := by decide +kernel
theorem dX6_inverse_32 : decode cX6_inverse 32 = .ok (.lload_n 3, 1) := by decide +kernel
theorem dX6_inverse_33 : decode cX6_inverse 33 = .ok (.lload 5, 2) := by decide +kernel
theorem dX6_inverse_35 : decode cX6_inverse 35 = .ok (.invokevirtual 19, 3) := by decide +kernel
theorem dX6_inverse_38 : decode cX6_inverse 38 = .ok (.lstore_n 3, 1) := by decide +kernel
theorem dX6_inverse_39 : decode cX6_inverse 39 = .ok (.aload_n 0, 1) := by decide +kernel
theorem dX6_inverse_40 : decode cX6_inverse 40 = .ok (.lload 5, 2) := by decide +kernel
theorem dX6_inverse_42 : decode cX6_inverse 42 = .ok (.lload 5, 2) := by decide +kernel
theorem dX6_inverse_44 : decode cX6_inverse 44 = .ok (.invokevirtual 19, 3) := by decide +kernel
theorem dX6_inverse_47 : decode cX6_inverse 47 = .ok (.lstore 5, 2) := by decide +kernel
theorem dX6_inverse_49 : decode cX6_inverse 49 = .ok (.lload 7, 2) := by decide +kernel
theorem dX6_inverse_51 : decode cX6_inverse 51 = .ok (.iconst 1, 1) := by decide +kernel
theorem dX6_inverse_52 : decode cX6_inverse 52 = .ok (.lshr, 1) := by decide +kernel
theorem dX6_inverse_53 : decode cX6_inverse 53 = .ok (.lstore 7, 2) := by decide +kernel
theorem dX6_inverse_55 : decode cX6_inverse 55 = .ok (.goto (-40), 3) := by decide +kernel
theorem dX6_inverse_58 : decode cX6_inverse 58 = .ok (.lload_n 3, 1) := by decide +kernel
theorem dX6_inverse_59 : decode cX6_inverse 59 = .ok (.lreturn, 1) := by decide +kernel
