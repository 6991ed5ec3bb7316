abbrev cX0_init : ByteArray := prog_2_method_1_code
def yX0_init : MethodName := ⟨"ChainDesk$Chain", "<init>", "()V"⟩
def wX0_init : List Cond := .code yX0_init cX0_init 1 (Option.none : Option Jvm.ClassFile.FieldType) :: WG
theorem dX0_init_0 : decode cX0_init 0 = .ok (.aload_n 0, 1) := by decide +kernel
theorem dX0_init_1 : decode cX0_init 1 = .ok (.invokespecial 3, 3) := by decide +kernel
theorem dX0_init_4 : decode cX0_init 4 = .ok (.aload_n 0, 1) := by decide +kernel
theorem dX0_init_5 : decode cX0_init 5 = .ok (.bipush 40, 2) := by decide +kernel
theorem dX0_init_7 : decode cX0_init 7 = .ok (.newarray .int, 2) := by decide +kernel
theorem dX0_init_9 : decode cX0_init 9 = .ok (.putfield 9, 3) := by decide +kernel
theorem dX0_init_12 : decode cX0_init 12 = .ok (.aload_n 0, 1) := by decide +kernel
theorem dX0_init_13 : decode cX0_init 13 = .ok (.bipush 40, 2) := by decide +kernel
theorem dX0_init_15 : decode cX0_init 15 = .ok (.newarray .int, 2) := by decide +kernel
theorem dX0_init_17 : decode cX0_init 17 = .ok (.putfield 15, 3) := by decide +kernel
theorem dX0_init_20 : decode cX0_init 20 = .ok (.aload_n 0, 1) := by decide +kernel
theorem dX0_init_21 : decode cX0_init 21 = .ok (.sipush 1640, 3) := by decide +kernel
theorem dX0_init_24 : decode cX0_init 24 = .ok (.newarray .int, 2) := by decide +kernel
theorem dX0_init_26 : decode cX0_init 26 = .ok (.putfield 18, 3) := by decide +kernel
theorem dX0_init_29 : decode cX0_init 29 = .ok (.aload_n 0, 1) := by decide +kernel
theorem dX0_init_30 : decode cX0_init 30 = .ok (.bipush 40, 2) := by decide +kernel
theorem dX0_init_32 : decode cX0_init 32 = .ok (.newarray .boolean, 2) := by decide +kernel
theorem dX0_init_34 : decode cX0_init 34 = .ok (.putfield 21, 3) := by decide +kernel
theorem dX0_init_37 : decode cX0_init 37 = .ok (.aload_n 0, 1) := by decide +kernel
theorem dX0_init_38 : decode cX0_init 38 = .ok (.iconst 1, 1) := by decide +kernel
theorem dX0_init_39 : decode cX0_init 39 = .ok (.putfield 25, 3) := by decide +kernel
theorem dX0_init_42 : decode cX0_init 42 = .ok (.aload_n 0, 1) := by decide +kernel
theorem dX0_init_43 : decode cX0_init 43 = .ok (.getfield 9, 3) := by decide +kernel
theorem dX0_init_46 : decode cX0_init 46 = .ok (.iconst 0, 1) := by decide +kernel
theorem dX0_init_47 : decode cX0_init 47 = .ok (.iconst 1, 1) := by decide +kernel
theorem dX0_init_48 : decode cX0_init 48 = .ok (.iastore, 1) := by decide +kernel
theorem dX0_init_49 : decode cX0_init 49 = .ok (.aload_n 0, 1) := by decide +kernel
theorem dX0_init_50 : decode cX0_init 50 = .ok (.getfield 15, 3) := by decide +kernel
theorem dX0_init_53 : decode cX0_init 53 = .ok (.iconst 0, 1) := by decide +kernel
theorem dX0_init_54 : decode cX0_init 54 = .ok (.iconst 1, 1) := by decide +kernel
theorem dX0_init_55 : decode cX0_init 55 = .ok (.iastore, 1) := by decide +kernel
theorem dX0_init_56 : decode cX0_init 56 = .ok (.return_, 1) := by decide +kernel
abbrev cX0_weight : ByteArray := prog_2_method_8_code
def yX0_weight : MethodName := ⟨"ChainDesk$Chain", "weight", "()I"⟩
def wX0_weight : List Cond := .code yX0_weight cX0_weight 3 (Option.some Jvm.ClassFile.FieldType.int) :: WG
theorem dX0_weight_0 : decode cX0_weight 0 = .ok (.iconst 0, 1) := by decide +kernel
theorem dX0_weight_1 : decode cX0_weight 1 = .ok (.istore_n 1, 1) := by decide +kernel
theorem dX0_weight_2 : decode cX0_weight 2 = .ok (.iconst 0, 1) := by decide +kernel
theorem dX0_weight_3 : decode cX0_weight 3 = .ok (.istore_n 2, 1) := by decide +kernel
theorem dX0_weight_4 : decode cX0_weight 4 = .ok (.iload_n 2, 1) := by decide +kernel
theorem dX0_weight_5 : decode cX0_weight 5 = .ok (.aload_n 0, 1) := by decide +kernel
theorem dX0_weight_6 : decode cX0_weight 6 = .ok (.getfield 25, 3) := by decide +kernel
theorem dX0_weight_9 : decode cX0_weight 9 = .ok (.if_icmp .ge 21, 3) := by decide +kernel
theorem dX0_weight_12 : decode cX0_weight 12 = .ok (.iload_n 1, 1) := by decide +kernel
theorem dX0_weight_13 : decode cX0_weight 13 = .ok (.aload_n 0, 1) := by decide +kernel
theorem dX0_weight_14 : decode cX0_weight 14 = .ok (.getfield 9, 3) := by decide +kernel
theorem dX0_weight_17 : decode cX0_weight 17 = .ok (.iload_n 2, 1) := by decide +kernel
theorem dX0_weight_18 : decode cX0_weight 18 = .ok (.iaload, 1) := by decide +kernel
theorem dX0_weight_19 : decode cX0_weight 19 = .ok (.invokestatic 37, 3) := by decide +kernel
theorem dX0_weight_22 : decode cX0_weight 22 = .ok (.iadd, 1) := by decide +kernel
theorem dX0_weight_23 : decode cX0_weight 23 = .ok (.istore_n 1, 1) := by decide +kernel
theorem dX0_weight_24 : decode cX0_weight 24 = .ok (.iinc 2 1, 3) := by decide +kernel
theorem dX0_weight_27 : decode cX0_weight 27 = .ok (.goto (-23), 3) := by decide +kernel
theorem dX0_weight_30 : decode cX0_weight 30 = .ok (.iload_n 1, 1) := by decide +kernel
theorem dX0_weight_31 : decode cX0_weight 31 = .ok (.ireturn, 1) := by decide +kernel
abbrev cX0_weightOf : ByteArray := prog_2_method_9_code
def yX0_weightOf : MethodName := ⟨"ChainDesk$Chain", "weightOf", "(I)I"⟩
def wX0_weightOf : List Cond := .code yX0_weightOf cX0_weightOf 2 (Option.some Jvm.ClassFile.FieldType.int) :: WG
theorem dX0_weightOf_0 : decode cX0_weightOf 0 = .ok (.iconst 1, 1) := by decide +kernel
theorem dX0_weightOf_1 : decode cX0_weightOf 1 = .ok (.istore_n 1, 1) := by decide +kernel
theorem dX0_weightOf_2 : decode cX0_weightOf 2 = .ok (.iload_n 1, 1) := by decide +kernel
theorem dX0_weightOf_3 : decode cX0_weightOf 3 = .ok (.bipush 31, 2) := by decide +kernel
theorem dX0_weightOf_5 : decode cX0_weightOf 5 = .ok (.if_icmp .ge 22, 3) := by decide +kernel
theorem dX0_weightOf_8 : decode cX0_weightOf 8 = .ok (.lconst 1, 1) := by decide +kernel
theorem dX0_weightOf_9 : decode cX0_weightOf 9 = .ok (.iload_n 1, 1) := by decide +kernel
theorem dX0_weightOf_10 : decode cX0_weightOf 10 = .ok (.lshl, 1) := by decide +kernel
theorem dX0_weightOf_11 : decode cX0_weightOf 11 = .ok (.ldc2_w 41, 3) := by decide +kernel
theorem dX0_weightOf_14 : decode cX0_weightOf 14 = .ok (.iload_n 0, 1) := by decide +kernel
theorem dX0_weightOf_15 : decode cX0_weightOf 15 = .ok (.i2l, 1) := by decide +kernel
theorem dX0_weightOf_16 : decode cX0_weightOf 16 = .ok (.lmul, 1) := by decide +kernel
theorem dX0_weightOf_17 : decode cX0_weightOf 17 = .ok (.lcmp, 1) := by decide +kernel
theorem dX0_weightOf_18 : decode cX0_weightOf 18 = .ok (.ifCond .ge 9, 3) := by decide +kernel
theorem dX0_weightOf_21 : decode cX0_weightOf 21 = .ok (.iinc 1 1, 3) := by decide +kernel
theorem dX0_weightOf_24 : decode cX0_weightOf 24 = .ok (.goto (-22), 3) := by decide +kernel
theorem dX0_weightOf_27 : decode cX0_weightOf 27 = .ok (.iload_n 1, 1) := by decide +kernel
theorem dX0_weightOf_28 : decode cX0_weightOf 28 = .ok (.ireturn, 1) := by decide +kernel
abbrev cX0_isStuck : ByteArray := prog_2_method_10_code
def yX0_isStuck : MethodName := ⟨"ChainDesk$Chain", "isStuck", "()Z"⟩
def wX0_isStuck : List Cond := .code yX0_isStuck cX0_isStuck 4 (Option.some Jvm.ClassFile.FieldType.boolean) :: WG
theorem dX0_isStuck_0 : decode cX0_isStuck 0 = .ok (.iconst 0, 1) := by decide +kernel
theorem dX0_isStuck_1 : decode cX0_isStuck 1 = .ok (.istore_n 1, 1) := by decide +kernel
theorem dX0_isStuck_2 : decode cX0_isStuck 2 = .ok (.iload_n 1, 1) := by decide +kernel
theorem dX0_isStuck_3 : decode cX0_isStuck 3 = .ok (.aload_n 0, 1) := by decide +kernel
theorem dX0_isStuck_4 : decode cX0_isStuck 4 = .ok (.getfield 25, 3) := by decide +kernel
theorem dX0_isStuck_7 : decode cX0_isStuck 7 = .ok (.if_icmp .ge 16, 3) := by decide +kernel
theorem dX0_isStuck_10 : decode cX0_isStuck 10 = .ok (.aload_n 0, 1) := by decide +kernel
theorem dX0_isStuck_11 : decode cX0_isStuck 11 = .ok (.getfield 21, 3) := by decide +kernel
theorem dX0_isStuck_14 : decode cX0_isStuck 14 = .ok (.iload_n 1, 1) := by decide +kernel
theorem dX0_isStuck_15 : decode cX0_isStuck 15 = .ok (.iconst 0, 1) := by decide +kernel
theorem dX0_isStuck_16 : decode cX0_isStuck 16 = .ok (.bastore, 1) := by decide +kernel
theorem dX0_isStuck_17 : decode cX0_isStuck 17 = .ok (.iinc 1 1, 3) := by decide +kernel
theorem dX0_isStuck_20 : decode cX0_isStuck 20 = .ok (.goto (-18), 3) := by decide +kernel
theorem dX0_isStuck_23 : decode cX0_isStuck 23 = .ok (.iconst 0, 1) := by decide +kernel
theorem dX0_isStuck_24 : decode cX0_isStuck 24 = .ok (.istore_n 1, 1) := by decide +kernel
theorem dX0_isStuck_25 : decode cX0_isStuck 25 = .ok (.iconst 0, 1) := by decide +kernel
theorem dX0_isStuck_26 : decode cX0_isStuck 26 = .ok (.istore_n 2, 1) := by decide +kernel
theorem dX0_isStuck_27 : decode cX0_isStuck 27 = .ok (.iload_n 2, 1) := by decide +kernel
theorem dX0_isStuck_28 : decode cX0_isStuck 28 = .ok (.aload_n 0, 1) := by decide +kernel
theorem dX0_isStuck_29 : decode cX0_isStuck 29 = .ok (.getfield 25, 3) := by decide +kernel
theorem dX0_isStuck_32 : decode cX0_isStuck 32 = .ok (.if_icmp .ge 60, 3) := by decide +kernel
theorem dX0_isStuck_35 : decode cX0_isStuck 35 = .ok (.iload_n 1, 1) := by decide +kernel
theorem dX0_isStuck_36 : decode cX0_isStuck 36 = .ok (.aload_n 0, 1) := by decide +kernel
theorem dX0_isStuck_37 : decode cX0_isStuck 37 = .ok (.getfield 25, 3) := by decide +kernel
theorem dX0_isStuck_40 : decode cX0_isStuck 40 = .ok (.if_icmp .ge 52, 3) := by decide +kernel
theorem dX0_isStuck_43 : decode cX0_isStuck 43 = .ok (.iconst 0, 1) := by decide +kernel
theorem dX0_isStuck_44 : decode cX0_isStuck 44 = .ok (.istore_n 3, 1) := by decide +kernel
theorem dX0_isStuck_45 : decode cX0_isStuck 45 = .ok (.iload_n 3, 1) := by decide +kernel
theorem dX0_isStuck_46 : decode cX0_isStuck 46 = .ok (.aload_n 0, 1) := by decide +kernel
theorem dX0_isStuck_47 : decode cX0_isStuck 47 = .ok (.getfield 25, 3) := by decide +kernel
theorem dX0_isStuck_50 : decode cX0_isStuck 50 = .ok (.if_icmp .ge 36, 3) := by decide +kernel
theorem dX0_isStuck_53 : decode cX0_isStuck 53 = .ok (.aload_n 0, 1) := by decide +kernel
theorem dX0_isStuck_54 : decode cX0_isStuck 54 = .ok (.getfield 21, 3) := by decide +kernel
theorem dX0_isStuck_57 : decode cX0_isStuck 57 = .ok (.iload_n 3, 1) := by decide +kernel
theorem dX0_isStuck_58 : decode cX0_isStuck 58 = .ok (.baload, 1) := by decide +kernel
theorem dX0_isStuck_59 : decode cX0_isStuck 59 = .ok (.ifCond .ne 21, 3) := by decide +kernel
theorem dX0_isStuck_62 : decode cX0_isStuck 62 = .ok (.aload_n 0, 1) := by decide +kernel
theorem dX0_isStuck_63 : decode cX0_isStuck 63 = .ok (.iload_n 3, 1) := by decide +kernel
theorem dX0_isStuck_64 : decode cX0_isStuck 64 = .ok (.invokevirtual 43, 3) := by decide +kernel
theorem dX0_isStuck_67 : decode cX0_isStuck 67 = .ok (.ifCond .eq 13, 3) := by decide +kernel
theorem dX0_isStuck_70 : decode cX0_isStuck 70 = .ok (.aload_n 0, 1) := by decide +kernel
theorem dX0_isStuck_71 : decode cX0_isStuck 71 = .ok (.getfield 21, 3) := by decide +kernel
theorem dX0_isStuck_74 : decode cX0_isStuck 74 = .ok (.iload_n 3, 1) := by decide +kernel
theorem dX0_isStuck_75 : decode cX0_isStuck 75 = .ok (.iconst 1, 1) := by decide +kernel
theorem dX0_isStuck_76 : decode cX0_isStuck 76 = .ok (.bastore, 1) := by decide +kernel
theorem dX0_isStuck_77 : decode cX0_isStuck 77 = .ok (.iinc 1 1, 3) := by decide +kernel
theorem dX0_isStuck_80 : decode cX0_isStuck 80 = .ok (.iinc 3 1, 3) := by decide +kernel
theorem dX0_isStuck_83 : decode cX0_isStuck 83 = .ok (.goto (-38), 3) := by decide +kernel
theorem dX0_isStuck_86 : decode cX0_isStuck 86 = .ok (.iinc 2 1, 3) := by decide +kernel
theorem dX0_isStuck_89 : decode cX0_isStuck 89 = .ok (.goto (-62), 3) := by decide +kernel
theorem dX0_isStuck_92 : decode cX0_isStuck 92 = .ok (.iload_n 1, 1) := by decide +kernel
theorem dX0_isStuck_93 : decode cX0_isStuck 93 = .ok (.aload_n 0, 1) := by decide +kernel
theorem dX0_isStuck_94 : decode cX0_isStuck 94 = .ok (.getfield 25, 3) := by decide +kernel
theorem dX0_isStuck_97 : decode cX0_isStuck 97 = .ok (.if_icmp .ge 7, 3) := by decide +kernel
theorem dX0_isStuck_100 : decode cX0_isStuck 100 = .ok (.iconst 1, 1) := by decide +kernel
theorem dX0_isStuck_101 : decode cX0_isStuck 101 = .ok (.goto 4, 3) := by decide +kernel
theorem dX0_isStuck_104 : decode cX0_isStuck 104 = .ok (.iconst 0, 1) := by decide +kernel
theorem dX0_isStuck_105 : decode cX0_isStuck 105 = .ok (.ireturn, 1) := by decide +kernel
abbrev cX0_canEnd : ByteArray := prog_2_method_11_code
def yX0_canEnd : MethodName := ⟨"ChainDesk$Chain", "canEnd", "(I)Z"⟩
def wX0_canEnd : List Cond := .code yX0_canEnd cX0_canEnd 3 (Option.some Jvm.ClassFile.FieldType.boolean) :: WG
theorem dX0_canEnd_0 : decode cX0_canEnd 0 = .ok (.aload_n 0, 1) := by decide +kernel
theorem dX0_canEnd_1 : decode cX0_canEnd 1 = .ok (.getfield 15, 3) := by decide +kernel
theorem dX0_canEnd_4 : decode cX0_canEnd 4 = .ok (.iload_n 1, 1) := by decide +kernel
theorem dX0_canEnd_5 : decode cX0_canEnd 5 = .ok (.iaload, 1) := by decide +kernel
theorem dX0_canEnd_6 : decode cX0_canEnd 6 = .ok (.ifCond .gt 20, 3) := by decide +kernel
theorem dX0_canEnd_9 : decode cX0_canEnd 9 = .ok (.aload_n 0, 1) := by decide +kernel
theorem dX0_canEnd_10 : decode cX0_canEnd 10 = .ok (.getfield 18, 3) := by decide +kernel
theorem dX0_canEnd_13 : decode cX0_canEnd 13 = .ok (.iload_n 1, 1) := by decide +kernel
theorem dX0_canEnd_14 : decode cX0_canEnd 14 = .ok (.bipush 41, 2) := by decide +kernel
theorem dX0_canEnd_16 : decode cX0_canEnd 16 = .ok (.imul, 1) := by decide +kernel
theorem dX0_canEnd_17 : decode cX0_canEnd 17 = .ok (.aload_n 0, 1) := by decide +kernel
theorem dX0_canEnd_18 : decode cX0_canEnd 18 = .ok (.getfield 25, 3) := by decide +kernel
theorem dX0_canEnd_21 : decode cX0_canEnd 21 = .ok (.iadd, 1) := by decide +kernel
theorem dX0_canEnd_22 : decode cX0_canEnd 22 = .ok (.iaload, 1) := by decide +kernel
theorem dX0_canEnd_23 : decode cX0_canEnd 23 = .ok (.ifCond .le 5, 3) := by decide +kernel
theorem dX0_canEnd_26 : decode cX0_canEnd 26 = .ok (.iconst 1, 1) := by decide +kernel
theorem dX0_canEnd_27 : decode cX0_canEnd 27 = .ok (.ireturn, 1) := by decide +kernel
theorem dX0_canEnd_28 : decode cX0_canEnd 28 = .ok (.iconst 0, 1) := by decide +kernel
theorem dX0_canEnd_29 : decode cX0_canEnd 29 = .ok (.istore_n 2, 1) := by decide +kernel
theorem dX0_canEnd_30 : decode cX0_canEnd 30 = .ok (.iload_n 2, 1) := by decide +kernel
theorem dX0_canEnd_31 : decode cX0_canEnd 31 = .ok (.aload_n 0, 1) := by decide +kernel
theorem dX0_canEnd_32 : decode cX0_canEnd 32 = .ok (.getfield 25, 3) := by decide +kernel
theorem dX0_canEnd_35 : decode cX0_canEnd 35 = .ok (.if_icmp .ge 34, 3) := by decide +kernel
theorem dX0_canEnd_38 : decode cX0_canEnd 38 = .ok (.aload_n 0, 1) := by decide +kernel
theorem dX0_canEnd_39 : decode cX0_canEnd 39 = .ok (.getfield 21, 3) := by decide +kernel
theorem dX0_canEnd_42 : decode cX0_canEnd 42 = .ok (.iload_n 2, 1) := by decide +kernel
theorem dX0_canEnd_43 : decode cX0_canEnd 43 = .ok (.baload, 1) := by decide +kernel
theorem dX0_canEnd_44 : decode cX0_canEnd 44 = .ok (.ifCond .eq 19, 3) := by decide +kernel
theorem dX0_canEnd_47 : decode cX0_canEnd 47 = .ok (.aload_n 0, 1) := by decide +kernel
theorem dX0_canEnd_48 : decode cX0_canEnd 48 = .ok (.getfield 18, 3) := by decide +kernel
theorem dX0_canEnd_51 : decode cX0_canEnd 51 = .ok (.iload_n 1, 1) := by decide +kernel
theorem dX0_canEnd_52 : decode cX0_canEnd 52 = .ok (.bipush 41, 2) := by decide +kernel
theorem dX0_canEnd_54 : decode cX0_canEnd 54 = .ok (.imul, 1) := by decide +kernel
theorem dX0_canEnd_55 : decode cX0_canEnd 55 = .ok (.iload_n 2, 1) := by decide +kernel
theorem dX0_canEnd_56 : decode cX0_canEnd 56 = .ok (.iadd, 1) := by decide +kernel
theorem dX0_canEnd_57 : decode cX0_canEnd 57 = .ok (.iaload, 1) := by decide +kernel
theorem dX0_canEnd_58 : decode cX0_canEnd 58 = .ok (.ifCond .le 5, 3) := by decide +kernel
theorem dX0_canEnd_61 : decode cX0_canEnd 61 = .ok (.iconst 1, 1) := by decide +kernel
theorem dX0_canEnd_62 : decode cX0_canEnd 62 = .ok (.ireturn, 1) := by decide +kernel
theorem dX0_canEnd_63 : decode cX0_canEnd 63 = .ok (.iinc 2 1, 3) := by decide +kernel
theorem dX0_canEnd_66 : decode cX0_canEnd 66 = .ok (.goto (-36), 3) := by decide +kernel
theorem dX0_canEnd_69 : decode cX0_canEnd 69 = .ok (.iconst 0, 1) := by decide +kernel
theorem dX0_canEnd_70 : decode cX0_canEnd 70 = .ok (.ireturn, 1) := by decide +kernel
abbrev cX0_hasState : ByteArray := prog_2_method_3_code
def yX0_hasState : MethodName := ⟨"ChainDesk$Chain", "hasState", "(I)Z"⟩
def wX0_hasState : List Cond := .code yX0_hasState cX0_hasState 2 (Option.some Jvm.ClassFile.FieldType.boolean) :: WG
theorem dX0_hasState_0 : decode cX0_hasState 0 = .ok (.iload_n 1, 1) := by decide +kernel
theorem dX0_hasState_1 : decode cX0_hasState 1 = .ok (.ifCond .lt 15, 3) := by decide +kernel
theorem dX0_hasState_4 : decode cX0_hasState 4 = .ok (.iload_n 1, 1) := by decide +kernel
theorem dX0_hasState_5 : decode cX0_hasState 5 = .ok (.aload_n 0, 1) := by decide +kernel
theorem dX0_hasState_6 : decode cX0_hasState 6 = .ok (.getfield 25, 3) := by decide +kernel
theorem dX0_hasState_9 : decode cX0_hasState 9 = .ok (.if_icmp .ge 7, 3) := by decide +kernel
theorem dX0_hasState_12 : decode cX0_hasState 12 = .ok (.iconst 1, 1) := by decide +kernel
theorem dX0_hasState_13 : decode cX0_hasState 13 = .ok (.goto 4, 3) := by decide +kernel
theorem dX0_hasState_16 : decode cX0_hasState 16 = .ok (.iconst 0, 1) := by decide +kernel
theorem dX0_hasState_17 : decode cX0_hasState 17 = .ok (.ireturn, 1) := by decide +kernel
abbrev cX0_restart : ByteArray := prog_2_method_2_code
def yX0_restart : MethodName := ⟨"ChainDesk$Chain", "restart", "(I)V"⟩
def wX0_restart : List Cond := .code yX0_restart cX0_restart 3 (Option.none : Option Jvm.ClassFile.FieldType) :: WG
theorem dX0_restart_0 : decode cX0_restart 0 = .ok (.aload_n 0, 1) := by decide +kernel
theorem dX0_restart_1 : decode cX0_restart 1 = .ok (.iload_n 1, 1) := by decide +kernel
theorem dX0_restart_2 : decode cX0_restart 2 = .ok (.putfield 25, 3) := by decide +kernel
theorem dX0_restart_5 : decode cX0_restart 5 = .ok (.iconst 0, 1) := by decide +kernel
theorem dX0_restart_6 : decode cX0_restart 6 = .ok (.istore_n 2, 1) := by decide +kernel
theorem dX0_restart_7 : decode cX0_restart 7 = .ok (.iload_n 2, 1) := by decide +kernel
theorem dX0_restart_8 : decode cX0_restart 8 = .ok (.iload_n 1, 1) := by decide +kernel
theorem dX0_restart_9 : decode cX0_restart 9 = .ok (.if_icmp .ge 15, 3) := by decide +kernel
theorem dX0_restart_12 : decode cX0_restart 12 = .ok (.aload_n 0, 1) := by decide +kernel
theorem dX0_restart_13 : decode cX0_restart 13 = .ok (.iload_n 2, 1) := by decide +kernel
theorem dX0_restart_14 : decode cX0_restart 14 = .ok (.iconst 1, 1) := by decide +kernel
theorem dX0_restart_15 : decode cX0_restart 15 = .ok (.invokevirtual 29, 3) := by decide +kernel
theorem dX0_restart_18 : decode cX0_restart 18 = .ok (.iinc 2 1, 3) := by decide +kernel
theorem dX0_restart_21 : decode cX0_restart 21 = .ok (.goto (-14), 3) := by decide +kernel
theorem dX0_restart_24 : decode cX0_restart 24 = .ok (.return_, 1) := by decide +kernel
abbrev cX0_resetState : ByteArray := prog_2_method_5_code
def yX0_resetState : MethodName := ⟨"ChainDesk$Chain", "resetState", "(II)V"⟩
def wX0_resetState : List Cond := .code yX0_resetState cX0_resetState 4 (Option.none : Option Jvm.ClassFile.FieldType) :: WG
theorem dX0_resetState_0 : decode cX0_resetState 0 = .ok (.aload_n 0, 1) := by decide +kernel
theorem dX0_resetState_1 : decode cX0_resetState 1 = .ok (.getfield 9, 3) := by decide +kernel
theorem dX0_resetState_4 : decode cX0_resetState 4 = .ok (.iload_n 1, 1) := by decide +kernel
theorem dX0_resetState_5 : decode cX0_resetState 5 = .ok (.iload_n 2, 1) := by decide +kernel
theorem dX0_resetState_6 : decode cX0_resetState 6 = .ok (.iastore, 1) := by decide +kernel
theorem dX0_resetState_7 : decode cX0_resetState 7 = .ok (.aload_n 0, 1) := by decide +kernel
theorem dX0_resetState_8 : decode cX0_resetState 8 = .ok (.getfield 15, 3) := by decide +kernel
theorem dX0_resetState_11 : decode cX0_resetState 11 = .ok (.iload_n 1, 1) := by decide +kernel
theorem dX0_resetState_12 : decode cX0_resetState 12 = .ok (.iload_n 2, 1) := by decide +kernel
theorem dX0_resetState_13 : decode cX0_resetState 13 = .ok (.iastore, 1) := by decide +kernel
theorem dX0_resetState_14 : decode cX0_resetState 14 = .ok (.iconst 0, 1) := by decide +kernel
theorem dX0_resetState_15 : decode cX0_resetState 15 = .ok (.istore_n 3, 1) := by decide +kernel
theorem dX0_resetState_16 : decode cX0_resetState 16 = .ok (.iload_n 3, 1) := by decide +kernel
theorem dX0_resetState_17 : decode cX0_resetState 17 = .ok (.bipush 41, 2) := by decide +kernel
theorem dX0_resetState_19 : decode cX0_resetState 19 = .ok (.if_icmp .ge 21, 3) := by decide +kernel
theorem dX0_resetState_22 : decode cX0_resetState 22 = .ok (.aload_n 0, 1) := by decide +kernel
theorem dX0_resetState_23 : decode cX0_resetState 23 = .ok (.getfield 18, 3) := by decide +kernel
theorem dX0_resetState_26 : decode cX0_resetState 26 = .ok (.iload_n 1, 1) := by decide +kernel
theorem dX0_resetState_27 : decode cX0_resetState 27 = .ok (.bipush 41, 2) := by decide +kernel
theorem dX0_resetState_29 : decode cX0_resetState 29 = .ok (.imul, 1) := by decide +kernel
theorem dX0_resetState_30 : decode cX0_resetState 30 = .ok (.iload_n 3, 1) := by decide +kernel
theorem dX0_resetState_31 : decode cX0_resetState 31 = .ok (.iadd, 1) := by decide +kernel
theorem dX0_resetState_32 : decode cX0_resetState 32 = .ok (.iconst 0, 1) := by decide +kernel
theorem dX0_resetState_33 : decode cX0_resetState 33 = .ok (.iastore, 1) := by decide +kernel
theorem dX0_resetState_34 : decode cX0_resetState 34 = .ok (.iinc 3 1, 3) := by decide +kernel
theorem dX0_resetState_37 : decode cX0_resetState 37 = .ok (.goto (-21), 3) := by decide +kernel
theorem dX0_resetState_40 : decode cX0_resetState 40 = .ok (.return_, 1) := by decide +kernel
abbrev cX0_hasTarget : ByteArray := prog_2_method_4_code
def yX0_hasTarget : MethodName := ⟨"ChainDesk$Chain", "hasTarget", "(I)Z"⟩
def wX0_hasTarget : List Cond := .code yX0_hasTarget cX0_hasTarget 2 (Option.some Jvm.ClassFile.FieldType.boolean) :: WG
theorem dX0_hasTarget_0 : decode cX0_hasTarget 0 = .ok (.iload_n 1, 1) := by decide +kernel
theorem dX0_hasTarget_1 : decode cX0_hasTarget 1 = .ok (.ifCond .lt 15, 3) := by decide +kernel
theorem dX0_hasTarget_4 : decode cX0_hasTarget 4 = .ok (.iload_n 1, 1) := by decide +kernel
theorem dX0_hasTarget_5 : decode cX0_hasTarget 5 = .ok (.aload_n 0, 1) := by decide +kernel
theorem dX0_hasTarget_6 : decode cX0_hasTarget 6 = .ok (.getfield 25, 3) := by decide +kernel
theorem dX0_hasTarget_9 : decode cX0_hasTarget 9 = .ok (.if_icmp .gt 7, 3) := by decide +kernel
theorem dX0_hasTarget_12 : decode cX0_hasTarget 12 = .ok (.iconst 1, 1) := by decide +kernel
theorem dX0_hasTarget_13 : decode cX0_hasTarget 13 = .ok (.goto 4, 3) := by decide +kernel
theorem dX0_hasTarget_16 : decode cX0_hasTarget 16 = .ok (.iconst 0, 1) := by decide +kernel
theorem dX0_hasTarget_17 : decode cX0_hasTarget 17 = .ok (.ireturn, 1) := by decide +kernel
abbrev cX0_leftWith : ByteArray := prog_2_method_6_code
def yX0_leftWith : MethodName := ⟨"ChainDesk$Chain", "leftWith", "(III)I"⟩
def wX0_leftWith : List Cond := .code yX0_leftWith cX0_leftWith 4 (Option.some Jvm.ClassFile.FieldType.int) :: WG
theorem dX0_leftWith_0 : decode cX0_leftWith 0 = .ok (.aload_n 0, 1) := by decide +kernel
theorem dX0_leftWith_1 : decode cX0_leftWith 1 = .ok (.getfield 15, 3) := by decide +kernel
theorem dX0_leftWith_4 : decode cX0_leftWith 4 = .ok (.iload_n 1, 1) := by decide +kernel
theorem dX0_leftWith_5 : decode cX0_leftWith 5 = .ok (.iaload, 1) := by decide +kernel
theorem dX0_leftWith_6 : decode cX0_leftWith 6 = .ok (.aload_n 0, 1) := by decide +kernel
theorem dX0_leftWith_7 : decode cX0_leftWith 7 = .ok (.getfield 18, 3) := by decide +kernel
theorem dX0_leftWith_10 : decode cX0_leftWith 10 = .ok (.iload_n 1, 1) := by decide +kernel
theorem dX0_leftWith_11 : decode cX0_leftWith 11 = .ok (.bipush 41, 2) := by decide +kernel
theorem dX0_leftWith_13 : decode cX0_leftWith 13 = .ok (.imul, 1) := by decide +kernel
theorem dX0_leftWith_14 : decode cX0_leftWith 14 = .ok (.iload_n 2, 1) := by decide +kernel
theorem dX0_leftWith_15 : decode cX0_leftWith 15 = .ok (.iadd, 1) := by decide +kernel
theorem dX0_leftWith_16 : decode cX0_leftWith 16 = .ok (.iaload, 1) := by decide +kernel
theorem dX0_leftWith_17 : decode cX0_leftWith 17 = .ok (.iadd, 1) := by decide +kernel
theorem dX0_leftWith_18 : decode cX0_leftWith 18 = .ok (.iload_n 3, 1) := by decide +kernel
theorem dX0_leftWith_19 : decode cX0_leftWith 19 = .ok (.isub, 1) := by decide +kernel
theorem dX0_leftWith_20 : decode cX0_leftWith 20 = .ok (.ireturn, 1) := by decide +kernel
abbrev cX0_setPart : ByteArray := prog_2_method_7_code
def yX0_setPart : MethodName := ⟨"ChainDesk$Chain", "setPart", "(III)V"⟩
def wX0_setPart : List Cond := .code yX0_setPart cX0_setPart 4 (Option.none : Option Jvm.ClassFile.FieldType) :: WG
theorem dX0_setPart_0 : decode cX0_setPart 0 = .ok (.aload_n 0, 1) := by decide +kernel
theorem dX0_setPart_1 : decode cX0_setPart 1 = .ok (.getfield 15, 3) := by decide +kernel
theorem dX0_setPart_4 : decode cX0_setPart 4 = .ok (.iload_n 1, 1) := by decide +kernel
theorem dX0_setPart_5 : decode cX0_setPart 5 = .ok (.aload_n 0, 1) := by decide +kernel
theorem dX0_setPart_6 : decode cX0_setPart 6 = .ok (.iload_n 1, 1) := by decide +kernel
theorem dX0_setPart_7 : decode cX0_setPart 7 = .ok (.iload_n 2, 1) := by decide +kernel
theorem dX0_setPart_8 : decode cX0_setPart 8 = .ok (.iload_n 3, 1) := by decide +kernel
theorem dX0_setPart_9 : decode cX0_setPart 9 = .ok (.invokevirtual 33, 3) := by decide +kernel
theorem dX0_setPart_12 : decode cX0_setPart 12 = .ok (.iastore, 1) := by decide +kernel
theorem dX0_setPart_13 : decode cX0_setPart 13 = .ok (.aload_n 0, 1) := by decide +kernel
theorem dX0_setPart_14 : decode cX0_setPart 14 = .ok (.getfield 18, 3) := by decide +kernel
theorem dX0_setPart_17 : decode cX0_setPart 17 = .ok (.iload_n 1, 1) := by decide +kernel
theorem dX0_setPart_18 : decode cX0_setPart 18 = .ok (.bipush 41, 2) := by decide +kernel
theorem dX0_setPart_20 : decode cX0_setPart 20 = .ok (.imul, 1) := by decide +kernel
theorem dX0_setPart_21 : decode cX0_setPart 21 = .ok (.iload_n 2, 1) := by decide +kernel
theorem dX0_setPart_22 : decode cX0_setPart 22 = .ok (.iadd, 1) := by decide +kernel
theorem dX0_setPart_23 : decode cX0_setPart 23 = .ok (.iload_n 3, 1) := by decide +kernel
theorem dX0_setPart_24 : decode cX0_setPart 24 = .ok (.iastore, 1) := by decide +kernel
theorem dX0_setPart_25 : decode cX0_setPart 25 = .ok (.return_, 1) := by decide +kernel
