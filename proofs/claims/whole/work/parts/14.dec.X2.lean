abbrev cX2_init : ByteArray := prog_4_method_1_code
def yX2_init : MethodName := ⟨"ChainDesk$LeastTerms", "<init>", "()V"⟩
def wX2_init : List Cond := .code yX2_init cX2_init 1 (Option.none : Option Jvm.ClassFile.FieldType) :: WG
theorem dX2_init_0 : decode cX2_init 0 = .ok (.aload_n 0, 1) := by decide +kernel
theorem dX2_init_1 : decode cX2_init 1 = .ok (.invokespecial 1, 3) := by decide +kernel
theorem dX2_init_4 : decode cX2_init 4 = .ok (.aload_n 0, 1) := by decide +kernel
theorem dX2_init_5 : decode cX2_init 5 = .ok (.new 7, 3) := by decide +kernel
theorem dX2_init_8 : decode cX2_init 8 = .ok (.dup, 1) := by decide +kernel
theorem dX2_init_9 : decode cX2_init 9 = .ok (.invokespecial 9, 3) := by decide +kernel
theorem dX2_init_12 : decode cX2_init 12 = .ok (.putfield 10, 3) := by decide +kernel
theorem dX2_init_15 : decode cX2_init 15 = .ok (.aload_n 0, 1) := by decide +kernel
theorem dX2_init_16 : decode cX2_init 16 = .ok (.new 7, 3) := by decide +kernel
theorem dX2_init_19 : decode cX2_init 19 = .ok (.dup, 1) := by decide +kernel
theorem dX2_init_20 : decode cX2_init 20 = .ok (.invokespecial 9, 3) := by decide +kernel
theorem dX2_init_23 : decode cX2_init 23 = .ok (.putfield 16, 3) := by decide +kernel
theorem dX2_init_26 : decode cX2_init 26 = .ok (.aload_n 0, 1) := by decide +kernel
theorem dX2_init_27 : decode cX2_init 27 = .ok (.new 7, 3) := by decide +kernel
theorem dX2_init_30 : decode cX2_init 30 = .ok (.dup, 1) := by decide +kernel
theorem dX2_init_31 : decode cX2_init 31 = .ok (.invokespecial 9, 3) := by decide +kernel
theorem dX2_init_34 : decode cX2_init 34 = .ok (.putfield 19, 3) := by decide +kernel
theorem dX2_init_37 : decode cX2_init 37 = .ok (.aload_n 0, 1) := by decide +kernel
theorem dX2_init_38 : decode cX2_init 38 = .ok (.new 7, 3) := by decide +kernel
theorem dX2_init_41 : decode cX2_init 41 = .ok (.dup, 1) := by decide +kernel
theorem dX2_init_42 : decode cX2_init 42 = .ok (.invokespecial 9, 3) := by decide +kernel
theorem dX2_init_45 : decode cX2_init 45 = .ok (.putfield 22, 3) := by decide +kernel
theorem dX2_init_48 : decode cX2_init 48 = .ok (.return_, 1) := by decide +kernel
abbrev cX2_reduce : ByteArray := prog_4_method_2_code
def yX2_reduce : MethodName := ⟨"ChainDesk$LeastTerms", "reduce", "(LChainDesk$Natural;LChainDesk$Natural;)V"⟩
def wX2_reduce : List Cond := .code yX2_reduce cX2_reduce 4 (Option.none : Option Jvm.ClassFile.FieldType) :: WG
theorem dX2_reduce_0 : decode cX2_reduce 0 = .ok (.aload_n 0, 1) := by decide +kernel
theorem dX2_reduce_1 : decode cX2_reduce 1 = .ok (.getfield 10, 3) := by decide +kernel
theorem dX2_reduce_4 : decode cX2_reduce 4 = .ok (.aload_n 1, 1) := by decide +kernel
theorem dX2_reduce_5 : decode cX2_reduce 5 = .ok (.invokevirtual 25, 3) := by decide +kernel
theorem dX2_reduce_8 : decode cX2_reduce 8 = .ok (.aload_n 0, 1) := by decide +kernel
theorem dX2_reduce_9 : decode cX2_reduce 9 = .ok (.getfield 16, 3) := by decide +kernel
theorem dX2_reduce_12 : decode cX2_reduce 12 = .ok (.aload_n 2, 1) := by decide +kernel
theorem dX2_reduce_13 : decode cX2_reduce 13 = .ok (.invokevirtual 25, 3) := by decide +kernel
theorem dX2_reduce_16 : decode cX2_reduce 16 = .ok (.aload_n 0, 1) := by decide +kernel
theorem dX2_reduce_17 : decode cX2_reduce 17 = .ok (.getfield 10, 3) := by decide +kernel
theorem dX2_reduce_20 : decode cX2_reduce 20 = .ok (.invokevirtual 29, 3) := by decide +kernel
theorem dX2_reduce_23 : decode cX2_reduce 23 = .ok (.ifCond .ne 13, 3) := by decide +kernel
theorem dX2_reduce_26 : decode cX2_reduce 26 = .ok (.aload_n 0, 1) := by decide +kernel
theorem dX2_reduce_27 : decode cX2_reduce 27 = .ok (.getfield 16, 3) := by decide +kernel
theorem dX2_reduce_30 : decode cX2_reduce 30 = .ok (.invokevirtual 29, 3) := by decide +kernel
theorem dX2_reduce_33 : decode cX2_reduce 33 = .ok (.ifCond .eq 12, 3) := by decide +kernel
theorem dX2_reduce_36 : decode cX2_reduce 36 = .ok (.aload_n 0, 1) := by decide +kernel
theorem dX2_reduce_37 : decode cX2_reduce 37 = .ok (.getfield 16, 3) := by decide +kernel
theorem dX2_reduce_40 : decode cX2_reduce 40 = .ok (.iconst 1, 1) := by decide +kernel
theorem dX2_reduce_41 : decode cX2_reduce 41 = .ok (.invokevirtual 33, 3) := by decide +kernel
theorem dX2_reduce_44 : decode cX2_reduce 44 = .ok (.return_, 1) := by decide +kernel
theorem dX2_reduce_45 : decode cX2_reduce 45 = .ok (.aload_n 0, 1) := by decide +kernel
theorem dX2_reduce_46 : decode cX2_reduce 46 = .ok (.invokevirtual 37, 3) := by decide +kernel
theorem dX2_reduce_49 : decode cX2_reduce 49 = .ok (.aload_n 0, 1) := by decide +kernel
theorem dX2_reduce_50 : decode cX2_reduce 50 = .ok (.invokevirtual 40, 3) := by decide +kernel
theorem dX2_reduce_53 : decode cX2_reduce 53 = .ok (.astore_n 3, 1) := by decide +kernel
theorem dX2_reduce_54 : decode cX2_reduce 54 = .ok (.aload_n 0, 1) := by decide +kernel
theorem dX2_reduce_55 : decode cX2_reduce 55 = .ok (.getfield 10, 3) := by decide +kernel
theorem dX2_reduce_58 : decode cX2_reduce 58 = .ok (.aload_n 3, 1) := by decide +kernel
theorem dX2_reduce_59 : decode cX2_reduce 59 = .ok (.invokevirtual 44, 3) := by decide +kernel
theorem dX2_reduce_62 : decode cX2_reduce 62 = .ok (.aload_n 0, 1) := by decide +kernel
theorem dX2_reduce_63 : decode cX2_reduce 63 = .ok (.getfield 16, 3) := by decide +kernel
theorem dX2_reduce_66 : decode cX2_reduce 66 = .ok (.aload_n 3, 1) := by decide +kernel
theorem dX2_reduce_67 : decode cX2_reduce 67 = .ok (.invokevirtual 44, 3) := by decide +kernel
theorem dX2_reduce_70 : decode cX2_reduce 70 = .ok (.return_, 1) := by decide +kernel
abbrev cX2_dropCommonTwos : ByteArray := prog_4_method_3_code
def yX2_dropCommonTwos : MethodName := ⟨"ChainDesk$LeastTerms", "dropCommonTwos", "()V"⟩
def wX2_dropCommonTwos : List Cond := .code yX2_dropCommonTwos cX2_dropCommonTwos 3 (Option.none : Option Jvm.ClassFile.FieldType) :: WG
theorem dX2_dropCommonTwos_0 : decode cX2_dropCommonTwos 0 = .ok (.iconst 0, 1) := by decide +kernel
theorem dX2_dropCommonTwos_1 : decode cX2_dropCommonTwos 1 = .ok (.istore_n 1, 1) := by decide +kernel
theorem dX2_dropCommonTwos_2 : decode cX2_dropCommonTwos 2 = .ok (.iload_n 1, 1) := by decide +kernel
theorem dX2_dropCommonTwos_3 : decode cX2_dropCommonTwos 3 = .ok (.sipush 496, 3) := by decide +kernel
theorem dX2_dropCommonTwos_6 : decode cX2_dropCommonTwos 6 = .ok (.if_icmp .ge 63, 3) := by decide +kernel
theorem dX2_dropCommonTwos_9 : decode cX2_dropCommonTwos 9 = .ok (.aload_n 0, 1) := by decide +kernel
theorem dX2_dropCommonTwos_10 : decode cX2_dropCommonTwos 10 = .ok (.getfield 10, 3) := by decide +kernel
theorem dX2_dropCommonTwos_13 : decode cX2_dropCommonTwos 13 = .ok (.invokevirtual 47, 3) := by decide +kernel
theorem dX2_dropCommonTwos_16 : decode cX2_dropCommonTwos 16 = .ok (.ifCond .eq 53, 3) := by decide +kernel
theorem dX2_dropCommonTwos_19 : decode cX2_dropCommonTwos 19 = .ok (.aload_n 0, 1) := by decide +kernel
theorem dX2_dropCommonTwos_20 : decode cX2_dropCommonTwos 20 = .ok (.getfield 16, 3) := by decide +kernel
theorem dX2_dropCommonTwos_23 : decode cX2_dropCommonTwos 23 = .ok (.invokevirtual 47, 3) := by decide +kernel
theorem dX2_dropCommonTwos_26 : decode cX2_dropCommonTwos 26 = .ok (.ifCond .eq 43, 3) := by decide +kernel
theorem dX2_dropCommonTwos_29 : decode cX2_dropCommonTwos 29 = .ok (.aload_n 0, 1) := by decide +kernel
theorem dX2_dropCommonTwos_30 : decode cX2_dropCommonTwos 30 = .ok (.getfield 10, 3) := by decide +kernel
theorem dX2_dropCommonTwos_33 : decode cX2_dropCommonTwos 33 = .ok (.invokevirtual 50, 3) := by decide +kernel
theorem dX2_dropCommonTwos_36 : decode cX2_dropCommonTwos 36 = .ok (.aload_n 0, 1) := by decide +kernel
theorem dX2_dropCommonTwos_37 : decode cX2_dropCommonTwos 37 = .ok (.getfield 16, 3) := by decide +kernel
theorem dX2_dropCommonTwos_40 : decode cX2_dropCommonTwos 40 = .ok (.invokevirtual 50, 3) := by decide +kernel
theorem dX2_dropCommonTwos_43 : decode cX2_dropCommonTwos 43 = .ok (.invokestatic 54, 3) := by decide +kernel
theorem dX2_dropCommonTwos_46 : decode cX2_dropCommonTwos 46 = .ok (.istore_n 2, 1) := by decide +kernel
theorem dX2_dropCommonTwos_47 : decode cX2_dropCommonTwos 47 = .ok (.aload_n 0, 1) := by decide +kernel
theorem dX2_dropCommonTwos_48 : decode cX2_dropCommonTwos 48 = .ok (.getfield 10, 3) := by decide +kernel
theorem dX2_dropCommonTwos_51 : decode cX2_dropCommonTwos 51 = .ok (.iload_n 2, 1) := by decide +kernel
theorem dX2_dropCommonTwos_52 : decode cX2_dropCommonTwos 52 = .ok (.invokevirtual 60, 3) := by decide +kernel
theorem dX2_dropCommonTwos_55 : decode cX2_dropCommonTwos 55 = .ok (.aload_n 0, 1) := by decide +kernel
theorem dX2_dropCommonTwos_56 : decode cX2_dropCommonTwos 56 = .ok (.getfield 16, 3) := by decide +kernel
theorem dX2_dropCommonTwos_59 : decode cX2_dropCommonTwos 59 = .ok (.iload_n 2, 1) := by decide +kernel
theorem dX2_dropCommonTwos_60 : decode cX2_dropCommonTwos 60 = .ok (.invokevirtual 60, 3) := by decide +kernel
theorem dX2_dropCommonTwos_63 : decode cX2_dropCommonTwos 63 = .ok (.iinc 1 1, 3) := by decide +kernel
theorem dX2_dropCommonTwos_66 : decode cX2_dropCommonTwos 66 = .ok (.goto (-64), 3) := by decide +kernel
theorem dX2_dropCommonTwos_69 : decode cX2_dropCommonTwos 69 = .ok (.return_, 1) := by decide +kernel
abbrev cX2_oddCommonDivisor : ByteArray := prog_4_method_4_code
def yX2_oddCommonDivisor : MethodName := ⟨"ChainDesk$LeastTerms", "oddCommonDivisor", "()LChainDesk$Natural;"⟩
def wX2_oddCommonDivisor : List Cond := .code yX2_oddCommonDivisor cX2_oddCommonDivisor 5 (Option.some (Jvm.ClassFile.FieldType.object "ChainDesk$Natural")) :: WG
theorem dX2_oddCommonDivisor_0 : decode cX2_oddCommonDivisor 0 = .ok (.aload_n 0, 1) := by decide +kernel
theorem dX2_oddCommonDivisor_1 : decode cX2_oddCommonDivisor 1 = .ok (.getfield 19, 3) := by decide +kernel
theorem dX2_oddCommonDivisor_4 : decode cX2_oddCommonDivisor 4 = .ok (.aload_n 0, 1) := by decide +kernel
theorem dX2_oddCommonDivisor_5 : decode cX2_oddCommonDivisor 5 = .ok (.getfield 10, 3) := by decide +kernel
theorem dX2_oddCommonDivisor_8 : decode cX2_oddCommonDivisor 8 = .ok (.invokevirtual 25, 3) := by decide +kernel
theorem dX2_oddCommonDivisor_11 : decode cX2_oddCommonDivisor 11 = .ok (.aload_n 0, 1) := by decide +kernel
theorem dX2_oddCommonDivisor_12 : decode cX2_oddCommonDivisor 12 = .ok (.getfield 22, 3) := by decide +kernel
theorem dX2_oddCommonDivisor_15 : decode cX2_oddCommonDivisor 15 = .ok (.aload_n 0, 1) := by decide +kernel
theorem dX2_oddCommonDivisor_16 : decode cX2_oddCommonDivisor 16 = .ok (.getfield 16, 3) := by decide +kernel
theorem dX2_oddCommonDivisor_19 : decode cX2_oddCommonDivisor 19 = .ok (.invokevirtual 25, 3) := by decide +kernel
theorem dX2_oddCommonDivisor_22 : decode cX2_oddCommonDivisor 22 = .ok (.aload_n 0, 1) := by decide +kernel
theorem dX2_oddCommonDivisor_23 : decode cX2_oddCommonDivisor 23 = .ok (.getfield 19, 3) := by decide +kernel
theorem dX2_oddCommonDivisor_26 : decode cX2_oddCommonDivisor 26 = .ok (.invokevirtual 63, 3) := by decide +kernel
theorem dX2_oddCommonDivisor_29 : decode cX2_oddCommonDivisor 29 = .ok (.aload_n 0, 1) := by decide +kernel
theorem dX2_oddCommonDivisor_30 : decode cX2_oddCommonDivisor 30 = .ok (.getfield 22, 3) := by decide +kernel
theorem dX2_oddCommonDivisor_33 : decode cX2_oddCommonDivisor 33 = .ok (.invokevirtual 63, 3) := by decide +kernel
theorem dX2_oddCommonDivisor_36 : decode cX2_oddCommonDivisor 36 = .ok (.iconst 0, 1) := by decide +kernel
theorem dX2_oddCommonDivisor_37 : decode cX2_oddCommonDivisor 37 = .ok (.istore_n 1, 1) := by decide +kernel
theorem dX2_oddCommonDivisor_38 : decode cX2_oddCommonDivisor 38 = .ok (.iload_n 1, 1) := by decide +kernel
theorem dX2_oddCommonDivisor_39 : decode cX2_oddCommonDivisor 39 = .ok (.sipush 992, 3) := by decide +kernel
theorem dX2_oddCommonDivisor_42 : decode cX2_oddCommonDivisor 42 = .ok (.if_icmp .ge 71, 3) := by decide +kernel
theorem dX2_oddCommonDivisor_45 : decode cX2_oddCommonDivisor 45 = .ok (.aload_n 0, 1) := by decide +kernel
theorem dX2_oddCommonDivisor_46 : decode cX2_oddCommonDivisor 46 = .ok (.getfield 19, 3) := by decide +kernel
theorem dX2_oddCommonDivisor_49 : decode cX2_oddCommonDivisor 49 = .ok (.aload_n 0, 1) := by decide +kernel
theorem dX2_oddCommonDivisor_50 : decode cX2_oddCommonDivisor 50 = .ok (.getfield 22, 3) := by decide +kernel
theorem dX2_oddCommonDivisor_53 : decode cX2_oddCommonDivisor 53 = .ok (.invokevirtual 66, 3) := by decide +kernel
theorem dX2_oddCommonDivisor_56 : decode cX2_oddCommonDivisor 56 = .ok (.istore_n 2, 1) := by decide +kernel
theorem dX2_oddCommonDivisor_57 : decode cX2_oddCommonDivisor 57 = .ok (.iload_n 2, 1) := by decide +kernel
theorem dX2_oddCommonDivisor_58 : decode cX2_oddCommonDivisor 58 = .ok (.ifCond .ne 6, 3) := by decide +kernel
theorem dX2_oddCommonDivisor_61 : decode cX2_oddCommonDivisor 61 = .ok (.goto 52, 3) := by decide +kernel
theorem dX2_oddCommonDivisor_64 : decode cX2_oddCommonDivisor 64 = .ok (.iload_n 2, 1) := by decide +kernel
theorem dX2_oddCommonDivisor_65 : decode cX2_oddCommonDivisor 65 = .ok (.ifCond .le 10, 3) := by decide +kernel
theorem dX2_oddCommonDivisor_68 : decode cX2_oddCommonDivisor 68 = .ok (.aload_n 0, 1) := by decide +kernel
theorem dX2_oddCommonDivisor_69 : decode cX2_oddCommonDivisor 69 = .ok (.getfield 19, 3) := by decide +kernel
theorem dX2_oddCommonDivisor_72 : decode cX2_oddCommonDivisor 72 = .ok (.goto 7, 3) := by decide +kernel
theorem dX2_oddCommonDivisor_75 : decode cX2_oddCommonDivisor 75 = .ok (.aload_n 0, 1) := by decide +kernel
theorem dX2_oddCommonDivisor_76 : decode cX2_oddCommonDivisor 76 = .ok (.getfield 22, 3) := by decide +kernel
theorem dX2_oddCommonDivisor_79 : decode cX2_oddCommonDivisor 79 = .ok (.astore_n 3, 1) := by decide +kernel
theorem dX2_oddCommonDivisor_80 : decode cX2_oddCommonDivisor 80 = .ok (.iload_n 2, 1) := by decide +kernel
theorem dX2_oddCommonDivisor_81 : decode cX2_oddCommonDivisor 81 = .ok (.ifCond .le 10, 3) := by decide +kernel
theorem dX2_oddCommonDivisor_84 : decode cX2_oddCommonDivisor 84 = .ok (.aload_n 0, 1) := by decide +kernel
theorem dX2_oddCommonDivisor_85 : decode cX2_oddCommonDivisor 85 = .ok (.getfield 22, 3) := by decide +kernel
theorem dX2_oddCommonDivisor_88 : decode cX2_oddCommonDivisor 88 = .ok (.goto 7, 3) := by decide +kernel
theorem dX2_oddCommonDivisor_91 : decode cX2_oddCommonDivisor 91 = .ok (.aload_n 0, 1) := by decide +kernel
theorem dX2_oddCommonDivisor_92 : decode cX2_oddCommonDivisor 92 = .ok (.getfield 19, 3) := by decide +kernel
theorem dX2_oddCommonDivisor_95 : decode cX2_oddCommonDivisor 95 = .ok (.astore 4, 2) := by decide +kernel
theorem dX2_oddCommonDivisor_97 : decode cX2_oddCommonDivisor 97 = .ok (.aload_n 3, 1) := by decide +kernel
theorem dX2_oddCommonDivisor_98 : decode cX2_oddCommonDivisor 98 = .ok (.aload 4, 2) := by decide +kernel
theorem dX2_oddCommonDivisor_100 : decode cX2_oddCommonDivisor 100 = .ok (.invokevirtual 70, 3) := by decide +kernel
theorem dX2_oddCommonDivisor_103 : decode cX2_oddCommonDivisor 103 = .ok (.aload_n 3, 1) := by decide +kernel
theorem dX2_oddCommonDivisor_104 : decode cX2_oddCommonDivisor 104 = .ok (.invokevirtual 63, 3) := by decide +kernel
theorem dX2_oddCommonDivisor_107 : decode cX2_oddCommonDivisor 107 = .ok (.iinc 1 1, 3) := by decide +kernel
theorem dX2_oddCommonDivisor_110 : decode cX2_oddCommonDivisor 110 = .ok (.goto (-72), 3) := by decide +kernel
theorem dX2_oddCommonDivisor_113 : decode cX2_oddCommonDivisor 113 = .ok (.aload_n 0, 1) := by decide +kernel
theorem dX2_oddCommonDivisor_114 : decode cX2_oddCommonDivisor 114 = .ok (.getfield 19, 3) := by decide +kernel
theorem dX2_oddCommonDivisor_117 : decode cX2_oddCommonDivisor 117 = .ok (.areturn, 1) := by decide +kernel
