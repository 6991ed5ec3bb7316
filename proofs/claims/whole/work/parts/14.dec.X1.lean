abbrev cX1_init : ByteArray := prog_3_method_1_code
def yX1_init : MethodName := ⟨"ChainDesk$Equations", "<init>", "()V"⟩
def wX1_init : List Cond := .code yX1_init cX1_init 1 (Option.none : Option Jvm.ClassFile.FieldType) :: WG
theorem dX1_init_0 : decode cX1_init 0 = .ok (.aload_n 0, 1) := by decide +kernel
theorem dX1_init_1 : decode cX1_init 1 = .ok (.invokespecial 3, 3) := by decide +kernel
theorem dX1_init_4 : decode cX1_init 4 = .ok (.aload_n 0, 1) := by decide +kernel
theorem dX1_init_5 : decode cX1_init 5 = .ok (.new 9, 3) := by decide +kernel
theorem dX1_init_8 : decode cX1_init 8 = .ok (.dup, 1) := by decide +kernel
theorem dX1_init_9 : decode cX1_init 9 = .ok (.invokespecial 11, 3) := by decide +kernel
theorem dX1_init_12 : decode cX1_init 12 = .ok (.putfield 12, 3) := by decide +kernel
theorem dX1_init_15 : decode cX1_init 15 = .ok (.aload_n 0, 1) := by decide +kernel
theorem dX1_init_16 : decode cX1_init 16 = .ok (.sipush 1640, 3) := by decide +kernel
theorem dX1_init_19 : decode cX1_init 19 = .ok (.newarray .int, 2) := by decide +kernel
theorem dX1_init_21 : decode cX1_init 21 = .ok (.putfield 18, 3) := by decide +kernel
theorem dX1_init_24 : decode cX1_init 24 = .ok (.aload_n 0, 1) := by decide +kernel
theorem dX1_init_25 : decode cX1_init 25 = .ok (.bipush 40, 2) := by decide +kernel
theorem dX1_init_27 : decode cX1_init 27 = .ok (.newarray .long, 2) := by decide +kernel
theorem dX1_init_29 : decode cX1_init 29 = .ok (.putfield 22, 3) := by decide +kernel
theorem dX1_init_32 : decode cX1_init 32 = .ok (.return_, 1) := by decide +kernel
abbrev cX1_answerBy : ByteArray := prog_3_method_2_code
def yX1_answerBy : MethodName := ⟨"ChainDesk$Equations", "answerBy", "(ILChainDesk$Chain;)Z"⟩
def wX1_answerBy : List Cond := .code yX1_answerBy cX1_answerBy 4 (Option.some Jvm.ClassFile.FieldType.boolean) :: WG
theorem dX1_answerBy_0 : decode cX1_answerBy 0 = .ok (.aload_n 0, 1) := by decide +kernel
theorem dX1_answerBy_1 : decode cX1_answerBy 1 = .ok (.getfield 12, 3) := by decide +kernel
theorem dX1_answerBy_4 : decode cX1_answerBy 4 = .ok (.iload_n 1, 1) := by decide +kernel
theorem dX1_answerBy_5 : decode cX1_answerBy 5 = .ok (.i2l, 1) := by decide +kernel
theorem dX1_answerBy_6 : decode cX1_answerBy 6 = .ok (.putfield 26, 3) := by decide +kernel
theorem dX1_answerBy_9 : decode cX1_answerBy 9 = .ok (.aload_n 0, 1) := by decide +kernel
theorem dX1_answerBy_10 : decode cX1_answerBy 10 = .ok (.aload_n 2, 1) := by decide +kernel
theorem dX1_answerBy_11 : decode cX1_answerBy 11 = .ok (.getfield 30, 3) := by decide +kernel
theorem dX1_answerBy_14 : decode cX1_answerBy 14 = .ok (.putfield 36, 3) := by decide +kernel
theorem dX1_answerBy_17 : decode cX1_answerBy 17 = .ok (.aload_n 0, 1) := by decide +kernel
theorem dX1_answerBy_18 : decode cX1_answerBy 18 = .ok (.aload_n 2, 1) := by decide +kernel
theorem dX1_answerBy_19 : decode cX1_answerBy 19 = .ok (.invokevirtual 37, 3) := by decide +kernel
theorem dX1_answerBy_22 : decode cX1_answerBy 22 = .ok (.aload_n 0, 1) := by decide +kernel
theorem dX1_answerBy_23 : decode cX1_answerBy 23 = .ok (.lconst 1, 1) := by decide +kernel
theorem dX1_answerBy_24 : decode cX1_answerBy 24 = .ok (.putfield 41, 3) := by decide +kernel
theorem dX1_answerBy_27 : decode cX1_answerBy 27 = .ok (.iconst 0, 1) := by decide +kernel
theorem dX1_answerBy_28 : decode cX1_answerBy 28 = .ok (.istore_n 3, 1) := by decide +kernel
theorem dX1_answerBy_29 : decode cX1_answerBy 29 = .ok (.iload_n 3, 1) := by decide +kernel
theorem dX1_answerBy_30 : decode cX1_answerBy 30 = .ok (.aload_n 0, 1) := by decide +kernel
theorem dX1_answerBy_31 : decode cX1_answerBy 31 = .ok (.getfield 36, 3) := by decide +kernel
theorem dX1_answerBy_34 : decode cX1_answerBy 34 = .ok (.if_icmp .ge 19, 3) := by decide +kernel
theorem dX1_answerBy_37 : decode cX1_answerBy 37 = .ok (.aload_n 0, 1) := by decide +kernel
theorem dX1_answerBy_38 : decode cX1_answerBy 38 = .ok (.iload_n 3, 1) := by decide +kernel
theorem dX1_answerBy_39 : decode cX1_answerBy 39 = .ok (.invokevirtual 44, 3) := by decide +kernel
theorem dX1_answerBy_42 : decode cX1_answerBy 42 = .ok (.ifCond .ne 5, 3) := by decide +kernel
theorem dX1_answerBy_45 : decode cX1_answerBy 45 = .ok (.iconst 0, 1) := by decide +kernel
theorem dX1_answerBy_46 : decode cX1_answerBy 46 = .ok (.ireturn, 1) := by decide +kernel
theorem dX1_answerBy_47 : decode cX1_answerBy 47 = .ok (.iinc 3 1, 3) := by decide +kernel
theorem dX1_answerBy_50 : decode cX1_answerBy 50 = .ok (.goto (-21), 3) := by decide +kernel
theorem dX1_answerBy_53 : decode cX1_answerBy 53 = .ok (.aload_n 0, 1) := by decide +kernel
theorem dX1_answerBy_54 : decode cX1_answerBy 54 = .ok (.getfield 36, 3) := by decide +kernel
theorem dX1_answerBy_57 : decode cX1_answerBy 57 = .ok (.iconst 1, 1) := by decide +kernel
theorem dX1_answerBy_58 : decode cX1_answerBy 58 = .ok (.isub, 1) := by decide +kernel
theorem dX1_answerBy_59 : decode cX1_answerBy 59 = .ok (.istore_n 3, 1) := by decide +kernel
theorem dX1_answerBy_60 : decode cX1_answerBy 60 = .ok (.iload_n 3, 1) := by decide +kernel
theorem dX1_answerBy_61 : decode cX1_answerBy 61 = .ok (.ifCond .lt 20, 3) := by decide +kernel
theorem dX1_answerBy_64 : decode cX1_answerBy 64 = .ok (.aload_n 0, 1) := by decide +kernel
theorem dX1_answerBy_65 : decode cX1_answerBy 65 = .ok (.getfield 22, 3) := by decide +kernel
theorem dX1_answerBy_68 : decode cX1_answerBy 68 = .ok (.iload_n 3, 1) := by decide +kernel
theorem dX1_answerBy_69 : decode cX1_answerBy 69 = .ok (.aload_n 0, 1) := by decide +kernel
theorem dX1_answerBy_70 : decode cX1_answerBy 70 = .ok (.iload_n 3, 1) := by decide +kernel
theorem dX1_answerBy_71 : decode cX1_answerBy 71 = .ok (.invokevirtual 48, 3) := by decide +kernel
theorem dX1_answerBy_74 : decode cX1_answerBy 74 = .ok (.lastore, 1) := by decide +kernel
theorem dX1_answerBy_75 : decode cX1_answerBy 75 = .ok (.iinc 3 (-1), 3) := by decide +kernel
theorem dX1_answerBy_78 : decode cX1_answerBy 78 = .ok (.goto (-18), 3) := by decide +kernel
theorem dX1_answerBy_81 : decode cX1_answerBy 81 = .ok (.iconst 1, 1) := by decide +kernel
theorem dX1_answerBy_82 : decode cX1_answerBy 82 = .ok (.ireturn, 1) := by decide +kernel
abbrev cX1_load : ByteArray := prog_3_method_3_code
def yX1_load : MethodName := ⟨"ChainDesk$Equations", "load", "(LChainDesk$Chain;)V"⟩
def wX1_load : List Cond := .code yX1_load cX1_load 6 (Option.none : Option Jvm.ClassFile.FieldType) :: WG
theorem dX1_load_0 : decode cX1_load 0 = .ok (.iconst 0, 1) := by decide +kernel
theorem dX1_load_1 : decode cX1_load 1 = .ok (.istore_n 2, 1) := by decide +kernel
theorem dX1_load_2 : decode cX1_load 2 = .ok (.iload_n 2, 1) := by decide +kernel
theorem dX1_load_3 : decode cX1_load 3 = .ok (.aload_n 0, 1) := by decide +kernel
theorem dX1_load_4 : decode cX1_load 4 = .ok (.getfield 36, 3) := by decide +kernel
theorem dX1_load_7 : decode cX1_load 7 = .ok (.if_icmp .ge 104, 3) := by decide +kernel
theorem dX1_load_10 : decode cX1_load 10 = .ok (.iconst 0, 1) := by decide +kernel
theorem dX1_load_11 : decode cX1_load 11 = .ok (.istore_n 3, 1) := by decide +kernel
theorem dX1_load_12 : decode cX1_load 12 = .ok (.iload_n 3, 1) := by decide +kernel
theorem dX1_load_13 : decode cX1_load 13 = .ok (.aload_n 0, 1) := by decide +kernel
theorem dX1_load_14 : decode cX1_load 14 = .ok (.getfield 36, 3) := by decide +kernel
theorem dX1_load_17 : decode cX1_load 17 = .ok (.if_icmp .ge 60, 3) := by decide +kernel
theorem dX1_load_20 : decode cX1_load 20 = .ok (.iload_n 2, 1) := by decide +kernel
theorem dX1_load_21 : decode cX1_load 21 = .ok (.iload_n 3, 1) := by decide +kernel
theorem dX1_load_22 : decode cX1_load 22 = .ok (.if_icmp .ne 13, 3) := by decide +kernel
theorem dX1_load_25 : decode cX1_load 25 = .ok (.aload_n 1, 1) := by decide +kernel
theorem dX1_load_26 : decode cX1_load 26 = .ok (.getfield 52, 3) := by decide +kernel
theorem dX1_load_29 : decode cX1_load 29 = .ok (.iload_n 2, 1) := by decide +kernel
theorem dX1_load_30 : decode cX1_load 30 = .ok (.iaload, 1) := by decide +kernel
theorem dX1_load_31 : decode cX1_load 31 = .ok (.i2l, 1) := by decide +kernel
theorem dX1_load_32 : decode cX1_load 32 = .ok (.goto 4, 3) := by decide +kernel
theorem dX1_load_35 : decode cX1_load 35 = .ok (.lconst 0, 1) := by decide +kernel
theorem dX1_load_36 : decode cX1_load 36 = .ok (.lstore 4, 2) := by decide +kernel
theorem dX1_load_38 : decode cX1_load 38 = .ok (.aload_n 0, 1) := by decide +kernel
theorem dX1_load_39 : decode cX1_load 39 = .ok (.getfield 18, 3) := by decide +kernel
theorem dX1_load_42 : decode cX1_load 42 = .ok (.iload_n 2, 1) := by decide +kernel
theorem dX1_load_43 : decode cX1_load 43 = .ok (.bipush 41, 2) := by decide +kernel
theorem dX1_load_45 : decode cX1_load 45 = .ok (.imul, 1) := by decide +kernel
theorem dX1_load_46 : decode cX1_load 46 = .ok (.iload_n 3, 1) := by decide +kernel
theorem dX1_load_47 : decode cX1_load 47 = .ok (.iadd, 1) := by decide +kernel
theorem dX1_load_48 : decode cX1_load 48 = .ok (.aload_n 0, 1) := by decide +kernel
theorem dX1_load_49 : decode cX1_load 49 = .ok (.getfield 12, 3) := by decide +kernel
theorem dX1_load_52 : decode cX1_load 52 = .ok (.lload 4, 2) := by decide +kernel
theorem dX1_load_54 : decode cX1_load 54 = .ok (.aload_n 1, 1) := by decide +kernel
theorem dX1_load_55 : decode cX1_load 55 = .ok (.getfield 55, 3) := by decide +kernel
theorem dX1_load_58 : decode cX1_load 58 = .ok (.iload_n 2, 1) := by decide +kernel
theorem dX1_load_59 : decode cX1_load 59 = .ok (.bipush 41, 2) := by decide +kernel
theorem dX1_load_61 : decode cX1_load 61 = .ok (.imul, 1) := by decide +kernel
theorem dX1_load_62 : decode cX1_load 62 = .ok (.iload_n 3, 1) := by decide +kernel
theorem dX1_load_63 : decode cX1_load 63 = .ok (.iadd, 1) := by decide +kernel
theorem dX1_load_64 : decode cX1_load 64 = .ok (.iaload, 1) := by decide +kernel
theorem dX1_load_65 : decode cX1_load 65 = .ok (.i2l, 1) := by decide +kernel
theorem dX1_load_66 : decode cX1_load 66 = .ok (.invokevirtual 58, 3) := by decide +kernel
theorem dX1_load_69 : decode cX1_load 69 = .ok (.l2i, 1) := by decide +kernel
theorem dX1_load_70 : decode cX1_load 70 = .ok (.iastore, 1) := by decide +kernel
theorem dX1_load_71 : decode cX1_load 71 = .ok (.iinc 3 1, 3) := by decide +kernel
theorem dX1_load_74 : decode cX1_load 74 = .ok (.goto (-62), 3) := by decide +kernel
theorem dX1_load_77 : decode cX1_load 77 = .ok (.aload_n 0, 1) := by decide +kernel
theorem dX1_load_78 : decode cX1_load 78 = .ok (.getfield 18, 3) := by decide +kernel
theorem dX1_load_81 : decode cX1_load 81 = .ok (.iload_n 2, 1) := by decide +kernel
theorem dX1_load_82 : decode cX1_load 82 = .ok (.bipush 41, 2) := by decide +kernel
theorem dX1_load_84 : decode cX1_load 84 = .ok (.imul, 1) := by decide +kernel
theorem dX1_load_85 : decode cX1_load 85 = .ok (.aload_n 0, 1) := by decide +kernel
theorem dX1_load_86 : decode cX1_load 86 = .ok (.getfield 36, 3) := by decide +kernel
theorem dX1_load_89 : decode cX1_load 89 = .ok (.iadd, 1) := by decide +kernel
theorem dX1_load_90 : decode cX1_load 90 = .ok (.aload_n 1, 1) := by decide +kernel
theorem dX1_load_91 : decode cX1_load 91 = .ok (.getfield 55, 3) := by decide +kernel
theorem dX1_load_94 : decode cX1_load 94 = .ok (.iload_n 2, 1) := by decide +kernel
theorem dX1_load_95 : decode cX1_load 95 = .ok (.bipush 41, 2) := by decide +kernel
theorem dX1_load_97 : decode cX1_load 97 = .ok (.imul, 1) := by decide +kernel
theorem dX1_load_98 : decode cX1_load 98 = .ok (.aload_n 0, 1) := by decide +kernel
theorem dX1_load_99 : decode cX1_load 99 = .ok (.getfield 36, 3) := by decide +kernel
theorem dX1_load_102 : decode cX1_load 102 = .ok (.iadd, 1) := by decide +kernel
theorem dX1_load_103 : decode cX1_load 103 = .ok (.iaload, 1) := by decide +kernel
theorem dX1_load_104 : decode cX1_load 104 = .ok (.iastore, 1) := by decide +kernel
theorem dX1_load_105 : decode cX1_load 105 = .ok (.iinc 2 1, 3) := by decide +kernel
theorem dX1_load_108 : decode cX1_load 108 = .ok (.goto (-106), 3) := by decide +kernel
theorem dX1_load_111 : decode cX1_load 111 = .ok (.return_, 1) := by decide +kernel
abbrev cX1_eliminate : ByteArray := prog_3_method_4_code
def yX1_eliminate : MethodName := ⟨"ChainDesk$Equations", "eliminate", "(I)Z"⟩
def wX1_eliminate : List Cond := .code yX1_eliminate cX1_eliminate 6 (Option.some Jvm.ClassFile.FieldType.boolean) :: WG
theorem dX1_eliminate_0 : decode cX1_eliminate 0 = .ok (.aload_n 0, 1) := by decide +kernel
theorem dX1_eliminate_1 : decode cX1_eliminate 1 = .ok (.iload_n 1, 1) := by decide +kernel
theorem dX1_eliminate_2 : decode cX1_eliminate 2 = .ok (.invokevirtual 62, 3) := by decide +kernel
theorem dX1_eliminate_5 : decode cX1_eliminate 5 = .ok (.istore_n 2, 1) := by decide +kernel
theorem dX1_eliminate_6 : decode cX1_eliminate 6 = .ok (.iload_n 2, 1) := by decide +kernel
theorem dX1_eliminate_7 : decode cX1_eliminate 7 = .ok (.ifCond .ge 5, 3) := by decide +kernel
theorem dX1_eliminate_10 : decode cX1_eliminate 10 = .ok (.iconst 0, 1) := by decide +kernel
theorem dX1_eliminate_11 : decode cX1_eliminate 11 = .ok (.ireturn, 1) := by decide +kernel
theorem dX1_eliminate_12 : decode cX1_eliminate 12 = .ok (.iload_n 2, 1) := by decide +kernel
theorem dX1_eliminate_13 : decode cX1_eliminate 13 = .ok (.iload_n 1, 1) := by decide +kernel
theorem dX1_eliminate_14 : decode cX1_eliminate 14 = .ok (.if_icmp .eq 25, 3) := by decide +kernel
theorem dX1_eliminate_17 : decode cX1_eliminate 17 = .ok (.aload_n 0, 1) := by decide +kernel
theorem dX1_eliminate_18 : decode cX1_eliminate 18 = .ok (.iload_n 2, 1) := by decide +kernel
theorem dX1_eliminate_19 : decode cX1_eliminate 19 = .ok (.iload_n 1, 1) := by decide +kernel
theorem dX1_eliminate_20 : decode cX1_eliminate 20 = .ok (.invokevirtual 66, 3) := by decide +kernel
theorem dX1_eliminate_23 : decode cX1_eliminate 23 = .ok (.aload_n 0, 1) := by decide +kernel
theorem dX1_eliminate_24 : decode cX1_eliminate 24 = .ok (.aload_n 0, 1) := by decide +kernel
theorem dX1_eliminate_25 : decode cX1_eliminate 25 = .ok (.getfield 12, 3) := by decide +kernel
theorem dX1_eliminate_28 : decode cX1_eliminate 28 = .ok (.lconst 0, 1) := by decide +kernel
theorem dX1_eliminate_29 : decode cX1_eliminate 29 = .ok (.aload_n 0, 1) := by decide +kernel
theorem dX1_eliminate_30 : decode cX1_eliminate 30 = .ok (.getfield 41, 3) := by decide +kernel
theorem dX1_eliminate_33 : decode cX1_eliminate 33 = .ok (.invokevirtual 58, 3) := by decide +kernel
theorem dX1_eliminate_36 : decode cX1_eliminate 36 = .ok (.putfield 41, 3) := by decide +kernel
theorem dX1_eliminate_39 : decode cX1_eliminate 39 = .ok (.aload_n 0, 1) := by decide +kernel
theorem dX1_eliminate_40 : decode cX1_eliminate 40 = .ok (.getfield 18, 3) := by decide +kernel
theorem dX1_eliminate_43 : decode cX1_eliminate 43 = .ok (.iload_n 1, 1) := by decide +kernel
theorem dX1_eliminate_44 : decode cX1_eliminate 44 = .ok (.bipush 41, 2) := by decide +kernel
theorem dX1_eliminate_46 : decode cX1_eliminate 46 = .ok (.imul, 1) := by decide +kernel
theorem dX1_eliminate_47 : decode cX1_eliminate 47 = .ok (.iload_n 1, 1) := by decide +kernel
theorem dX1_eliminate_48 : decode cX1_eliminate 48 = .ok (.iadd, 1) := by decide +kernel
theorem dX1_eliminate_49 : decode cX1_eliminate 49 = .ok (.iaload, 1) := by decide +kernel
theorem dX1_eliminate_50 : decode cX1_eliminate 50 = .ok (.i2l, 1) := by decide +kernel
theorem dX1_eliminate_51 : decode cX1_eliminate 51 = .ok (.lstore_n 3, 1) := by decide +kernel
theorem dX1_eliminate_52 : decode cX1_eliminate 52 = .ok (.aload_n 0, 1) := by decide +kernel
theorem dX1_eliminate_53 : decode cX1_eliminate 53 = .ok (.aload_n 0, 1) := by decide +kernel
theorem dX1_eliminate_54 : decode cX1_eliminate 54 = .ok (.getfield 12, 3) := by decide +kernel
theorem dX1_eliminate_57 : decode cX1_eliminate 57 = .ok (.aload_n 0, 1) := by decide +kernel
theorem dX1_eliminate_58 : decode cX1_eliminate 58 = .ok (.getfield 41, 3) := by decide +kernel
theorem dX1_eliminate_61 : decode cX1_eliminate 61 = .ok (.lload_n 3, 1) := by decide +kernel
theorem dX1_eliminate_62 : decode cX1_eliminate 62 = .ok (.invokevirtual 70, 3) := by decide +kernel
theorem dX1_eliminate_65 : decode cX1_eliminate 65 = .ok (.putfield 41, 3) := by decide +kernel
theorem dX1_eliminate_68 : decode cX1_eliminate 68 = .ok (.aload_n 0, 1) := by decide +kernel
theorem dX1_eliminate_69 : decode cX1_eliminate 69 = .ok (.iload_n 1, 1) := by decide +kernel
theorem dX1_eliminate_70 : decode cX1_eliminate 70 = .ok (.aload_n 0, 1) := by decide +kernel
theorem dX1_eliminate_71 : decode cX1_eliminate 71 = .ok (.getfield 12, 3) := by decide +kernel
theorem dX1_eliminate_74 : decode cX1_eliminate 74 = .ok (.lload_n 3, 1) := by decide +kernel
theorem dX1_eliminate_75 : decode cX1_eliminate 75 = .ok (.invokevirtual 73, 3) := by decide +kernel
theorem dX1_eliminate_78 : decode cX1_eliminate 78 = .ok (.invokevirtual 77, 3) := by decide +kernel
theorem dX1_eliminate_81 : decode cX1_eliminate 81 = .ok (.iload_n 1, 1) := by decide +kernel
theorem dX1_eliminate_82 : decode cX1_eliminate 82 = .ok (.iconst 1, 1) := by decide +kernel
theorem dX1_eliminate_83 : decode cX1_eliminate 83 = .ok (.iadd, 1) := by decide +kernel
theorem dX1_eliminate_84 : decode cX1_eliminate 84 = .ok (.istore 5, 2) := by decide +kernel
theorem dX1_eliminate_86 : decode cX1_eliminate 86 = .ok (.iload 5, 2) := by decide +kernel
theorem dX1_eliminate_88 : decode cX1_eliminate 88 = .ok (.aload_n 0, 1) := by decide +kernel
theorem dX1_eliminate_89 : decode cX1_eliminate 89 = .ok (.getfield 36, 3) := by decide +kernel
theorem dX1_eliminate_92 : decode cX1_eliminate 92 = .ok (.if_icmp .ge 31, 3) := by decide +kernel
theorem dX1_eliminate_95 : decode cX1_eliminate 95 = .ok (.aload_n 0, 1) := by decide +kernel
theorem dX1_eliminate_96 : decode cX1_eliminate 96 = .ok (.getfield 18, 3) := by decide +kernel
theorem dX1_eliminate_99 : decode cX1_eliminate 99 = .ok (.iload 5, 2) := by decide +kernel
theorem dX1_eliminate_101 : decode cX1_eliminate 101 = .ok (.bipush 41, 2) := by decide +kernel
theorem dX1_eliminate_103 : decode cX1_eliminate 103 = .ok (.imul, 1) := by decide +kernel
theorem dX1_eliminate_104 : decode cX1_eliminate 104 = .ok (.iload_n 1, 1) := by decide +kernel
theorem dX1_eliminate_105 : decode cX1_eliminate 105 = .ok (.iadd, 1) := by decide +kernel
theorem dX1_eliminate_106 : decode cX1_eliminate 106 = .ok (.iaload, 1) := by decide +kernel
theorem dX1_eliminate_107 : decode cX1_eliminate 107 = .ok (.ifCond .eq 10, 3) := by decide +kernel
theorem dX1_eliminate_110 : decode cX1_eliminate 110 = .ok (.aload_n 0, 1) := by decide +kernel
theorem dX1_eliminate_111 : decode cX1_eliminate 111 = .ok (.iload 5, 2) := by decide +kernel
theorem dX1_eliminate_113 : decode cX1_eliminate 113 = .ok (.iload_n 1, 1) := by decide +kernel
theorem dX1_eliminate_114 : decode cX1_eliminate 114 = .ok (.invokevirtual 81, 3) := by decide +kernel
theorem dX1_eliminate_117 : decode cX1_eliminate 117 = .ok (.iinc 5 1, 3) := by decide +kernel
theorem dX1_eliminate_120 : decode cX1_eliminate 120 = .ok (.goto (-34), 3) := by decide +kernel
theorem dX1_eliminate_123 : decode cX1_eliminate 123 = .ok (.iconst 1, 1) := by decide +kernel
theorem dX1_eliminate_124 : decode cX1_eliminate 124 = .ok (.ireturn, 1) := by decide +kernel
abbrev cX1_pivotRow : ByteArray := prog_3_method_5_code
def yX1_pivotRow : MethodName := ⟨"ChainDesk$Equations", "pivotRow", "(I)I"⟩
def wX1_pivotRow : List Cond := .code yX1_pivotRow cX1_pivotRow 3 (Option.some Jvm.ClassFile.FieldType.int) :: WG
theorem dX1_pivotRow_0 : decode cX1_pivotRow 0 = .ok (.iload_n 1, 1) := by decide +kernel
theorem dX1_pivotRow_1 : decode cX1_pivotRow 1 = .ok (.istore_n 2, 1) := by decide +kernel
theorem dX1_pivotRow_2 : decode cX1_pivotRow 2 = .ok (.iload_n 2, 1) := by decide +kernel
theorem dX1_pivotRow_3 : decode cX1_pivotRow 3 = .ok (.aload_n 0, 1) := by decide +kernel
theorem dX1_pivotRow_4 : decode cX1_pivotRow 4 = .ok (.getfield 36, 3) := by decide +kernel
theorem dX1_pivotRow_7 : decode cX1_pivotRow 7 = .ok (.if_icmp .ge 25, 3) := by decide +kernel
theorem dX1_pivotRow_10 : decode cX1_pivotRow 10 = .ok (.aload_n 0, 1) := by decide +kernel
theorem dX1_pivotRow_11 : decode cX1_pivotRow 11 = .ok (.getfield 18, 3) := by decide +kernel
theorem dX1_pivotRow_14 : decode cX1_pivotRow 14 = .ok (.iload_n 2, 1) := by decide +kernel
theorem dX1_pivotRow_15 : decode cX1_pivotRow 15 = .ok (.bipush 41, 2) := by decide +kernel
theorem dX1_pivotRow_17 : decode cX1_pivotRow 17 = .ok (.imul, 1) := by decide +kernel
theorem dX1_pivotRow_18 : decode cX1_pivotRow 18 = .ok (.iload_n 1, 1) := by decide +kernel
theorem dX1_pivotRow_19 : decode cX1_pivotRow 19 = .ok (.iadd, 1) := by decide +kernel
theorem dX1_pivotRow_20 : decode cX1_pivotRow 20 = .ok (.iaload, 1) := by decide +kernel
theorem dX1_pivotRow_21 : decode cX1_pivotRow 21 = .ok (.ifCond .eq 5, 3) := by decide +kernel
theorem dX1_pivotRow_24 : decode cX1_pivotRow 24 = .ok (.iload_n 2, 1) := by decide +kernel
theorem dX1_pivotRow_25 : decode cX1_pivotRow 25 = .ok (.ireturn, 1) := by decide +kernel
theorem dX1_pivotRow_26 : decode cX1_pivotRow 26 = .ok (.iinc 2 1, 3) := by decide +kernel
theorem dX1_pivotRow_29 : decode cX1_pivotRow 29 = .ok (.goto (-27), 3) := by decide +kernel
theorem dX1_pivotRow_32 : decode cX1_pivotRow 32 = .ok (.iconst (-1), 1) := by decide +kernel
theorem dX1_pivotRow_33 : decode cX1_pivotRow 33 = .ok (.ireturn, 1) := by decide +kernel
abbrev cX1_swapRows : ByteArray := prog_3_method_6_code
def yX1_swapRows : MethodName := ⟨"ChainDesk$Equations", "swapRows", "(II)V"⟩
def wX1_swapRows : List Cond := .code yX1_swapRows cX1_swapRows 5 (Option.none : Option Jvm.ClassFile.FieldType) :: WG
theorem dX1_swapRows_0 : decode cX1_swapRows 0 = .ok (.iconst 0, 1) := by decide +kernel
theorem dX1_swapRows_1 : decode cX1_swapRows 1 = .ok (.istore_n 3, 1) := by decide +kernel
theorem dX1_swapRows_2 : decode cX1_swapRows 2 = .ok (.iload_n 3, 1) := by decide +kernel
theorem dX1_swapRows_3 : decode cX1_swapRows 3 = .ok (.aload_n 0, 1) := by decide +kernel
theorem dX1_swapRows_4 : decode cX1_swapRows 4 = .ok (.getfield 36, 3) := by decide +kernel
theorem dX1_swapRows_7 : decode cX1_swapRows 7 = .ok (.if_icmp .gt 57, 3) := by decide +kernel
theorem dX1_swapRows_10 : decode cX1_swapRows 10 = .ok (.aload_n 0, 1) := by decide +kernel
theorem dX1_swapRows_11 : decode cX1_swapRows 11 = .ok (.getfield 18, 3) := by decide +kernel
theorem dX1_swapRows_14 : decode cX1_swapRows 14 = .ok (.iload_n 1, 1) := by decide +kernel
theorem dX1_swapRows_15 : decode cX1_swapRows 15 = .ok (.bipush 41, 2) := by decide +kernel
theorem dX1_swapRows_17 : decode cX1_swapRows 17 = .ok (.imul, 1) := by decide +kernel
theorem dX1_swapRows_18 : decode cX1_swapRows 18 = .ok (.iload_n 3, 1) := by decide +kernel
theorem dX1_swapRows_19 : decode cX1_swapRows 19 = .ok (.iadd, 1) := by decide +kernel
theorem dX1_swapRows_20 : decode cX1_swapRows 20 = .ok (.iaload, 1) := by decide +kernel
theorem dX1_swapRows_21 : decode cX1_swapRows 21 = .ok (.istore 4, 2) := by decide +kernel
theorem dX1_swapRows_23 : decode cX1_swapRows 23 = .ok (.aload_n 0, 1) := by decide +kernel
theorem dX1_swapRows_24 : decode cX1_swapRows 24 = .ok (.getfield 18, 3) := by decide +kernel
theorem dX1_swapRows_27 : decode cX1_swapRows 27 = .ok (.iload_n 1, 1) := by decide +kernel
theorem dX1_swapRows_28 : decode cX1_swapRows 28 = .ok (.bipush 41, 2) := by decide +kernel
theorem dX1_swapRows_30 : decode cX1_swapRows 30 = .ok (.imul, 1) := by decide +kernel
theorem dX1_swapRows_31 : decode cX1_swapRows 31 = .ok (.iload_n 3, 1) := by decide +kernel
theorem dX1_swapRows_32 : decode cX1_swapRows 32 = .ok (.iadd, 1) := by decide +kernel
theorem dX1_swapRows_33 : decode cX1_swapRows 33 = .ok (.aload_n 0, 1) := by decide +kernel
theorem dX1_swapRows_34 : decode cX1_swapRows 34 = .ok (.getfield 18, 3) := by decide +kernel
theorem dX1_swapRows_37 : decode cX1_swapRows 37 = .ok (.iload_n 2, 1) := by decide +kernel
theorem dX1_swapRows_38 : decode cX1_swapRows 38 = .ok (.bipush 41, 2) := by decide +kernel
theorem dX1_swapRows_40 : decode cX1_swapRows 40 = .ok (.imul, 1) := by decide +kernel
theorem dX1_swapRows_41 : decode cX1_swapRows 41 = .ok (.iload_n 3, 1) := by decide +kernel
theorem dX1_swapRows_42 : decode cX1_swapRows 42 = .ok (.iadd, 1) := by decide +kernel
theorem dX1_swapRows_43 : decode cX1_swapRows 43 = .ok (.iaload, 1) := by decide +kernel
theorem dX1_swapRows_44 : decode cX1_swapRows 44 = .ok (.iastore, 1) := by decide +kernel
theorem dX1_swapRows_45 : decode cX1_swapRows 45 = .ok (.aload_n 0, 1) := by decide +kernel
theorem dX1_swapRows_46 : decode cX1_swapRows 46 = .ok (.getfield 18, 3) := by decide +kernel
theorem dX1_swapRows_49 : decode cX1_swapRows 49 = .ok (.iload_n 2, 1) := by decide +kernel
theorem dX1_swapRows_50 : decode cX1_swapRows 50 = .ok (.bipush 41, 2) := by decide +kernel
theorem dX1_swapRows_52 : decode cX1_swapRows 52 = .ok (.imul, 1) := by decide +kernel
theorem dX1_swapRows_53 : decode cX1_swapRows 53 = .ok (.iload_n 3, 1) := by decide +kernel
theorem dX1_swapRows_54 : decode cX1_swapRows 54 = .ok (.iadd, 1) := by decide +kernel
theorem dX1_swapRows_55 : decode cX1_swapRows 55 = .ok (.iload 4, 2) := by decide +kernel
theorem dX1_swapRows_57 : decode cX1_swapRows 57 = .ok (.iastore, 1) := by decide +kernel
theorem dX1_swapRows_58 : decode cX1_swapRows 58 = .ok (.iinc 3 1, 3) := by decide +kernel
theorem dX1_swapRows_61 : decode cX1_swapRows 61 = .ok (.goto (-59), 3) := by decide +kernel
theorem dX1_swapRows_64 : decode cX1_swapRows 64 = .ok (.return_, 1) := by decide +kernel
abbrev cX1_scaleRow : ByteArray := prog_3_method_7_code
def yX1_scaleRow : MethodName := ⟨"ChainDesk$Equations", "scaleRow", "(IJ)V"⟩
def wX1_scaleRow : List Cond := .code yX1_scaleRow cX1_scaleRow 5 (Option.none : Option Jvm.ClassFile.FieldType) :: WG
theorem dX1_scaleRow_0 : decode cX1_scaleRow 0 = .ok (.iload_n 1, 1) := by decide +kernel
theorem dX1_scaleRow_1 : decode cX1_scaleRow 1 = .ok (.istore 4, 2) := by decide +kernel
theorem dX1_scaleRow_3 : decode cX1_scaleRow 3 = .ok (.iload 4, 2) := by decide +kernel
theorem dX1_scaleRow_5 : decode cX1_scaleRow 5 = .ok (.aload_n 0, 1) := by decide +kernel
theorem dX1_scaleRow_6 : decode cX1_scaleRow 6 = .ok (.getfield 36, 3) := by decide +kernel
theorem dX1_scaleRow_9 : decode cX1_scaleRow 9 = .ok (.if_icmp .gt 43, 3) := by decide +kernel
theorem dX1_scaleRow_12 : decode cX1_scaleRow 12 = .ok (.aload_n 0, 1) := by decide +kernel
theorem dX1_scaleRow_13 : decode cX1_scaleRow 13 = .ok (.getfield 18, 3) := by decide +kernel
theorem dX1_scaleRow_16 : decode cX1_scaleRow 16 = .ok (.iload_n 1, 1) := by decide +kernel
theorem dX1_scaleRow_17 : decode cX1_scaleRow 17 = .ok (.bipush 41, 2) := by decide +kernel
theorem dX1_scaleRow_19 : decode cX1_scaleRow 19 = .ok (.imul, 1) := by decide +kernel
theorem dX1_scaleRow_20 : decode cX1_scaleRow 20 = .ok (.iload 4, 2) := by decide +kernel
theorem dX1_scaleRow_22 : decode cX1_scaleRow 22 = .ok (.iadd, 1) := by decide +kernel
theorem dX1_scaleRow_23 : decode cX1_scaleRow 23 = .ok (.aload_n 0, 1) := by decide +kernel
theorem dX1_scaleRow_24 : decode cX1_scaleRow 24 = .ok (.getfield 12, 3) := by decide +kernel
theorem dX1_scaleRow_27 : decode cX1_scaleRow 27 = .ok (.aload_n 0, 1) := by decide +kernel
theorem dX1_scaleRow_28 : decode cX1_scaleRow 28 = .ok (.getfield 18, 3) := by decide +kernel
theorem dX1_scaleRow_31 : decode cX1_scaleRow 31 = .ok (.iload_n 1, 1) := by decide +kernel
theorem dX1_scaleRow_32 : decode cX1_scaleRow 32 = .ok (.bipush 41, 2) := by decide +kernel
theorem dX1_scaleRow_34 : decode cX1_scaleRow 34 = .ok (.imul, 1) := by decide +kernel
theorem dX1_scaleRow_35 : decode cX1_scaleRow 35 = .ok (.iload 4, 2) := by decide +kernel
theorem dX1_scaleRow_37 : decode cX1_scaleRow 37 = .ok (.iadd, 1) := by decide +kernel
theorem dX1_scaleRow_38 : decode cX1_scaleRow 38 = .ok (.iaload, 1) := by decide +kernel
theorem dX1_scaleRow_39 : decode cX1_scaleRow 39 = .ok (.i2l, 1) := by decide +kernel
theorem dX1_scaleRow_40 : decode cX1_scaleRow 40 = .ok (.lload_n 2, 1) := by decide +kernel
theorem dX1_scaleRow_41 : decode cX1_scaleRow 41 = .ok (.invokevirtual 70, 3) := by decide +kernel
theorem dX1_scaleRow_44 : decode cX1_scaleRow 44 = .ok (.l2i, 1) := by decide +kernel
theorem dX1_scaleRow_45 : decode cX1_scaleRow 45 = .ok (.iastore, 1) := by decide +kernel
theorem dX1_scaleRow_46 : decode cX1_scaleRow 46 = .ok (.iinc 4 1, 3) := by decide +kernel
theorem dX1_scaleRow_49 : decode cX1_scaleRow 49 = .ok (.goto (-46), 3) := by decide +kernel
theorem dX1_scaleRow_52 : decode cX1_scaleRow 52 = .ok (.return_, 1) := by decide +kernel
abbrev cX1_clearCell : ByteArray := prog_3_method_8_code
def yX1_clearCell : MethodName := ⟨"ChainDesk$Equations", "clearCell", "(II)V"⟩
def wX1_clearCell : List Cond := .code yX1_clearCell cX1_clearCell 10 (Option.none : Option Jvm.ClassFile.FieldType) :: WG
theorem dX1_clearCell_0 : decode cX1_clearCell 0 = .ok (.aload_n 0, 1) := by decide +kernel
theorem dX1_clearCell_1 : decode cX1_clearCell 1 = .ok (.getfield 12, 3) := by decide +kernel
theorem dX1_clearCell_4 : decode cX1_clearCell 4 = .ok (.getfield 26, 3) := by decide +kernel
theorem dX1_clearCell_7 : decode cX1_clearCell 7 = .ok (.lstore_n 3, 1) := by decide +kernel
theorem dX1_clearCell_8 : decode cX1_clearCell 8 = .ok (.lload_n 3, 1) := by decide +kernel
theorem dX1_clearCell_9 : decode cX1_clearCell 9 = .ok (.lconst 1, 1) := by decide +kernel
theorem dX1_clearCell_10 : decode cX1_clearCell 10 = .ok (.lcmp, 1) := by decide +kernel
theorem dX1_clearCell_11 : decode cX1_clearCell 11 = .ok (.ifCond .ge 4, 3) := by decide +kernel
theorem dX1_clearCell_14 : decode cX1_clearCell 14 = .ok (.return_, 1) := by decide +kernel
theorem dX1_clearCell_15 : decode cX1_clearCell 15 = .ok (.iload_n 1, 1) := by decide +kernel
theorem dX1_clearCell_16 : decode cX1_clearCell 16 = .ok (.bipush 41, 2) := by decide +kernel
theorem dX1_clearCell_18 : decode cX1_clearCell 18 = .ok (.imul, 1) := by decide +kernel
theorem dX1_clearCell_19 : decode cX1_clearCell 19 = .ok (.istore 5, 2) := by decide +kernel
theorem dX1_clearCell_21 : decode cX1_clearCell 21 = .ok (.iload_n 2, 1) := by decide +kernel
theorem dX1_clearCell_22 : decode cX1_clearCell 22 = .ok (.bipush 41, 2) := by decide +kernel
theorem dX1_clearCell_24 : decode cX1_clearCell 24 = .ok (.imul, 1) := by decide +kernel
theorem dX1_clearCell_25 : decode cX1_clearCell 25 = .ok (.istore 6, 2) := by decide +kernel
theorem dX1_clearCell_27 : decode cX1_clearCell 27 = .ok (.lload_n 3, 1) := by decide +kernel
theorem dX1_clearCell_28 : decode cX1_clearCell 28 = .ok (.aload_n 0, 1) := by decide +kernel
theorem dX1_clearCell_29 : decode cX1_clearCell 29 = .ok (.getfield 18, 3) := by decide +kernel
theorem dX1_clearCell_32 : decode cX1_clearCell 32 = .ok (.iload 5, 2) := by decide +kernel
theorem dX1_clearCell_34 : decode cX1_clearCell 34 = .ok (.iload_n 2, 1) := by decide +kernel
theorem dX1_clearCell_35 : decode cX1_clearCell 35 = .ok (.iadd, 1) := by decide +kernel
theorem dX1_clearCell_36 : decode cX1_clearCell 36 = .ok (.iaload, 1) := by decide +kernel
theorem dX1_clearCell_37 : decode cX1_clearCell 37 = .ok (.i2l, 1) := by decide +kernel
theorem dX1_clearCell_38 : decode cX1_clearCell 38 = .ok (.lsub, 1) := by decide +kernel
theorem dX1_clearCell_39 : decode cX1_clearCell 39 = .ok (.lstore 7, 2) := by decide +kernel
theorem dX1_clearCell_41 : decode cX1_clearCell 41 = .ok (.aload_n 0, 1) := by decide +kernel
theorem dX1_clearCell_42 : decode cX1_clearCell 42 = .ok (.getfield 18, 3) := by decide +kernel
theorem dX1_clearCell_45 : decode cX1_clearCell 45 = .ok (.iload 5, 2) := by decide +kernel
theorem dX1_clearCell_47 : decode cX1_clearCell 47 = .ok (.iload_n 2, 1) := by decide +kernel
theorem dX1_clearCell_48 : decode cX1_clearCell 48 = .ok (.iadd, 1) := by decide +kernel
theorem dX1_clearCell_49 : decode cX1_clearCell 49 = .ok (.iconst 0, 1) := by decide +kernel
theorem dX1_clearCell_50 : decode cX1_clearCell 50 = .ok (.iastore, 1) := by decide +kernel
theorem dX1_clearCell_51 : decode cX1_clearCell 51 = .ok (.iload_n 2, 1) := by decide +kernel
theorem dX1_clearCell_52 : decode cX1_clearCell 52 = .ok (.iconst 1, 1) := by decide +kernel
theorem dX1_clearCell_53 : decode cX1_clearCell 53 = .ok (.iadd, 1) := by decide +kernel
theorem dX1_clearCell_54 : decode cX1_clearCell 54 = .ok (.istore 9, 2) := by decide +kernel
theorem dX1_clearCell_56 : decode cX1_clearCell 56 = .ok (.iload 9, 2) := by decide +kernel
theorem dX1_clearCell_58 : decode cX1_clearCell 58 = .ok (.aload_n 0, 1) := by decide +kernel
theorem dX1_clearCell_59 : decode cX1_clearCell 59 = .ok (.getfield 36, 3) := by decide +kernel
theorem dX1_clearCell_62 : decode cX1_clearCell 62 = .ok (.if_icmp .gt 48, 3) := by decide +kernel
theorem dX1_clearCell_65 : decode cX1_clearCell 65 = .ok (.aload_n 0, 1) := by decide +kernel
theorem dX1_clearCell_66 : decode cX1_clearCell 66 = .ok (.getfield 18, 3) := by decide +kernel
theorem dX1_clearCell_69 : decode cX1_clearCell 69 = .ok (.iload 5, 2) := by decide +kernel
theorem dX1_clearCell_71 : decode cX1_clearCell 71 = .ok (.iload 9, 2) := by decide +kernel
theorem dX1_clearCell_73 : decode cX1_clearCell 73 = .ok (.iadd, 1) := by decide +kernel
theorem dX1_clearCell_74 : decode cX1_clearCell 74 = .ok (.aload_n 0, 1) := by decide +kernel
theorem dX1_clearCell_75 : decode cX1_clearCell 75 = .ok (.getfield 18, 3) := by decide +kernel
theorem dX1_clearCell_78 : decode cX1_clearCell 78 = .ok (.iload 5, 2) := by decide +kernel
theorem dX1_clearCell_80 : decode cX1_clearCell 80 = .ok (.iload 9, 2) := by decide +kernel
theorem dX1_clearCell_82 : decode cX1_clearCell 82 = .ok (.iadd, 1) := by decide +kernel
theorem dX1_clearCell_83 : decode cX1_clearCell 83 = .ok (.iaload, 1) := by decide +kernel
theorem dX1_clearCell_84 : decode cX1_clearCell 84 = .ok (.i2l, 1) := by decide +kernel
theorem dX1_clearCell_85 : decode cX1_clearCell 85 = .ok (.lload 7, 2) := by decide +kernel
theorem dX1_clearCell_87 : decode cX1_clearCell 87 = .ok (.aload_n 0, 1) := by decide +kernel
theorem dX1_clearCell_88 : decode cX1_clearCell 88 = .ok (.getfield 18, 3) := by decide +kernel
theorem dX1_clearCell_91 : decode cX1_clearCell 91 = .ok (.iload 6, 2) := by decide +kernel
theorem dX1_clearCell_93 : decode cX1_clearCell 93 = .ok (.iload 9, 2) := by decide +kernel
theorem dX1_clearCell_95 : decode cX1_clearCell 95 = .ok (.iadd, 1) := by decide +kernel
theorem dX1_clearCell_96 : decode cX1_clearCell 96 = .ok (.iaload, 1) := by decide +kernel
theorem dX1_clearCell_97 : decode cX1_clearCell 97 = .ok (.i2l, 1) := by decide +kernel
theorem dX1_clearCell_98 : decode cX1_clearCell 98 = .ok (.lmul, 1) := by decide +kernel
theorem dX1_clearCell_99 : decode cX1_clearCell 99 = .ok (.ladd, 1) := by decide +kernel
theorem dX1_clearCell_100 : decode cX1_clearCell 100 = .ok (.lload_n 3, 1) := by decide +kernel
theorem dX1_clearCell_101 : decode cX1_clearCell 101 = .ok (.lrem, 1) := by decide +kernel
theorem dX1_clearCell_102 : decode cX1_clearCell 102 = .ok (.l2i, 1) := by decide +kernel
theorem dX1_clearCell_103 : decode cX1_clearCell 103 = .ok (.iastore, 1) := by decide +kernel
theorem dX1_clearCell_104 : decode cX1_clearCell 104 = .ok (.iinc 9 1, 3) := by decide +kernel
theorem dX1_clearCell_107 : decode cX1_clearCell 107 = .ok (.goto (-51), 3) := by decide +kernel
theorem dX1_clearCell_110 : decode cX1_clearCell 110 = .ok (.return_, 1) := by decide +kernel
abbrev cX1_answerOf : ByteArray := prog_3_method_9_code
def yX1_answerOf : MethodName := ⟨"ChainDesk$Equations", "answerOf", "(I)J"⟩
def wX1_answerOf : List Cond := .code yX1_answerOf cX1_answerOf 7 (Option.some Jvm.ClassFile.FieldType.long) :: WG
theorem dX1_answerOf_0 : decode cX1_answerOf 0 = .ok (.aload_n 0, 1) := by decide +kernel
theorem dX1_answerOf_1 : decode cX1_answerOf 1 = .ok (.getfield 18, 3) := by decide +kernel
theorem dX1_answerOf_4 : decode cX1_answerOf 4 = .ok (.iload_n 1, 1) := by decide +kernel
theorem dX1_answerOf_5 : decode cX1_answerOf 5 = .ok (.bipush 41, 2) := by decide +kernel
theorem dX1_answerOf_7 : decode cX1_answerOf 7 = .ok (.imul, 1) := by decide +kernel
theorem dX1_answerOf_8 : decode cX1_answerOf 8 = .ok (.aload_n 0, 1) := by decide +kernel
theorem dX1_answerOf_9 : decode cX1_answerOf 9 = .ok (.getfield 36, 3) := by decide +kernel
theorem dX1_answerOf_12 : decode cX1_answerOf 12 = .ok (.iadd, 1) := by decide +kernel
theorem dX1_answerOf_13 : decode cX1_answerOf 13 = .ok (.iaload, 1) := by decide +kernel
theorem dX1_answerOf_14 : decode cX1_answerOf 14 = .ok (.i2l, 1) := by decide +kernel
theorem dX1_answerOf_15 : decode cX1_answerOf 15 = .ok (.lstore_n 2, 1) := by decide +kernel
theorem dX1_answerOf_16 : decode cX1_answerOf 16 = .ok (.iload_n 1, 1) := by decide +kernel
theorem dX1_answerOf_17 : decode cX1_answerOf 17 = .ok (.iconst 1, 1) := by decide +kernel
theorem dX1_answerOf_18 : decode cX1_answerOf 18 = .ok (.iadd, 1) := by decide +kernel
theorem dX1_answerOf_19 : decode cX1_answerOf 19 = .ok (.istore 4, 2) := by decide +kernel
theorem dX1_answerOf_21 : decode cX1_answerOf 21 = .ok (.iload 4, 2) := by decide +kernel
theorem dX1_answerOf_23 : decode cX1_answerOf 23 = .ok (.aload_n 0, 1) := by decide +kernel
theorem dX1_answerOf_24 : decode cX1_answerOf 24 = .ok (.getfield 36, 3) := by decide +kernel
theorem dX1_answerOf_27 : decode cX1_answerOf 27 = .ok (.if_icmp .ge 50, 3) := by decide +kernel
theorem dX1_answerOf_30 : decode cX1_answerOf 30 = .ok (.aload_n 0, 1) := by decide +kernel
theorem dX1_answerOf_31 : decode cX1_answerOf 31 = .ok (.getfield 12, 3) := by decide +kernel
theorem dX1_answerOf_34 : decode cX1_answerOf 34 = .ok (.lconst 0, 1) := by decide +kernel
theorem dX1_answerOf_35 : decode cX1_answerOf 35 = .ok (.aload_n 0, 1) := by decide +kernel
theorem dX1_answerOf_36 : decode cX1_answerOf 36 = .ok (.getfield 18, 3) := by decide +kernel
theorem dX1_answerOf_39 : decode cX1_answerOf 39 = .ok (.iload_n 1, 1) := by decide +kernel
theorem dX1_answerOf_40 : decode cX1_answerOf 40 = .ok (.bipush 41, 2) := by decide +kernel
theorem dX1_answerOf_42 : decode cX1_answerOf 42 = .ok (.imul, 1) := by decide +kernel
theorem dX1_answerOf_43 : decode cX1_answerOf 43 = .ok (.iload 4, 2) := by decide +kernel
theorem dX1_answerOf_45 : decode cX1_answerOf 45 = .ok (.iadd, 1) := by decide +kernel
theorem dX1_answerOf_46 : decode cX1_answerOf 46 = .ok (.iaload, 1) := by decide +kernel
theorem dX1_answerOf_47 : decode cX1_answerOf 47 = .ok (.i2l, 1) := by decide +kernel
theorem dX1_answerOf_48 : decode cX1_answerOf 48 = .ok (.invokevirtual 58, 3) := by decide +kernel
theorem dX1_answerOf_51 : decode cX1_answerOf 51 = .ok (.lstore 5, 2) := by decide +kernel
theorem dX1_answerOf_53 : decode cX1_answerOf 53 = .ok (.aload_n 0, 1) := by decide +kernel
theorem dX1_answerOf_54 : decode cX1_answerOf 54 = .ok (.getfield 12, 3) := by decide +kernel
theorem dX1_answerOf_57 : decode cX1_answerOf 57 = .ok (.lload_n 2, 1) := by decide +kernel
theorem dX1_answerOf_58 : decode cX1_answerOf 58 = .ok (.lload 5, 2) := by decide +kernel
theorem dX1_answerOf_60 : decode cX1_answerOf 60 = .ok (.aload_n 0, 1) := by decide +kernel
theorem dX1_answerOf_61 : decode cX1_answerOf 61 = .ok (.getfield 22, 3) := by decide +kernel
theorem dX1_answerOf_64 : decode cX1_answerOf 64 = .ok (.iload 4, 2) := by decide +kernel
theorem dX1_answerOf_66 : decode cX1_answerOf 66 = .ok (.laload, 1) := by decide +kernel
theorem dX1_answerOf_67 : decode cX1_answerOf 67 = .ok (.invokevirtual 84, 3) := by decide +kernel
theorem dX1_answerOf_70 : decode cX1_answerOf 70 = .ok (.lstore_n 2, 1) := by decide +kernel
theorem dX1_answerOf_71 : decode cX1_answerOf 71 = .ok (.iinc 4 1, 3) := by decide +kernel
theorem dX1_answerOf_74 : decode cX1_answerOf 74 = .ok (.goto (-53), 3) := by decide +kernel
theorem dX1_answerOf_77 : decode cX1_answerOf 77 = .ok (.lload_n 2, 1) := by decide +kernel
theorem dX1_answerOf_78 : decode cX1_answerOf 78 = .ok (.lreturn, 1) := by decide +kernel
