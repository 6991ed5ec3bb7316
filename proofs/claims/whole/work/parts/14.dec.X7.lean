abbrev cX7_init : ByteArray := prog_1_method_1_code
def yX7_init : MethodName := ⟨"ChainDesk", "<init>", "()V"⟩
def wX7_init : List Cond := .code yX7_init cX7_init 1 (Option.none : Option Jvm.ClassFile.FieldType) :: WG
theorem dX7_init_0 : decode cX7_init 0 = .ok (.aload_n 0, 1) := by decide +kernel
theorem dX7_init_1 : decode cX7_init 1 = .ok (.invokespecial 3, 3) := by decide +kernel
theorem dX7_init_4 : decode cX7_init 4 = .ok (.aload_n 0, 1) := by decide +kernel
theorem dX7_init_5 : decode cX7_init 5 = .ok (.new 9, 3) := by decide +kernel
theorem dX7_init_8 : decode cX7_init 8 = .ok (.dup, 1) := by decide +kernel
theorem dX7_init_9 : decode cX7_init 9 = .ok (.invokespecial 11, 3) := by decide +kernel
theorem dX7_init_12 : decode cX7_init 12 = .ok (.putfield 12, 3) := by decide +kernel
theorem dX7_init_15 : decode cX7_init 15 = .ok (.aload_n 0, 1) := by decide +kernel
theorem dX7_init_16 : decode cX7_init 16 = .ok (.new 16, 3) := by decide +kernel
theorem dX7_init_19 : decode cX7_init 19 = .ok (.dup, 1) := by decide +kernel
theorem dX7_init_20 : decode cX7_init 20 = .ok (.invokespecial 18, 3) := by decide +kernel
theorem dX7_init_23 : decode cX7_init 23 = .ok (.putfield 19, 3) := by decide +kernel
theorem dX7_init_26 : decode cX7_init 26 = .ok (.aload_n 0, 1) := by decide +kernel
theorem dX7_init_27 : decode cX7_init 27 = .ok (.new 23, 3) := by decide +kernel
theorem dX7_init_30 : decode cX7_init 30 = .ok (.dup, 1) := by decide +kernel
theorem dX7_init_31 : decode cX7_init 31 = .ok (.invokespecial 25, 3) := by decide +kernel
theorem dX7_init_34 : decode cX7_init 34 = .ok (.putfield 26, 3) := by decide +kernel
theorem dX7_init_37 : decode cX7_init 37 = .ok (.aload_n 0, 1) := by decide +kernel
theorem dX7_init_38 : decode cX7_init 38 = .ok (.new 30, 3) := by decide +kernel
theorem dX7_init_41 : decode cX7_init 41 = .ok (.dup, 1) := by decide +kernel
theorem dX7_init_42 : decode cX7_init 42 = .ok (.invokespecial 32, 3) := by decide +kernel
theorem dX7_init_45 : decode cX7_init 45 = .ok (.putfield 33, 3) := by decide +kernel
theorem dX7_init_48 : decode cX7_init 48 = .ok (.aload_n 0, 1) := by decide +kernel
theorem dX7_init_49 : decode cX7_init 49 = .ok (.new 37, 3) := by decide +kernel
theorem dX7_init_52 : decode cX7_init 52 = .ok (.dup, 1) := by decide +kernel
theorem dX7_init_53 : decode cX7_init 53 = .ok (.invokespecial 39, 3) := by decide +kernel
theorem dX7_init_56 : decode cX7_init 56 = .ok (.putfield 40, 3) := by decide +kernel
theorem dX7_init_59 : decode cX7_init 59 = .ok (.aload_n 0, 1) := by decide +kernel
theorem dX7_init_60 : decode cX7_init 60 = .ok (.iconst 0, 1) := by decide +kernel
theorem dX7_init_61 : decode cX7_init 61 = .ok (.putfield 44, 3) := by decide +kernel
theorem dX7_init_64 : decode cX7_init 64 = .ok (.aload_n 0, 1) := by decide +kernel
theorem dX7_init_65 : decode cX7_init 65 = .ok (.iconst (-1), 1) := by decide +kernel
theorem dX7_init_66 : decode cX7_init 66 = .ok (.putfield 48, 3) := by decide +kernel
theorem dX7_init_69 : decode cX7_init 69 = .ok (.return_, 1) := by decide +kernel
abbrev cX7_solve : ByteArray := prog_1_method_5_code
def yX7_solve : MethodName := ⟨"ChainDesk", "solve", "()I"⟩
def wX7_solve : List Cond := .code yX7_solve cX7_solve 1 (Option.some Jvm.ClassFile.FieldType.int) :: WG
theorem dX7_solve_0 : decode cX7_solve 0 = .ok (.aload_n 0, 1) := by decide +kernel
theorem dX7_solve_1 : decode cX7_solve 1 = .ok (.getfield 44, 3) := by decide +kernel
theorem dX7_solve_4 : decode cX7_solve 4 = .ok (.ifCond .eq 5, 3) := by decide +kernel
theorem dX7_solve_7 : decode cX7_solve 7 = .ok (.iconst 0, 1) := by decide +kernel
theorem dX7_solve_8 : decode cX7_solve 8 = .ok (.ireturn, 1) := by decide +kernel
theorem dX7_solve_9 : decode cX7_solve 9 = .ok (.aload_n 0, 1) := by decide +kernel
theorem dX7_solve_10 : decode cX7_solve 10 = .ok (.getfield 12, 3) := by decide +kernel
theorem dX7_solve_13 : decode cX7_solve 13 = .ok (.invokevirtual 96, 3) := by decide +kernel
theorem dX7_solve_16 : decode cX7_solve 16 = .ok (.sipush 480, 3) := by decide +kernel
theorem dX7_solve_19 : decode cX7_solve 19 = .ok (.if_icmp .le 6, 3) := by decide +kernel
theorem dX7_solve_22 : decode cX7_solve 22 = .ok (.bipush 6, 2) := by decide +kernel
theorem dX7_solve_24 : decode cX7_solve 24 = .ok (.ireturn, 1) := by decide +kernel
theorem dX7_solve_25 : decode cX7_solve 25 = .ok (.aload_n 0, 1) := by decide +kernel
theorem dX7_solve_26 : decode cX7_solve 26 = .ok (.getfield 12, 3) := by decide +kernel
theorem dX7_solve_29 : decode cX7_solve 29 = .ok (.invokevirtual 100, 3) := by decide +kernel
theorem dX7_solve_32 : decode cX7_solve 32 = .ok (.ifCond .eq 6, 3) := by decide +kernel
theorem dX7_solve_35 : decode cX7_solve 35 = .ok (.bipush 9, 2) := by decide +kernel
theorem dX7_solve_37 : decode cX7_solve 37 = .ok (.ireturn, 1) := by decide +kernel
theorem dX7_solve_38 : decode cX7_solve 38 = .ok (.aload_n 0, 1) := by decide +kernel
theorem dX7_solve_39 : decode cX7_solve 39 = .ok (.getfield 19, 3) := by decide +kernel
theorem dX7_solve_42 : decode cX7_solve 42 = .ok (.aload_n 0, 1) := by decide +kernel
theorem dX7_solve_43 : decode cX7_solve 43 = .ok (.getfield 12, 3) := by decide +kernel
theorem dX7_solve_46 : decode cX7_solve 46 = .ok (.invokevirtual 104, 3) := by decide +kernel
theorem dX7_solve_49 : decode cX7_solve 49 = .ok (.aload_n 0, 1) := by decide +kernel
theorem dX7_solve_50 : decode cX7_solve 50 = .ok (.iconst (-1), 1) := by decide +kernel
theorem dX7_solve_51 : decode cX7_solve 51 = .ok (.putfield 48, 3) := by decide +kernel
theorem dX7_solve_54 : decode cX7_solve 54 = .ok (.aload_n 0, 1) := by decide +kernel
theorem dX7_solve_55 : decode cX7_solve 55 = .ok (.iconst 1, 1) := by decide +kernel
theorem dX7_solve_56 : decode cX7_solve 56 = .ok (.putfield 44, 3) := by decide +kernel
theorem dX7_solve_59 : decode cX7_solve 59 = .ok (.iconst 0, 1) := by decide +kernel
theorem dX7_solve_60 : decode cX7_solve 60 = .ok (.ireturn, 1) := by decide +kernel
abbrev cX7_print : ByteArray := prog_1_method_6_code
def yX7_print : MethodName := ⟨"ChainDesk", "print", "(I)I"⟩
def wX7_print : List Cond := .code yX7_print cX7_print 2 (Option.some Jvm.ClassFile.FieldType.int) :: WG
theorem dX7_print_0 : decode cX7_print 0 = .ok (.aload_n 0, 1) := by decide +kernel
theorem dX7_print_1 : decode cX7_print 1 = .ok (.iload_n 1, 1) := by decide +kernel
theorem dX7_print_2 : decode cX7_print 2 = .ok (.invokevirtual 108, 3) := by decide +kernel
theorem dX7_print_5 : decode cX7_print 5 = .ok (.ifCond .ne 5, 3) := by decide +kernel
theorem dX7_print_8 : decode cX7_print 8 = .ok (.iconst (-1), 1) := by decide +kernel
theorem dX7_print_9 : decode cX7_print 9 = .ok (.ireturn, 1) := by decide +kernel
theorem dX7_print_10 : decode cX7_print 10 = .ok (.aload_n 0, 1) := by decide +kernel
theorem dX7_print_11 : decode cX7_print 11 = .ok (.iload_n 1, 1) := by decide +kernel
theorem dX7_print_12 : decode cX7_print 12 = .ok (.invokevirtual 111, 3) := by decide +kernel
theorem dX7_print_15 : decode cX7_print 15 = .ok (.aload_n 0, 1) := by decide +kernel
theorem dX7_print_16 : decode cX7_print 16 = .ok (.getfield 33, 3) := by decide +kernel
theorem dX7_print_19 : decode cX7_print 19 = .ok (.invokevirtual 114, 3) := by decide +kernel
theorem dX7_print_22 : decode cX7_print 22 = .ok (.aload_n 0, 1) := by decide +kernel
theorem dX7_print_23 : decode cX7_print 23 = .ok (.getfield 40, 3) := by decide +kernel
theorem dX7_print_26 : decode cX7_print 26 = .ok (.aload_n 0, 1) := by decide +kernel
theorem dX7_print_27 : decode cX7_print 27 = .ok (.getfield 26, 3) := by decide +kernel
theorem dX7_print_30 : decode cX7_print 30 = .ok (.getfield 117, 3) := by decide +kernel
theorem dX7_print_33 : decode cX7_print 33 = .ok (.invokevirtual 120, 3) := by decide +kernel
theorem dX7_print_36 : decode cX7_print 36 = .ok (.aload_n 0, 1) := by decide +kernel
theorem dX7_print_37 : decode cX7_print 37 = .ok (.getfield 33, 3) := by decide +kernel
theorem dX7_print_40 : decode cX7_print 40 = .ok (.aload_n 0, 1) := by decide +kernel
theorem dX7_print_41 : decode cX7_print 41 = .ok (.getfield 40, 3) := by decide +kernel
theorem dX7_print_44 : decode cX7_print 44 = .ok (.invokevirtual 124, 3) := by decide +kernel
theorem dX7_print_47 : decode cX7_print 47 = .ok (.aload_n 0, 1) := by decide +kernel
theorem dX7_print_48 : decode cX7_print 48 = .ok (.getfield 26, 3) := by decide +kernel
theorem dX7_print_51 : decode cX7_print 51 = .ok (.getfield 127, 3) := by decide +kernel
theorem dX7_print_54 : decode cX7_print 54 = .ok (.invokevirtual 130, 3) := by decide +kernel
theorem dX7_print_57 : decode cX7_print 57 = .ok (.ifCond .ne 37, 3) := by decide +kernel
theorem dX7_print_60 : decode cX7_print 60 = .ok (.aload_n 0, 1) := by decide +kernel
theorem dX7_print_61 : decode cX7_print 61 = .ok (.getfield 33, 3) := by decide +kernel
theorem dX7_print_64 : decode cX7_print 64 = .ok (.bipush 47, 2) := by decide +kernel
theorem dX7_print_66 : decode cX7_print 66 = .ok (.invokevirtual 133, 3) := by decide +kernel
theorem dX7_print_69 : decode cX7_print 69 = .ok (.aload_n 0, 1) := by decide +kernel
theorem dX7_print_70 : decode cX7_print 70 = .ok (.getfield 40, 3) := by decide +kernel
theorem dX7_print_73 : decode cX7_print 73 = .ok (.aload_n 0, 1) := by decide +kernel
theorem dX7_print_74 : decode cX7_print 74 = .ok (.getfield 26, 3) := by decide +kernel
theorem dX7_print_77 : decode cX7_print 77 = .ok (.getfield 127, 3) := by decide +kernel
theorem dX7_print_80 : decode cX7_print 80 = .ok (.invokevirtual 120, 3) := by decide +kernel
theorem dX7_print_83 : decode cX7_print 83 = .ok (.aload_n 0, 1) := by decide +kernel
theorem dX7_print_84 : decode cX7_print 84 = .ok (.getfield 33, 3) := by decide +kernel
theorem dX7_print_87 : decode cX7_print 87 = .ok (.aload_n 0, 1) := by decide +kernel
theorem dX7_print_88 : decode cX7_print 88 = .ok (.getfield 40, 3) := by decide +kernel
theorem dX7_print_91 : decode cX7_print 91 = .ok (.invokevirtual 124, 3) := by decide +kernel
theorem dX7_print_94 : decode cX7_print 94 = .ok (.aload_n 0, 1) := by decide +kernel
theorem dX7_print_95 : decode cX7_print 95 = .ok (.getfield 33, 3) := by decide +kernel
theorem dX7_print_98 : decode cX7_print 98 = .ok (.getfield 137, 3) := by decide +kernel
theorem dX7_print_101 : decode cX7_print 101 = .ok (.ireturn, 1) := by decide +kernel
abbrev cX7_isKnown : ByteArray := prog_1_method_11_code
def yX7_isKnown : MethodName := ⟨"ChainDesk", "isKnown", "(I)Z"⟩
def wX7_isKnown : List Cond := .code yX7_isKnown cX7_isKnown 2 (Option.some Jvm.ClassFile.FieldType.boolean) :: WG
theorem dX7_isKnown_0 : decode cX7_isKnown 0 = .ok (.aload_n 0, 1) := by decide +kernel
theorem dX7_isKnown_1 : decode cX7_isKnown 1 = .ok (.getfield 44, 3) := by decide +kernel
theorem dX7_isKnown_4 : decode cX7_isKnown 4 = .ok (.ifCond .eq 18, 3) := by decide +kernel
theorem dX7_isKnown_7 : decode cX7_isKnown 7 = .ok (.aload_n 0, 1) := by decide +kernel
theorem dX7_isKnown_8 : decode cX7_isKnown 8 = .ok (.getfield 12, 3) := by decide +kernel
theorem dX7_isKnown_11 : decode cX7_isKnown 11 = .ok (.iload_n 1, 1) := by decide +kernel
theorem dX7_isKnown_12 : decode cX7_isKnown 12 = .ok (.invokevirtual 63, 3) := by decide +kernel
theorem dX7_isKnown_15 : decode cX7_isKnown 15 = .ok (.ifCond .eq 7, 3) := by decide +kernel
theorem dX7_isKnown_18 : decode cX7_isKnown 18 = .ok (.iconst 1, 1) := by decide +kernel
theorem dX7_isKnown_19 : decode cX7_isKnown 19 = .ok (.goto 4, 3) := by decide +kernel
theorem dX7_isKnown_22 : decode cX7_isKnown 22 = .ok (.iconst 0, 1) := by decide +kernel
theorem dX7_isKnown_23 : decode cX7_isKnown 23 = .ok (.ireturn, 1) := by decide +kernel
abbrev cX7_reduce : ByteArray := prog_1_method_12_code
def yX7_reduce : MethodName := ⟨"ChainDesk", "reduce", "(I)V"⟩
def wX7_reduce : List Cond := .code yX7_reduce cX7_reduce 2 (Option.none : Option Jvm.ClassFile.FieldType) :: WG
theorem dX7_reduce_0 : decode cX7_reduce 0 = .ok (.aload_n 0, 1) := by decide +kernel
theorem dX7_reduce_1 : decode cX7_reduce 1 = .ok (.getfield 48, 3) := by decide +kernel
theorem dX7_reduce_4 : decode cX7_reduce 4 = .ok (.iload_n 1, 1) := by decide +kernel
theorem dX7_reduce_5 : decode cX7_reduce 5 = .ok (.if_icmp .eq 31, 3) := by decide +kernel
theorem dX7_reduce_8 : decode cX7_reduce 8 = .ok (.aload_n 0, 1) := by decide +kernel
theorem dX7_reduce_9 : decode cX7_reduce 9 = .ok (.getfield 26, 3) := by decide +kernel
theorem dX7_reduce_12 : decode cX7_reduce 12 = .ok (.aload_n 0, 1) := by decide +kernel
theorem dX7_reduce_13 : decode cX7_reduce 13 = .ok (.getfield 19, 3) := by decide +kernel
theorem dX7_reduce_16 : decode cX7_reduce 16 = .ok (.getfield 144, 3) := by decide +kernel
theorem dX7_reduce_19 : decode cX7_reduce 19 = .ok (.iload_n 1, 1) := by decide +kernel
theorem dX7_reduce_20 : decode cX7_reduce 20 = .ok (.aaload, 1) := by decide +kernel
theorem dX7_reduce_21 : decode cX7_reduce 21 = .ok (.aload_n 0, 1) := by decide +kernel
theorem dX7_reduce_22 : decode cX7_reduce 22 = .ok (.getfield 19, 3) := by decide +kernel
theorem dX7_reduce_25 : decode cX7_reduce 25 = .ok (.getfield 152, 3) := by decide +kernel
theorem dX7_reduce_28 : decode cX7_reduce 28 = .ok (.invokevirtual 165, 3) := by decide +kernel
theorem dX7_reduce_31 : decode cX7_reduce 31 = .ok (.aload_n 0, 1) := by decide +kernel
theorem dX7_reduce_32 : decode cX7_reduce 32 = .ok (.iload_n 1, 1) := by decide +kernel
theorem dX7_reduce_33 : decode cX7_reduce 33 = .ok (.putfield 48, 3) := by decide +kernel
theorem dX7_reduce_36 : decode cX7_reduce 36 = .ok (.return_, 1) := by decide +kernel
abbrev cX7_character : ByteArray := prog_1_method_7_code
def yX7_character : MethodName := ⟨"ChainDesk", "character", "(I)I"⟩
def wX7_character : List Cond := .code yX7_character cX7_character 2 (Option.some Jvm.ClassFile.FieldType.int) :: WG
theorem dX7_character_0 : decode cX7_character 0 = .ok (.iload_n 1, 1) := by decide +kernel
theorem dX7_character_1 : decode cX7_character 1 = .ok (.ifCond .lt 14, 3) := by decide +kernel
theorem dX7_character_4 : decode cX7_character 4 = .ok (.iload_n 1, 1) := by decide +kernel
theorem dX7_character_5 : decode cX7_character 5 = .ok (.aload_n 0, 1) := by decide +kernel
theorem dX7_character_6 : decode cX7_character 6 = .ok (.getfield 33, 3) := by decide +kernel
theorem dX7_character_9 : decode cX7_character 9 = .ok (.getfield 137, 3) := by decide +kernel
theorem dX7_character_12 : decode cX7_character 12 = .ok (.if_icmp .lt 5, 3) := by decide +kernel
theorem dX7_character_15 : decode cX7_character 15 = .ok (.iconst (-1), 1) := by decide +kernel
theorem dX7_character_16 : decode cX7_character 16 = .ok (.ireturn, 1) := by decide +kernel
theorem dX7_character_17 : decode cX7_character 17 = .ok (.aload_n 0, 1) := by decide +kernel
theorem dX7_character_18 : decode cX7_character 18 = .ok (.getfield 33, 3) := by decide +kernel
theorem dX7_character_21 : decode cX7_character 21 = .ok (.getfield 140, 3) := by decide +kernel
theorem dX7_character_24 : decode cX7_character 24 = .ok (.iload_n 1, 1) := by decide +kernel
theorem dX7_character_25 : decode cX7_character 25 = .ok (.caload, 1) := by decide +kernel
theorem dX7_character_26 : decode cX7_character 26 = .ok (.ireturn, 1) := by decide +kernel
abbrev cX7_compare : ByteArray := prog_1_method_8_code
def yX7_compare : MethodName := ⟨"ChainDesk", "compare", "(II)I"⟩
def wX7_compare : List Cond := .code yX7_compare cX7_compare 3 (Option.some Jvm.ClassFile.FieldType.int) :: WG
theorem dX7_compare_0 : decode cX7_compare 0 = .ok (.aload_n 0, 1) := by decide +kernel
theorem dX7_compare_1 : decode cX7_compare 1 = .ok (.iload_n 1, 1) := by decide +kernel
theorem dX7_compare_2 : decode cX7_compare 2 = .ok (.invokevirtual 108, 3) := by decide +kernel
theorem dX7_compare_5 : decode cX7_compare 5 = .ok (.ifCond .eq 11, 3) := by decide +kernel
theorem dX7_compare_8 : decode cX7_compare 8 = .ok (.aload_n 0, 1) := by decide +kernel
theorem dX7_compare_9 : decode cX7_compare 9 = .ok (.iload_n 2, 1) := by decide +kernel
theorem dX7_compare_10 : decode cX7_compare 10 = .ok (.invokevirtual 108, 3) := by decide +kernel
theorem dX7_compare_13 : decode cX7_compare 13 = .ok (.ifCond .ne 6, 3) := by decide +kernel
theorem dX7_compare_16 : decode cX7_compare 16 = .ok (.bipush (-2), 2) := by decide +kernel
theorem dX7_compare_18 : decode cX7_compare 18 = .ok (.ireturn, 1) := by decide +kernel
theorem dX7_compare_19 : decode cX7_compare 19 = .ok (.aload_n 0, 1) := by decide +kernel
theorem dX7_compare_20 : decode cX7_compare 20 = .ok (.getfield 19, 3) := by decide +kernel
theorem dX7_compare_23 : decode cX7_compare 23 = .ok (.getfield 144, 3) := by decide +kernel
theorem dX7_compare_26 : decode cX7_compare 26 = .ok (.iload_n 1, 1) := by decide +kernel
theorem dX7_compare_27 : decode cX7_compare 27 = .ok (.aaload, 1) := by decide +kernel
theorem dX7_compare_28 : decode cX7_compare 28 = .ok (.aload_n 0, 1) := by decide +kernel
theorem dX7_compare_29 : decode cX7_compare 29 = .ok (.getfield 19, 3) := by decide +kernel
theorem dX7_compare_32 : decode cX7_compare 32 = .ok (.getfield 144, 3) := by decide +kernel
theorem dX7_compare_35 : decode cX7_compare 35 = .ok (.iload_n 2, 1) := by decide +kernel
theorem dX7_compare_36 : decode cX7_compare 36 = .ok (.aaload, 1) := by decide +kernel
theorem dX7_compare_37 : decode cX7_compare 37 = .ok (.invokevirtual 148, 3) := by decide +kernel
theorem dX7_compare_40 : decode cX7_compare 40 = .ok (.ireturn, 1) := by decide +kernel
abbrev cX7_billionths : ByteArray := prog_1_method_9_code
def yX7_billionths : MethodName := ⟨"ChainDesk", "billionths", "(I)I"⟩
def wX7_billionths : List Cond := .code yX7_billionths cX7_billionths 6 (Option.some Jvm.ClassFile.FieldType.int) :: WG
theorem dX7_billionths_0 : decode cX7_billionths 0 = .ok (.aload_n 0, 1) := by decide +kernel
theorem dX7_billionths_1 : decode cX7_billionths 1 = .ok (.iload_n 1, 1) := by decide +kernel
theorem dX7_billionths_2 : decode cX7_billionths 2 = .ok (.invokevirtual 108, 3) := by decide +kernel
theorem dX7_billionths_5 : decode cX7_billionths 5 = .ok (.ifCond .ne 5, 3) := by decide +kernel
theorem dX7_billionths_8 : decode cX7_billionths 8 = .ok (.iconst (-1), 1) := by decide +kernel
theorem dX7_billionths_9 : decode cX7_billionths 9 = .ok (.ireturn, 1) := by decide +kernel
theorem dX7_billionths_10 : decode cX7_billionths 10 = .ok (.aload_n 0, 1) := by decide +kernel
theorem dX7_billionths_11 : decode cX7_billionths 11 = .ok (.getfield 19, 3) := by decide +kernel
theorem dX7_billionths_14 : decode cX7_billionths 14 = .ok (.getfield 152, 3) := by decide +kernel
theorem dX7_billionths_17 : decode cX7_billionths 17 = .ok (.astore_n 2, 1) := by decide +kernel
theorem dX7_billionths_18 : decode cX7_billionths 18 = .ok (.aload_n 0, 1) := by decide +kernel
theorem dX7_billionths_19 : decode cX7_billionths 19 = .ok (.getfield 40, 3) := by decide +kernel
theorem dX7_billionths_22 : decode cX7_billionths 22 = .ok (.aload_n 0, 1) := by decide +kernel
theorem dX7_billionths_23 : decode cX7_billionths 23 = .ok (.getfield 19, 3) := by decide +kernel
theorem dX7_billionths_26 : decode cX7_billionths 26 = .ok (.getfield 144, 3) := by decide +kernel
theorem dX7_billionths_29 : decode cX7_billionths 29 = .ok (.iload_n 1, 1) := by decide +kernel
theorem dX7_billionths_30 : decode cX7_billionths 30 = .ok (.aaload, 1) := by decide +kernel
theorem dX7_billionths_31 : decode cX7_billionths 31 = .ok (.invokevirtual 120, 3) := by decide +kernel
theorem dX7_billionths_34 : decode cX7_billionths 34 = .ok (.iconst 0, 1) := by decide +kernel
theorem dX7_billionths_35 : decode cX7_billionths 35 = .ok (.istore_n 3, 1) := by decide +kernel
theorem dX7_billionths_36 : decode cX7_billionths 36 = .ok (.iconst 0, 1) := by decide +kernel
theorem dX7_billionths_37 : decode cX7_billionths 37 = .ok (.istore 4, 2) := by decide +kernel
theorem dX7_billionths_39 : decode cX7_billionths 39 = .ok (.iload 4, 2) := by decide +kernel
theorem dX7_billionths_41 : decode cX7_billionths 41 = .ok (.bipush 9, 2) := by decide +kernel
theorem dX7_billionths_43 : decode cX7_billionths 43 = .ok (.if_icmp .gt 62, 3) := by decide +kernel
theorem dX7_billionths_46 : decode cX7_billionths 46 = .ok (.iload_n 3, 1) := by decide +kernel
theorem dX7_billionths_47 : decode cX7_billionths 47 = .ok (.bipush 10, 2) := by decide +kernel
theorem dX7_billionths_49 : decode cX7_billionths 49 = .ok (.imul, 1) := by decide +kernel
theorem dX7_billionths_50 : decode cX7_billionths 50 = .ok (.istore_n 3, 1) := by decide +kernel
theorem dX7_billionths_51 : decode cX7_billionths 51 = .ok (.iconst 0, 1) := by decide +kernel
theorem dX7_billionths_52 : decode cX7_billionths 52 = .ok (.istore 5, 2) := by decide +kernel
theorem dX7_billionths_54 : decode cX7_billionths 54 = .ok (.iload 5, 2) := by decide +kernel
theorem dX7_billionths_56 : decode cX7_billionths 56 = .ok (.bipush 9, 2) := by decide +kernel
theorem dX7_billionths_58 : decode cX7_billionths 58 = .ok (.if_icmp .ge 31, 3) := by decide +kernel
theorem dX7_billionths_61 : decode cX7_billionths 61 = .ok (.aload_n 0, 1) := by decide +kernel
theorem dX7_billionths_62 : decode cX7_billionths 62 = .ok (.getfield 40, 3) := by decide +kernel
theorem dX7_billionths_65 : decode cX7_billionths 65 = .ok (.aload_n 2, 1) := by decide +kernel
theorem dX7_billionths_66 : decode cX7_billionths 66 = .ok (.invokevirtual 148, 3) := by decide +kernel
theorem dX7_billionths_69 : decode cX7_billionths 69 = .ok (.ifCond .lt 20, 3) := by decide +kernel
theorem dX7_billionths_72 : decode cX7_billionths 72 = .ok (.aload_n 0, 1) := by decide +kernel
theorem dX7_billionths_73 : decode cX7_billionths 73 = .ok (.getfield 40, 3) := by decide +kernel
theorem dX7_billionths_76 : decode cX7_billionths 76 = .ok (.aload_n 2, 1) := by decide +kernel
theorem dX7_billionths_77 : decode cX7_billionths 77 = .ok (.invokevirtual 153, 3) := by decide +kernel
theorem dX7_billionths_80 : decode cX7_billionths 80 = .ok (.iinc 3 1, 3) := by decide +kernel
theorem dX7_billionths_83 : decode cX7_billionths 83 = .ok (.iinc 5 1, 3) := by decide +kernel
theorem dX7_billionths_86 : decode cX7_billionths 86 = .ok (.goto (-32), 3) := by decide +kernel
theorem dX7_billionths_89 : decode cX7_billionths 89 = .ok (.aload_n 0, 1) := by decide +kernel
theorem dX7_billionths_90 : decode cX7_billionths 90 = .ok (.getfield 40, 3) := by decide +kernel
theorem dX7_billionths_93 : decode cX7_billionths 93 = .ok (.ldc2_w 156, 3) := by decide +kernel
theorem dX7_billionths_96 : decode cX7_billionths 96 = .ok (.invokevirtual 158, 3) := by decide +kernel
theorem dX7_billionths_99 : decode cX7_billionths 99 = .ok (.iinc 4 1, 3) := by decide +kernel
theorem dX7_billionths_102 : decode cX7_billionths 102 = .ok (.goto (-63), 3) := by decide +kernel
theorem dX7_billionths_105 : decode cX7_billionths 105 = .ok (.iload_n 3, 1) := by decide +kernel
theorem dX7_billionths_106 : decode cX7_billionths 106 = .ok (.ireturn, 1) := by decide +kernel
abbrev cX7_places : ByteArray := prog_1_method_10_code
def yX7_places : MethodName := ⟨"ChainDesk", "places", "(II)I"⟩
def wX7_places : List Cond := .code yX7_places cX7_places 3 (Option.some Jvm.ClassFile.FieldType.int) :: WG
theorem dX7_places_0 : decode cX7_places 0 = .ok (.aload_n 0, 1) := by decide +kernel
theorem dX7_places_1 : decode cX7_places 1 = .ok (.iload_n 1, 1) := by decide +kernel
theorem dX7_places_2 : decode cX7_places 2 = .ok (.invokevirtual 108, 3) := by decide +kernel
theorem dX7_places_5 : decode cX7_places 5 = .ok (.ifCond .eq 12, 3) := by decide +kernel
theorem dX7_places_8 : decode cX7_places 8 = .ok (.iload_n 2, 1) := by decide +kernel
theorem dX7_places_9 : decode cX7_places 9 = .ok (.ifCond .lt 8, 3) := by decide +kernel
theorem dX7_places_12 : decode cX7_places 12 = .ok (.iload_n 2, 1) := by decide +kernel
theorem dX7_places_13 : decode cX7_places 13 = .ok (.iconst 1, 1) := by decide +kernel
theorem dX7_places_14 : decode cX7_places 14 = .ok (.if_icmp .le 5, 3) := by decide +kernel
theorem dX7_places_17 : decode cX7_places 17 = .ok (.iconst (-1), 1) := by decide +kernel
theorem dX7_places_18 : decode cX7_places 18 = .ok (.ireturn, 1) := by decide +kernel
theorem dX7_places_19 : decode cX7_places 19 = .ok (.aload_n 0, 1) := by decide +kernel
theorem dX7_places_20 : decode cX7_places 20 = .ok (.iload_n 1, 1) := by decide +kernel
theorem dX7_places_21 : decode cX7_places 21 = .ok (.invokevirtual 111, 3) := by decide +kernel
theorem dX7_places_24 : decode cX7_places 24 = .ok (.iload_n 2, 1) := by decide +kernel
theorem dX7_places_25 : decode cX7_places 25 = .ok (.ifCond .ne 16, 3) := by decide +kernel
theorem dX7_places_28 : decode cX7_places 28 = .ok (.aload_n 0, 1) := by decide +kernel
theorem dX7_places_29 : decode cX7_places 29 = .ok (.getfield 26, 3) := by decide +kernel
theorem dX7_places_32 : decode cX7_places 32 = .ok (.getfield 117, 3) := by decide +kernel
theorem dX7_places_35 : decode cX7_places 35 = .ok (.invokevirtual 162, 3) := by decide +kernel
theorem dX7_places_38 : decode cX7_places 38 = .ok (.goto 13, 3) := by decide +kernel
theorem dX7_places_41 : decode cX7_places 41 = .ok (.aload_n 0, 1) := by decide +kernel
theorem dX7_places_42 : decode cX7_places 42 = .ok (.getfield 26, 3) := by decide +kernel
theorem dX7_places_45 : decode cX7_places 45 = .ok (.getfield 127, 3) := by decide +kernel
theorem dX7_places_48 : decode cX7_places 48 = .ok (.invokevirtual 162, 3) := by decide +kernel
theorem dX7_places_51 : decode cX7_places 51 = .ok (.ireturn, 1) := by decide +kernel
abbrev cX7_begin : ByteArray := prog_1_method_2_code
def yX7_begin : MethodName := ⟨"ChainDesk", "begin", "(I)V"⟩
def wX7_begin : List Cond := .code yX7_begin cX7_begin 2 (Option.none : Option Jvm.ClassFile.FieldType) :: WG
theorem dX7_begin_0 : decode cX7_begin 0 = .ok (.iload_n 1, 1) := by decide +kernel
theorem dX7_begin_1 : decode cX7_begin 1 = .ok (.iconst 1, 1) := by decide +kernel
theorem dX7_begin_2 : decode cX7_begin 2 = .ok (.if_icmp .lt 9, 3) := by decide +kernel
theorem dX7_begin_5 : decode cX7_begin 5 = .ok (.iload_n 1, 1) := by decide +kernel
theorem dX7_begin_6 : decode cX7_begin 6 = .ok (.bipush 40, 2) := by decide +kernel
theorem dX7_begin_8 : decode cX7_begin 8 = .ok (.if_icmp .le 13, 3) := by decide +kernel
theorem dX7_begin_11 : decode cX7_begin 11 = .ok (.new 52, 3) := by decide +kernel
theorem dX7_begin_14 : decode cX7_begin 14 = .ok (.dup, 1) := by decide +kernel
theorem dX7_begin_15 : decode cX7_begin 15 = .ok (.ldc 54, 2) := by decide +kernel
theorem dX7_begin_17 : decode cX7_begin 17 = .ok (.invokespecial 56, 3) := by decide +kernel
theorem dX7_begin_20 : decode cX7_begin 20 = .ok (.athrow, 1) := by decide +kernel
theorem dX7_begin_21 : decode cX7_begin 21 = .ok (.aload_n 0, 1) := by decide +kernel
theorem dX7_begin_22 : decode cX7_begin 22 = .ok (.getfield 12, 3) := by decide +kernel
theorem dX7_begin_25 : decode cX7_begin 25 = .ok (.iload_n 1, 1) := by decide +kernel
theorem dX7_begin_26 : decode cX7_begin 26 = .ok (.invokevirtual 59, 3) := by decide +kernel
theorem dX7_begin_29 : decode cX7_begin 29 = .ok (.aload_n 0, 1) := by decide +kernel
theorem dX7_begin_30 : decode cX7_begin 30 = .ok (.iconst 0, 1) := by decide +kernel
theorem dX7_begin_31 : decode cX7_begin 31 = .ok (.putfield 44, 3) := by decide +kernel
theorem dX7_begin_34 : decode cX7_begin 34 = .ok (.return_, 1) := by decide +kernel
abbrev cX7_whole : ByteArray := prog_1_method_3_code
def yX7_whole : MethodName := ⟨"ChainDesk", "whole", "(II)V"⟩
def wX7_whole : List Cond := .code yX7_whole cX7_whole 3 (Option.none : Option Jvm.ClassFile.FieldType) :: WG
theorem dX7_whole_0 : decode cX7_whole 0 = .ok (.aload_n 0, 1) := by decide +kernel
theorem dX7_whole_1 : decode cX7_whole 1 = .ok (.getfield 12, 3) := by decide +kernel
theorem dX7_whole_4 : decode cX7_whole 4 = .ok (.iload_n 1, 1) := by decide +kernel
theorem dX7_whole_5 : decode cX7_whole 5 = .ok (.invokevirtual 63, 3) := by decide +kernel
theorem dX7_whole_8 : decode cX7_whole 8 = .ok (.ifCond .ne 13, 3) := by decide +kernel
theorem dX7_whole_11 : decode cX7_whole 11 = .ok (.new 52, 3) := by decide +kernel
theorem dX7_whole_14 : decode cX7_whole 14 = .ok (.dup, 1) := by decide +kernel
theorem dX7_whole_15 : decode cX7_whole 15 = .ok (.ldc 67, 2) := by decide +kernel
theorem dX7_whole_17 : decode cX7_whole 17 = .ok (.invokespecial 56, 3) := by decide +kernel
theorem dX7_whole_20 : decode cX7_whole 20 = .ok (.athrow, 1) := by decide +kernel
theorem dX7_whole_21 : decode cX7_whole 21 = .ok (.iload_n 2, 1) := by decide +kernel
theorem dX7_whole_22 : decode cX7_whole 22 = .ok (.iconst 1, 1) := by decide +kernel
theorem dX7_whole_23 : decode cX7_whole 23 = .ok (.if_icmp .lt 9, 3) := by decide +kernel
theorem dX7_whole_26 : decode cX7_whole 26 = .ok (.iload_n 2, 1) := by decide +kernel
theorem dX7_whole_27 : decode cX7_whole 27 = .ok (.ldc 69, 2) := by decide +kernel
theorem dX7_whole_29 : decode cX7_whole 29 = .ok (.if_icmp .le 13, 3) := by decide +kernel
theorem dX7_whole_32 : decode cX7_whole 32 = .ok (.new 52, 3) := by decide +kernel
theorem dX7_whole_35 : decode cX7_whole 35 = .ok (.dup, 1) := by decide +kernel
theorem dX7_whole_36 : decode cX7_whole 36 = .ok (.ldc 70, 2) := by decide +kernel
theorem dX7_whole_38 : decode cX7_whole 38 = .ok (.invokespecial 56, 3) := by decide +kernel
theorem dX7_whole_41 : decode cX7_whole 41 = .ok (.athrow, 1) := by decide +kernel
theorem dX7_whole_42 : decode cX7_whole 42 = .ok (.aload_n 0, 1) := by decide +kernel
theorem dX7_whole_43 : decode cX7_whole 43 = .ok (.getfield 12, 3) := by decide +kernel
theorem dX7_whole_46 : decode cX7_whole 46 = .ok (.iload_n 1, 1) := by decide +kernel
theorem dX7_whole_47 : decode cX7_whole 47 = .ok (.iload_n 2, 1) := by decide +kernel
theorem dX7_whole_48 : decode cX7_whole 48 = .ok (.invokevirtual 72, 3) := by decide +kernel
theorem dX7_whole_51 : decode cX7_whole 51 = .ok (.aload_n 0, 1) := by decide +kernel
theorem dX7_whole_52 : decode cX7_whole 52 = .ok (.iconst 0, 1) := by decide +kernel
theorem dX7_whole_53 : decode cX7_whole 53 = .ok (.putfield 44, 3) := by decide +kernel
theorem dX7_whole_56 : decode cX7_whole 56 = .ok (.return_, 1) := by decide +kernel
abbrev cX7_part : ByteArray := prog_1_method_4_code
def yX7_part : MethodName := ⟨"ChainDesk", "part", "(III)I"⟩
def wX7_part : List Cond := .code yX7_part cX7_part 5 (Option.some Jvm.ClassFile.FieldType.int) :: WG
theorem dX7_part_0 : decode cX7_part 0 = .ok (.aload_n 0, 1) := by decide +kernel
theorem dX7_part_1 : decode cX7_part 1 = .ok (.getfield 12, 3) := by decide +kernel
theorem dX7_part_4 : decode cX7_part 4 = .ok (.iload_n 1, 1) := by decide +kernel
theorem dX7_part_5 : decode cX7_part 5 = .ok (.invokevirtual 63, 3) := by decide +kernel
theorem dX7_part_8 : decode cX7_part 8 = .ok (.ifCond .eq 14, 3) := by decide +kernel
theorem dX7_part_11 : decode cX7_part 11 = .ok (.aload_n 0, 1) := by decide +kernel
theorem dX7_part_12 : decode cX7_part 12 = .ok (.getfield 12, 3) := by decide +kernel
theorem dX7_part_15 : decode cX7_part 15 = .ok (.iload_n 2, 1) := by decide +kernel
theorem dX7_part_16 : decode cX7_part 16 = .ok (.invokevirtual 76, 3) := by decide +kernel
theorem dX7_part_19 : decode cX7_part 19 = .ok (.ifCond .ne 13, 3) := by decide +kernel
theorem dX7_part_22 : decode cX7_part 22 = .ok (.new 52, 3) := by decide +kernel
theorem dX7_part_25 : decode cX7_part 25 = .ok (.dup, 1) := by decide +kernel
theorem dX7_part_26 : decode cX7_part 26 = .ok (.ldc 79, 2) := by decide +kernel
theorem dX7_part_28 : decode cX7_part 28 = .ok (.invokespecial 56, 3) := by decide +kernel
theorem dX7_part_31 : decode cX7_part 31 = .ok (.athrow, 1) := by decide +kernel
theorem dX7_part_32 : decode cX7_part 32 = .ok (.iload_n 3, 1) := by decide +kernel
theorem dX7_part_33 : decode cX7_part 33 = .ok (.ifCond .lt 9, 3) := by decide +kernel
theorem dX7_part_36 : decode cX7_part 36 = .ok (.iload_n 3, 1) := by decide +kernel
theorem dX7_part_37 : decode cX7_part 37 = .ok (.ldc 69, 2) := by decide +kernel
theorem dX7_part_39 : decode cX7_part 39 = .ok (.if_icmp .le 13, 3) := by decide +kernel
theorem dX7_part_42 : decode cX7_part 42 = .ok (.new 52, 3) := by decide +kernel
theorem dX7_part_45 : decode cX7_part 45 = .ok (.dup, 1) := by decide +kernel
theorem dX7_part_46 : decode cX7_part 46 = .ok (.ldc 81, 2) := by decide +kernel
theorem dX7_part_48 : decode cX7_part 48 = .ok (.invokespecial 56, 3) := by decide +kernel
theorem dX7_part_51 : decode cX7_part 51 = .ok (.athrow, 1) := by decide +kernel
theorem dX7_part_52 : decode cX7_part 52 = .ok (.aload_n 0, 1) := by decide +kernel
theorem dX7_part_53 : decode cX7_part 53 = .ok (.getfield 12, 3) := by decide +kernel
theorem dX7_part_56 : decode cX7_part 56 = .ok (.iload_n 1, 1) := by decide +kernel
theorem dX7_part_57 : decode cX7_part 57 = .ok (.iload_n 2, 1) := by decide +kernel
theorem dX7_part_58 : decode cX7_part 58 = .ok (.iload_n 3, 1) := by decide +kernel
theorem dX7_part_59 : decode cX7_part 59 = .ok (.invokevirtual 83, 3) := by decide +kernel
theorem dX7_part_62 : decode cX7_part 62 = .ok (.istore 4, 2) := by decide +kernel
theorem dX7_part_64 : decode cX7_part 64 = .ok (.iload 4, 2) := by decide +kernel
theorem dX7_part_66 : decode cX7_part 66 = .ok (.ifCond .ge 13, 3) := by decide +kernel
theorem dX7_part_69 : decode cX7_part 69 = .ok (.new 87, 3) := by decide +kernel
theorem dX7_part_72 : decode cX7_part 72 = .ok (.dup, 1) := by decide +kernel
theorem dX7_part_73 : decode cX7_part 73 = .ok (.ldc 89, 2) := by decide +kernel
theorem dX7_part_75 : decode cX7_part 75 = .ok (.invokespecial 91, 3) := by decide +kernel
theorem dX7_part_78 : decode cX7_part 78 = .ok (.athrow, 1) := by decide +kernel
theorem dX7_part_79 : decode cX7_part 79 = .ok (.aload_n 0, 1) := by decide +kernel
theorem dX7_part_80 : decode cX7_part 80 = .ok (.getfield 12, 3) := by decide +kernel
theorem dX7_part_83 : decode cX7_part 83 = .ok (.iload_n 1, 1) := by decide +kernel
theorem dX7_part_84 : decode cX7_part 84 = .ok (.iload_n 2, 1) := by decide +kernel
theorem dX7_part_85 : decode cX7_part 85 = .ok (.iload_n 3, 1) := by decide +kernel
theorem dX7_part_86 : decode cX7_part 86 = .ok (.invokevirtual 92, 3) := by decide +kernel
theorem dX7_part_89 : decode cX7_part 89 = .ok (.aload_n 0, 1) := by decide +kernel
theorem dX7_part_90 : decode cX7_part 90 = .ok (.iconst 0, 1) := by decide +kernel
theorem dX7_part_91 : decode cX7_part 91 = .ok (.putfield 44, 3) := by decide +kernel
theorem dX7_part_94 : decode cX7_part 94 = .ok (.iload 4, 2) := by decide +kernel
theorem dX7_part_96 : decode cX7_part 96 = .ok (.ireturn, 1) := by decide +kernel
