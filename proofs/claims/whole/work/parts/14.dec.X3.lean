abbrev cX3_init : ByteArray := prog_5_method_1_code
def yX3_init : MethodName := ⟨"ChainDesk$Likelihoods", "<init>", "()V"⟩
def wX3_init : List Cond := .code yX3_init cX3_init 2 (Option.none : Option Jvm.ClassFile.FieldType) :: WG
theorem dX3_init_0 : decode cX3_init 0 = .ok (.aload_n 0, 1) := by decide +kernel
theorem dX3_init_1 : decode cX3_init 1 = .ok (.invokespecial 3, 3) := by decide +kernel
theorem dX3_init_4 : decode cX3_init 4 = .ok (.aload_n 0, 1) := by decide +kernel
theorem dX3_init_5 : decode cX3_init 5 = .ok (.new 9, 3) := by decide +kernel
theorem dX3_init_8 : decode cX3_init 8 = .ok (.dup, 1) := by decide +kernel
theorem dX3_init_9 : decode cX3_init 9 = .ok (.invokespecial 11, 3) := by decide +kernel
theorem dX3_init_12 : decode cX3_init 12 = .ok (.putfield 12, 3) := by decide +kernel
theorem dX3_init_15 : decode cX3_init 15 = .ok (.aload_n 0, 1) := by decide +kernel
theorem dX3_init_16 : decode cX3_init 16 = .ok (.bipush 40, 2) := by decide +kernel
theorem dX3_init_18 : decode cX3_init 18 = .ok (.anewarray 18, 3) := by decide +kernel
theorem dX3_init_21 : decode cX3_init 21 = .ok (.putfield 20, 3) := by decide +kernel
theorem dX3_init_24 : decode cX3_init 24 = .ok (.aload_n 0, 1) := by decide +kernel
theorem dX3_init_25 : decode cX3_init 25 = .ok (.new 18, 3) := by decide +kernel
theorem dX3_init_28 : decode cX3_init 28 = .ok (.dup, 1) := by decide +kernel
theorem dX3_init_29 : decode cX3_init 29 = .ok (.invokespecial 24, 3) := by decide +kernel
theorem dX3_init_32 : decode cX3_init 32 = .ok (.putfield 25, 3) := by decide +kernel
theorem dX3_init_35 : decode cX3_init 35 = .ok (.aload_n 0, 1) := by decide +kernel
theorem dX3_init_36 : decode cX3_init 36 = .ok (.new 18, 3) := by decide +kernel
theorem dX3_init_39 : decode cX3_init 39 = .ok (.dup, 1) := by decide +kernel
theorem dX3_init_40 : decode cX3_init 40 = .ok (.invokespecial 24, 3) := by decide +kernel
theorem dX3_init_43 : decode cX3_init 43 = .ok (.putfield 29, 3) := by decide +kernel
theorem dX3_init_46 : decode cX3_init 46 = .ok (.iconst 0, 1) := by decide +kernel
theorem dX3_init_47 : decode cX3_init 47 = .ok (.istore_n 1, 1) := by decide +kernel
theorem dX3_init_48 : decode cX3_init 48 = .ok (.iload_n 1, 1) := by decide +kernel
theorem dX3_init_49 : decode cX3_init 49 = .ok (.bipush 40, 2) := by decide +kernel
theorem dX3_init_51 : decode cX3_init 51 = .ok (.if_icmp .ge 22, 3) := by decide +kernel
theorem dX3_init_54 : decode cX3_init 54 = .ok (.aload_n 0, 1) := by decide +kernel
theorem dX3_init_55 : decode cX3_init 55 = .ok (.getfield 20, 3) := by decide +kernel
theorem dX3_init_58 : decode cX3_init 58 = .ok (.iload_n 1, 1) := by decide +kernel
theorem dX3_init_59 : decode cX3_init 59 = .ok (.new 18, 3) := by decide +kernel
theorem dX3_init_62 : decode cX3_init 62 = .ok (.dup, 1) := by decide +kernel
theorem dX3_init_63 : decode cX3_init 63 = .ok (.invokespecial 24, 3) := by decide +kernel
theorem dX3_init_66 : decode cX3_init 66 = .ok (.aastore, 1) := by decide +kernel
theorem dX3_init_67 : decode cX3_init 67 = .ok (.iinc 1 1, 3) := by decide +kernel
theorem dX3_init_70 : decode cX3_init 70 = .ok (.goto (-22), 3) := by decide +kernel
theorem dX3_init_73 : decode cX3_init 73 = .ok (.return_, 1) := by decide +kernel
abbrev cX3_workOut : ByteArray := prog_5_method_2_code
def yX3_workOut : MethodName := ⟨"ChainDesk$Likelihoods", "workOut", "(LChainDesk$Chain;)V"⟩
def wX3_workOut : List Cond := .code yX3_workOut cX3_workOut 5 (Option.none : Option Jvm.ClassFile.FieldType) :: WG
theorem dX3_workOut_0 : decode cX3_workOut 0 = .ok (.aload_n 0, 1) := by decide +kernel
theorem dX3_workOut_1 : decode cX3_workOut 1 = .ok (.aload_n 1, 1) := by decide +kernel
theorem dX3_workOut_2 : decode cX3_workOut 2 = .ok (.getfield 32, 3) := by decide +kernel
theorem dX3_workOut_5 : decode cX3_workOut 5 = .ok (.invokevirtual 38, 3) := by decide +kernel
theorem dX3_workOut_8 : decode cX3_workOut 8 = .ok (.aload_n 1, 1) := by decide +kernel
theorem dX3_workOut_9 : decode cX3_workOut 9 = .ok (.invokevirtual 42, 3) := by decide +kernel
theorem dX3_workOut_12 : decode cX3_workOut 12 = .ok (.istore_n 2, 1) := by decide +kernel
theorem dX3_workOut_13 : decode cX3_workOut 13 = .ok (.iconst 0, 1) := by decide +kernel
theorem dX3_workOut_14 : decode cX3_workOut 14 = .ok (.istore_n 3, 1) := by decide +kernel
theorem dX3_workOut_15 : decode cX3_workOut 15 = .ok (.iconst 0, 1) := by decide +kernel
theorem dX3_workOut_16 : decode cX3_workOut 16 = .ok (.istore 4, 2) := by decide +kernel
theorem dX3_workOut_18 : decode cX3_workOut 18 = .ok (.iload 4, 2) := by decide +kernel
theorem dX3_workOut_20 : decode cX3_workOut 20 = .ok (.getstatic 46, 3) := by decide +kernel
theorem dX3_workOut_23 : decode cX3_workOut 23 = .ok (.arraylength, 1) := by decide +kernel
theorem dX3_workOut_24 : decode cX3_workOut 24 = .ok (.if_icmp .ge 56, 3) := by decide +kernel
theorem dX3_workOut_27 : decode cX3_workOut 27 = .ok (.iload_n 3, 1) := by decide +kernel
theorem dX3_workOut_28 : decode cX3_workOut 28 = .ok (.iload_n 2, 1) := by decide +kernel
theorem dX3_workOut_29 : decode cX3_workOut 29 = .ok (.if_icmp .ge 51, 3) := by decide +kernel
theorem dX3_workOut_32 : decode cX3_workOut 32 = .ok (.aload_n 0, 1) := by decide +kernel
theorem dX3_workOut_33 : decode cX3_workOut 33 = .ok (.getfield 12, 3) := by decide +kernel
theorem dX3_workOut_36 : decode cX3_workOut 36 = .ok (.getstatic 46, 3) := by decide +kernel
theorem dX3_workOut_39 : decode cX3_workOut 39 = .ok (.iload 4, 2) := by decide +kernel
theorem dX3_workOut_41 : decode cX3_workOut 41 = .ok (.iaload, 1) := by decide +kernel
theorem dX3_workOut_42 : decode cX3_workOut 42 = .ok (.aload_n 1, 1) := by decide +kernel
theorem dX3_workOut_43 : decode cX3_workOut 43 = .ok (.invokevirtual 50, 3) := by decide +kernel
theorem dX3_workOut_46 : decode cX3_workOut 46 = .ok (.ifCond .eq 28, 3) := by decide +kernel
theorem dX3_workOut_49 : decode cX3_workOut 49 = .ok (.aload_n 0, 1) := by decide +kernel
theorem dX3_workOut_50 : decode cX3_workOut 50 = .ok (.aload_n 1, 1) := by decide +kernel
theorem dX3_workOut_51 : decode cX3_workOut 51 = .ok (.getfield 32, 3) := by decide +kernel
theorem dX3_workOut_54 : decode cX3_workOut 54 = .ok (.invokevirtual 54, 3) := by decide +kernel
theorem dX3_workOut_57 : decode cX3_workOut 57 = .ok (.aload_n 0, 1) := by decide +kernel
theorem dX3_workOut_58 : decode cX3_workOut 58 = .ok (.getfield 29, 3) := by decide +kernel
theorem dX3_workOut_61 : decode cX3_workOut 61 = .ok (.getstatic 46, 3) := by decide +kernel
theorem dX3_workOut_64 : decode cX3_workOut 64 = .ok (.iload 4, 2) := by decide +kernel
theorem dX3_workOut_66 : decode cX3_workOut 66 = .ok (.iaload, 1) := by decide +kernel
theorem dX3_workOut_67 : decode cX3_workOut 67 = .ok (.i2l, 1) := by decide +kernel
theorem dX3_workOut_68 : decode cX3_workOut 68 = .ok (.invokevirtual 57, 3) := by decide +kernel
theorem dX3_workOut_71 : decode cX3_workOut 71 = .ok (.iinc 3 30, 3) := by decide +kernel
theorem dX3_workOut_74 : decode cX3_workOut 74 = .ok (.iinc 4 1, 3) := by decide +kernel
theorem dX3_workOut_77 : decode cX3_workOut 77 = .ok (.goto (-59), 3) := by decide +kernel
theorem dX3_workOut_80 : decode cX3_workOut 80 = .ok (.return_, 1) := by decide +kernel
abbrev cX3_clear : ByteArray := prog_5_method_3_code
def yX3_clear : MethodName := ⟨"ChainDesk$Likelihoods", "clear", "(I)V"⟩
def wX3_clear : List Cond := .code yX3_clear cX3_clear 3 (Option.none : Option Jvm.ClassFile.FieldType) :: WG
theorem dX3_clear_0 : decode cX3_clear 0 = .ok (.iconst 0, 1) := by decide +kernel
theorem dX3_clear_1 : decode cX3_clear 1 = .ok (.istore_n 2, 1) := by decide +kernel
theorem dX3_clear_2 : decode cX3_clear 2 = .ok (.iload_n 2, 1) := by decide +kernel
theorem dX3_clear_3 : decode cX3_clear 3 = .ok (.iload_n 1, 1) := by decide +kernel
theorem dX3_clear_4 : decode cX3_clear 4 = .ok (.if_icmp .ge 19, 3) := by decide +kernel
theorem dX3_clear_7 : decode cX3_clear 7 = .ok (.aload_n 0, 1) := by decide +kernel
theorem dX3_clear_8 : decode cX3_clear 8 = .ok (.getfield 20, 3) := by decide +kernel
theorem dX3_clear_11 : decode cX3_clear 11 = .ok (.iload_n 2, 1) := by decide +kernel
theorem dX3_clear_12 : decode cX3_clear 12 = .ok (.aaload, 1) := by decide +kernel
theorem dX3_clear_13 : decode cX3_clear 13 = .ok (.iconst 0, 1) := by decide +kernel
theorem dX3_clear_14 : decode cX3_clear 14 = .ok (.invokevirtual 61, 3) := by decide +kernel
theorem dX3_clear_17 : decode cX3_clear 17 = .ok (.iinc 2 1, 3) := by decide +kernel
theorem dX3_clear_20 : decode cX3_clear 20 = .ok (.goto (-18), 3) := by decide +kernel
theorem dX3_clear_23 : decode cX3_clear 23 = .ok (.aload_n 0, 1) := by decide +kernel
theorem dX3_clear_24 : decode cX3_clear 24 = .ok (.getfield 25, 3) := by decide +kernel
theorem dX3_clear_27 : decode cX3_clear 27 = .ok (.iconst 0, 1) := by decide +kernel
theorem dX3_clear_28 : decode cX3_clear 28 = .ok (.invokevirtual 61, 3) := by decide +kernel
theorem dX3_clear_31 : decode cX3_clear 31 = .ok (.aload_n 0, 1) := by decide +kernel
theorem dX3_clear_32 : decode cX3_clear 32 = .ok (.getfield 29, 3) := by decide +kernel
theorem dX3_clear_35 : decode cX3_clear 35 = .ok (.iconst 1, 1) := by decide +kernel
theorem dX3_clear_36 : decode cX3_clear 36 = .ok (.invokevirtual 61, 3) := by decide +kernel
theorem dX3_clear_39 : decode cX3_clear 39 = .ok (.return_, 1) := by decide +kernel
abbrev cX3_join : ByteArray := prog_5_method_4_code
def yX3_join : MethodName := ⟨"ChainDesk$Likelihoods", "join", "(I)V"⟩
def wX3_join : List Cond := .code yX3_join cX3_join 8 (Option.none : Option Jvm.ClassFile.FieldType) :: WG
theorem dX3_join_0 : decode cX3_join 0 = .ok (.aload_n 0, 1) := by decide +kernel
theorem dX3_join_1 : decode cX3_join 1 = .ok (.getfield 12, 3) := by decide +kernel
theorem dX3_join_4 : decode cX3_join 4 = .ok (.getfield 64, 3) := by decide +kernel
theorem dX3_join_7 : decode cX3_join 7 = .ok (.astore_n 2, 1) := by decide +kernel
theorem dX3_join_8 : decode cX3_join 8 = .ok (.aload_n 2, 1) := by decide +kernel
theorem dX3_join_9 : decode cX3_join 9 = .ok (.aload_n 0, 1) := by decide +kernel
theorem dX3_join_10 : decode cX3_join 10 = .ok (.getfield 29, 3) := by decide +kernel
theorem dX3_join_13 : decode cX3_join 13 = .ok (.aload_n 2, 1) := by decide +kernel
theorem dX3_join_14 : decode cX3_join 14 = .ok (.getfield 68, 3) := by decide +kernel
theorem dX3_join_17 : decode cX3_join 17 = .ok (.invokevirtual 74, 3) := by decide +kernel
theorem dX3_join_20 : decode cX3_join 20 = .ok (.invokevirtual 78, 3) := by decide +kernel
theorem dX3_join_23 : decode cX3_join 23 = .ok (.lstore_n 3, 1) := by decide +kernel
theorem dX3_join_24 : decode cX3_join 24 = .ok (.aload_n 0, 1) := by decide +kernel
theorem dX3_join_25 : decode cX3_join 25 = .ok (.aload_n 0, 1) := by decide +kernel
theorem dX3_join_26 : decode cX3_join 26 = .ok (.getfield 25, 3) := by decide +kernel
theorem dX3_join_29 : decode cX3_join 29 = .ok (.aload_n 0, 1) := by decide +kernel
theorem dX3_join_30 : decode cX3_join 30 = .ok (.getfield 12, 3) := by decide +kernel
theorem dX3_join_33 : decode cX3_join 33 = .ok (.getfield 81, 3) := by decide +kernel
theorem dX3_join_36 : decode cX3_join 36 = .ok (.lload_n 3, 1) := by decide +kernel
theorem dX3_join_37 : decode cX3_join 37 = .ok (.invokevirtual 84, 3) := by decide +kernel
theorem dX3_join_40 : decode cX3_join 40 = .ok (.iconst 0, 1) := by decide +kernel
theorem dX3_join_41 : decode cX3_join 41 = .ok (.istore 5, 2) := by decide +kernel
theorem dX3_join_43 : decode cX3_join 43 = .ok (.iload 5, 2) := by decide +kernel
theorem dX3_join_45 : decode cX3_join 45 = .ok (.iload_n 1, 1) := by decide +kernel
theorem dX3_join_46 : decode cX3_join 46 = .ok (.if_icmp .ge 46, 3) := by decide +kernel
theorem dX3_join_49 : decode cX3_join 49 = .ok (.aload_n 2, 1) := by decide +kernel
theorem dX3_join_50 : decode cX3_join 50 = .ok (.aload_n 0, 1) := by decide +kernel
theorem dX3_join_51 : decode cX3_join 51 = .ok (.getfield 12, 3) := by decide +kernel
theorem dX3_join_54 : decode cX3_join 54 = .ok (.getfield 81, 3) := by decide +kernel
theorem dX3_join_57 : decode cX3_join 57 = .ok (.aload_n 0, 1) := by decide +kernel
theorem dX3_join_58 : decode cX3_join 58 = .ok (.getfield 12, 3) := by decide +kernel
theorem dX3_join_61 : decode cX3_join 61 = .ok (.getfield 88, 3) := by decide +kernel
theorem dX3_join_64 : decode cX3_join 64 = .ok (.iload 5, 2) := by decide +kernel
theorem dX3_join_66 : decode cX3_join 66 = .ok (.laload, 1) := by decide +kernel
theorem dX3_join_67 : decode cX3_join 67 = .ok (.invokevirtual 92, 3) := by decide +kernel
theorem dX3_join_70 : decode cX3_join 70 = .ok (.lstore 6, 2) := by decide +kernel
theorem dX3_join_72 : decode cX3_join 72 = .ok (.aload_n 0, 1) := by decide +kernel
theorem dX3_join_73 : decode cX3_join 73 = .ok (.aload_n 0, 1) := by decide +kernel
theorem dX3_join_74 : decode cX3_join 74 = .ok (.getfield 20, 3) := by decide +kernel
theorem dX3_join_77 : decode cX3_join 77 = .ok (.iload 5, 2) := by decide +kernel
theorem dX3_join_79 : decode cX3_join 79 = .ok (.aaload, 1) := by decide +kernel
theorem dX3_join_80 : decode cX3_join 80 = .ok (.lload 6, 2) := by decide +kernel
theorem dX3_join_82 : decode cX3_join 82 = .ok (.lload_n 3, 1) := by decide +kernel
theorem dX3_join_83 : decode cX3_join 83 = .ok (.invokevirtual 84, 3) := by decide +kernel
theorem dX3_join_86 : decode cX3_join 86 = .ok (.iinc 5 1, 3) := by decide +kernel
theorem dX3_join_89 : decode cX3_join 89 = .ok (.goto (-46), 3) := by decide +kernel
theorem dX3_join_92 : decode cX3_join 92 = .ok (.return_, 1) := by decide +kernel
abbrev cX3_joinOne : ByteArray := prog_5_method_5_code
def yX3_joinOne : MethodName := ⟨"ChainDesk$Likelihoods", "joinOne", "(LChainDesk$Natural;JJ)V"⟩
def wX3_joinOne : List Cond := .code yX3_joinOne cX3_joinOne 9 (Option.none : Option Jvm.ClassFile.FieldType) :: WG
theorem dX3_joinOne_0 : decode cX3_joinOne 0 = .ok (.aload_n 0, 1) := by decide +kernel
theorem dX3_joinOne_1 : decode cX3_joinOne 1 = .ok (.getfield 12, 3) := by decide +kernel
theorem dX3_joinOne_4 : decode cX3_joinOne 4 = .ok (.getfield 64, 3) := by decide +kernel
theorem dX3_joinOne_7 : decode cX3_joinOne 7 = .ok (.astore 6, 2) := by decide +kernel
theorem dX3_joinOne_9 : decode cX3_joinOne 9 = .ok (.aload 6, 2) := by decide +kernel
theorem dX3_joinOne_11 : decode cX3_joinOne 11 = .ok (.lload_n 2, 1) := by decide +kernel
theorem dX3_joinOne_12 : decode cX3_joinOne 12 = .ok (.aload_n 1, 1) := by decide +kernel
theorem dX3_joinOne_13 : decode cX3_joinOne 13 = .ok (.aload 6, 2) := by decide +kernel
theorem dX3_joinOne_15 : decode cX3_joinOne 15 = .ok (.getfield 68, 3) := by decide +kernel
theorem dX3_joinOne_18 : decode cX3_joinOne 18 = .ok (.invokevirtual 74, 3) := by decide +kernel
theorem dX3_joinOne_21 : decode cX3_joinOne 21 = .ok (.invokevirtual 96, 3) := by decide +kernel
theorem dX3_joinOne_24 : decode cX3_joinOne 24 = .ok (.lstore 7, 2) := by decide +kernel
theorem dX3_joinOne_26 : decode cX3_joinOne 26 = .ok (.aload_n 1, 1) := by decide +kernel
theorem dX3_joinOne_27 : decode cX3_joinOne 27 = .ok (.aload_n 0, 1) := by decide +kernel
theorem dX3_joinOne_28 : decode cX3_joinOne 28 = .ok (.getfield 29, 3) := by decide +kernel
theorem dX3_joinOne_31 : decode cX3_joinOne 31 = .ok (.aload 6, 2) := by decide +kernel
theorem dX3_joinOne_33 : decode cX3_joinOne 33 = .ok (.lload 7, 2) := by decide +kernel
theorem dX3_joinOne_35 : decode cX3_joinOne 35 = .ok (.lload 4, 2) := by decide +kernel
theorem dX3_joinOne_37 : decode cX3_joinOne 37 = .ok (.invokevirtual 92, 3) := by decide +kernel
theorem dX3_joinOne_40 : decode cX3_joinOne 40 = .ok (.invokevirtual 99, 3) := by decide +kernel
theorem dX3_joinOne_43 : decode cX3_joinOne 43 = .ok (.return_, 1) := by decide +kernel
