abbrev cX8_init : ByteArray := prog_10_method_1_code
def yX8_init : MethodName := ⟨"ChainDeskModel", "<init>", "()V"⟩
def wX8_init : List Cond := .code yX8_init cX8_init 1 (Option.none : Option Jvm.ClassFile.FieldType) :: WG
theorem dX8_init_0 : decode cX8_init 0 = .ok (.aload_n 0, 1) := by decide +kernel
theorem dX8_init_1 : decode cX8_init 1 = .ok (.invokespecial 1, 3) := by decide +kernel
theorem dX8_init_4 : decode cX8_init 4 = .ok (.aload_n 0, 1) := by decide +kernel
theorem dX8_init_5 : decode cX8_init 5 = .ok (.bipush 40, 2) := by decide +kernel
theorem dX8_init_7 : decode cX8_init 7 = .ok (.newarray .int, 2) := by decide +kernel
theorem dX8_init_9 : decode cX8_init 9 = .ok (.putfield 7, 3) := by decide +kernel
theorem dX8_init_12 : decode cX8_init 12 = .ok (.aload_n 0, 1) := by decide +kernel
theorem dX8_init_13 : decode cX8_init 13 = .ok (.sipush 1640, 3) := by decide +kernel
theorem dX8_init_16 : decode cX8_init 16 = .ok (.newarray .int, 2) := by decide +kernel
theorem dX8_init_18 : decode cX8_init 18 = .ok (.putfield 13, 3) := by decide +kernel
theorem dX8_init_21 : decode cX8_init 21 = .ok (.aload_n 0, 1) := by decide +kernel
theorem dX8_init_22 : decode cX8_init 22 = .ok (.bipush 64, 2) := by decide +kernel
theorem dX8_init_24 : decode cX8_init 24 = .ok (.newarray .long, 2) := by decide +kernel
theorem dX8_init_26 : decode cX8_init 26 = .ok (.putfield 16, 3) := by decide +kernel
theorem dX8_init_29 : decode cX8_init 29 = .ok (.aload_n 0, 1) := by decide +kernel
theorem dX8_init_30 : decode cX8_init 30 = .ok (.bipush 16, 2) := by decide +kernel
theorem dX8_init_32 : decode cX8_init 32 = .ok (.newarray .long, 2) := by decide +kernel
theorem dX8_init_34 : decode cX8_init 34 = .ok (.putfield 20, 3) := by decide +kernel
theorem dX8_init_37 : decode cX8_init 37 = .ok (.aload_n 0, 1) := by decide +kernel
theorem dX8_init_38 : decode cX8_init 38 = .ok (.sipush 656, 3) := by decide +kernel
theorem dX8_init_41 : decode cX8_init 41 = .ok (.newarray .long, 2) := by decide +kernel
theorem dX8_init_43 : decode cX8_init 43 = .ok (.putfield 23, 3) := by decide +kernel
theorem dX8_init_46 : decode cX8_init 46 = .ok (.aload_n 0, 1) := by decide +kernel
theorem dX8_init_47 : decode cX8_init 47 = .ok (.sipush 1640, 3) := by decide +kernel
theorem dX8_init_50 : decode cX8_init 50 = .ok (.newarray .long, 2) := by decide +kernel
theorem dX8_init_52 : decode cX8_init 52 = .ok (.putfield 26, 3) := by decide +kernel
theorem dX8_init_55 : decode cX8_init 55 = .ok (.aload_n 0, 1) := by decide +kernel
theorem dX8_init_56 : decode cX8_init 56 = .ok (.bipush 16, 2) := by decide +kernel
theorem dX8_init_58 : decode cX8_init 58 = .ok (.newarray .long, 2) := by decide +kernel
theorem dX8_init_60 : decode cX8_init 60 = .ok (.putfield 29, 3) := by decide +kernel
theorem dX8_init_63 : decode cX8_init 63 = .ok (.aload_n 0, 1) := by decide +kernel
theorem dX8_init_64 : decode cX8_init 64 = .ok (.sipush 1100, 3) := by decide +kernel
theorem dX8_init_67 : decode cX8_init 67 = .ok (.newarray .int, 2) := by decide +kernel
theorem dX8_init_69 : decode cX8_init 69 = .ok (.putfield 32, 3) := by decide +kernel
theorem dX8_init_72 : decode cX8_init 72 = .ok (.aload_n 0, 1) := by decide +kernel
theorem dX8_init_73 : decode cX8_init 73 = .ok (.sipush 320, 3) := by decide +kernel
theorem dX8_init_76 : decode cX8_init 76 = .ok (.newarray .int, 2) := by decide +kernel
theorem dX8_init_78 : decode cX8_init 78 = .ok (.putfield 35, 3) := by decide +kernel
theorem dX8_init_81 : decode cX8_init 81 = .ok (.aload_n 0, 1) := by decide +kernel
theorem dX8_init_82 : decode cX8_init 82 = .ok (.bipush 40, 2) := by decide +kernel
theorem dX8_init_84 : decode cX8_init 84 = .ok (.newarray .boolean, 2) := by decide +kernel
theorem dX8_init_86 : decode cX8_init 86 = .ok (.putfield 38, 3) := by decide +kernel
theorem dX8_init_89 : decode cX8_init 89 = .ok (.aload_n 0, 1) := by decide +kernel
theorem dX8_init_90 : decode cX8_init 90 = .ok (.iconst 1, 1) := by decide +kernel
theorem dX8_init_91 : decode cX8_init 91 = .ok (.invokevirtual 42, 3) := by decide +kernel
theorem dX8_init_94 : decode cX8_init 94 = .ok (.return_, 1) := by decide +kernel
abbrev cX8_reset : ByteArray := prog_10_method_3_code
def yX8_reset : MethodName := ⟨"ChainDeskModel", "reset", "(I)V"⟩
def wX8_reset : List Cond := .code yX8_reset cX8_reset 3 (Option.none : Option Jvm.ClassFile.FieldType) :: WG
theorem dX8_reset_0 : decode cX8_reset 0 = .ok (.aload_n 0, 1) := by decide +kernel
theorem dX8_reset_1 : decode cX8_reset 1 = .ok (.iload_n 1, 1) := by decide +kernel
theorem dX8_reset_2 : decode cX8_reset 2 = .ok (.putfield 50, 3) := by decide +kernel
theorem dX8_reset_5 : decode cX8_reset 5 = .ok (.iconst 0, 1) := by decide +kernel
theorem dX8_reset_6 : decode cX8_reset 6 = .ok (.istore_n 2, 1) := by decide +kernel
theorem dX8_reset_7 : decode cX8_reset 7 = .ok (.iload_n 2, 1) := by decide +kernel
theorem dX8_reset_8 : decode cX8_reset 8 = .ok (.bipush 40, 2) := by decide +kernel
theorem dX8_reset_10 : decode cX8_reset 10 = .ok (.if_icmp .ge 16, 3) := by decide +kernel
theorem dX8_reset_13 : decode cX8_reset 13 = .ok (.aload_n 0, 1) := by decide +kernel
theorem dX8_reset_14 : decode cX8_reset 14 = .ok (.getfield 7, 3) := by decide +kernel
theorem dX8_reset_17 : decode cX8_reset 17 = .ok (.iload_n 2, 1) := by decide +kernel
theorem dX8_reset_18 : decode cX8_reset 18 = .ok (.iconst 1, 1) := by decide +kernel
theorem dX8_reset_19 : decode cX8_reset 19 = .ok (.iastore, 1) := by decide +kernel
theorem dX8_reset_20 : decode cX8_reset 20 = .ok (.iinc 2 1, 3) := by decide +kernel
theorem dX8_reset_23 : decode cX8_reset 23 = .ok (.goto (-16), 3) := by decide +kernel
theorem dX8_reset_26 : decode cX8_reset 26 = .ok (.iconst 0, 1) := by decide +kernel
theorem dX8_reset_27 : decode cX8_reset 27 = .ok (.istore_n 2, 1) := by decide +kernel
theorem dX8_reset_28 : decode cX8_reset 28 = .ok (.iload_n 2, 1) := by decide +kernel
theorem dX8_reset_29 : decode cX8_reset 29 = .ok (.sipush 1640, 3) := by decide +kernel
theorem dX8_reset_32 : decode cX8_reset 32 = .ok (.if_icmp .ge 16, 3) := by decide +kernel
theorem dX8_reset_35 : decode cX8_reset 35 = .ok (.aload_n 0, 1) := by decide +kernel
theorem dX8_reset_36 : decode cX8_reset 36 = .ok (.getfield 13, 3) := by decide +kernel
theorem dX8_reset_39 : decode cX8_reset 39 = .ok (.iload_n 2, 1) := by decide +kernel
theorem dX8_reset_40 : decode cX8_reset 40 = .ok (.iconst 0, 1) := by decide +kernel
theorem dX8_reset_41 : decode cX8_reset 41 = .ok (.iastore, 1) := by decide +kernel
theorem dX8_reset_42 : decode cX8_reset 42 = .ok (.iinc 2 1, 3) := by decide +kernel
theorem dX8_reset_45 : decode cX8_reset 45 = .ok (.goto (-17), 3) := by decide +kernel
theorem dX8_reset_48 : decode cX8_reset 48 = .ok (.aload_n 0, 1) := by decide +kernel
theorem dX8_reset_49 : decode cX8_reset 49 = .ok (.iconst 0, 1) := by decide +kernel
theorem dX8_reset_50 : decode cX8_reset 50 = .ok (.putfield 53, 3) := by decide +kernel
theorem dX8_reset_53 : decode cX8_reset 53 = .ok (.return_, 1) := by decide +kernel
abbrev cX8_thrown : ByteArray := prog_10_method_2_code
def yX8_thrown : MethodName := ⟨"ChainDeskModel", "thrown", "()I"⟩
def wX8_thrown : List Cond := .code yX8_thrown cX8_thrown 1 (Option.some Jvm.ClassFile.FieldType.int) :: WG
theorem dX8_thrown_0 : decode cX8_thrown 0 = .ok (.aload_n 0, 1) := by decide +kernel
theorem dX8_thrown_1 : decode cX8_thrown 1 = .ok (.getfield 46, 3) := by decide +kernel
theorem dX8_thrown_4 : decode cX8_thrown 4 = .ok (.ireturn, 1) := by decide +kernel
abbrev cX8_begin : ByteArray := prog_10_method_4_code
def yX8_begin : MethodName := ⟨"ChainDeskModel", "begin", "(I)V"⟩
def wX8_begin : List Cond := .code yX8_begin cX8_begin 2 (Option.none : Option Jvm.ClassFile.FieldType) :: WG
theorem dX8_begin_0 : decode cX8_begin 0 = .ok (.aload_n 0, 1) := by decide +kernel
theorem dX8_begin_1 : decode cX8_begin 1 = .ok (.iload_n 1, 1) := by decide +kernel
theorem dX8_begin_2 : decode cX8_begin 2 = .ok (.iconst 1, 1) := by decide +kernel
theorem dX8_begin_3 : decode cX8_begin 3 = .ok (.if_icmp .lt 9, 3) := by decide +kernel
theorem dX8_begin_6 : decode cX8_begin 6 = .ok (.iload_n 1, 1) := by decide +kernel
theorem dX8_begin_7 : decode cX8_begin 7 = .ok (.bipush 40, 2) := by decide +kernel
theorem dX8_begin_9 : decode cX8_begin 9 = .ok (.if_icmp .le 7, 3) := by decide +kernel
theorem dX8_begin_12 : decode cX8_begin 12 = .ok (.iconst 1, 1) := by decide +kernel
theorem dX8_begin_13 : decode cX8_begin 13 = .ok (.goto 4, 3) := by decide +kernel
theorem dX8_begin_16 : decode cX8_begin 16 = .ok (.iconst 0, 1) := by decide +kernel
theorem dX8_begin_17 : decode cX8_begin 17 = .ok (.putfield 46, 3) := by decide +kernel
theorem dX8_begin_20 : decode cX8_begin 20 = .ok (.aload_n 0, 1) := by decide +kernel
theorem dX8_begin_21 : decode cX8_begin 21 = .ok (.getfield 46, 3) := by decide +kernel
theorem dX8_begin_24 : decode cX8_begin 24 = .ok (.ifCond .ne 8, 3) := by decide +kernel
theorem dX8_begin_27 : decode cX8_begin 27 = .ok (.aload_n 0, 1) := by decide +kernel
theorem dX8_begin_28 : decode cX8_begin 28 = .ok (.iload_n 1, 1) := by decide +kernel
theorem dX8_begin_29 : decode cX8_begin 29 = .ok (.invokevirtual 42, 3) := by decide +kernel
theorem dX8_begin_32 : decode cX8_begin 32 = .ok (.return_, 1) := by decide +kernel
abbrev cX8_whole : ByteArray := prog_10_method_6_code
def yX8_whole : MethodName := ⟨"ChainDeskModel", "whole", "(II)V"⟩
def wX8_whole : List Cond := .code yX8_whole cX8_whole 4 (Option.none : Option Jvm.ClassFile.FieldType) :: WG
theorem dX8_whole_0 : decode cX8_whole 0 = .ok (.aload_n 0, 1) := by decide +kernel
theorem dX8_whole_1 : decode cX8_whole 1 = .ok (.aload_n 0, 1) := by decide +kernel
theorem dX8_whole_2 : decode cX8_whole 2 = .ok (.iload_n 1, 1) := by decide +kernel
theorem dX8_whole_3 : decode cX8_whole 3 = .ok (.invokevirtual 57, 3) := by decide +kernel
theorem dX8_whole_6 : decode cX8_whole 6 = .ok (.ifCond .ne 14, 3) := by decide +kernel
theorem dX8_whole_9 : decode cX8_whole 9 = .ok (.iload_n 2, 1) := by decide +kernel
theorem dX8_whole_10 : decode cX8_whole 10 = .ok (.iconst 1, 1) := by decide +kernel
theorem dX8_whole_11 : decode cX8_whole 11 = .ok (.if_icmp .lt 9, 3) := by decide +kernel
theorem dX8_whole_14 : decode cX8_whole 14 = .ok (.iload_n 2, 1) := by decide +kernel
theorem dX8_whole_15 : decode cX8_whole 15 = .ok (.ldc 61, 2) := by decide +kernel
theorem dX8_whole_17 : decode cX8_whole 17 = .ok (.if_icmp .le 7, 3) := by decide +kernel
theorem dX8_whole_20 : decode cX8_whole 20 = .ok (.iconst 1, 1) := by decide +kernel
theorem dX8_whole_21 : decode cX8_whole 21 = .ok (.goto 4, 3) := by decide +kernel
theorem dX8_whole_24 : decode cX8_whole 24 = .ok (.iconst 0, 1) := by decide +kernel
theorem dX8_whole_25 : decode cX8_whole 25 = .ok (.putfield 46, 3) := by decide +kernel
theorem dX8_whole_28 : decode cX8_whole 28 = .ok (.aload_n 0, 1) := by decide +kernel
theorem dX8_whole_29 : decode cX8_whole 29 = .ok (.getfield 46, 3) := by decide +kernel
theorem dX8_whole_32 : decode cX8_whole 32 = .ok (.ifCond .ne 41, 3) := by decide +kernel
theorem dX8_whole_35 : decode cX8_whole 35 = .ok (.aload_n 0, 1) := by decide +kernel
theorem dX8_whole_36 : decode cX8_whole 36 = .ok (.getfield 7, 3) := by decide +kernel
theorem dX8_whole_39 : decode cX8_whole 39 = .ok (.iload_n 1, 1) := by decide +kernel
theorem dX8_whole_40 : decode cX8_whole 40 = .ok (.iload_n 2, 1) := by decide +kernel
theorem dX8_whole_41 : decode cX8_whole 41 = .ok (.iastore, 1) := by decide +kernel
theorem dX8_whole_42 : decode cX8_whole 42 = .ok (.iconst 0, 1) := by decide +kernel
theorem dX8_whole_43 : decode cX8_whole 43 = .ok (.istore_n 3, 1) := by decide +kernel
theorem dX8_whole_44 : decode cX8_whole 44 = .ok (.iload_n 3, 1) := by decide +kernel
theorem dX8_whole_45 : decode cX8_whole 45 = .ok (.bipush 41, 2) := by decide +kernel
theorem dX8_whole_47 : decode cX8_whole 47 = .ok (.if_icmp .ge 21, 3) := by decide +kernel
theorem dX8_whole_50 : decode cX8_whole 50 = .ok (.aload_n 0, 1) := by decide +kernel
theorem dX8_whole_51 : decode cX8_whole 51 = .ok (.getfield 13, 3) := by decide +kernel
theorem dX8_whole_54 : decode cX8_whole 54 = .ok (.bipush 41, 2) := by decide +kernel
theorem dX8_whole_56 : decode cX8_whole 56 = .ok (.iload_n 1, 1) := by decide +kernel
theorem dX8_whole_57 : decode cX8_whole 57 = .ok (.imul, 1) := by decide +kernel
theorem dX8_whole_58 : decode cX8_whole 58 = .ok (.iload_n 3, 1) := by decide +kernel
theorem dX8_whole_59 : decode cX8_whole 59 = .ok (.iadd, 1) := by decide +kernel
theorem dX8_whole_60 : decode cX8_whole 60 = .ok (.iconst 0, 1) := by decide +kernel
theorem dX8_whole_61 : decode cX8_whole 61 = .ok (.iastore, 1) := by decide +kernel
theorem dX8_whole_62 : decode cX8_whole 62 = .ok (.iinc 3 1, 3) := by decide +kernel
theorem dX8_whole_65 : decode cX8_whole 65 = .ok (.goto (-21), 3) := by decide +kernel
theorem dX8_whole_68 : decode cX8_whole 68 = .ok (.aload_n 0, 1) := by decide +kernel
theorem dX8_whole_69 : decode cX8_whole 69 = .ok (.iconst 0, 1) := by decide +kernel
theorem dX8_whole_70 : decode cX8_whole 70 = .ok (.putfield 53, 3) := by decide +kernel
theorem dX8_whole_73 : decode cX8_whole 73 = .ok (.return_, 1) := by decide +kernel
abbrev cX8_noState : ByteArray := prog_10_method_5_code
def yX8_noState : MethodName := ⟨"ChainDeskModel", "noState", "(I)Z"⟩
def wX8_noState : List Cond := .code yX8_noState cX8_noState 2 (Option.some Jvm.ClassFile.FieldType.boolean) :: WG
theorem dX8_noState_0 : decode cX8_noState 0 = .ok (.iload_n 1, 1) := by decide +kernel
theorem dX8_noState_1 : decode cX8_noState 1 = .ok (.ifCond .lt 11, 3) := by decide +kernel
theorem dX8_noState_4 : decode cX8_noState 4 = .ok (.iload_n 1, 1) := by decide +kernel
theorem dX8_noState_5 : decode cX8_noState 5 = .ok (.aload_n 0, 1) := by decide +kernel
theorem dX8_noState_6 : decode cX8_noState 6 = .ok (.getfield 50, 3) := by decide +kernel
theorem dX8_noState_9 : decode cX8_noState 9 = .ok (.if_icmp .lt 7, 3) := by decide +kernel
theorem dX8_noState_12 : decode cX8_noState 12 = .ok (.iconst 1, 1) := by decide +kernel
theorem dX8_noState_13 : decode cX8_noState 13 = .ok (.goto 4, 3) := by decide +kernel
theorem dX8_noState_16 : decode cX8_noState 16 = .ok (.iconst 0, 1) := by decide +kernel
theorem dX8_noState_17 : decode cX8_noState 17 = .ok (.ireturn, 1) := by decide +kernel
abbrev cX8_part : ByteArray := prog_10_method_8_code
def yX8_part : MethodName := ⟨"ChainDeskModel", "part", "(III)I"⟩
def wX8_part : List Cond := .code yX8_part cX8_part 6 (Option.some Jvm.ClassFile.FieldType.int) :: WG
theorem dX8_part_0 : decode cX8_part 0 = .ok (.aload_n 0, 1) := by decide +kernel
theorem dX8_part_1 : decode cX8_part 1 = .ok (.aload_n 0, 1) := by decide +kernel
theorem dX8_part_2 : decode cX8_part 2 = .ok (.iload_n 1, 1) := by decide +kernel
theorem dX8_part_3 : decode cX8_part 3 = .ok (.invokevirtual 57, 3) := by decide +kernel
theorem dX8_part_6 : decode cX8_part 6 = .ok (.ifCond .ne 25, 3) := by decide +kernel
theorem dX8_part_9 : decode cX8_part 9 = .ok (.iload_n 2, 1) := by decide +kernel
theorem dX8_part_10 : decode cX8_part 10 = .ok (.ifCond .lt 21, 3) := by decide +kernel
theorem dX8_part_13 : decode cX8_part 13 = .ok (.iload_n 2, 1) := by decide +kernel
theorem dX8_part_14 : decode cX8_part 14 = .ok (.aload_n 0, 1) := by decide +kernel
theorem dX8_part_15 : decode cX8_part 15 = .ok (.getfield 50, 3) := by decide +kernel
theorem dX8_part_18 : decode cX8_part 18 = .ok (.if_icmp .gt 13, 3) := by decide +kernel
theorem dX8_part_21 : decode cX8_part 21 = .ok (.iload_n 3, 1) := by decide +kernel
theorem dX8_part_22 : decode cX8_part 22 = .ok (.ifCond .lt 9, 3) := by decide +kernel
theorem dX8_part_25 : decode cX8_part 25 = .ok (.iload_n 3, 1) := by decide +kernel
theorem dX8_part_26 : decode cX8_part 26 = .ok (.ldc 61, 2) := by decide +kernel
theorem dX8_part_28 : decode cX8_part 28 = .ok (.if_icmp .le 7, 3) := by decide +kernel
theorem dX8_part_31 : decode cX8_part 31 = .ok (.iconst 1, 1) := by decide +kernel
theorem dX8_part_32 : decode cX8_part 32 = .ok (.goto 4, 3) := by decide +kernel
theorem dX8_part_35 : decode cX8_part 35 = .ok (.iconst 0, 1) := by decide +kernel
theorem dX8_part_36 : decode cX8_part 36 = .ok (.putfield 46, 3) := by decide +kernel
theorem dX8_part_39 : decode cX8_part 39 = .ok (.aload_n 0, 1) := by decide +kernel
theorem dX8_part_40 : decode cX8_part 40 = .ok (.getfield 46, 3) := by decide +kernel
theorem dX8_part_43 : decode cX8_part 43 = .ok (.ifCond .le 5, 3) := by decide +kernel
theorem dX8_part_46 : decode cX8_part 46 = .ok (.iconst 0, 1) := by decide +kernel
theorem dX8_part_47 : decode cX8_part 47 = .ok (.ireturn, 1) := by decide +kernel
theorem dX8_part_48 : decode cX8_part 48 = .ok (.aload_n 0, 1) := by decide +kernel
theorem dX8_part_49 : decode cX8_part 49 = .ok (.getfield 7, 3) := by decide +kernel
theorem dX8_part_52 : decode cX8_part 52 = .ok (.iload_n 1, 1) := by decide +kernel
theorem dX8_part_53 : decode cX8_part 53 = .ok (.iaload, 1) := by decide +kernel
theorem dX8_part_54 : decode cX8_part 54 = .ok (.i2l, 1) := by decide +kernel
theorem dX8_part_55 : decode cX8_part 55 = .ok (.aload_n 0, 1) := by decide +kernel
theorem dX8_part_56 : decode cX8_part 56 = .ok (.iload_n 1, 1) := by decide +kernel
theorem dX8_part_57 : decode cX8_part 57 = .ok (.invokevirtual 62, 3) := by decide +kernel
theorem dX8_part_60 : decode cX8_part 60 = .ok (.lsub, 1) := by decide +kernel
theorem dX8_part_61 : decode cX8_part 61 = .ok (.aload_n 0, 1) := by decide +kernel
theorem dX8_part_62 : decode cX8_part 62 = .ok (.getfield 13, 3) := by decide +kernel
theorem dX8_part_65 : decode cX8_part 65 = .ok (.bipush 41, 2) := by decide +kernel
theorem dX8_part_67 : decode cX8_part 67 = .ok (.iload_n 1, 1) := by decide +kernel
theorem dX8_part_68 : decode cX8_part 68 = .ok (.imul, 1) := by decide +kernel
theorem dX8_part_69 : decode cX8_part 69 = .ok (.iload_n 2, 1) := by decide +kernel
theorem dX8_part_70 : decode cX8_part 70 = .ok (.iadd, 1) := by decide +kernel
theorem dX8_part_71 : decode cX8_part 71 = .ok (.iaload, 1) := by decide +kernel
theorem dX8_part_72 : decode cX8_part 72 = .ok (.i2l, 1) := by decide +kernel
theorem dX8_part_73 : decode cX8_part 73 = .ok (.ladd, 1) := by decide +kernel
theorem dX8_part_74 : decode cX8_part 74 = .ok (.iload_n 3, 1) := by decide +kernel
theorem dX8_part_75 : decode cX8_part 75 = .ok (.i2l, 1) := by decide +kernel
theorem dX8_part_76 : decode cX8_part 76 = .ok (.lsub, 1) := by decide +kernel
theorem dX8_part_77 : decode cX8_part 77 = .ok (.lstore 4, 2) := by decide +kernel
theorem dX8_part_79 : decode cX8_part 79 = .ok (.lload 4, 2) := by decide +kernel
theorem dX8_part_81 : decode cX8_part 81 = .ok (.lconst 0, 1) := by decide +kernel
theorem dX8_part_82 : decode cX8_part 82 = .ok (.lcmp, 1) := by decide +kernel
theorem dX8_part_83 : decode cX8_part 83 = .ok (.ifCond .ge 10, 3) := by decide +kernel
theorem dX8_part_86 : decode cX8_part 86 = .ok (.aload_n 0, 1) := by decide +kernel
theorem dX8_part_87 : decode cX8_part 87 = .ok (.iconst 2, 1) := by decide +kernel
theorem dX8_part_88 : decode cX8_part 88 = .ok (.putfield 46, 3) := by decide +kernel
theorem dX8_part_91 : decode cX8_part 91 = .ok (.iconst 0, 1) := by decide +kernel
theorem dX8_part_92 : decode cX8_part 92 = .ok (.ireturn, 1) := by decide +kernel
theorem dX8_part_93 : decode cX8_part 93 = .ok (.aload_n 0, 1) := by decide +kernel
theorem dX8_part_94 : decode cX8_part 94 = .ok (.getfield 13, 3) := by decide +kernel
theorem dX8_part_97 : decode cX8_part 97 = .ok (.bipush 41, 2) := by decide +kernel
theorem dX8_part_99 : decode cX8_part 99 = .ok (.iload_n 1, 1) := by decide +kernel
theorem dX8_part_100 : decode cX8_part 100 = .ok (.imul, 1) := by decide +kernel
theorem dX8_part_101 : decode cX8_part 101 = .ok (.iload_n 2, 1) := by decide +kernel
theorem dX8_part_102 : decode cX8_part 102 = .ok (.iadd, 1) := by decide +kernel
theorem dX8_part_103 : decode cX8_part 103 = .ok (.iload_n 3, 1) := by decide +kernel
theorem dX8_part_104 : decode cX8_part 104 = .ok (.iastore, 1) := by decide +kernel
theorem dX8_part_105 : decode cX8_part 105 = .ok (.aload_n 0, 1) := by decide +kernel
theorem dX8_part_106 : decode cX8_part 106 = .ok (.iconst 0, 1) := by decide +kernel
theorem dX8_part_107 : decode cX8_part 107 = .ok (.putfield 53, 3) := by decide +kernel
theorem dX8_part_110 : decode cX8_part 110 = .ok (.lload 4, 2) := by decide +kernel
theorem dX8_part_112 : decode cX8_part 112 = .ok (.l2i, 1) := by decide +kernel
theorem dX8_part_113 : decode cX8_part 113 = .ok (.ireturn, 1) := by decide +kernel
abbrev cX8_together : ByteArray := prog_10_method_7_code
def yX8_together : MethodName := ⟨"ChainDeskModel", "together", "(I)J"⟩
def wX8_together : List Cond := .code yX8_together cX8_together 5 (Option.some Jvm.ClassFile.FieldType.long) :: WG
theorem dX8_together_0 : decode cX8_together 0 = .ok (.lconst 0, 1) := by decide +kernel
theorem dX8_together_1 : decode cX8_together 1 = .ok (.lstore_n 2, 1) := by decide +kernel
theorem dX8_together_2 : decode cX8_together 2 = .ok (.iconst 0, 1) := by decide +kernel
theorem dX8_together_3 : decode cX8_together 3 = .ok (.istore 4, 2) := by decide +kernel
theorem dX8_together_5 : decode cX8_together 5 = .ok (.iload 4, 2) := by decide +kernel
theorem dX8_together_7 : decode cX8_together 7 = .ok (.aload_n 0, 1) := by decide +kernel
theorem dX8_together_8 : decode cX8_together 8 = .ok (.getfield 50, 3) := by decide +kernel
theorem dX8_together_11 : decode cX8_together 11 = .ok (.if_icmp .gt 25, 3) := by decide +kernel
theorem dX8_together_14 : decode cX8_together 14 = .ok (.lload_n 2, 1) := by decide +kernel
theorem dX8_together_15 : decode cX8_together 15 = .ok (.aload_n 0, 1) := by decide +kernel
theorem dX8_together_16 : decode cX8_together 16 = .ok (.getfield 13, 3) := by decide +kernel
theorem dX8_together_19 : decode cX8_together 19 = .ok (.bipush 41, 2) := by decide +kernel
theorem dX8_together_21 : decode cX8_together 21 = .ok (.iload_n 1, 1) := by decide +kernel
theorem dX8_together_22 : decode cX8_together 22 = .ok (.imul, 1) := by decide +kernel
theorem dX8_together_23 : decode cX8_together 23 = .ok (.iload 4, 2) := by decide +kernel
theorem dX8_together_25 : decode cX8_together 25 = .ok (.iadd, 1) := by decide +kernel
theorem dX8_together_26 : decode cX8_together 26 = .ok (.iaload, 1) := by decide +kernel
theorem dX8_together_27 : decode cX8_together 27 = .ok (.i2l, 1) := by decide +kernel
theorem dX8_together_28 : decode cX8_together 28 = .ok (.ladd, 1) := by decide +kernel
theorem dX8_together_29 : decode cX8_together 29 = .ok (.lstore_n 2, 1) := by decide +kernel
theorem dX8_together_30 : decode cX8_together 30 = .ok (.iinc 4 1, 3) := by decide +kernel
theorem dX8_together_33 : decode cX8_together 33 = .ok (.goto (-28), 3) := by decide +kernel
theorem dX8_together_36 : decode cX8_together 36 = .ok (.lload_n 2, 1) := by decide +kernel
theorem dX8_together_37 : decode cX8_together 37 = .ok (.lreturn, 1) := by decide +kernel
abbrev cX8_solve : ByteArray := prog_10_method_17_code
def yX8_solve : MethodName := ⟨"ChainDeskModel", "solve", "()I"⟩
def wX8_solve : List Cond := .code yX8_solve cX8_solve 1 (Option.some Jvm.ClassFile.FieldType.int) :: WG
theorem dX8_solve_0 : decode cX8_solve 0 = .ok (.aload_n 0, 1) := by decide +kernel
theorem dX8_solve_1 : decode cX8_solve 1 = .ok (.iconst 0, 1) := by decide +kernel
theorem dX8_solve_2 : decode cX8_solve 2 = .ok (.putfield 46, 3) := by decide +kernel
theorem dX8_solve_5 : decode cX8_solve 5 = .ok (.aload_n 0, 1) := by decide +kernel
theorem dX8_solve_6 : decode cX8_solve 6 = .ok (.iconst 0, 1) := by decide +kernel
theorem dX8_solve_7 : decode cX8_solve 7 = .ok (.putfield 53, 3) := by decide +kernel
theorem dX8_solve_10 : decode cX8_solve 10 = .ok (.aload_n 0, 1) := by decide +kernel
theorem dX8_solve_11 : decode cX8_solve 11 = .ok (.invokevirtual 102, 3) := by decide +kernel
theorem dX8_solve_14 : decode cX8_solve 14 = .ok (.ifCond .eq 6, 3) := by decide +kernel
theorem dX8_solve_17 : decode cX8_solve 17 = .ok (.bipush 6, 2) := by decide +kernel
theorem dX8_solve_19 : decode cX8_solve 19 = .ok (.ireturn, 1) := by decide +kernel
theorem dX8_solve_20 : decode cX8_solve 20 = .ok (.aload_n 0, 1) := by decide +kernel
theorem dX8_solve_21 : decode cX8_solve 21 = .ok (.invokevirtual 106, 3) := by decide +kernel
theorem dX8_solve_24 : decode cX8_solve 24 = .ok (.ifCond .eq 6, 3) := by decide +kernel
theorem dX8_solve_27 : decode cX8_solve 27 = .ok (.bipush 9, 2) := by decide +kernel
theorem dX8_solve_29 : decode cX8_solve 29 = .ok (.ireturn, 1) := by decide +kernel
theorem dX8_solve_30 : decode cX8_solve 30 = .ok (.aload_n 0, 1) := by decide +kernel
theorem dX8_solve_31 : decode cX8_solve 31 = .ok (.invokevirtual 109, 3) := by decide +kernel
theorem dX8_solve_34 : decode cX8_solve 34 = .ok (.aload_n 0, 1) := by decide +kernel
theorem dX8_solve_35 : decode cX8_solve 35 = .ok (.iconst 1, 1) := by decide +kernel
theorem dX8_solve_36 : decode cX8_solve 36 = .ok (.putfield 53, 3) := by decide +kernel
theorem dX8_solve_39 : decode cX8_solve 39 = .ok (.iconst 0, 1) := by decide +kernel
theorem dX8_solve_40 : decode cX8_solve 40 = .ok (.ireturn, 1) := by decide +kernel
abbrev cX8_isLarge : ByteArray := prog_10_method_9_code
def yX8_isLarge : MethodName := ⟨"ChainDeskModel", "isLarge", "()Z"⟩
def wX8_isLarge : List Cond := .code yX8_isLarge cX8_isLarge 4 (Option.some Jvm.ClassFile.FieldType.boolean) :: WG
theorem dX8_isLarge_0 : decode cX8_isLarge 0 = .ok (.iconst 0, 1) := by decide +kernel
theorem dX8_isLarge_1 : decode cX8_isLarge 1 = .ok (.istore_n 1, 1) := by decide +kernel
theorem dX8_isLarge_2 : decode cX8_isLarge 2 = .ok (.iconst 0, 1) := by decide +kernel
theorem dX8_isLarge_3 : decode cX8_isLarge 3 = .ok (.istore_n 2, 1) := by decide +kernel
theorem dX8_isLarge_4 : decode cX8_isLarge 4 = .ok (.iload_n 2, 1) := by decide +kernel
theorem dX8_isLarge_5 : decode cX8_isLarge 5 = .ok (.aload_n 0, 1) := by decide +kernel
theorem dX8_isLarge_6 : decode cX8_isLarge 6 = .ok (.getfield 50, 3) := by decide +kernel
theorem dX8_isLarge_9 : decode cX8_isLarge 9 = .ok (.if_icmp .ge 39, 3) := by decide +kernel
theorem dX8_isLarge_12 : decode cX8_isLarge 12 = .ok (.iconst 0, 1) := by decide +kernel
theorem dX8_isLarge_13 : decode cX8_isLarge 13 = .ok (.istore_n 3, 1) := by decide +kernel
theorem dX8_isLarge_14 : decode cX8_isLarge 14 = .ok (.lconst 1, 1) := by decide +kernel
theorem dX8_isLarge_15 : decode cX8_isLarge 15 = .ok (.iload_n 3, 1) := by decide +kernel
theorem dX8_isLarge_16 : decode cX8_isLarge 16 = .ok (.lshl, 1) := by decide +kernel
theorem dX8_isLarge_17 : decode cX8_isLarge 17 = .ok (.ldc2_w 66, 3) := by decide +kernel
theorem dX8_isLarge_20 : decode cX8_isLarge 20 = .ok (.aload_n 0, 1) := by decide +kernel
theorem dX8_isLarge_21 : decode cX8_isLarge 21 = .ok (.getfield 7, 3) := by decide +kernel
theorem dX8_isLarge_24 : decode cX8_isLarge 24 = .ok (.iload_n 2, 1) := by decide +kernel
theorem dX8_isLarge_25 : decode cX8_isLarge 25 = .ok (.iaload, 1) := by decide +kernel
theorem dX8_isLarge_26 : decode cX8_isLarge 26 = .ok (.i2l, 1) := by decide +kernel
theorem dX8_isLarge_27 : decode cX8_isLarge 27 = .ok (.lmul, 1) := by decide +kernel
theorem dX8_isLarge_28 : decode cX8_isLarge 28 = .ok (.lcmp, 1) := by decide +kernel
theorem dX8_isLarge_29 : decode cX8_isLarge 29 = .ok (.ifCond .ge 9, 3) := by decide +kernel
theorem dX8_isLarge_32 : decode cX8_isLarge 32 = .ok (.iinc 3 1, 3) := by decide +kernel
theorem dX8_isLarge_35 : decode cX8_isLarge 35 = .ok (.goto (-21), 3) := by decide +kernel
theorem dX8_isLarge_38 : decode cX8_isLarge 38 = .ok (.iload_n 1, 1) := by decide +kernel
theorem dX8_isLarge_39 : decode cX8_isLarge 39 = .ok (.iload_n 3, 1) := by decide +kernel
theorem dX8_isLarge_40 : decode cX8_isLarge 40 = .ok (.iadd, 1) := by decide +kernel
theorem dX8_isLarge_41 : decode cX8_isLarge 41 = .ok (.istore_n 1, 1) := by decide +kernel
theorem dX8_isLarge_42 : decode cX8_isLarge 42 = .ok (.iinc 2 1, 3) := by decide +kernel
theorem dX8_isLarge_45 : decode cX8_isLarge 45 = .ok (.goto (-41), 3) := by decide +kernel
theorem dX8_isLarge_48 : decode cX8_isLarge 48 = .ok (.iload_n 1, 1) := by decide +kernel
theorem dX8_isLarge_49 : decode cX8_isLarge 49 = .ok (.sipush 480, 3) := by decide +kernel
theorem dX8_isLarge_52 : decode cX8_isLarge 52 = .ok (.if_icmp .le 7, 3) := by decide +kernel
theorem dX8_isLarge_55 : decode cX8_isLarge 55 = .ok (.iconst 1, 1) := by decide +kernel
theorem dX8_isLarge_56 : decode cX8_isLarge 56 = .ok (.goto 4, 3) := by decide +kernel
theorem dX8_isLarge_59 : decode cX8_isLarge 59 = .ok (.iconst 0, 1) := by decide +kernel
theorem dX8_isLarge_60 : decode cX8_isLarge 60 = .ok (.ireturn, 1) := by decide +kernel
abbrev cX8_isStuck : ByteArray := prog_10_method_10_code
def yX8_isStuck : MethodName := ⟨"ChainDeskModel", "isStuck", "()Z"⟩
def wX8_isStuck : List Cond := .code yX8_isStuck cX8_isStuck 5 (Option.some Jvm.ClassFile.FieldType.boolean) :: WG
theorem dX8_isStuck_0 : decode cX8_isStuck 0 = .ok (.aload_n 0, 1) := by decide +kernel
theorem dX8_isStuck_1 : decode cX8_isStuck 1 = .ok (.getfield 38, 3) := by decide +kernel
theorem dX8_isStuck_4 : decode cX8_isStuck 4 = .ok (.astore_n 1, 1) := by decide +kernel
theorem dX8_isStuck_5 : decode cX8_isStuck 5 = .ok (.iconst 0, 1) := by decide +kernel
theorem dX8_isStuck_6 : decode cX8_isStuck 6 = .ok (.istore_n 2, 1) := by decide +kernel
theorem dX8_isStuck_7 : decode cX8_isStuck 7 = .ok (.iload_n 2, 1) := by decide +kernel
theorem dX8_isStuck_8 : decode cX8_isStuck 8 = .ok (.aload_n 0, 1) := by decide +kernel
theorem dX8_isStuck_9 : decode cX8_isStuck 9 = .ok (.getfield 50, 3) := by decide +kernel
theorem dX8_isStuck_12 : decode cX8_isStuck 12 = .ok (.if_icmp .ge 50, 3) := by decide +kernel
theorem dX8_isStuck_15 : decode cX8_isStuck 15 = .ok (.aload_n 1, 1) := by decide +kernel
theorem dX8_isStuck_16 : decode cX8_isStuck 16 = .ok (.iload_n 2, 1) := by decide +kernel
theorem dX8_isStuck_17 : decode cX8_isStuck 17 = .ok (.aload_n 0, 1) := by decide +kernel
theorem dX8_isStuck_18 : decode cX8_isStuck 18 = .ok (.getfield 13, 3) := by decide +kernel
theorem dX8_isStuck_21 : decode cX8_isStuck 21 = .ok (.bipush 41, 2) := by decide +kernel
theorem dX8_isStuck_23 : decode cX8_isStuck 23 = .ok (.iload_n 2, 1) := by decide +kernel
theorem dX8_isStuck_24 : decode cX8_isStuck 24 = .ok (.imul, 1) := by decide +kernel
theorem dX8_isStuck_25 : decode cX8_isStuck 25 = .ok (.aload_n 0, 1) := by decide +kernel
theorem dX8_isStuck_26 : decode cX8_isStuck 26 = .ok (.getfield 50, 3) := by decide +kernel
theorem dX8_isStuck_29 : decode cX8_isStuck 29 = .ok (.iadd, 1) := by decide +kernel
theorem dX8_isStuck_30 : decode cX8_isStuck 30 = .ok (.iaload, 1) := by decide +kernel
theorem dX8_isStuck_31 : decode cX8_isStuck 31 = .ok (.ifCond .gt 19, 3) := by decide +kernel
theorem dX8_isStuck_34 : decode cX8_isStuck 34 = .ok (.aload_n 0, 1) := by decide +kernel
theorem dX8_isStuck_35 : decode cX8_isStuck 35 = .ok (.iload_n 2, 1) := by decide +kernel
theorem dX8_isStuck_36 : decode cX8_isStuck 36 = .ok (.invokevirtual 62, 3) := by decide +kernel
theorem dX8_isStuck_39 : decode cX8_isStuck 39 = .ok (.aload_n 0, 1) := by decide +kernel
theorem dX8_isStuck_40 : decode cX8_isStuck 40 = .ok (.getfield 7, 3) := by decide +kernel
theorem dX8_isStuck_43 : decode cX8_isStuck 43 = .ok (.iload_n 2, 1) := by decide +kernel
theorem dX8_isStuck_44 : decode cX8_isStuck 44 = .ok (.iaload, 1) := by decide +kernel
theorem dX8_isStuck_45 : decode cX8_isStuck 45 = .ok (.i2l, 1) := by decide +kernel
theorem dX8_isStuck_46 : decode cX8_isStuck 46 = .ok (.lcmp, 1) := by decide +kernel
theorem dX8_isStuck_47 : decode cX8_isStuck 47 = .ok (.ifCond .ge 7, 3) := by decide +kernel
theorem dX8_isStuck_50 : decode cX8_isStuck 50 = .ok (.iconst 1, 1) := by decide +kernel
theorem dX8_isStuck_51 : decode cX8_isStuck 51 = .ok (.goto 4, 3) := by decide +kernel
theorem dX8_isStuck_54 : decode cX8_isStuck 54 = .ok (.iconst 0, 1) := by decide +kernel
theorem dX8_isStuck_55 : decode cX8_isStuck 55 = .ok (.bastore, 1) := by decide +kernel
theorem dX8_isStuck_56 : decode cX8_isStuck 56 = .ok (.iinc 2 1, 3) := by decide +kernel
theorem dX8_isStuck_59 : decode cX8_isStuck 59 = .ok (.goto (-52), 3) := by decide +kernel
theorem dX8_isStuck_62 : decode cX8_isStuck 62 = .ok (.iconst 0, 1) := by decide +kernel
theorem dX8_isStuck_63 : decode cX8_isStuck 63 = .ok (.istore_n 2, 1) := by decide +kernel
theorem dX8_isStuck_64 : decode cX8_isStuck 64 = .ok (.iload_n 2, 1) := by decide +kernel
theorem dX8_isStuck_65 : decode cX8_isStuck 65 = .ok (.aload_n 0, 1) := by decide +kernel
theorem dX8_isStuck_66 : decode cX8_isStuck 66 = .ok (.getfield 50, 3) := by decide +kernel
theorem dX8_isStuck_69 : decode cX8_isStuck 69 = .ok (.if_icmp .ge 79, 3) := by decide +kernel
theorem dX8_isStuck_72 : decode cX8_isStuck 72 = .ok (.iconst 0, 1) := by decide +kernel
theorem dX8_isStuck_73 : decode cX8_isStuck 73 = .ok (.istore_n 3, 1) := by decide +kernel
theorem dX8_isStuck_74 : decode cX8_isStuck 74 = .ok (.iload_n 3, 1) := by decide +kernel
theorem dX8_isStuck_75 : decode cX8_isStuck 75 = .ok (.aload_n 0, 1) := by decide +kernel
theorem dX8_isStuck_76 : decode cX8_isStuck 76 = .ok (.getfield 50, 3) := by decide +kernel
theorem dX8_isStuck_79 : decode cX8_isStuck 79 = .ok (.if_icmp .ge 63, 3) := by decide +kernel
theorem dX8_isStuck_82 : decode cX8_isStuck 82 = .ok (.iconst 0, 1) := by decide +kernel
theorem dX8_isStuck_83 : decode cX8_isStuck 83 = .ok (.istore 4, 2) := by decide +kernel
theorem dX8_isStuck_85 : decode cX8_isStuck 85 = .ok (.iload 4, 2) := by decide +kernel
theorem dX8_isStuck_87 : decode cX8_isStuck 87 = .ok (.aload_n 0, 1) := by decide +kernel
theorem dX8_isStuck_88 : decode cX8_isStuck 88 = .ok (.getfield 50, 3) := by decide +kernel
theorem dX8_isStuck_91 : decode cX8_isStuck 91 = .ok (.if_icmp .ge 45, 3) := by decide +kernel
theorem dX8_isStuck_94 : decode cX8_isStuck 94 = .ok (.aload_n 1, 1) := by decide +kernel
theorem dX8_isStuck_95 : decode cX8_isStuck 95 = .ok (.iload_n 3, 1) := by decide +kernel
theorem dX8_isStuck_96 : decode cX8_isStuck 96 = .ok (.aload_n 1, 1) := by decide +kernel
theorem dX8_isStuck_97 : decode cX8_isStuck 97 = .ok (.iload_n 3, 1) := by decide +kernel
theorem dX8_isStuck_98 : decode cX8_isStuck 98 = .ok (.baload, 1) := by decide +kernel
theorem dX8_isStuck_99 : decode cX8_isStuck 99 = .ok (.ifCond .ne 25, 3) := by decide +kernel
theorem dX8_isStuck_102 : decode cX8_isStuck 102 = .ok (.aload_n 0, 1) := by decide +kernel
theorem dX8_isStuck_103 : decode cX8_isStuck 103 = .ok (.getfield 13, 3) := by decide +kernel
theorem dX8_isStuck_106 : decode cX8_isStuck 106 = .ok (.bipush 41, 2) := by decide +kernel
theorem dX8_isStuck_108 : decode cX8_isStuck 108 = .ok (.iload_n 3, 1) := by decide +kernel
theorem dX8_isStuck_109 : decode cX8_isStuck 109 = .ok (.imul, 1) := by decide +kernel
theorem dX8_isStuck_110 : decode cX8_isStuck 110 = .ok (.iload 4, 2) := by decide +kernel
theorem dX8_isStuck_112 : decode cX8_isStuck 112 = .ok (.iadd, 1) := by decide +kernel
theorem dX8_isStuck_113 : decode cX8_isStuck 113 = .ok (.iaload, 1) := by decide +kernel
theorem dX8_isStuck_114 : decode cX8_isStuck 114 = .ok (.ifCond .le 14, 3) := by decide +kernel
theorem dX8_isStuck_117 : decode cX8_isStuck 117 = .ok (.aload_n 1, 1) := by decide +kernel
theorem dX8_isStuck_118 : decode cX8_isStuck 118 = .ok (.iload 4, 2) := by decide +kernel
theorem dX8_isStuck_120 : decode cX8_isStuck 120 = .ok (.baload, 1) := by decide +kernel
theorem dX8_isStuck_121 : decode cX8_isStuck 121 = .ok (.ifCond .eq 7, 3) := by decide +kernel
theorem dX8_isStuck_124 : decode cX8_isStuck 124 = .ok (.iconst 1, 1) := by decide +kernel
theorem dX8_isStuck_125 : decode cX8_isStuck 125 = .ok (.goto 4, 3) := by decide +kernel
theorem dX8_isStuck_128 : decode cX8_isStuck 128 = .ok (.iconst 0, 1) := by decide +kernel
theorem dX8_isStuck_129 : decode cX8_isStuck 129 = .ok (.bastore, 1) := by decide +kernel
theorem dX8_isStuck_130 : decode cX8_isStuck 130 = .ok (.iinc 4 1, 3) := by decide +kernel
theorem dX8_isStuck_133 : decode cX8_isStuck 133 = .ok (.goto (-48), 3) := by decide +kernel
theorem dX8_isStuck_136 : decode cX8_isStuck 136 = .ok (.iinc 3 1, 3) := by decide +kernel
theorem dX8_isStuck_139 : decode cX8_isStuck 139 = .ok (.goto (-65), 3) := by decide +kernel
theorem dX8_isStuck_142 : decode cX8_isStuck 142 = .ok (.iinc 2 1, 3) := by decide +kernel
theorem dX8_isStuck_145 : decode cX8_isStuck 145 = .ok (.goto (-81), 3) := by decide +kernel
theorem dX8_isStuck_148 : decode cX8_isStuck 148 = .ok (.iconst 0, 1) := by decide +kernel
theorem dX8_isStuck_149 : decode cX8_isStuck 149 = .ok (.istore_n 2, 1) := by decide +kernel
theorem dX8_isStuck_150 : decode cX8_isStuck 150 = .ok (.iconst 0, 1) := by decide +kernel
theorem dX8_isStuck_151 : decode cX8_isStuck 151 = .ok (.istore_n 3, 1) := by decide +kernel
theorem dX8_isStuck_152 : decode cX8_isStuck 152 = .ok (.iload_n 3, 1) := by decide +kernel
theorem dX8_isStuck_153 : decode cX8_isStuck 153 = .ok (.aload_n 0, 1) := by decide +kernel
theorem dX8_isStuck_154 : decode cX8_isStuck 154 = .ok (.getfield 50, 3) := by decide +kernel
theorem dX8_isStuck_157 : decode cX8_isStuck 157 = .ok (.if_icmp .ge 25, 3) := by decide +kernel
theorem dX8_isStuck_160 : decode cX8_isStuck 160 = .ok (.iload_n 2, 1) := by decide +kernel
theorem dX8_isStuck_161 : decode cX8_isStuck 161 = .ok (.ifCond .ne 9, 3) := by decide +kernel
theorem dX8_isStuck_164 : decode cX8_isStuck 164 = .ok (.aload_n 1, 1) := by decide +kernel
theorem dX8_isStuck_165 : decode cX8_isStuck 165 = .ok (.iload_n 3, 1) := by decide +kernel
theorem dX8_isStuck_166 : decode cX8_isStuck 166 = .ok (.baload, 1) := by decide +kernel
theorem dX8_isStuck_167 : decode cX8_isStuck 167 = .ok (.ifCond .ne 7, 3) := by decide +kernel
theorem dX8_isStuck_170 : decode cX8_isStuck 170 = .ok (.iconst 1, 1) := by decide +kernel
theorem dX8_isStuck_171 : decode cX8_isStuck 171 = .ok (.goto 4, 3) := by decide +kernel
theorem dX8_isStuck_174 : decode cX8_isStuck 174 = .ok (.iconst 0, 1) := by decide +kernel
theorem dX8_isStuck_175 : decode cX8_isStuck 175 = .ok (.istore_n 2, 1) := by decide +kernel
theorem dX8_isStuck_176 : decode cX8_isStuck 176 = .ok (.iinc 3 1, 3) := by decide +kernel
theorem dX8_isStuck_179 : decode cX8_isStuck 179 = .ok (.goto (-27), 3) := by decide +kernel
theorem dX8_isStuck_182 : decode cX8_isStuck 182 = .ok (.iload_n 2, 1) := by decide +kernel
theorem dX8_isStuck_183 : decode cX8_isStuck 183 = .ok (.ireturn, 1) := by decide +kernel
abbrev cX8_workOut : ByteArray := prog_10_method_15_code
def yX8_workOut : MethodName := ⟨"ChainDeskModel", "workOut", "()V"⟩
def wX8_workOut : List Cond := .code yX8_workOut cX8_workOut 7 (Option.none : Option Jvm.ClassFile.FieldType) :: WG
theorem dX8_workOut_0 : decode cX8_workOut 0 = .ok (.aload_n 0, 1) := by decide +kernel
theorem dX8_workOut_1 : decode cX8_workOut 1 = .ok (.iconst 0, 1) := by decide +kernel
theorem dX8_workOut_2 : decode cX8_workOut 2 = .ok (.putfield 83, 3) := by decide +kernel
theorem dX8_workOut_5 : decode cX8_workOut 5 = .ok (.iconst 0, 1) := by decide +kernel
theorem dX8_workOut_6 : decode cX8_workOut 6 = .ok (.istore_n 1, 1) := by decide +kernel
theorem dX8_workOut_7 : decode cX8_workOut 7 = .ok (.aload_n 0, 1) := by decide +kernel
theorem dX8_workOut_8 : decode cX8_workOut 8 = .ok (.getfield 83, 3) := by decide +kernel
theorem dX8_workOut_11 : decode cX8_workOut 11 = .ok (.bipush 16, 2) := by decide +kernel
theorem dX8_workOut_13 : decode cX8_workOut 13 = .ok (.if_icmp .ge 119, 3) := by decide +kernel
theorem dX8_workOut_16 : decode cX8_workOut 16 = .ok (.aload_n 0, 1) := by decide +kernel
theorem dX8_workOut_17 : decode cX8_workOut 17 = .ok (.iload_n 1, 1) := by decide +kernel
theorem dX8_workOut_18 : decode cX8_workOut 18 = .ok (.invokevirtual 86, 3) := by decide +kernel
theorem dX8_workOut_21 : decode cX8_workOut 21 = .ok (.lstore_n 2, 1) := by decide +kernel
theorem dX8_workOut_22 : decode cX8_workOut 22 = .ok (.aload_n 0, 1) := by decide +kernel
theorem dX8_workOut_23 : decode cX8_workOut 23 = .ok (.lload_n 2, 1) := by decide +kernel
theorem dX8_workOut_24 : decode cX8_workOut 24 = .ok (.invokevirtual 89, 3) := by decide +kernel
theorem dX8_workOut_27 : decode cX8_workOut 27 = .ok (.lstore 4, 2) := by decide +kernel
theorem dX8_workOut_29 : decode cX8_workOut 29 = .ok (.lload 4, 2) := by decide +kernel
theorem dX8_workOut_31 : decode cX8_workOut 31 = .ok (.lconst 0, 1) := by decide +kernel
theorem dX8_workOut_32 : decode cX8_workOut 32 = .ok (.lcmp, 1) := by decide +kernel
theorem dX8_workOut_33 : decode cX8_workOut 33 = .ok (.ifCond .eq 93, 3) := by decide +kernel
theorem dX8_workOut_36 : decode cX8_workOut 36 = .ok (.aload_n 0, 1) := by decide +kernel
theorem dX8_workOut_37 : decode cX8_workOut 37 = .ok (.getfield 20, 3) := by decide +kernel
theorem dX8_workOut_40 : decode cX8_workOut 40 = .ok (.aload_n 0, 1) := by decide +kernel
theorem dX8_workOut_41 : decode cX8_workOut 41 = .ok (.getfield 83, 3) := by decide +kernel
theorem dX8_workOut_44 : decode cX8_workOut 44 = .ok (.lload_n 2, 1) := by decide +kernel
theorem dX8_workOut_45 : decode cX8_workOut 45 = .ok (.lastore, 1) := by decide +kernel
theorem dX8_workOut_46 : decode cX8_workOut 46 = .ok (.iconst 0, 1) := by decide +kernel
theorem dX8_workOut_47 : decode cX8_workOut 47 = .ok (.istore 6, 2) := by decide +kernel
theorem dX8_workOut_49 : decode cX8_workOut 49 = .ok (.iload 6, 2) := by decide +kernel
theorem dX8_workOut_51 : decode cX8_workOut 51 = .ok (.aload_n 0, 1) := by decide +kernel
theorem dX8_workOut_52 : decode cX8_workOut 52 = .ok (.getfield 50, 3) := by decide +kernel
theorem dX8_workOut_55 : decode cX8_workOut 55 = .ok (.if_icmp .ge 44, 3) := by decide +kernel
theorem dX8_workOut_58 : decode cX8_workOut 58 = .ok (.aload_n 0, 1) := by decide +kernel
theorem dX8_workOut_59 : decode cX8_workOut 59 = .ok (.getfield 23, 3) := by decide +kernel
theorem dX8_workOut_62 : decode cX8_workOut 62 = .ok (.bipush 41, 2) := by decide +kernel
theorem dX8_workOut_64 : decode cX8_workOut 64 = .ok (.aload_n 0, 1) := by decide +kernel
theorem dX8_workOut_65 : decode cX8_workOut 65 = .ok (.getfield 83, 3) := by decide +kernel
theorem dX8_workOut_68 : decode cX8_workOut 68 = .ok (.imul, 1) := by decide +kernel
theorem dX8_workOut_69 : decode cX8_workOut 69 = .ok (.iload 6, 2) := by decide +kernel
theorem dX8_workOut_71 : decode cX8_workOut 71 = .ok (.iadd, 1) := by decide +kernel
theorem dX8_workOut_72 : decode cX8_workOut 72 = .ok (.aload_n 0, 1) := by decide +kernel
theorem dX8_workOut_73 : decode cX8_workOut 73 = .ok (.getfield 26, 3) := by decide +kernel
theorem dX8_workOut_76 : decode cX8_workOut 76 = .ok (.bipush 41, 2) := by decide +kernel
theorem dX8_workOut_78 : decode cX8_workOut 78 = .ok (.iload 6, 2) := by decide +kernel
theorem dX8_workOut_80 : decode cX8_workOut 80 = .ok (.imul, 1) := by decide +kernel
theorem dX8_workOut_81 : decode cX8_workOut 81 = .ok (.aload_n 0, 1) := by decide +kernel
theorem dX8_workOut_82 : decode cX8_workOut 82 = .ok (.getfield 50, 3) := by decide +kernel
theorem dX8_workOut_85 : decode cX8_workOut 85 = .ok (.iadd, 1) := by decide +kernel
theorem dX8_workOut_86 : decode cX8_workOut 86 = .ok (.laload, 1) := by decide +kernel
theorem dX8_workOut_87 : decode cX8_workOut 87 = .ok (.lload 4, 2) := by decide +kernel
theorem dX8_workOut_89 : decode cX8_workOut 89 = .ok (.lmul, 1) := by decide +kernel
theorem dX8_workOut_90 : decode cX8_workOut 90 = .ok (.lload_n 2, 1) := by decide +kernel
theorem dX8_workOut_91 : decode cX8_workOut 91 = .ok (.lrem, 1) := by decide +kernel
theorem dX8_workOut_92 : decode cX8_workOut 92 = .ok (.lastore, 1) := by decide +kernel
theorem dX8_workOut_93 : decode cX8_workOut 93 = .ok (.iinc 6 1, 3) := by decide +kernel
theorem dX8_workOut_96 : decode cX8_workOut 96 = .ok (.goto (-47), 3) := by decide +kernel
theorem dX8_workOut_99 : decode cX8_workOut 99 = .ok (.aload_n 0, 1) := by decide +kernel
theorem dX8_workOut_100 : decode cX8_workOut 100 = .ok (.getfield 23, 3) := by decide +kernel
theorem dX8_workOut_103 : decode cX8_workOut 103 = .ok (.bipush 41, 2) := by decide +kernel
theorem dX8_workOut_105 : decode cX8_workOut 105 = .ok (.aload_n 0, 1) := by decide +kernel
theorem dX8_workOut_106 : decode cX8_workOut 106 = .ok (.getfield 83, 3) := by decide +kernel
theorem dX8_workOut_109 : decode cX8_workOut 109 = .ok (.imul, 1) := by decide +kernel
theorem dX8_workOut_110 : decode cX8_workOut 110 = .ok (.bipush 40, 2) := by decide +kernel
theorem dX8_workOut_112 : decode cX8_workOut 112 = .ok (.iadd, 1) := by decide +kernel
theorem dX8_workOut_113 : decode cX8_workOut 113 = .ok (.lload 4, 2) := by decide +kernel
theorem dX8_workOut_115 : decode cX8_workOut 115 = .ok (.lastore, 1) := by decide +kernel
theorem dX8_workOut_116 : decode cX8_workOut 116 = .ok (.aload_n 0, 1) := by decide +kernel
theorem dX8_workOut_117 : decode cX8_workOut 117 = .ok (.dup, 1) := by decide +kernel
theorem dX8_workOut_118 : decode cX8_workOut 118 = .ok (.getfield 83, 3) := by decide +kernel
theorem dX8_workOut_121 : decode cX8_workOut 121 = .ok (.iconst 1, 1) := by decide +kernel
theorem dX8_workOut_122 : decode cX8_workOut 122 = .ok (.iadd, 1) := by decide +kernel
theorem dX8_workOut_123 : decode cX8_workOut 123 = .ok (.putfield 83, 3) := by decide +kernel
theorem dX8_workOut_126 : decode cX8_workOut 126 = .ok (.iinc 1 1, 3) := by decide +kernel
theorem dX8_workOut_129 : decode cX8_workOut 129 = .ok (.goto (-122), 3) := by decide +kernel
theorem dX8_workOut_132 : decode cX8_workOut 132 = .ok (.iconst 0, 1) := by decide +kernel
theorem dX8_workOut_133 : decode cX8_workOut 133 = .ok (.istore_n 1, 1) := by decide +kernel
theorem dX8_workOut_134 : decode cX8_workOut 134 = .ok (.iload_n 1, 1) := by decide +kernel
theorem dX8_workOut_135 : decode cX8_workOut 135 = .ok (.bipush 41, 2) := by decide +kernel
theorem dX8_workOut_137 : decode cX8_workOut 137 = .ok (.if_icmp .ge 28, 3) := by decide +kernel
theorem dX8_workOut_140 : decode cX8_workOut 140 = .ok (.iload_n 1, 1) := by decide +kernel
theorem dX8_workOut_141 : decode cX8_workOut 141 = .ok (.aload_n 0, 1) := by decide +kernel
theorem dX8_workOut_142 : decode cX8_workOut 142 = .ok (.getfield 50, 3) := by decide +kernel
theorem dX8_workOut_145 : decode cX8_workOut 145 = .ok (.if_icmp .lt 9, 3) := by decide +kernel
theorem dX8_workOut_148 : decode cX8_workOut 148 = .ok (.iload_n 1, 1) := by decide +kernel
theorem dX8_workOut_149 : decode cX8_workOut 149 = .ok (.bipush 40, 2) := by decide +kernel
theorem dX8_workOut_151 : decode cX8_workOut 151 = .ok (.if_icmp .ne 8, 3) := by decide +kernel
theorem dX8_workOut_154 : decode cX8_workOut 154 = .ok (.aload_n 0, 1) := by decide +kernel
theorem dX8_workOut_155 : decode cX8_workOut 155 = .ok (.iload_n 1, 1) := by decide +kernel
theorem dX8_workOut_156 : decode cX8_workOut 156 = .ok (.invokevirtual 93, 3) := by decide +kernel
theorem dX8_workOut_159 : decode cX8_workOut 159 = .ok (.iinc 1 1, 3) := by decide +kernel
theorem dX8_workOut_162 : decode cX8_workOut 162 = .ok (.goto (-28), 3) := by decide +kernel
theorem dX8_workOut_165 : decode cX8_workOut 165 = .ok (.return_, 1) := by decide +kernel
abbrev cX8_prime : ByteArray := prog_10_method_12_code
def yX8_prime : MethodName := ⟨"ChainDeskModel", "prime", "(I)J"⟩
def wX8_prime : List Cond := .code yX8_prime cX8_prime 4 (Option.some Jvm.ClassFile.FieldType.long) :: WG
theorem dX8_prime_0 : decode cX8_prime 0 = .ok (.aload_n 0, 1) := by decide +kernel
theorem dX8_prime_1 : decode cX8_prime 1 = .ok (.getfield 70, 3) := by decide +kernel
theorem dX8_prime_4 : decode cX8_prime 4 = .ok (.iload_n 1, 1) := by decide +kernel
theorem dX8_prime_5 : decode cX8_prime 5 = .ok (.if_icmp .gt 71, 3) := by decide +kernel
theorem dX8_prime_8 : decode cX8_prime 8 = .ok (.aload_n 0, 1) := by decide +kernel
theorem dX8_prime_9 : decode cX8_prime 9 = .ok (.getfield 70, 3) := by decide +kernel
theorem dX8_prime_12 : decode cX8_prime 12 = .ok (.ifCond .ne 9, 3) := by decide +kernel
theorem dX8_prime_15 : decode cX8_prime 15 = .ok (.ldc2_w 73, 3) := by decide +kernel
theorem dX8_prime_18 : decode cX8_prime 18 = .ok (.goto 18, 3) := by decide +kernel
theorem dX8_prime_21 : decode cX8_prime 21 = .ok (.aload_n 0, 1) := by decide +kernel
theorem dX8_prime_22 : decode cX8_prime 22 = .ok (.getfield 16, 3) := by decide +kernel
theorem dX8_prime_25 : decode cX8_prime 25 = .ok (.aload_n 0, 1) := by decide +kernel
theorem dX8_prime_26 : decode cX8_prime 26 = .ok (.getfield 70, 3) := by decide +kernel
theorem dX8_prime_29 : decode cX8_prime 29 = .ok (.iconst 1, 1) := by decide +kernel
theorem dX8_prime_30 : decode cX8_prime 30 = .ok (.isub, 1) := by decide +kernel
theorem dX8_prime_31 : decode cX8_prime 31 = .ok (.laload, 1) := by decide +kernel
theorem dX8_prime_32 : decode cX8_prime 32 = .ok (.ldc2_w 66, 3) := by decide +kernel
theorem dX8_prime_35 : decode cX8_prime 35 = .ok (.lsub, 1) := by decide +kernel
theorem dX8_prime_36 : decode cX8_prime 36 = .ok (.lstore_n 2, 1) := by decide +kernel
theorem dX8_prime_37 : decode cX8_prime 37 = .ok (.lload_n 2, 1) := by decide +kernel
theorem dX8_prime_38 : decode cX8_prime 38 = .ok (.invokestatic 75, 3) := by decide +kernel
theorem dX8_prime_41 : decode cX8_prime 41 = .ok (.ifCond .ne 12, 3) := by decide +kernel
theorem dX8_prime_44 : decode cX8_prime 44 = .ok (.lload_n 2, 1) := by decide +kernel
theorem dX8_prime_45 : decode cX8_prime 45 = .ok (.ldc2_w 66, 3) := by decide +kernel
theorem dX8_prime_48 : decode cX8_prime 48 = .ok (.lsub, 1) := by decide +kernel
theorem dX8_prime_49 : decode cX8_prime 49 = .ok (.lstore_n 2, 1) := by decide +kernel
theorem dX8_prime_50 : decode cX8_prime 50 = .ok (.goto (-13), 3) := by decide +kernel
theorem dX8_prime_53 : decode cX8_prime 53 = .ok (.aload_n 0, 1) := by decide +kernel
theorem dX8_prime_54 : decode cX8_prime 54 = .ok (.getfield 16, 3) := by decide +kernel
theorem dX8_prime_57 : decode cX8_prime 57 = .ok (.aload_n 0, 1) := by decide +kernel
theorem dX8_prime_58 : decode cX8_prime 58 = .ok (.getfield 70, 3) := by decide +kernel
theorem dX8_prime_61 : decode cX8_prime 61 = .ok (.lload_n 2, 1) := by decide +kernel
theorem dX8_prime_62 : decode cX8_prime 62 = .ok (.lastore, 1) := by decide +kernel
theorem dX8_prime_63 : decode cX8_prime 63 = .ok (.aload_n 0, 1) := by decide +kernel
theorem dX8_prime_64 : decode cX8_prime 64 = .ok (.dup, 1) := by decide +kernel
theorem dX8_prime_65 : decode cX8_prime 65 = .ok (.getfield 70, 3) := by decide +kernel
theorem dX8_prime_68 : decode cX8_prime 68 = .ok (.iconst 1, 1) := by decide +kernel
theorem dX8_prime_69 : decode cX8_prime 69 = .ok (.iadd, 1) := by decide +kernel
theorem dX8_prime_70 : decode cX8_prime 70 = .ok (.putfield 70, 3) := by decide +kernel
theorem dX8_prime_73 : decode cX8_prime 73 = .ok (.goto (-73), 3) := by decide +kernel
theorem dX8_prime_76 : decode cX8_prime 76 = .ok (.aload_n 0, 1) := by decide +kernel
theorem dX8_prime_77 : decode cX8_prime 77 = .ok (.getfield 16, 3) := by decide +kernel
theorem dX8_prime_80 : decode cX8_prime 80 = .ok (.iload_n 1, 1) := by decide +kernel
theorem dX8_prime_81 : decode cX8_prime 81 = .ok (.laload, 1) := by decide +kernel
theorem dX8_prime_82 : decode cX8_prime 82 = .ok (.lreturn, 1) := by decide +kernel
abbrev cX8_isPrime : ByteArray := prog_10_method_11_code
def yX8_isPrime : MethodName := ⟨"ChainDeskModel", "isPrime", "(J)Z"⟩
def wX8_isPrime : List Cond := .code yX8_isPrime cX8_isPrime 4 (Option.some Jvm.ClassFile.FieldType.boolean) :: WG
theorem dX8_isPrime_0 : decode cX8_isPrime 0 = .ok (.ldc2_w 68, 3) := by decide +kernel
theorem dX8_isPrime_3 : decode cX8_isPrime 3 = .ok (.lstore_n 2, 1) := by decide +kernel
theorem dX8_isPrime_4 : decode cX8_isPrime 4 = .ok (.lload_n 2, 1) := by decide +kernel
theorem dX8_isPrime_5 : decode cX8_isPrime 5 = .ok (.lload_n 2, 1) := by decide +kernel
theorem dX8_isPrime_6 : decode cX8_isPrime 6 = .ok (.lmul, 1) := by decide +kernel
theorem dX8_isPrime_7 : decode cX8_isPrime 7 = .ok (.lload_n 0, 1) := by decide +kernel
theorem dX8_isPrime_8 : decode cX8_isPrime 8 = .ok (.lcmp, 1) := by decide +kernel
theorem dX8_isPrime_9 : decode cX8_isPrime 9 = .ok (.ifCond .gt 22, 3) := by decide +kernel
theorem dX8_isPrime_12 : decode cX8_isPrime 12 = .ok (.lload_n 0, 1) := by decide +kernel
theorem dX8_isPrime_13 : decode cX8_isPrime 13 = .ok (.lload_n 2, 1) := by decide +kernel
theorem dX8_isPrime_14 : decode cX8_isPrime 14 = .ok (.lrem, 1) := by decide +kernel
theorem dX8_isPrime_15 : decode cX8_isPrime 15 = .ok (.lconst 0, 1) := by decide +kernel
theorem dX8_isPrime_16 : decode cX8_isPrime 16 = .ok (.lcmp, 1) := by decide +kernel
theorem dX8_isPrime_17 : decode cX8_isPrime 17 = .ok (.ifCond .ne 5, 3) := by decide +kernel
theorem dX8_isPrime_20 : decode cX8_isPrime 20 = .ok (.iconst 0, 1) := by decide +kernel
theorem dX8_isPrime_21 : decode cX8_isPrime 21 = .ok (.ireturn, 1) := by decide +kernel
theorem dX8_isPrime_22 : decode cX8_isPrime 22 = .ok (.lload_n 2, 1) := by decide +kernel
theorem dX8_isPrime_23 : decode cX8_isPrime 23 = .ok (.ldc2_w 66, 3) := by decide +kernel
theorem dX8_isPrime_26 : decode cX8_isPrime 26 = .ok (.ladd, 1) := by decide +kernel
theorem dX8_isPrime_27 : decode cX8_isPrime 27 = .ok (.lstore_n 2, 1) := by decide +kernel
theorem dX8_isPrime_28 : decode cX8_isPrime 28 = .ok (.goto (-24), 3) := by decide +kernel
theorem dX8_isPrime_31 : decode cX8_isPrime 31 = .ok (.iconst 1, 1) := by decide +kernel
theorem dX8_isPrime_32 : decode cX8_isPrime 32 = .ok (.ireturn, 1) := by decide +kernel
abbrev cX8_eliminate : ByteArray := prog_10_method_14_code
def yX8_eliminate : MethodName := ⟨"ChainDeskModel", "eliminate", "(J)J"⟩
def wX8_eliminate : List Cond := .code yX8_eliminate cX8_eliminate 13 (Option.some Jvm.ClassFile.FieldType.long) :: WG
theorem dX8_eliminate_0 : decode cX8_eliminate 0 = .ok (.iconst 0, 1) := by decide +kernel
theorem dX8_eliminate_1 : decode cX8_eliminate 1 = .ok (.istore_n 3, 1) := by decide +kernel
theorem dX8_eliminate_2 : decode cX8_eliminate 2 = .ok (.iload_n 3, 1) := by decide +kernel
theorem dX8_eliminate_3 : decode cX8_eliminate 3 = .ok (.aload_n 0, 1) := by decide +kernel
theorem dX8_eliminate_4 : decode cX8_eliminate 4 = .ok (.getfield 50, 3) := by decide +kernel
theorem dX8_eliminate_7 : decode cX8_eliminate 7 = .ok (.if_icmp .ge 111, 3) := by decide +kernel
theorem dX8_eliminate_10 : decode cX8_eliminate 10 = .ok (.iconst 0, 1) := by decide +kernel
theorem dX8_eliminate_11 : decode cX8_eliminate 11 = .ok (.istore 4, 2) := by decide +kernel
theorem dX8_eliminate_13 : decode cX8_eliminate 13 = .ok (.iload 4, 2) := by decide +kernel
theorem dX8_eliminate_15 : decode cX8_eliminate 15 = .ok (.aload_n 0, 1) := by decide +kernel
theorem dX8_eliminate_16 : decode cX8_eliminate 16 = .ok (.getfield 50, 3) := by decide +kernel
theorem dX8_eliminate_19 : decode cX8_eliminate 19 = .ok (.if_icmp .ge 62, 3) := by decide +kernel
theorem dX8_eliminate_22 : decode cX8_eliminate 22 = .ok (.iload_n 3, 1) := by decide +kernel
theorem dX8_eliminate_23 : decode cX8_eliminate 23 = .ok (.iload 4, 2) := by decide +kernel
theorem dX8_eliminate_25 : decode cX8_eliminate 25 = .ok (.if_icmp .ne 13, 3) := by decide +kernel
theorem dX8_eliminate_28 : decode cX8_eliminate 28 = .ok (.aload_n 0, 1) := by decide +kernel
theorem dX8_eliminate_29 : decode cX8_eliminate 29 = .ok (.getfield 7, 3) := by decide +kernel
theorem dX8_eliminate_32 : decode cX8_eliminate 32 = .ok (.iload_n 3, 1) := by decide +kernel
theorem dX8_eliminate_33 : decode cX8_eliminate 33 = .ok (.iaload, 1) := by decide +kernel
theorem dX8_eliminate_34 : decode cX8_eliminate 34 = .ok (.i2l, 1) := by decide +kernel
theorem dX8_eliminate_35 : decode cX8_eliminate 35 = .ok (.goto 4, 3) := by decide +kernel
theorem dX8_eliminate_38 : decode cX8_eliminate 38 = .ok (.lconst 0, 1) := by decide +kernel
theorem dX8_eliminate_39 : decode cX8_eliminate 39 = .ok (.aload_n 0, 1) := by decide +kernel
theorem dX8_eliminate_40 : decode cX8_eliminate 40 = .ok (.getfield 13, 3) := by decide +kernel
theorem dX8_eliminate_43 : decode cX8_eliminate 43 = .ok (.bipush 41, 2) := by decide +kernel
theorem dX8_eliminate_45 : decode cX8_eliminate 45 = .ok (.iload_n 3, 1) := by decide +kernel
theorem dX8_eliminate_46 : decode cX8_eliminate 46 = .ok (.imul, 1) := by decide +kernel
theorem dX8_eliminate_47 : decode cX8_eliminate 47 = .ok (.iload 4, 2) := by decide +kernel
theorem dX8_eliminate_49 : decode cX8_eliminate 49 = .ok (.iadd, 1) := by decide +kernel
theorem dX8_eliminate_50 : decode cX8_eliminate 50 = .ok (.iaload, 1) := by decide +kernel
theorem dX8_eliminate_51 : decode cX8_eliminate 51 = .ok (.i2l, 1) := by decide +kernel
theorem dX8_eliminate_52 : decode cX8_eliminate 52 = .ok (.lsub, 1) := by decide +kernel
theorem dX8_eliminate_53 : decode cX8_eliminate 53 = .ok (.lstore 5, 2) := by decide +kernel
theorem dX8_eliminate_55 : decode cX8_eliminate 55 = .ok (.aload_n 0, 1) := by decide +kernel
theorem dX8_eliminate_56 : decode cX8_eliminate 56 = .ok (.getfield 26, 3) := by decide +kernel
theorem dX8_eliminate_59 : decode cX8_eliminate 59 = .ok (.bipush 41, 2) := by decide +kernel
theorem dX8_eliminate_61 : decode cX8_eliminate 61 = .ok (.iload_n 3, 1) := by decide +kernel
theorem dX8_eliminate_62 : decode cX8_eliminate 62 = .ok (.imul, 1) := by decide +kernel
theorem dX8_eliminate_63 : decode cX8_eliminate 63 = .ok (.iload 4, 2) := by decide +kernel
theorem dX8_eliminate_65 : decode cX8_eliminate 65 = .ok (.iadd, 1) := by decide +kernel
theorem dX8_eliminate_66 : decode cX8_eliminate 66 = .ok (.lload 5, 2) := by decide +kernel
theorem dX8_eliminate_68 : decode cX8_eliminate 68 = .ok (.lload_n 1, 1) := by decide +kernel
theorem dX8_eliminate_69 : decode cX8_eliminate 69 = .ok (.lrem, 1) := by decide +kernel
theorem dX8_eliminate_70 : decode cX8_eliminate 70 = .ok (.lload_n 1, 1) := by decide +kernel
theorem dX8_eliminate_71 : decode cX8_eliminate 71 = .ok (.ladd, 1) := by decide +kernel
theorem dX8_eliminate_72 : decode cX8_eliminate 72 = .ok (.lload_n 1, 1) := by decide +kernel
theorem dX8_eliminate_73 : decode cX8_eliminate 73 = .ok (.lrem, 1) := by decide +kernel
theorem dX8_eliminate_74 : decode cX8_eliminate 74 = .ok (.lastore, 1) := by decide +kernel
theorem dX8_eliminate_75 : decode cX8_eliminate 75 = .ok (.iinc 4 1, 3) := by decide +kernel
theorem dX8_eliminate_78 : decode cX8_eliminate 78 = .ok (.goto (-65), 3) := by decide +kernel
theorem dX8_eliminate_81 : decode cX8_eliminate 81 = .ok (.aload_n 0, 1) := by decide +kernel
theorem dX8_eliminate_82 : decode cX8_eliminate 82 = .ok (.getfield 26, 3) := by decide +kernel
theorem dX8_eliminate_85 : decode cX8_eliminate 85 = .ok (.bipush 41, 2) := by decide +kernel
theorem dX8_eliminate_87 : decode cX8_eliminate 87 = .ok (.iload_n 3, 1) := by decide +kernel
theorem dX8_eliminate_88 : decode cX8_eliminate 88 = .ok (.imul, 1) := by decide +kernel
theorem dX8_eliminate_89 : decode cX8_eliminate 89 = .ok (.aload_n 0, 1) := by decide +kernel
theorem dX8_eliminate_90 : decode cX8_eliminate 90 = .ok (.getfield 50, 3) := by decide +kernel
theorem dX8_eliminate_93 : decode cX8_eliminate 93 = .ok (.iadd, 1) := by decide +kernel
theorem dX8_eliminate_94 : decode cX8_eliminate 94 = .ok (.aload_n 0, 1) := by decide +kernel
theorem dX8_eliminate_95 : decode cX8_eliminate 95 = .ok (.getfield 13, 3) := by decide +kernel
theorem dX8_eliminate_98 : decode cX8_eliminate 98 = .ok (.bipush 41, 2) := by decide +kernel
theorem dX8_eliminate_100 : decode cX8_eliminate 100 = .ok (.iload_n 3, 1) := by decide +kernel
theorem dX8_eliminate_101 : decode cX8_eliminate 101 = .ok (.imul, 1) := by decide +kernel
theorem dX8_eliminate_102 : decode cX8_eliminate 102 = .ok (.aload_n 0, 1) := by decide +kernel
theorem dX8_eliminate_103 : decode cX8_eliminate 103 = .ok (.getfield 50, 3) := by decide +kernel
theorem dX8_eliminate_106 : decode cX8_eliminate 106 = .ok (.iadd, 1) := by decide +kernel
theorem dX8_eliminate_107 : decode cX8_eliminate 107 = .ok (.iaload, 1) := by decide +kernel
theorem dX8_eliminate_108 : decode cX8_eliminate 108 = .ok (.i2l, 1) := by decide +kernel
theorem dX8_eliminate_109 : decode cX8_eliminate 109 = .ok (.lload_n 1, 1) := by decide +kernel
theorem dX8_eliminate_110 : decode cX8_eliminate 110 = .ok (.lrem, 1) := by decide +kernel
theorem dX8_eliminate_111 : decode cX8_eliminate 111 = .ok (.lastore, 1) := by decide +kernel
theorem dX8_eliminate_112 : decode cX8_eliminate 112 = .ok (.iinc 3 1, 3) := by decide +kernel
theorem dX8_eliminate_115 : decode cX8_eliminate 115 = .ok (.goto (-113), 3) := by decide +kernel
theorem dX8_eliminate_118 : decode cX8_eliminate 118 = .ok (.lconst 1, 1) := by decide +kernel
theorem dX8_eliminate_119 : decode cX8_eliminate 119 = .ok (.lstore_n 3, 1) := by decide +kernel
theorem dX8_eliminate_120 : decode cX8_eliminate 120 = .ok (.iconst 0, 1) := by decide +kernel
theorem dX8_eliminate_121 : decode cX8_eliminate 121 = .ok (.istore 5, 2) := by decide +kernel
theorem dX8_eliminate_123 : decode cX8_eliminate 123 = .ok (.iload 5, 2) := by decide +kernel
theorem dX8_eliminate_125 : decode cX8_eliminate 125 = .ok (.aload_n 0, 1) := by decide +kernel
theorem dX8_eliminate_126 : decode cX8_eliminate 126 = .ok (.getfield 50, 3) := by decide +kernel
theorem dX8_eliminate_129 : decode cX8_eliminate 129 = .ok (.if_icmp .ge 357, 3) := by decide +kernel
theorem dX8_eliminate_132 : decode cX8_eliminate 132 = .ok (.iload 5, 2) := by decide +kernel
theorem dX8_eliminate_134 : decode cX8_eliminate 134 = .ok (.istore 6, 2) := by decide +kernel
theorem dX8_eliminate_136 : decode cX8_eliminate 136 = .ok (.iload 6, 2) := by decide +kernel
theorem dX8_eliminate_138 : decode cX8_eliminate 138 = .ok (.aload_n 0, 1) := by decide +kernel
theorem dX8_eliminate_139 : decode cX8_eliminate 139 = .ok (.getfield 50, 3) := by decide +kernel
theorem dX8_eliminate_142 : decode cX8_eliminate 142 = .ok (.if_icmp .ge 27, 3) := by decide +kernel
theorem dX8_eliminate_145 : decode cX8_eliminate 145 = .ok (.aload_n 0, 1) := by decide +kernel
theorem dX8_eliminate_146 : decode cX8_eliminate 146 = .ok (.getfield 26, 3) := by decide +kernel
theorem dX8_eliminate_149 : decode cX8_eliminate 149 = .ok (.bipush 41, 2) := by decide +kernel
theorem dX8_eliminate_151 : decode cX8_eliminate 151 = .ok (.iload 6, 2) := by decide +kernel
theorem dX8_eliminate_153 : decode cX8_eliminate 153 = .ok (.imul, 1) := by decide +kernel
theorem dX8_eliminate_154 : decode cX8_eliminate 154 = .ok (.iload 5, 2) := by decide +kernel
theorem dX8_eliminate_156 : decode cX8_eliminate 156 = .ok (.iadd, 1) := by decide +kernel
theorem dX8_eliminate_157 : decode cX8_eliminate 157 = .ok (.laload, 1) := by decide +kernel
theorem dX8_eliminate_158 : decode cX8_eliminate 158 = .ok (.lconst 0, 1) := by decide +kernel
theorem dX8_eliminate_159 : decode cX8_eliminate 159 = .ok (.lcmp, 1) := by decide +kernel
theorem dX8_eliminate_160 : decode cX8_eliminate 160 = .ok (.ifCond .ne 9, 3) := by decide +kernel
theorem dX8_eliminate_163 : decode cX8_eliminate 163 = .ok (.iinc 6 1, 3) := by decide +kernel
theorem dX8_eliminate_166 : decode cX8_eliminate 166 = .ok (.goto (-30), 3) := by decide +kernel
theorem dX8_eliminate_169 : decode cX8_eliminate 169 = .ok (.iload 6, 2) := by decide +kernel
theorem dX8_eliminate_171 : decode cX8_eliminate 171 = .ok (.aload_n 0, 1) := by decide +kernel
theorem dX8_eliminate_172 : decode cX8_eliminate 172 = .ok (.getfield 50, 3) := by decide +kernel
theorem dX8_eliminate_175 : decode cX8_eliminate 175 = .ok (.if_icmp .ne 5, 3) := by decide +kernel
theorem dX8_eliminate_178 : decode cX8_eliminate 178 = .ok (.lconst 0, 1) := by decide +kernel
theorem dX8_eliminate_179 : decode cX8_eliminate 179 = .ok (.lreturn, 1) := by decide +kernel
theorem dX8_eliminate_180 : decode cX8_eliminate 180 = .ok (.iconst 0, 1) := by decide +kernel
theorem dX8_eliminate_181 : decode cX8_eliminate 181 = .ok (.istore 7, 2) := by decide +kernel
theorem dX8_eliminate_183 : decode cX8_eliminate 183 = .ok (.iload 7, 2) := by decide +kernel
theorem dX8_eliminate_185 : decode cX8_eliminate 185 = .ok (.aload_n 0, 1) := by decide +kernel
theorem dX8_eliminate_186 : decode cX8_eliminate 186 = .ok (.getfield 50, 3) := by decide +kernel
theorem dX8_eliminate_189 : decode cX8_eliminate 189 = .ok (.if_icmp .gt 72, 3) := by decide +kernel
theorem dX8_eliminate_192 : decode cX8_eliminate 192 = .ok (.iload 6, 2) := by decide +kernel
theorem dX8_eliminate_194 : decode cX8_eliminate 194 = .ok (.iload 5, 2) := by decide +kernel
theorem dX8_eliminate_196 : decode cX8_eliminate 196 = .ok (.if_icmp .le 65, 3) := by decide +kernel
theorem dX8_eliminate_199 : decode cX8_eliminate 199 = .ok (.aload_n 0, 1) := by decide +kernel
theorem dX8_eliminate_200 : decode cX8_eliminate 200 = .ok (.getfield 26, 3) := by decide +kernel
theorem dX8_eliminate_203 : decode cX8_eliminate 203 = .ok (.bipush 41, 2) := by decide +kernel
theorem dX8_eliminate_205 : decode cX8_eliminate 205 = .ok (.iload 6, 2) := by decide +kernel
theorem dX8_eliminate_207 : decode cX8_eliminate 207 = .ok (.imul, 1) := by decide +kernel
theorem dX8_eliminate_208 : decode cX8_eliminate 208 = .ok (.iload 7, 2) := by decide +kernel
theorem dX8_eliminate_210 : decode cX8_eliminate 210 = .ok (.iadd, 1) := by decide +kernel
theorem dX8_eliminate_211 : decode cX8_eliminate 211 = .ok (.laload, 1) := by decide +kernel
theorem dX8_eliminate_212 : decode cX8_eliminate 212 = .ok (.lstore 8, 2) := by decide +kernel
theorem dX8_eliminate_214 : decode cX8_eliminate 214 = .ok (.aload_n 0, 1) := by decide +kernel
theorem dX8_eliminate_215 : decode cX8_eliminate 215 = .ok (.getfield 26, 3) := by decide +kernel
theorem dX8_eliminate_218 : decode cX8_eliminate 218 = .ok (.bipush 41, 2) := by decide +kernel
theorem dX8_eliminate_220 : decode cX8_eliminate 220 = .ok (.iload 6, 2) := by decide +kernel
theorem dX8_eliminate_222 : decode cX8_eliminate 222 = .ok (.imul, 1) := by decide +kernel
theorem dX8_eliminate_223 : decode cX8_eliminate 223 = .ok (.iload 7, 2) := by decide +kernel
theorem dX8_eliminate_225 : decode cX8_eliminate 225 = .ok (.iadd, 1) := by decide +kernel
theorem dX8_eliminate_226 : decode cX8_eliminate 226 = .ok (.aload_n 0, 1) := by decide +kernel
theorem dX8_eliminate_227 : decode cX8_eliminate 227 = .ok (.getfield 26, 3) := by decide +kernel
theorem dX8_eliminate_230 : decode cX8_eliminate 230 = .ok (.bipush 41, 2) := by decide +kernel
theorem dX8_eliminate_232 : decode cX8_eliminate 232 = .ok (.iload 5, 2) := by decide +kernel
theorem dX8_eliminate_234 : decode cX8_eliminate 234 = .ok (.imul, 1) := by decide +kernel
theorem dX8_eliminate_235 : decode cX8_eliminate 235 = .ok (.iload 7, 2) := by decide +kernel
theorem dX8_eliminate_237 : decode cX8_eliminate 237 = .ok (.iadd, 1) := by decide +kernel
theorem dX8_eliminate_238 : decode cX8_eliminate 238 = .ok (.laload, 1) := by decide +kernel
theorem dX8_eliminate_239 : decode cX8_eliminate 239 = .ok (.lastore, 1) := by decide +kernel
theorem dX8_eliminate_240 : decode cX8_eliminate 240 = .ok (.aload_n 0, 1) := by decide +kernel
theorem dX8_eliminate_241 : decode cX8_eliminate 241 = .ok (.getfield 26, 3) := by decide +kernel
theorem dX8_eliminate_244 : decode cX8_eliminate 244 = .ok (.bipush 41, 2) := by decide +kernel
theorem dX8_eliminate_246 : decode cX8_eliminate 246 = .ok (.iload 5, 2) := by decide +kernel
theorem dX8_eliminate_248 : decode cX8_eliminate 248 = .ok (.imul, 1) := by decide +kernel
theorem dX8_eliminate_249 : decode cX8_eliminate 249 = .ok (.iload 7, 2) := by decide +kernel
theorem dX8_eliminate_251 : decode cX8_eliminate 251 = .ok (.iadd, 1) := by decide +kernel
theorem dX8_eliminate_252 : decode cX8_eliminate 252 = .ok (.lload 8, 2) := by decide +kernel
theorem dX8_eliminate_254 : decode cX8_eliminate 254 = .ok (.lastore, 1) := by decide +kernel
theorem dX8_eliminate_255 : decode cX8_eliminate 255 = .ok (.iinc 7 1, 3) := by decide +kernel
theorem dX8_eliminate_258 : decode cX8_eliminate 258 = .ok (.goto (-75), 3) := by decide +kernel
theorem dX8_eliminate_261 : decode cX8_eliminate 261 = .ok (.iload 6, 2) := by decide +kernel
theorem dX8_eliminate_263 : decode cX8_eliminate 263 = .ok (.iload 5, 2) := by decide +kernel
theorem dX8_eliminate_265 : decode cX8_eliminate 265 = .ok (.if_icmp .le 9, 3) := by decide +kernel
theorem dX8_eliminate_268 : decode cX8_eliminate 268 = .ok (.lload_n 1, 1) := by decide +kernel
theorem dX8_eliminate_269 : decode cX8_eliminate 269 = .ok (.lload_n 3, 1) := by decide +kernel
theorem dX8_eliminate_270 : decode cX8_eliminate 270 = .ok (.lsub, 1) := by decide +kernel
theorem dX8_eliminate_271 : decode cX8_eliminate 271 = .ok (.goto 4, 3) := by decide +kernel
theorem dX8_eliminate_274 : decode cX8_eliminate 274 = .ok (.lload_n 3, 1) := by decide +kernel
theorem dX8_eliminate_275 : decode cX8_eliminate 275 = .ok (.lstore_n 3, 1) := by decide +kernel
theorem dX8_eliminate_276 : decode cX8_eliminate 276 = .ok (.lload_n 3, 1) := by decide +kernel
theorem dX8_eliminate_277 : decode cX8_eliminate 277 = .ok (.aload_n 0, 1) := by decide +kernel
theorem dX8_eliminate_278 : decode cX8_eliminate 278 = .ok (.getfield 26, 3) := by decide +kernel
theorem dX8_eliminate_281 : decode cX8_eliminate 281 = .ok (.bipush 41, 2) := by decide +kernel
theorem dX8_eliminate_283 : decode cX8_eliminate 283 = .ok (.iload 5, 2) := by decide +kernel
theorem dX8_eliminate_285 : decode cX8_eliminate 285 = .ok (.imul, 1) := by decide +kernel
theorem dX8_eliminate_286 : decode cX8_eliminate 286 = .ok (.iload 5, 2) := by decide +kernel
theorem dX8_eliminate_288 : decode cX8_eliminate 288 = .ok (.iadd, 1) := by decide +kernel
theorem dX8_eliminate_289 : decode cX8_eliminate 289 = .ok (.laload, 1) := by decide +kernel
theorem dX8_eliminate_290 : decode cX8_eliminate 290 = .ok (.lmul, 1) := by decide +kernel
theorem dX8_eliminate_291 : decode cX8_eliminate 291 = .ok (.lload_n 1, 1) := by decide +kernel
theorem dX8_eliminate_292 : decode cX8_eliminate 292 = .ok (.lrem, 1) := by decide +kernel
theorem dX8_eliminate_293 : decode cX8_eliminate 293 = .ok (.lstore_n 3, 1) := by decide +kernel
theorem dX8_eliminate_294 : decode cX8_eliminate 294 = .ok (.aload_n 0, 1) := by decide +kernel
theorem dX8_eliminate_295 : decode cX8_eliminate 295 = .ok (.getfield 26, 3) := by decide +kernel
theorem dX8_eliminate_298 : decode cX8_eliminate 298 = .ok (.bipush 41, 2) := by decide +kernel
theorem dX8_eliminate_300 : decode cX8_eliminate 300 = .ok (.iload 5, 2) := by decide +kernel
theorem dX8_eliminate_302 : decode cX8_eliminate 302 = .ok (.imul, 1) := by decide +kernel
theorem dX8_eliminate_303 : decode cX8_eliminate 303 = .ok (.iload 5, 2) := by decide +kernel
theorem dX8_eliminate_305 : decode cX8_eliminate 305 = .ok (.iadd, 1) := by decide +kernel
theorem dX8_eliminate_306 : decode cX8_eliminate 306 = .ok (.laload, 1) := by decide +kernel
theorem dX8_eliminate_307 : decode cX8_eliminate 307 = .ok (.lload_n 1, 1) := by decide +kernel
theorem dX8_eliminate_308 : decode cX8_eliminate 308 = .ok (.invokestatic 79, 3) := by decide +kernel
theorem dX8_eliminate_311 : decode cX8_eliminate 311 = .ok (.lstore 7, 2) := by decide +kernel
theorem dX8_eliminate_313 : decode cX8_eliminate 313 = .ok (.iload 5, 2) := by decide +kernel
theorem dX8_eliminate_315 : decode cX8_eliminate 315 = .ok (.istore 9, 2) := by decide +kernel
theorem dX8_eliminate_317 : decode cX8_eliminate 317 = .ok (.iload 9, 2) := by decide +kernel
theorem dX8_eliminate_319 : decode cX8_eliminate 319 = .ok (.aload_n 0, 1) := by decide +kernel
theorem dX8_eliminate_320 : decode cX8_eliminate 320 = .ok (.getfield 50, 3) := by decide +kernel
theorem dX8_eliminate_323 : decode cX8_eliminate 323 = .ok (.if_icmp .gt 40, 3) := by decide +kernel
theorem dX8_eliminate_326 : decode cX8_eliminate 326 = .ok (.aload_n 0, 1) := by decide +kernel
theorem dX8_eliminate_327 : decode cX8_eliminate 327 = .ok (.getfield 26, 3) := by decide +kernel
theorem dX8_eliminate_330 : decode cX8_eliminate 330 = .ok (.bipush 41, 2) := by decide +kernel
theorem dX8_eliminate_332 : decode cX8_eliminate 332 = .ok (.iload 5, 2) := by decide +kernel
theorem dX8_eliminate_334 : decode cX8_eliminate 334 = .ok (.imul, 1) := by decide +kernel
theorem dX8_eliminate_335 : decode cX8_eliminate 335 = .ok (.iload 9, 2) := by decide +kernel
theorem dX8_eliminate_337 : decode cX8_eliminate 337 = .ok (.iadd, 1) := by decide +kernel
theorem dX8_eliminate_338 : decode cX8_eliminate 338 = .ok (.aload_n 0, 1) := by decide +kernel
theorem dX8_eliminate_339 : decode cX8_eliminate 339 = .ok (.getfield 26, 3) := by decide +kernel
theorem dX8_eliminate_342 : decode cX8_eliminate 342 = .ok (.bipush 41, 2) := by decide +kernel
theorem dX8_eliminate_344 : decode cX8_eliminate 344 = .ok (.iload 5, 2) := by decide +kernel
theorem dX8_eliminate_346 : decode cX8_eliminate 346 = .ok (.imul, 1) := by decide +kernel
theorem dX8_eliminate_347 : decode cX8_eliminate 347 = .ok (.iload 9, 2) := by decide +kernel
theorem dX8_eliminate_349 : decode cX8_eliminate 349 = .ok (.iadd, 1) := by decide +kernel
theorem dX8_eliminate_350 : decode cX8_eliminate 350 = .ok (.laload, 1) := by decide +kernel
theorem dX8_eliminate_351 : decode cX8_eliminate 351 = .ok (.lload 7, 2) := by decide +kernel
theorem dX8_eliminate_353 : decode cX8_eliminate 353 = .ok (.lmul, 1) := by decide +kernel
theorem dX8_eliminate_354 : decode cX8_eliminate 354 = .ok (.lload_n 1, 1) := by decide +kernel
theorem dX8_eliminate_355 : decode cX8_eliminate 355 = .ok (.lrem, 1) := by decide +kernel
theorem dX8_eliminate_356 : decode cX8_eliminate 356 = .ok (.lastore, 1) := by decide +kernel
theorem dX8_eliminate_357 : decode cX8_eliminate 357 = .ok (.iinc 9 1, 3) := by decide +kernel
theorem dX8_eliminate_360 : decode cX8_eliminate 360 = .ok (.goto (-43), 3) := by decide +kernel
theorem dX8_eliminate_363 : decode cX8_eliminate 363 = .ok (.iconst 0, 1) := by decide +kernel
theorem dX8_eliminate_364 : decode cX8_eliminate 364 = .ok (.istore 9, 2) := by decide +kernel
theorem dX8_eliminate_366 : decode cX8_eliminate 366 = .ok (.iload 9, 2) := by decide +kernel
theorem dX8_eliminate_368 : decode cX8_eliminate 368 = .ok (.aload_n 0, 1) := by decide +kernel
theorem dX8_eliminate_369 : decode cX8_eliminate 369 = .ok (.getfield 50, 3) := by decide +kernel
theorem dX8_eliminate_372 : decode cX8_eliminate 372 = .ok (.if_icmp .ge 108, 3) := by decide +kernel
theorem dX8_eliminate_375 : decode cX8_eliminate 375 = .ok (.iload 9, 2) := by decide +kernel
theorem dX8_eliminate_377 : decode cX8_eliminate 377 = .ok (.iload 5, 2) := by decide +kernel
theorem dX8_eliminate_379 : decode cX8_eliminate 379 = .ok (.if_icmp .ne 7, 3) := by decide +kernel
theorem dX8_eliminate_382 : decode cX8_eliminate 382 = .ok (.lconst 0, 1) := by decide +kernel
theorem dX8_eliminate_383 : decode cX8_eliminate 383 = .ok (.goto 16, 3) := by decide +kernel
theorem dX8_eliminate_386 : decode cX8_eliminate 386 = .ok (.aload_n 0, 1) := by decide +kernel
theorem dX8_eliminate_387 : decode cX8_eliminate 387 = .ok (.getfield 26, 3) := by decide +kernel
theorem dX8_eliminate_390 : decode cX8_eliminate 390 = .ok (.bipush 41, 2) := by decide +kernel
theorem dX8_eliminate_392 : decode cX8_eliminate 392 = .ok (.iload 9, 2) := by decide +kernel
theorem dX8_eliminate_394 : decode cX8_eliminate 394 = .ok (.imul, 1) := by decide +kernel
theorem dX8_eliminate_395 : decode cX8_eliminate 395 = .ok (.iload 5, 2) := by decide +kernel
theorem dX8_eliminate_397 : decode cX8_eliminate 397 = .ok (.iadd, 1) := by decide +kernel
theorem dX8_eliminate_398 : decode cX8_eliminate 398 = .ok (.laload, 1) := by decide +kernel
theorem dX8_eliminate_399 : decode cX8_eliminate 399 = .ok (.lstore 10, 2) := by decide +kernel
theorem dX8_eliminate_401 : decode cX8_eliminate 401 = .ok (.iload 5, 2) := by decide +kernel
theorem dX8_eliminate_403 : decode cX8_eliminate 403 = .ok (.istore 12, 2) := by decide +kernel
theorem dX8_eliminate_405 : decode cX8_eliminate 405 = .ok (.iload 12, 2) := by decide +kernel
theorem dX8_eliminate_407 : decode cX8_eliminate 407 = .ok (.aload_n 0, 1) := by decide +kernel
theorem dX8_eliminate_408 : decode cX8_eliminate 408 = .ok (.getfield 50, 3) := by decide +kernel
theorem dX8_eliminate_411 : decode cX8_eliminate 411 = .ok (.if_icmp .gt 63, 3) := by decide +kernel
theorem dX8_eliminate_414 : decode cX8_eliminate 414 = .ok (.lload 10, 2) := by decide +kernel
theorem dX8_eliminate_416 : decode cX8_eliminate 416 = .ok (.lconst 0, 1) := by decide +kernel
theorem dX8_eliminate_417 : decode cX8_eliminate 417 = .ok (.lcmp, 1) := by decide +kernel
theorem dX8_eliminate_418 : decode cX8_eliminate 418 = .ok (.ifCond .eq 56, 3) := by decide +kernel
theorem dX8_eliminate_421 : decode cX8_eliminate 421 = .ok (.aload_n 0, 1) := by decide +kernel
theorem dX8_eliminate_422 : decode cX8_eliminate 422 = .ok (.getfield 26, 3) := by decide +kernel
theorem dX8_eliminate_425 : decode cX8_eliminate 425 = .ok (.bipush 41, 2) := by decide +kernel
theorem dX8_eliminate_427 : decode cX8_eliminate 427 = .ok (.iload 9, 2) := by decide +kernel
theorem dX8_eliminate_429 : decode cX8_eliminate 429 = .ok (.imul, 1) := by decide +kernel
theorem dX8_eliminate_430 : decode cX8_eliminate 430 = .ok (.iload 12, 2) := by decide +kernel
theorem dX8_eliminate_432 : decode cX8_eliminate 432 = .ok (.iadd, 1) := by decide +kernel
theorem dX8_eliminate_433 : decode cX8_eliminate 433 = .ok (.aload_n 0, 1) := by decide +kernel
theorem dX8_eliminate_434 : decode cX8_eliminate 434 = .ok (.getfield 26, 3) := by decide +kernel
theorem dX8_eliminate_437 : decode cX8_eliminate 437 = .ok (.bipush 41, 2) := by decide +kernel
theorem dX8_eliminate_439 : decode cX8_eliminate 439 = .ok (.iload 9, 2) := by decide +kernel
theorem dX8_eliminate_441 : decode cX8_eliminate 441 = .ok (.imul, 1) := by decide +kernel
theorem dX8_eliminate_442 : decode cX8_eliminate 442 = .ok (.iload 12, 2) := by decide +kernel
theorem dX8_eliminate_444 : decode cX8_eliminate 444 = .ok (.iadd, 1) := by decide +kernel
theorem dX8_eliminate_445 : decode cX8_eliminate 445 = .ok (.laload, 1) := by decide +kernel
theorem dX8_eliminate_446 : decode cX8_eliminate 446 = .ok (.lload_n 1, 1) := by decide +kernel
theorem dX8_eliminate_447 : decode cX8_eliminate 447 = .ok (.lload 10, 2) := by decide +kernel
theorem dX8_eliminate_449 : decode cX8_eliminate 449 = .ok (.lsub, 1) := by decide +kernel
theorem dX8_eliminate_450 : decode cX8_eliminate 450 = .ok (.aload_n 0, 1) := by decide +kernel
theorem dX8_eliminate_451 : decode cX8_eliminate 451 = .ok (.getfield 26, 3) := by decide +kernel
theorem dX8_eliminate_454 : decode cX8_eliminate 454 = .ok (.bipush 41, 2) := by decide +kernel
theorem dX8_eliminate_456 : decode cX8_eliminate 456 = .ok (.iload 5, 2) := by decide +kernel
theorem dX8_eliminate_458 : decode cX8_eliminate 458 = .ok (.imul, 1) := by decide +kernel
theorem dX8_eliminate_459 : decode cX8_eliminate 459 = .ok (.iload 12, 2) := by decide +kernel
theorem dX8_eliminate_461 : decode cX8_eliminate 461 = .ok (.iadd, 1) := by decide +kernel
theorem dX8_eliminate_462 : decode cX8_eliminate 462 = .ok (.laload, 1) := by decide +kernel
theorem dX8_eliminate_463 : decode cX8_eliminate 463 = .ok (.lmul, 1) := by decide +kernel
theorem dX8_eliminate_464 : decode cX8_eliminate 464 = .ok (.ladd, 1) := by decide +kernel
theorem dX8_eliminate_465 : decode cX8_eliminate 465 = .ok (.lload_n 1, 1) := by decide +kernel
theorem dX8_eliminate_466 : decode cX8_eliminate 466 = .ok (.lrem, 1) := by decide +kernel
theorem dX8_eliminate_467 : decode cX8_eliminate 467 = .ok (.lastore, 1) := by decide +kernel
theorem dX8_eliminate_468 : decode cX8_eliminate 468 = .ok (.iinc 12 1, 3) := by decide +kernel
theorem dX8_eliminate_471 : decode cX8_eliminate 471 = .ok (.goto (-66), 3) := by decide +kernel
theorem dX8_eliminate_474 : decode cX8_eliminate 474 = .ok (.iinc 9 1, 3) := by decide +kernel
theorem dX8_eliminate_477 : decode cX8_eliminate 477 = .ok (.goto (-111), 3) := by decide +kernel
theorem dX8_eliminate_480 : decode cX8_eliminate 480 = .ok (.iinc 5 1, 3) := by decide +kernel
theorem dX8_eliminate_483 : decode cX8_eliminate 483 = .ok (.goto (-360), 3) := by decide +kernel
theorem dX8_eliminate_486 : decode cX8_eliminate 486 = .ok (.lload_n 3, 1) := by decide +kernel
theorem dX8_eliminate_487 : decode cX8_eliminate 487 = .ok (.lreturn, 1) := by decide +kernel
abbrev cX8_inverse : ByteArray := prog_10_method_13_code
def yX8_inverse : MethodName := ⟨"ChainDeskModel", "inverse", "(JJ)J"⟩
def wX8_inverse : List Cond := .code yX8_inverse cX8_inverse 10 (Option.some Jvm.ClassFile.FieldType.long) :: WG
theorem dX8_inverse_0 : decode cX8_inverse 0 = .ok (.lload_n 0, 1) := by decide +kernel
theorem dX8_inverse_1 : decode cX8_inverse 1 = .ok (.lload_n 2, 1) := by decide +kernel
theorem dX8_inverse_2 : decode cX8_inverse 2 = .ok (.lrem, 1) := by decide +kernel
theorem dX8_inverse_3 : decode cX8_inverse 3 = .ok (.lstore 4, 2) := by decide +kernel
theorem dX8_inverse_5 : decode cX8_inverse 5 = .ok (.lconst 1, 1) := by decide +kernel
theorem dX8_inverse_6 : decode cX8_inverse 6 = .ok (.lstore 6, 2) := by decide +kernel
theorem dX8_inverse_8 : decode cX8_inverse 8 = .ok (.lload_n 2, 1) := by decide +kernel
theorem dX8_inverse_9 : decode cX8_inverse 9 = .ok (.ldc2_w 66, 3) := by decide +kernel
theorem dX8_inverse_12 : decode cX8_inverse 12 = .ok (.lsub, 1) := by decide +kernel
theorem dX8_inverse_13 : decode cX8_inverse 13 = .ok (.lstore 8, 2) := by decide +kernel
theorem dX8_inverse_15 : decode cX8_inverse 15 = .ok (.lload 8, 2) := by decide +kernel
theorem dX8_inverse_17 : decode cX8_inverse 17 = .ok (.lconst 0, 1) := by decide +kernel
theorem dX8_inverse_18 : decode cX8_inverse 18 = .ok (.lcmp, 1) := by decide +kernel
theorem dX8_inverse_19 : decode cX8_inverse 19 = .ok (.ifCond .le 44, 3) := by decide +kernel
theorem dX8_inverse_22 : decode cX8_inverse 22 = .ok (.lload 8, 2) := by decide +kernel
theorem dX8_inverse_24 : decode cX8_inverse 24 = .ok (.lconst 1, 1) := by decide +kernel
theorem dX8_inverse_25 : decode cX8_inverse 25 = .ok (.land, 1) := by decide +kernel
theorem dX8_inverse_26 : decode cX8_inverse 26 = .ok (.lconst 1, 1) := by decide +kernel
theorem dX8_inverse_27 : decode cX8_inverse 27 = .ok (.lcmp, 1) := by decide +kernel
theorem dX8_inverse_28 : decode cX8_inverse 28 = .ok (.ifCond .ne 13, 3) := by decide +kernel
theorem dX8_inverse_31 : decode cX8_inverse 31 = .ok (.lload 6, 2) := by decide +kernel
theorem dX8_inverse_33 : decode cX8_inverse 33 = .ok (.lload 4, 2) := by decide +kernel
theorem dX8_inverse_35 : decode cX8_inverse 35 = .ok (.lmul, 1) := by decide +kernel
theorem dX8_inverse_36 : decode cX8_inverse 36 = .ok (.lload_n 2, 1) := by decide +kernel
theorem dX8_inverse_37 : decode cX8_inverse 37 = .ok (.lrem, 1) := by decide +kernel
theorem dX8_inverse_38 : decode cX8_inverse 38 = .ok (.goto 5, 3) := by decide +kernel
theorem dX8_inverse_41 : decode cX8_inverse 41 = .ok (.lload 6, 2) := by decide +kernel
theorem dX8_inverse_43 : decode cX8_inverse 43 = .ok (.lstore 6, 2) := by decide +kernel
theorem dX8_inverse_45 : decode cX8_inverse 45 = .ok (.lload 4, 2) := by decide +kernel
theorem dX8_inverse_47 : decode cX8_inverse 47 = .ok (.lload 4, 2) := by decide +kernel
theorem dX8_inverse_49 : decode cX8_inverse 49 = .ok (.lmul, 1) := by decide +kernel
theorem dX8_inverse_50 : decode cX8_inverse 50 = .ok (.lload_n 2, 1) := by decide +kernel
theorem dX8_inverse_51 : decode cX8_inverse 51 = .ok (.lrem, 1) := by decide +kernel
theorem dX8_inverse_52 : decode cX8_inverse 52 = .ok (.lstore 4, 2) := by decide +kernel
theorem dX8_inverse_54 : decode cX8_inverse 54 = .ok (.lload 8, 2) := by decide +kernel
theorem dX8_inverse_56 : decode cX8_inverse 56 = .ok (.iconst 1, 1) := by decide +kernel
theorem dX8_inverse_57 : decode cX8_inverse 57 = .ok (.lshr, 1) := by decide +kernel
theorem dX8_inverse_58 : decode cX8_inverse 58 = .ok (.lstore 8, 2) := by decide +kernel
theorem dX8_inverse_60 : decode cX8_inverse 60 = .ok (.goto (-45), 3) := by decide +kernel
theorem dX8_inverse_63 : decode cX8_inverse 63 = .ok (.lload 6, 2) := by decide +kernel
theorem dX8_inverse_65 : decode cX8_inverse 65 = .ok (.lreturn, 1) := by decide +kernel
abbrev cX8_putTogether : ByteArray := prog_10_method_16_code
def yX8_putTogether : MethodName := ⟨"ChainDeskModel", "putTogether", "(I)V"⟩
def wX8_putTogether : List Cond := .code yX8_putTogether cX8_putTogether 10 (Option.none : Option Jvm.ClassFile.FieldType) :: WG
theorem dX8_putTogether_0 : decode cX8_putTogether 0 = .ok (.iconst 0, 1) := by decide +kernel
theorem dX8_putTogether_1 : decode cX8_putTogether 1 = .ok (.istore_n 2, 1) := by decide +kernel
theorem dX8_putTogether_2 : decode cX8_putTogether 2 = .ok (.iload_n 2, 1) := by decide +kernel
theorem dX8_putTogether_3 : decode cX8_putTogether 3 = .ok (.bipush 16, 2) := by decide +kernel
theorem dX8_putTogether_5 : decode cX8_putTogether 5 = .ok (.if_icmp .ge 105, 3) := by decide +kernel
theorem dX8_putTogether_8 : decode cX8_putTogether 8 = .ok (.aload_n 0, 1) := by decide +kernel
theorem dX8_putTogether_9 : decode cX8_putTogether 9 = .ok (.getfield 20, 3) := by decide +kernel
theorem dX8_putTogether_12 : decode cX8_putTogether 12 = .ok (.iload_n 2, 1) := by decide +kernel
theorem dX8_putTogether_13 : decode cX8_putTogether 13 = .ok (.laload, 1) := by decide +kernel
theorem dX8_putTogether_14 : decode cX8_putTogether 14 = .ok (.lstore_n 3, 1) := by decide +kernel
theorem dX8_putTogether_15 : decode cX8_putTogether 15 = .ok (.lconst 0, 1) := by decide +kernel
theorem dX8_putTogether_16 : decode cX8_putTogether 16 = .ok (.lstore 5, 2) := by decide +kernel
theorem dX8_putTogether_18 : decode cX8_putTogether 18 = .ok (.lconst 1, 1) := by decide +kernel
theorem dX8_putTogether_19 : decode cX8_putTogether 19 = .ok (.lstore 7, 2) := by decide +kernel
theorem dX8_putTogether_21 : decode cX8_putTogether 21 = .ok (.iconst 0, 1) := by decide +kernel
theorem dX8_putTogether_22 : decode cX8_putTogether 22 = .ok (.istore 9, 2) := by decide +kernel
theorem dX8_putTogether_24 : decode cX8_putTogether 24 = .ok (.iload 9, 2) := by decide +kernel
theorem dX8_putTogether_26 : decode cX8_putTogether 26 = .ok (.iload_n 2, 1) := by decide +kernel
theorem dX8_putTogether_27 : decode cX8_putTogether 27 = .ok (.if_icmp .ge 44, 3) := by decide +kernel
theorem dX8_putTogether_30 : decode cX8_putTogether 30 = .ok (.lload 5, 2) := by decide +kernel
theorem dX8_putTogether_32 : decode cX8_putTogether 32 = .ok (.aload_n 0, 1) := by decide +kernel
theorem dX8_putTogether_33 : decode cX8_putTogether 33 = .ok (.getfield 29, 3) := by decide +kernel
theorem dX8_putTogether_36 : decode cX8_putTogether 36 = .ok (.iload 9, 2) := by decide +kernel
theorem dX8_putTogether_38 : decode cX8_putTogether 38 = .ok (.laload, 1) := by decide +kernel
theorem dX8_putTogether_39 : decode cX8_putTogether 39 = .ok (.lload_n 3, 1) := by decide +kernel
theorem dX8_putTogether_40 : decode cX8_putTogether 40 = .ok (.lrem, 1) := by decide +kernel
theorem dX8_putTogether_41 : decode cX8_putTogether 41 = .ok (.lload 7, 2) := by decide +kernel
theorem dX8_putTogether_43 : decode cX8_putTogether 43 = .ok (.lmul, 1) := by decide +kernel
theorem dX8_putTogether_44 : decode cX8_putTogether 44 = .ok (.ladd, 1) := by decide +kernel
theorem dX8_putTogether_45 : decode cX8_putTogether 45 = .ok (.lload_n 3, 1) := by decide +kernel
theorem dX8_putTogether_46 : decode cX8_putTogether 46 = .ok (.lrem, 1) := by decide +kernel
theorem dX8_putTogether_47 : decode cX8_putTogether 47 = .ok (.lstore 5, 2) := by decide +kernel
theorem dX8_putTogether_49 : decode cX8_putTogether 49 = .ok (.lload 7, 2) := by decide +kernel
theorem dX8_putTogether_51 : decode cX8_putTogether 51 = .ok (.aload_n 0, 1) := by decide +kernel
theorem dX8_putTogether_52 : decode cX8_putTogether 52 = .ok (.getfield 20, 3) := by decide +kernel
theorem dX8_putTogether_55 : decode cX8_putTogether 55 = .ok (.iload 9, 2) := by decide +kernel
theorem dX8_putTogether_57 : decode cX8_putTogether 57 = .ok (.laload, 1) := by decide +kernel
theorem dX8_putTogether_58 : decode cX8_putTogether 58 = .ok (.lload_n 3, 1) := by decide +kernel
theorem dX8_putTogether_59 : decode cX8_putTogether 59 = .ok (.lrem, 1) := by decide +kernel
theorem dX8_putTogether_60 : decode cX8_putTogether 60 = .ok (.lmul, 1) := by decide +kernel
theorem dX8_putTogether_61 : decode cX8_putTogether 61 = .ok (.lload_n 3, 1) := by decide +kernel
theorem dX8_putTogether_62 : decode cX8_putTogether 62 = .ok (.lrem, 1) := by decide +kernel
theorem dX8_putTogether_63 : decode cX8_putTogether 63 = .ok (.lstore 7, 2) := by decide +kernel
theorem dX8_putTogether_65 : decode cX8_putTogether 65 = .ok (.iinc 9 1, 3) := by decide +kernel
theorem dX8_putTogether_68 : decode cX8_putTogether 68 = .ok (.goto (-44), 3) := by decide +kernel
theorem dX8_putTogether_71 : decode cX8_putTogether 71 = .ok (.aload_n 0, 1) := by decide +kernel
theorem dX8_putTogether_72 : decode cX8_putTogether 72 = .ok (.getfield 29, 3) := by decide +kernel
theorem dX8_putTogether_75 : decode cX8_putTogether 75 = .ok (.iload_n 2, 1) := by decide +kernel
theorem dX8_putTogether_76 : decode cX8_putTogether 76 = .ok (.aload_n 0, 1) := by decide +kernel
theorem dX8_putTogether_77 : decode cX8_putTogether 77 = .ok (.getfield 23, 3) := by decide +kernel
theorem dX8_putTogether_80 : decode cX8_putTogether 80 = .ok (.bipush 41, 2) := by decide +kernel
theorem dX8_putTogether_82 : decode cX8_putTogether 82 = .ok (.iload_n 2, 1) := by decide +kernel
theorem dX8_putTogether_83 : decode cX8_putTogether 83 = .ok (.imul, 1) := by decide +kernel
theorem dX8_putTogether_84 : decode cX8_putTogether 84 = .ok (.iload_n 1, 1) := by decide +kernel
theorem dX8_putTogether_85 : decode cX8_putTogether 85 = .ok (.iadd, 1) := by decide +kernel
theorem dX8_putTogether_86 : decode cX8_putTogether 86 = .ok (.laload, 1) := by decide +kernel
theorem dX8_putTogether_87 : decode cX8_putTogether 87 = .ok (.lload_n 3, 1) := by decide +kernel
theorem dX8_putTogether_88 : decode cX8_putTogether 88 = .ok (.ladd, 1) := by decide +kernel
theorem dX8_putTogether_89 : decode cX8_putTogether 89 = .ok (.lload 5, 2) := by decide +kernel
theorem dX8_putTogether_91 : decode cX8_putTogether 91 = .ok (.lsub, 1) := by decide +kernel
theorem dX8_putTogether_92 : decode cX8_putTogether 92 = .ok (.lload_n 3, 1) := by decide +kernel
theorem dX8_putTogether_93 : decode cX8_putTogether 93 = .ok (.lrem, 1) := by decide +kernel
theorem dX8_putTogether_94 : decode cX8_putTogether 94 = .ok (.lload 7, 2) := by decide +kernel
theorem dX8_putTogether_96 : decode cX8_putTogether 96 = .ok (.lload_n 3, 1) := by decide +kernel
theorem dX8_putTogether_97 : decode cX8_putTogether 97 = .ok (.invokestatic 79, 3) := by decide +kernel
theorem dX8_putTogether_100 : decode cX8_putTogether 100 = .ok (.lmul, 1) := by decide +kernel
theorem dX8_putTogether_101 : decode cX8_putTogether 101 = .ok (.lload_n 3, 1) := by decide +kernel
theorem dX8_putTogether_102 : decode cX8_putTogether 102 = .ok (.lrem, 1) := by decide +kernel
theorem dX8_putTogether_103 : decode cX8_putTogether 103 = .ok (.lastore, 1) := by decide +kernel
theorem dX8_putTogether_104 : decode cX8_putTogether 104 = .ok (.iinc 2 1, 3) := by decide +kernel
theorem dX8_putTogether_107 : decode cX8_putTogether 107 = .ok (.goto (-105), 3) := by decide +kernel
theorem dX8_putTogether_110 : decode cX8_putTogether 110 = .ok (.bipush 22, 2) := by decide +kernel
theorem dX8_putTogether_112 : decode cX8_putTogether 112 = .ok (.iload_n 1, 1) := by decide +kernel
theorem dX8_putTogether_113 : decode cX8_putTogether 113 = .ok (.imul, 1) := by decide +kernel
theorem dX8_putTogether_114 : decode cX8_putTogether 114 = .ok (.istore_n 2, 1) := by decide +kernel
theorem dX8_putTogether_115 : decode cX8_putTogether 115 = .ok (.aload_n 0, 1) := by decide +kernel
theorem dX8_putTogether_116 : decode cX8_putTogether 116 = .ok (.iload_n 2, 1) := by decide +kernel
theorem dX8_putTogether_117 : decode cX8_putTogether 117 = .ok (.lconst 0, 1) := by decide +kernel
theorem dX8_putTogether_118 : decode cX8_putTogether 118 = .ok (.invokevirtual 96, 3) := by decide +kernel
theorem dX8_putTogether_121 : decode cX8_putTogether 121 = .ok (.bipush 15, 2) := by decide +kernel
theorem dX8_putTogether_123 : decode cX8_putTogether 123 = .ok (.istore_n 3, 1) := by decide +kernel
theorem dX8_putTogether_124 : decode cX8_putTogether 124 = .ok (.iload_n 3, 1) := by decide +kernel
theorem dX8_putTogether_125 : decode cX8_putTogether 125 = .ok (.ifCond .lt 78, 3) := by decide +kernel
theorem dX8_putTogether_128 : decode cX8_putTogether 128 = .ok (.aload_n 0, 1) := by decide +kernel
theorem dX8_putTogether_129 : decode cX8_putTogether 129 = .ok (.getfield 29, 3) := by decide +kernel
theorem dX8_putTogether_132 : decode cX8_putTogether 132 = .ok (.iload_n 3, 1) := by decide +kernel
theorem dX8_putTogether_133 : decode cX8_putTogether 133 = .ok (.laload, 1) := by decide +kernel
theorem dX8_putTogether_134 : decode cX8_putTogether 134 = .ok (.lstore 4, 2) := by decide +kernel
theorem dX8_putTogether_136 : decode cX8_putTogether 136 = .ok (.iconst 0, 1) := by decide +kernel
theorem dX8_putTogether_137 : decode cX8_putTogether 137 = .ok (.istore 6, 2) := by decide +kernel
theorem dX8_putTogether_139 : decode cX8_putTogether 139 = .ok (.iload 6, 2) := by decide +kernel
theorem dX8_putTogether_141 : decode cX8_putTogether 141 = .ok (.bipush 22, 2) := by decide +kernel
theorem dX8_putTogether_143 : decode cX8_putTogether 143 = .ok (.if_icmp .ge 54, 3) := by decide +kernel
theorem dX8_putTogether_146 : decode cX8_putTogether 146 = .ok (.lload 4, 2) := by decide +kernel
theorem dX8_putTogether_148 : decode cX8_putTogether 148 = .ok (.aload_n 0, 1) := by decide +kernel
theorem dX8_putTogether_149 : decode cX8_putTogether 149 = .ok (.getfield 20, 3) := by decide +kernel
theorem dX8_putTogether_152 : decode cX8_putTogether 152 = .ok (.iload_n 3, 1) := by decide +kernel
theorem dX8_putTogether_153 : decode cX8_putTogether 153 = .ok (.laload, 1) := by decide +kernel
theorem dX8_putTogether_154 : decode cX8_putTogether 154 = .ok (.aload_n 0, 1) := by decide +kernel
theorem dX8_putTogether_155 : decode cX8_putTogether 155 = .ok (.getfield 32, 3) := by decide +kernel
theorem dX8_putTogether_158 : decode cX8_putTogether 158 = .ok (.iload_n 2, 1) := by decide +kernel
theorem dX8_putTogether_159 : decode cX8_putTogether 159 = .ok (.iload 6, 2) := by decide +kernel
theorem dX8_putTogether_161 : decode cX8_putTogether 161 = .ok (.iadd, 1) := by decide +kernel
theorem dX8_putTogether_162 : decode cX8_putTogether 162 = .ok (.iaload, 1) := by decide +kernel
theorem dX8_putTogether_163 : decode cX8_putTogether 163 = .ok (.i2l, 1) := by decide +kernel
theorem dX8_putTogether_164 : decode cX8_putTogether 164 = .ok (.lmul, 1) := by decide +kernel
theorem dX8_putTogether_165 : decode cX8_putTogether 165 = .ok (.ladd, 1) := by decide +kernel
theorem dX8_putTogether_166 : decode cX8_putTogether 166 = .ok (.lstore 4, 2) := by decide +kernel
theorem dX8_putTogether_168 : decode cX8_putTogether 168 = .ok (.aload_n 0, 1) := by decide +kernel
theorem dX8_putTogether_169 : decode cX8_putTogether 169 = .ok (.getfield 32, 3) := by decide +kernel
theorem dX8_putTogether_172 : decode cX8_putTogether 172 = .ok (.iload_n 2, 1) := by decide +kernel
theorem dX8_putTogether_173 : decode cX8_putTogether 173 = .ok (.iload 6, 2) := by decide +kernel
theorem dX8_putTogether_175 : decode cX8_putTogether 175 = .ok (.iadd, 1) := by decide +kernel
theorem dX8_putTogether_176 : decode cX8_putTogether 176 = .ok (.lload 4, 2) := by decide +kernel
theorem dX8_putTogether_178 : decode cX8_putTogether 178 = .ok (.ldc2_w 100, 3) := by decide +kernel
theorem dX8_putTogether_181 : decode cX8_putTogether 181 = .ok (.land, 1) := by decide +kernel
theorem dX8_putTogether_182 : decode cX8_putTogether 182 = .ok (.l2i, 1) := by decide +kernel
theorem dX8_putTogether_183 : decode cX8_putTogether 183 = .ok (.iastore, 1) := by decide +kernel
theorem dX8_putTogether_184 : decode cX8_putTogether 184 = .ok (.lload 4, 2) := by decide +kernel
theorem dX8_putTogether_186 : decode cX8_putTogether 186 = .ok (.bipush 24, 2) := by decide +kernel
theorem dX8_putTogether_188 : decode cX8_putTogether 188 = .ok (.lshr, 1) := by decide +kernel
theorem dX8_putTogether_189 : decode cX8_putTogether 189 = .ok (.lstore 4, 2) := by decide +kernel
theorem dX8_putTogether_191 : decode cX8_putTogether 191 = .ok (.iinc 6 1, 3) := by decide +kernel
theorem dX8_putTogether_194 : decode cX8_putTogether 194 = .ok (.goto (-55), 3) := by decide +kernel
theorem dX8_putTogether_197 : decode cX8_putTogether 197 = .ok (.iinc 3 (-1), 3) := by decide +kernel
theorem dX8_putTogether_200 : decode cX8_putTogether 200 = .ok (.goto (-76), 3) := by decide +kernel
theorem dX8_putTogether_203 : decode cX8_putTogether 203 = .ok (.return_, 1) := by decide +kernel
abbrev cX8_put : ByteArray := prog_10_method_18_code
def yX8_put : MethodName := ⟨"ChainDeskModel", "put", "(IJ)V"⟩
def wX8_put : List Cond := .code yX8_put cX8_put 5 (Option.none : Option Jvm.ClassFile.FieldType) :: WG
theorem dX8_put_0 : decode cX8_put 0 = .ok (.iconst 0, 1) := by decide +kernel
theorem dX8_put_1 : decode cX8_put 1 = .ok (.istore 4, 2) := by decide +kernel
theorem dX8_put_3 : decode cX8_put 3 = .ok (.iload 4, 2) := by decide +kernel
theorem dX8_put_5 : decode cX8_put 5 = .ok (.bipush 22, 2) := by decide +kernel
theorem dX8_put_7 : decode cX8_put 7 = .ok (.if_icmp .ge 40, 3) := by decide +kernel
theorem dX8_put_10 : decode cX8_put 10 = .ok (.aload_n 0, 1) := by decide +kernel
theorem dX8_put_11 : decode cX8_put 11 = .ok (.getfield 32, 3) := by decide +kernel
theorem dX8_put_14 : decode cX8_put 14 = .ok (.iload_n 1, 1) := by decide +kernel
theorem dX8_put_15 : decode cX8_put 15 = .ok (.iload 4, 2) := by decide +kernel
theorem dX8_put_17 : decode cX8_put 17 = .ok (.iadd, 1) := by decide +kernel
theorem dX8_put_18 : decode cX8_put 18 = .ok (.iload 4, 2) := by decide +kernel
theorem dX8_put_20 : decode cX8_put 20 = .ok (.iconst 3, 1) := by decide +kernel
theorem dX8_put_21 : decode cX8_put 21 = .ok (.if_icmp .ge 18, 3) := by decide +kernel
theorem dX8_put_24 : decode cX8_put 24 = .ok (.lload_n 2, 1) := by decide +kernel
theorem dX8_put_25 : decode cX8_put 25 = .ok (.bipush 24, 2) := by decide +kernel
theorem dX8_put_27 : decode cX8_put 27 = .ok (.iload 4, 2) := by decide +kernel
theorem dX8_put_29 : decode cX8_put 29 = .ok (.imul, 1) := by decide +kernel
theorem dX8_put_30 : decode cX8_put 30 = .ok (.lushr, 1) := by decide +kernel
theorem dX8_put_31 : decode cX8_put 31 = .ok (.ldc2_w 100, 3) := by decide +kernel
theorem dX8_put_34 : decode cX8_put 34 = .ok (.land, 1) := by decide +kernel
theorem dX8_put_35 : decode cX8_put 35 = .ok (.l2i, 1) := by decide +kernel
theorem dX8_put_36 : decode cX8_put 36 = .ok (.goto 4, 3) := by decide +kernel
theorem dX8_put_39 : decode cX8_put 39 = .ok (.iconst 0, 1) := by decide +kernel
theorem dX8_put_40 : decode cX8_put 40 = .ok (.iastore, 1) := by decide +kernel
theorem dX8_put_41 : decode cX8_put 41 = .ok (.iinc 4 1, 3) := by decide +kernel
theorem dX8_put_44 : decode cX8_put 44 = .ok (.goto (-41), 3) := by decide +kernel
theorem dX8_put_47 : decode cX8_put 47 = .ok (.return_, 1) := by decide +kernel
abbrev cX8_print : ByteArray := prog_10_method_26_code
def yX8_print : MethodName := ⟨"ChainDeskModel", "print", "(I)I"⟩
def wX8_print : List Cond := .code yX8_print cX8_print 3 (Option.some Jvm.ClassFile.FieldType.int) :: WG
theorem dX8_print_0 : decode cX8_print 0 = .ok (.aload_n 0, 1) := by decide +kernel
theorem dX8_print_1 : decode cX8_print 1 = .ok (.iload_n 1, 1) := by decide +kernel
theorem dX8_print_2 : decode cX8_print 2 = .ok (.invokevirtual 129, 3) := by decide +kernel
theorem dX8_print_5 : decode cX8_print 5 = .ok (.ifCond .eq 5, 3) := by decide +kernel
theorem dX8_print_8 : decode cX8_print 8 = .ok (.iconst (-1), 1) := by decide +kernel
theorem dX8_print_9 : decode cX8_print 9 = .ok (.ireturn, 1) := by decide +kernel
theorem dX8_print_10 : decode cX8_print 10 = .ok (.aload_n 0, 1) := by decide +kernel
theorem dX8_print_11 : decode cX8_print 11 = .ok (.iload_n 1, 1) := by decide +kernel
theorem dX8_print_12 : decode cX8_print 12 = .ok (.invokevirtual 132, 3) := by decide +kernel
theorem dX8_print_15 : decode cX8_print 15 = .ok (.aload_n 0, 1) := by decide +kernel
theorem dX8_print_16 : decode cX8_print 16 = .ok (.sipush 902, 3) := by decide +kernel
theorem dX8_print_19 : decode cX8_print 19 = .ok (.iconst 0, 1) := by decide +kernel
theorem dX8_print_20 : decode cX8_print 20 = .ok (.invokevirtual 135, 3) := by decide +kernel
theorem dX8_print_23 : decode cX8_print 23 = .ok (.istore_n 2, 1) := by decide +kernel
theorem dX8_print_24 : decode cX8_print 24 = .ok (.aload_n 0, 1) := by decide +kernel
theorem dX8_print_25 : decode cX8_print 25 = .ok (.sipush 968, 3) := by decide +kernel
theorem dX8_print_28 : decode cX8_print 28 = .ok (.lconst 1, 1) := by decide +kernel
theorem dX8_print_29 : decode cX8_print 29 = .ok (.invokevirtual 96, 3) := by decide +kernel
theorem dX8_print_32 : decode cX8_print 32 = .ok (.aload_n 0, 1) := by decide +kernel
theorem dX8_print_33 : decode cX8_print 33 = .ok (.sipush 924, 3) := by decide +kernel
theorem dX8_print_36 : decode cX8_print 36 = .ok (.sipush 968, 3) := by decide +kernel
theorem dX8_print_39 : decode cX8_print 39 = .ok (.invokevirtual 113, 3) := by decide +kernel
theorem dX8_print_42 : decode cX8_print 42 = .ok (.ifCond .eq 22, 3) := by decide +kernel
theorem dX8_print_45 : decode cX8_print 45 = .ok (.aload_n 0, 1) := by decide +kernel
theorem dX8_print_46 : decode cX8_print 46 = .ok (.getfield 35, 3) := by decide +kernel
theorem dX8_print_49 : decode cX8_print 49 = .ok (.iload_n 2, 1) := by decide +kernel
theorem dX8_print_50 : decode cX8_print 50 = .ok (.bipush 47, 2) := by decide +kernel
theorem dX8_print_52 : decode cX8_print 52 = .ok (.iastore, 1) := by decide +kernel
theorem dX8_print_53 : decode cX8_print 53 = .ok (.aload_n 0, 1) := by decide +kernel
theorem dX8_print_54 : decode cX8_print 54 = .ok (.sipush 924, 3) := by decide +kernel
theorem dX8_print_57 : decode cX8_print 57 = .ok (.iload_n 2, 1) := by decide +kernel
theorem dX8_print_58 : decode cX8_print 58 = .ok (.iconst 1, 1) := by decide +kernel
theorem dX8_print_59 : decode cX8_print 59 = .ok (.iadd, 1) := by decide +kernel
theorem dX8_print_60 : decode cX8_print 60 = .ok (.invokevirtual 135, 3) := by decide +kernel
theorem dX8_print_63 : decode cX8_print 63 = .ok (.istore_n 2, 1) := by decide +kernel
theorem dX8_print_64 : decode cX8_print 64 = .ok (.aload_n 0, 1) := by decide +kernel
theorem dX8_print_65 : decode cX8_print 65 = .ok (.iload_n 2, 1) := by decide +kernel
theorem dX8_print_66 : decode cX8_print 66 = .ok (.putfield 138, 3) := by decide +kernel
theorem dX8_print_69 : decode cX8_print 69 = .ok (.iload_n 2, 1) := by decide +kernel
theorem dX8_print_70 : decode cX8_print 70 = .ok (.ireturn, 1) := by decide +kernel
abbrev cX8_noLikelihood : ByteArray := prog_10_method_25_code
def yX8_noLikelihood : MethodName := ⟨"ChainDeskModel", "noLikelihood", "(I)Z"⟩
def wX8_noLikelihood : List Cond := .code yX8_noLikelihood cX8_noLikelihood 2 (Option.some Jvm.ClassFile.FieldType.boolean) :: WG
theorem dX8_noLikelihood_0 : decode cX8_noLikelihood 0 = .ok (.aload_n 0, 1) := by decide +kernel
theorem dX8_noLikelihood_1 : decode cX8_noLikelihood 1 = .ok (.iconst 0, 1) := by decide +kernel
theorem dX8_noLikelihood_2 : decode cX8_noLikelihood 2 = .ok (.putfield 46, 3) := by decide +kernel
theorem dX8_noLikelihood_5 : decode cX8_noLikelihood 5 = .ok (.aload_n 0, 1) := by decide +kernel
theorem dX8_noLikelihood_6 : decode cX8_noLikelihood 6 = .ok (.getfield 53, 3) := by decide +kernel
theorem dX8_noLikelihood_9 : decode cX8_noLikelihood 9 = .ok (.ifCond .eq 11, 3) := by decide +kernel
theorem dX8_noLikelihood_12 : decode cX8_noLikelihood 12 = .ok (.aload_n 0, 1) := by decide +kernel
theorem dX8_noLikelihood_13 : decode cX8_noLikelihood 13 = .ok (.iload_n 1, 1) := by decide +kernel
theorem dX8_noLikelihood_14 : decode cX8_noLikelihood 14 = .ok (.invokevirtual 57, 3) := by decide +kernel
theorem dX8_noLikelihood_17 : decode cX8_noLikelihood 17 = .ok (.ifCond .eq 7, 3) := by decide +kernel
theorem dX8_noLikelihood_20 : decode cX8_noLikelihood 20 = .ok (.iconst 1, 1) := by decide +kernel
theorem dX8_noLikelihood_21 : decode cX8_noLikelihood 21 = .ok (.goto 4, 3) := by decide +kernel
theorem dX8_noLikelihood_24 : decode cX8_noLikelihood 24 = .ok (.iconst 0, 1) := by decide +kernel
theorem dX8_noLikelihood_25 : decode cX8_noLikelihood 25 = .ok (.ireturn, 1) := by decide +kernel
abbrev cX8_reduce : ByteArray := prog_10_method_23_code
def yX8_reduce : MethodName := ⟨"ChainDeskModel", "reduce", "(I)V"⟩
def wX8_reduce : List Cond := .code yX8_reduce cX8_reduce 2 (Option.none : Option Jvm.ClassFile.FieldType) :: WG
theorem dX8_reduce_0 : decode cX8_reduce 0 = .ok (.aload_n 0, 1) := by decide +kernel
theorem dX8_reduce_1 : decode cX8_reduce 1 = .ok (.sipush 946, 3) := by decide +kernel
theorem dX8_reduce_4 : decode cX8_reduce 4 = .ok (.bipush 22, 2) := by decide +kernel
theorem dX8_reduce_6 : decode cX8_reduce 6 = .ok (.iload_n 1, 1) := by decide +kernel
theorem dX8_reduce_7 : decode cX8_reduce 7 = .ok (.imul, 1) := by decide +kernel
theorem dX8_reduce_8 : decode cX8_reduce 8 = .ok (.invokevirtual 117, 3) := by decide +kernel
theorem dX8_reduce_11 : decode cX8_reduce 11 = .ok (.aload_n 0, 1) := by decide +kernel
theorem dX8_reduce_12 : decode cX8_reduce 12 = .ok (.sipush 968, 3) := by decide +kernel
theorem dX8_reduce_15 : decode cX8_reduce 15 = .ok (.sipush 880, 3) := by decide +kernel
theorem dX8_reduce_18 : decode cX8_reduce 18 = .ok (.invokevirtual 117, 3) := by decide +kernel
theorem dX8_reduce_21 : decode cX8_reduce 21 = .ok (.aload_n 0, 1) := by decide +kernel
theorem dX8_reduce_22 : decode cX8_reduce 22 = .ok (.sipush 946, 3) := by decide +kernel
theorem dX8_reduce_25 : decode cX8_reduce 25 = .ok (.invokevirtual 121, 3) := by decide +kernel
theorem dX8_reduce_28 : decode cX8_reduce 28 = .ok (.ifCond .ne 36, 3) := by decide +kernel
theorem dX8_reduce_31 : decode cX8_reduce 31 = .ok (.aload_n 0, 1) := by decide +kernel
theorem dX8_reduce_32 : decode cX8_reduce 32 = .ok (.sipush 968, 3) := by decide +kernel
theorem dX8_reduce_35 : decode cX8_reduce 35 = .ok (.sipush 946, 3) := by decide +kernel
theorem dX8_reduce_38 : decode cX8_reduce 38 = .ok (.invokevirtual 124, 3) := by decide +kernel
theorem dX8_reduce_41 : decode cX8_reduce 41 = .ok (.aload_n 0, 1) := by decide +kernel
theorem dX8_reduce_42 : decode cX8_reduce 42 = .ok (.sipush 968, 3) := by decide +kernel
theorem dX8_reduce_45 : decode cX8_reduce 45 = .ok (.sipush 946, 3) := by decide +kernel
theorem dX8_reduce_48 : decode cX8_reduce 48 = .ok (.invokevirtual 117, 3) := by decide +kernel
theorem dX8_reduce_51 : decode cX8_reduce 51 = .ok (.aload_n 0, 1) := by decide +kernel
theorem dX8_reduce_52 : decode cX8_reduce 52 = .ok (.sipush 946, 3) := by decide +kernel
theorem dX8_reduce_55 : decode cX8_reduce 55 = .ok (.sipush 1012, 3) := by decide +kernel
theorem dX8_reduce_58 : decode cX8_reduce 58 = .ok (.invokevirtual 117, 3) := by decide +kernel
theorem dX8_reduce_61 : decode cX8_reduce 61 = .ok (.goto (-40), 3) := by decide +kernel
theorem dX8_reduce_64 : decode cX8_reduce 64 = .ok (.aload_n 0, 1) := by decide +kernel
theorem dX8_reduce_65 : decode cX8_reduce 65 = .ok (.bipush 22, 2) := by decide +kernel
theorem dX8_reduce_67 : decode cX8_reduce 67 = .ok (.iload_n 1, 1) := by decide +kernel
theorem dX8_reduce_68 : decode cX8_reduce 68 = .ok (.imul, 1) := by decide +kernel
theorem dX8_reduce_69 : decode cX8_reduce 69 = .ok (.sipush 968, 3) := by decide +kernel
theorem dX8_reduce_72 : decode cX8_reduce 72 = .ok (.invokevirtual 124, 3) := by decide +kernel
theorem dX8_reduce_75 : decode cX8_reduce 75 = .ok (.aload_n 0, 1) := by decide +kernel
theorem dX8_reduce_76 : decode cX8_reduce 76 = .ok (.sipush 902, 3) := by decide +kernel
theorem dX8_reduce_79 : decode cX8_reduce 79 = .ok (.sipush 990, 3) := by decide +kernel
theorem dX8_reduce_82 : decode cX8_reduce 82 = .ok (.invokevirtual 117, 3) := by decide +kernel
theorem dX8_reduce_85 : decode cX8_reduce 85 = .ok (.aload_n 0, 1) := by decide +kernel
theorem dX8_reduce_86 : decode cX8_reduce 86 = .ok (.sipush 880, 3) := by decide +kernel
theorem dX8_reduce_89 : decode cX8_reduce 89 = .ok (.sipush 968, 3) := by decide +kernel
theorem dX8_reduce_92 : decode cX8_reduce 92 = .ok (.invokevirtual 124, 3) := by decide +kernel
theorem dX8_reduce_95 : decode cX8_reduce 95 = .ok (.aload_n 0, 1) := by decide +kernel
theorem dX8_reduce_96 : decode cX8_reduce 96 = .ok (.sipush 924, 3) := by decide +kernel
theorem dX8_reduce_99 : decode cX8_reduce 99 = .ok (.sipush 990, 3) := by decide +kernel
theorem dX8_reduce_102 : decode cX8_reduce 102 = .ok (.invokevirtual 117, 3) := by decide +kernel
theorem dX8_reduce_105 : decode cX8_reduce 105 = .ok (.return_, 1) := by decide +kernel
abbrev cX8_copy : ByteArray := prog_10_method_19_code
def yX8_copy : MethodName := ⟨"ChainDeskModel", "copy", "(II)V"⟩
def wX8_copy : List Cond := .code yX8_copy cX8_copy 4 (Option.none : Option Jvm.ClassFile.FieldType) :: WG
theorem dX8_copy_0 : decode cX8_copy 0 = .ok (.iconst 0, 1) := by decide +kernel
theorem dX8_copy_1 : decode cX8_copy 1 = .ok (.istore_n 3, 1) := by decide +kernel
theorem dX8_copy_2 : decode cX8_copy 2 = .ok (.iload_n 3, 1) := by decide +kernel
theorem dX8_copy_3 : decode cX8_copy 3 = .ok (.bipush 22, 2) := by decide +kernel
theorem dX8_copy_5 : decode cX8_copy 5 = .ok (.if_icmp .ge 25, 3) := by decide +kernel
theorem dX8_copy_8 : decode cX8_copy 8 = .ok (.aload_n 0, 1) := by decide +kernel
theorem dX8_copy_9 : decode cX8_copy 9 = .ok (.getfield 32, 3) := by decide +kernel
theorem dX8_copy_12 : decode cX8_copy 12 = .ok (.iload_n 1, 1) := by decide +kernel
theorem dX8_copy_13 : decode cX8_copy 13 = .ok (.iload_n 3, 1) := by decide +kernel
theorem dX8_copy_14 : decode cX8_copy 14 = .ok (.iadd, 1) := by decide +kernel
theorem dX8_copy_15 : decode cX8_copy 15 = .ok (.aload_n 0, 1) := by decide +kernel
theorem dX8_copy_16 : decode cX8_copy 16 = .ok (.getfield 32, 3) := by decide +kernel
theorem dX8_copy_19 : decode cX8_copy 19 = .ok (.iload_n 2, 1) := by decide +kernel
theorem dX8_copy_20 : decode cX8_copy 20 = .ok (.iload_n 3, 1) := by decide +kernel
theorem dX8_copy_21 : decode cX8_copy 21 = .ok (.iadd, 1) := by decide +kernel
theorem dX8_copy_22 : decode cX8_copy 22 = .ok (.iaload, 1) := by decide +kernel
theorem dX8_copy_23 : decode cX8_copy 23 = .ok (.iastore, 1) := by decide +kernel
theorem dX8_copy_24 : decode cX8_copy 24 = .ok (.iinc 3 1, 3) := by decide +kernel
theorem dX8_copy_27 : decode cX8_copy 27 = .ok (.goto (-25), 3) := by decide +kernel
theorem dX8_copy_30 : decode cX8_copy 30 = .ok (.return_, 1) := by decide +kernel
abbrev cX8_isZero : ByteArray := prog_10_method_20_code
def yX8_isZero : MethodName := ⟨"ChainDeskModel", "isZero", "(I)Z"⟩
def wX8_isZero : List Cond := .code yX8_isZero cX8_isZero 4 (Option.some Jvm.ClassFile.FieldType.boolean) :: WG
theorem dX8_isZero_0 : decode cX8_isZero 0 = .ok (.iconst 1, 1) := by decide +kernel
theorem dX8_isZero_1 : decode cX8_isZero 1 = .ok (.istore_n 2, 1) := by decide +kernel
theorem dX8_isZero_2 : decode cX8_isZero 2 = .ok (.iconst 0, 1) := by decide +kernel
theorem dX8_isZero_3 : decode cX8_isZero 3 = .ok (.istore_n 3, 1) := by decide +kernel
theorem dX8_isZero_4 : decode cX8_isZero 4 = .ok (.iload_n 3, 1) := by decide +kernel
theorem dX8_isZero_5 : decode cX8_isZero 5 = .ok (.bipush 22, 2) := by decide +kernel
theorem dX8_isZero_7 : decode cX8_isZero 7 = .ok (.if_icmp .ge 30, 3) := by decide +kernel
theorem dX8_isZero_10 : decode cX8_isZero 10 = .ok (.iload_n 2, 1) := by decide +kernel
theorem dX8_isZero_11 : decode cX8_isZero 11 = .ok (.ifCond .eq 26, 3) := by decide +kernel
theorem dX8_isZero_14 : decode cX8_isZero 14 = .ok (.aload_n 0, 1) := by decide +kernel
theorem dX8_isZero_15 : decode cX8_isZero 15 = .ok (.getfield 32, 3) := by decide +kernel
theorem dX8_isZero_18 : decode cX8_isZero 18 = .ok (.iload_n 1, 1) := by decide +kernel
theorem dX8_isZero_19 : decode cX8_isZero 19 = .ok (.iload_n 3, 1) := by decide +kernel
theorem dX8_isZero_20 : decode cX8_isZero 20 = .ok (.iadd, 1) := by decide +kernel
theorem dX8_isZero_21 : decode cX8_isZero 21 = .ok (.iaload, 1) := by decide +kernel
theorem dX8_isZero_22 : decode cX8_isZero 22 = .ok (.ifCond .ne 7, 3) := by decide +kernel
theorem dX8_isZero_25 : decode cX8_isZero 25 = .ok (.iconst 1, 1) := by decide +kernel
theorem dX8_isZero_26 : decode cX8_isZero 26 = .ok (.goto 4, 3) := by decide +kernel
theorem dX8_isZero_29 : decode cX8_isZero 29 = .ok (.iconst 0, 1) := by decide +kernel
theorem dX8_isZero_30 : decode cX8_isZero 30 = .ok (.istore_n 2, 1) := by decide +kernel
theorem dX8_isZero_31 : decode cX8_isZero 31 = .ok (.iinc 3 1, 3) := by decide +kernel
theorem dX8_isZero_34 : decode cX8_isZero 34 = .ok (.goto (-30), 3) := by decide +kernel
theorem dX8_isZero_37 : decode cX8_isZero 37 = .ok (.iload_n 2, 1) := by decide +kernel
theorem dX8_isZero_38 : decode cX8_isZero 38 = .ok (.ireturn, 1) := by decide +kernel
abbrev cX8_divide : ByteArray := prog_10_method_22_code
def yX8_divide : MethodName := ⟨"ChainDeskModel", "divide", "(II)V"⟩
def wX8_divide : List Cond := .code yX8_divide cX8_divide 8 (Option.none : Option Jvm.ClassFile.FieldType) :: WG
theorem dX8_divide_0 : decode cX8_divide 0 = .ok (.aload_n 0, 1) := by decide +kernel
theorem dX8_divide_1 : decode cX8_divide 1 = .ok (.sipush 990, 3) := by decide +kernel
theorem dX8_divide_4 : decode cX8_divide 4 = .ok (.lconst 0, 1) := by decide +kernel
theorem dX8_divide_5 : decode cX8_divide 5 = .ok (.invokevirtual 96, 3) := by decide +kernel
theorem dX8_divide_8 : decode cX8_divide 8 = .ok (.aload_n 0, 1) := by decide +kernel
theorem dX8_divide_9 : decode cX8_divide 9 = .ok (.sipush 1012, 3) := by decide +kernel
theorem dX8_divide_12 : decode cX8_divide 12 = .ok (.lconst 0, 1) := by decide +kernel
theorem dX8_divide_13 : decode cX8_divide 13 = .ok (.invokevirtual 96, 3) := by decide +kernel
theorem dX8_divide_16 : decode cX8_divide 16 = .ok (.sipush 527, 3) := by decide +kernel
theorem dX8_divide_19 : decode cX8_divide 19 = .ok (.istore_n 3, 1) := by decide +kernel
theorem dX8_divide_20 : decode cX8_divide 20 = .ok (.iload_n 3, 1) := by decide +kernel
theorem dX8_divide_21 : decode cX8_divide 21 = .ok (.ifCond .lt 187, 3) := by decide +kernel
theorem dX8_divide_24 : decode cX8_divide 24 = .ok (.aload_n 0, 1) := by decide +kernel
theorem dX8_divide_25 : decode cX8_divide 25 = .ok (.getfield 32, 3) := by decide +kernel
theorem dX8_divide_28 : decode cX8_divide 28 = .ok (.iload_n 1, 1) := by decide +kernel
theorem dX8_divide_29 : decode cX8_divide 29 = .ok (.iload_n 3, 1) := by decide +kernel
theorem dX8_divide_30 : decode cX8_divide 30 = .ok (.bipush 24, 2) := by decide +kernel
theorem dX8_divide_32 : decode cX8_divide 32 = .ok (.idiv, 1) := by decide +kernel
theorem dX8_divide_33 : decode cX8_divide 33 = .ok (.iadd, 1) := by decide +kernel
theorem dX8_divide_34 : decode cX8_divide 34 = .ok (.iaload, 1) := by decide +kernel
theorem dX8_divide_35 : decode cX8_divide 35 = .ok (.iload_n 3, 1) := by decide +kernel
theorem dX8_divide_36 : decode cX8_divide 36 = .ok (.bipush 24, 2) := by decide +kernel
theorem dX8_divide_38 : decode cX8_divide 38 = .ok (.irem, 1) := by decide +kernel
theorem dX8_divide_39 : decode cX8_divide 39 = .ok (.ishr, 1) := by decide +kernel
theorem dX8_divide_40 : decode cX8_divide 40 = .ok (.iconst 1, 1) := by decide +kernel
theorem dX8_divide_41 : decode cX8_divide 41 = .ok (.iand, 1) := by decide +kernel
theorem dX8_divide_42 : decode cX8_divide 42 = .ok (.istore 4, 2) := by decide +kernel
theorem dX8_divide_44 : decode cX8_divide 44 = .ok (.iconst 0, 1) := by decide +kernel
theorem dX8_divide_45 : decode cX8_divide 45 = .ok (.istore 5, 2) := by decide +kernel
theorem dX8_divide_47 : decode cX8_divide 47 = .ok (.iload 5, 2) := by decide +kernel
theorem dX8_divide_49 : decode cX8_divide 49 = .ok (.bipush 22, 2) := by decide +kernel
theorem dX8_divide_51 : decode cX8_divide 51 = .ok (.if_icmp .ge 50, 3) := by decide +kernel
theorem dX8_divide_54 : decode cX8_divide 54 = .ok (.aload_n 0, 1) := by decide +kernel
theorem dX8_divide_55 : decode cX8_divide 55 = .ok (.getfield 32, 3) := by decide +kernel
theorem dX8_divide_58 : decode cX8_divide 58 = .ok (.sipush 1012, 3) := by decide +kernel
theorem dX8_divide_61 : decode cX8_divide 61 = .ok (.iload 5, 2) := by decide +kernel
theorem dX8_divide_63 : decode cX8_divide 63 = .ok (.iadd, 1) := by decide +kernel
theorem dX8_divide_64 : decode cX8_divide 64 = .ok (.iaload, 1) := by decide +kernel
theorem dX8_divide_65 : decode cX8_divide 65 = .ok (.iconst 1, 1) := by decide +kernel
theorem dX8_divide_66 : decode cX8_divide 66 = .ok (.ishl, 1) := by decide +kernel
theorem dX8_divide_67 : decode cX8_divide 67 = .ok (.iload 4, 2) := by decide +kernel
theorem dX8_divide_69 : decode cX8_divide 69 = .ok (.ior, 1) := by decide +kernel
theorem dX8_divide_70 : decode cX8_divide 70 = .ok (.istore 6, 2) := by decide +kernel
theorem dX8_divide_72 : decode cX8_divide 72 = .ok (.aload_n 0, 1) := by decide +kernel
theorem dX8_divide_73 : decode cX8_divide 73 = .ok (.getfield 32, 3) := by decide +kernel
theorem dX8_divide_76 : decode cX8_divide 76 = .ok (.sipush 1012, 3) := by decide +kernel
theorem dX8_divide_79 : decode cX8_divide 79 = .ok (.iload 5, 2) := by decide +kernel
theorem dX8_divide_81 : decode cX8_divide 81 = .ok (.iadd, 1) := by decide +kernel
theorem dX8_divide_82 : decode cX8_divide 82 = .ok (.iload 6, 2) := by decide +kernel
theorem dX8_divide_84 : decode cX8_divide 84 = .ok (.ldc 112, 2) := by decide +kernel
theorem dX8_divide_86 : decode cX8_divide 86 = .ok (.iand, 1) := by decide +kernel
theorem dX8_divide_87 : decode cX8_divide 87 = .ok (.iastore, 1) := by decide +kernel
theorem dX8_divide_88 : decode cX8_divide 88 = .ok (.iload 6, 2) := by decide +kernel
theorem dX8_divide_90 : decode cX8_divide 90 = .ok (.bipush 24, 2) := by decide +kernel
theorem dX8_divide_92 : decode cX8_divide 92 = .ok (.ishr, 1) := by decide +kernel
theorem dX8_divide_93 : decode cX8_divide 93 = .ok (.istore 4, 2) := by decide +kernel
theorem dX8_divide_95 : decode cX8_divide 95 = .ok (.iinc 5 1, 3) := by decide +kernel
theorem dX8_divide_98 : decode cX8_divide 98 = .ok (.goto (-51), 3) := by decide +kernel
theorem dX8_divide_101 : decode cX8_divide 101 = .ok (.aload_n 0, 1) := by decide +kernel
theorem dX8_divide_102 : decode cX8_divide 102 = .ok (.sipush 1012, 3) := by decide +kernel
theorem dX8_divide_105 : decode cX8_divide 105 = .ok (.iload_n 2, 1) := by decide +kernel
theorem dX8_divide_106 : decode cX8_divide 106 = .ok (.invokevirtual 113, 3) := by decide +kernel
theorem dX8_divide_109 : decode cX8_divide 109 = .ok (.ifCond .lt 93, 3) := by decide +kernel
theorem dX8_divide_112 : decode cX8_divide 112 = .ok (.iconst 0, 1) := by decide +kernel
theorem dX8_divide_113 : decode cX8_divide 113 = .ok (.istore 5, 2) := by decide +kernel
theorem dX8_divide_115 : decode cX8_divide 115 = .ok (.iconst 0, 1) := by decide +kernel
theorem dX8_divide_116 : decode cX8_divide 116 = .ok (.istore 6, 2) := by decide +kernel
theorem dX8_divide_118 : decode cX8_divide 118 = .ok (.iload 6, 2) := by decide +kernel
theorem dX8_divide_120 : decode cX8_divide 120 = .ok (.bipush 22, 2) := by decide +kernel
theorem dX8_divide_122 : decode cX8_divide 122 = .ok (.if_icmp .ge 58, 3) := by decide +kernel
theorem dX8_divide_125 : decode cX8_divide 125 = .ok (.aload_n 0, 1) := by decide +kernel
theorem dX8_divide_126 : decode cX8_divide 126 = .ok (.getfield 32, 3) := by decide +kernel
theorem dX8_divide_129 : decode cX8_divide 129 = .ok (.sipush 1012, 3) := by decide +kernel
theorem dX8_divide_132 : decode cX8_divide 132 = .ok (.iload 6, 2) := by decide +kernel
theorem dX8_divide_134 : decode cX8_divide 134 = .ok (.iadd, 1) := by decide +kernel
theorem dX8_divide_135 : decode cX8_divide 135 = .ok (.iaload, 1) := by decide +kernel
theorem dX8_divide_136 : decode cX8_divide 136 = .ok (.aload_n 0, 1) := by decide +kernel
theorem dX8_divide_137 : decode cX8_divide 137 = .ok (.getfield 32, 3) := by decide +kernel
theorem dX8_divide_140 : decode cX8_divide 140 = .ok (.iload_n 2, 1) := by decide +kernel
theorem dX8_divide_141 : decode cX8_divide 141 = .ok (.iload 6, 2) := by decide +kernel
theorem dX8_divide_143 : decode cX8_divide 143 = .ok (.iadd, 1) := by decide +kernel
theorem dX8_divide_144 : decode cX8_divide 144 = .ok (.iaload, 1) := by decide +kernel
theorem dX8_divide_145 : decode cX8_divide 145 = .ok (.isub, 1) := by decide +kernel
theorem dX8_divide_146 : decode cX8_divide 146 = .ok (.iload 5, 2) := by decide +kernel
theorem dX8_divide_148 : decode cX8_divide 148 = .ok (.iadd, 1) := by decide +kernel
theorem dX8_divide_149 : decode cX8_divide 149 = .ok (.istore 7, 2) := by decide +kernel
theorem dX8_divide_151 : decode cX8_divide 151 = .ok (.aload_n 0, 1) := by decide +kernel
theorem dX8_divide_152 : decode cX8_divide 152 = .ok (.getfield 32, 3) := by decide +kernel
theorem dX8_divide_155 : decode cX8_divide 155 = .ok (.sipush 1012, 3) := by decide +kernel
theorem dX8_divide_158 : decode cX8_divide 158 = .ok (.iload 6, 2) := by decide +kernel
theorem dX8_divide_160 : decode cX8_divide 160 = .ok (.iadd, 1) := by decide +kernel
theorem dX8_divide_161 : decode cX8_divide 161 = .ok (.iload 7, 2) := by decide +kernel
theorem dX8_divide_163 : decode cX8_divide 163 = .ok (.ldc 112, 2) := by decide +kernel
theorem dX8_divide_165 : decode cX8_divide 165 = .ok (.iand, 1) := by decide +kernel
theorem dX8_divide_166 : decode cX8_divide 166 = .ok (.iastore, 1) := by decide +kernel
theorem dX8_divide_167 : decode cX8_divide 167 = .ok (.iload 7, 2) := by decide +kernel
theorem dX8_divide_169 : decode cX8_divide 169 = .ok (.bipush 24, 2) := by decide +kernel
theorem dX8_divide_171 : decode cX8_divide 171 = .ok (.ishr, 1) := by decide +kernel
theorem dX8_divide_172 : decode cX8_divide 172 = .ok (.istore 5, 2) := by decide +kernel
theorem dX8_divide_174 : decode cX8_divide 174 = .ok (.iinc 6 1, 3) := by decide +kernel
theorem dX8_divide_177 : decode cX8_divide 177 = .ok (.goto (-59), 3) := by decide +kernel
theorem dX8_divide_180 : decode cX8_divide 180 = .ok (.aload_n 0, 1) := by decide +kernel
theorem dX8_divide_181 : decode cX8_divide 181 = .ok (.getfield 32, 3) := by decide +kernel
theorem dX8_divide_184 : decode cX8_divide 184 = .ok (.sipush 990, 3) := by decide +kernel
theorem dX8_divide_187 : decode cX8_divide 187 = .ok (.iload_n 3, 1) := by decide +kernel
theorem dX8_divide_188 : decode cX8_divide 188 = .ok (.bipush 24, 2) := by decide +kernel
theorem dX8_divide_190 : decode cX8_divide 190 = .ok (.idiv, 1) := by decide +kernel
theorem dX8_divide_191 : decode cX8_divide 191 = .ok (.iadd, 1) := by decide +kernel
theorem dX8_divide_192 : decode cX8_divide 192 = .ok (.dup2, 1) := by decide +kernel
theorem dX8_divide_193 : decode cX8_divide 193 = .ok (.iaload, 1) := by decide +kernel
theorem dX8_divide_194 : decode cX8_divide 194 = .ok (.iconst 1, 1) := by decide +kernel
theorem dX8_divide_195 : decode cX8_divide 195 = .ok (.iload_n 3, 1) := by decide +kernel
theorem dX8_divide_196 : decode cX8_divide 196 = .ok (.bipush 24, 2) := by decide +kernel
theorem dX8_divide_198 : decode cX8_divide 198 = .ok (.irem, 1) := by decide +kernel
theorem dX8_divide_199 : decode cX8_divide 199 = .ok (.ishl, 1) := by decide +kernel
theorem dX8_divide_200 : decode cX8_divide 200 = .ok (.ior, 1) := by decide +kernel
theorem dX8_divide_201 : decode cX8_divide 201 = .ok (.iastore, 1) := by decide +kernel
theorem dX8_divide_202 : decode cX8_divide 202 = .ok (.iinc 3 (-1), 3) := by decide +kernel
theorem dX8_divide_205 : decode cX8_divide 205 = .ok (.goto (-185), 3) := by decide +kernel
theorem dX8_divide_208 : decode cX8_divide 208 = .ok (.return_, 1) := by decide +kernel
abbrev cX8_order : ByteArray := prog_10_method_21_code
def yX8_order : MethodName := ⟨"ChainDeskModel", "order", "(II)I"⟩
def wX8_order : List Cond := .code yX8_order cX8_order 4 (Option.some Jvm.ClassFile.FieldType.int) :: WG
theorem dX8_order_0 : decode cX8_order 0 = .ok (.bipush 21, 2) := by decide +kernel
theorem dX8_order_2 : decode cX8_order 2 = .ok (.istore_n 3, 1) := by decide +kernel
theorem dX8_order_3 : decode cX8_order 3 = .ok (.iload_n 3, 1) := by decide +kernel
theorem dX8_order_4 : decode cX8_order 4 = .ok (.ifCond .le 28, 3) := by decide +kernel
theorem dX8_order_7 : decode cX8_order 7 = .ok (.aload_n 0, 1) := by decide +kernel
theorem dX8_order_8 : decode cX8_order 8 = .ok (.getfield 32, 3) := by decide +kernel
theorem dX8_order_11 : decode cX8_order 11 = .ok (.iload_n 1, 1) := by decide +kernel
theorem dX8_order_12 : decode cX8_order 12 = .ok (.iload_n 3, 1) := by decide +kernel
theorem dX8_order_13 : decode cX8_order 13 = .ok (.iadd, 1) := by decide +kernel
theorem dX8_order_14 : decode cX8_order 14 = .ok (.iaload, 1) := by decide +kernel
theorem dX8_order_15 : decode cX8_order 15 = .ok (.aload_n 0, 1) := by decide +kernel
theorem dX8_order_16 : decode cX8_order 16 = .ok (.getfield 32, 3) := by decide +kernel
theorem dX8_order_19 : decode cX8_order 19 = .ok (.iload_n 2, 1) := by decide +kernel
theorem dX8_order_20 : decode cX8_order 20 = .ok (.iload_n 3, 1) := by decide +kernel
theorem dX8_order_21 : decode cX8_order 21 = .ok (.iadd, 1) := by decide +kernel
theorem dX8_order_22 : decode cX8_order 22 = .ok (.iaload, 1) := by decide +kernel
theorem dX8_order_23 : decode cX8_order 23 = .ok (.if_icmp .ne 9, 3) := by decide +kernel
theorem dX8_order_26 : decode cX8_order 26 = .ok (.iinc 3 (-1), 3) := by decide +kernel
theorem dX8_order_29 : decode cX8_order 29 = .ok (.goto (-26), 3) := by decide +kernel
theorem dX8_order_32 : decode cX8_order 32 = .ok (.aload_n 0, 1) := by decide +kernel
theorem dX8_order_33 : decode cX8_order 33 = .ok (.getfield 32, 3) := by decide +kernel
theorem dX8_order_36 : decode cX8_order 36 = .ok (.iload_n 1, 1) := by decide +kernel
theorem dX8_order_37 : decode cX8_order 37 = .ok (.iload_n 3, 1) := by decide +kernel
theorem dX8_order_38 : decode cX8_order 38 = .ok (.iadd, 1) := by decide +kernel
theorem dX8_order_39 : decode cX8_order 39 = .ok (.iaload, 1) := by decide +kernel
theorem dX8_order_40 : decode cX8_order 40 = .ok (.aload_n 0, 1) := by decide +kernel
theorem dX8_order_41 : decode cX8_order 41 = .ok (.getfield 32, 3) := by decide +kernel
theorem dX8_order_44 : decode cX8_order 44 = .ok (.iload_n 2, 1) := by decide +kernel
theorem dX8_order_45 : decode cX8_order 45 = .ok (.iload_n 3, 1) := by decide +kernel
theorem dX8_order_46 : decode cX8_order 46 = .ok (.iadd, 1) := by decide +kernel
theorem dX8_order_47 : decode cX8_order 47 = .ok (.iaload, 1) := by decide +kernel
theorem dX8_order_48 : decode cX8_order 48 = .ok (.if_icmp .le 7, 3) := by decide +kernel
theorem dX8_order_51 : decode cX8_order 51 = .ok (.iconst 1, 1) := by decide +kernel
theorem dX8_order_52 : decode cX8_order 52 = .ok (.goto 27, 3) := by decide +kernel
theorem dX8_order_55 : decode cX8_order 55 = .ok (.aload_n 0, 1) := by decide +kernel
theorem dX8_order_56 : decode cX8_order 56 = .ok (.getfield 32, 3) := by decide +kernel
theorem dX8_order_59 : decode cX8_order 59 = .ok (.iload_n 1, 1) := by decide +kernel
theorem dX8_order_60 : decode cX8_order 60 = .ok (.iload_n 3, 1) := by decide +kernel
theorem dX8_order_61 : decode cX8_order 61 = .ok (.iadd, 1) := by decide +kernel
theorem dX8_order_62 : decode cX8_order 62 = .ok (.iaload, 1) := by decide +kernel
theorem dX8_order_63 : decode cX8_order 63 = .ok (.aload_n 0, 1) := by decide +kernel
theorem dX8_order_64 : decode cX8_order 64 = .ok (.getfield 32, 3) := by decide +kernel
theorem dX8_order_67 : decode cX8_order 67 = .ok (.iload_n 2, 1) := by decide +kernel
theorem dX8_order_68 : decode cX8_order 68 = .ok (.iload_n 3, 1) := by decide +kernel
theorem dX8_order_69 : decode cX8_order 69 = .ok (.iadd, 1) := by decide +kernel
theorem dX8_order_70 : decode cX8_order 70 = .ok (.iaload, 1) := by decide +kernel
theorem dX8_order_71 : decode cX8_order 71 = .ok (.if_icmp .ge 7, 3) := by decide +kernel
theorem dX8_order_74 : decode cX8_order 74 = .ok (.iconst (-1), 1) := by decide +kernel
theorem dX8_order_75 : decode cX8_order 75 = .ok (.goto 4, 3) := by decide +kernel
theorem dX8_order_78 : decode cX8_order 78 = .ok (.iconst 0, 1) := by decide +kernel
theorem dX8_order_79 : decode cX8_order 79 = .ok (.ireturn, 1) := by decide +kernel
abbrev cX8_figures : ByteArray := prog_10_method_24_code
def yX8_figures : MethodName := ⟨"ChainDeskModel", "figures", "(II)I"⟩
def wX8_figures : List Cond := .code yX8_figures cX8_figures 8 (Option.some Jvm.ClassFile.FieldType.int) :: WG
theorem dX8_figures_0 : decode cX8_figures 0 = .ok (.aload_n 0, 1) := by decide +kernel
theorem dX8_figures_1 : decode cX8_figures 1 = .ok (.sipush 946, 3) := by decide +kernel
theorem dX8_figures_4 : decode cX8_figures 4 = .ok (.iload_n 1, 1) := by decide +kernel
theorem dX8_figures_5 : decode cX8_figures 5 = .ok (.invokevirtual 117, 3) := by decide +kernel
theorem dX8_figures_8 : decode cX8_figures 8 = .ok (.iconst 0, 1) := by decide +kernel
theorem dX8_figures_9 : decode cX8_figures 9 = .ok (.istore_n 3, 1) := by decide +kernel
theorem dX8_figures_10 : decode cX8_figures 10 = .ok (.iconst 1, 1) := by decide +kernel
theorem dX8_figures_11 : decode cX8_figures 11 = .ok (.istore 4, 2) := by decide +kernel
theorem dX8_figures_13 : decode cX8_figures 13 = .ok (.iload 4, 2) := by decide +kernel
theorem dX8_figures_15 : decode cX8_figures 15 = .ok (.ifCond .eq 104, 3) := by decide +kernel
theorem dX8_figures_18 : decode cX8_figures 18 = .ok (.lconst 0, 1) := by decide +kernel
theorem dX8_figures_19 : decode cX8_figures 19 = .ok (.lstore 5, 2) := by decide +kernel
theorem dX8_figures_21 : decode cX8_figures 21 = .ok (.bipush 21, 2) := by decide +kernel
theorem dX8_figures_23 : decode cX8_figures 23 = .ok (.istore 7, 2) := by decide +kernel
theorem dX8_figures_25 : decode cX8_figures 25 = .ok (.iload 7, 2) := by decide +kernel
theorem dX8_figures_27 : decode cX8_figures 27 = .ok (.ifCond .lt 55, 3) := by decide +kernel
theorem dX8_figures_30 : decode cX8_figures 30 = .ok (.lload 5, 2) := by decide +kernel
theorem dX8_figures_32 : decode cX8_figures 32 = .ok (.bipush 24, 2) := by decide +kernel
theorem dX8_figures_34 : decode cX8_figures 34 = .ok (.lshl, 1) := by decide +kernel
theorem dX8_figures_35 : decode cX8_figures 35 = .ok (.aload_n 0, 1) := by decide +kernel
theorem dX8_figures_36 : decode cX8_figures 36 = .ok (.getfield 32, 3) := by decide +kernel
theorem dX8_figures_39 : decode cX8_figures 39 = .ok (.sipush 946, 3) := by decide +kernel
theorem dX8_figures_42 : decode cX8_figures 42 = .ok (.iload 7, 2) := by decide +kernel
theorem dX8_figures_44 : decode cX8_figures 44 = .ok (.iadd, 1) := by decide +kernel
theorem dX8_figures_45 : decode cX8_figures 45 = .ok (.iaload, 1) := by decide +kernel
theorem dX8_figures_46 : decode cX8_figures 46 = .ok (.i2l, 1) := by decide +kernel
theorem dX8_figures_47 : decode cX8_figures 47 = .ok (.lor, 1) := by decide +kernel
theorem dX8_figures_48 : decode cX8_figures 48 = .ok (.lstore 5, 2) := by decide +kernel
theorem dX8_figures_50 : decode cX8_figures 50 = .ok (.aload_n 0, 1) := by decide +kernel
theorem dX8_figures_51 : decode cX8_figures 51 = .ok (.getfield 32, 3) := by decide +kernel
theorem dX8_figures_54 : decode cX8_figures 54 = .ok (.sipush 946, 3) := by decide +kernel
theorem dX8_figures_57 : decode cX8_figures 57 = .ok (.iload 7, 2) := by decide +kernel
theorem dX8_figures_59 : decode cX8_figures 59 = .ok (.iadd, 1) := by decide +kernel
theorem dX8_figures_60 : decode cX8_figures 60 = .ok (.lload 5, 2) := by decide +kernel
theorem dX8_figures_62 : decode cX8_figures 62 = .ok (.ldc2_w 127, 3) := by decide +kernel
theorem dX8_figures_65 : decode cX8_figures 65 = .ok (.ldiv, 1) := by decide +kernel
theorem dX8_figures_66 : decode cX8_figures 66 = .ok (.l2i, 1) := by decide +kernel
theorem dX8_figures_67 : decode cX8_figures 67 = .ok (.iastore, 1) := by decide +kernel
theorem dX8_figures_68 : decode cX8_figures 68 = .ok (.lload 5, 2) := by decide +kernel
theorem dX8_figures_70 : decode cX8_figures 70 = .ok (.ldc2_w 127, 3) := by decide +kernel
theorem dX8_figures_73 : decode cX8_figures 73 = .ok (.lrem, 1) := by decide +kernel
theorem dX8_figures_74 : decode cX8_figures 74 = .ok (.lstore 5, 2) := by decide +kernel
theorem dX8_figures_76 : decode cX8_figures 76 = .ok (.iinc 7 (-1), 3) := by decide +kernel
theorem dX8_figures_79 : decode cX8_figures 79 = .ok (.goto (-54), 3) := by decide +kernel
theorem dX8_figures_82 : decode cX8_figures 82 = .ok (.aload_n 0, 1) := by decide +kernel
theorem dX8_figures_83 : decode cX8_figures 83 = .ok (.getfield 35, 3) := by decide +kernel
theorem dX8_figures_86 : decode cX8_figures 86 = .ok (.iload_n 2, 1) := by decide +kernel
theorem dX8_figures_87 : decode cX8_figures 87 = .ok (.iload_n 3, 1) := by decide +kernel
theorem dX8_figures_88 : decode cX8_figures 88 = .ok (.iadd, 1) := by decide +kernel
theorem dX8_figures_89 : decode cX8_figures 89 = .ok (.bipush 48, 2) := by decide +kernel
theorem dX8_figures_91 : decode cX8_figures 91 = .ok (.lload 5, 2) := by decide +kernel
theorem dX8_figures_93 : decode cX8_figures 93 = .ok (.l2i, 1) := by decide +kernel
theorem dX8_figures_94 : decode cX8_figures 94 = .ok (.iadd, 1) := by decide +kernel
theorem dX8_figures_95 : decode cX8_figures 95 = .ok (.iastore, 1) := by decide +kernel
theorem dX8_figures_96 : decode cX8_figures 96 = .ok (.iinc 3 1, 3) := by decide +kernel
theorem dX8_figures_99 : decode cX8_figures 99 = .ok (.aload_n 0, 1) := by decide +kernel
theorem dX8_figures_100 : decode cX8_figures 100 = .ok (.sipush 946, 3) := by decide +kernel
theorem dX8_figures_103 : decode cX8_figures 103 = .ok (.invokevirtual 121, 3) := by decide +kernel
theorem dX8_figures_106 : decode cX8_figures 106 = .ok (.ifCond .ne 7, 3) := by decide +kernel
theorem dX8_figures_109 : decode cX8_figures 109 = .ok (.iconst 1, 1) := by decide +kernel
theorem dX8_figures_110 : decode cX8_figures 110 = .ok (.goto 4, 3) := by decide +kernel
theorem dX8_figures_113 : decode cX8_figures 113 = .ok (.iconst 0, 1) := by decide +kernel
theorem dX8_figures_114 : decode cX8_figures 114 = .ok (.istore 4, 2) := by decide +kernel
theorem dX8_figures_116 : decode cX8_figures 116 = .ok (.goto (-103), 3) := by decide +kernel
theorem dX8_figures_119 : decode cX8_figures 119 = .ok (.iconst 0, 1) := by decide +kernel
theorem dX8_figures_120 : decode cX8_figures 120 = .ok (.istore 5, 2) := by decide +kernel
theorem dX8_figures_122 : decode cX8_figures 122 = .ok (.iconst 2, 1) := by decide +kernel
theorem dX8_figures_123 : decode cX8_figures 123 = .ok (.iload 5, 2) := by decide +kernel
theorem dX8_figures_125 : decode cX8_figures 125 = .ok (.imul, 1) := by decide +kernel
theorem dX8_figures_126 : decode cX8_figures 126 = .ok (.iload_n 3, 1) := by decide +kernel
theorem dX8_figures_127 : decode cX8_figures 127 = .ok (.iconst 1, 1) := by decide +kernel
theorem dX8_figures_128 : decode cX8_figures 128 = .ok (.isub, 1) := by decide +kernel
theorem dX8_figures_129 : decode cX8_figures 129 = .ok (.if_icmp .ge 57, 3) := by decide +kernel
theorem dX8_figures_132 : decode cX8_figures 132 = .ok (.aload_n 0, 1) := by decide +kernel
theorem dX8_figures_133 : decode cX8_figures 133 = .ok (.getfield 35, 3) := by decide +kernel
theorem dX8_figures_136 : decode cX8_figures 136 = .ok (.iload_n 2, 1) := by decide +kernel
theorem dX8_figures_137 : decode cX8_figures 137 = .ok (.iload 5, 2) := by decide +kernel
theorem dX8_figures_139 : decode cX8_figures 139 = .ok (.iadd, 1) := by decide +kernel
theorem dX8_figures_140 : decode cX8_figures 140 = .ok (.iaload, 1) := by decide +kernel
theorem dX8_figures_141 : decode cX8_figures 141 = .ok (.istore 6, 2) := by decide +kernel
theorem dX8_figures_143 : decode cX8_figures 143 = .ok (.aload_n 0, 1) := by decide +kernel
theorem dX8_figures_144 : decode cX8_figures 144 = .ok (.getfield 35, 3) := by decide +kernel
theorem dX8_figures_147 : decode cX8_figures 147 = .ok (.iload_n 2, 1) := by decide +kernel
theorem dX8_figures_148 : decode cX8_figures 148 = .ok (.iload 5, 2) := by decide +kernel
theorem dX8_figures_150 : decode cX8_figures 150 = .ok (.iadd, 1) := by decide +kernel
theorem dX8_figures_151 : decode cX8_figures 151 = .ok (.aload_n 0, 1) := by decide +kernel
theorem dX8_figures_152 : decode cX8_figures 152 = .ok (.getfield 35, 3) := by decide +kernel
theorem dX8_figures_155 : decode cX8_figures 155 = .ok (.iload_n 2, 1) := by decide +kernel
theorem dX8_figures_156 : decode cX8_figures 156 = .ok (.iload_n 3, 1) := by decide +kernel
theorem dX8_figures_157 : decode cX8_figures 157 = .ok (.iadd, 1) := by decide +kernel
theorem dX8_figures_158 : decode cX8_figures 158 = .ok (.iconst 1, 1) := by decide +kernel
theorem dX8_figures_159 : decode cX8_figures 159 = .ok (.isub, 1) := by decide +kernel
theorem dX8_figures_160 : decode cX8_figures 160 = .ok (.iload 5, 2) := by decide +kernel
theorem dX8_figures_162 : decode cX8_figures 162 = .ok (.isub, 1) := by decide +kernel
theorem dX8_figures_163 : decode cX8_figures 163 = .ok (.iaload, 1) := by decide +kernel
theorem dX8_figures_164 : decode cX8_figures 164 = .ok (.iastore, 1) := by decide +kernel
theorem dX8_figures_165 : decode cX8_figures 165 = .ok (.aload_n 0, 1) := by decide +kernel
theorem dX8_figures_166 : decode cX8_figures 166 = .ok (.getfield 35, 3) := by decide +kernel
theorem dX8_figures_169 : decode cX8_figures 169 = .ok (.iload_n 2, 1) := by decide +kernel
theorem dX8_figures_170 : decode cX8_figures 170 = .ok (.iload_n 3, 1) := by decide +kernel
theorem dX8_figures_171 : decode cX8_figures 171 = .ok (.iadd, 1) := by decide +kernel
theorem dX8_figures_172 : decode cX8_figures 172 = .ok (.iconst 1, 1) := by decide +kernel
theorem dX8_figures_173 : decode cX8_figures 173 = .ok (.isub, 1) := by decide +kernel
theorem dX8_figures_174 : decode cX8_figures 174 = .ok (.iload 5, 2) := by decide +kernel
theorem dX8_figures_176 : decode cX8_figures 176 = .ok (.isub, 1) := by decide +kernel
theorem dX8_figures_177 : decode cX8_figures 177 = .ok (.iload 6, 2) := by decide +kernel
theorem dX8_figures_179 : decode cX8_figures 179 = .ok (.iastore, 1) := by decide +kernel
theorem dX8_figures_180 : decode cX8_figures 180 = .ok (.iinc 5 1, 3) := by decide +kernel
theorem dX8_figures_183 : decode cX8_figures 183 = .ok (.goto (-61), 3) := by decide +kernel
theorem dX8_figures_186 : decode cX8_figures 186 = .ok (.iload_n 2, 1) := by decide +kernel
theorem dX8_figures_187 : decode cX8_figures 187 = .ok (.iload_n 3, 1) := by decide +kernel
theorem dX8_figures_188 : decode cX8_figures 188 = .ok (.iadd, 1) := by decide +kernel
theorem dX8_figures_189 : decode cX8_figures 189 = .ok (.ireturn, 1) := by decide +kernel
abbrev cX8_character : ByteArray := prog_10_method_27_code
def yX8_character : MethodName := ⟨"ChainDeskModel", "character", "(I)I"⟩
def wX8_character : List Cond := .code yX8_character cX8_character 2 (Option.some Jvm.ClassFile.FieldType.int) :: WG
theorem dX8_character_0 : decode cX8_character 0 = .ok (.aload_n 0, 1) := by decide +kernel
theorem dX8_character_1 : decode cX8_character 1 = .ok (.iconst 0, 1) := by decide +kernel
theorem dX8_character_2 : decode cX8_character 2 = .ok (.putfield 46, 3) := by decide +kernel
theorem dX8_character_5 : decode cX8_character 5 = .ok (.iload_n 1, 1) := by decide +kernel
theorem dX8_character_6 : decode cX8_character 6 = .ok (.ifCond .lt 11, 3) := by decide +kernel
theorem dX8_character_9 : decode cX8_character 9 = .ok (.iload_n 1, 1) := by decide +kernel
theorem dX8_character_10 : decode cX8_character 10 = .ok (.aload_n 0, 1) := by decide +kernel
theorem dX8_character_11 : decode cX8_character 11 = .ok (.getfield 138, 3) := by decide +kernel
theorem dX8_character_14 : decode cX8_character 14 = .ok (.if_icmp .lt 7, 3) := by decide +kernel
theorem dX8_character_17 : decode cX8_character 17 = .ok (.iconst (-1), 1) := by decide +kernel
theorem dX8_character_18 : decode cX8_character 18 = .ok (.goto 9, 3) := by decide +kernel
theorem dX8_character_21 : decode cX8_character 21 = .ok (.aload_n 0, 1) := by decide +kernel
theorem dX8_character_22 : decode cX8_character 22 = .ok (.getfield 35, 3) := by decide +kernel
theorem dX8_character_25 : decode cX8_character 25 = .ok (.iload_n 1, 1) := by decide +kernel
theorem dX8_character_26 : decode cX8_character 26 = .ok (.iaload, 1) := by decide +kernel
theorem dX8_character_27 : decode cX8_character 27 = .ok (.ireturn, 1) := by decide +kernel
abbrev cX8_compare : ByteArray := prog_10_method_28_code
def yX8_compare : MethodName := ⟨"ChainDeskModel", "compare", "(II)I"⟩
def wX8_compare : List Cond := .code yX8_compare cX8_compare 3 (Option.some Jvm.ClassFile.FieldType.int) :: WG
theorem dX8_compare_0 : decode cX8_compare 0 = .ok (.aload_n 0, 1) := by decide +kernel
theorem dX8_compare_1 : decode cX8_compare 1 = .ok (.iload_n 1, 1) := by decide +kernel
theorem dX8_compare_2 : decode cX8_compare 2 = .ok (.invokevirtual 129, 3) := by decide +kernel
theorem dX8_compare_5 : decode cX8_compare 5 = .ok (.ifCond .ne 11, 3) := by decide +kernel
theorem dX8_compare_8 : decode cX8_compare 8 = .ok (.aload_n 0, 1) := by decide +kernel
theorem dX8_compare_9 : decode cX8_compare 9 = .ok (.iload_n 2, 1) := by decide +kernel
theorem dX8_compare_10 : decode cX8_compare 10 = .ok (.invokevirtual 129, 3) := by decide +kernel
theorem dX8_compare_13 : decode cX8_compare 13 = .ok (.ifCond .eq 8, 3) := by decide +kernel
theorem dX8_compare_16 : decode cX8_compare 16 = .ok (.bipush (-2), 2) := by decide +kernel
theorem dX8_compare_18 : decode cX8_compare 18 = .ok (.goto 15, 3) := by decide +kernel
theorem dX8_compare_21 : decode cX8_compare 21 = .ok (.aload_n 0, 1) := by decide +kernel
theorem dX8_compare_22 : decode cX8_compare 22 = .ok (.bipush 22, 2) := by decide +kernel
theorem dX8_compare_24 : decode cX8_compare 24 = .ok (.iload_n 1, 1) := by decide +kernel
theorem dX8_compare_25 : decode cX8_compare 25 = .ok (.imul, 1) := by decide +kernel
theorem dX8_compare_26 : decode cX8_compare 26 = .ok (.bipush 22, 2) := by decide +kernel
theorem dX8_compare_28 : decode cX8_compare 28 = .ok (.iload_n 2, 1) := by decide +kernel
theorem dX8_compare_29 : decode cX8_compare 29 = .ok (.imul, 1) := by decide +kernel
theorem dX8_compare_30 : decode cX8_compare 30 = .ok (.invokevirtual 113, 3) := by decide +kernel
theorem dX8_compare_33 : decode cX8_compare 33 = .ok (.ireturn, 1) := by decide +kernel
abbrev cX8_billionths : ByteArray := prog_10_method_29_code
def yX8_billionths : MethodName := ⟨"ChainDeskModel", "billionths", "(I)I"⟩
def wX8_billionths : List Cond := .code yX8_billionths cX8_billionths 5 (Option.some Jvm.ClassFile.FieldType.int) :: WG
theorem dX8_billionths_0 : decode cX8_billionths 0 = .ok (.aload_n 0, 1) := by decide +kernel
theorem dX8_billionths_1 : decode cX8_billionths 1 = .ok (.iload_n 1, 1) := by decide +kernel
theorem dX8_billionths_2 : decode cX8_billionths 2 = .ok (.invokevirtual 129, 3) := by decide +kernel
theorem dX8_billionths_5 : decode cX8_billionths 5 = .ok (.ifCond .eq 5, 3) := by decide +kernel
theorem dX8_billionths_8 : decode cX8_billionths 8 = .ok (.iconst (-1), 1) := by decide +kernel
theorem dX8_billionths_9 : decode cX8_billionths 9 = .ok (.ireturn, 1) := by decide +kernel
theorem dX8_billionths_10 : decode cX8_billionths 10 = .ok (.aload_n 0, 1) := by decide +kernel
theorem dX8_billionths_11 : decode cX8_billionths 11 = .ok (.sipush 902, 3) := by decide +kernel
theorem dX8_billionths_14 : decode cX8_billionths 14 = .ok (.bipush 22, 2) := by decide +kernel
theorem dX8_billionths_16 : decode cX8_billionths 16 = .ok (.iload_n 1, 1) := by decide +kernel
theorem dX8_billionths_17 : decode cX8_billionths 17 = .ok (.imul, 1) := by decide +kernel
theorem dX8_billionths_18 : decode cX8_billionths 18 = .ok (.invokevirtual 117, 3) := by decide +kernel
theorem dX8_billionths_21 : decode cX8_billionths 21 = .ok (.lconst 0, 1) := by decide +kernel
theorem dX8_billionths_22 : decode cX8_billionths 22 = .ok (.lstore_n 2, 1) := by decide +kernel
theorem dX8_billionths_23 : decode cX8_billionths 23 = .ok (.iconst 0, 1) := by decide +kernel
theorem dX8_billionths_24 : decode cX8_billionths 24 = .ok (.istore 4, 2) := by decide +kernel
theorem dX8_billionths_26 : decode cX8_billionths 26 = .ok (.iload 4, 2) := by decide +kernel
theorem dX8_billionths_28 : decode cX8_billionths 28 = .ok (.bipush 22, 2) := by decide +kernel
theorem dX8_billionths_30 : decode cX8_billionths 30 = .ok (.if_icmp .ge 50, 3) := by decide +kernel
theorem dX8_billionths_33 : decode cX8_billionths 33 = .ok (.lload_n 2, 1) := by decide +kernel
theorem dX8_billionths_34 : decode cX8_billionths 34 = .ok (.ldc2_w 141, 3) := by decide +kernel
theorem dX8_billionths_37 : decode cX8_billionths 37 = .ok (.aload_n 0, 1) := by decide +kernel
theorem dX8_billionths_38 : decode cX8_billionths 38 = .ok (.getfield 32, 3) := by decide +kernel
theorem dX8_billionths_41 : decode cX8_billionths 41 = .ok (.sipush 902, 3) := by decide +kernel
theorem dX8_billionths_44 : decode cX8_billionths 44 = .ok (.iload 4, 2) := by decide +kernel
theorem dX8_billionths_46 : decode cX8_billionths 46 = .ok (.iadd, 1) := by decide +kernel
theorem dX8_billionths_47 : decode cX8_billionths 47 = .ok (.iaload, 1) := by decide +kernel
theorem dX8_billionths_48 : decode cX8_billionths 48 = .ok (.i2l, 1) := by decide +kernel
theorem dX8_billionths_49 : decode cX8_billionths 49 = .ok (.lmul, 1) := by decide +kernel
theorem dX8_billionths_50 : decode cX8_billionths 50 = .ok (.ladd, 1) := by decide +kernel
theorem dX8_billionths_51 : decode cX8_billionths 51 = .ok (.lstore_n 2, 1) := by decide +kernel
theorem dX8_billionths_52 : decode cX8_billionths 52 = .ok (.aload_n 0, 1) := by decide +kernel
theorem dX8_billionths_53 : decode cX8_billionths 53 = .ok (.getfield 32, 3) := by decide +kernel
theorem dX8_billionths_56 : decode cX8_billionths 56 = .ok (.sipush 902, 3) := by decide +kernel
theorem dX8_billionths_59 : decode cX8_billionths 59 = .ok (.iload 4, 2) := by decide +kernel
theorem dX8_billionths_61 : decode cX8_billionths 61 = .ok (.iadd, 1) := by decide +kernel
theorem dX8_billionths_62 : decode cX8_billionths 62 = .ok (.lload_n 2, 1) := by decide +kernel
theorem dX8_billionths_63 : decode cX8_billionths 63 = .ok (.ldc2_w 100, 3) := by decide +kernel
theorem dX8_billionths_66 : decode cX8_billionths 66 = .ok (.land, 1) := by decide +kernel
theorem dX8_billionths_67 : decode cX8_billionths 67 = .ok (.l2i, 1) := by decide +kernel
theorem dX8_billionths_68 : decode cX8_billionths 68 = .ok (.iastore, 1) := by decide +kernel
theorem dX8_billionths_69 : decode cX8_billionths 69 = .ok (.lload_n 2, 1) := by decide +kernel
theorem dX8_billionths_70 : decode cX8_billionths 70 = .ok (.bipush 24, 2) := by decide +kernel
theorem dX8_billionths_72 : decode cX8_billionths 72 = .ok (.lshr, 1) := by decide +kernel
theorem dX8_billionths_73 : decode cX8_billionths 73 = .ok (.lstore_n 2, 1) := by decide +kernel
theorem dX8_billionths_74 : decode cX8_billionths 74 = .ok (.iinc 4 1, 3) := by decide +kernel
theorem dX8_billionths_77 : decode cX8_billionths 77 = .ok (.goto (-51), 3) := by decide +kernel
theorem dX8_billionths_80 : decode cX8_billionths 80 = .ok (.aload_n 0, 1) := by decide +kernel
theorem dX8_billionths_81 : decode cX8_billionths 81 = .ok (.sipush 902, 3) := by decide +kernel
theorem dX8_billionths_84 : decode cX8_billionths 84 = .ok (.sipush 880, 3) := by decide +kernel
theorem dX8_billionths_87 : decode cX8_billionths 87 = .ok (.invokevirtual 124, 3) := by decide +kernel
theorem dX8_billionths_90 : decode cX8_billionths 90 = .ok (.aload_n 0, 1) := by decide +kernel
theorem dX8_billionths_91 : decode cX8_billionths 91 = .ok (.getfield 32, 3) := by decide +kernel
theorem dX8_billionths_94 : decode cX8_billionths 94 = .ok (.sipush 990, 3) := by decide +kernel
theorem dX8_billionths_97 : decode cX8_billionths 97 = .ok (.iaload, 1) := by decide +kernel
theorem dX8_billionths_98 : decode cX8_billionths 98 = .ok (.aload_n 0, 1) := by decide +kernel
theorem dX8_billionths_99 : decode cX8_billionths 99 = .ok (.getfield 32, 3) := by decide +kernel
theorem dX8_billionths_102 : decode cX8_billionths 102 = .ok (.sipush 991, 3) := by decide +kernel
theorem dX8_billionths_105 : decode cX8_billionths 105 = .ok (.iaload, 1) := by decide +kernel
theorem dX8_billionths_106 : decode cX8_billionths 106 = .ok (.bipush 24, 2) := by decide +kernel
theorem dX8_billionths_108 : decode cX8_billionths 108 = .ok (.ishl, 1) := by decide +kernel
theorem dX8_billionths_109 : decode cX8_billionths 109 = .ok (.ior, 1) := by decide +kernel
theorem dX8_billionths_110 : decode cX8_billionths 110 = .ok (.ireturn, 1) := by decide +kernel
abbrev cX8_places : ByteArray := prog_10_method_30_code
def yX8_places : MethodName := ⟨"ChainDeskModel", "places", "(II)I"⟩
def wX8_places : List Cond := .code yX8_places cX8_places 5 (Option.some Jvm.ClassFile.FieldType.int) :: WG
theorem dX8_places_0 : decode cX8_places 0 = .ok (.aload_n 0, 1) := by decide +kernel
theorem dX8_places_1 : decode cX8_places 1 = .ok (.iload_n 1, 1) := by decide +kernel
theorem dX8_places_2 : decode cX8_places 2 = .ok (.invokevirtual 129, 3) := by decide +kernel
theorem dX8_places_5 : decode cX8_places 5 = .ok (.ifCond .ne 12, 3) := by decide +kernel
theorem dX8_places_8 : decode cX8_places 8 = .ok (.iload_n 2, 1) := by decide +kernel
theorem dX8_places_9 : decode cX8_places 9 = .ok (.ifCond .lt 8, 3) := by decide +kernel
theorem dX8_places_12 : decode cX8_places 12 = .ok (.iload_n 2, 1) := by decide +kernel
theorem dX8_places_13 : decode cX8_places 13 = .ok (.iconst 1, 1) := by decide +kernel
theorem dX8_places_14 : decode cX8_places 14 = .ok (.if_icmp .le 5, 3) := by decide +kernel
theorem dX8_places_17 : decode cX8_places 17 = .ok (.iconst (-1), 1) := by decide +kernel
theorem dX8_places_18 : decode cX8_places 18 = .ok (.ireturn, 1) := by decide +kernel
theorem dX8_places_19 : decode cX8_places 19 = .ok (.aload_n 0, 1) := by decide +kernel
theorem dX8_places_20 : decode cX8_places 20 = .ok (.iload_n 1, 1) := by decide +kernel
theorem dX8_places_21 : decode cX8_places 21 = .ok (.invokevirtual 132, 3) := by decide +kernel
theorem dX8_places_24 : decode cX8_places 24 = .ok (.iload_n 2, 1) := by decide +kernel
theorem dX8_places_25 : decode cX8_places 25 = .ok (.ifCond .ne 9, 3) := by decide +kernel
theorem dX8_places_28 : decode cX8_places 28 = .ok (.sipush 902, 3) := by decide +kernel
theorem dX8_places_31 : decode cX8_places 31 = .ok (.goto 6, 3) := by decide +kernel
theorem dX8_places_34 : decode cX8_places 34 = .ok (.sipush 924, 3) := by decide +kernel
theorem dX8_places_37 : decode cX8_places 37 = .ok (.istore_n 3, 1) := by decide +kernel
theorem dX8_places_38 : decode cX8_places 38 = .ok (.sipush 527, 3) := by decide +kernel
theorem dX8_places_41 : decode cX8_places 41 = .ok (.istore 4, 2) := by decide +kernel
theorem dX8_places_43 : decode cX8_places 43 = .ok (.iload 4, 2) := by decide +kernel
theorem dX8_places_45 : decode cX8_places 45 = .ok (.ifCond .lt 32, 3) := by decide +kernel
theorem dX8_places_48 : decode cX8_places 48 = .ok (.aload_n 0, 1) := by decide +kernel
theorem dX8_places_49 : decode cX8_places 49 = .ok (.getfield 32, 3) := by decide +kernel
theorem dX8_places_52 : decode cX8_places 52 = .ok (.iload_n 3, 1) := by decide +kernel
theorem dX8_places_53 : decode cX8_places 53 = .ok (.iload 4, 2) := by decide +kernel
theorem dX8_places_55 : decode cX8_places 55 = .ok (.bipush 24, 2) := by decide +kernel
theorem dX8_places_57 : decode cX8_places 57 = .ok (.idiv, 1) := by decide +kernel
theorem dX8_places_58 : decode cX8_places 58 = .ok (.iadd, 1) := by decide +kernel
theorem dX8_places_59 : decode cX8_places 59 = .ok (.iaload, 1) := by decide +kernel
theorem dX8_places_60 : decode cX8_places 60 = .ok (.iload 4, 2) := by decide +kernel
theorem dX8_places_62 : decode cX8_places 62 = .ok (.bipush 24, 2) := by decide +kernel
theorem dX8_places_64 : decode cX8_places 64 = .ok (.irem, 1) := by decide +kernel
theorem dX8_places_65 : decode cX8_places 65 = .ok (.ishr, 1) := by decide +kernel
theorem dX8_places_66 : decode cX8_places 66 = .ok (.iconst 1, 1) := by decide +kernel
theorem dX8_places_67 : decode cX8_places 67 = .ok (.iand, 1) := by decide +kernel
theorem dX8_places_68 : decode cX8_places 68 = .ok (.ifCond .ne 9, 3) := by decide +kernel
theorem dX8_places_71 : decode cX8_places 71 = .ok (.iinc 4 (-1), 3) := by decide +kernel
theorem dX8_places_74 : decode cX8_places 74 = .ok (.goto (-31), 3) := by decide +kernel
theorem dX8_places_77 : decode cX8_places 77 = .ok (.iload 4, 2) := by decide +kernel
theorem dX8_places_79 : decode cX8_places 79 = .ok (.iconst 1, 1) := by decide +kernel
theorem dX8_places_80 : decode cX8_places 80 = .ok (.iadd, 1) := by decide +kernel
theorem dX8_places_81 : decode cX8_places 81 = .ok (.ireturn, 1) := by decide +kernel
